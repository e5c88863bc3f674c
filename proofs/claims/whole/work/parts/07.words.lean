theorem q0 : Cond.selects RX11 yX11_readTape yX11_readTape ∈ sa_T := sa_at 0 (by decide +kernel) rfl
theorem q1 : Cond.selects RX7 yX7_skipBlanks yX7_skipBlanks ∈ sa_T := sa_at 1 (by decide +kernel) rfl
theorem q2 : Cond.selects RX1 yX1_readClause yX1_readClause ∈ sa_T := sa_at 2 (by decide +kernel) rfl
theorem q3 : Cond.selects RX1 yX1_isWhole yX1_isWhole ∈ sa_T := sa_at 3 (by decide +kernel) rfl
theorem q4 : Cond.selects RX1 yX1_areAtPlaces yX1_areAtPlaces ∈ sa_T := sa_at 4 (by decide +kernel) rfl
theorem q5 : Cond.selects RX2 yX2_readClause yX2_readClause ∈ sa_T := sa_at 5 (by decide +kernel) rfl
theorem q6 : Cond.selects RX2 yX2_readSum yX2_readSum ∈ sa_T := sa_at 6 (by decide +kernel) rfl
theorem q7 : Cond.selects RX2 yX2_readTerm yX2_readTerm ∈ sa_T := sa_at 7 (by decide +kernel) rfl
theorem q8 : Cond.selects RX2 yX2_readAtom yX2_readAtom ∈ sa_T := sa_at 8 (by decide +kernel) rfl
theorem q9 : Cond.selects RX2 yX2_add yX2_add ∈ sa_T := sa_at 9 (by decide +kernel) rfl
theorem q10 : Cond.selects RX2 yX2_readCondition yX2_readCondition ∈ sa_T := sa_at 10 (by decide +kernel) rfl
theorem q11 : Cond.selects RX2 yX2_readTruth yX2_readTruth ∈ sa_T := sa_at 11 (by decide +kernel) rfl
theorem q12 : Cond.selects RX2 yX2_readUnit yX2_readUnit ∈ sa_T := sa_at 12 (by decide +kernel) rfl
theorem q13 : Cond.selects RX4 yX4_readStep yX4_readStep ∈ sa_T := sa_at 13 (by decide +kernel) rfl
theorem q14 : Cond.selects RX11 yX11_isFull yX11_isFull ∈ sa_T := sa_at 14 (by decide +kernel) rfl
theorem q15 : Cond.selects RX11 yX11_settleLand yX11_settleLand ∈ sa_T := sa_at 15 (by decide +kernel) rfl
theorem q16 : Cond.selects RX1 yX1_drawWay yX1_drawWay ∈ sa_T := sa_at 16 (by decide +kernel) rfl
theorem q17 : Cond.selects RX0 yX0_set yX0_set ∈ sa_T := sa_at 17 (by decide +kernel) rfl
theorem q18 : Cond.selects RX11 yX11_act yX11_act ∈ sa_T := sa_at 18 (by decide +kernel) rfl
theorem q19 : Cond.selects RX11 yX11_obey yX11_obey ∈ sa_T := sa_at 19 (by decide +kernel) rfl
theorem q20 : Cond.selects RX0 yX0_letRain yX0_letRain ∈ sa_T := sa_at 20 (by decide +kernel) rfl
theorem q21 : Cond.selects RX0 yX0_isUnderRoof yX0_isUnderRoof ∈ sa_T := sa_at 21 (by decide +kernel) rfl
theorem q22 : Cond.selects RX0 yX0_lose yX0_lose ∈ sa_T := sa_at 22 (by decide +kernel) rfl
theorem q23 : Cond.selects RX0 yX0_letWalk yX0_letWalk ∈ sa_T := sa_at 23 (by decide +kernel) rfl
theorem q24 : Cond.selects RX0 yX0_throwBuckets yX0_throwBuckets ∈ sa_T := sa_at 24 (by decide +kernel) rfl
theorem q25 : Cond.selects RX0 yX0_lowestAt yX0_lowestAt ∈ sa_T := sa_at 25 (by decide +kernel) rfl
theorem q26 : Cond.selects RX0 yX0_letDewFall yX0_letDewFall ∈ sa_T := sa_at 26 (by decide +kernel) rfl
theorem q27 : Cond.selects RX11 yX11_hasOrders yX11_hasOrders ∈ sa_T := sa_at 27 (by decide +kernel) rfl
theorem q28 : Cond.selects RX11 yX11_findsJourney yX11_findsJourney ∈ sa_T := sa_at 28 (by decide +kernel) rfl
theorem q29 : Cond.selects RX9 yX9_findFrom yX9_findFrom ∈ sa_T := sa_at 29 (by decide +kernel) rfl
theorem q30 : Cond.selects RX9 yX9_setOutWith yX9_setOutWith ∈ sa_T := sa_at 30 (by decide +kernel) rfl
theorem q31 : Cond.selects RX9 yX9_putAll yX9_putAll ∈ sa_T := sa_at 31 (by decide +kernel) rfl
theorem q32 : Cond.selects RX9 yX9_walk yX9_walk ∈ sa_T := sa_at 32 (by decide +kernel) rfl
theorem q33 : Cond.selects RX9 yX9_commonPlaces yX9_commonPlaces ∈ sa_T := sa_at 33 (by decide +kernel) rfl
theorem q34 : Cond.selects RX9 yX9_walkWay yX9_walkWay ∈ sa_T := sa_at 34 (by decide +kernel) rfl
theorem q35 : Cond.selects RX9 yX9_letRain yX9_letRain ∈ sa_T := sa_at 35 (by decide +kernel) rfl
theorem q36 : Cond.selects RX9 yX9_meanAmbushedAt yX9_meanAmbushedAt ∈ sa_T := sa_at 36 (by decide +kernel) rfl
theorem q37 : Cond.selects RX10 yX10_rowsBehind yX10_rowsBehind ∈ sa_T := sa_at 37 (by decide +kernel) rfl
theorem q38 : Cond.selects RX8 yX8_isClearBeside yX8_isClearBeside ∈ sa_T := sa_at 38 (by decide +kernel) rfl
theorem q39 : Cond.selects RX8 yX8_addHour yX8_addHour ∈ sa_T := sa_at 39 (by decide +kernel) rfl
theorem q40 : Cond.selects RX8 yX8_compare yX8_compare ∈ sa_T := sa_at 40 (by decide +kernel) rfl
theorem q41 : Cond.selects RX0 yX0_knownBy yX0_knownBy ∈ sa_T := sa_at 41 (by decide +kernel) rfl
theorem q42 : Cond.selects RX0 yX0_talkingWith yX0_talkingWith ∈ sa_T := sa_at 42 (by decide +kernel) rfl
theorem q43 : Cond.selects RX0 yX0_isNearOne yX0_isNearOne ∈ sa_T := sa_at 43 (by decide +kernel) rfl
theorem q45 : Cond.selects RX12 yX12_put yX12_put ∈ sa_T := sa_at 45 (by decide +kernel) rfl
theorem q46 : Cond.selects RX12 yX12_readLand yX12_readLand ∈ sa_T := sa_at 46 (by decide +kernel) rfl
theorem q47 : Cond.selects RX12 yX12_starts yX12_starts ∈ sa_T := sa_at 47 (by decide +kernel) rfl
theorem q48 : Cond.selects RX12 yX12_readClause yX12_readClause ∈ sa_T := sa_at 48 (by decide +kernel) rfl
theorem q49 : Cond.selects RX12 yX12_look yX12_look ∈ sa_T := sa_at 49 (by decide +kernel) rfl
theorem q50 : Cond.selects RX12 yX12_fails yX12_fails ∈ sa_T := sa_at 50 (by decide +kernel) rfl
theorem q51 : Cond.selects RX12 yX12_readItems yX12_readItems ∈ sa_T := sa_at 51 (by decide +kernel) rfl
theorem q52 : Cond.selects RX12 yX12_readItem yX12_readItem ∈ sa_T := sa_at 52 (by decide +kernel) rfl
theorem q53 : Cond.selects RX12 yX12_isDigit yX12_isDigit ∈ sa_T := sa_at 53 (by decide +kernel) rfl
theorem q54 : Cond.selects RX12 yX12_here yX12_here ∈ sa_T := sa_at 54 (by decide +kernel) rfl
theorem q55 : Cond.selects RX12 yX12_isWhole yX12_isWhole ∈ sa_T := sa_at 55 (by decide +kernel) rfl
theorem q56 : Cond.selects RX12 yX12_goThrough yX12_goThrough ∈ sa_T := sa_at 56 (by decide +kernel) rfl
theorem q57 : Cond.selects RX12 yX12_clause yX12_clause ∈ sa_T := sa_at 57 (by decide +kernel) rfl
theorem q58 : Cond.selects RX12 yX12_takes yX12_takes ∈ sa_T := sa_at 58 (by decide +kernel) rfl
theorem q59 : Cond.selects RX12 yX12_condition yX12_condition ∈ sa_T := sa_at 59 (by decide +kernel) rfl
theorem q60 : Cond.selects RX12 yX12_part yX12_part ∈ sa_T := sa_at 60 (by decide +kernel) rfl
theorem q61 : Cond.selects RX12 yX12_compares yX12_compares ∈ sa_T := sa_at 61 (by decide +kernel) rfl
theorem q62 : Cond.selects RX12 yX12_sum yX12_sum ∈ sa_T := sa_at 62 (by decide +kernel) rfl
theorem q63 : Cond.selects RX12 yX12_term yX12_term ∈ sa_T := sa_at 63 (by decide +kernel) rfl
theorem q64 : Cond.selects RX12 yX12_atom yX12_atom ∈ sa_T := sa_at 64 (by decide +kernel) rfl
theorem q65 : Cond.selects RX12 yX12_goesIn yX12_goesIn ∈ sa_T := sa_at 65 (by decide +kernel) rfl
theorem q66 : Cond.selects RX12 yX12_unit yX12_unit ∈ sa_T := sa_at 66 (by decide +kernel) rfl
theorem q67 : Cond.selects RX12 yX12_readOrders yX12_readOrders ∈ sa_T := sa_at 67 (by decide +kernel) rfl
theorem q68 : Cond.selects RX12 yX12_readStep yX12_readStep ∈ sa_T := sa_at 68 (by decide +kernel) rfl
theorem q69 : Cond.selects RX12 yX12_digit yX12_digit ∈ sa_T := sa_at 69 (by decide +kernel) rfl
theorem q70 : Cond.selects RX12 yX12_isPlace yX12_isPlace ∈ sa_T := sa_at 70 (by decide +kernel) rfl
theorem q71 : Cond.selects RX12 yX12_wearOf yX12_wearOf ∈ sa_T := sa_at 71 (by decide +kernel) rfl
theorem q72 : Cond.selects RX12 yX12_wearBy yX12_wearBy ∈ sa_T := sa_at 72 (by decide +kernel) rfl
theorem q73 : Cond.selects RX12 yX12_canMarch yX12_canMarch ∈ sa_T := sa_at 73 (by decide +kernel) rfl
theorem q74 : Cond.selects RX12 yX12_wayOf yX12_wayOf ∈ sa_T := sa_at 74 (by decide +kernel) rfl
theorem q75 : Cond.selects RX12 yX12_remember yX12_remember ∈ sa_T := sa_at 75 (by decide +kernel) rfl
theorem q76 : Cond.selects RX12 yX12_marches yX12_marches ∈ sa_T := sa_at 76 (by decide +kernel) rfl
theorem q77 : Cond.selects RX12 yX12_canJoin yX12_canJoin ∈ sa_T := sa_at 77 (by decide +kernel) rfl
theorem q78 : Cond.selects RX12 yX12_joins yX12_joins ∈ sa_T := sa_at 78 (by decide +kernel) rfl
theorem q79 : Cond.selects RX12 yX12_canDig yX12_canDig ∈ sa_T := sa_at 79 (by decide +kernel) rfl
theorem q80 : Cond.selects RX12 yX12_digs yX12_digs ∈ sa_T := sa_at 80 (by decide +kernel) rfl
theorem q81 : Cond.selects RX12 yX12_canCast yX12_canCast ∈ sa_T := sa_at 81 (by decide +kernel) rfl
theorem q82 : Cond.selects RX12 yX12_casts yX12_casts ∈ sa_T := sa_at 82 (by decide +kernel) rfl
theorem q83 : Cond.selects RX12 yX12_goHour yX12_goHour ∈ sa_T := sa_at 83 (by decide +kernel) rfl
theorem q84 : Cond.selects RX12 yX12_isRoofed yX12_isRoofed ∈ sa_T := sa_at 84 (by decide +kernel) rfl
theorem q85 : Cond.selects RX12 yX12_loses yX12_loses ∈ sa_T := sa_at 85 (by decide +kernel) rfl
theorem q86 : Cond.selects RX12 yX12_throwsAt yX12_throwsAt ∈ sa_T := sa_at 86 (by decide +kernel) rfl
theorem q87 : Cond.selects RX12 yX12_writes yX12_writes ∈ sa_T := sa_at 87 (by decide +kernel) rfl
theorem q88 : Cond.selects RX12 yX12_draw yX12_draw ∈ sa_T := sa_at 88 (by decide +kernel) rfl
theorem q89 : Cond.selects RX12 yX12_canStep yX12_canStep ∈ sa_T := sa_at 89 (by decide +kernel) rfl
theorem q90 : Cond.selects RX12 yX12_does yX12_does ∈ sa_T := sa_at 90 (by decide +kernel) rfl
theorem q91 : Cond.selects RX12 yX12_layBest yX12_layBest ∈ sa_T := sa_at 91 (by decide +kernel) rfl
theorem q92 : Cond.selects RX12 yX12_goJourneys yX12_goJourneys ∈ sa_T := sa_at 92 (by decide +kernel) rfl
theorem q93 : Cond.selects RX12 yX12_arrives yX12_arrives ∈ sa_T := sa_at 93 (by decide +kernel) rfl
theorem q94 : Cond.selects RX12 yX12_looksAtAmbush yX12_looksAtAmbush ∈ sa_T := sa_at 94 (by decide +kernel) rfl
theorem q95 : Cond.selects RX12 yX12_meanBy yX12_meanBy ∈ sa_T := sa_at 95 (by decide +kernel) rfl
theorem q96 : Cond.selects RX12 yX12_beginsParts yX12_beginsParts ∈ sa_T := sa_at 96 (by decide +kernel) rfl
theorem q97 : Cond.selects RX12 yX12_goPath yX12_goPath ∈ sa_T := sa_at 97 (by decide +kernel) rfl
theorem q98 : Cond.selects RX12 yX12_rainsOn yX12_rainsOn ∈ sa_T := sa_at 98 (by decide +kernel) rfl
theorem q99 : Cond.selects RX12 yX12_chanceAt yX12_chanceAt ∈ sa_T := sa_at 99 (by decide +kernel) rfl
theorem q100 : Cond.selects RX12 yX12_shifts yX12_shifts ∈ sa_T := sa_at 100 (by decide +kernel) rfl
theorem q101 : Cond.selects RX12 yX12_meanNow yX12_meanNow ∈ sa_T := sa_at 101 (by decide +kernel) rfl
theorem q102 : Cond.selects RX12 yX12_takesPath yX12_takesPath ∈ sa_T := sa_at 102 (by decide +kernel) rfl
theorem q103 : Cond.selects RX12 yX12_sureNow yX12_sureNow ∈ sa_T := sa_at 103 (by decide +kernel) rfl
theorem q104 : Cond.selects RX12 yX12_areNights yX12_areNights ∈ sa_T := sa_at 104 (by decide +kernel) rfl
theorem q105 : Cond.selects RX12 yX12_layPickets yX12_layPickets ∈ sa_T := sa_at 105 (by decide +kernel) rfl
theorem q106 : Cond.selects RX12 yX12_goPickets yX12_goPickets ∈ sa_T := sa_at 106 (by decide +kernel) rfl
theorem q107 : Cond.selects RX12 yX12_isSo yX12_isSo ∈ sa_T := sa_at 107 (by decide +kernel) rfl
theorem q108 : Cond.selects RX12 yX12_layApart yX12_layApart ∈ sa_T := sa_at 108 (by decide +kernel) rfl
theorem q109 : Cond.selects RX12 yX12_shortens yX12_shortens ∈ sa_T := sa_at 109 (by decide +kernel) rfl
theorem q110 : Cond.selects RX12 yX12_isNear yX12_isNear ∈ sa_T := sa_at 110 (by decide +kernel) rfl
theorem q111 : Cond.selects RX12 yX12_living yX12_living ∈ sa_T := sa_at 111 (by decide +kernel) rfl
theorem q112 : Cond.selects RX12 yX12_allGrains yX12_allGrains ∈ sa_T := sa_at 112 (by decide +kernel) rfl
theorem q114 : Cond.initialized RX11 ∈ sa_T := sa_at 114 (by decide +kernel) rfl
theorem q115 : Cond.initialized RX7 ∈ sa_T := sa_at 115 (by decide +kernel) rfl
theorem q116 : Cond.initialized RX1 ∈ sa_T := sa_at 116 (by decide +kernel) rfl
theorem q117 : Cond.initialized RX3 ∈ sa_T := sa_at 117 (by decide +kernel) rfl
theorem q118 : Cond.initialized RJ0 ∈ sa_T := sa_at 118 (by decide +kernel) rfl
theorem q119 : Cond.initialized RX2 ∈ sa_T := sa_at 119 (by decide +kernel) rfl
theorem q120 : Cond.initialized RX4 ∈ sa_T := sa_at 120 (by decide +kernel) rfl
theorem q121 : Cond.initialized RX0 ∈ sa_T := sa_at 121 (by decide +kernel) rfl
theorem q122 : Cond.initialized RX5 ∈ sa_T := sa_at 122 (by decide +kernel) rfl
theorem q123 : Cond.initialized RX6 ∈ sa_T := sa_at 123 (by decide +kernel) rfl
theorem q124 : Cond.initialized RJ7 ∈ sa_T := sa_at 124 (by decide +kernel) rfl
theorem q125 : Cond.initialized RX9 ∈ sa_T := sa_at 125 (by decide +kernel) rfl
theorem q126 : Cond.initialized RX8 ∈ sa_T := sa_at 126 (by decide +kernel) rfl
theorem q127 : Cond.initialized RX10 ∈ sa_T := sa_at 127 (by decide +kernel) rfl
theorem q128 : Cond.initialized RX12 ∈ sa_T := sa_at 128 (by decide +kernel) rfl
theorem q129 : Cond.initialized RJ1 ∈ sa_T := sa_at 129 (by decide +kernel) rfl
theorem q130 : Cond.initialized "java/lang/Math" ∈ sa_T := sa_at 130 (by decide +kernel) rfl
theorem q132 : Cond.initialized RJ3 ∈ sa_T := sa_at 132 (by decide +kernel) rfl
theorem q134 : Cond.initialized "java/lang/System" ∈ sa_T := sa_at 134 (by decide +kernel) rfl
theorem q201 : Cond.instanceMethod yJ0_length_8abf5 ∈ sa_T := sa_at 201 (by decide +kernel) rfl
theorem q202 : Cond.selects RJ0 yJ0_length_8abf5 yJ0_length_8abf5 ∈ sa_T := sa_at 202 (by decide +kernel) rfl
theorem q203 : Cond.code yJ0_length_8abf5 cJ0_length_8abf5 1 (some .int) ∈ sa_T := sa_at 203 (by decide +kernel) rfl
theorem q204 : Cond.methodLink RJ0 335 yJ0_coder_7d493 ∈ sa_T := sa_at 204 (by decide +kernel) rfl
theorem q205 : Cond.instanceMethod yJ0_coder_7d493 ∈ sa_T := sa_at 205 (by decide +kernel) rfl
theorem q206 : Cond.selects RJ0 yJ0_coder_7d493 yJ0_coder_7d493 ∈ sa_T := sa_at 206 (by decide +kernel) rfl
theorem q207 : Cond.code yJ0_coder_7d493 cJ0_coder_7d493 1 (some .byte) ∈ sa_T := sa_at 207 (by decide +kernel) rfl
theorem q208 : Cond.fieldLink RJ0 38 "java/lang/String" "COMPACT_STRINGS" "Z" ∈ sa_T := sa_at 208 (by decide +kernel) rfl
theorem q307 : Cond.methodLink RX6 15 yJ7_fill_53178 ∈ sa_T := sa_at 307 (by decide +kernel) rfl
theorem q308 : Cond.static yJ7_fill_53178 ∈ sa_T := sa_at 308 (by decide +kernel) rfl
theorem q309 : Cond.code yJ7_fill_53178 cJ7_fill_53178 4 none ∈ sa_T := sa_at 309 (by decide +kernel) rfl
theorem q466 : Cond.methodLink RX11 87 yX7_signsOf ∈ sa_T := sa_at 466 (by decide +kernel) rfl
theorem q467 : Cond.static yX7_signsOf ∈ sa_T := sa_at 467 (by decide +kernel) rfl
theorem q468 : Cond.code yX7_signsOf cX7_signsOf 3 (some .int) ∈ sa_T := sa_at 468 (by decide +kernel) rfl
theorem q469 : Cond.methodLink RX11 95 yX7_add ∈ sa_T := sa_at 469 (by decide +kernel) rfl
theorem q470 : Cond.instanceMethod yX7_add ∈ sa_T := sa_at 470 (by decide +kernel) rfl
theorem q471 : Cond.selects RX7 yX7_add yX7_add ∈ sa_T := sa_at 471 (by decide +kernel) rfl
theorem q472 : Cond.code yX7_add cX7_add 4 none ∈ sa_T := sa_at 472 (by decide +kernel) rfl
theorem q481 : Cond.methodLink RX11 99 yX11_readTape ∈ sa_T := sa_at 481 (by decide +kernel) rfl
theorem q483 : Cond.instanceMethod yX11_readTape ∈ sa_T := sa_at 483 (by decide +kernel) rfl
theorem q484 : Cond.code yX11_readTape cX11_readTape 2 (some .boolean) ∈ sa_T := sa_at 484 (by decide +kernel) rfl
theorem q485 : Cond.methodLink RX11 304 yX1_readFrom ∈ sa_T := sa_at 485 (by decide +kernel) rfl
theorem q486 : Cond.instanceMethod yX1_readFrom ∈ sa_T := sa_at 486 (by decide +kernel) rfl
theorem q487 : Cond.selects RX1 yX1_readFrom yX1_readFrom ∈ sa_T := sa_at 487 (by decide +kernel) rfl
theorem q488 : Cond.code yX1_readFrom cX1_readFrom 3 (some .boolean) ∈ sa_T := sa_at 488 (by decide +kernel) rfl
theorem q489 : Cond.methodLink RX1 45 yJ7_fill_53178 ∈ sa_T := sa_at 489 (by decide +kernel) rfl
theorem q490 : Cond.methodLink RX1 51 yX7_rewind ∈ sa_T := sa_at 490 (by decide +kernel) rfl
theorem q491 : Cond.instanceMethod yX7_rewind ∈ sa_T := sa_at 491 (by decide +kernel) rfl
theorem q492 : Cond.selects RX7 yX7_rewind yX7_rewind ∈ sa_T := sa_at 492 (by decide +kernel) rfl
theorem q493 : Cond.code yX7_rewind cX7_rewind 1 none ∈ sa_T := sa_at 493 (by decide +kernel) rfl
theorem q494 : Cond.methodLink RX7 22 yX7_skipBlanks ∈ sa_T := sa_at 494 (by decide +kernel) rfl
theorem q496 : Cond.instanceMethod yX7_skipBlanks ∈ sa_T := sa_at 496 (by decide +kernel) rfl
theorem q497 : Cond.code yX7_skipBlanks cX7_skipBlanks 1 none ∈ sa_T := sa_at 497 (by decide +kernel) rfl
theorem q498 : Cond.methodLink RX1 56 yX1_readClause ∈ sa_T := sa_at 498 (by decide +kernel) rfl
theorem q500 : Cond.instanceMethod yX1_readClause ∈ sa_T := sa_at 500 (by decide +kernel) rfl
theorem q501 : Cond.code yX1_readClause cX1_readClause 8 (some .boolean) ∈ sa_T := sa_at 501 (by decide +kernel) rfl
theorem q503 : Cond.methodLink RX1 72 yX7_sign ∈ sa_T := sa_at 503 (by decide +kernel) rfl
theorem q504 : Cond.instanceMethod yX7_sign ∈ sa_T := sa_at 504 (by decide +kernel) rfl
theorem q505 : Cond.selects RX7 yX7_sign yX7_sign ∈ sa_T := sa_at 505 (by decide +kernel) rfl
theorem q506 : Cond.code yX7_sign cX7_sign 1 (some .char) ∈ sa_T := sa_at 506 (by decide +kernel) rfl
theorem q507 : Cond.methodLink RX1 76 yJ0_indexOf_0f7a4 ∈ sa_T := sa_at 507 (by decide +kernel) rfl
theorem q508 : Cond.instanceMethod yJ0_indexOf_0f7a4 ∈ sa_T := sa_at 508 (by decide +kernel) rfl
theorem q509 : Cond.selects RJ0 yJ0_indexOf_0f7a4 yJ0_indexOf_0f7a4 ∈ sa_T := sa_at 509 (by decide +kernel) rfl
theorem q510 : Cond.code yJ0_indexOf_0f7a4 cJ0_indexOf_0f7a4 2 (some .int) ∈ sa_T := sa_at 510 (by decide +kernel) rfl
theorem q511 : Cond.methodLink RJ0 633 yJ0_indexOf_7cf53 ∈ sa_T := sa_at 511 (by decide +kernel) rfl
theorem q512 : Cond.instanceMethod yJ0_indexOf_7cf53 ∈ sa_T := sa_at 512 (by decide +kernel) rfl
theorem q513 : Cond.selects RJ0 yJ0_indexOf_7cf53 yJ0_indexOf_7cf53 ∈ sa_T := sa_at 513 (by decide +kernel) rfl
theorem q514 : Cond.code yJ0_indexOf_7cf53 cJ0_indexOf_7cf53 3 (some .int) ∈ sa_T := sa_at 514 (by decide +kernel) rfl
theorem q515 : Cond.methodLink RJ0 492 yJ0_isLatin1_aae02 ∈ sa_T := sa_at 515 (by decide +kernel) rfl
theorem q516 : Cond.instanceMethod yJ0_isLatin1_aae02 ∈ sa_T := sa_at 516 (by decide +kernel) rfl
theorem q517 : Cond.selects RJ0 yJ0_isLatin1_aae02 yJ0_isLatin1_aae02 ∈ sa_T := sa_at 517 (by decide +kernel) rfl
theorem q518 : Cond.code yJ0_isLatin1_aae02 cJ0_isLatin1_aae02 1 (some .boolean) ∈ sa_T := sa_at 518 (by decide +kernel) rfl
theorem q519 : Cond.methodLink RJ0 505 yJ0_length_8abf5 ∈ sa_T := sa_at 519 (by decide +kernel) rfl
theorem q520 : Cond.methodLink RJ0 637 yJ1_indexOf_4cfef ∈ sa_T := sa_at 520 (by decide +kernel) rfl
theorem q521 : Cond.static yJ1_indexOf_4cfef ∈ sa_T := sa_at 521 (by decide +kernel) rfl
theorem q522 : Cond.code yJ1_indexOf_4cfef cJ1_indexOf_4cfef 4 (some .int) ∈ sa_T := sa_at 522 (by decide +kernel) rfl
theorem q523 : Cond.methodLink RJ1 88 yJ1_canEncode_9a6ad ∈ sa_T := sa_at 523 (by decide +kernel) rfl
theorem q524 : Cond.static yJ1_canEncode_9a6ad ∈ sa_T := sa_at 524 (by decide +kernel) rfl
theorem q525 : Cond.code yJ1_canEncode_9a6ad cJ1_canEncode_9a6ad 1 (some .boolean) ∈ sa_T := sa_at 525 (by decide +kernel) rfl
theorem q526 : Cond.methodLink RJ1 92 Lib.Math.max.name ∈ sa_T := sa_at 526 (by decide +kernel) rfl
theorem q527 : Cond.static Lib.Math.max.name ∈ sa_T := sa_at 527 (by decide +kernel) rfl
theorem q528 : Cond.code Lib.Math.max.name Lib.Math.max.code 2 (some .int) ∈ sa_T := sa_at 528 (by decide +kernel) rfl
theorem q529 : Cond.methodLink RJ1 38 Lib.Math.min.name ∈ sa_T := sa_at 529 (by decide +kernel) rfl
theorem q530 : Cond.static Lib.Math.min.name ∈ sa_T := sa_at 530 (by decide +kernel) rfl
theorem q531 : Cond.code Lib.Math.min.name Lib.Math.min.code 2 (some .int) ∈ sa_T := sa_at 531 (by decide +kernel) rfl
theorem q532 : Cond.methodLink RJ1 95 yJ1_indexOfChar_4cfef ∈ sa_T := sa_at 532 (by decide +kernel) rfl
theorem q533 : Cond.static yJ1_indexOfChar_4cfef ∈ sa_T := sa_at 533 (by decide +kernel) rfl
theorem q534 : Cond.code yJ1_indexOfChar_4cfef cJ1_indexOfChar_4cfef 6 (some .int) ∈ sa_T := sa_at 534 (by decide +kernel) rfl
theorem q553 : Cond.fieldLink RJ0 1053 "jdk/internal/util/Preconditions" "SIOOBE_FORMATTER" "Ljava/util/function/BiFunction;" ∈ sa_T := sa_at 553 (by decide +kernel) rfl
theorem q584 : Cond.fieldLink RX1 82 "SaltArmy$Land" "MOST" "[I" ∈ sa_T := sa_at 584 (by decide +kernel) rfl
theorem q586 : Cond.methodLink RX1 85 yX7_pass ∈ sa_T := sa_at 586 (by decide +kernel) rfl
theorem q587 : Cond.instanceMethod yX7_pass ∈ sa_T := sa_at 587 (by decide +kernel) rfl
theorem q588 : Cond.selects RX7 yX7_pass yX7_pass ∈ sa_T := sa_at 588 (by decide +kernel) rfl
theorem q589 : Cond.code yX7_pass cX7_pass 1 none ∈ sa_T := sa_at 589 (by decide +kernel) rfl
theorem q590 : Cond.fieldLink RX1 88 "SaltArmy$Land" "USUAL" "[I" ∈ sa_T := sa_at 590 (by decide +kernel) rfl
theorem q592 : Cond.methodLink RX1 91 arraycopyName ∈ sa_T := sa_at 592 (by decide +kernel) rfl
theorem q593 : Cond.static arraycopyName ∈ sa_T := sa_at 593 (by decide +kernel) rfl
theorem q594 : Cond.native arraycopyName ∈ sa_T := sa_at 594 (by decide +kernel) rfl
theorem q595 : Cond.methodLink RX1 97 yX1_itemOf ∈ sa_T := sa_at 595 (by decide +kernel) rfl
theorem q596 : Cond.static yX1_itemOf ∈ sa_T := sa_at 596 (by decide +kernel) rfl
theorem q597 : Cond.code yX1_itemOf cX1_itemOf 3 (some .int) ∈ sa_T := sa_at 597 (by decide +kernel) rfl
theorem q598 : Cond.fieldLink RX1 110 "SaltArmy$Land" "ITEM_COUNTS" "[I" ∈ sa_T := sa_at 598 (by decide +kernel) rfl
theorem q601 : Cond.methodLink RX1 115 yJ0_charAt_5068e ∈ sa_T := sa_at 601 (by decide +kernel) rfl
theorem q602 : Cond.instanceMethod yJ0_charAt_5068e ∈ sa_T := sa_at 602 (by decide +kernel) rfl
theorem q603 : Cond.selects RJ0 yJ0_charAt_5068e yJ0_charAt_5068e ∈ sa_T := sa_at 603 (by decide +kernel) rfl
theorem q604 : Cond.code yJ0_charAt_5068e cJ0_charAt_5068e 2 (some .char) ∈ sa_T := sa_at 604 (by decide +kernel) rfl
theorem q605 : Cond.methodLink RJ0 495 yJ1_charAt_3b067 ∈ sa_T := sa_at 605 (by decide +kernel) rfl
theorem q606 : Cond.static yJ1_charAt_3b067 ∈ sa_T := sa_at 606 (by decide +kernel) rfl
theorem q607 : Cond.code yJ1_charAt_3b067 cJ1_charAt_3b067 2 (some .char) ∈ sa_T := sa_at 607 (by decide +kernel) rfl
theorem q608 : Cond.methodLink RJ1 9 yJ0_checkIndex_df160 ∈ sa_T := sa_at 608 (by decide +kernel) rfl
theorem q609 : Cond.static yJ0_checkIndex_df160 ∈ sa_T := sa_at 609 (by decide +kernel) rfl
theorem q610 : Cond.code yJ0_checkIndex_df160 cJ0_checkIndex_df160 2 none ∈ sa_T := sa_at 610 (by decide +kernel) rfl
theorem q611 : Cond.methodLink RJ0 1059 yJ3_checkIndex_8e157 ∈ sa_T := sa_at 611 (by decide +kernel) rfl
theorem q612 : Cond.static yJ3_checkIndex_8e157 ∈ sa_T := sa_at 612 (by decide +kernel) rfl
theorem q613 : Cond.code yJ3_checkIndex_8e157 cJ3_checkIndex_8e157 3 (some .int) ∈ sa_T := sa_at 613 (by decide +kernel) rfl
theorem q621 : Cond.fieldLink RX1 101 "SaltArmy$Land" "LOW" "[I" ∈ sa_T := sa_at 621 (by decide +kernel) rfl
theorem q623 : Cond.fieldLink RX1 104 "SaltArmy$Land" "HIGH" "[I" ∈ sa_T := sa_at 623 (by decide +kernel) rfl
theorem q625 : Cond.methodLink RX1 107 yX7_takeNumber ∈ sa_T := sa_at 625 (by decide +kernel) rfl
theorem q626 : Cond.instanceMethod yX7_takeNumber ∈ sa_T := sa_at 626 (by decide +kernel) rfl
theorem q627 : Cond.selects RX7 yX7_takeNumber yX7_takeNumber ∈ sa_T := sa_at 627 (by decide +kernel) rfl
theorem q628 : Cond.code yX7_takeNumber cX7_takeNumber 6 (some .int) ∈ sa_T := sa_at 628 (by decide +kernel) rfl
theorem q629 : Cond.methodLink RX7 25 yX7_sign ∈ sa_T := sa_at 629 (by decide +kernel) rfl
theorem q630 : Cond.methodLink RX7 29 yX7_isDigit ∈ sa_T := sa_at 630 (by decide +kernel) rfl
theorem q631 : Cond.static yX7_isDigit ∈ sa_T := sa_at 631 (by decide +kernel) rfl
theorem q632 : Cond.code yX7_isDigit cX7_isDigit 1 (some .boolean) ∈ sa_T := sa_at 632 (by decide +kernel) rfl
theorem q633 : Cond.methodLink RX1 60 yX7_isEnded ∈ sa_T := sa_at 633 (by decide +kernel) rfl
theorem q634 : Cond.instanceMethod yX7_isEnded ∈ sa_T := sa_at 634 (by decide +kernel) rfl
theorem q635 : Cond.selects RX7 yX7_isEnded yX7_isEnded ∈ sa_T := sa_at 635 (by decide +kernel) rfl
theorem q636 : Cond.code yX7_isEnded cX7_isEnded 1 (some .boolean) ∈ sa_T := sa_at 636 (by decide +kernel) rfl
theorem q637 : Cond.methodLink RX1 63 yX1_isWhole ∈ sa_T := sa_at 637 (by decide +kernel) rfl
theorem q639 : Cond.instanceMethod yX1_isWhole ∈ sa_T := sa_at 639 (by decide +kernel) rfl
theorem q640 : Cond.code yX1_isWhole cX1_isWhole 4 (some .boolean) ∈ sa_T := sa_at 640 (by decide +kernel) rfl
theorem q641 : Cond.methodLink RX1 31 yX1_cell ∈ sa_T := sa_at 641 (by decide +kernel) rfl
theorem q642 : Cond.instanceMethod yX1_cell ∈ sa_T := sa_at 642 (by decide +kernel) rfl
theorem q643 : Cond.selects RX1 yX1_cell yX1_cell ∈ sa_T := sa_at 643 (by decide +kernel) rfl
theorem q644 : Cond.code yX1_cell cX1_cell 4 (some .int) ∈ sa_T := sa_at 644 (by decide +kernel) rfl
theorem q645 : Cond.methodLink RX1 119 yX1_hasPlace ∈ sa_T := sa_at 645 (by decide +kernel) rfl
theorem q646 : Cond.instanceMethod yX1_hasPlace ∈ sa_T := sa_at 646 (by decide +kernel) rfl
theorem q647 : Cond.selects RX1 yX1_hasPlace yX1_hasPlace ∈ sa_T := sa_at 647 (by decide +kernel) rfl
theorem q648 : Cond.code yX1_hasPlace cX1_hasPlace 2 (some .boolean) ∈ sa_T := sa_at 648 (by decide +kernel) rfl
theorem q649 : Cond.methodLink RX1 122 yX1_areAtPlaces ∈ sa_T := sa_at 649 (by decide +kernel) rfl
theorem q651 : Cond.instanceMethod yX1_areAtPlaces ∈ sa_T := sa_at 651 (by decide +kernel) rfl
theorem q652 : Cond.code yX1_areAtPlaces cX1_areAtPlaces 4 (some .boolean) ∈ sa_T := sa_at 652 (by decide +kernel) rfl
theorem q653 : Cond.methodLink RX1 66 yX7_take ∈ sa_T := sa_at 653 (by decide +kernel) rfl
theorem q654 : Cond.instanceMethod yX7_take ∈ sa_T := sa_at 654 (by decide +kernel) rfl
theorem q655 : Cond.selects RX7 yX7_take yX7_take ∈ sa_T := sa_at 655 (by decide +kernel) rfl
theorem q656 : Cond.code yX7_take cX7_take 2 (some .boolean) ∈ sa_T := sa_at 656 (by decide +kernel) rfl
theorem q657 : Cond.methodLink RX11 312 yX2_readFrom ∈ sa_T := sa_at 657 (by decide +kernel) rfl
theorem q658 : Cond.instanceMethod yX2_readFrom ∈ sa_T := sa_at 658 (by decide +kernel) rfl
theorem q659 : Cond.selects RX2 yX2_readFrom yX2_readFrom ∈ sa_T := sa_at 659 (by decide +kernel) rfl
theorem q660 : Cond.code yX2_readFrom cX2_readFrom 3 (some .boolean) ∈ sa_T := sa_at 660 (by decide +kernel) rfl
theorem q661 : Cond.methodLink RX2 22 yX7_rewind ∈ sa_T := sa_at 661 (by decide +kernel) rfl
theorem q662 : Cond.methodLink RX2 25 yX2_readClause ∈ sa_T := sa_at 662 (by decide +kernel) rfl
theorem q664 : Cond.instanceMethod yX2_readClause ∈ sa_T := sa_at 664 (by decide +kernel) rfl
theorem q665 : Cond.code yX2_readClause cX2_readClause 4 (some .boolean) ∈ sa_T := sa_at 665 (by decide +kernel) rfl
theorem q666 : Cond.methodLink RX2 33 yX7_take ∈ sa_T := sa_at 666 (by decide +kernel) rfl
theorem q667 : Cond.methodLink RX2 37 yX7_sign ∈ sa_T := sa_at 667 (by decide +kernel) rfl
theorem q668 : Cond.methodLink RX2 41 yX2_readSum ∈ sa_T := sa_at 668 (by decide +kernel) rfl
theorem q670 : Cond.instanceMethod yX2_readSum ∈ sa_T := sa_at 670 (by decide +kernel) rfl
theorem q671 : Cond.code yX2_readSum cX2_readSum 5 (some .boolean) ∈ sa_T := sa_at 671 (by decide +kernel) rfl
theorem q672 : Cond.methodLink RX2 70 yX2_readTerm ∈ sa_T := sa_at 672 (by decide +kernel) rfl
theorem q674 : Cond.instanceMethod yX2_readTerm ∈ sa_T := sa_at 674 (by decide +kernel) rfl
theorem q675 : Cond.code yX2_readTerm cX2_readTerm 5 (some .boolean) ∈ sa_T := sa_at 675 (by decide +kernel) rfl
theorem q676 : Cond.methodLink RX2 73 yX2_readAtom ∈ sa_T := sa_at 676 (by decide +kernel) rfl
theorem q678 : Cond.instanceMethod yX2_readAtom ∈ sa_T := sa_at 678 (by decide +kernel) rfl
theorem q679 : Cond.code yX2_readAtom cX2_readAtom 5 (some .boolean) ∈ sa_T := sa_at 679 (by decide +kernel) rfl
theorem q680 : Cond.methodLink RX2 67 yX7_pass ∈ sa_T := sa_at 680 (by decide +kernel) rfl
theorem q682 : Cond.methodLink RX2 47 yJ0_indexOf_0f7a4 ∈ sa_T := sa_at 682 (by decide +kernel) rfl
theorem q683 : Cond.methodLink RX2 53 yX2_add ∈ sa_T := sa_at 683 (by decide +kernel) rfl
theorem q685 : Cond.instanceMethod yX2_add ∈ sa_T := sa_at 685 (by decide +kernel) rfl
theorem q686 : Cond.code yX2_add cX2_add 3 none ∈ sa_T := sa_at 686 (by decide +kernel) rfl
theorem q687 : Cond.constant RX2 78 1000000 ∈ sa_T := sa_at 687 (by decide +kernel) rfl
theorem q688 : Cond.methodLink RX2 79 yX7_takeNumber ∈ sa_T := sa_at 688 (by decide +kernel) rfl
theorem q689 : Cond.methodLink RX2 83 Lib.Math.max.name ∈ sa_T := sa_at 689 (by decide +kernel) rfl
theorem q691 : Cond.methodLink RX2 57 yX2_readCondition ∈ sa_T := sa_at 691 (by decide +kernel) rfl
theorem q693 : Cond.instanceMethod yX2_readCondition ∈ sa_T := sa_at 693 (by decide +kernel) rfl
theorem q694 : Cond.code yX2_readCondition cX2_readCondition 5 (some .boolean) ∈ sa_T := sa_at 694 (by decide +kernel) rfl
theorem q695 : Cond.methodLink RX2 61 yX2_readTruth ∈ sa_T := sa_at 695 (by decide +kernel) rfl
theorem q697 : Cond.instanceMethod yX2_readTruth ∈ sa_T := sa_at 697 (by decide +kernel) rfl
theorem q698 : Cond.code yX2_readTruth cX2_readTruth 5 (some .boolean) ∈ sa_T := sa_at 698 (by decide +kernel) rfl
theorem q699 : Cond.methodLink RX2 64 yX2_readUnit ∈ sa_T := sa_at 699 (by decide +kernel) rfl
theorem q701 : Cond.instanceMethod yX2_readUnit ∈ sa_T := sa_at 701 (by decide +kernel) rfl
theorem q702 : Cond.code yX2_readUnit cX2_readUnit 7 (some .boolean) ∈ sa_T := sa_at 702 (by decide +kernel) rfl
theorem q703 : Cond.methodLink RX2 29 yX7_isEnded ∈ sa_T := sa_at 703 (by decide +kernel) rfl
theorem q704 : Cond.methodLink RX11 315 yX4_readFrom ∈ sa_T := sa_at 704 (by decide +kernel) rfl
theorem q705 : Cond.instanceMethod yX4_readFrom ∈ sa_T := sa_at 705 (by decide +kernel) rfl
theorem q706 : Cond.selects RX4 yX4_readFrom yX4_readFrom ∈ sa_T := sa_at 706 (by decide +kernel) rfl
theorem q707 : Cond.code yX4_readFrom cX4_readFrom 2 (some .boolean) ∈ sa_T := sa_at 707 (by decide +kernel) rfl
theorem q708 : Cond.methodLink RX4 19 yX7_rewind ∈ sa_T := sa_at 708 (by decide +kernel) rfl
theorem q709 : Cond.methodLink RX4 24 yX4_readStep ∈ sa_T := sa_at 709 (by decide +kernel) rfl
theorem q711 : Cond.instanceMethod yX4_readStep ∈ sa_T := sa_at 711 (by decide +kernel) rfl
theorem q712 : Cond.code yX4_readStep cX4_readStep 5 (some .boolean) ∈ sa_T := sa_at 712 (by decide +kernel) rfl
theorem q714 : Cond.methodLink RX4 38 yX7_sign ∈ sa_T := sa_at 714 (by decide +kernel) rfl
theorem q715 : Cond.methodLink RX4 42 yJ0_indexOf_0f7a4 ∈ sa_T := sa_at 715 (by decide +kernel) rfl
theorem q716 : Cond.methodLink RX4 48 yX7_pass ∈ sa_T := sa_at 716 (by decide +kernel) rfl
theorem q717 : Cond.fieldLink RX4 51 "SaltArmy$Orders" "DIGITS" "[I" ∈ sa_T := sa_at 717 (by decide +kernel) rfl
theorem q719 : Cond.methodLink RX4 54 yX7_takeDigit ∈ sa_T := sa_at 719 (by decide +kernel) rfl
theorem q720 : Cond.instanceMethod yX7_takeDigit ∈ sa_T := sa_at 720 (by decide +kernel) rfl
theorem q721 : Cond.selects RX7 yX7_takeDigit yX7_takeDigit ∈ sa_T := sa_at 721 (by decide +kernel) rfl
theorem q722 : Cond.code yX7_takeDigit cX7_takeDigit 2 (some .int) ∈ sa_T := sa_at 722 (by decide +kernel) rfl
theorem q723 : Cond.methodLink RX7 33 yX7_pass ∈ sa_T := sa_at 723 (by decide +kernel) rfl
theorem q724 : Cond.methodLink RX4 28 yX7_isEnded ∈ sa_T := sa_at 724 (by decide +kernel) rfl
theorem q725 : Cond.methodLink RX4 32 yX7_take ∈ sa_T := sa_at 725 (by decide +kernel) rfl
theorem q730 : Cond.methodLink RX11 106 yX11_isFull ∈ sa_T := sa_at 730 (by decide +kernel) rfl
theorem q732 : Cond.instanceMethod yX11_isFull ∈ sa_T := sa_at 732 (by decide +kernel) rfl
theorem q733 : Cond.code yX11_isFull cX11_isFull 2 (some .boolean) ∈ sa_T := sa_at 733 (by decide +kernel) rfl
theorem q734 : Cond.methodLink RX11 109 yX11_settleLand ∈ sa_T := sa_at 734 (by decide +kernel) rfl
theorem q736 : Cond.instanceMethod yX11_settleLand ∈ sa_T := sa_at 736 (by decide +kernel) rfl
theorem q737 : Cond.code yX11_settleLand cX11_settleLand 2 (some .int) ∈ sa_T := sa_at 737 (by decide +kernel) rfl
theorem q738 : Cond.methodLink RX11 316 yX1_drawMaps ∈ sa_T := sa_at 738 (by decide +kernel) rfl
theorem q739 : Cond.instanceMethod yX1_drawMaps ∈ sa_T := sa_at 739 (by decide +kernel) rfl
theorem q740 : Cond.selects RX1 yX1_drawMaps yX1_drawMaps ∈ sa_T := sa_at 740 (by decide +kernel) rfl
theorem q741 : Cond.code yX1_drawMaps cX1_drawMaps 4 none ∈ sa_T := sa_at 741 (by decide +kernel) rfl
theorem q742 : Cond.methodLink RX1 126 yX1_drawWay ∈ sa_T := sa_at 742 (by decide +kernel) rfl
theorem q744 : Cond.instanceMethod yX1_drawWay ∈ sa_T := sa_at 744 (by decide +kernel) rfl
theorem q745 : Cond.code yX1_drawWay cX1_drawWay 3 none ∈ sa_T := sa_at 745 (by decide +kernel) rfl
theorem q746 : Cond.methodLink RX1 39 Lib.Math.min.name ∈ sa_T := sa_at 746 (by decide +kernel) rfl
theorem q747 : Cond.methodLink RX1 130 yX1_shorten ∈ sa_T := sa_at 747 (by decide +kernel) rfl
theorem q748 : Cond.static yX1_shorten ∈ sa_T := sa_at 748 (by decide +kernel) rfl
theorem q749 : Cond.code yX1_shorten cX1_shorten 5 none ∈ sa_T := sa_at 749 (by decide +kernel) rfl
theorem q750 : Cond.methodLink RX11 319 yX0_settleIn ∈ sa_T := sa_at 750 (by decide +kernel) rfl
theorem q751 : Cond.instanceMethod yX0_settleIn ∈ sa_T := sa_at 751 (by decide +kernel) rfl
theorem q752 : Cond.selects RX0 yX0_settleIn yX0_settleIn ∈ sa_T := sa_at 752 (by decide +kernel) rfl
theorem q753 : Cond.code yX0_settleIn cX0_settleIn 4 none ∈ sa_T := sa_at 753 (by decide +kernel) rfl
theorem q754 : Cond.methodLink RX0 21 yJ7_fill_53178 ∈ sa_T := sa_at 754 (by decide +kernel) rfl
theorem q755 : Cond.methodLink RX0 32 yX1_cell ∈ sa_T := sa_at 755 (by decide +kernel) rfl
theorem q756 : Cond.methodLink RX0 36 yX0_set ∈ sa_T := sa_at 756 (by decide +kernel) rfl
theorem q758 : Cond.instanceMethod yX0_set ∈ sa_T := sa_at 758 (by decide +kernel) rfl
theorem q759 : Cond.code yX0_set cX0_set 4 none ∈ sa_T := sa_at 759 (by decide +kernel) rfl
theorem q760 : Cond.methodLink RX11 323 yX5_forget ∈ sa_T := sa_at 760 (by decide +kernel) rfl
theorem q761 : Cond.instanceMethod yX5_forget ∈ sa_T := sa_at 761 (by decide +kernel) rfl
theorem q762 : Cond.selects RX5 yX5_forget yX5_forget ∈ sa_T := sa_at 762 (by decide +kernel) rfl
theorem q763 : Cond.code yX5_forget cX5_forget 1 none ∈ sa_T := sa_at 763 (by decide +kernel) rfl
theorem q764 : Cond.methodLink RX11 326 yX6_clear ∈ sa_T := sa_at 764 (by decide +kernel) rfl
theorem q765 : Cond.instanceMethod yX6_clear ∈ sa_T := sa_at 765 (by decide +kernel) rfl
theorem q766 : Cond.selects RX6 yX6_clear yX6_clear ∈ sa_T := sa_at 766 (by decide +kernel) rfl
theorem q767 : Cond.code yX6_clear cX6_clear 1 none ∈ sa_T := sa_at 767 (by decide +kernel) rfl
theorem q772 : Cond.methodLink RX11 117 yX1_hasPlace ∈ sa_T := sa_at 772 (by decide +kernel) rfl
theorem q773 : Cond.methodLink RX11 124 yX1_cell ∈ sa_T := sa_at 773 (by decide +kernel) rfl
theorem q790 : Cond.methodLink RX11 144 yX0_lives ∈ sa_T := sa_at 790 (by decide +kernel) rfl
theorem q791 : Cond.instanceMethod yX0_lives ∈ sa_T := sa_at 791 (by decide +kernel) rfl
theorem q792 : Cond.selects RX0 yX0_lives yX0_lives ∈ sa_T := sa_at 792 (by decide +kernel) rfl
theorem q793 : Cond.code yX0_lives cX0_lives 2 (some .boolean) ∈ sa_T := sa_at 793 (by decide +kernel) rfl
theorem q794 : Cond.methodLink RX0 40 yX0_hasCompany ∈ sa_T := sa_at 794 (by decide +kernel) rfl
theorem q795 : Cond.instanceMethod yX0_hasCompany ∈ sa_T := sa_at 795 (by decide +kernel) rfl
theorem q796 : Cond.selects RX0 yX0_hasCompany yX0_hasCompany ∈ sa_T := sa_at 796 (by decide +kernel) rfl
theorem q797 : Cond.code yX0_hasCompany cX0_hasCompany 2 (some .boolean) ∈ sa_T := sa_at 797 (by decide +kernel) rfl
theorem q798 : Cond.methodLink RX0 44 yX0_of ∈ sa_T := sa_at 798 (by decide +kernel) rfl
theorem q799 : Cond.instanceMethod yX0_of ∈ sa_T := sa_at 799 (by decide +kernel) rfl
theorem q800 : Cond.selects RX0 yX0_of yX0_of ∈ sa_T := sa_at 800 (by decide +kernel) rfl
theorem q801 : Cond.code yX0_of cX0_of 3 (some .int) ∈ sa_T := sa_at 801 (by decide +kernel) rfl
theorem q802 : Cond.methodLink RX11 147 yX0_lossByRain ∈ sa_T := sa_at 802 (by decide +kernel) rfl
theorem q803 : Cond.instanceMethod yX0_lossByRain ∈ sa_T := sa_at 803 (by decide +kernel) rfl
theorem q804 : Cond.selects RX0 yX0_lossByRain yX0_lossByRain ∈ sa_T := sa_at 804 (by decide +kernel) rfl
theorem q805 : Cond.code yX0_lossByRain cX0_lossByRain 5 (some .int) ∈ sa_T := sa_at 805 (by decide +kernel) rfl
theorem q806 : Cond.methodLink RX0 48 yX3_loss ∈ sa_T := sa_at 806 (by decide +kernel) rfl
theorem q807 : Cond.instanceMethod yX3_loss ∈ sa_T := sa_at 807 (by decide +kernel) rfl
theorem q808 : Cond.selects RX3 yX3_loss yX3_loss ∈ sa_T := sa_at 808 (by decide +kernel) rfl
theorem q809 : Cond.code yX3_loss cX3_loss 7 (some .int) ∈ sa_T := sa_at 809 (by decide +kernel) rfl
theorem q810 : Cond.methodLink RX3 37 yX2_worth ∈ sa_T := sa_at 810 (by decide +kernel) rfl
theorem q811 : Cond.instanceMethod yX2_worth ∈ sa_T := sa_at 811 (by decide +kernel) rfl
theorem q812 : Cond.selects RX2 yX2_worth yX2_worth ∈ sa_T := sa_at 812 (by decide +kernel) rfl
theorem q813 : Cond.code yX2_worth cX2_worth 12 (some .int) ∈ sa_T := sa_at 813 (by decide +kernel) rfl
theorem q814 : Cond.constantLong RX2 89 1000000 ∈ sa_T := sa_at 814 (by decide +kernel) rfl
theorem q815 : Cond.constantLong RX2 91 (-1000000) ∈ sa_T := sa_at 815 (by decide +kernel) rfl
theorem q816 : Cond.methodLink RX3 41 Lib.Math.min.name ∈ sa_T := sa_at 816 (by decide +kernel) rfl
theorem q817 : Cond.methodLink RX3 47 Lib.Math.max.name ∈ sa_T := sa_at 817 (by decide +kernel) rfl
theorem q822 : Cond.methodLink RX11 151 yX11_act ∈ sa_T := sa_at 822 (by decide +kernel) rfl
theorem q824 : Cond.instanceMethod yX11_act ∈ sa_T := sa_at 824 (by decide +kernel) rfl
theorem q825 : Cond.code yX11_act cX11_act 5 (some .int) ∈ sa_T := sa_at 825 (by decide +kernel) rfl
theorem q826 : Cond.methodLink RX11 157 yX1_isEmpty ∈ sa_T := sa_at 826 (by decide +kernel) rfl
theorem q827 : Cond.instanceMethod yX1_isEmpty ∈ sa_T := sa_at 827 (by decide +kernel) rfl
theorem q828 : Cond.selects RX1 yX1_isEmpty yX1_isEmpty ∈ sa_T := sa_at 828 (by decide +kernel) rfl
theorem q829 : Cond.code yX1_isEmpty cX1_isEmpty 1 (some .boolean) ∈ sa_T := sa_at 829 (by decide +kernel) rfl
theorem q830 : Cond.methodLink RX11 329 yX5_note ∈ sa_T := sa_at 830 (by decide +kernel) rfl
theorem q831 : Cond.instanceMethod yX5_note ∈ sa_T := sa_at 831 (by decide +kernel) rfl
theorem q832 : Cond.selects RX5 yX5_note yX5_note ∈ sa_T := sa_at 832 (by decide +kernel) rfl
theorem q833 : Cond.code yX5_note cX5_note 2 none ∈ sa_T := sa_at 833 (by decide +kernel) rfl
theorem q834 : Cond.methodLink RX5 33 yX0_copyFrom ∈ sa_T := sa_at 834 (by decide +kernel) rfl
theorem q835 : Cond.instanceMethod yX0_copyFrom ∈ sa_T := sa_at 835 (by decide +kernel) rfl
theorem q836 : Cond.selects RX0 yX0_copyFrom yX0_copyFrom ∈ sa_T := sa_at 836 (by decide +kernel) rfl
theorem q837 : Cond.code yX0_copyFrom cX0_copyFrom 2 none ∈ sa_T := sa_at 837 (by decide +kernel) rfl
theorem q838 : Cond.methodLink RX0 15 arraycopyName ∈ sa_T := sa_at 838 (by decide +kernel) rfl
theorem q839 : Cond.methodLink RX11 198 yX11_obey ∈ sa_T := sa_at 839 (by decide +kernel) rfl
theorem q841 : Cond.instanceMethod yX11_obey ∈ sa_T := sa_at 841 (by decide +kernel) rfl
theorem q842 : Cond.code yX11_obey cX11_obey 5 (some .int) ∈ sa_T := sa_at 842 (by decide +kernel) rfl
theorem q843 : Cond.methodLink RX11 335 yX0_setOut ∈ sa_T := sa_at 843 (by decide +kernel) rfl
theorem q844 : Cond.instanceMethod yX0_setOut ∈ sa_T := sa_at 844 (by decide +kernel) rfl
theorem q845 : Cond.selects RX0 yX0_setOut yX0_setOut ∈ sa_T := sa_at 845 (by decide +kernel) rfl
theorem q846 : Cond.code yX0_setOut cX0_setOut 6 (some .int) ∈ sa_T := sa_at 846 (by decide +kernel) rfl
theorem q847 : Cond.methodLink RX0 54 yX0_isAtPlace ∈ sa_T := sa_at 847 (by decide +kernel) rfl
theorem q848 : Cond.instanceMethod yX0_isAtPlace ∈ sa_T := sa_at 848 (by decide +kernel) rfl
theorem q849 : Cond.selects RX0 yX0_isAtPlace yX0_isAtPlace ∈ sa_T := sa_at 849 (by decide +kernel) rfl
theorem q850 : Cond.code yX0_isAtPlace cX0_isAtPlace 2 (some .boolean) ∈ sa_T := sa_at 850 (by decide +kernel) rfl
theorem q851 : Cond.methodLink RX0 57 yX1_hasPlace ∈ sa_T := sa_at 851 (by decide +kernel) rfl
theorem q852 : Cond.methodLink RX0 60 yX1_lowestWay ∈ sa_T := sa_at 852 (by decide +kernel) rfl
theorem q853 : Cond.instanceMethod yX1_lowestWay ∈ sa_T := sa_at 853 (by decide +kernel) rfl
theorem q854 : Cond.selects RX1 yX1_lowestWay yX1_lowestWay ∈ sa_T := sa_at 854 (by decide +kernel) rfl
theorem q855 : Cond.code yX1_lowestWay cX1_lowestWay 3 (some .int) ∈ sa_T := sa_at 855 (by decide +kernel) rfl
theorem q856 : Cond.methodLink RX11 339 yX0_unite ∈ sa_T := sa_at 856 (by decide +kernel) rfl
theorem q857 : Cond.instanceMethod yX0_unite ∈ sa_T := sa_at 857 (by decide +kernel) rfl
theorem q858 : Cond.selects RX0 yX0_unite yX0_unite ∈ sa_T := sa_at 858 (by decide +kernel) rfl
theorem q859 : Cond.code yX0_unite cX0_unite 5 (some .int) ∈ sa_T := sa_at 859 (by decide +kernel) rfl
theorem q860 : Cond.methodLink RX0 63 Lib.Math.min.name ∈ sa_T := sa_at 860 (by decide +kernel) rfl
theorem q861 : Cond.methodLink RX11 342 yX0_mine ∈ sa_T := sa_at 861 (by decide +kernel) rfl
theorem q862 : Cond.instanceMethod yX0_mine ∈ sa_T := sa_at 862 (by decide +kernel) rfl
theorem q863 : Cond.selects RX0 yX0_mine yX0_mine ∈ sa_T := sa_at 863 (by decide +kernel) rfl
theorem q864 : Cond.code yX0_mine cX0_mine 5 (some .int) ∈ sa_T := sa_at 864 (by decide +kernel) rfl
theorem q865 : Cond.methodLink RX11 345 yX0_castAnew ∈ sa_T := sa_at 865 (by decide +kernel) rfl
theorem q866 : Cond.instanceMethod yX0_castAnew ∈ sa_T := sa_at 866 (by decide +kernel) rfl
theorem q867 : Cond.selects RX0 yX0_castAnew yX0_castAnew ∈ sa_T := sa_at 867 (by decide +kernel) rfl
theorem q868 : Cond.code yX0_castAnew cX0_castAnew 6 (some .int) ∈ sa_T := sa_at 868 (by decide +kernel) rfl
theorem q869 : Cond.methodLink RX11 348 yX0_passHour ∈ sa_T := sa_at 869 (by decide +kernel) rfl
theorem q870 : Cond.instanceMethod yX0_passHour ∈ sa_T := sa_at 870 (by decide +kernel) rfl
theorem q871 : Cond.selects RX0 yX0_passHour yX0_passHour ∈ sa_T := sa_at 871 (by decide +kernel) rfl
theorem q872 : Cond.code yX0_passHour cX0_passHour 5 (some .int) ∈ sa_T := sa_at 872 (by decide +kernel) rfl
theorem q873 : Cond.methodLink RX0 75 yX0_letRain ∈ sa_T := sa_at 873 (by decide +kernel) rfl
theorem q875 : Cond.instanceMethod yX0_letRain ∈ sa_T := sa_at 875 (by decide +kernel) rfl
theorem q876 : Cond.code yX0_letRain cX0_letRain 5 none ∈ sa_T := sa_at 876 (by decide +kernel) rfl
theorem q877 : Cond.methodLink RX0 89 yX0_lives ∈ sa_T := sa_at 877 (by decide +kernel) rfl
theorem q878 : Cond.methodLink RX0 92 yX0_isUnderRoof ∈ sa_T := sa_at 878 (by decide +kernel) rfl
theorem q880 : Cond.instanceMethod yX0_isUnderRoof ∈ sa_T := sa_at 880 (by decide +kernel) rfl
theorem q881 : Cond.code yX0_isUnderRoof cX0_isUnderRoof 3 (some .boolean) ∈ sa_T := sa_at 881 (by decide +kernel) rfl
theorem q882 : Cond.methodLink RX0 107 yX1_hasRoof ∈ sa_T := sa_at 882 (by decide +kernel) rfl
theorem q883 : Cond.instanceMethod yX1_hasRoof ∈ sa_T := sa_at 883 (by decide +kernel) rfl
theorem q884 : Cond.selects RX1 yX1_hasRoof yX1_hasRoof ∈ sa_T := sa_at 884 (by decide +kernel) rfl
theorem q885 : Cond.code yX1_hasRoof cX1_hasRoof 2 (some .boolean) ∈ sa_T := sa_at 885 (by decide +kernel) rfl
theorem q886 : Cond.methodLink RX0 96 yX0_lossByRain ∈ sa_T := sa_at 886 (by decide +kernel) rfl
theorem q887 : Cond.methodLink RX0 100 yX0_lose ∈ sa_T := sa_at 887 (by decide +kernel) rfl
theorem q889 : Cond.instanceMethod yX0_lose ∈ sa_T := sa_at 889 (by decide +kernel) rfl
theorem q890 : Cond.code yX0_lose cX0_lose 5 none ∈ sa_T := sa_at 890 (by decide +kernel) rfl
theorem q891 : Cond.methodLink RX0 79 yX0_letWalk ∈ sa_T := sa_at 891 (by decide +kernel) rfl
theorem q893 : Cond.instanceMethod yX0_letWalk ∈ sa_T := sa_at 893 (by decide +kernel) rfl
theorem q894 : Cond.code yX0_letWalk cX0_letWalk 3 none ∈ sa_T := sa_at 894 (by decide +kernel) rfl
theorem q895 : Cond.methodLink RX0 83 yX0_throwBuckets ∈ sa_T := sa_at 895 (by decide +kernel) rfl
theorem q897 : Cond.instanceMethod yX0_throwBuckets ∈ sa_T := sa_at 897 (by decide +kernel) rfl
theorem q898 : Cond.code yX0_throwBuckets cX0_throwBuckets 5 none ∈ sa_T := sa_at 898 (by decide +kernel) rfl
theorem q899 : Cond.methodLink RX0 103 yX0_lowestAt ∈ sa_T := sa_at 899 (by decide +kernel) rfl
theorem q901 : Cond.instanceMethod yX0_lowestAt ∈ sa_T := sa_at 901 (by decide +kernel) rfl
theorem q902 : Cond.code yX0_lowestAt cX0_lowestAt 3 (some .int) ∈ sa_T := sa_at 902 (by decide +kernel) rfl
theorem q903 : Cond.methodLink RX0 86 yX0_letDewFall ∈ sa_T := sa_at 903 (by decide +kernel) rfl
theorem q905 : Cond.instanceMethod yX0_letDewFall ∈ sa_T := sa_at 905 (by decide +kernel) rfl
theorem q906 : Cond.code yX0_letDewFall cX0_letDewFall 3 none ∈ sa_T := sa_at 906 (by decide +kernel) rfl
theorem q907 : Cond.methodLink RX11 332 yX5_confirm ∈ sa_T := sa_at 907 (by decide +kernel) rfl
theorem q908 : Cond.instanceMethod yX5_confirm ∈ sa_T := sa_at 908 (by decide +kernel) rfl
theorem q909 : Cond.selects RX5 yX5_confirm yX5_confirm ∈ sa_T := sa_at 909 (by decide +kernel) rfl
theorem q910 : Cond.code yX5_confirm cX5_confirm 1 none ∈ sa_T := sa_at 910 (by decide +kernel) rfl
theorem q911 : Cond.methodLink RX5 37 Lib.Math.min.name ∈ sa_T := sa_at 911 (by decide +kernel) rfl
theorem q928 : Cond.methodLink RX11 154 yX1_allPlaces ∈ sa_T := sa_at 928 (by decide +kernel) rfl
theorem q929 : Cond.instanceMethod yX1_allPlaces ∈ sa_T := sa_at 929 (by decide +kernel) rfl
theorem q930 : Cond.selects RX1 yX1_allPlaces yX1_allPlaces ∈ sa_T := sa_at 930 (by decide +kernel) rfl
theorem q931 : Cond.code yX1_allPlaces cX1_allPlaces 1 (some .int) ∈ sa_T := sa_at 931 (by decide +kernel) rfl
theorem q932 : Cond.methodLink RX1 27 yX1_isEmpty ∈ sa_T := sa_at 932 (by decide +kernel) rfl
theorem q937 : Cond.constantLong RX11 161 6364136223846793005 ∈ sa_T := sa_at 937 (by decide +kernel) rfl
theorem q938 : Cond.constantLong RX11 163 1442695040888963407 ∈ sa_T := sa_at 938 (by decide +kernel) rfl
theorem q939 : Cond.constantLong RX11 165 100 ∈ sa_T := sa_at 939 (by decide +kernel) rfl
theorem q944 : Cond.methodLink RX11 167 yX5_takeBack ∈ sa_T := sa_at 944 (by decide +kernel) rfl
theorem q945 : Cond.instanceMethod yX5_takeBack ∈ sa_T := sa_at 945 (by decide +kernel) rfl
theorem q946 : Cond.selects RX5 yX5_takeBack yX5_takeBack ∈ sa_T := sa_at 946 (by decide +kernel) rfl
theorem q947 : Cond.code yX5_takeBack cX5_takeBack 2 (some .int) ∈ sa_T := sa_at 947 (by decide +kernel) rfl
theorem q952 : Cond.methodLink RX11 171 yX0_logSize ∈ sa_T := sa_at 952 (by decide +kernel) rfl
theorem q953 : Cond.instanceMethod yX0_logSize ∈ sa_T := sa_at 953 (by decide +kernel) rfl
theorem q954 : Cond.selects RX0 yX0_logSize yX0_logSize ∈ sa_T := sa_at 954 (by decide +kernel) rfl
theorem q955 : Cond.code yX0_logSize cX0_logSize 1 (some .int) ∈ sa_T := sa_at 955 (by decide +kernel) rfl
theorem q956 : Cond.methodLink RX11 174 yX0_logged ∈ sa_T := sa_at 956 (by decide +kernel) rfl
theorem q957 : Cond.instanceMethod yX0_logged ∈ sa_T := sa_at 957 (by decide +kernel) rfl
theorem q958 : Cond.selects RX0 yX0_logged yX0_logged ∈ sa_T := sa_at 958 (by decide +kernel) rfl
theorem q959 : Cond.code yX0_logged cX0_logged 3 (some .int) ∈ sa_T := sa_at 959 (by decide +kernel) rfl
theorem q964 : Cond.methodLink RX11 177 yX11_hasOrders ∈ sa_T := sa_at 964 (by decide +kernel) rfl
theorem q966 : Cond.instanceMethod yX11_hasOrders ∈ sa_T := sa_at 966 (by decide +kernel) rfl
theorem q967 : Cond.code yX11_hasOrders cX11_hasOrders 2 (some .boolean) ∈ sa_T := sa_at 967 (by decide +kernel) rfl
theorem q968 : Cond.methodLink RX11 181 yX4_part ∈ sa_T := sa_at 968 (by decide +kernel) rfl
theorem q969 : Cond.instanceMethod yX4_part ∈ sa_T := sa_at 969 (by decide +kernel) rfl
theorem q970 : Cond.selects RX4 yX4_part yX4_part ∈ sa_T := sa_at 970 (by decide +kernel) rfl
theorem q971 : Cond.code yX4_part cX4_part 3 (some .int) ∈ sa_T := sa_at 971 (by decide +kernel) rfl
theorem q976 : Cond.constant RX11 184 (-1000000) ∈ sa_T := sa_at 976 (by decide +kernel) rfl
theorem q977 : Cond.methodLink RX11 185 yX0_copyFrom ∈ sa_T := sa_at 977 (by decide +kernel) rfl
theorem q978 : Cond.methodLink RX11 189 yX4_act ∈ sa_T := sa_at 978 (by decide +kernel) rfl
theorem q979 : Cond.instanceMethod yX4_act ∈ sa_T := sa_at 979 (by decide +kernel) rfl
theorem q980 : Cond.selects RX4 yX4_act yX4_act ∈ sa_T := sa_at 980 (by decide +kernel) rfl
theorem q981 : Cond.code yX4_act cX4_act 2 (some .int) ∈ sa_T := sa_at 981 (by decide +kernel) rfl
theorem q982 : Cond.methodLink RX4 58 yX4_part ∈ sa_T := sa_at 982 (by decide +kernel) rfl
theorem q983 : Cond.methodLink RX4 62 Lib.Math.min.name ∈ sa_T := sa_at 983 (by decide +kernel) rfl
theorem q984 : Cond.methodLink RX11 191 yX4_first ∈ sa_T := sa_at 984 (by decide +kernel) rfl
theorem q985 : Cond.instanceMethod yX4_first ∈ sa_T := sa_at 985 (by decide +kernel) rfl
theorem q986 : Cond.selects RX4 yX4_first yX4_first ∈ sa_T := sa_at 986 (by decide +kernel) rfl
theorem q987 : Cond.code yX4_first cX4_first 3 (some .int) ∈ sa_T := sa_at 987 (by decide +kernel) rfl
theorem q988 : Cond.methodLink RX4 67 yX4_act ∈ sa_T := sa_at 988 (by decide +kernel) rfl
theorem q989 : Cond.methodLink RX4 70 yX1_allPlaces ∈ sa_T := sa_at 989 (by decide +kernel) rfl
theorem q990 : Cond.methodLink RX11 195 yX4_second ∈ sa_T := sa_at 990 (by decide +kernel) rfl
theorem q991 : Cond.instanceMethod yX4_second ∈ sa_T := sa_at 991 (by decide +kernel) rfl
theorem q992 : Cond.selects RX4 yX4_second yX4_second ∈ sa_T := sa_at 992 (by decide +kernel) rfl
theorem q993 : Cond.code yX4_second cX4_second 2 (some .int) ∈ sa_T := sa_at 993 (by decide +kernel) rfl
theorem q994 : Cond.methodLink RX4 75 Lib.Math.max.name ∈ sa_T := sa_at 994 (by decide +kernel) rfl
theorem q995 : Cond.methodLink RX11 202 yX0_livingGrains ∈ sa_T := sa_at 995 (by decide +kernel) rfl
theorem q996 : Cond.instanceMethod yX0_livingGrains ∈ sa_T := sa_at 996 (by decide +kernel) rfl
theorem q997 : Cond.selects RX0 yX0_livingGrains yX0_livingGrains ∈ sa_T := sa_at 997 (by decide +kernel) rfl
theorem q998 : Cond.code yX0_livingGrains cX0_livingGrains 3 (some .int) ∈ sa_T := sa_at 998 (by decide +kernel) rfl
theorem q1007 : Cond.methodLink RX11 205 yX6_tell ∈ sa_T := sa_at 1007 (by decide +kernel) rfl
theorem q1008 : Cond.instanceMethod yX6_tell ∈ sa_T := sa_at 1008 (by decide +kernel) rfl
theorem q1009 : Cond.selects RX6 yX6_tell yX6_tell ∈ sa_T := sa_at 1009 (by decide +kernel) rfl
theorem q1010 : Cond.code yX6_tell cX6_tell 4 (some .int) ∈ sa_T := sa_at 1010 (by decide +kernel) rfl
theorem q1015 : Cond.methodLink RX11 209 yX11_findsJourney ∈ sa_T := sa_at 1015 (by decide +kernel) rfl
theorem q1017 : Cond.instanceMethod yX11_findsJourney ∈ sa_T := sa_at 1017 (by decide +kernel) rfl
theorem q1018 : Cond.code yX11_findsJourney cX11_findsJourney 3 (some .boolean) ∈ sa_T := sa_at 1018 (by decide +kernel) rfl
theorem q1019 : Cond.methodLink RX11 228 yX9_find ∈ sa_T := sa_at 1019 (by decide +kernel) rfl
theorem q1020 : Cond.instanceMethod yX9_find ∈ sa_T := sa_at 1020 (by decide +kernel) rfl
theorem q1021 : Cond.selects RX9 yX9_find yX9_find ∈ sa_T := sa_at 1021 (by decide +kernel) rfl
theorem q1022 : Cond.code yX9_find cX9_find 5 (some .boolean) ∈ sa_T := sa_at 1022 (by decide +kernel) rfl
theorem q1023 : Cond.methodLink RX9 45 yX0_isAtPlace ∈ sa_T := sa_at 1023 (by decide +kernel) rfl
theorem q1024 : Cond.methodLink RX9 51 yX1_hasPlace ∈ sa_T := sa_at 1024 (by decide +kernel) rfl
theorem q1025 : Cond.methodLink RX9 56 yX0_of ∈ sa_T := sa_at 1025 (by decide +kernel) rfl
theorem q1026 : Cond.methodLink RX9 82 yX9_findFrom ∈ sa_T := sa_at 1026 (by decide +kernel) rfl
theorem q1028 : Cond.instanceMethod yX9_findFrom ∈ sa_T := sa_at 1028 (by decide +kernel) rfl
theorem q1029 : Cond.code yX9_findFrom cX9_findFrom 5 none ∈ sa_T := sa_at 1029 (by decide +kernel) rfl
theorem q1030 : Cond.methodLink RX9 94 arraycopyName ∈ sa_T := sa_at 1030 (by decide +kernel) rfl
theorem q1031 : Cond.methodLink RX9 103 yX1_lowestWay ∈ sa_T := sa_at 1031 (by decide +kernel) rfl
theorem q1032 : Cond.methodLink RX9 86 yX9_setOutWith ∈ sa_T := sa_at 1032 (by decide +kernel) rfl
theorem q1034 : Cond.instanceMethod yX9_setOutWith ∈ sa_T := sa_at 1034 (by decide +kernel) rfl
theorem q1035 : Cond.code yX9_setOutWith cX9_setOutWith 2 none ∈ sa_T := sa_at 1035 (by decide +kernel) rfl
theorem q1036 : Cond.methodLink RX9 90 yX9_putAll ∈ sa_T := sa_at 1036 (by decide +kernel) rfl
theorem q1038 : Cond.instanceMethod yX9_putAll ∈ sa_T := sa_at 1038 (by decide +kernel) rfl
theorem q1039 : Cond.code yX9_putAll cX9_putAll 2 none ∈ sa_T := sa_at 1039 (by decide +kernel) rfl
theorem q1040 : Cond.methodLink RX9 109 yJ7_fill_d0a16 ∈ sa_T := sa_at 1040 (by decide +kernel) rfl
theorem q1041 : Cond.static yJ7_fill_d0a16 ∈ sa_T := sa_at 1041 (by decide +kernel) rfl
theorem q1042 : Cond.code yJ7_fill_d0a16 cJ7_fill_d0a16 5 none ∈ sa_T := sa_at 1042 (by decide +kernel) rfl
theorem q1043 : Cond.constantLong RX9 115 1000000000 ∈ sa_T := sa_at 1043 (by decide +kernel) rfl
theorem q1044 : Cond.methodLink RX11 213 yX9_bestRow ∈ sa_T := sa_at 1044 (by decide +kernel) rfl
theorem q1045 : Cond.instanceMethod yX9_bestRow ∈ sa_T := sa_at 1045 (by decide +kernel) rfl
theorem q1046 : Cond.selects RX9 yX9_bestRow yX9_bestRow ∈ sa_T := sa_at 1046 (by decide +kernel) rfl
theorem q1047 : Cond.code yX9_bestRow cX9_bestRow 6 (some .int) ∈ sa_T := sa_at 1047 (by decide +kernel) rfl
theorem q1048 : Cond.methodLink RX9 128 yX9_hoursOf ∈ sa_T := sa_at 1048 (by decide +kernel) rfl
theorem q1049 : Cond.instanceMethod yX9_hoursOf ∈ sa_T := sa_at 1049 (by decide +kernel) rfl
theorem q1050 : Cond.selects RX9 yX9_hoursOf yX9_hoursOf ∈ sa_T := sa_at 1050 (by decide +kernel) rfl
theorem q1051 : Cond.code yX9_hoursOf cX9_hoursOf 4 (some .int) ∈ sa_T := sa_at 1051 (by decide +kernel) rfl
theorem q1052 : Cond.methodLink RX9 121 yX9_wayTo ∈ sa_T := sa_at 1052 (by decide +kernel) rfl
theorem q1053 : Cond.instanceMethod yX9_wayTo ∈ sa_T := sa_at 1053 (by decide +kernel) rfl
theorem q1054 : Cond.selects RX9 yX9_wayTo yX9_wayTo ∈ sa_T := sa_at 1054 (by decide +kernel) rfl
theorem q1055 : Cond.code yX9_wayTo cX9_wayTo 3 (some .int) ∈ sa_T := sa_at 1055 (by decide +kernel) rfl
theorem q1056 : Cond.methodLink RX9 117 yX9_placeOf ∈ sa_T := sa_at 1056 (by decide +kernel) rfl
theorem q1057 : Cond.instanceMethod yX9_placeOf ∈ sa_T := sa_at 1057 (by decide +kernel) rfl
theorem q1058 : Cond.selects RX9 yX9_placeOf yX9_placeOf ∈ sa_T := sa_at 1058 (by decide +kernel) rfl
theorem q1059 : Cond.code yX9_placeOf cX9_placeOf 3 (some .int) ∈ sa_T := sa_at 1059 (by decide +kernel) rfl
theorem q1060 : Cond.methodLink RX9 124 yX1_cell ∈ sa_T := sa_at 1060 (by decide +kernel) rfl
theorem q1061 : Cond.methodLink RX9 132 yX9_sureOf ∈ sa_T := sa_at 1061 (by decide +kernel) rfl
theorem q1062 : Cond.instanceMethod yX9_sureOf ∈ sa_T := sa_at 1062 (by decide +kernel) rfl
theorem q1063 : Cond.selects RX9 yX9_sureOf yX9_sureOf ∈ sa_T := sa_at 1063 (by decide +kernel) rfl
theorem q1064 : Cond.code yX9_sureOf cX9_sureOf 3 (some .int) ∈ sa_T := sa_at 1064 (by decide +kernel) rfl
theorem q1065 : Cond.methodLink RX9 141 yX9_walk ∈ sa_T := sa_at 1065 (by decide +kernel) rfl
theorem q1067 : Cond.instanceMethod yX9_walk ∈ sa_T := sa_at 1067 (by decide +kernel) rfl
theorem q1068 : Cond.code yX9_walk cX9_walk 4 none ∈ sa_T := sa_at 1068 (by decide +kernel) rfl
theorem q1069 : Cond.methodLink RX9 150 yX9_commonPlaces ∈ sa_T := sa_at 1069 (by decide +kernel) rfl
theorem q1071 : Cond.instanceMethod yX9_commonPlaces ∈ sa_T := sa_at 1071 (by decide +kernel) rfl
theorem q1072 : Cond.code yX9_commonPlaces cX9_commonPlaces 5 (some .int) ∈ sa_T := sa_at 1072 (by decide +kernel) rfl
theorem q1073 : Cond.methodLink RX9 157 Lib.Math.min.name ∈ sa_T := sa_at 1073 (by decide +kernel) rfl
theorem q1074 : Cond.methodLink RX9 153 yX9_walkWay ∈ sa_T := sa_at 1074 (by decide +kernel) rfl
theorem q1076 : Cond.instanceMethod yX9_walkWay ∈ sa_T := sa_at 1076 (by decide +kernel) rfl
theorem q1077 : Cond.code yX9_walkWay cX9_walkWay 8 (some .int) ∈ sa_T := sa_at 1077 (by decide +kernel) rfl
theorem q1078 : Cond.methodLink RX9 162 yX9_letRain ∈ sa_T := sa_at 1078 (by decide +kernel) rfl
theorem q1080 : Cond.instanceMethod yX9_letRain ∈ sa_T := sa_at 1080 (by decide +kernel) rfl
theorem q1081 : Cond.code yX9_letRain cX9_letRain 11 none ∈ sa_T := sa_at 1081 (by decide +kernel) rfl
theorem q1082 : Cond.methodLink RX9 170 yX6_chance ∈ sa_T := sa_at 1082 (by decide +kernel) rfl
theorem q1083 : Cond.instanceMethod yX6_chance ∈ sa_T := sa_at 1083 (by decide +kernel) rfl
theorem q1084 : Cond.selects RX6 yX6_chance yX6_chance ∈ sa_T := sa_at 1084 (by decide +kernel) rfl
theorem q1085 : Cond.code yX6_chance cX6_chance 5 (some .int) ∈ sa_T := sa_at 1085 (by decide +kernel) rfl
theorem q1086 : Cond.methodLink RX6 27 yX1_cell ∈ sa_T := sa_at 1086 (by decide +kernel) rfl
theorem q1087 : Cond.constantLong RX9 176 100 ∈ sa_T := sa_at 1087 (by decide +kernel) rfl
theorem q1088 : Cond.methodLink RX9 178 yX3_loss ∈ sa_T := sa_at 1088 (by decide +kernel) rfl
theorem q1089 : Cond.methodLink RX9 166 yX9_pour ∈ sa_T := sa_at 1089 (by decide +kernel) rfl
theorem q1090 : Cond.static yX9_pour ∈ sa_T := sa_at 1090 (by decide +kernel) rfl
theorem q1091 : Cond.code yX9_pour cX9_pour 5 none ∈ sa_T := sa_at 1091 (by decide +kernel) rfl
theorem q1092 : Cond.methodLink RX9 184 Lib.Math.max.name ∈ sa_T := sa_at 1092 (by decide +kernel) rfl
theorem q1093 : Cond.methodLink RX9 135 yX9_meanOf ∈ sa_T := sa_at 1093 (by decide +kernel) rfl
theorem q1094 : Cond.instanceMethod yX9_meanOf ∈ sa_T := sa_at 1094 (by decide +kernel) rfl
theorem q1095 : Cond.selects RX9 yX9_meanOf yX9_meanOf ∈ sa_T := sa_at 1095 (by decide +kernel) rfl
theorem q1096 : Cond.code yX9_meanOf cX9_meanOf 2 (some .int) ∈ sa_T := sa_at 1096 (by decide +kernel) rfl
theorem q1097 : Cond.methodLink RX9 144 yX9_mean ∈ sa_T := sa_at 1097 (by decide +kernel) rfl
theorem q1098 : Cond.static yX9_mean ∈ sa_T := sa_at 1098 (by decide +kernel) rfl
theorem q1099 : Cond.code yX9_mean cX9_mean 4 (some .int) ∈ sa_T := sa_at 1099 (by decide +kernel) rfl
theorem q1100 : Cond.constantLong RX9 148 1000000 ∈ sa_T := sa_at 1100 (by decide +kernel) rfl
theorem q1101 : Cond.methodLink RX9 138 yX9_leastMeanOf ∈ sa_T := sa_at 1101 (by decide +kernel) rfl
theorem q1102 : Cond.instanceMethod yX9_leastMeanOf ∈ sa_T := sa_at 1102 (by decide +kernel) rfl
theorem q1103 : Cond.selects RX9 yX9_leastMeanOf yX9_leastMeanOf ∈ sa_T := sa_at 1103 (by decide +kernel) rfl
theorem q1104 : Cond.code yX9_leastMeanOf cX9_leastMeanOf 4 (some .int) ∈ sa_T := sa_at 1104 (by decide +kernel) rfl
theorem q1105 : Cond.methodLink RX9 187 yX9_meanAmbushedAt ∈ sa_T := sa_at 1105 (by decide +kernel) rfl
theorem q1107 : Cond.instanceMethod yX9_meanAmbushedAt ∈ sa_T := sa_at 1107 (by decide +kernel) rfl
theorem q1108 : Cond.code yX9_meanAmbushedAt cX9_meanAmbushedAt 5 (some .int) ∈ sa_T := sa_at 1108 (by decide +kernel) rfl
theorem q1109 : Cond.methodLink RX11 216 yX9_meanOf ∈ sa_T := sa_at 1109 (by decide +kernel) rfl
theorem q1110 : Cond.methodLink RX11 219 yX9_sureOf ∈ sa_T := sa_at 1110 (by decide +kernel) rfl
theorem q1111 : Cond.methodLink RX11 222 yX9_hoursOf ∈ sa_T := sa_at 1111 (by decide +kernel) rfl
theorem q1112 : Cond.methodLink RX11 225 yX9_placeOrHidden ∈ sa_T := sa_at 1112 (by decide +kernel) rfl
theorem q1113 : Cond.instanceMethod yX9_placeOrHidden ∈ sa_T := sa_at 1113 (by decide +kernel) rfl
theorem q1114 : Cond.selects RX9 yX9_placeOrHidden yX9_placeOrHidden ∈ sa_T := sa_at 1114 (by decide +kernel) rfl
theorem q1115 : Cond.code yX9_placeOrHidden cX9_placeOrHidden 3 (some .int) ∈ sa_T := sa_at 1115 (by decide +kernel) rfl
theorem q1116 : Cond.constant RX9 120 (-1000000) ∈ sa_T := sa_at 1116 (by decide +kernel) rfl
theorem q1125 : Cond.methodLink RX11 235 yX9_bestWait ∈ sa_T := sa_at 1125 (by decide +kernel) rfl
theorem q1126 : Cond.instanceMethod yX9_bestWait ∈ sa_T := sa_at 1126 (by decide +kernel) rfl
theorem q1127 : Cond.selects RX9 yX9_bestWait yX9_bestWait ∈ sa_T := sa_at 1127 (by decide +kernel) rfl
theorem q1128 : Cond.code yX9_bestWait cX9_bestWait 5 (some .int) ∈ sa_T := sa_at 1128 (by decide +kernel) rfl
theorem q1129 : Cond.methodLink RX9 193 yX1_hasRoof ∈ sa_T := sa_at 1129 (by decide +kernel) rfl
theorem q1134 : Cond.methodLink RX11 241 yX9_worstPlace ∈ sa_T := sa_at 1134 (by decide +kernel) rfl
theorem q1135 : Cond.instanceMethod yX9_worstPlace ∈ sa_T := sa_at 1135 (by decide +kernel) rfl
theorem q1136 : Cond.selects RX9 yX9_worstPlace yX9_worstPlace ∈ sa_T := sa_at 1136 (by decide +kernel) rfl
theorem q1137 : Cond.code yX9_worstPlace cX9_worstPlace 7 (some .int) ∈ sa_T := sa_at 1137 (by decide +kernel) rfl
theorem q1138 : Cond.methodLink RX11 244 yX9_leastMeanOf ∈ sa_T := sa_at 1138 (by decide +kernel) rfl
theorem q1143 : Cond.methodLink RX11 247 yX11_areNights ∈ sa_T := sa_at 1143 (by decide +kernel) rfl
theorem q1144 : Cond.static yX11_areNights ∈ sa_T := sa_at 1144 (by decide +kernel) rfl
theorem q1145 : Cond.code yX11_areNights cX11_areNights 2 (some .boolean) ∈ sa_T := sa_at 1145 (by decide +kernel) rfl
theorem q1146 : Cond.methodLink RX11 250 yX10_set ∈ sa_T := sa_at 1146 (by decide +kernel) rfl
theorem q1147 : Cond.instanceMethod yX10_set ∈ sa_T := sa_at 1147 (by decide +kernel) rfl
theorem q1148 : Cond.selects RX10 yX10_set yX10_set ∈ sa_T := sa_at 1148 (by decide +kernel) rfl
theorem q1149 : Cond.code yX10_set cX10_set 6 none ∈ sa_T := sa_at 1149 (by decide +kernel) rfl
theorem q1150 : Cond.methodLink RX10 18 yJ7_fill_53178 ∈ sa_T := sa_at 1150 (by decide +kernel) rfl
theorem q1151 : Cond.methodLink RX10 24 yX0_lives ∈ sa_T := sa_at 1151 (by decide +kernel) rfl
theorem q1152 : Cond.methodLink RX10 30 yX0_of ∈ sa_T := sa_at 1152 (by decide +kernel) rfl
theorem q1153 : Cond.methodLink RX10 34 Lib.Math.max.name ∈ sa_T := sa_at 1153 (by decide +kernel) rfl
theorem q1154 : Cond.methodLink RX11 254 yX10_rows ∈ sa_T := sa_at 1154 (by decide +kernel) rfl
theorem q1155 : Cond.instanceMethod yX10_rows ∈ sa_T := sa_at 1155 (by decide +kernel) rfl
theorem q1156 : Cond.selects RX10 yX10_rows yX10_rows ∈ sa_T := sa_at 1156 (by decide +kernel) rfl
theorem q1157 : Cond.code yX10_rows cX10_rows 6 (some .int) ∈ sa_T := sa_at 1157 (by decide +kernel) rfl
theorem q1158 : Cond.methodLink RX10 39 Lib.Math.min.name ∈ sa_T := sa_at 1158 (by decide +kernel) rfl
theorem q1159 : Cond.fieldLink RX10 42 "SaltArmy$Watch" "CHOICES" "[I" ∈ sa_T := sa_at 1159 (by decide +kernel) rfl
theorem q1161 : Cond.methodLink RX11 257 yX10_row ∈ sa_T := sa_at 1161 (by decide +kernel) rfl
theorem q1162 : Cond.instanceMethod yX10_row ∈ sa_T := sa_at 1162 (by decide +kernel) rfl
theorem q1163 : Cond.selects RX10 yX10_row yX10_row ∈ sa_T := sa_at 1163 (by decide +kernel) rfl
theorem q1164 : Cond.code yX10_row cX10_row 8 (some .int) ∈ sa_T := sa_at 1164 (by decide +kernel) rfl
theorem q1165 : Cond.methodLink RX10 45 yX10_rowsBehind ∈ sa_T := sa_at 1165 (by decide +kernel) rfl
theorem q1167 : Cond.instanceMethod yX10_rowsBehind ∈ sa_T := sa_at 1167 (by decide +kernel) rfl
theorem q1168 : Cond.code yX10_rowsBehind cX10_rowsBehind 4 (some .int) ∈ sa_T := sa_at 1168 (by decide +kernel) rfl
theorem q1169 : Cond.methodLink RX10 48 yX10_rows ∈ sa_T := sa_at 1169 (by decide +kernel) rfl
theorem q1178 : Cond.methodLink RX11 260 yX8_tell ∈ sa_T := sa_at 1178 (by decide +kernel) rfl
theorem q1179 : Cond.instanceMethod yX8_tell ∈ sa_T := sa_at 1179 (by decide +kernel) rfl
theorem q1180 : Cond.selects RX8 yX8_tell yX8_tell ∈ sa_T := sa_at 1180 (by decide +kernel) rfl
theorem q1181 : Cond.code yX8_tell cX8_tell 3 (some .int) ∈ sa_T := sa_at 1181 (by decide +kernel) rfl
theorem q1186 : Cond.methodLink RX11 262 yX8_weigh ∈ sa_T := sa_at 1186 (by decide +kernel) rfl
theorem q1187 : Cond.instanceMethod yX8_weigh ∈ sa_T := sa_at 1187 (by decide +kernel) rfl
theorem q1188 : Cond.selects RX8 yX8_weigh yX8_weigh ∈ sa_T := sa_at 1188 (by decide +kernel) rfl
theorem q1189 : Cond.code yX8_weigh cX8_weigh 8 none ∈ sa_T := sa_at 1189 (by decide +kernel) rfl
theorem q1190 : Cond.methodLink RX8 31 yX8_isClearBeside ∈ sa_T := sa_at 1190 (by decide +kernel) rfl
theorem q1192 : Cond.instanceMethod yX8_isClearBeside ∈ sa_T := sa_at 1192 (by decide +kernel) rfl
theorem q1193 : Cond.code yX8_isClearBeside cX8_isClearBeside 5 (some .boolean) ∈ sa_T := sa_at 1193 (by decide +kernel) rfl
theorem q1194 : Cond.methodLink RX8 40 yX9_placesOf ∈ sa_T := sa_at 1194 (by decide +kernel) rfl
theorem q1195 : Cond.instanceMethod yX9_placesOf ∈ sa_T := sa_at 1195 (by decide +kernel) rfl
theorem q1196 : Cond.selects RX9 yX9_placesOf yX9_placesOf ∈ sa_T := sa_at 1196 (by decide +kernel) rfl
theorem q1197 : Cond.code yX9_placesOf cX9_placesOf 2 (some .int) ∈ sa_T := sa_at 1197 (by decide +kernel) rfl
theorem q1198 : Cond.methodLink RX8 44 yX9_placeOf ∈ sa_T := sa_at 1198 (by decide +kernel) rfl
theorem q1199 : Cond.methodLink RX8 48 yX9_wayTo ∈ sa_T := sa_at 1199 (by decide +kernel) rfl
theorem q1200 : Cond.methodLink RX8 57 yX1_cell ∈ sa_T := sa_at 1200 (by decide +kernel) rfl
theorem q1201 : Cond.methodLink RX8 61 yX8_addHour ∈ sa_T := sa_at 1201 (by decide +kernel) rfl
theorem q1203 : Cond.instanceMethod yX8_addHour ∈ sa_T := sa_at 1203 (by decide +kernel) rfl
theorem q1204 : Cond.code yX8_addHour cX8_addHour 6 none ∈ sa_T := sa_at 1204 (by decide +kernel) rfl
theorem q1205 : Cond.methodLink RX8 69 yX9_lossAt ∈ sa_T := sa_at 1205 (by decide +kernel) rfl
theorem q1206 : Cond.instanceMethod yX9_lossAt ∈ sa_T := sa_at 1206 (by decide +kernel) rfl
theorem q1207 : Cond.selects RX9 yX9_lossAt yX9_lossAt ∈ sa_T := sa_at 1207 (by decide +kernel) rfl
theorem q1208 : Cond.code yX9_lossAt cX9_lossAt 4 (some .int) ∈ sa_T := sa_at 1208 (by decide +kernel) rfl
theorem q1209 : Cond.methodLink RX8 65 yX8_compare ∈ sa_T := sa_at 1209 (by decide +kernel) rfl
theorem q1211 : Cond.instanceMethod yX8_compare ∈ sa_T := sa_at 1211 (by decide +kernel) rfl
theorem q1212 : Cond.code yX8_compare cX8_compare 6 none ∈ sa_T := sa_at 1212 (by decide +kernel) rfl
theorem q1213 : Cond.methodLink RX8 72 Lib.Math.max.name ∈ sa_T := sa_at 1213 (by decide +kernel) rfl
theorem q1214 : Cond.methodLink RX11 266 yX8_setsThatFit ∈ sa_T := sa_at 1214 (by decide +kernel) rfl
theorem q1215 : Cond.instanceMethod yX8_setsThatFit ∈ sa_T := sa_at 1215 (by decide +kernel) rfl
theorem q1216 : Cond.selects RX8 yX8_setsThatFit yX8_setsThatFit ∈ sa_T := sa_at 1216 (by decide +kernel) rfl
theorem q1217 : Cond.code yX8_setsThatFit cX8_setsThatFit 3 (some .int) ∈ sa_T := sa_at 1217 (by decide +kernel) rfl
theorem q1218 : Cond.methodLink RX11 269 yX8_setThatFits ∈ sa_T := sa_at 1218 (by decide +kernel) rfl
theorem q1219 : Cond.instanceMethod yX8_setThatFits ∈ sa_T := sa_at 1219 (by decide +kernel) rfl
theorem q1220 : Cond.selects RX8 yX8_setThatFits yX8_setThatFits ∈ sa_T := sa_at 1220 (by decide +kernel) rfl
theorem q1221 : Cond.code yX8_setThatFits cX8_setThatFits 4 (some .int) ∈ sa_T := sa_at 1221 (by decide +kernel) rfl
theorem q1226 : Cond.methodLink RX11 272 yX0_whoKnows ∈ sa_T := sa_at 1226 (by decide +kernel) rfl
theorem q1227 : Cond.instanceMethod yX0_whoKnows ∈ sa_T := sa_at 1227 (by decide +kernel) rfl
theorem q1228 : Cond.selects RX0 yX0_whoKnows yX0_whoKnows ∈ sa_T := sa_at 1228 (by decide +kernel) rfl
theorem q1229 : Cond.code yX0_whoKnows cX0_whoKnows 4 (some .int) ∈ sa_T := sa_at 1229 (by decide +kernel) rfl
theorem q1234 : Cond.methodLink RX11 275 yX0_howManyHear ∈ sa_T := sa_at 1234 (by decide +kernel) rfl
theorem q1235 : Cond.instanceMethod yX0_howManyHear ∈ sa_T := sa_at 1235 (by decide +kernel) rfl
theorem q1236 : Cond.selects RX0 yX0_howManyHear yX0_howManyHear ∈ sa_T := sa_at 1236 (by decide +kernel) rfl
theorem q1237 : Cond.code yX0_howManyHear cX0_howManyHear 6 (some .int) ∈ sa_T := sa_at 1237 (by decide +kernel) rfl
theorem q1238 : Cond.methodLink RX0 114 yX0_knownBy ∈ sa_T := sa_at 1238 (by decide +kernel) rfl
theorem q1240 : Cond.instanceMethod yX0_knownBy ∈ sa_T := sa_at 1240 (by decide +kernel) rfl
theorem q1241 : Cond.code yX0_knownBy cX0_knownBy 4 (some .int) ∈ sa_T := sa_at 1241 (by decide +kernel) rfl
theorem q1242 : Cond.methodLink RX0 117 yX0_talkingWith ∈ sa_T := sa_at 1242 (by decide +kernel) rfl
theorem q1244 : Cond.instanceMethod yX0_talkingWith ∈ sa_T := sa_at 1244 (by decide +kernel) rfl
theorem q1245 : Cond.code yX0_talkingWith cX0_talkingWith 7 (some .int) ∈ sa_T := sa_at 1245 (by decide +kernel) rfl
theorem q1246 : Cond.methodLink RX0 121 yX0_isNearOne ∈ sa_T := sa_at 1246 (by decide +kernel) rfl
theorem q1248 : Cond.instanceMethod yX0_isNearOne ∈ sa_T := sa_at 1248 (by decide +kernel) rfl
theorem q1249 : Cond.code yX0_isNearOne cX0_isNearOne 6 (some .boolean) ∈ sa_T := sa_at 1249 (by decide +kernel) rfl
theorem q1250 : Cond.methodLink RX0 125 yX1_isWithin ∈ sa_T := sa_at 1250 (by decide +kernel) rfl
theorem q1251 : Cond.instanceMethod yX1_isWithin ∈ sa_T := sa_at 1251 (by decide +kernel) rfl
theorem q1252 : Cond.selects RX1 yX1_isWithin yX1_isWithin ∈ sa_T := sa_at 1252 (by decide +kernel) rfl
theorem q1253 : Cond.code yX1_isWithin cX1_isWithin 4 (some .boolean) ∈ sa_T := sa_at 1253 (by decide +kernel) rfl
theorem q1258 : Cond.methodLink RX11 279 yX0_weakestOne ∈ sa_T := sa_at 1258 (by decide +kernel) rfl
theorem q1259 : Cond.instanceMethod yX0_weakestOne ∈ sa_T := sa_at 1259 (by decide +kernel) rfl
theorem q1260 : Cond.selects RX0 yX0_weakestOne yX0_weakestOne ∈ sa_T := sa_at 1260 (by decide +kernel) rfl
theorem q1261 : Cond.code yX0_weakestOne cX0_weakestOne 3 (some .int) ∈ sa_T := sa_at 1261 (by decide +kernel) rfl
theorem q1266 : Cond.methodLink RX11 282 yX1_hoursBetween ∈ sa_T := sa_at 1266 (by decide +kernel) rfl
theorem q1267 : Cond.instanceMethod yX1_hoursBetween ∈ sa_T := sa_at 1267 (by decide +kernel) rfl
theorem q1268 : Cond.selects RX1 yX1_hoursBetween yX1_hoursBetween ∈ sa_T := sa_at 1268 (by decide +kernel) rfl
theorem q1269 : Cond.code yX1_hoursBetween cX1_hoursBetween 4 (some .int) ∈ sa_T := sa_at 1269 (by decide +kernel) rfl
theorem q1274 : Cond.methodLink RX11 285 yX1_hoursToRoof ∈ sa_T := sa_at 1274 (by decide +kernel) rfl
theorem q1275 : Cond.instanceMethod yX1_hoursToRoof ∈ sa_T := sa_at 1275 (by decide +kernel) rfl
theorem q1276 : Cond.selects RX1 yX1_hoursToRoof yX1_hoursToRoof ∈ sa_T := sa_at 1276 (by decide +kernel) rfl
theorem q1277 : Cond.code yX1_hoursToRoof cX1_hoursToRoof 4 (some .int) ∈ sa_T := sa_at 1277 (by decide +kernel) rfl
theorem q1278 : Cond.methodLink RX1 35 yX1_hasRoof ∈ sa_T := sa_at 1278 (by decide +kernel) rfl
theorem q1283 : Cond.methodLink RX11 288 yX5_keepImage ∈ sa_T := sa_at 1283 (by decide +kernel) rfl
theorem q1284 : Cond.instanceMethod yX5_keepImage ∈ sa_T := sa_at 1284 (by decide +kernel) rfl
theorem q1285 : Cond.selects RX5 yX5_keepImage yX5_keepImage ∈ sa_T := sa_at 1285 (by decide +kernel) rfl
theorem q1286 : Cond.code yX5_keepImage cX5_keepImage 2 none ∈ sa_T := sa_at 1286 (by decide +kernel) rfl
theorem q1291 : Cond.methodLink RX11 291 yX5_goBack ∈ sa_T := sa_at 1291 (by decide +kernel) rfl
theorem q1292 : Cond.instanceMethod yX5_goBack ∈ sa_T := sa_at 1292 (by decide +kernel) rfl
theorem q1293 : Cond.selects RX5 yX5_goBack yX5_goBack ∈ sa_T := sa_at 1293 (by decide +kernel) rfl
theorem q1294 : Cond.code yX5_goBack cX5_goBack 2 (some .boolean) ∈ sa_T := sa_at 1294 (by decide +kernel) rfl
theorem q1299 : Cond.methodLink RX11 295 yX0_living ∈ sa_T := sa_at 1299 (by decide +kernel) rfl
theorem q1300 : Cond.instanceMethod yX0_living ∈ sa_T := sa_at 1300 (by decide +kernel) rfl
theorem q1301 : Cond.selects RX0 yX0_living yX0_living ∈ sa_T := sa_at 1301 (by decide +kernel) rfl
theorem q1302 : Cond.code yX0_living cX0_living 3 (some .int) ∈ sa_T := sa_at 1302 (by decide +kernel) rfl
theorem q1303 : Cond.methodLink RX11 298 yX0_allGrains ∈ sa_T := sa_at 1303 (by decide +kernel) rfl
theorem q1304 : Cond.instanceMethod yX0_allGrains ∈ sa_T := sa_at 1304 (by decide +kernel) rfl
theorem q1305 : Cond.selects RX0 yX0_allGrains yX0_allGrains ∈ sa_T := sa_at 1305 (by decide +kernel) rfl
theorem q1306 : Cond.code yX0_allGrains cX0_allGrains 3 (some .int) ∈ sa_T := sa_at 1306 (by decide +kernel) rfl
theorem q1307 : Cond.methodLink RX0 110 yX0_livingGrains ∈ sa_T := sa_at 1307 (by decide +kernel) rfl
theorem q1619 : Cond.methodLink RX12 142 yX12_bytesIn ∈ sa_T := sa_at 1619 (by decide +kernel) rfl
theorem q1620 : Cond.static yX12_bytesIn ∈ sa_T := sa_at 1620 (by decide +kernel) rfl
theorem q1621 : Cond.code yX12_bytesIn cX12_bytesIn 3 (some .int) ∈ sa_T := sa_at 1621 (by decide +kernel) rfl
theorem q1622 : Cond.methodLink RX12 146 yX12_put ∈ sa_T := sa_at 1622 (by decide +kernel) rfl
theorem q1624 : Cond.instanceMethod yX12_put ∈ sa_T := sa_at 1624 (by decide +kernel) rfl
theorem q1625 : Cond.code yX12_put cX12_put 3 none ∈ sa_T := sa_at 1625 (by decide +kernel) rfl
theorem q1631 : Cond.instanceMethod yX12_fault ∈ sa_T := sa_at 1631 (by decide +kernel) rfl
theorem q1632 : Cond.selects RX12 yX12_fault yX12_fault ∈ sa_T := sa_at 1632 (by decide +kernel) rfl
theorem q1633 : Cond.code yX12_fault cX12_fault 2 (some .int) ∈ sa_T := sa_at 1633 (by decide +kernel) rfl
theorem q1634 : Cond.constantLong RX12 312 2 ∈ sa_T := sa_at 1634 (by decide +kernel) rfl
theorem q1635 : Cond.methodLink RX12 248 yX12_isIn ∈ sa_T := sa_at 1635 (by decide +kernel) rfl
theorem q1636 : Cond.static yX12_isIn ∈ sa_T := sa_at 1636 (by decide +kernel) rfl
theorem q1637 : Cond.code yX12_isIn cX12_isIn 6 (some .boolean) ∈ sa_T := sa_at 1637 (by decide +kernel) rfl
theorem q1638 : Cond.methodLink RX12 314 yX12_readLand ∈ sa_T := sa_at 1638 (by decide +kernel) rfl
theorem q1640 : Cond.instanceMethod yX12_readLand ∈ sa_T := sa_at 1640 (by decide +kernel) rfl
theorem q1641 : Cond.code yX12_readLand cX12_readLand 2 none ∈ sa_T := sa_at 1641 (by decide +kernel) rfl
theorem q1642 : Cond.methodLink RX12 238 yX12_starts ∈ sa_T := sa_at 1642 (by decide +kernel) rfl
theorem q1644 : Cond.instanceMethod yX12_starts ∈ sa_T := sa_at 1644 (by decide +kernel) rfl
theorem q1645 : Cond.code yX12_starts cX12_starts 4 none ∈ sa_T := sa_at 1645 (by decide +kernel) rfl
theorem q1646 : Cond.methodLink RX12 298 yX12_readClause ∈ sa_T := sa_at 1646 (by decide +kernel) rfl
theorem q1648 : Cond.instanceMethod yX12_readClause ∈ sa_T := sa_at 1648 (by decide +kernel) rfl
theorem q1649 : Cond.code yX12_readClause cX12_readClause 3 none ∈ sa_T := sa_at 1649 (by decide +kernel) rfl
theorem q1650 : Cond.methodLink RX12 169 yX12_look ∈ sa_T := sa_at 1650 (by decide +kernel) rfl
theorem q1652 : Cond.instanceMethod yX12_look ∈ sa_T := sa_at 1652 (by decide +kernel) rfl
theorem q1653 : Cond.code yX12_look cX12_look 1 (some .int) ∈ sa_T := sa_at 1653 (by decide +kernel) rfl
theorem q1654 : Cond.methodLink RX12 165 yX12_fails ∈ sa_T := sa_at 1654 (by decide +kernel) rfl
theorem q1656 : Cond.instanceMethod yX12_fails ∈ sa_T := sa_at 1656 (by decide +kernel) rfl
theorem q1657 : Cond.code yX12_fails cX12_fails 1 (some .boolean) ∈ sa_T := sa_at 1657 (by decide +kernel) rfl
theorem q1659 : Cond.methodLink RX12 288 yX12_readItems ∈ sa_T := sa_at 1659 (by decide +kernel) rfl
theorem q1661 : Cond.instanceMethod yX12_readItems ∈ sa_T := sa_at 1661 (by decide +kernel) rfl
theorem q1662 : Cond.code yX12_readItems cX12_readItems 7 none ∈ sa_T := sa_at 1662 (by decide +kernel) rfl
theorem q1663 : Cond.methodLink RX12 130 yJ0_length_8abf5 ∈ sa_T := sa_at 1663 (by decide +kernel) rfl
theorem q1664 : Cond.methodLink RX12 252 yX12_usual ∈ sa_T := sa_at 1664 (by decide +kernel) rfl
theorem q1665 : Cond.static yX12_usual ∈ sa_T := sa_at 1665 (by decide +kernel) rfl
theorem q1666 : Cond.code yX12_usual cX12_usual 2 (some .int) ∈ sa_T := sa_at 1666 (by decide +kernel) rfl
theorem q1667 : Cond.methodLink RX12 256 yX12_placeOf ∈ sa_T := sa_at 1667 (by decide +kernel) rfl
theorem q1668 : Cond.static yX12_placeOf ∈ sa_T := sa_at 1668 (by decide +kernel) rfl
theorem q1669 : Cond.code yX12_placeOf cX12_placeOf 3 (some .int) ∈ sa_T := sa_at 1669 (by decide +kernel) rfl
theorem q1670 : Cond.methodLink RX12 136 yJ0_charAt_5068e ∈ sa_T := sa_at 1670 (by decide +kernel) rfl
theorem q1671 : Cond.methodLink RX12 260 yX12_has ∈ sa_T := sa_at 1671 (by decide +kernel) rfl
theorem q1672 : Cond.static yX12_has ∈ sa_T := sa_at 1672 (by decide +kernel) rfl
theorem q1673 : Cond.code yX12_has cX12_has 2 (some .boolean) ∈ sa_T := sa_at 1673 (by decide +kernel) rfl
theorem q1674 : Cond.methodLink RX12 264 yX12_leastOf ∈ sa_T := sa_at 1674 (by decide +kernel) rfl
theorem q1675 : Cond.static yX12_leastOf ∈ sa_T := sa_at 1675 (by decide +kernel) rfl
theorem q1676 : Cond.code yX12_leastOf cX12_leastOf 2 (some .int) ∈ sa_T := sa_at 1676 (by decide +kernel) rfl
theorem q1677 : Cond.methodLink RX12 267 yX12_mostOf ∈ sa_T := sa_at 1677 (by decide +kernel) rfl
theorem q1678 : Cond.static yX12_mostOf ∈ sa_T := sa_at 1678 (by decide +kernel) rfl
theorem q1679 : Cond.code yX12_mostOf cX12_mostOf 2 (some .int) ∈ sa_T := sa_at 1679 (by decide +kernel) rfl
theorem q1680 : Cond.methodLink RX12 270 yX12_readItem ∈ sa_T := sa_at 1680 (by decide +kernel) rfl
theorem q1682 : Cond.instanceMethod yX12_readItem ∈ sa_T := sa_at 1682 (by decide +kernel) rfl
theorem q1683 : Cond.code yX12_readItem cX12_readItem 7 none ∈ sa_T := sa_at 1683 (by decide +kernel) rfl
theorem q1684 : Cond.methodLink RX12 199 yX12_isDigit ∈ sa_T := sa_at 1684 (by decide +kernel) rfl
theorem q1686 : Cond.instanceMethod yX12_isDigit ∈ sa_T := sa_at 1686 (by decide +kernel) rfl
theorem q1687 : Cond.code yX12_isDigit cX12_isDigit 1 (some .boolean) ∈ sa_T := sa_at 1687 (by decide +kernel) rfl
theorem q1688 : Cond.methodLink RX12 245 yX12_here ∈ sa_T := sa_at 1688 (by decide +kernel) rfl
theorem q1690 : Cond.instanceMethod yX12_here ∈ sa_T := sa_at 1690 (by decide +kernel) rfl
theorem q1691 : Cond.code yX12_here cX12_here 1 (some .int) ∈ sa_T := sa_at 1691 (by decide +kernel) rfl
theorem q1695 : Cond.methodLink RX12 301 yX12_isWhole ∈ sa_T := sa_at 1695 (by decide +kernel) rfl
theorem q1697 : Cond.instanceMethod yX12_isWhole ∈ sa_T := sa_at 1697 (by decide +kernel) rfl
theorem q1698 : Cond.code yX12_isWhole cX12_isWhole 3 (some .boolean) ∈ sa_T := sa_at 1698 (by decide +kernel) rfl
theorem q1699 : Cond.methodLink RX12 317 yX12_goThrough ∈ sa_T := sa_at 1699 (by decide +kernel) rfl
theorem q1701 : Cond.instanceMethod yX12_goThrough ∈ sa_T := sa_at 1701 (by decide +kernel) rfl
theorem q1702 : Cond.code yX12_goThrough cX12_goThrough 4 none ∈ sa_T := sa_at 1702 (by decide +kernel) rfl
theorem q1703 : Cond.methodLink RX12 242 yX12_clause ∈ sa_T := sa_at 1703 (by decide +kernel) rfl
theorem q1705 : Cond.instanceMethod yX12_clause ∈ sa_T := sa_at 1705 (by decide +kernel) rfl
theorem q1706 : Cond.code yX12_clause cX12_clause 5 none ∈ sa_T := sa_at 1706 (by decide +kernel) rfl
theorem q1707 : Cond.methodLink RX12 185 yX12_isAmong ∈ sa_T := sa_at 1707 (by decide +kernel) rfl
theorem q1708 : Cond.static yX12_isAmong ∈ sa_T := sa_at 1708 (by decide +kernel) rfl
theorem q1709 : Cond.code yX12_isAmong cX12_isAmong 3 (some .boolean) ∈ sa_T := sa_at 1709 (by decide +kernel) rfl
theorem q1710 : Cond.methodLink RX12 195 yX12_takes ∈ sa_T := sa_at 1710 (by decide +kernel) rfl
theorem q1712 : Cond.instanceMethod yX12_takes ∈ sa_T := sa_at 1712 (by decide +kernel) rfl
theorem q1713 : Cond.code yX12_takes cX12_takes 2 (some .boolean) ∈ sa_T := sa_at 1713 (by decide +kernel) rfl
theorem q1714 : Cond.methodLink RX12 218 yX12_condition ∈ sa_T := sa_at 1714 (by decide +kernel) rfl
theorem q1716 : Cond.instanceMethod yX12_condition ∈ sa_T := sa_at 1716 (by decide +kernel) rfl
theorem q1717 : Cond.code yX12_condition cX12_condition 5 (some .boolean) ∈ sa_T := sa_at 1717 (by decide +kernel) rfl
theorem q1718 : Cond.methodLink RX12 225 yX12_part ∈ sa_T := sa_at 1718 (by decide +kernel) rfl
theorem q1720 : Cond.instanceMethod yX12_part ∈ sa_T := sa_at 1720 (by decide +kernel) rfl
theorem q1721 : Cond.code yX12_part cX12_part 5 (some .boolean) ∈ sa_T := sa_at 1721 (by decide +kernel) rfl
theorem q1722 : Cond.methodLink RX12 222 yX12_compares ∈ sa_T := sa_at 1722 (by decide +kernel) rfl
theorem q1724 : Cond.instanceMethod yX12_compares ∈ sa_T := sa_at 1724 (by decide +kernel) rfl
theorem q1725 : Cond.code yX12_compares cX12_compares 6 (some .boolean) ∈ sa_T := sa_at 1725 (by decide +kernel) rfl
theorem q1726 : Cond.methodLink RX12 192 yX12_sum ∈ sa_T := sa_at 1726 (by decide +kernel) rfl
theorem q1728 : Cond.instanceMethod yX12_sum ∈ sa_T := sa_at 1728 (by decide +kernel) rfl
theorem q1729 : Cond.code yX12_sum cX12_sum 5 (some .int) ∈ sa_T := sa_at 1729 (by decide +kernel) rfl
theorem q1730 : Cond.methodLink RX12 209 yX12_term ∈ sa_T := sa_at 1730 (by decide +kernel) rfl
theorem q1732 : Cond.instanceMethod yX12_term ∈ sa_T := sa_at 1732 (by decide +kernel) rfl
theorem q1733 : Cond.code yX12_term cX12_term 5 (some .int) ∈ sa_T := sa_at 1733 (by decide +kernel) rfl
theorem q1734 : Cond.methodLink RX12 202 yX12_atom ∈ sa_T := sa_at 1734 (by decide +kernel) rfl
theorem q1736 : Cond.instanceMethod yX12_atom ∈ sa_T := sa_at 1736 (by decide +kernel) rfl
theorem q1737 : Cond.code yX12_atom cX12_atom 4 (some .int) ∈ sa_T := sa_at 1737 (by decide +kernel) rfl
theorem q1738 : Cond.methodLink RX12 189 yX12_goesIn ∈ sa_T := sa_at 1738 (by decide +kernel) rfl
theorem q1740 : Cond.instanceMethod yX12_goesIn ∈ sa_T := sa_at 1740 (by decide +kernel) rfl
theorem q1741 : Cond.code yX12_goesIn cX12_goesIn 1 (some .boolean) ∈ sa_T := sa_at 1741 (by decide +kernel) rfl
theorem q1742 : Cond.methodLink RX12 205 yX12_within ∈ sa_T := sa_at 1742 (by decide +kernel) rfl
theorem q1743 : Cond.static yX12_within ∈ sa_T := sa_at 1743 (by decide +kernel) rfl
theorem q1744 : Cond.code yX12_within cX12_within 2 (some .int) ∈ sa_T := sa_at 1744 (by decide +kernel) rfl
theorem q1745 : Cond.constantLong RX12 172 (-1000000) ∈ sa_T := sa_at 1745 (by decide +kernel) rfl
theorem q1746 : Cond.constantLong RX12 174 1000000 ∈ sa_T := sa_at 1746 (by decide +kernel) rfl
theorem q1747 : Cond.methodLink RX12 176 Lib.MathLoose.min_long.x ∈ sa_T := sa_at 1747 (by decide +kernel) rfl
theorem q1748 : Cond.static Lib.MathLoose.min_long.x ∈ sa_T := sa_at 1748 (by decide +kernel) rfl
theorem q1749 : Cond.code Lib.MathLoose.min_long.x Lib.MathLoose.min_long.code 4 (some .long) ∈ sa_T := sa_at 1749 (by decide +kernel) rfl
theorem q1750 : Cond.methodLink RX12 182 Lib.MathLoose.max_long.x ∈ sa_T := sa_at 1750 (by decide +kernel) rfl
theorem q1751 : Cond.static Lib.MathLoose.max_long.x ∈ sa_T := sa_at 1751 (by decide +kernel) rfl
theorem q1752 : Cond.code Lib.MathLoose.max_long.x Lib.MathLoose.max_long.code 4 (some .long) ∈ sa_T := sa_at 1752 (by decide +kernel) rfl
theorem q1753 : Cond.methodLink RX12 212 yX12_isSign ∈ sa_T := sa_at 1753 (by decide +kernel) rfl
theorem q1754 : Cond.static yX12_isSign ∈ sa_T := sa_at 1754 (by decide +kernel) rfl
theorem q1755 : Cond.code yX12_isSign cX12_isSign 1 (some .boolean) ∈ sa_T := sa_at 1755 (by decide +kernel) rfl
theorem q1756 : Cond.methodLink RX12 215 yX12_unit ∈ sa_T := sa_at 1756 (by decide +kernel) rfl
theorem q1758 : Cond.instanceMethod yX12_unit ∈ sa_T := sa_at 1758 (by decide +kernel) rfl
theorem q1759 : Cond.code yX12_unit cX12_unit 3 (some .boolean) ∈ sa_T := sa_at 1759 (by decide +kernel) rfl
theorem q1760 : Cond.methodLink RX12 320 yX12_readOrders ∈ sa_T := sa_at 1760 (by decide +kernel) rfl
theorem q1762 : Cond.instanceMethod yX12_readOrders ∈ sa_T := sa_at 1762 (by decide +kernel) rfl
theorem q1763 : Cond.code yX12_readOrders cX12_readOrders 3 none ∈ sa_T := sa_at 1763 (by decide +kernel) rfl
theorem q1764 : Cond.methodLink RX12 309 yX12_readStep ∈ sa_T := sa_at 1764 (by decide +kernel) rfl
theorem q1766 : Cond.instanceMethod yX12_readStep ∈ sa_T := sa_at 1766 (by decide +kernel) rfl
theorem q1767 : Cond.code yX12_readStep cX12_readStep 3 none ∈ sa_T := sa_at 1767 (by decide +kernel) rfl
theorem q1769 : Cond.methodLink RX12 306 yX12_digit ∈ sa_T := sa_at 1769 (by decide +kernel) rfl
theorem q1771 : Cond.instanceMethod yX12_digit ∈ sa_T := sa_at 1771 (by decide +kernel) rfl
theorem q1772 : Cond.code yX12_digit cX12_digit 1 (some .int) ∈ sa_T := sa_at 1772 (by decide +kernel) rfl
theorem q1777 : Cond.methodLink RX12 329 yX12_fault ∈ sa_T := sa_at 1777 (by decide +kernel) rfl
theorem q1782 : Cond.methodLink RX12 372 yX12_isPlace ∈ sa_T := sa_at 1782 (by decide +kernel) rfl
theorem q1784 : Cond.instanceMethod yX12_isPlace ∈ sa_T := sa_at 1784 (by decide +kernel) rfl
theorem q1785 : Cond.code yX12_isPlace cX12_isPlace 2 (some .boolean) ∈ sa_T := sa_at 1785 (by decide +kernel) rfl
theorem q1786 : Cond.constantLong RX12 375 5 ∈ sa_T := sa_at 1786 (by decide +kernel) rfl
theorem q1791 : Cond.constantLong RX12 377 3 ∈ sa_T := sa_at 1791 (by decide +kernel) rfl
theorem q1808 : Cond.methodLink RX12 352 yX12_lives ∈ sa_T := sa_at 1808 (by decide +kernel) rfl
theorem q1809 : Cond.static yX12_lives ∈ sa_T := sa_at 1809 (by decide +kernel) rfl
theorem q1810 : Cond.code yX12_lives cX12_lives 2 (some .boolean) ∈ sa_T := sa_at 1810 (by decide +kernel) rfl
theorem q1811 : Cond.methodLink RX12 379 yX12_wearOf ∈ sa_T := sa_at 1811 (by decide +kernel) rfl
theorem q1813 : Cond.instanceMethod yX12_wearOf ∈ sa_T := sa_at 1813 (by decide +kernel) rfl
theorem q1814 : Cond.code yX12_wearOf cX12_wearOf 4 (some .int) ∈ sa_T := sa_at 1814 (by decide +kernel) rfl
theorem q1815 : Cond.methodLink RX12 368 yX12_wearBy ∈ sa_T := sa_at 1815 (by decide +kernel) rfl
theorem q1817 : Cond.instanceMethod yX12_wearBy ∈ sa_T := sa_at 1817 (by decide +kernel) rfl
theorem q1818 : Cond.code yX12_wearBy cX12_wearBy 9 (some .int) ∈ sa_T := sa_at 1818 (by decide +kernel) rfl
theorem q1819 : Cond.methodLink RX12 356 Lib.Math.min.name ∈ sa_T := sa_at 1819 (by decide +kernel) rfl
theorem q1820 : Cond.methodLink RX12 358 Lib.Math.max.name ∈ sa_T := sa_at 1820 (by decide +kernel) rfl
theorem q1821 : Cond.constantLong RX12 360 100000 ∈ sa_T := sa_at 1821 (by decide +kernel) rfl
theorem q1822 : Cond.constantLong RX12 362 10 ∈ sa_T := sa_at 1822 (by decide +kernel) rfl
theorem q1823 : Cond.constantLong RX12 364 4 ∈ sa_T := sa_at 1823 (by decide +kernel) rfl
theorem q1824 : Cond.constantLong RX12 366 8191 ∈ sa_T := sa_at 1824 (by decide +kernel) rfl
theorem q1829 : Cond.methodLink RX12 409 yX12_canMarch ∈ sa_T := sa_at 1829 (by decide +kernel) rfl
theorem q1831 : Cond.instanceMethod yX12_canMarch ∈ sa_T := sa_at 1831 (by decide +kernel) rfl
theorem q1832 : Cond.code yX12_canMarch cX12_canMarch 4 (some .boolean) ∈ sa_T := sa_at 1832 (by decide +kernel) rfl
theorem q1833 : Cond.methodLink RX12 403 yX12_isThere ∈ sa_T := sa_at 1833 (by decide +kernel) rfl
theorem q1834 : Cond.static yX12_isThere ∈ sa_T := sa_at 1834 (by decide +kernel) rfl
theorem q1835 : Cond.code yX12_isThere cX12_isThere 2 (some .boolean) ∈ sa_T := sa_at 1835 (by decide +kernel) rfl
theorem q1836 : Cond.methodLink RX12 406 yX12_wayOf ∈ sa_T := sa_at 1836 (by decide +kernel) rfl
theorem q1838 : Cond.instanceMethod yX12_wayOf ∈ sa_T := sa_at 1838 (by decide +kernel) rfl
theorem q1839 : Cond.code yX12_wayOf cX12_wayOf 4 (some .int) ∈ sa_T := sa_at 1839 (by decide +kernel) rfl
theorem q1840 : Cond.methodLink RX12 413 yX12_remember ∈ sa_T := sa_at 1840 (by decide +kernel) rfl
theorem q1842 : Cond.instanceMethod yX12_remember ∈ sa_T := sa_at 1842 (by decide +kernel) rfl
theorem q1843 : Cond.code yX12_remember cX12_remember 2 none ∈ sa_T := sa_at 1843 (by decide +kernel) rfl
theorem q1844 : Cond.methodLink RX12 416 yX12_marches ∈ sa_T := sa_at 1844 (by decide +kernel) rfl
theorem q1846 : Cond.instanceMethod yX12_marches ∈ sa_T := sa_at 1846 (by decide +kernel) rfl
theorem q1847 : Cond.code yX12_marches cX12_marches 5 none ∈ sa_T := sa_at 1847 (by decide +kernel) rfl
theorem q1852 : Cond.methodLink RX12 420 yX12_canJoin ∈ sa_T := sa_at 1852 (by decide +kernel) rfl
theorem q1854 : Cond.instanceMethod yX12_canJoin ∈ sa_T := sa_at 1854 (by decide +kernel) rfl
theorem q1855 : Cond.code yX12_canJoin cX12_canJoin 4 (some .boolean) ∈ sa_T := sa_at 1855 (by decide +kernel) rfl
theorem q1856 : Cond.methodLink RX12 423 yX12_joins ∈ sa_T := sa_at 1856 (by decide +kernel) rfl
theorem q1858 : Cond.instanceMethod yX12_joins ∈ sa_T := sa_at 1858 (by decide +kernel) rfl
theorem q1859 : Cond.code yX12_joins cX12_joins 5 none ∈ sa_T := sa_at 1859 (by decide +kernel) rfl
theorem q1864 : Cond.methodLink RX12 426 yX12_canDig ∈ sa_T := sa_at 1864 (by decide +kernel) rfl
theorem q1866 : Cond.instanceMethod yX12_canDig ∈ sa_T := sa_at 1866 (by decide +kernel) rfl
theorem q1867 : Cond.code yX12_canDig cX12_canDig 3 (some .boolean) ∈ sa_T := sa_at 1867 (by decide +kernel) rfl
theorem q1868 : Cond.methodLink RX12 429 yX12_digs ∈ sa_T := sa_at 1868 (by decide +kernel) rfl
theorem q1870 : Cond.instanceMethod yX12_digs ∈ sa_T := sa_at 1870 (by decide +kernel) rfl
theorem q1871 : Cond.code yX12_digs cX12_digs 4 none ∈ sa_T := sa_at 1871 (by decide +kernel) rfl
theorem q1876 : Cond.methodLink RX12 432 yX12_canCast ∈ sa_T := sa_at 1876 (by decide +kernel) rfl
theorem q1878 : Cond.instanceMethod yX12_canCast ∈ sa_T := sa_at 1878 (by decide +kernel) rfl
theorem q1879 : Cond.code yX12_canCast cX12_canCast 3 (some .boolean) ∈ sa_T := sa_at 1879 (by decide +kernel) rfl
theorem q1880 : Cond.methodLink RX12 435 yX12_casts ∈ sa_T := sa_at 1880 (by decide +kernel) rfl
theorem q1882 : Cond.instanceMethod yX12_casts ∈ sa_T := sa_at 1882 (by decide +kernel) rfl
theorem q1883 : Cond.code yX12_casts cX12_casts 6 none ∈ sa_T := sa_at 1883 (by decide +kernel) rfl
theorem q1888 : Cond.methodLink RX12 438 yX12_goHour ∈ sa_T := sa_at 1888 (by decide +kernel) rfl
theorem q1890 : Cond.instanceMethod yX12_goHour ∈ sa_T := sa_at 1890 (by decide +kernel) rfl
theorem q1891 : Cond.code yX12_goHour cX12_goHour 5 none ∈ sa_T := sa_at 1891 (by decide +kernel) rfl
theorem q1892 : Cond.methodLink RX12 389 yX12_isRoofed ∈ sa_T := sa_at 1892 (by decide +kernel) rfl
theorem q1894 : Cond.instanceMethod yX12_isRoofed ∈ sa_T := sa_at 1894 (by decide +kernel) rfl
theorem q1895 : Cond.code yX12_isRoofed cX12_isRoofed 2 (some .boolean) ∈ sa_T := sa_at 1895 (by decide +kernel) rfl
theorem q1896 : Cond.methodLink RX12 392 yX12_loses ∈ sa_T := sa_at 1896 (by decide +kernel) rfl
theorem q1898 : Cond.instanceMethod yX12_loses ∈ sa_T := sa_at 1898 (by decide +kernel) rfl
theorem q1899 : Cond.code yX12_loses cX12_loses 8 none ∈ sa_T := sa_at 1899 (by decide +kernel) rfl
theorem q1900 : Cond.methodLink RX12 396 yX12_throwsAt ∈ sa_T := sa_at 1900 (by decide +kernel) rfl
theorem q1902 : Cond.instanceMethod yX12_throwsAt ∈ sa_T := sa_at 1902 (by decide +kernel) rfl
theorem q1903 : Cond.code yX12_throwsAt cX12_throwsAt 4 none ∈ sa_T := sa_at 1903 (by decide +kernel) rfl
theorem q1904 : Cond.methodLink RX12 400 yX12_writes ∈ sa_T := sa_at 1904 (by decide +kernel) rfl
theorem q1906 : Cond.instanceMethod yX12_writes ∈ sa_T := sa_at 1906 (by decide +kernel) rfl
theorem q1907 : Cond.code yX12_writes cX12_writes 4 none ∈ sa_T := sa_at 1907 (by decide +kernel) rfl
theorem q1912 : Cond.constantLong RX12 449 48 ∈ sa_T := sa_at 1912 (by decide +kernel) rfl
theorem q1913 : Cond.methodLink RX12 451 yX12_draw ∈ sa_T := sa_at 1913 (by decide +kernel) rfl
theorem q1915 : Cond.instanceMethod yX12_draw ∈ sa_T := sa_at 1915 (by decide +kernel) rfl
theorem q1916 : Cond.code yX12_draw cX12_draw 2 (some .int) ∈ sa_T := sa_at 1916 (by decide +kernel) rfl
theorem q1917 : Cond.constantLong RX12 445 6364136223846793005 ∈ sa_T := sa_at 1917 (by decide +kernel) rfl
theorem q1918 : Cond.constantLong RX12 447 1442695040888963407 ∈ sa_T := sa_at 1918 (by decide +kernel) rfl
theorem q1935 : Cond.constant RX12 454 (-1000000) ∈ sa_T := sa_at 1935 (by decide +kernel) rfl
theorem q1936 : Cond.methodLink RX12 455 yX12_copy ∈ sa_T := sa_at 1936 (by decide +kernel) rfl
theorem q1937 : Cond.static yX12_copy ∈ sa_T := sa_at 1937 (by decide +kernel) rfl
theorem q1938 : Cond.code yX12_copy cX12_copy 3 none ∈ sa_T := sa_at 1938 (by decide +kernel) rfl
theorem q1939 : Cond.methodLink RX12 459 yX12_canStep ∈ sa_T := sa_at 1939 (by decide +kernel) rfl
theorem q1941 : Cond.instanceMethod yX12_canStep ∈ sa_T := sa_at 1941 (by decide +kernel) rfl
theorem q1942 : Cond.code yX12_canStep cX12_canStep 5 (some .boolean) ∈ sa_T := sa_at 1942 (by decide +kernel) rfl
theorem q1943 : Cond.methodLink RX12 462 yX12_does ∈ sa_T := sa_at 1943 (by decide +kernel) rfl
theorem q1945 : Cond.instanceMethod yX12_does ∈ sa_T := sa_at 1945 (by decide +kernel) rfl
theorem q1946 : Cond.code yX12_does cX12_does 5 none ∈ sa_T := sa_at 1946 (by decide +kernel) rfl
theorem q1947 : Cond.methodLink RX12 465 yX12_grainsOf ∈ sa_T := sa_at 1947 (by decide +kernel) rfl
theorem q1948 : Cond.static yX12_grainsOf ∈ sa_T := sa_at 1948 (by decide +kernel) rfl
theorem q1949 : Cond.code yX12_grainsOf cX12_grainsOf 3 (some .int) ∈ sa_T := sa_at 1949 (by decide +kernel) rfl
theorem q1958 : Cond.constantLong RX12 469 24 ∈ sa_T := sa_at 1958 (by decide +kernel) rfl
theorem q1963 : Cond.methodLink RX12 537 yX12_layBest ∈ sa_T := sa_at 1963 (by decide +kernel) rfl
theorem q1965 : Cond.instanceMethod yX12_layBest ∈ sa_T := sa_at 1965 (by decide +kernel) rfl
theorem q1966 : Cond.code yX12_layBest cX12_layBest 4 (some .boolean) ∈ sa_T := sa_at 1966 (by decide +kernel) rfl
theorem q1967 : Cond.methodLink RX12 533 yX12_goJourneys ∈ sa_T := sa_at 1967 (by decide +kernel) rfl
theorem q1969 : Cond.instanceMethod yX12_goJourneys ∈ sa_T := sa_at 1969 (by decide +kernel) rfl
theorem q1970 : Cond.code yX12_goJourneys cX12_goJourneys 8 none ∈ sa_T := sa_at 1970 (by decide +kernel) rfl
theorem q1971 : Cond.methodLink RX12 529 yX12_arrives ∈ sa_T := sa_at 1971 (by decide +kernel) rfl
theorem q1973 : Cond.instanceMethod yX12_arrives ∈ sa_T := sa_at 1973 (by decide +kernel) rfl
theorem q1974 : Cond.code yX12_arrives cX12_arrives 4 none ∈ sa_T := sa_at 1974 (by decide +kernel) rfl
theorem q1975 : Cond.methodLink RX12 517 yX12_looksAtAmbush ∈ sa_T := sa_at 1975 (by decide +kernel) rfl
theorem q1977 : Cond.instanceMethod yX12_looksAtAmbush ∈ sa_T := sa_at 1977 (by decide +kernel) rfl
theorem q1978 : Cond.code yX12_looksAtAmbush cX12_looksAtAmbush 4 none ∈ sa_T := sa_at 1978 (by decide +kernel) rfl
theorem q1979 : Cond.methodLink RX12 541 yX12_meanBy ∈ sa_T := sa_at 1979 (by decide +kernel) rfl
theorem q1981 : Cond.instanceMethod yX12_meanBy ∈ sa_T := sa_at 1981 (by decide +kernel) rfl
theorem q1982 : Cond.code yX12_meanBy cX12_meanBy 5 (some .int) ∈ sa_T := sa_at 1982 (by decide +kernel) rfl
theorem q1983 : Cond.methodLink RX12 520 yX12_beginsParts ∈ sa_T := sa_at 1983 (by decide +kernel) rfl
theorem q1985 : Cond.instanceMethod yX12_beginsParts ∈ sa_T := sa_at 1985 (by decide +kernel) rfl
theorem q1986 : Cond.code yX12_beginsParts cX12_beginsParts 3 none ∈ sa_T := sa_at 1986 (by decide +kernel) rfl
theorem q1987 : Cond.constantLong RX12 471 1000000000 ∈ sa_T := sa_at 1987 (by decide +kernel) rfl
theorem q1988 : Cond.methodLink RX12 523 yX12_goPath ∈ sa_T := sa_at 1988 (by decide +kernel) rfl
theorem q1990 : Cond.instanceMethod yX12_goPath ∈ sa_T := sa_at 1990 (by decide +kernel) rfl
theorem q1991 : Cond.code yX12_goPath cX12_goPath 7 none ∈ sa_T := sa_at 1991 (by decide +kernel) rfl
theorem q1992 : Cond.methodLink RX12 484 yX12_rainsOn ∈ sa_T := sa_at 1992 (by decide +kernel) rfl
theorem q1994 : Cond.instanceMethod yX12_rainsOn ∈ sa_T := sa_at 1994 (by decide +kernel) rfl
theorem q1995 : Cond.code yX12_rainsOn cX12_rainsOn 7 none ∈ sa_T := sa_at 1995 (by decide +kernel) rfl
theorem q1996 : Cond.methodLink RX12 479 yX12_chanceAt ∈ sa_T := sa_at 1996 (by decide +kernel) rfl
theorem q1998 : Cond.instanceMethod yX12_chanceAt ∈ sa_T := sa_at 1998 (by decide +kernel) rfl
theorem q1999 : Cond.code yX12_chanceAt cX12_chanceAt 4 (some .int) ∈ sa_T := sa_at 1999 (by decide +kernel) rfl
theorem q2000 : Cond.constantLong RX12 482 100 ∈ sa_T := sa_at 2000 (by decide +kernel) rfl
theorem q2001 : Cond.methodLink RX12 487 yX12_shifts ∈ sa_T := sa_at 2001 (by decide +kernel) rfl
theorem q2003 : Cond.instanceMethod yX12_shifts ∈ sa_T := sa_at 2003 (by decide +kernel) rfl
theorem q2004 : Cond.code yX12_shifts cX12_shifts 5 none ∈ sa_T := sa_at 2004 (by decide +kernel) rfl
theorem q2005 : Cond.methodLink RX12 502 yX12_meanNow ∈ sa_T := sa_at 2005 (by decide +kernel) rfl
theorem q2007 : Cond.instanceMethod yX12_meanNow ∈ sa_T := sa_at 2007 (by decide +kernel) rfl
theorem q2008 : Cond.code yX12_meanNow cX12_meanNow 4 (some .int) ∈ sa_T := sa_at 2008 (by decide +kernel) rfl
theorem q2009 : Cond.methodLink RX12 526 yX12_takesPath ∈ sa_T := sa_at 2009 (by decide +kernel) rfl
theorem q2011 : Cond.instanceMethod yX12_takesPath ∈ sa_T := sa_at 2011 (by decide +kernel) rfl
theorem q2012 : Cond.code yX12_takesPath cX12_takesPath 2 none ∈ sa_T := sa_at 2012 (by decide +kernel) rfl
theorem q2013 : Cond.methodLink RX12 508 yX12_sureNow ∈ sa_T := sa_at 2013 (by decide +kernel) rfl
theorem q2015 : Cond.instanceMethod yX12_sureNow ∈ sa_T := sa_at 2015 (by decide +kernel) rfl
theorem q2016 : Cond.code yX12_sureNow cX12_sureNow 1 (some .int) ∈ sa_T := sa_at 2016 (by decide +kernel) rfl
theorem q2033 : Cond.methodLink RX12 561 yX12_areNights ∈ sa_T := sa_at 2033 (by decide +kernel) rfl
theorem q2035 : Cond.instanceMethod yX12_areNights ∈ sa_T := sa_at 2035 (by decide +kernel) rfl
theorem q2036 : Cond.code yX12_areNights cX12_areNights 3 (some .boolean) ∈ sa_T := sa_at 2036 (by decide +kernel) rfl
theorem q2037 : Cond.constantLong RX12 557 6 ∈ sa_T := sa_at 2037 (by decide +kernel) rfl
theorem q2038 : Cond.constantLong RX12 559 9 ∈ sa_T := sa_at 2038 (by decide +kernel) rfl
theorem q2039 : Cond.constantLong RX12 564 99 ∈ sa_T := sa_at 2039 (by decide +kernel) rfl
theorem q2040 : Cond.methodLink RX12 566 yX12_layPickets ∈ sa_T := sa_at 2040 (by decide +kernel) rfl
theorem q2042 : Cond.instanceMethod yX12_layPickets ∈ sa_T := sa_at 2042 (by decide +kernel) rfl
theorem q2043 : Cond.code yX12_layPickets cX12_layPickets 5 (some .boolean) ∈ sa_T := sa_at 2043 (by decide +kernel) rfl
theorem q2044 : Cond.methodLink RX12 554 yX12_goPickets ∈ sa_T := sa_at 2044 (by decide +kernel) rfl
theorem q2046 : Cond.instanceMethod yX12_goPickets ∈ sa_T := sa_at 2046 (by decide +kernel) rfl
theorem q2047 : Cond.code yX12_goPickets cX12_goPickets 7 none ∈ sa_T := sa_at 2047 (by decide +kernel) rfl
theorem q2060 : Cond.methodLink RX12 569 yX12_isSo ∈ sa_T := sa_at 2060 (by decide +kernel) rfl
theorem q2062 : Cond.instanceMethod yX12_isSo ∈ sa_T := sa_at 2062 (by decide +kernel) rfl
theorem q2063 : Cond.code yX12_isSo cX12_isSo 10 (some .boolean) ∈ sa_T := sa_at 2063 (by decide +kernel) rfl
theorem q2072 : Cond.constantLong RX12 576 7 ∈ sa_T := sa_at 2072 (by decide +kernel) rfl
theorem q2073 : Cond.methodLink RX12 578 yX12_layApart ∈ sa_T := sa_at 2073 (by decide +kernel) rfl
theorem q2075 : Cond.instanceMethod yX12_layApart ∈ sa_T := sa_at 2075 (by decide +kernel) rfl
theorem q2076 : Cond.code yX12_layApart cX12_layApart 5 none ∈ sa_T := sa_at 2076 (by decide +kernel) rfl
theorem q2077 : Cond.methodLink RX12 572 yX12_shortens ∈ sa_T := sa_at 2077 (by decide +kernel) rfl
theorem q2079 : Cond.instanceMethod yX12_shortens ∈ sa_T := sa_at 2079 (by decide +kernel) rfl
theorem q2080 : Cond.code yX12_shortens cX12_shortens 5 none ∈ sa_T := sa_at 2080 (by decide +kernel) rfl
theorem q2081 : Cond.methodLink RX12 582 yX12_isNear ∈ sa_T := sa_at 2081 (by decide +kernel) rfl
theorem q2083 : Cond.instanceMethod yX12_isNear ∈ sa_T := sa_at 2083 (by decide +kernel) rfl
theorem q2084 : Cond.code yX12_isNear cX12_isNear 5 (some .boolean) ∈ sa_T := sa_at 2084 (by decide +kernel) rfl
theorem q2109 : Cond.methodLink RX12 585 yX12_living ∈ sa_T := sa_at 2109 (by decide +kernel) rfl
theorem q2111 : Cond.instanceMethod yX12_living ∈ sa_T := sa_at 2111 (by decide +kernel) rfl
theorem q2112 : Cond.code yX12_living cX12_living 3 (some .int) ∈ sa_T := sa_at 2112 (by decide +kernel) rfl
theorem q2113 : Cond.methodLink RX12 588 yX12_allGrains ∈ sa_T := sa_at 2113 (by decide +kernel) rfl
theorem q2115 : Cond.instanceMethod yX12_allGrains ∈ sa_T := sa_at 2115 (by decide +kernel) rfl
theorem q2116 : Cond.code yX12_allGrains cX12_allGrains 3 (some .int) ∈ sa_T := sa_at 2116 (by decide +kernel) rfl
theorem q2135 : Cond.fieldLink RJ0 9 "java/lang/String" "value" "[B" ∈ sa_T := sa_at 2135 (by decide +kernel) rfl
theorem q2136 : Cond.fieldLink RJ0 15 "java/lang/String" "coder" "B" ∈ sa_T := sa_at 2136 (by decide +kernel) rfl
theorem fd_X0_11 : sa_Fd RX0 11 0 0 (.array .int) true := ⟨RX0, TX0, 3, tyX0, rfl, by decide, rfl, inX0, tyX0_ok, nmX0, sa_at 263 (by decide +kernel) rfl, rfl, rfl, rfl⟩
theorem fd_X0_27 : sa_Fd RX0 27 1 0 (.array .int) true := ⟨RX1, TX1, 5, tyX1, rfl, by decide, rfl, inX1, tyX1_ok, nmX1, sa_at 173 (by decide +kernel) rfl, rfl, rfl, rfl⟩
theorem fd_X0_68 : sa_Fd RX0 68 0 1 .int false := ⟨RX0, TX0, 3, tyX0, rfl, by decide, rfl, inX0, tyX0_ok, nmX0, sa_at 266 (by decide +kernel) rfl, rfl, rfl, rfl⟩
theorem fd_X0_72 : sa_Fd RX0 72 0 2 .int false := ⟨RX0, TX0, 3, tyX0, rfl, by decide, rfl, inX0, tyX0_ok, nmX0, sa_at 267 (by decide +kernel) rfl, rfl, rfl, rfl⟩
theorem fd_X10_11 : sa_Fd RX10 11 10 0 (.array .int) true := ⟨RX10, TX10, 2, tyX10, rfl, by decide, rfl, inX10, tyX10_ok, nmX10, sa_at 415 (by decide +kernel) rfl, rfl, rfl, rfl⟩
theorem fd_X10_15 : sa_Fd RX10 15 10 1 (.array .int) true := ⟨RX10, TX10, 2, tyX10, rfl, by decide, rfl, inX10, tyX10_ok, nmX10, sa_at 416 (by decide +kernel) rfl, rfl, rfl, rfl⟩
theorem fd_X11_10 : sa_Fd RX11 10 11 0 (.object "SaltArmy$Tape") true := ⟨RX11, TX11, 13, tyX11, rfl, by decide, rfl, inX11, tyX11_ok, nmX11, sa_at 422 (by decide +kernel) rfl, rfl, rfl, rfl⟩
theorem fd_X11_103 : sa_Fd RX11 103 7 2 .int false := ⟨RX7, TX7, 3, tyX7, rfl, by decide, rfl, inX7, tyX7_ok, nmX7, sa_at 157 (by decide +kernel) rfl, rfl, rfl, rfl⟩
theorem fd_X11_113 : sa_Fd RX11 113 3 2 .int false := ⟨RX3, TX3, 4, tyX3, rfl, by decide, rfl, inX3, tyX3_ok, nmX3, sa_at 230 (by decide +kernel) rfl, rfl, rfl, rfl⟩
theorem fd_X11_114 : sa_Fd RX11 114 11 5 .int false := ⟨RX11, TX11, 13, tyX11, rfl, by decide, rfl, inX11, tyX11_ok, nmX11, sa_at 427 (by decide +kernel) rfl, rfl, rfl, rfl⟩
theorem fd_X11_120 : sa_Fd RX11 120 0 0 (.array .int) true := ⟨RX0, TX0, 3, tyX0, rfl, by decide, rfl, inX0, tyX0_ok, nmX0, sa_at 265 (by decide +kernel) rfl, rfl, rfl, rfl⟩
theorem fd_X11_128 : sa_Fd RX11 128 1 0 (.array .int) true := ⟨RX1, TX1, 5, tyX1, rfl, by decide, rfl, inX1, tyX1_ok, nmX1, sa_at 175 (by decide +kernel) rfl, rfl, rfl, rfl⟩
theorem fd_X11_141 : sa_Fd RX11 141 3 3 .int false := ⟨RX3, TX3, 4, tyX3, rfl, by decide, rfl, inX3, tyX3_ok, nmX3, sa_at 232 (by decide +kernel) rfl, rfl, rfl, rfl⟩
theorem fd_X11_180 : sa_Fd RX11 180 4 1 .int false := ⟨RX4, TX4, 2, tyX4, rfl, by decide, rfl, inX4, tyX4_ok, nmX4, sa_at 251 (by decide +kernel) rfl, rfl, rfl, rfl⟩
theorem fd_X11_19 : sa_Fd RX11 19 11 1 (.object "SaltArmy$Land") false := ⟨RX11, TX11, 13, tyX11, rfl, by decide, rfl, inX11, tyX11_ok, nmX11, sa_at 423 (by decide +kernel) rfl, rfl, rfl, rfl⟩
theorem fd_X11_23 : sa_Fd RX11 23 11 2 (.object "SaltArmy$Land") false := ⟨RX11, TX11, 13, tyX11, rfl, by decide, rfl, inX11, tyX11_ok, nmX11, sa_at 424 (by decide +kernel) rfl, rfl, rfl, rfl⟩
theorem fd_X11_232 : sa_Fd RX11 232 9 3 .int false := ⟨RX9, TX9, 17, tyX9, rfl, by decide, rfl, inX9, tyX9_ok, nmX9, sa_at 331 (by decide +kernel) rfl, rfl, rfl, rfl⟩
theorem fd_X11_238 : sa_Fd RX11 238 9 4 .int false := ⟨RX9, TX9, 17, tyX9, rfl, by decide, rfl, inX9, tyX9_ok, nmX9, sa_at 333 (by decide +kernel) rfl, rfl, rfl, rfl⟩
theorem fd_X11_29 : sa_Fd RX11 29 11 3 (.object "SaltArmy$Laws") true := ⟨RX11, TX11, 13, tyX11, rfl, by decide, rfl, inX11, tyX11_ok, nmX11, sa_at 425 (by decide +kernel) rfl, rfl, rfl, rfl⟩
theorem fd_X11_301 : sa_Fd RX11 301 6 1 .int false := ⟨RX6, TX6, 2, tyX6, rfl, by decide, rfl, inX6, tyX6_ok, nmX6, sa_at 312 (by decide +kernel) rfl, rfl, rfl, rfl⟩
theorem fd_X11_302 : sa_Fd RX11 302 8 2 .int false := ⟨RX8, TX8, 6, tyX8, rfl, by decide, rfl, inX8, tyX8_ok, nmX8, sa_at 392 (by decide +kernel) rfl, rfl, rfl, rfl⟩
theorem fd_X11_303 : sa_Fd RX11 303 5 4 .int false := ⟨RX5, TX5, 5, tyX5, rfl, by decide, rfl, inX5, tyX5_ok, nmX5, sa_at 289 (by decide +kernel) rfl, rfl, rfl, rfl⟩
theorem fd_X11_308 : sa_Fd RX11 308 3 0 (.array (.object "SaltArmy$Law")) true := ⟨RX3, TX3, 4, tyX3, rfl, by decide, rfl, inX3, tyX3_ok, nmX3, sa_at 227 (by decide +kernel) rfl, rfl, rfl, rfl⟩
theorem fd_X11_35 : sa_Fd RX11 35 11 4 (.array (.object "SaltArmy$Orders")) true := ⟨RX11, TX11, 13, tyX11, rfl, by decide, rfl, inX11, tyX11_ok, nmX11, sa_at 426 (by decide +kernel) rfl, rfl, rfl, rfl⟩
theorem fd_X11_43 : sa_Fd RX11 43 11 6 (.object "SaltArmy$Camp") true := ⟨RX11, TX11, 13, tyX11, rfl, by decide, rfl, inX11, tyX11_ok, nmX11, sa_at 428 (by decide +kernel) rfl, rfl, rfl, rfl⟩
theorem fd_X11_47 : sa_Fd RX11 47 11 7 (.object "SaltArmy$Camp") true := ⟨RX11, TX11, 13, tyX11, rfl, by decide, rfl, inX11, tyX11_ok, nmX11, sa_at 429 (by decide +kernel) rfl, rfl, rfl, rfl⟩
theorem fd_X11_53 : sa_Fd RX11 53 11 8 (.object "SaltArmy$Past") true := ⟨RX11, TX11, 13, tyX11, rfl, by decide, rfl, inX11, tyX11_ok, nmX11, sa_at 430 (by decide +kernel) rfl, rfl, rfl, rfl⟩
theorem fd_X11_60 : sa_Fd RX11 60 11 9 (.object "SaltArmy$Sky") true := ⟨RX11, TX11, 13, tyX11, rfl, by decide, rfl, inX11, tyX11_ok, nmX11, sa_at 431 (by decide +kernel) rfl, rfl, rfl, rfl⟩
theorem fd_X11_69 : sa_Fd RX11 69 11 10 (.object "SaltArmy$Travel") true := ⟨RX11, TX11, 13, tyX11, rfl, by decide, rfl, inX11, tyX11_ok, nmX11, sa_at 432 (by decide +kernel) rfl, rfl, rfl, rfl⟩
theorem fd_X11_76 : sa_Fd RX11 76 11 11 (.object "SaltArmy$Traces") true := ⟨RX11, TX11, 13, tyX11, rfl, by decide, rfl, inX11, tyX11_ok, nmX11, sa_at 433 (by decide +kernel) rfl, rfl, rfl, rfl⟩
theorem fd_X11_83 : sa_Fd RX11 83 11 12 (.object "SaltArmy$Watch") true := ⟨RX11, TX11, 13, tyX11, rfl, by decide, rfl, inX11, tyX11_ok, nmX11, sa_at 434 (by decide +kernel) rfl, rfl, rfl, rfl⟩
theorem fd_X11_91 : sa_Fd RX11 91 7 1 .int false := ⟨RX7, TX7, 3, tyX7, rfl, by decide, rfl, inX7, tyX7_ok, nmX7, sa_at 154 (by decide +kernel) rfl, rfl, rfl, rfl⟩
theorem fd_X12_100 : sa_Fd RX12 100 12 51 (.array .int) true := ⟨RX12, TX12, 74, tyX12, rfl, by decide, rfl, inX12, tyX12_ok, nmX12, sa_at 1438 (by decide +kernel) rfl, rfl, rfl, rfl⟩
theorem fd_X12_103 : sa_Fd RX12 103 12 52 (.array .int) true := ⟨RX12, TX12, 74, tyX12, rfl, by decide, rfl, inX12, tyX12_ok, nmX12, sa_at 1439 (by decide +kernel) rfl, rfl, rfl, rfl⟩
theorem fd_X12_106 : sa_Fd RX12 106 12 62 (.array .int) true := ⟨RX12, TX12, 74, tyX12, rfl, by decide, rfl, inX12, tyX12_ok, nmX12, sa_at 1449 (by decide +kernel) rfl, rfl, rfl, rfl⟩
theorem fd_X12_109 : sa_Fd RX12 109 12 66 (.array .int) true := ⟨RX12, TX12, 74, tyX12, rfl, by decide, rfl, inX12, tyX12_ok, nmX12, sa_at 1453 (by decide +kernel) rfl, rfl, rfl, rfl⟩
theorem fd_X12_112 : sa_Fd RX12 112 12 67 (.array .int) true := ⟨RX12, TX12, 74, tyX12, rfl, by decide, rfl, inX12, tyX12_ok, nmX12, sa_at 1454 (by decide +kernel) rfl, rfl, rfl, rfl⟩
theorem fd_X12_115 : sa_Fd RX12 115 12 68 (.array .int) true := ⟨RX12, TX12, 74, tyX12, rfl, by decide, rfl, inX12, tyX12_ok, nmX12, sa_at 1455 (by decide +kernel) rfl, rfl, rfl, rfl⟩
theorem fd_X12_118 : sa_Fd RX12 118 12 70 (.array .int) true := ⟨RX12, TX12, 74, tyX12, rfl, by decide, rfl, inX12, tyX12_ok, nmX12, sa_at 1457 (by decide +kernel) rfl, rfl, rfl, rfl⟩
theorem fd_X12_121 : sa_Fd RX12 121 12 71 (.array .int) true := ⟨RX12, TX12, 74, tyX12, rfl, by decide, rfl, inX12, tyX12_ok, nmX12, sa_at 1458 (by decide +kernel) rfl, rfl, rfl, rfl⟩
theorem fd_X12_124 : sa_Fd RX12 124 12 72 (.array .int) true := ⟨RX12, TX12, 74, tyX12, rfl, by decide, rfl, inX12, tyX12_ok, nmX12, sa_at 1459 (by decide +kernel) rfl, rfl, rfl, rfl⟩
theorem fd_X12_127 : sa_Fd RX12 127 12 0 .int false := ⟨RX12, TX12, 74, tyX12, rfl, by decide, rfl, inX12, tyX12_ok, nmX12, sa_at 1387 (by decide +kernel) rfl, rfl, rfl, rfl⟩
theorem fd_X12_13 : sa_Fd RX12 13 12 2 (.array .byte) true := ⟨RX12, TX12, 74, tyX12, rfl, by decide, rfl, inX12, tyX12_ok, nmX12, sa_at 1389 (by decide +kernel) rfl, rfl, rfl, rfl⟩
theorem fd_X12_140 : sa_Fd RX12 140 12 6 .int false := ⟨RX12, TX12, 74, tyX12, rfl, by decide, rfl, inX12, tyX12_ok, nmX12, sa_at 1393 (by decide +kernel) rfl, rfl, rfl, rfl⟩
theorem fd_X12_150 : sa_Fd RX12 150 12 10 .int false := ⟨RX12, TX12, 74, tyX12, rfl, by decide, rfl, inX12, tyX12_ok, nmX12, sa_at 1397 (by decide +kernel) rfl, rfl, rfl, rfl⟩
theorem fd_X12_153 : sa_Fd RX12 153 12 9 .int false := ⟨RX12, TX12, 74, tyX12, rfl, by decide, rfl, inX12, tyX12_ok, nmX12, sa_at 1396 (by decide +kernel) rfl, rfl, rfl, rfl⟩
theorem fd_X12_156 : sa_Fd RX12 156 12 8 .int false := ⟨RX12, TX12, 74, tyX12, rfl, by decide, rfl, inX12, tyX12_ok, nmX12, sa_at 1395 (by decide +kernel) rfl, rfl, rfl, rfl⟩
theorem fd_X12_159 : sa_Fd RX12 159 12 11 .int false := ⟨RX12, TX12, 74, tyX12, rfl, by decide, rfl, inX12, tyX12_ok, nmX12, sa_at 1398 (by decide +kernel) rfl, rfl, rfl, rfl⟩
theorem fd_X12_16 : sa_Fd RX12 16 12 3 (.array .int) true := ⟨RX12, TX12, 74, tyX12, rfl, by decide, rfl, inX12, tyX12_ok, nmX12, sa_at 1390 (by decide +kernel) rfl, rfl, rfl, rfl⟩
theorem fd_X12_162 : sa_Fd RX12 162 12 12 .int false := ⟨RX12, TX12, 74, tyX12, rfl, by decide, rfl, inX12, tyX12_ok, nmX12, sa_at 1399 (by decide +kernel) rfl, rfl, rfl, rfl⟩
theorem fd_X12_20 : sa_Fd RX12 20 12 4 (.array .int) true := ⟨RX12, TX12, 74, tyX12, rfl, by decide, rfl, inX12, tyX12_ok, nmX12, sa_at 1391 (by decide +kernel) rfl, rfl, rfl, rfl⟩
theorem fd_X12_228 : sa_Fd RX12 228 12 17 .boolean false := ⟨RX12, TX12, 74, tyX12, rfl, by decide, rfl, inX12, tyX12_ok, nmX12, sa_at 1404 (by decide +kernel) rfl, rfl, rfl, rfl⟩
theorem fd_X12_23 : sa_Fd RX12 23 12 5 (.array .byte) false := ⟨RX12, TX12, 74, tyX12, rfl, by decide, rfl, inX12, tyX12_ok, nmX12, sa_at 1392 (by decide +kernel) rfl, rfl, rfl, rfl⟩
theorem fd_X12_232 : sa_Fd RX12 232 12 13 .int false := ⟨RX12, TX12, 74, tyX12, rfl, by decide, rfl, inX12, tyX12_ok, nmX12, sa_at 1400 (by decide +kernel) rfl, rfl, rfl, rfl⟩
theorem fd_X12_235 : sa_Fd RX12 235 12 14 .int false := ⟨RX12, TX12, 74, tyX12, rfl, by decide, rfl, inX12, tyX12_ok, nmX12, sa_at 1401 (by decide +kernel) rfl, rfl, rfl, rfl⟩
theorem fd_X12_274 : sa_Fd RX12 274 12 28 .int false := ⟨RX12, TX12, 74, tyX12, rfl, by decide, rfl, inX12, tyX12_ok, nmX12, sa_at 1415 (by decide +kernel) rfl, rfl, rfl, rfl⟩
theorem fd_X12_277 : sa_Fd RX12 277 12 29 .int false := ⟨RX12, TX12, 74, tyX12, rfl, by decide, rfl, inX12, tyX12_ok, nmX12, sa_at 1416 (by decide +kernel) rfl, rfl, rfl, rfl⟩
theorem fd_X12_280 : sa_Fd RX12 280 12 30 .int false := ⟨RX12, TX12, 74, tyX12, rfl, by decide, rfl, inX12, tyX12_ok, nmX12, sa_at 1417 (by decide +kernel) rfl, rfl, rfl, rfl⟩
theorem fd_X12_283 : sa_Fd RX12 283 12 31 .int false := ⟨RX12, TX12, 74, tyX12, rfl, by decide, rfl, inX12, tyX12_ok, nmX12, sa_at 1418 (by decide +kernel) rfl, rfl, rfl, rfl⟩
theorem fd_X12_323 : sa_Fd RX12 323 12 7 .int false := ⟨RX12, TX12, 74, tyX12, rfl, by decide, rfl, inX12, tyX12_ok, nmX12, sa_at 1394 (by decide +kernel) rfl, rfl, rfl, rfl⟩
theorem fd_X12_326 : sa_Fd RX12 326 12 34 .int false := ⟨RX12, TX12, 74, tyX12, rfl, by decide, rfl, inX12, tyX12_ok, nmX12, sa_at 1421 (by decide +kernel) rfl, rfl, rfl, rfl⟩
theorem fd_X12_331 : sa_Fd RX12 331 12 25 .int false := ⟨RX12, TX12, 74, tyX12, rfl, by decide, rfl, inX12, tyX12_ok, nmX12, sa_at 1412 (by decide +kernel) rfl, rfl, rfl, rfl⟩
theorem fd_X12_334 : sa_Fd RX12 334 12 26 .int false := ⟨RX12, TX12, 74, tyX12, rfl, by decide, rfl, inX12, tyX12_ok, nmX12, sa_at 1413 (by decide +kernel) rfl, rfl, rfl, rfl⟩
theorem fd_X12_337 : sa_Fd RX12 337 12 27 .int false := ⟨RX12, TX12, 74, tyX12, rfl, by decide, rfl, inX12, tyX12_ok, nmX12, sa_at 1414 (by decide +kernel) rfl, rfl, rfl, rfl⟩
theorem fd_X12_340 : sa_Fd RX12 340 12 48 .int false := ⟨RX12, TX12, 74, tyX12, rfl, by decide, rfl, inX12, tyX12_ok, nmX12, sa_at 1435 (by decide +kernel) rfl, rfl, rfl, rfl⟩
theorem fd_X12_343 : sa_Fd RX12 343 12 69 .int false := ⟨RX12, TX12, 74, tyX12, rfl, by decide, rfl, inX12, tyX12_ok, nmX12, sa_at 1456 (by decide +kernel) rfl, rfl, rfl, rfl⟩
theorem fd_X12_346 : sa_Fd RX12 346 12 43 .int false := ⟨RX12, TX12, 74, tyX12, rfl, by decide, rfl, inX12, tyX12_ok, nmX12, sa_at 1430 (by decide +kernel) rfl, rfl, rfl, rfl⟩
theorem fd_X12_349 : sa_Fd RX12 349 12 73 .boolean false := ⟨RX12, TX12, 74, tyX12, rfl, by decide, rfl, inX12, tyX12_ok, nmX12, sa_at 1460 (by decide +kernel) rfl, rfl, rfl, rfl⟩
theorem fd_X12_37 : sa_Fd RX12 37 12 18 (.array .int) true := ⟨RX12, TX12, 74, tyX12, rfl, by decide, rfl, inX12, tyX12_ok, nmX12, sa_at 1405 (by decide +kernel) rfl, rfl, rfl, rfl⟩
theorem fd_X12_383 : sa_Fd RX12 383 12 40 .int false := ⟨RX12, TX12, 74, tyX12, rfl, by decide, rfl, inX12, tyX12_ok, nmX12, sa_at 1427 (by decide +kernel) rfl, rfl, rfl, rfl⟩
theorem fd_X12_386 : sa_Fd RX12 386 12 41 .int false := ⟨RX12, TX12, 74, tyX12, rfl, by decide, rfl, inX12, tyX12_ok, nmX12, sa_at 1428 (by decide +kernel) rfl, rfl, rfl, rfl⟩
theorem fd_X12_40 : sa_Fd RX12 40 12 19 (.array .int) true := ⟨RX12, TX12, 74, tyX12, rfl, by decide, rfl, inX12, tyX12_ok, nmX12, sa_at 1406 (by decide +kernel) rfl, rfl, rfl, rfl⟩
theorem fd_X12_43 : sa_Fd RX12 43 12 20 (.array .int) true := ⟨RX12, TX12, 74, tyX12, rfl, by decide, rfl, inX12, tyX12_ok, nmX12, sa_at 1407 (by decide +kernel) rfl, rfl, rfl, rfl⟩
theorem fd_X12_441 : sa_Fd RX12 441 12 44 .long false := ⟨RX12, TX12, 74, tyX12, rfl, by decide, rfl, inX12, tyX12_ok, nmX12, sa_at 1431 (by decide +kernel) rfl, rfl, rfl, rfl⟩
theorem fd_X12_46 : sa_Fd RX12 46 12 21 (.array .int) true := ⟨RX12, TX12, 74, tyX12, rfl, by decide, rfl, inX12, tyX12_ok, nmX12, sa_at 1408 (by decide +kernel) rfl, rfl, rfl, rfl⟩
theorem fd_X12_473 : sa_Fd RX12 473 12 60 .int false := ⟨RX12, TX12, 74, tyX12, rfl, by decide, rfl, inX12, tyX12_ok, nmX12, sa_at 1447 (by decide +kernel) rfl, rfl, rfl, rfl⟩
theorem fd_X12_476 : sa_Fd RX12 476 12 61 .int false := ⟨RX12, TX12, 74, tyX12, rfl, by decide, rfl, inX12, tyX12_ok, nmX12, sa_at 1448 (by decide +kernel) rfl, rfl, rfl, rfl⟩
theorem fd_X12_49 : sa_Fd RX12 49 12 22 (.array .int) true := ⟨RX12, TX12, 74, tyX12, rfl, by decide, rfl, inX12, tyX12_ok, nmX12, sa_at 1409 (by decide +kernel) rfl, rfl, rfl, rfl⟩
theorem fd_X12_490 : sa_Fd RX12 490 12 53 .int false := ⟨RX12, TX12, 74, tyX12, rfl, by decide, rfl, inX12, tyX12_ok, nmX12, sa_at 1440 (by decide +kernel) rfl, rfl, rfl, rfl⟩
theorem fd_X12_493 : sa_Fd RX12 493 12 55 .int false := ⟨RX12, TX12, 74, tyX12, rfl, by decide, rfl, inX12, tyX12_ok, nmX12, sa_at 1442 (by decide +kernel) rfl, rfl, rfl, rfl⟩
theorem fd_X12_496 : sa_Fd RX12 496 12 54 .int false := ⟨RX12, TX12, 74, tyX12, rfl, by decide, rfl, inX12, tyX12_ok, nmX12, sa_at 1441 (by decide +kernel) rfl, rfl, rfl, rfl⟩
theorem fd_X12_499 : sa_Fd RX12 499 12 56 .int false := ⟨RX12, TX12, 74, tyX12, rfl, by decide, rfl, inX12, tyX12_ok, nmX12, sa_at 1443 (by decide +kernel) rfl, rfl, rfl, rfl⟩
theorem fd_X12_505 : sa_Fd RX12 505 12 57 .int false := ⟨RX12, TX12, 74, tyX12, rfl, by decide, rfl, inX12, tyX12_ok, nmX12, sa_at 1444 (by decide +kernel) rfl, rfl, rfl, rfl⟩
theorem fd_X12_511 : sa_Fd RX12 511 12 58 .int false := ⟨RX12, TX12, 74, tyX12, rfl, by decide, rfl, inX12, tyX12_ok, nmX12, sa_at 1445 (by decide +kernel) rfl, rfl, rfl, rfl⟩
theorem fd_X12_514 : sa_Fd RX12 514 12 59 .int false := ⟨RX12, TX12, 74, tyX12, rfl, by decide, rfl, inX12, tyX12_ok, nmX12, sa_at 1446 (by decide +kernel) rfl, rfl, rfl, rfl⟩
theorem fd_X12_52 : sa_Fd RX12 52 12 23 (.array .int) true := ⟨RX12, TX12, 74, tyX12, rfl, by decide, rfl, inX12, tyX12_ok, nmX12, sa_at 1410 (by decide +kernel) rfl, rfl, rfl, rfl⟩
theorem fd_X12_545 : sa_Fd RX12 545 12 65 .int false := ⟨RX12, TX12, 74, tyX12, rfl, by decide, rfl, inX12, tyX12_ok, nmX12, sa_at 1452 (by decide +kernel) rfl, rfl, rfl, rfl⟩
theorem fd_X12_548 : sa_Fd RX12 548 12 63 .int false := ⟨RX12, TX12, 74, tyX12, rfl, by decide, rfl, inX12, tyX12_ok, nmX12, sa_at 1450 (by decide +kernel) rfl, rfl, rfl, rfl⟩
theorem fd_X12_55 : sa_Fd RX12 55 12 24 (.array .int) true := ⟨RX12, TX12, 74, tyX12, rfl, by decide, rfl, inX12, tyX12_ok, nmX12, sa_at 1411 (by decide +kernel) rfl, rfl, rfl, rfl⟩
theorem fd_X12_551 : sa_Fd RX12 551 12 64 .int false := ⟨RX12, TX12, 74, tyX12, rfl, by decide, rfl, inX12, tyX12_ok, nmX12, sa_at 1451 (by decide +kernel) rfl, rfl, rfl, rfl⟩
theorem fd_X12_58 : sa_Fd RX12 58 12 32 (.array .int) true := ⟨RX12, TX12, 74, tyX12, rfl, by decide, rfl, inX12, tyX12_ok, nmX12, sa_at 1419 (by decide +kernel) rfl, rfl, rfl, rfl⟩
theorem fd_X12_61 : sa_Fd RX12 61 12 33 (.array .int) true := ⟨RX12, TX12, 74, tyX12, rfl, by decide, rfl, inX12, tyX12_ok, nmX12, sa_at 1420 (by decide +kernel) rfl, rfl, rfl, rfl⟩
theorem fd_X12_64 : sa_Fd RX12 64 12 35 (.array .int) true := ⟨RX12, TX12, 74, tyX12, rfl, by decide, rfl, inX12, tyX12_ok, nmX12, sa_at 1422 (by decide +kernel) rfl, rfl, rfl, rfl⟩
theorem fd_X12_67 : sa_Fd RX12 67 12 36 (.array .int) true := ⟨RX12, TX12, 74, tyX12, rfl, by decide, rfl, inX12, tyX12_ok, nmX12, sa_at 1423 (by decide +kernel) rfl, rfl, rfl, rfl⟩
theorem fd_X12_70 : sa_Fd RX12 70 12 37 .int false := ⟨RX12, TX12, 74, tyX12, rfl, by decide, rfl, inX12, tyX12_ok, nmX12, sa_at 1424 (by decide +kernel) rfl, rfl, rfl, rfl⟩
theorem fd_X12_74 : sa_Fd RX12 74 12 38 (.array .long) true := ⟨RX12, TX12, 74, tyX12, rfl, by decide, rfl, inX12, tyX12_ok, nmX12, sa_at 1425 (by decide +kernel) rfl, rfl, rfl, rfl⟩
theorem fd_X12_78 : sa_Fd RX12 78 12 39 (.array .int) true := ⟨RX12, TX12, 74, tyX12, rfl, by decide, rfl, inX12, tyX12_ok, nmX12, sa_at 1426 (by decide +kernel) rfl, rfl, rfl, rfl⟩
theorem fd_X12_81 : sa_Fd RX12 81 12 42 (.array .int) true := ⟨RX12, TX12, 74, tyX12, rfl, by decide, rfl, inX12, tyX12_ok, nmX12, sa_at 1429 (by decide +kernel) rfl, rfl, rfl, rfl⟩
theorem fd_X12_84 : sa_Fd RX12 84 12 45 (.array .int) true := ⟨RX12, TX12, 74, tyX12, rfl, by decide, rfl, inX12, tyX12_ok, nmX12, sa_at 1432 (by decide +kernel) rfl, rfl, rfl, rfl⟩
theorem fd_X12_87 : sa_Fd RX12 87 12 46 (.array .int) true := ⟨RX12, TX12, 74, tyX12, rfl, by decide, rfl, inX12, tyX12_ok, nmX12, sa_at 1433 (by decide +kernel) rfl, rfl, rfl, rfl⟩
theorem fd_X12_9 : sa_Fd RX12 9 12 1 (.array .byte) true := ⟨RX12, TX12, 74, tyX12, rfl, by decide, rfl, inX12, tyX12_ok, nmX12, sa_at 1388 (by decide +kernel) rfl, rfl, rfl, rfl⟩
theorem fd_X12_90 : sa_Fd RX12 90 12 47 (.array .boolean) true := ⟨RX12, TX12, 74, tyX12, rfl, by decide, rfl, inX12, tyX12_ok, nmX12, sa_at 1434 (by decide +kernel) rfl, rfl, rfl, rfl⟩
theorem fd_X12_94 : sa_Fd RX12 94 12 49 (.array .long) true := ⟨RX12, TX12, 74, tyX12, rfl, by decide, rfl, inX12, tyX12_ok, nmX12, sa_at 1436 (by decide +kernel) rfl, rfl, rfl, rfl⟩
theorem fd_X12_97 : sa_Fd RX12 97 12 50 (.array .long) true := ⟨RX12, TX12, 74, tyX12, rfl, by decide, rfl, inX12, tyX12_ok, nmX12, sa_at 1437 (by decide +kernel) rfl, rfl, rfl, rfl⟩
theorem fd_X1_11 : sa_Fd RX1 11 1 0 (.array .int) true := ⟨RX1, TX1, 5, tyX1, rfl, by decide, rfl, inX1, tyX1_ok, nmX1, sa_at 172 (by decide +kernel) rfl, rfl, rfl, rfl⟩
theorem fd_X1_15 : sa_Fd RX1 15 1 1 (.array .int) true := ⟨RX1, TX1, 5, tyX1, rfl, by decide, rfl, inX1, tyX1_ok, nmX1, sa_at 176 (by decide +kernel) rfl, rfl, rfl, rfl⟩
theorem fd_X1_18 : sa_Fd RX1 18 1 2 (.array .int) true := ⟨RX1, TX1, 5, tyX1, rfl, by decide, rfl, inX1, tyX1_ok, nmX1, sa_at 177 (by decide +kernel) rfl, rfl, rfl, rfl⟩
theorem fd_X1_21 : sa_Fd RX1 21 1 3 (.array .int) true := ⟨RX1, TX1, 5, tyX1, rfl, by decide, rfl, inX1, tyX1_ok, nmX1, sa_at 178 (by decide +kernel) rfl, rfl, rfl, rfl⟩
theorem fd_X1_24 : sa_Fd RX1 24 1 4 (.array .int) true := ⟨RX1, TX1, 5, tyX1, rfl, by decide, rfl, inX1, tyX1_ok, nmX1, sa_at 179 (by decide +kernel) rfl, rfl, rfl, rfl⟩
theorem fd_X2_15 : sa_Fd RX2 15 2 1 (.array .int) true := ⟨RX2, TX2, 3, tyX2, rfl, by decide, rfl, inX2, tyX2_ok, nmX2, sa_at 216 (by decide +kernel) rfl, rfl, rfl, rfl⟩
theorem fd_X2_18 : sa_Fd RX2 18 2 2 .int false := ⟨RX2, TX2, 3, tyX2, rfl, by decide, rfl, inX2, tyX2_ok, nmX2, sa_at 217 (by decide +kernel) rfl, rfl, rfl, rfl⟩
theorem fd_X2_9 : sa_Fd RX2 9 2 0 (.array .int) true := ⟨RX2, TX2, 3, tyX2, rfl, by decide, rfl, inX2, tyX2_ok, nmX2, sa_at 215 (by decide +kernel) rfl, rfl, rfl, rfl⟩
theorem fd_X3_11 : sa_Fd RX3 11 3 0 (.array (.object "SaltArmy$Law")) true := ⟨RX3, TX3, 4, tyX3, rfl, by decide, rfl, inX3, tyX3_ok, nmX3, sa_at 226 (by decide +kernel) rfl, rfl, rfl, rfl⟩
theorem fd_X3_25 : sa_Fd RX3 25 3 1 (.array .int) true := ⟨RX3, TX3, 4, tyX3, rfl, by decide, rfl, inX3, tyX3_ok, nmX3, sa_at 228 (by decide +kernel) rfl, rfl, rfl, rfl⟩
theorem fd_X3_29 : sa_Fd RX3 29 3 3 .int false := ⟨RX3, TX3, 4, tyX3, rfl, by decide, rfl, inX3, tyX3_ok, nmX3, sa_at 231 (by decide +kernel) rfl, rfl, rfl, rfl⟩
theorem fd_X3_34 : sa_Fd RX3 34 3 2 .int false := ⟨RX3, TX3, 4, tyX3, rfl, by decide, rfl, inX3, tyX3_ok, nmX3, sa_at 229 (by decide +kernel) rfl, rfl, rfl, rfl⟩
theorem fd_X4_11 : sa_Fd RX4 11 4 0 (.array .int) true := ⟨RX4, TX4, 2, tyX4, rfl, by decide, rfl, inX4, tyX4_ok, nmX4, sa_at 249 (by decide +kernel) rfl, rfl, rfl, rfl⟩
theorem fd_X4_15 : sa_Fd RX4 15 4 1 .int false := ⟨RX4, TX4, 2, tyX4, rfl, by decide, rfl, inX4, tyX4_ok, nmX4, sa_at 250 (by decide +kernel) rfl, rfl, rfl, rfl⟩
theorem fd_X5_13 : sa_Fd RX5 13 5 0 (.array (.object "SaltArmy$Camp")) true := ⟨RX5, TX5, 5, tyX5, rfl, by decide, rfl, inX5, tyX5_ok, nmX5, sa_at 284 (by decide +kernel) rfl, rfl, rfl, rfl⟩
theorem fd_X5_18 : sa_Fd RX5 18 5 1 (.object "SaltArmy$Camp") true := ⟨RX5, TX5, 5, tyX5, rfl, by decide, rfl, inX5, tyX5_ok, nmX5, sa_at 285 (by decide +kernel) rfl, rfl, rfl, rfl⟩
theorem fd_X5_22 : sa_Fd RX5 22 5 4 .int false := ⟨RX5, TX5, 5, tyX5, rfl, by decide, rfl, inX5, tyX5_ok, nmX5, sa_at 288 (by decide +kernel) rfl, rfl, rfl, rfl⟩
theorem fd_X5_26 : sa_Fd RX5 26 5 2 .boolean false := ⟨RX5, TX5, 5, tyX5, rfl, by decide, rfl, inX5, tyX5_ok, nmX5, sa_at 286 (by decide +kernel) rfl, rfl, rfl, rfl⟩
theorem fd_X5_30 : sa_Fd RX5 30 5 3 .int false := ⟨RX5, TX5, 5, tyX5, rfl, by decide, rfl, inX5, tyX5_ok, nmX5, sa_at 287 (by decide +kernel) rfl, rfl, rfl, rfl⟩
theorem fd_X6_11 : sa_Fd RX6 11 6 0 (.array .int) true := ⟨RX6, TX6, 2, tyX6, rfl, by decide, rfl, inX6, tyX6_ok, nmX6, sa_at 310 (by decide +kernel) rfl, rfl, rfl, rfl⟩
theorem fd_X6_21 : sa_Fd RX6 21 6 1 .int false := ⟨RX6, TX6, 2, tyX6, rfl, by decide, rfl, inX6, tyX6_ok, nmX6, sa_at 311 (by decide +kernel) rfl, rfl, rfl, rfl⟩
theorem fd_X7_11 : sa_Fd RX7 11 7 0 (.array .int) true := ⟨RX7, TX7, 3, tyX7, rfl, by decide, rfl, inX7, tyX7_ok, nmX7, sa_at 153 (by decide +kernel) rfl, rfl, rfl, rfl⟩
theorem fd_X7_15 : sa_Fd RX7 15 7 1 .int false := ⟨RX7, TX7, 3, tyX7, rfl, by decide, rfl, inX7, tyX7_ok, nmX7, sa_at 155 (by decide +kernel) rfl, rfl, rfl, rfl⟩
theorem fd_X7_19 : sa_Fd RX7 19 7 2 .int false := ⟨RX7, TX7, 3, tyX7, rfl, by decide, rfl, inX7, tyX7_ok, nmX7, sa_at 156 (by decide +kernel) rfl, rfl, rfl, rfl⟩
theorem fd_X8_11 : sa_Fd RX8 11 8 0 (.array .int) true := ⟨RX8, TX8, 6, tyX8, rfl, by decide, rfl, inX8, tyX8_ok, nmX8, sa_at 389 (by decide +kernel) rfl, rfl, rfl, rfl⟩
theorem fd_X8_15 : sa_Fd RX8 15 8 1 (.array .int) true := ⟨RX8, TX8, 6, tyX8, rfl, by decide, rfl, inX8, tyX8_ok, nmX8, sa_at 390 (by decide +kernel) rfl, rfl, rfl, rfl⟩
theorem fd_X8_18 : sa_Fd RX8 18 8 3 (.array .int) true := ⟨RX8, TX8, 6, tyX8, rfl, by decide, rfl, inX8, tyX8_ok, nmX8, sa_at 393 (by decide +kernel) rfl, rfl, rfl, rfl⟩
theorem fd_X8_21 : sa_Fd RX8 21 8 4 (.array .int) true := ⟨RX8, TX8, 6, tyX8, rfl, by decide, rfl, inX8, tyX8_ok, nmX8, sa_at 394 (by decide +kernel) rfl, rfl, rfl, rfl⟩
theorem fd_X8_24 : sa_Fd RX8 24 8 2 .int false := ⟨RX8, TX8, 6, tyX8, rfl, by decide, rfl, inX8, tyX8_ok, nmX8, sa_at 391 (by decide +kernel) rfl, rfl, rfl, rfl⟩
theorem fd_X8_28 : sa_Fd RX8 28 8 5 .int false := ⟨RX8, TX8, 6, tyX8, rfl, by decide, rfl, inX8, tyX8_ok, nmX8, sa_at 395 (by decide +kernel) rfl, rfl, rfl, rfl⟩
theorem fd_X8_35 : sa_Fd RX8 35 9 5 .int false := ⟨RX9, TX9, 17, tyX9, rfl, by decide, rfl, inX9, tyX9_ok, nmX9, sa_at 335 (by decide +kernel) rfl, rfl, rfl, rfl⟩
theorem fd_X8_51 : sa_Fd RX8 51 9 2 (.object "SaltArmy$Land") false := ⟨RX9, TX9, 17, tyX9, rfl, by decide, rfl, inX9, tyX9_ok, nmX9, sa_at 329 (by decide +kernel) rfl, rfl, rfl, rfl⟩
theorem fd_X9_100 : sa_Fd RX9 100 1 0 (.array .int) true := ⟨RX1, TX1, 5, tyX1, rfl, by decide, rfl, inX1, tyX1_ok, nmX1, sa_at 174 (by decide +kernel) rfl, rfl, rfl, rfl⟩
theorem fd_X9_106 : sa_Fd RX9 106 9 15 .int false := ⟨RX9, TX9, 17, tyX9, rfl, by decide, rfl, inX9, tyX9_ok, nmX9, sa_at 345 (by decide +kernel) rfl, rfl, rfl, rfl⟩
theorem fd_X9_11 : sa_Fd RX9 11 9 10 (.array .int) true := ⟨RX9, TX9, 17, tyX9, rfl, by decide, rfl, inX9, tyX9_ok, nmX9, sa_at 340 (by decide +kernel) rfl, rfl, rfl, rfl⟩
theorem fd_X9_15 : sa_Fd RX9 15 9 11 (.array .int) true := ⟨RX9, TX9, 17, tyX9, rfl, by decide, rfl, inX9, tyX9_ok, nmX9, sa_at 341 (by decide +kernel) rfl, rfl, rfl, rfl⟩
theorem fd_X9_18 : sa_Fd RX9 18 9 12 (.array .int) true := ⟨RX9, TX9, 17, tyX9, rfl, by decide, rfl, inX9, tyX9_ok, nmX9, sa_at 342 (by decide +kernel) rfl, rfl, rfl, rfl⟩
theorem fd_X9_190 : sa_Fd RX9 190 9 4 .int false := ⟨RX9, TX9, 17, tyX9, rfl, by decide, rfl, inX9, tyX9_ok, nmX9, sa_at 332 (by decide +kernel) rfl, rfl, rfl, rfl⟩
theorem fd_X9_23 : sa_Fd RX9 23 9 13 (.array (.array .long)) true := ⟨RX9, TX9, 17, tyX9, rfl, by decide, rfl, inX9, tyX9_ok, nmX9, sa_at 343 (by decide +kernel) rfl, rfl, rfl, rfl⟩
theorem fd_X9_26 : sa_Fd RX9 26 9 14 (.array .int) true := ⟨RX9, TX9, 17, tyX9, rfl, by decide, rfl, inX9, tyX9_ok, nmX9, sa_at 344 (by decide +kernel) rfl, rfl, rfl, rfl⟩
theorem fd_X9_29 : sa_Fd RX9 29 9 16 (.array .long) true := ⟨RX9, TX9, 17, tyX9, rfl, by decide, rfl, inX9, tyX9_ok, nmX9, sa_at 346 (by decide +kernel) rfl, rfl, rfl, rfl⟩
theorem fd_X9_33 : sa_Fd RX9 33 9 0 (.object "SaltArmy$Laws") true := ⟨RX9, TX9, 17, tyX9, rfl, by decide, rfl, inX9, tyX9_ok, nmX9, sa_at 326 (by decide +kernel) rfl, rfl, rfl, rfl⟩
theorem fd_X9_37 : sa_Fd RX9 37 9 1 (.object "SaltArmy$Sky") true := ⟨RX9, TX9, 17, tyX9, rfl, by decide, rfl, inX9, tyX9_ok, nmX9, sa_at 327 (by decide +kernel) rfl, rfl, rfl, rfl⟩
theorem fd_X9_41 : sa_Fd RX9 41 9 3 .int false := ⟨RX9, TX9, 17, tyX9, rfl, by decide, rfl, inX9, tyX9_ok, nmX9, sa_at 330 (by decide +kernel) rfl, rfl, rfl, rfl⟩
theorem fd_X9_60 : sa_Fd RX9 60 9 2 (.object "SaltArmy$Land") false := ⟨RX9, TX9, 17, tyX9, rfl, by decide, rfl, inX9, tyX9_ok, nmX9, sa_at 328 (by decide +kernel) rfl, rfl, rfl, rfl⟩
theorem fd_X9_64 : sa_Fd RX9 64 9 5 .int false := ⟨RX9, TX9, 17, tyX9, rfl, by decide, rfl, inX9, tyX9_ok, nmX9, sa_at 334 (by decide +kernel) rfl, rfl, rfl, rfl⟩
theorem fd_X9_67 : sa_Fd RX9 67 9 6 .int false := ⟨RX9, TX9, 17, tyX9, rfl, by decide, rfl, inX9, tyX9_ok, nmX9, sa_at 336 (by decide +kernel) rfl, rfl, rfl, rfl⟩
theorem fd_X9_70 : sa_Fd RX9 70 9 7 .int false := ⟨RX9, TX9, 17, tyX9, rfl, by decide, rfl, inX9, tyX9_ok, nmX9, sa_at 337 (by decide +kernel) rfl, rfl, rfl, rfl⟩
theorem fd_X9_73 : sa_Fd RX9 73 0 0 (.array .int) true := ⟨RX0, TX0, 3, tyX0, rfl, by decide, rfl, inX0, tyX0_ok, nmX0, sa_at 264 (by decide +kernel) rfl, rfl, rfl, rfl⟩
theorem fd_X9_76 : sa_Fd RX9 76 9 8 .int false := ⟨RX9, TX9, 17, tyX9, rfl, by decide, rfl, inX9, tyX9_ok, nmX9, sa_at 338 (by decide +kernel) rfl, rfl, rfl, rfl⟩
theorem fd_X9_79 : sa_Fd RX9 79 9 9 .int false := ⟨RX9, TX9, 17, tyX9, rfl, by decide, rfl, inX9, tyX9_ok, nmX9, sa_at 339 (by decide +kernel) rfl, rfl, rfl, rfl⟩
theorem ds_J0_charAt_5068e : yJ0_charAt_5068e.cls ≠ "java/lang/invoke/MethodHandle" ∧ yJ0_charAt_5068e.cls ≠ "java/lang/invoke/VarHandle" ∧ (parseMethodDescriptor yJ0_charAt_5068e.desc).map (fun d => d.parameters.length) = some 1 := by decide +kernel
theorem ds_J0_checkIndex_df160 : yJ0_checkIndex_df160.cls ≠ "java/lang/invoke/MethodHandle" ∧ yJ0_checkIndex_df160.cls ≠ "java/lang/invoke/VarHandle" ∧ (parseMethodDescriptor yJ0_checkIndex_df160.desc).map (fun d => d.parameters.length) = some 2 := by decide +kernel
theorem ds_J0_coder_7d493 : yJ0_coder_7d493.cls ≠ "java/lang/invoke/MethodHandle" ∧ yJ0_coder_7d493.cls ≠ "java/lang/invoke/VarHandle" ∧ (parseMethodDescriptor yJ0_coder_7d493.desc).map (fun d => d.parameters.length) = some 0 := by decide +kernel
theorem ds_J0_indexOf_0f7a4 : yJ0_indexOf_0f7a4.cls ≠ "java/lang/invoke/MethodHandle" ∧ yJ0_indexOf_0f7a4.cls ≠ "java/lang/invoke/VarHandle" ∧ (parseMethodDescriptor yJ0_indexOf_0f7a4.desc).map (fun d => d.parameters.length) = some 1 := by decide +kernel
theorem ds_J0_indexOf_7cf53 : yJ0_indexOf_7cf53.cls ≠ "java/lang/invoke/MethodHandle" ∧ yJ0_indexOf_7cf53.cls ≠ "java/lang/invoke/VarHandle" ∧ (parseMethodDescriptor yJ0_indexOf_7cf53.desc).map (fun d => d.parameters.length) = some 2 := by decide +kernel
theorem ds_J0_isLatin1_aae02 : yJ0_isLatin1_aae02.cls ≠ "java/lang/invoke/MethodHandle" ∧ yJ0_isLatin1_aae02.cls ≠ "java/lang/invoke/VarHandle" ∧ (parseMethodDescriptor yJ0_isLatin1_aae02.desc).map (fun d => d.parameters.length) = some 0 := by decide +kernel
theorem ds_J0_length_8abf5 : yJ0_length_8abf5.cls ≠ "java/lang/invoke/MethodHandle" ∧ yJ0_length_8abf5.cls ≠ "java/lang/invoke/VarHandle" ∧ (parseMethodDescriptor yJ0_length_8abf5.desc).map (fun d => d.parameters.length) = some 0 := by decide +kernel
theorem ds_J1_canEncode_9a6ad : yJ1_canEncode_9a6ad.cls ≠ "java/lang/invoke/MethodHandle" ∧ yJ1_canEncode_9a6ad.cls ≠ "java/lang/invoke/VarHandle" ∧ (parseMethodDescriptor yJ1_canEncode_9a6ad.desc).map (fun d => d.parameters.length) = some 1 := by decide +kernel
theorem ds_J1_charAt_3b067 : yJ1_charAt_3b067.cls ≠ "java/lang/invoke/MethodHandle" ∧ yJ1_charAt_3b067.cls ≠ "java/lang/invoke/VarHandle" ∧ (parseMethodDescriptor yJ1_charAt_3b067.desc).map (fun d => d.parameters.length) = some 2 := by decide +kernel
theorem ds_J1_indexOfChar_4cfef : yJ1_indexOfChar_4cfef.cls ≠ "java/lang/invoke/MethodHandle" ∧ yJ1_indexOfChar_4cfef.cls ≠ "java/lang/invoke/VarHandle" ∧ (parseMethodDescriptor yJ1_indexOfChar_4cfef.desc).map (fun d => d.parameters.length) = some 4 := by decide +kernel
theorem ds_J1_indexOf_4cfef : yJ1_indexOf_4cfef.cls ≠ "java/lang/invoke/MethodHandle" ∧ yJ1_indexOf_4cfef.cls ≠ "java/lang/invoke/VarHandle" ∧ (parseMethodDescriptor yJ1_indexOf_4cfef.desc).map (fun d => d.parameters.length) = some 4 := by decide +kernel
theorem ds_J3_checkIndex_8e157 : yJ3_checkIndex_8e157.cls ≠ "java/lang/invoke/MethodHandle" ∧ yJ3_checkIndex_8e157.cls ≠ "java/lang/invoke/VarHandle" ∧ (parseMethodDescriptor yJ3_checkIndex_8e157.desc).map (fun d => d.parameters.length) = some 3 := by decide +kernel
theorem ds_J7_fill_53178 : yJ7_fill_53178.cls ≠ "java/lang/invoke/MethodHandle" ∧ yJ7_fill_53178.cls ≠ "java/lang/invoke/VarHandle" ∧ (parseMethodDescriptor yJ7_fill_53178.desc).map (fun d => d.parameters.length) = some 2 := by decide +kernel
theorem ds_J7_fill_d0a16 : yJ7_fill_d0a16.cls ≠ "java/lang/invoke/MethodHandle" ∧ yJ7_fill_d0a16.cls ≠ "java/lang/invoke/VarHandle" ∧ (parseMethodDescriptor yJ7_fill_d0a16.desc).map (fun d => d.parameters.length) = some 2 := by decide +kernel
theorem ds_X0_allGrains : yX0_allGrains.cls ≠ "java/lang/invoke/MethodHandle" ∧ yX0_allGrains.cls ≠ "java/lang/invoke/VarHandle" ∧ (parseMethodDescriptor yX0_allGrains.desc).map (fun d => d.parameters.length) = some 0 := by decide +kernel
theorem ds_X0_castAnew : yX0_castAnew.cls ≠ "java/lang/invoke/MethodHandle" ∧ yX0_castAnew.cls ≠ "java/lang/invoke/VarHandle" ∧ (parseMethodDescriptor yX0_castAnew.desc).map (fun d => d.parameters.length) = some 3 := by decide +kernel
theorem ds_X0_copyFrom : yX0_copyFrom.cls ≠ "java/lang/invoke/MethodHandle" ∧ yX0_copyFrom.cls ≠ "java/lang/invoke/VarHandle" ∧ (parseMethodDescriptor yX0_copyFrom.desc).map (fun d => d.parameters.length) = some 1 := by decide +kernel
theorem ds_X0_hasCompany : yX0_hasCompany.cls ≠ "java/lang/invoke/MethodHandle" ∧ yX0_hasCompany.cls ≠ "java/lang/invoke/VarHandle" ∧ (parseMethodDescriptor yX0_hasCompany.desc).map (fun d => d.parameters.length) = some 1 := by decide +kernel
theorem ds_X0_howManyHear : yX0_howManyHear.cls ≠ "java/lang/invoke/MethodHandle" ∧ yX0_howManyHear.cls ≠ "java/lang/invoke/VarHandle" ∧ (parseMethodDescriptor yX0_howManyHear.desc).map (fun d => d.parameters.length) = some 2 := by decide +kernel
theorem ds_X0_isAtPlace : yX0_isAtPlace.cls ≠ "java/lang/invoke/MethodHandle" ∧ yX0_isAtPlace.cls ≠ "java/lang/invoke/VarHandle" ∧ (parseMethodDescriptor yX0_isAtPlace.desc).map (fun d => d.parameters.length) = some 1 := by decide +kernel
theorem ds_X0_isNearOne : yX0_isNearOne.cls ≠ "java/lang/invoke/MethodHandle" ∧ yX0_isNearOne.cls ≠ "java/lang/invoke/VarHandle" ∧ (parseMethodDescriptor yX0_isNearOne.desc).map (fun d => d.parameters.length) = some 4 := by decide +kernel
theorem ds_X0_isUnderRoof : yX0_isUnderRoof.cls ≠ "java/lang/invoke/MethodHandle" ∧ yX0_isUnderRoof.cls ≠ "java/lang/invoke/VarHandle" ∧ (parseMethodDescriptor yX0_isUnderRoof.desc).map (fun d => d.parameters.length) = some 2 := by decide +kernel
theorem ds_X0_knownBy : yX0_knownBy.cls ≠ "java/lang/invoke/MethodHandle" ∧ yX0_knownBy.cls ≠ "java/lang/invoke/VarHandle" ∧ (parseMethodDescriptor yX0_knownBy.desc).map (fun d => d.parameters.length) = some 1 := by decide +kernel
theorem ds_X0_letDewFall : yX0_letDewFall.cls ≠ "java/lang/invoke/MethodHandle" ∧ yX0_letDewFall.cls ≠ "java/lang/invoke/VarHandle" ∧ (parseMethodDescriptor yX0_letDewFall.desc).map (fun d => d.parameters.length) = some 1 := by decide +kernel
theorem ds_X0_letRain : yX0_letRain.cls ≠ "java/lang/invoke/MethodHandle" ∧ yX0_letRain.cls ≠ "java/lang/invoke/VarHandle" ∧ (parseMethodDescriptor yX0_letRain.desc).map (fun d => d.parameters.length) = some 3 := by decide +kernel
theorem ds_X0_letWalk : yX0_letWalk.cls ≠ "java/lang/invoke/MethodHandle" ∧ yX0_letWalk.cls ≠ "java/lang/invoke/VarHandle" ∧ (parseMethodDescriptor yX0_letWalk.desc).map (fun d => d.parameters.length) = some 1 := by decide +kernel
theorem ds_X0_lives : yX0_lives.cls ≠ "java/lang/invoke/MethodHandle" ∧ yX0_lives.cls ≠ "java/lang/invoke/VarHandle" ∧ (parseMethodDescriptor yX0_lives.desc).map (fun d => d.parameters.length) = some 1 := by decide +kernel
theorem ds_X0_living : yX0_living.cls ≠ "java/lang/invoke/MethodHandle" ∧ yX0_living.cls ≠ "java/lang/invoke/VarHandle" ∧ (parseMethodDescriptor yX0_living.desc).map (fun d => d.parameters.length) = some 0 := by decide +kernel
theorem ds_X0_livingGrains : yX0_livingGrains.cls ≠ "java/lang/invoke/MethodHandle" ∧ yX0_livingGrains.cls ≠ "java/lang/invoke/VarHandle" ∧ (parseMethodDescriptor yX0_livingGrains.desc).map (fun d => d.parameters.length) = some 0 := by decide +kernel
theorem ds_X0_logSize : yX0_logSize.cls ≠ "java/lang/invoke/MethodHandle" ∧ yX0_logSize.cls ≠ "java/lang/invoke/VarHandle" ∧ (parseMethodDescriptor yX0_logSize.desc).map (fun d => d.parameters.length) = some 0 := by decide +kernel
theorem ds_X0_logged : yX0_logged.cls ≠ "java/lang/invoke/MethodHandle" ∧ yX0_logged.cls ≠ "java/lang/invoke/VarHandle" ∧ (parseMethodDescriptor yX0_logged.desc).map (fun d => d.parameters.length) = some 2 := by decide +kernel
theorem ds_X0_lose : yX0_lose.cls ≠ "java/lang/invoke/MethodHandle" ∧ yX0_lose.cls ≠ "java/lang/invoke/VarHandle" ∧ (parseMethodDescriptor yX0_lose.desc).map (fun d => d.parameters.length) = some 3 := by decide +kernel
theorem ds_X0_lossByRain : yX0_lossByRain.cls ≠ "java/lang/invoke/MethodHandle" ∧ yX0_lossByRain.cls ≠ "java/lang/invoke/VarHandle" ∧ (parseMethodDescriptor yX0_lossByRain.desc).map (fun d => d.parameters.length) = some 3 := by decide +kernel
theorem ds_X0_lowestAt : yX0_lowestAt.cls ≠ "java/lang/invoke/MethodHandle" ∧ yX0_lowestAt.cls ≠ "java/lang/invoke/VarHandle" ∧ (parseMethodDescriptor yX0_lowestAt.desc).map (fun d => d.parameters.length) = some 1 := by decide +kernel
theorem ds_X0_mine : yX0_mine.cls ≠ "java/lang/invoke/MethodHandle" ∧ yX0_mine.cls ≠ "java/lang/invoke/VarHandle" ∧ (parseMethodDescriptor yX0_mine.desc).map (fun d => d.parameters.length) = some 2 := by decide +kernel
theorem ds_X0_of : yX0_of.cls ≠ "java/lang/invoke/MethodHandle" ∧ yX0_of.cls ≠ "java/lang/invoke/VarHandle" ∧ (parseMethodDescriptor yX0_of.desc).map (fun d => d.parameters.length) = some 2 := by decide +kernel
theorem ds_X0_passHour : yX0_passHour.cls ≠ "java/lang/invoke/MethodHandle" ∧ yX0_passHour.cls ≠ "java/lang/invoke/VarHandle" ∧ (parseMethodDescriptor yX0_passHour.desc).map (fun d => d.parameters.length) = some 3 := by decide +kernel
theorem ds_X0_set : yX0_set.cls ≠ "java/lang/invoke/MethodHandle" ∧ yX0_set.cls ≠ "java/lang/invoke/VarHandle" ∧ (parseMethodDescriptor yX0_set.desc).map (fun d => d.parameters.length) = some 3 := by decide +kernel
theorem ds_X0_setOut : yX0_setOut.cls ≠ "java/lang/invoke/MethodHandle" ∧ yX0_setOut.cls ≠ "java/lang/invoke/VarHandle" ∧ (parseMethodDescriptor yX0_setOut.desc).map (fun d => d.parameters.length) = some 3 := by decide +kernel
theorem ds_X0_settleIn : yX0_settleIn.cls ≠ "java/lang/invoke/MethodHandle" ∧ yX0_settleIn.cls ≠ "java/lang/invoke/VarHandle" ∧ (parseMethodDescriptor yX0_settleIn.desc).map (fun d => d.parameters.length) = some 1 := by decide +kernel
theorem ds_X0_talkingWith : yX0_talkingWith.cls ≠ "java/lang/invoke/MethodHandle" ∧ yX0_talkingWith.cls ≠ "java/lang/invoke/VarHandle" ∧ (parseMethodDescriptor yX0_talkingWith.desc).map (fun d => d.parameters.length) = some 3 := by decide +kernel
theorem ds_X0_throwBuckets : yX0_throwBuckets.cls ≠ "java/lang/invoke/MethodHandle" ∧ yX0_throwBuckets.cls ≠ "java/lang/invoke/VarHandle" ∧ (parseMethodDescriptor yX0_throwBuckets.desc).map (fun d => d.parameters.length) = some 1 := by decide +kernel
theorem ds_X0_unite : yX0_unite.cls ≠ "java/lang/invoke/MethodHandle" ∧ yX0_unite.cls ≠ "java/lang/invoke/VarHandle" ∧ (parseMethodDescriptor yX0_unite.desc).map (fun d => d.parameters.length) = some 2 := by decide +kernel
theorem ds_X0_weakestOne : yX0_weakestOne.cls ≠ "java/lang/invoke/MethodHandle" ∧ yX0_weakestOne.cls ≠ "java/lang/invoke/VarHandle" ∧ (parseMethodDescriptor yX0_weakestOne.desc).map (fun d => d.parameters.length) = some 0 := by decide +kernel
theorem ds_X0_whoKnows : yX0_whoKnows.cls ≠ "java/lang/invoke/MethodHandle" ∧ yX0_whoKnows.cls ≠ "java/lang/invoke/VarHandle" ∧ (parseMethodDescriptor yX0_whoKnows.desc).map (fun d => d.parameters.length) = some 1 := by decide +kernel
theorem ds_X10_row : yX10_row.cls ≠ "java/lang/invoke/MethodHandle" ∧ yX10_row.cls ≠ "java/lang/invoke/VarHandle" ∧ (parseMethodDescriptor yX10_row.desc).map (fun d => d.parameters.length) = some 2 := by decide +kernel
theorem ds_X10_rows : yX10_rows.cls ≠ "java/lang/invoke/MethodHandle" ∧ yX10_rows.cls ≠ "java/lang/invoke/VarHandle" ∧ (parseMethodDescriptor yX10_rows.desc).map (fun d => d.parameters.length) = some 1 := by decide +kernel
theorem ds_X10_rowsBehind : yX10_rowsBehind.cls ≠ "java/lang/invoke/MethodHandle" ∧ yX10_rowsBehind.cls ≠ "java/lang/invoke/VarHandle" ∧ (parseMethodDescriptor yX10_rowsBehind.desc).map (fun d => d.parameters.length) = some 2 := by decide +kernel
theorem ds_X10_set : yX10_set.cls ≠ "java/lang/invoke/MethodHandle" ∧ yX10_set.cls ≠ "java/lang/invoke/VarHandle" ∧ (parseMethodDescriptor yX10_set.desc).map (fun d => d.parameters.length) = some 3 := by decide +kernel
theorem ds_X11_act : yX11_act.cls ≠ "java/lang/invoke/MethodHandle" ∧ yX11_act.cls ≠ "java/lang/invoke/VarHandle" ∧ (parseMethodDescriptor yX11_act.desc).map (fun d => d.parameters.length) = some 3 := by decide +kernel
theorem ds_X11_areNights : yX11_areNights.cls ≠ "java/lang/invoke/MethodHandle" ∧ yX11_areNights.cls ≠ "java/lang/invoke/VarHandle" ∧ (parseMethodDescriptor yX11_areNights.desc).map (fun d => d.parameters.length) = some 2 := by decide +kernel
theorem ds_X11_findsJourney : yX11_findsJourney.cls ≠ "java/lang/invoke/MethodHandle" ∧ yX11_findsJourney.cls ≠ "java/lang/invoke/VarHandle" ∧ (parseMethodDescriptor yX11_findsJourney.desc).map (fun d => d.parameters.length) = some 2 := by decide +kernel
theorem ds_X11_hasOrders : yX11_hasOrders.cls ≠ "java/lang/invoke/MethodHandle" ∧ yX11_hasOrders.cls ≠ "java/lang/invoke/VarHandle" ∧ (parseMethodDescriptor yX11_hasOrders.desc).map (fun d => d.parameters.length) = some 1 := by decide +kernel
theorem ds_X11_isFull : yX11_isFull.cls ≠ "java/lang/invoke/MethodHandle" ∧ yX11_isFull.cls ≠ "java/lang/invoke/VarHandle" ∧ (parseMethodDescriptor yX11_isFull.desc).map (fun d => d.parameters.length) = some 1 := by decide +kernel
theorem ds_X11_obey : yX11_obey.cls ≠ "java/lang/invoke/MethodHandle" ∧ yX11_obey.cls ≠ "java/lang/invoke/VarHandle" ∧ (parseMethodDescriptor yX11_obey.desc).map (fun d => d.parameters.length) = some 4 := by decide +kernel
theorem ds_X11_readTape : yX11_readTape.cls ≠ "java/lang/invoke/MethodHandle" ∧ yX11_readTape.cls ≠ "java/lang/invoke/VarHandle" ∧ (parseMethodDescriptor yX11_readTape.desc).map (fun d => d.parameters.length) = some 1 := by decide +kernel
theorem ds_X11_settleLand : yX11_settleLand.cls ≠ "java/lang/invoke/MethodHandle" ∧ yX11_settleLand.cls ≠ "java/lang/invoke/VarHandle" ∧ (parseMethodDescriptor yX11_settleLand.desc).map (fun d => d.parameters.length) = some 0 := by decide +kernel
theorem ds_X12_allGrains : yX12_allGrains.cls ≠ "java/lang/invoke/MethodHandle" ∧ yX12_allGrains.cls ≠ "java/lang/invoke/VarHandle" ∧ (parseMethodDescriptor yX12_allGrains.desc).map (fun d => d.parameters.length) = some 0 := by decide +kernel
theorem ds_X12_areNights : yX12_areNights.cls ≠ "java/lang/invoke/MethodHandle" ∧ yX12_areNights.cls ≠ "java/lang/invoke/VarHandle" ∧ (parseMethodDescriptor yX12_areNights.desc).map (fun d => d.parameters.length) = some 2 := by decide +kernel
theorem ds_X12_arrives : yX12_arrives.cls ≠ "java/lang/invoke/MethodHandle" ∧ yX12_arrives.cls ≠ "java/lang/invoke/VarHandle" ∧ (parseMethodDescriptor yX12_arrives.desc).map (fun d => d.parameters.length) = some 2 := by decide +kernel
theorem ds_X12_atom : yX12_atom.cls ≠ "java/lang/invoke/MethodHandle" ∧ yX12_atom.cls ≠ "java/lang/invoke/VarHandle" ∧ (parseMethodDescriptor yX12_atom.desc).map (fun d => d.parameters.length) = some 0 := by decide +kernel
theorem ds_X12_beginsParts : yX12_beginsParts.cls ≠ "java/lang/invoke/MethodHandle" ∧ yX12_beginsParts.cls ≠ "java/lang/invoke/VarHandle" ∧ (parseMethodDescriptor yX12_beginsParts.desc).map (fun d => d.parameters.length) = some 1 := by decide +kernel
theorem ds_X12_bytesIn : yX12_bytesIn.cls ≠ "java/lang/invoke/MethodHandle" ∧ yX12_bytesIn.cls ≠ "java/lang/invoke/VarHandle" ∧ (parseMethodDescriptor yX12_bytesIn.desc).map (fun d => d.parameters.length) = some 1 := by decide +kernel
theorem ds_X12_canCast : yX12_canCast.cls ≠ "java/lang/invoke/MethodHandle" ∧ yX12_canCast.cls ≠ "java/lang/invoke/VarHandle" ∧ (parseMethodDescriptor yX12_canCast.desc).map (fun d => d.parameters.length) = some 2 := by decide +kernel
theorem ds_X12_canDig : yX12_canDig.cls ≠ "java/lang/invoke/MethodHandle" ∧ yX12_canDig.cls ≠ "java/lang/invoke/VarHandle" ∧ (parseMethodDescriptor yX12_canDig.desc).map (fun d => d.parameters.length) = some 2 := by decide +kernel
theorem ds_X12_canJoin : yX12_canJoin.cls ≠ "java/lang/invoke/MethodHandle" ∧ yX12_canJoin.cls ≠ "java/lang/invoke/VarHandle" ∧ (parseMethodDescriptor yX12_canJoin.desc).map (fun d => d.parameters.length) = some 3 := by decide +kernel
theorem ds_X12_canMarch : yX12_canMarch.cls ≠ "java/lang/invoke/MethodHandle" ∧ yX12_canMarch.cls ≠ "java/lang/invoke/VarHandle" ∧ (parseMethodDescriptor yX12_canMarch.desc).map (fun d => d.parameters.length) = some 3 := by decide +kernel
theorem ds_X12_canStep : yX12_canStep.cls ≠ "java/lang/invoke/MethodHandle" ∧ yX12_canStep.cls ≠ "java/lang/invoke/VarHandle" ∧ (parseMethodDescriptor yX12_canStep.desc).map (fun d => d.parameters.length) = some 2 := by decide +kernel
theorem ds_X12_casts : yX12_casts.cls ≠ "java/lang/invoke/MethodHandle" ∧ yX12_casts.cls ≠ "java/lang/invoke/VarHandle" ∧ (parseMethodDescriptor yX12_casts.desc).map (fun d => d.parameters.length) = some 3 := by decide +kernel
theorem ds_X12_chanceAt : yX12_chanceAt.cls ≠ "java/lang/invoke/MethodHandle" ∧ yX12_chanceAt.cls ≠ "java/lang/invoke/VarHandle" ∧ (parseMethodDescriptor yX12_chanceAt.desc).map (fun d => d.parameters.length) = some 2 := by decide +kernel
theorem ds_X12_clause : yX12_clause.cls ≠ "java/lang/invoke/MethodHandle" ∧ yX12_clause.cls ≠ "java/lang/invoke/VarHandle" ∧ (parseMethodDescriptor yX12_clause.desc).map (fun d => d.parameters.length) = some 0 := by decide +kernel
theorem ds_X12_compares : yX12_compares.cls ≠ "java/lang/invoke/MethodHandle" ∧ yX12_compares.cls ≠ "java/lang/invoke/VarHandle" ∧ (parseMethodDescriptor yX12_compares.desc).map (fun d => d.parameters.length) = some 2 := by decide +kernel
theorem ds_X12_condition : yX12_condition.cls ≠ "java/lang/invoke/MethodHandle" ∧ yX12_condition.cls ≠ "java/lang/invoke/VarHandle" ∧ (parseMethodDescriptor yX12_condition.desc).map (fun d => d.parameters.length) = some 2 := by decide +kernel
theorem ds_X12_copy : yX12_copy.cls ≠ "java/lang/invoke/MethodHandle" ∧ yX12_copy.cls ≠ "java/lang/invoke/VarHandle" ∧ (parseMethodDescriptor yX12_copy.desc).map (fun d => d.parameters.length) = some 2 := by decide +kernel
theorem ds_X12_digit : yX12_digit.cls ≠ "java/lang/invoke/MethodHandle" ∧ yX12_digit.cls ≠ "java/lang/invoke/VarHandle" ∧ (parseMethodDescriptor yX12_digit.desc).map (fun d => d.parameters.length) = some 0 := by decide +kernel
theorem ds_X12_digs : yX12_digs.cls ≠ "java/lang/invoke/MethodHandle" ∧ yX12_digs.cls ≠ "java/lang/invoke/VarHandle" ∧ (parseMethodDescriptor yX12_digs.desc).map (fun d => d.parameters.length) = some 2 := by decide +kernel
theorem ds_X12_does : yX12_does.cls ≠ "java/lang/invoke/MethodHandle" ∧ yX12_does.cls ≠ "java/lang/invoke/VarHandle" ∧ (parseMethodDescriptor yX12_does.desc).map (fun d => d.parameters.length) = some 2 := by decide +kernel
theorem ds_X12_draw : yX12_draw.cls ≠ "java/lang/invoke/MethodHandle" ∧ yX12_draw.cls ≠ "java/lang/invoke/VarHandle" ∧ (parseMethodDescriptor yX12_draw.desc).map (fun d => d.parameters.length) = some 1 := by decide +kernel
theorem ds_X12_fails : yX12_fails.cls ≠ "java/lang/invoke/MethodHandle" ∧ yX12_fails.cls ≠ "java/lang/invoke/VarHandle" ∧ (parseMethodDescriptor yX12_fails.desc).map (fun d => d.parameters.length) = some 0 := by decide +kernel
theorem ds_X12_fault : yX12_fault.cls ≠ "java/lang/invoke/MethodHandle" ∧ yX12_fault.cls ≠ "java/lang/invoke/VarHandle" ∧ (parseMethodDescriptor yX12_fault.desc).map (fun d => d.parameters.length) = some 1 := by decide +kernel
theorem ds_X12_goHour : yX12_goHour.cls ≠ "java/lang/invoke/MethodHandle" ∧ yX12_goHour.cls ≠ "java/lang/invoke/VarHandle" ∧ (parseMethodDescriptor yX12_goHour.desc).map (fun d => d.parameters.length) = some 2 := by decide +kernel
theorem ds_X12_goJourneys : yX12_goJourneys.cls ≠ "java/lang/invoke/MethodHandle" ∧ yX12_goJourneys.cls ≠ "java/lang/invoke/VarHandle" ∧ (parseMethodDescriptor yX12_goJourneys.desc).map (fun d => d.parameters.length) = some 4 := by decide +kernel
theorem ds_X12_goPath : yX12_goPath.cls ≠ "java/lang/invoke/MethodHandle" ∧ yX12_goPath.cls ≠ "java/lang/invoke/VarHandle" ∧ (parseMethodDescriptor yX12_goPath.desc).map (fun d => d.parameters.length) = some 3 := by decide +kernel
theorem ds_X12_goPickets : yX12_goPickets.cls ≠ "java/lang/invoke/MethodHandle" ∧ yX12_goPickets.cls ≠ "java/lang/invoke/VarHandle" ∧ (parseMethodDescriptor yX12_goPickets.desc).map (fun d => d.parameters.length) = some 4 := by decide +kernel
theorem ds_X12_goThrough : yX12_goThrough.cls ≠ "java/lang/invoke/MethodHandle" ∧ yX12_goThrough.cls ≠ "java/lang/invoke/VarHandle" ∧ (parseMethodDescriptor yX12_goThrough.desc).map (fun d => d.parameters.length) = some 3 := by decide +kernel
theorem ds_X12_goesIn : yX12_goesIn.cls ≠ "java/lang/invoke/MethodHandle" ∧ yX12_goesIn.cls ≠ "java/lang/invoke/VarHandle" ∧ (parseMethodDescriptor yX12_goesIn.desc).map (fun d => d.parameters.length) = some 0 := by decide +kernel
theorem ds_X12_grainsOf : yX12_grainsOf.cls ≠ "java/lang/invoke/MethodHandle" ∧ yX12_grainsOf.cls ≠ "java/lang/invoke/VarHandle" ∧ (parseMethodDescriptor yX12_grainsOf.desc).map (fun d => d.parameters.length) = some 1 := by decide +kernel
theorem ds_X12_has : yX12_has.cls ≠ "java/lang/invoke/MethodHandle" ∧ yX12_has.cls ≠ "java/lang/invoke/VarHandle" ∧ (parseMethodDescriptor yX12_has.desc).map (fun d => d.parameters.length) = some 2 := by decide +kernel
theorem ds_X12_here : yX12_here.cls ≠ "java/lang/invoke/MethodHandle" ∧ yX12_here.cls ≠ "java/lang/invoke/VarHandle" ∧ (parseMethodDescriptor yX12_here.desc).map (fun d => d.parameters.length) = some 0 := by decide +kernel
theorem ds_X12_isAmong : yX12_isAmong.cls ≠ "java/lang/invoke/MethodHandle" ∧ yX12_isAmong.cls ≠ "java/lang/invoke/VarHandle" ∧ (parseMethodDescriptor yX12_isAmong.desc).map (fun d => d.parameters.length) = some 2 := by decide +kernel
theorem ds_X12_isDigit : yX12_isDigit.cls ≠ "java/lang/invoke/MethodHandle" ∧ yX12_isDigit.cls ≠ "java/lang/invoke/VarHandle" ∧ (parseMethodDescriptor yX12_isDigit.desc).map (fun d => d.parameters.length) = some 0 := by decide +kernel
theorem ds_X12_isIn : yX12_isIn.cls ≠ "java/lang/invoke/MethodHandle" ∧ yX12_isIn.cls ≠ "java/lang/invoke/VarHandle" ∧ (parseMethodDescriptor yX12_isIn.desc).map (fun d => d.parameters.length) = some 3 := by decide +kernel
theorem ds_X12_isNear : yX12_isNear.cls ≠ "java/lang/invoke/MethodHandle" ∧ yX12_isNear.cls ≠ "java/lang/invoke/VarHandle" ∧ (parseMethodDescriptor yX12_isNear.desc).map (fun d => d.parameters.length) = some 3 := by decide +kernel
theorem ds_X12_isPlace : yX12_isPlace.cls ≠ "java/lang/invoke/MethodHandle" ∧ yX12_isPlace.cls ≠ "java/lang/invoke/VarHandle" ∧ (parseMethodDescriptor yX12_isPlace.desc).map (fun d => d.parameters.length) = some 1 := by decide +kernel
theorem ds_X12_isRoofed : yX12_isRoofed.cls ≠ "java/lang/invoke/MethodHandle" ∧ yX12_isRoofed.cls ≠ "java/lang/invoke/VarHandle" ∧ (parseMethodDescriptor yX12_isRoofed.desc).map (fun d => d.parameters.length) = some 1 := by decide +kernel
theorem ds_X12_isSign : yX12_isSign.cls ≠ "java/lang/invoke/MethodHandle" ∧ yX12_isSign.cls ≠ "java/lang/invoke/VarHandle" ∧ (parseMethodDescriptor yX12_isSign.desc).map (fun d => d.parameters.length) = some 1 := by decide +kernel
theorem ds_X12_isSo : yX12_isSo.cls ≠ "java/lang/invoke/MethodHandle" ∧ yX12_isSo.cls ≠ "java/lang/invoke/VarHandle" ∧ (parseMethodDescriptor yX12_isSo.desc).map (fun d => d.parameters.length) = some 2 := by decide +kernel
theorem ds_X12_isThere : yX12_isThere.cls ≠ "java/lang/invoke/MethodHandle" ∧ yX12_isThere.cls ≠ "java/lang/invoke/VarHandle" ∧ (parseMethodDescriptor yX12_isThere.desc).map (fun d => d.parameters.length) = some 2 := by decide +kernel
theorem ds_X12_isWhole : yX12_isWhole.cls ≠ "java/lang/invoke/MethodHandle" ∧ yX12_isWhole.cls ≠ "java/lang/invoke/VarHandle" ∧ (parseMethodDescriptor yX12_isWhole.desc).map (fun d => d.parameters.length) = some 0 := by decide +kernel
theorem ds_X12_joins : yX12_joins.cls ≠ "java/lang/invoke/MethodHandle" ∧ yX12_joins.cls ≠ "java/lang/invoke/VarHandle" ∧ (parseMethodDescriptor yX12_joins.desc).map (fun d => d.parameters.length) = some 3 := by decide +kernel
theorem ds_X12_layApart : yX12_layApart.cls ≠ "java/lang/invoke/MethodHandle" ∧ yX12_layApart.cls ≠ "java/lang/invoke/VarHandle" ∧ (parseMethodDescriptor yX12_layApart.desc).map (fun d => d.parameters.length) = some 1 := by decide +kernel
theorem ds_X12_layBest : yX12_layBest.cls ≠ "java/lang/invoke/MethodHandle" ∧ yX12_layBest.cls ≠ "java/lang/invoke/VarHandle" ∧ (parseMethodDescriptor yX12_layBest.desc).map (fun d => d.parameters.length) = some 3 := by decide +kernel
theorem ds_X12_layPickets : yX12_layPickets.cls ≠ "java/lang/invoke/MethodHandle" ∧ yX12_layPickets.cls ≠ "java/lang/invoke/VarHandle" ∧ (parseMethodDescriptor yX12_layPickets.desc).map (fun d => d.parameters.length) = some 2 := by decide +kernel
theorem ds_X12_leastOf : yX12_leastOf.cls ≠ "java/lang/invoke/MethodHandle" ∧ yX12_leastOf.cls ≠ "java/lang/invoke/VarHandle" ∧ (parseMethodDescriptor yX12_leastOf.desc).map (fun d => d.parameters.length) = some 2 := by decide +kernel
theorem ds_X12_lives : yX12_lives.cls ≠ "java/lang/invoke/MethodHandle" ∧ yX12_lives.cls ≠ "java/lang/invoke/VarHandle" ∧ (parseMethodDescriptor yX12_lives.desc).map (fun d => d.parameters.length) = some 2 := by decide +kernel
theorem ds_X12_living : yX12_living.cls ≠ "java/lang/invoke/MethodHandle" ∧ yX12_living.cls ≠ "java/lang/invoke/VarHandle" ∧ (parseMethodDescriptor yX12_living.desc).map (fun d => d.parameters.length) = some 0 := by decide +kernel
theorem ds_X12_look : yX12_look.cls ≠ "java/lang/invoke/MethodHandle" ∧ yX12_look.cls ≠ "java/lang/invoke/VarHandle" ∧ (parseMethodDescriptor yX12_look.desc).map (fun d => d.parameters.length) = some 0 := by decide +kernel
theorem ds_X12_looksAtAmbush : yX12_looksAtAmbush.cls ≠ "java/lang/invoke/MethodHandle" ∧ yX12_looksAtAmbush.cls ≠ "java/lang/invoke/VarHandle" ∧ (parseMethodDescriptor yX12_looksAtAmbush.desc).map (fun d => d.parameters.length) = some 1 := by decide +kernel
theorem ds_X12_loses : yX12_loses.cls ≠ "java/lang/invoke/MethodHandle" ∧ yX12_loses.cls ≠ "java/lang/invoke/VarHandle" ∧ (parseMethodDescriptor yX12_loses.desc).map (fun d => d.parameters.length) = some 4 := by decide +kernel
theorem ds_X12_marches : yX12_marches.cls ≠ "java/lang/invoke/MethodHandle" ∧ yX12_marches.cls ≠ "java/lang/invoke/VarHandle" ∧ (parseMethodDescriptor yX12_marches.desc).map (fun d => d.parameters.length) = some 3 := by decide +kernel
theorem ds_X12_meanBy : yX12_meanBy.cls ≠ "java/lang/invoke/MethodHandle" ∧ yX12_meanBy.cls ≠ "java/lang/invoke/VarHandle" ∧ (parseMethodDescriptor yX12_meanBy.desc).map (fun d => d.parameters.length) = some 4 := by decide +kernel
theorem ds_X12_meanNow : yX12_meanNow.cls ≠ "java/lang/invoke/MethodHandle" ∧ yX12_meanNow.cls ≠ "java/lang/invoke/VarHandle" ∧ (parseMethodDescriptor yX12_meanNow.desc).map (fun d => d.parameters.length) = some 0 := by decide +kernel
theorem ds_X12_mostOf : yX12_mostOf.cls ≠ "java/lang/invoke/MethodHandle" ∧ yX12_mostOf.cls ≠ "java/lang/invoke/VarHandle" ∧ (parseMethodDescriptor yX12_mostOf.desc).map (fun d => d.parameters.length) = some 2 := by decide +kernel
theorem ds_X12_part : yX12_part.cls ≠ "java/lang/invoke/MethodHandle" ∧ yX12_part.cls ≠ "java/lang/invoke/VarHandle" ∧ (parseMethodDescriptor yX12_part.desc).map (fun d => d.parameters.length) = some 2 := by decide +kernel
theorem ds_X12_placeOf : yX12_placeOf.cls ≠ "java/lang/invoke/MethodHandle" ∧ yX12_placeOf.cls ≠ "java/lang/invoke/VarHandle" ∧ (parseMethodDescriptor yX12_placeOf.desc).map (fun d => d.parameters.length) = some 2 := by decide +kernel
theorem ds_X12_put : yX12_put.cls ≠ "java/lang/invoke/MethodHandle" ∧ yX12_put.cls ≠ "java/lang/invoke/VarHandle" ∧ (parseMethodDescriptor yX12_put.desc).map (fun d => d.parameters.length) = some 1 := by decide +kernel
theorem ds_X12_rainsOn : yX12_rainsOn.cls ≠ "java/lang/invoke/MethodHandle" ∧ yX12_rainsOn.cls ≠ "java/lang/invoke/VarHandle" ∧ (parseMethodDescriptor yX12_rainsOn.desc).map (fun d => d.parameters.length) = some 1 := by decide +kernel
theorem ds_X12_readClause : yX12_readClause.cls ≠ "java/lang/invoke/MethodHandle" ∧ yX12_readClause.cls ≠ "java/lang/invoke/VarHandle" ∧ (parseMethodDescriptor yX12_readClause.desc).map (fun d => d.parameters.length) = some 0 := by decide +kernel
theorem ds_X12_readItem : yX12_readItem.cls ≠ "java/lang/invoke/MethodHandle" ∧ yX12_readItem.cls ≠ "java/lang/invoke/VarHandle" ∧ (parseMethodDescriptor yX12_readItem.desc).map (fun d => d.parameters.length) = some 4 := by decide +kernel
theorem ds_X12_readItems : yX12_readItems.cls ≠ "java/lang/invoke/MethodHandle" ∧ yX12_readItems.cls ≠ "java/lang/invoke/VarHandle" ∧ (parseMethodDescriptor yX12_readItems.desc).map (fun d => d.parameters.length) = some 4 := by decide +kernel
theorem ds_X12_readLand : yX12_readLand.cls ≠ "java/lang/invoke/MethodHandle" ∧ yX12_readLand.cls ≠ "java/lang/invoke/VarHandle" ∧ (parseMethodDescriptor yX12_readLand.desc).map (fun d => d.parameters.length) = some 0 := by decide +kernel
theorem ds_X12_readOrders : yX12_readOrders.cls ≠ "java/lang/invoke/MethodHandle" ∧ yX12_readOrders.cls ≠ "java/lang/invoke/VarHandle" ∧ (parseMethodDescriptor yX12_readOrders.desc).map (fun d => d.parameters.length) = some 0 := by decide +kernel
theorem ds_X12_readStep : yX12_readStep.cls ≠ "java/lang/invoke/MethodHandle" ∧ yX12_readStep.cls ≠ "java/lang/invoke/VarHandle" ∧ (parseMethodDescriptor yX12_readStep.desc).map (fun d => d.parameters.length) = some 1 := by decide +kernel
theorem ds_X12_remember : yX12_remember.cls ≠ "java/lang/invoke/MethodHandle" ∧ yX12_remember.cls ≠ "java/lang/invoke/VarHandle" ∧ (parseMethodDescriptor yX12_remember.desc).map (fun d => d.parameters.length) = some 0 := by decide +kernel
theorem ds_X12_shifts : yX12_shifts.cls ≠ "java/lang/invoke/MethodHandle" ∧ yX12_shifts.cls ≠ "java/lang/invoke/VarHandle" ∧ (parseMethodDescriptor yX12_shifts.desc).map (fun d => d.parameters.length) = some 1 := by decide +kernel
theorem ds_X12_shortens : yX12_shortens.cls ≠ "java/lang/invoke/MethodHandle" ∧ yX12_shortens.cls ≠ "java/lang/invoke/VarHandle" ∧ (parseMethodDescriptor yX12_shortens.desc).map (fun d => d.parameters.length) = some 3 := by decide +kernel
theorem ds_X12_starts : yX12_starts.cls ≠ "java/lang/invoke/MethodHandle" ∧ yX12_starts.cls ≠ "java/lang/invoke/VarHandle" ∧ (parseMethodDescriptor yX12_starts.desc).map (fun d => d.parameters.length) = some 3 := by decide +kernel
theorem ds_X12_sum : yX12_sum.cls ≠ "java/lang/invoke/MethodHandle" ∧ yX12_sum.cls ≠ "java/lang/invoke/VarHandle" ∧ (parseMethodDescriptor yX12_sum.desc).map (fun d => d.parameters.length) = some 0 := by decide +kernel
theorem ds_X12_sureNow : yX12_sureNow.cls ≠ "java/lang/invoke/MethodHandle" ∧ yX12_sureNow.cls ≠ "java/lang/invoke/VarHandle" ∧ (parseMethodDescriptor yX12_sureNow.desc).map (fun d => d.parameters.length) = some 0 := by decide +kernel
theorem ds_X12_takes : yX12_takes.cls ≠ "java/lang/invoke/MethodHandle" ∧ yX12_takes.cls ≠ "java/lang/invoke/VarHandle" ∧ (parseMethodDescriptor yX12_takes.desc).map (fun d => d.parameters.length) = some 1 := by decide +kernel
theorem ds_X12_takesPath : yX12_takesPath.cls ≠ "java/lang/invoke/MethodHandle" ∧ yX12_takesPath.cls ≠ "java/lang/invoke/VarHandle" ∧ (parseMethodDescriptor yX12_takesPath.desc).map (fun d => d.parameters.length) = some 0 := by decide +kernel
theorem ds_X12_term : yX12_term.cls ≠ "java/lang/invoke/MethodHandle" ∧ yX12_term.cls ≠ "java/lang/invoke/VarHandle" ∧ (parseMethodDescriptor yX12_term.desc).map (fun d => d.parameters.length) = some 0 := by decide +kernel
theorem ds_X12_throwsAt : yX12_throwsAt.cls ≠ "java/lang/invoke/MethodHandle" ∧ yX12_throwsAt.cls ≠ "java/lang/invoke/VarHandle" ∧ (parseMethodDescriptor yX12_throwsAt.desc).map (fun d => d.parameters.length) = some 2 := by decide +kernel
theorem ds_X12_unit : yX12_unit.cls ≠ "java/lang/invoke/MethodHandle" ∧ yX12_unit.cls ≠ "java/lang/invoke/VarHandle" ∧ (parseMethodDescriptor yX12_unit.desc).map (fun d => d.parameters.length) = some 0 := by decide +kernel
theorem ds_X12_usual : yX12_usual.cls ≠ "java/lang/invoke/MethodHandle" ∧ yX12_usual.cls ≠ "java/lang/invoke/VarHandle" ∧ (parseMethodDescriptor yX12_usual.desc).map (fun d => d.parameters.length) = some 2 := by decide +kernel
theorem ds_X12_wayOf : yX12_wayOf.cls ≠ "java/lang/invoke/MethodHandle" ∧ yX12_wayOf.cls ≠ "java/lang/invoke/VarHandle" ∧ (parseMethodDescriptor yX12_wayOf.desc).map (fun d => d.parameters.length) = some 2 := by decide +kernel
theorem ds_X12_wearBy : yX12_wearBy.cls ≠ "java/lang/invoke/MethodHandle" ∧ yX12_wearBy.cls ≠ "java/lang/invoke/VarHandle" ∧ (parseMethodDescriptor yX12_wearBy.desc).map (fun d => d.parameters.length) = some 5 := by decide +kernel
theorem ds_X12_wearOf : yX12_wearOf.cls ≠ "java/lang/invoke/MethodHandle" ∧ yX12_wearOf.cls ≠ "java/lang/invoke/VarHandle" ∧ (parseMethodDescriptor yX12_wearOf.desc).map (fun d => d.parameters.length) = some 2 := by decide +kernel
theorem ds_X12_within : yX12_within.cls ≠ "java/lang/invoke/MethodHandle" ∧ yX12_within.cls ≠ "java/lang/invoke/VarHandle" ∧ (parseMethodDescriptor yX12_within.desc).map (fun d => d.parameters.length) = some 1 := by decide +kernel
theorem ds_X12_writes : yX12_writes.cls ≠ "java/lang/invoke/MethodHandle" ∧ yX12_writes.cls ≠ "java/lang/invoke/VarHandle" ∧ (parseMethodDescriptor yX12_writes.desc).map (fun d => d.parameters.length) = some 2 := by decide +kernel
theorem ds_X1_allPlaces : yX1_allPlaces.cls ≠ "java/lang/invoke/MethodHandle" ∧ yX1_allPlaces.cls ≠ "java/lang/invoke/VarHandle" ∧ (parseMethodDescriptor yX1_allPlaces.desc).map (fun d => d.parameters.length) = some 0 := by decide +kernel
theorem ds_X1_areAtPlaces : yX1_areAtPlaces.cls ≠ "java/lang/invoke/MethodHandle" ∧ yX1_areAtPlaces.cls ≠ "java/lang/invoke/VarHandle" ∧ (parseMethodDescriptor yX1_areAtPlaces.desc).map (fun d => d.parameters.length) = some 2 := by decide +kernel
theorem ds_X1_cell : yX1_cell.cls ≠ "java/lang/invoke/MethodHandle" ∧ yX1_cell.cls ≠ "java/lang/invoke/VarHandle" ∧ (parseMethodDescriptor yX1_cell.desc).map (fun d => d.parameters.length) = some 3 := by decide +kernel
theorem ds_X1_drawMaps : yX1_drawMaps.cls ≠ "java/lang/invoke/MethodHandle" ∧ yX1_drawMaps.cls ≠ "java/lang/invoke/VarHandle" ∧ (parseMethodDescriptor yX1_drawMaps.desc).map (fun d => d.parameters.length) = some 0 := by decide +kernel
theorem ds_X1_drawWay : yX1_drawWay.cls ≠ "java/lang/invoke/MethodHandle" ∧ yX1_drawWay.cls ≠ "java/lang/invoke/VarHandle" ∧ (parseMethodDescriptor yX1_drawWay.desc).map (fun d => d.parameters.length) = some 2 := by decide +kernel
theorem ds_X1_hasPlace : yX1_hasPlace.cls ≠ "java/lang/invoke/MethodHandle" ∧ yX1_hasPlace.cls ≠ "java/lang/invoke/VarHandle" ∧ (parseMethodDescriptor yX1_hasPlace.desc).map (fun d => d.parameters.length) = some 1 := by decide +kernel
theorem ds_X1_hasRoof : yX1_hasRoof.cls ≠ "java/lang/invoke/MethodHandle" ∧ yX1_hasRoof.cls ≠ "java/lang/invoke/VarHandle" ∧ (parseMethodDescriptor yX1_hasRoof.desc).map (fun d => d.parameters.length) = some 1 := by decide +kernel
theorem ds_X1_hoursBetween : yX1_hoursBetween.cls ≠ "java/lang/invoke/MethodHandle" ∧ yX1_hoursBetween.cls ≠ "java/lang/invoke/VarHandle" ∧ (parseMethodDescriptor yX1_hoursBetween.desc).map (fun d => d.parameters.length) = some 2 := by decide +kernel
theorem ds_X1_hoursToRoof : yX1_hoursToRoof.cls ≠ "java/lang/invoke/MethodHandle" ∧ yX1_hoursToRoof.cls ≠ "java/lang/invoke/VarHandle" ∧ (parseMethodDescriptor yX1_hoursToRoof.desc).map (fun d => d.parameters.length) = some 1 := by decide +kernel
theorem ds_X1_isEmpty : yX1_isEmpty.cls ≠ "java/lang/invoke/MethodHandle" ∧ yX1_isEmpty.cls ≠ "java/lang/invoke/VarHandle" ∧ (parseMethodDescriptor yX1_isEmpty.desc).map (fun d => d.parameters.length) = some 0 := by decide +kernel
theorem ds_X1_isWhole : yX1_isWhole.cls ≠ "java/lang/invoke/MethodHandle" ∧ yX1_isWhole.cls ≠ "java/lang/invoke/VarHandle" ∧ (parseMethodDescriptor yX1_isWhole.desc).map (fun d => d.parameters.length) = some 0 := by decide +kernel
theorem ds_X1_isWithin : yX1_isWithin.cls ≠ "java/lang/invoke/MethodHandle" ∧ yX1_isWithin.cls ≠ "java/lang/invoke/VarHandle" ∧ (parseMethodDescriptor yX1_isWithin.desc).map (fun d => d.parameters.length) = some 3 := by decide +kernel
theorem ds_X1_itemOf : yX1_itemOf.cls ≠ "java/lang/invoke/MethodHandle" ∧ yX1_itemOf.cls ≠ "java/lang/invoke/VarHandle" ∧ (parseMethodDescriptor yX1_itemOf.desc).map (fun d => d.parameters.length) = some 2 := by decide +kernel
theorem ds_X1_lowestWay : yX1_lowestWay.cls ≠ "java/lang/invoke/MethodHandle" ∧ yX1_lowestWay.cls ≠ "java/lang/invoke/VarHandle" ∧ (parseMethodDescriptor yX1_lowestWay.desc).map (fun d => d.parameters.length) = some 2 := by decide +kernel
theorem ds_X1_readClause : yX1_readClause.cls ≠ "java/lang/invoke/MethodHandle" ∧ yX1_readClause.cls ≠ "java/lang/invoke/VarHandle" ∧ (parseMethodDescriptor yX1_readClause.desc).map (fun d => d.parameters.length) = some 1 := by decide +kernel
theorem ds_X1_readFrom : yX1_readFrom.cls ≠ "java/lang/invoke/MethodHandle" ∧ yX1_readFrom.cls ≠ "java/lang/invoke/VarHandle" ∧ (parseMethodDescriptor yX1_readFrom.desc).map (fun d => d.parameters.length) = some 1 := by decide +kernel
theorem ds_X1_shorten : yX1_shorten.cls ≠ "java/lang/invoke/MethodHandle" ∧ yX1_shorten.cls ≠ "java/lang/invoke/VarHandle" ∧ (parseMethodDescriptor yX1_shorten.desc).map (fun d => d.parameters.length) = some 1 := by decide +kernel
theorem ds_X2_add : yX2_add.cls ≠ "java/lang/invoke/MethodHandle" ∧ yX2_add.cls ≠ "java/lang/invoke/VarHandle" ∧ (parseMethodDescriptor yX2_add.desc).map (fun d => d.parameters.length) = some 2 := by decide +kernel
theorem ds_X2_readAtom : yX2_readAtom.cls ≠ "java/lang/invoke/MethodHandle" ∧ yX2_readAtom.cls ≠ "java/lang/invoke/VarHandle" ∧ (parseMethodDescriptor yX2_readAtom.desc).map (fun d => d.parameters.length) = some 2 := by decide +kernel
theorem ds_X2_readClause : yX2_readClause.cls ≠ "java/lang/invoke/MethodHandle" ∧ yX2_readClause.cls ≠ "java/lang/invoke/VarHandle" ∧ (parseMethodDescriptor yX2_readClause.desc).map (fun d => d.parameters.length) = some 1 := by decide +kernel
theorem ds_X2_readCondition : yX2_readCondition.cls ≠ "java/lang/invoke/MethodHandle" ∧ yX2_readCondition.cls ≠ "java/lang/invoke/VarHandle" ∧ (parseMethodDescriptor yX2_readCondition.desc).map (fun d => d.parameters.length) = some 3 := by decide +kernel
theorem ds_X2_readFrom : yX2_readFrom.cls ≠ "java/lang/invoke/MethodHandle" ∧ yX2_readFrom.cls ≠ "java/lang/invoke/VarHandle" ∧ (parseMethodDescriptor yX2_readFrom.desc).map (fun d => d.parameters.length) = some 1 := by decide +kernel
theorem ds_X2_readSum : yX2_readSum.cls ≠ "java/lang/invoke/MethodHandle" ∧ yX2_readSum.cls ≠ "java/lang/invoke/VarHandle" ∧ (parseMethodDescriptor yX2_readSum.desc).map (fun d => d.parameters.length) = some 2 := by decide +kernel
theorem ds_X2_readTerm : yX2_readTerm.cls ≠ "java/lang/invoke/MethodHandle" ∧ yX2_readTerm.cls ≠ "java/lang/invoke/VarHandle" ∧ (parseMethodDescriptor yX2_readTerm.desc).map (fun d => d.parameters.length) = some 2 := by decide +kernel
theorem ds_X2_readTruth : yX2_readTruth.cls ≠ "java/lang/invoke/MethodHandle" ∧ yX2_readTruth.cls ≠ "java/lang/invoke/VarHandle" ∧ (parseMethodDescriptor yX2_readTruth.desc).map (fun d => d.parameters.length) = some 3 := by decide +kernel
theorem ds_X2_readUnit : yX2_readUnit.cls ≠ "java/lang/invoke/MethodHandle" ∧ yX2_readUnit.cls ≠ "java/lang/invoke/VarHandle" ∧ (parseMethodDescriptor yX2_readUnit.desc).map (fun d => d.parameters.length) = some 3 := by decide +kernel
theorem ds_X2_worth : yX2_worth.cls ≠ "java/lang/invoke/MethodHandle" ∧ yX2_worth.cls ≠ "java/lang/invoke/VarHandle" ∧ (parseMethodDescriptor yX2_worth.desc).map (fun d => d.parameters.length) = some 1 := by decide +kernel
theorem ds_X3_loss : yX3_loss.cls ≠ "java/lang/invoke/MethodHandle" ∧ yX3_loss.cls ≠ "java/lang/invoke/VarHandle" ∧ (parseMethodDescriptor yX3_loss.desc).map (fun d => d.parameters.length) = some 5 := by decide +kernel
theorem ds_X4_act : yX4_act.cls ≠ "java/lang/invoke/MethodHandle" ∧ yX4_act.cls ≠ "java/lang/invoke/VarHandle" ∧ (parseMethodDescriptor yX4_act.desc).map (fun d => d.parameters.length) = some 1 := by decide +kernel
theorem ds_X4_first : yX4_first.cls ≠ "java/lang/invoke/MethodHandle" ∧ yX4_first.cls ≠ "java/lang/invoke/VarHandle" ∧ (parseMethodDescriptor yX4_first.desc).map (fun d => d.parameters.length) = some 2 := by decide +kernel
theorem ds_X4_part : yX4_part.cls ≠ "java/lang/invoke/MethodHandle" ∧ yX4_part.cls ≠ "java/lang/invoke/VarHandle" ∧ (parseMethodDescriptor yX4_part.desc).map (fun d => d.parameters.length) = some 2 := by decide +kernel
theorem ds_X4_readFrom : yX4_readFrom.cls ≠ "java/lang/invoke/MethodHandle" ∧ yX4_readFrom.cls ≠ "java/lang/invoke/VarHandle" ∧ (parseMethodDescriptor yX4_readFrom.desc).map (fun d => d.parameters.length) = some 1 := by decide +kernel
theorem ds_X4_readStep : yX4_readStep.cls ≠ "java/lang/invoke/MethodHandle" ∧ yX4_readStep.cls ≠ "java/lang/invoke/VarHandle" ∧ (parseMethodDescriptor yX4_readStep.desc).map (fun d => d.parameters.length) = some 1 := by decide +kernel
theorem ds_X4_second : yX4_second.cls ≠ "java/lang/invoke/MethodHandle" ∧ yX4_second.cls ≠ "java/lang/invoke/VarHandle" ∧ (parseMethodDescriptor yX4_second.desc).map (fun d => d.parameters.length) = some 1 := by decide +kernel
theorem ds_X5_confirm : yX5_confirm.cls ≠ "java/lang/invoke/MethodHandle" ∧ yX5_confirm.cls ≠ "java/lang/invoke/VarHandle" ∧ (parseMethodDescriptor yX5_confirm.desc).map (fun d => d.parameters.length) = some 0 := by decide +kernel
theorem ds_X5_forget : yX5_forget.cls ≠ "java/lang/invoke/MethodHandle" ∧ yX5_forget.cls ≠ "java/lang/invoke/VarHandle" ∧ (parseMethodDescriptor yX5_forget.desc).map (fun d => d.parameters.length) = some 0 := by decide +kernel
theorem ds_X5_goBack : yX5_goBack.cls ≠ "java/lang/invoke/MethodHandle" ∧ yX5_goBack.cls ≠ "java/lang/invoke/VarHandle" ∧ (parseMethodDescriptor yX5_goBack.desc).map (fun d => d.parameters.length) = some 1 := by decide +kernel
theorem ds_X5_keepImage : yX5_keepImage.cls ≠ "java/lang/invoke/MethodHandle" ∧ yX5_keepImage.cls ≠ "java/lang/invoke/VarHandle" ∧ (parseMethodDescriptor yX5_keepImage.desc).map (fun d => d.parameters.length) = some 1 := by decide +kernel
theorem ds_X5_note : yX5_note.cls ≠ "java/lang/invoke/MethodHandle" ∧ yX5_note.cls ≠ "java/lang/invoke/VarHandle" ∧ (parseMethodDescriptor yX5_note.desc).map (fun d => d.parameters.length) = some 1 := by decide +kernel
theorem ds_X5_takeBack : yX5_takeBack.cls ≠ "java/lang/invoke/MethodHandle" ∧ yX5_takeBack.cls ≠ "java/lang/invoke/VarHandle" ∧ (parseMethodDescriptor yX5_takeBack.desc).map (fun d => d.parameters.length) = some 1 := by decide +kernel
theorem ds_X6_chance : yX6_chance.cls ≠ "java/lang/invoke/MethodHandle" ∧ yX6_chance.cls ≠ "java/lang/invoke/VarHandle" ∧ (parseMethodDescriptor yX6_chance.desc).map (fun d => d.parameters.length) = some 3 := by decide +kernel
theorem ds_X6_clear : yX6_clear.cls ≠ "java/lang/invoke/MethodHandle" ∧ yX6_clear.cls ≠ "java/lang/invoke/VarHandle" ∧ (parseMethodDescriptor yX6_clear.desc).map (fun d => d.parameters.length) = some 0 := by decide +kernel
theorem ds_X6_tell : yX6_tell.cls ≠ "java/lang/invoke/MethodHandle" ∧ yX6_tell.cls ≠ "java/lang/invoke/VarHandle" ∧ (parseMethodDescriptor yX6_tell.desc).map (fun d => d.parameters.length) = some 3 := by decide +kernel
theorem ds_X7_add : yX7_add.cls ≠ "java/lang/invoke/MethodHandle" ∧ yX7_add.cls ≠ "java/lang/invoke/VarHandle" ∧ (parseMethodDescriptor yX7_add.desc).map (fun d => d.parameters.length) = some 1 := by decide +kernel
theorem ds_X7_isDigit : yX7_isDigit.cls ≠ "java/lang/invoke/MethodHandle" ∧ yX7_isDigit.cls ≠ "java/lang/invoke/VarHandle" ∧ (parseMethodDescriptor yX7_isDigit.desc).map (fun d => d.parameters.length) = some 1 := by decide +kernel
theorem ds_X7_isEnded : yX7_isEnded.cls ≠ "java/lang/invoke/MethodHandle" ∧ yX7_isEnded.cls ≠ "java/lang/invoke/VarHandle" ∧ (parseMethodDescriptor yX7_isEnded.desc).map (fun d => d.parameters.length) = some 0 := by decide +kernel
theorem ds_X7_pass : yX7_pass.cls ≠ "java/lang/invoke/MethodHandle" ∧ yX7_pass.cls ≠ "java/lang/invoke/VarHandle" ∧ (parseMethodDescriptor yX7_pass.desc).map (fun d => d.parameters.length) = some 0 := by decide +kernel
theorem ds_X7_rewind : yX7_rewind.cls ≠ "java/lang/invoke/MethodHandle" ∧ yX7_rewind.cls ≠ "java/lang/invoke/VarHandle" ∧ (parseMethodDescriptor yX7_rewind.desc).map (fun d => d.parameters.length) = some 0 := by decide +kernel
theorem ds_X7_sign : yX7_sign.cls ≠ "java/lang/invoke/MethodHandle" ∧ yX7_sign.cls ≠ "java/lang/invoke/VarHandle" ∧ (parseMethodDescriptor yX7_sign.desc).map (fun d => d.parameters.length) = some 0 := by decide +kernel
theorem ds_X7_signsOf : yX7_signsOf.cls ≠ "java/lang/invoke/MethodHandle" ∧ yX7_signsOf.cls ≠ "java/lang/invoke/VarHandle" ∧ (parseMethodDescriptor yX7_signsOf.desc).map (fun d => d.parameters.length) = some 1 := by decide +kernel
theorem ds_X7_skipBlanks : yX7_skipBlanks.cls ≠ "java/lang/invoke/MethodHandle" ∧ yX7_skipBlanks.cls ≠ "java/lang/invoke/VarHandle" ∧ (parseMethodDescriptor yX7_skipBlanks.desc).map (fun d => d.parameters.length) = some 0 := by decide +kernel
theorem ds_X7_take : yX7_take.cls ≠ "java/lang/invoke/MethodHandle" ∧ yX7_take.cls ≠ "java/lang/invoke/VarHandle" ∧ (parseMethodDescriptor yX7_take.desc).map (fun d => d.parameters.length) = some 1 := by decide +kernel
theorem ds_X7_takeDigit : yX7_takeDigit.cls ≠ "java/lang/invoke/MethodHandle" ∧ yX7_takeDigit.cls ≠ "java/lang/invoke/VarHandle" ∧ (parseMethodDescriptor yX7_takeDigit.desc).map (fun d => d.parameters.length) = some 0 := by decide +kernel
theorem ds_X7_takeNumber : yX7_takeNumber.cls ≠ "java/lang/invoke/MethodHandle" ∧ yX7_takeNumber.cls ≠ "java/lang/invoke/VarHandle" ∧ (parseMethodDescriptor yX7_takeNumber.desc).map (fun d => d.parameters.length) = some 3 := by decide +kernel
theorem ds_X8_addHour : yX8_addHour.cls ≠ "java/lang/invoke/MethodHandle" ∧ yX8_addHour.cls ≠ "java/lang/invoke/VarHandle" ∧ (parseMethodDescriptor yX8_addHour.desc).map (fun d => d.parameters.length) = some 3 := by decide +kernel
theorem ds_X8_compare : yX8_compare.cls ≠ "java/lang/invoke/MethodHandle" ∧ yX8_compare.cls ≠ "java/lang/invoke/VarHandle" ∧ (parseMethodDescriptor yX8_compare.desc).map (fun d => d.parameters.length) = some 2 := by decide +kernel
theorem ds_X8_isClearBeside : yX8_isClearBeside.cls ≠ "java/lang/invoke/MethodHandle" ∧ yX8_isClearBeside.cls ≠ "java/lang/invoke/VarHandle" ∧ (parseMethodDescriptor yX8_isClearBeside.desc).map (fun d => d.parameters.length) = some 2 := by decide +kernel
theorem ds_X8_setThatFits : yX8_setThatFits.cls ≠ "java/lang/invoke/MethodHandle" ∧ yX8_setThatFits.cls ≠ "java/lang/invoke/VarHandle" ∧ (parseMethodDescriptor yX8_setThatFits.desc).map (fun d => d.parameters.length) = some 1 := by decide +kernel
theorem ds_X8_setsThatFit : yX8_setsThatFit.cls ≠ "java/lang/invoke/MethodHandle" ∧ yX8_setsThatFit.cls ≠ "java/lang/invoke/VarHandle" ∧ (parseMethodDescriptor yX8_setsThatFit.desc).map (fun d => d.parameters.length) = some 0 := by decide +kernel
theorem ds_X8_tell : yX8_tell.cls ≠ "java/lang/invoke/MethodHandle" ∧ yX8_tell.cls ≠ "java/lang/invoke/VarHandle" ∧ (parseMethodDescriptor yX8_tell.desc).map (fun d => d.parameters.length) = some 2 := by decide +kernel
theorem ds_X8_weigh : yX8_weigh.cls ≠ "java/lang/invoke/MethodHandle" ∧ yX8_weigh.cls ≠ "java/lang/invoke/VarHandle" ∧ (parseMethodDescriptor yX8_weigh.desc).map (fun d => d.parameters.length) = some 2 := by decide +kernel
theorem ds_X9_bestRow : yX9_bestRow.cls ≠ "java/lang/invoke/MethodHandle" ∧ yX9_bestRow.cls ≠ "java/lang/invoke/VarHandle" ∧ (parseMethodDescriptor yX9_bestRow.desc).map (fun d => d.parameters.length) = some 1 := by decide +kernel
theorem ds_X9_bestWait : yX9_bestWait.cls ≠ "java/lang/invoke/MethodHandle" ∧ yX9_bestWait.cls ≠ "java/lang/invoke/VarHandle" ∧ (parseMethodDescriptor yX9_bestWait.desc).map (fun d => d.parameters.length) = some 1 := by decide +kernel
theorem ds_X9_commonPlaces : yX9_commonPlaces.cls ≠ "java/lang/invoke/MethodHandle" ∧ yX9_commonPlaces.cls ≠ "java/lang/invoke/VarHandle" ∧ (parseMethodDescriptor yX9_commonPlaces.desc).map (fun d => d.parameters.length) = some 2 := by decide +kernel
theorem ds_X9_find : yX9_find.cls ≠ "java/lang/invoke/MethodHandle" ∧ yX9_find.cls ≠ "java/lang/invoke/VarHandle" ∧ (parseMethodDescriptor yX9_find.desc).map (fun d => d.parameters.length) = some 4 := by decide +kernel
theorem ds_X9_findFrom : yX9_findFrom.cls ≠ "java/lang/invoke/MethodHandle" ∧ yX9_findFrom.cls ≠ "java/lang/invoke/VarHandle" ∧ (parseMethodDescriptor yX9_findFrom.desc).map (fun d => d.parameters.length) = some 2 := by decide +kernel
theorem ds_X9_hoursOf : yX9_hoursOf.cls ≠ "java/lang/invoke/MethodHandle" ∧ yX9_hoursOf.cls ≠ "java/lang/invoke/VarHandle" ∧ (parseMethodDescriptor yX9_hoursOf.desc).map (fun d => d.parameters.length) = some 1 := by decide +kernel
theorem ds_X9_leastMeanOf : yX9_leastMeanOf.cls ≠ "java/lang/invoke/MethodHandle" ∧ yX9_leastMeanOf.cls ≠ "java/lang/invoke/VarHandle" ∧ (parseMethodDescriptor yX9_leastMeanOf.desc).map (fun d => d.parameters.length) = some 1 := by decide +kernel
theorem ds_X9_letRain : yX9_letRain.cls ≠ "java/lang/invoke/MethodHandle" ∧ yX9_letRain.cls ≠ "java/lang/invoke/VarHandle" ∧ (parseMethodDescriptor yX9_letRain.desc).map (fun d => d.parameters.length) = some 3 := by decide +kernel
theorem ds_X9_lossAt : yX9_lossAt.cls ≠ "java/lang/invoke/MethodHandle" ∧ yX9_lossAt.cls ≠ "java/lang/invoke/VarHandle" ∧ (parseMethodDescriptor yX9_lossAt.desc).map (fun d => d.parameters.length) = some 3 := by decide +kernel
theorem ds_X9_mean : yX9_mean.cls ≠ "java/lang/invoke/MethodHandle" ∧ yX9_mean.cls ≠ "java/lang/invoke/VarHandle" ∧ (parseMethodDescriptor yX9_mean.desc).map (fun d => d.parameters.length) = some 1 := by decide +kernel
theorem ds_X9_meanAmbushedAt : yX9_meanAmbushedAt.cls ≠ "java/lang/invoke/MethodHandle" ∧ yX9_meanAmbushedAt.cls ≠ "java/lang/invoke/VarHandle" ∧ (parseMethodDescriptor yX9_meanAmbushedAt.desc).map (fun d => d.parameters.length) = some 2 := by decide +kernel
theorem ds_X9_meanOf : yX9_meanOf.cls ≠ "java/lang/invoke/MethodHandle" ∧ yX9_meanOf.cls ≠ "java/lang/invoke/VarHandle" ∧ (parseMethodDescriptor yX9_meanOf.desc).map (fun d => d.parameters.length) = some 1 := by decide +kernel
theorem ds_X9_placeOf : yX9_placeOf.cls ≠ "java/lang/invoke/MethodHandle" ∧ yX9_placeOf.cls ≠ "java/lang/invoke/VarHandle" ∧ (parseMethodDescriptor yX9_placeOf.desc).map (fun d => d.parameters.length) = some 2 := by decide +kernel
theorem ds_X9_placeOrHidden : yX9_placeOrHidden.cls ≠ "java/lang/invoke/MethodHandle" ∧ yX9_placeOrHidden.cls ≠ "java/lang/invoke/VarHandle" ∧ (parseMethodDescriptor yX9_placeOrHidden.desc).map (fun d => d.parameters.length) = some 2 := by decide +kernel
theorem ds_X9_placesOf : yX9_placesOf.cls ≠ "java/lang/invoke/MethodHandle" ∧ yX9_placesOf.cls ≠ "java/lang/invoke/VarHandle" ∧ (parseMethodDescriptor yX9_placesOf.desc).map (fun d => d.parameters.length) = some 1 := by decide +kernel
theorem ds_X9_pour : yX9_pour.cls ≠ "java/lang/invoke/MethodHandle" ∧ yX9_pour.cls ≠ "java/lang/invoke/VarHandle" ∧ (parseMethodDescriptor yX9_pour.desc).map (fun d => d.parameters.length) = some 2 := by decide +kernel
theorem ds_X9_putAll : yX9_putAll.cls ≠ "java/lang/invoke/MethodHandle" ∧ yX9_putAll.cls ≠ "java/lang/invoke/VarHandle" ∧ (parseMethodDescriptor yX9_putAll.desc).map (fun d => d.parameters.length) = some 1 := by decide +kernel
theorem ds_X9_setOutWith : yX9_setOutWith.cls ≠ "java/lang/invoke/MethodHandle" ∧ yX9_setOutWith.cls ≠ "java/lang/invoke/VarHandle" ∧ (parseMethodDescriptor yX9_setOutWith.desc).map (fun d => d.parameters.length) = some 1 := by decide +kernel
theorem ds_X9_sureOf : yX9_sureOf.cls ≠ "java/lang/invoke/MethodHandle" ∧ yX9_sureOf.cls ≠ "java/lang/invoke/VarHandle" ∧ (parseMethodDescriptor yX9_sureOf.desc).map (fun d => d.parameters.length) = some 1 := by decide +kernel
theorem ds_X9_walk : yX9_walk.cls ≠ "java/lang/invoke/MethodHandle" ∧ yX9_walk.cls ≠ "java/lang/invoke/VarHandle" ∧ (parseMethodDescriptor yX9_walk.desc).map (fun d => d.parameters.length) = some 1 := by decide +kernel
theorem ds_X9_walkWay : yX9_walkWay.cls ≠ "java/lang/invoke/MethodHandle" ∧ yX9_walkWay.cls ≠ "java/lang/invoke/VarHandle" ∧ (parseMethodDescriptor yX9_walkWay.desc).map (fun d => d.parameters.length) = some 4 := by decide +kernel
theorem ds_X9_wayTo : yX9_wayTo.cls ≠ "java/lang/invoke/MethodHandle" ∧ yX9_wayTo.cls ≠ "java/lang/invoke/VarHandle" ∧ (parseMethodDescriptor yX9_wayTo.desc).map (fun d => d.parameters.length) = some 2 := by decide +kernel
theorem ds_X9_worstPlace : yX9_worstPlace.cls ≠ "java/lang/invoke/MethodHandle" ∧ yX9_worstPlace.cls ≠ "java/lang/invoke/VarHandle" ∧ (parseMethodDescriptor yX9_worstPlace.desc).map (fun d => d.parameters.length) = some 1 := by decide +kernel
