theorem md_X6_elementOf : xMs yX6_elementOf cX6_elementOf 3 (some .int) 3 := ⟨⟨mw_125, mw_2, ⟨by decide, by decide, by decide +kernel⟩, by decide +kernel⟩, mw_124⟩
theorem md_X2_kindOf : xMv yX2_kindOf cX2_kindOf 2 (some .int) 1 := ⟨⟨mw_258, mw_33, ⟨by decide, by decide, by decide +kernel⟩, by decide +kernel⟩, mw_256, mw_257⟩
theorem md_X2_tuneOf : xMv yX2_tuneOf cX2_tuneOf 2 (some .int) 1 := ⟨⟨mw_265, mw_33, ⟨by decide, by decide, by decide +kernel⟩, by decide +kernel⟩, mw_263, mw_264⟩
theorem md_X2_write : xMv yX2_write cX2_write 4 none 3 := ⟨⟨mw_358, mw_33, ⟨by decide, by decide, by decide +kernel⟩, by decide +kernel⟩, mw_356, mw_357⟩
theorem md_X2_takeFrom : xMv yX2_takeFrom cX2_takeFrom 3 none 1 := ⟨⟨mw_451, mw_33, ⟨by decide, by decide, by decide +kernel⟩, by decide +kernel⟩, mw_449, mw_450⟩
theorem md_X3_ageOf : xMv yX3_ageOf cX3_ageOf 2 (some .int) 1 := ⟨⟨mw_459, mw_37, ⟨by decide, by decide, by decide +kernel⟩, by decide +kernel⟩, mw_457, mw_458⟩
theorem md_X3_write : xMv yX3_write cX3_write 3 none 2 := ⟨⟨mw_401, mw_37, ⟨by decide, by decide, by decide +kernel⟩, by decide +kernel⟩, mw_399, mw_400⟩
theorem md_X3_takeFrom : xMv yX3_takeFrom cX3_takeFrom 3 none 1 := ⟨⟨mw_455, mw_37, ⟨by decide, by decide, by decide +kernel⟩, by decide +kernel⟩, mw_453, mw_454⟩
theorem md_X0_takeFrom : xMv yX0_takeFrom cX0_takeFrom 2 none 1 := ⟨⟨mw_444, mw_15, ⟨by decide, by decide, by decide +kernel⟩, by decide +kernel⟩, mw_442, mw_443⟩
theorem md_X0_hasRoom : xMv yX0_hasRoom cX0_hasRoom 1 (some .boolean) 0 := ⟨⟨mw_579, mw_15, ⟨by decide, by decide, by decide +kernel⟩, by decide +kernel⟩, mw_577, mw_578⟩
theorem md_X0_addStep : xMv yX0_addStep cX0_addStep 2 none 1 := ⟨⟨mw_583, mw_15, ⟨by decide, by decide, by decide +kernel⟩, by decide +kernel⟩, mw_581, mw_582⟩
theorem md_X0_clearRing : xMv yX0_clearRing cX0_clearRing 1 none 0 := ⟨⟨mw_594, mw_15, ⟨by decide, by decide, by decide +kernel⟩, by decide +kernel⟩, mw_592, mw_593⟩
theorem md_X6_isWithin : xMs yX6_isWithin cX6_isWithin 3 (some .boolean) 3 := ⟨⟨mw_98, mw_2, ⟨by decide, by decide, by decide +kernel⟩, by decide +kernel⟩, mw_97⟩
theorem md_X2_isThere : xMv yX2_isThere cX2_isThere 2 (some .boolean) 1 := ⟨⟨mw_229, mw_33, ⟨by decide, by decide, by decide +kernel⟩, by decide +kernel⟩, mw_227, mw_228⟩
theorem md_X2_stepsLookedAhead : xMs yX2_stepsLookedAhead cX2_stepsLookedAhead 2 (some .int) 2 := ⟨⟨mw_268, mw_33, ⟨by decide, by decide, by decide +kernel⟩, by decide +kernel⟩, mw_267⟩
theorem md_X6_isIn : xMs yX6_isIn cX6_isIn 3 (some .boolean) 2 := ⟨⟨mw_294, mw_2, ⟨by decide, by decide, by decide +kernel⟩, by decide +kernel⟩, mw_293⟩
theorem md_X2_isStrokeAt : xMs yX2_isStrokeAt cX2_isStrokeAt 4 (some .boolean) 3 := ⟨⟨mw_292, mw_33, ⟨by decide, by decide, by decide +kernel⟩, by decide +kernel⟩, mw_291⟩
theorem md_X2_areGaps : xMs yX2_areGaps cX2_areGaps 6 (some .boolean) 4 := ⟨⟨mw_297, mw_33, ⟨by decide, by decide, by decide +kernel⟩, by decide +kernel⟩, mw_296⟩
theorem md_X2_isGapAt : xMs yX2_isGapAt cX2_isGapAt 4 (some .boolean) 3 := ⟨⟨mw_300, mw_33, ⟨by decide, by decide, by decide +kernel⟩, by decide +kernel⟩, mw_299⟩
theorem md_J13_bitCount_95d88 : xMs yJ13_bitCount_95d88 cJ13_bitCount_95d88 2 (some .int) 1 := ⟨⟨mw_307, mw_306, ⟨by decide, by decide, by decide +kernel⟩, by decide +kernel⟩, mw_305⟩
theorem md_X6_firstBits : xMs yX6_firstBits cX6_firstBits 1 (some .long) 1 := ⟨⟨mw_312, mw_2, ⟨by decide, by decide, by decide +kernel⟩, by decide +kernel⟩, mw_311⟩
theorem md_X2_strokesAhead : xMs yX2_strokesAhead cX2_strokesAhead 4 (some .int) 3 := ⟨⟨mw_303, mw_33, ⟨by decide, by decide, by decide +kernel⟩, by decide +kernel⟩, mw_302⟩
theorem md_X6_isMultiple : xMs yX6_isMultiple cX6_isMultiple 2 (some .boolean) 2 := ⟨⟨mw_314, mw_2, ⟨by decide, by decide, by decide +kernel⟩, by decide +kernel⟩, mw_313⟩
theorem md_X2_strikesAt : xMv yX2_strikesAt cX2_strikesAt 8 (some .boolean) 4 := ⟨⟨mw_285, mw_33, ⟨by decide, by decide, by decide +kernel⟩, by decide +kernel⟩, mw_283, mw_284⟩
theorem md_X0_wouldStrike : xMv yX0_wouldStrike cX0_wouldStrike 2 (some .boolean) 1 := ⟨⟨mw_696, mw_15, ⟨by decide, by decide, by decide +kernel⟩, by decide +kernel⟩, mw_694, mw_695⟩
theorem md_X2_struck : xMv yX2_struck cX2_struck 9 (some .long) 4 := ⟨⟨mw_281, mw_33, ⟨by decide, by decide, by decide +kernel⟩, by decide +kernel⟩, mw_279, mw_280⟩
theorem md_X0_struck : xMv yX0_struck cX0_struck 4 (some .long) 2 := ⟨⟨mw_276, mw_15, ⟨by decide, by decide, by decide +kernel⟩, by decide +kernel⟩, mw_274, mw_275⟩
theorem md_X0_timesStruck : xMv yX0_timesStruck cX0_timesStruck 4 (some .int) 2 := ⟨⟨mw_272, mw_15, ⟨by decide, by decide, by decide +kernel⟩, by decide +kernel⟩, mw_270, mw_271⟩
theorem md_X0_struckInRepetition : xMv yX0_struckInRepetition cX0_struckInRepetition 2 (some .long) 1 := ⟨⟨mw_787, mw_15, ⟨by decide, by decide, by decide +kernel⟩, by decide +kernel⟩, mw_785, mw_786⟩
theorem md_X0_risen : xMv yX0_risen cX0_risen 3 (some .long) 2 := ⟨⟨mw_987, mw_15, ⟨by decide, by decide, by decide +kernel⟩, by decide +kernel⟩, mw_985, mw_986⟩
theorem md_X0_sounds : xMv yX0_sounds cX0_sounds 7 (some .long) 3 := ⟨⟨mw_722, mw_15, ⟨by decide, by decide, by decide +kernel⟩, by decide +kernel⟩, mw_720, mw_721⟩
theorem md_X0_turnedAbout : xMv yX0_turnedAbout cX0_turnedAbout 4 (some .long) 0 := ⟨⟨mw_812, mw_15, ⟨by decide, by decide, by decide +kernel⟩, by decide +kernel⟩, mw_810, mw_811⟩
theorem md_X0_partedBy : xMv yX0_partedBy cX0_partedBy 9 (some .int) 2 := ⟨⟨mw_1050, mw_15, ⟨by decide, by decide, by decide +kernel⟩, by decide +kernel⟩, mw_1048, mw_1049⟩
theorem md_J6_bitCount_0f7a4 : xMs yJ6_bitCount_0f7a4 cJ6_bitCount_0f7a4 1 (some .int) 1 := ⟨⟨mw_951, mw_891, ⟨by decide, by decide, by decide +kernel⟩, by decide +kernel⟩, mw_950⟩
theorem md_X0_loudestRing : xMv yX0_loudestRing cX0_loudestRing 7 (some .int) 2 := ⟨⟨mw_1068, mw_15, ⟨by decide, by decide, by decide +kernel⟩, by decide +kernel⟩, mw_1066, mw_1067⟩
theorem md_X0_leastRingHeardAt : xMv yX0_leastRingHeardAt cX0_leastRingHeardAt 7 (some .int) 2 := ⟨⟨mw_1090, mw_15, ⟨by decide, by decide, by decide +kernel⟩, by decide +kernel⟩, mw_1088, mw_1089⟩
theorem md_X0_draw : xMv yX0_draw cX0_draw 2 (some .int) 1 := ⟨⟨mw_1297, mw_15, ⟨by decide, by decide, by decide +kernel⟩, by decide +kernel⟩, mw_1295, mw_1296⟩
theorem md_X0_strikesInTruth : xMv yX0_strikesInTruth cX0_strikesInTruth 2 (some .boolean) 1 := ⟨⟨mw_1291, mw_15, ⟨by decide, by decide, by decide +kernel⟩, by decide +kernel⟩, mw_1289, mw_1290⟩
theorem md_X5_rewind : xMv yX5_rewind cX5_rewind 1 none 0 := ⟨⟨mw_467, mw_57, ⟨by decide, by decide, by decide +kernel⟩, by decide +kernel⟩, mw_465, mw_466⟩
theorem md_X5_byteAt : xMv yX5_byteAt cX5_byteAt 2 (some .int) 1 := ⟨⟨mw_482, mw_57, ⟨by decide, by decide, by decide +kernel⟩, by decide +kernel⟩, mw_480, mw_481⟩
theorem md_X5_tokenBegunBy : xMs yX5_tokenBegunBy cX5_tokenBegunBy 1 (some .int) 1 := ⟨⟨mw_485, mw_57, ⟨by decide, by decide, by decide +kernel⟩, by decide +kernel⟩, mw_484⟩
theorem md_X5_nextToken : xMv yX5_nextToken cX5_nextToken 1 none 0 := ⟨⟨mw_472, mw_57, ⟨by decide, by decide, by decide +kernel⟩, by decide +kernel⟩, mw_470, mw_471⟩
theorem md_X5_tokenLength : xMv yX5_tokenLength cX5_tokenLength 1 (some .int) 0 := ⟨⟨mw_497, mw_57, ⟨by decide, by decide, by decide +kernel⟩, by decide +kernel⟩, mw_495, mw_496⟩
theorem md_J0_coder_7d493 : xMv yJ0_coder_7d493 cJ0_coder_7d493 1 (some .byte) 0 := ⟨⟨mw_507, mw_501, ⟨by decide, by decide, by decide +kernel⟩, by decide +kernel⟩, mw_505, mw_506⟩
theorem md_J0_length_8abf5 : xMv yJ0_length_8abf5 cJ0_length_8abf5 1 (some .int) 0 := ⟨⟨mw_502, mw_501, ⟨by decide, by decide, by decide +kernel⟩, by decide +kernel⟩, mw_499, mw_500⟩
theorem md_J0_isLatin1_aae02 : xMv yJ0_isLatin1_aae02 cJ0_isLatin1_aae02 1 (some .boolean) 0 := ⟨⟨mw_517, mw_501, ⟨by decide, by decide, by decide +kernel⟩, by decide +kernel⟩, mw_515, mw_516⟩
theorem md_J3_checkIndex_8e157 : xMs yJ3_checkIndex_8e157 cJ3_checkIndex_8e157 3 (some .int) 3 := ⟨⟨mw_529, mw_528, ⟨by decide, by decide, by decide +kernel⟩, by decide +kernel⟩, mw_527⟩
theorem md_J0_checkIndex_df160 : xMs yJ0_checkIndex_df160 cJ0_checkIndex_df160 2 none 2 := ⟨⟨mw_524, mw_501, ⟨by decide, by decide, by decide +kernel⟩, by decide +kernel⟩, mw_523⟩
theorem md_J1_charAt_3b067 : xMs yJ1_charAt_3b067 cJ1_charAt_3b067 2 (some .char) 2 := ⟨⟨mw_521, mw_520, ⟨by decide, by decide, by decide +kernel⟩, by decide +kernel⟩, mw_519⟩
theorem md_J2_length_9d52b : xMs yJ2_length_9d52b cJ2_length_9d52b 1 (some .int) 1 := ⟨⟨mw_539, mw_532, ⟨by decide, by decide, by decide +kernel⟩, by decide +kernel⟩, mw_538⟩
theorem md_J2_checkIndex_2214a : xMs yJ2_checkIndex_2214a cJ2_checkIndex_2214a 2 none 2 := ⟨⟨mw_536, mw_532, ⟨by decide, by decide, by decide +kernel⟩, by decide +kernel⟩, mw_535⟩
theorem md_J2_getChar_3b067 : xMs yJ2_getChar_3b067 cJ2_getChar_3b067 2 (some .char) 2 := ⟨⟨mw_543, mw_532, ⟨by decide, by decide, by decide +kernel⟩, by decide +kernel⟩, mw_542⟩
theorem md_J2_charAt_3b067 : xMs yJ2_charAt_3b067 cJ2_charAt_3b067 2 (some .char) 2 := ⟨⟨mw_533, mw_532, ⟨by decide, by decide, by decide +kernel⟩, by decide +kernel⟩, mw_531⟩
theorem md_J0_charAt_5068e : xMv yJ0_charAt_5068e cJ0_charAt_5068e 2 (some .char) 1 := ⟨⟨mw_513, mw_501, ⟨by decide, by decide, by decide +kernel⟩, by decide +kernel⟩, mw_511, mw_512⟩
theorem md_X5_isWord : xMv yX5_isWord cX5_isWord 3 (some .boolean) 1 := ⟨⟨mw_493, mw_57, ⟨by decide, by decide, by decide +kernel⟩, by decide +kernel⟩, mw_491, mw_492⟩
theorem md_X2_hasRoom : xMv yX2_hasRoom cX2_hasRoom 1 (some .boolean) 0 := ⟨⟨mw_350, mw_33, ⟨by decide, by decide, by decide +kernel⟩, by decide +kernel⟩, mw_348, mw_349⟩
theorem md_X1_readNumber : xMv yX1_readNumber cX1_readNumber 4 (some .boolean) 2 := ⟨⟨mw_556, mw_20, ⟨by decide, by decide, by decide +kernel⟩, by decide +kernel⟩, mw_554, mw_555⟩
theorem md_X2_add : xMv yX2_add cX2_add 3 (some .int) 2 := ⟨⟨mw_354, mw_33, ⟨by decide, by decide, by decide +kernel⟩, by decide +kernel⟩, mw_352, mw_353⟩
theorem md_X1_readLaw : xMv yX1_readLaw cX1_readLaw 2 (some .boolean) 0 := ⟨⟨mw_550, mw_20, ⟨by decide, by decide, by decide +kernel⟩, by decide +kernel⟩, mw_548, mw_549⟩
theorem md_X1_readUse : xMv yX1_readUse cX1_readUse 1 (some .boolean) 0 := ⟨⟨mw_563, mw_20, ⟨by decide, by decide, by decide +kernel⟩, by decide +kernel⟩, mw_561, mw_562⟩
theorem md_X1_readDepth : xMv yX1_readDepth cX1_readDepth 1 (some .boolean) 0 := ⟨⟨mw_567, mw_20, ⟨by decide, by decide, by decide +kernel⟩, by decide +kernel⟩, mw_565, mw_566⟩
theorem md_X1_readMiss : xMv yX1_readMiss cX1_readMiss 1 (some .boolean) 0 := ⟨⟨mw_571, mw_20, ⟨by decide, by decide, by decide +kernel⟩, by decide +kernel⟩, mw_569, mw_570⟩
theorem md_X1_readSteps : xMv yX1_readSteps cX1_readSteps 3 (some .boolean) 0 := ⟨⟨mw_575, mw_20, ⟨by decide, by decide, by decide +kernel⟩, by decide +kernel⟩, mw_573, mw_574⟩
theorem md_X3_hasRoom : xMv yX3_hasRoom cX3_hasRoom 1 (some .boolean) 0 := ⟨⟨mw_392, mw_37, ⟨by decide, by decide, by decide +kernel⟩, by decide +kernel⟩, mw_390, mw_391⟩
theorem md_X3_add : xMv yX3_add cX3_add 2 (some .int) 1 := ⟨⟨mw_397, mw_37, ⟨by decide, by decide, by decide +kernel⟩, by decide +kernel⟩, mw_395, mw_396⟩
theorem md_X1_readPerson : xMv yX1_readPerson cX1_readPerson 1 (some .boolean) 0 := ⟨⟨mw_588, mw_20, ⟨by decide, by decide, by decide +kernel⟩, by decide +kernel⟩, mw_586, mw_587⟩
theorem md_X1_readStatement : xMv yX1_readStatement cX1_readStatement 1 (some .boolean) 0 := ⟨⟨mw_489, mw_20, ⟨by decide, by decide, by decide +kernel⟩, by decide +kernel⟩, mw_487, mw_488⟩
theorem md_X1_readLake : xMv yX1_readLake cX1_readLake 2 (some .int) 0 := ⟨⟨mw_463, mw_20, ⟨by decide, by decide, by decide +kernel⟩, by decide +kernel⟩, mw_461, mw_462⟩
theorem md_X2_isKind : xMs yX2_isKind cX2_isKind 1 (some .boolean) 1 := ⟨⟨mw_254, mw_33, ⟨by decide, by decide, by decide +kernel⟩, by decide +kernel⟩, mw_253⟩
theorem md_X2_isUnder : xMs yX2_isUnder cX2_isUnder 2 (some .boolean) 2 := ⟨⟨mw_261, mw_33, ⟨by decide, by decide, by decide +kernel⟩, by decide +kernel⟩, mw_260⟩
theorem md_X2_strikesJustAt : xMv yX2_strikesJustAt cX2_strikesJustAt 7 (some .boolean) 4 := ⟨⟨mw_958, mw_33, ⟨by decide, by decide, by decide +kernel⟩, by decide +kernel⟩, mw_956, mw_957⟩
theorem md_X2_leastRingStruckAt : xMv yX2_leastRingStruckAt cX2_leastRingStruckAt 8 (some .int) 3 := ⟨⟨mw_948, mw_33, ⟨by decide, by decide, by decide +kernel⟩, by decide +kernel⟩, mw_946, mw_947⟩
theorem md_X2_firstPartingRing : xMv yX2_firstPartingRing cX2_firstPartingRing 5 (some .int) 3 := ⟨⟨mw_901, mw_33, ⟨by decide, by decide, by decide +kernel⟩, by decide +kernel⟩, mw_899, mw_900⟩
theorem md_X3_isThere : xMv yX3_isThere cX3_isThere 2 (some .boolean) 1 := ⟨⟨mw_659, mw_37, ⟨by decide, by decide, by decide +kernel⟩, by decide +kernel⟩, mw_657, mw_658⟩
theorem md_X3_agesOf : xMv yX3_agesOf cX3_agesOf 4 (some .int) 1 := ⟨⟨mw_1135, mw_37, ⟨by decide, by decide, by decide +kernel⟩, by decide +kernel⟩, mw_1133, mw_1134⟩
theorem md_X3_agesOfAll : xMv yX3_agesOfAll cX3_agesOfAll 1 (some .int) 0 := ⟨⟨mw_1197, mw_37, ⟨by decide, by decide, by decide +kernel⟩, by decide +kernel⟩, mw_1195, mw_1196⟩
theorem md_X3_howManySets : xMv yX3_howManySets cX3_howManySets 4 (some .int) 1 := ⟨⟨mw_1131, mw_37, ⟨by decide, by decide, by decide +kernel⟩, by decide +kernel⟩, mw_1129, mw_1130⟩
theorem md_X3_smallestSet : xMv yX3_smallestSet cX3_smallestSet 6 (some .int) 1 := ⟨⟨mw_1139, mw_37, ⟨by decide, by decide, by decide +kernel⟩, by decide +kernel⟩, mw_1137, mw_1138⟩
theorem md_X3_mark : xMv yX3_mark cX3_mark 3 none 1 := ⟨⟨mw_1177, mw_37, ⟨by decide, by decide, by decide +kernel⟩, by decide +kernel⟩, mw_1175, mw_1176⟩
theorem md_X3_howManySums : xMv yX3_howManySums cX3_howManySums 4 (some .int) 1 := ⟨⟨mw_1173, mw_37, ⟨by decide, by decide, by decide +kernel⟩, by decide +kernel⟩, mw_1171, mw_1172⟩
theorem md_X3_nearestToHalf : xMv yX3_nearestToHalf cX3_nearestToHalf 6 (some .int) 0 := ⟨⟨mw_1190, mw_37, ⟨by decide, by decide, by decide +kernel⟩, by decide +kernel⟩, mw_1188, mw_1189⟩
theorem md_X3_rankOf : xMv yX3_rankOf cX3_rankOf 4 (some .int) 1 := ⟨⟨mw_1214, mw_37, ⟨by decide, by decide, by decide +kernel⟩, by decide +kernel⟩, mw_1212, mw_1213⟩
theorem md_X3_withRank : xMv yX3_withRank cX3_withRank 3 (some .int) 1 := ⟨⟨mw_1210, mw_37, ⟨by decide, by decide, by decide +kernel⟩, by decide +kernel⟩, mw_1208, mw_1209⟩
theorem md_X3_firstOldest : xMv yX3_firstOldest cX3_firstOldest 3 (some .int) 0 := ⟨⟨mw_1226, mw_37, ⟨by decide, by decide, by decide +kernel⟩, by decide +kernel⟩, mw_1224, mw_1225⟩
theorem md_X4_isShelf : xMs yX4_isShelf cX4_isShelf 1 (some .boolean) 1 := ⟨⟨mw_96, mw_24, ⟨by decide, by decide, by decide +kernel⟩, by decide +kernel⟩, mw_95⟩
theorem md_X4_heldOn : xMv yX4_heldOn cX4_heldOn 2 (some .int) 1 := ⟨⟨mw_129, mw_24, ⟨by decide, by decide, by decide +kernel⟩, by decide +kernel⟩, mw_127, mw_128⟩
theorem md_X4_holdsRow : xMv yX4_holdsRow cX4_holdsRow 2 (some .boolean) 1 := ⟨⟨mw_162, mw_24, ⟨by decide, by decide, by decide +kernel⟩, by decide +kernel⟩, mw_160, mw_161⟩
theorem md_X4_lawOn : xMv yX4_lawOn cX4_lawOn 2 (some .int) 1 := ⟨⟨mw_158, mw_24, ⟨by decide, by decide, by decide +kernel⟩, by decide +kernel⟩, mw_156, mw_157⟩
theorem md_X4_sizeOf : xMv yX4_sizeOf cX4_sizeOf 2 (some .int) 1 := ⟨⟨mw_123, mw_24, ⟨by decide, by decide, by decide +kernel⟩, by decide +kernel⟩, mw_121, mw_122⟩
theorem md_X4_howManyHold : xMv yX4_howManyHold cX4_howManyHold 3 (some .int) 0 := ⟨⟨mw_1395, mw_24, ⟨by decide, by decide, by decide +kernel⟩, by decide +kernel⟩, mw_1393, mw_1394⟩
theorem md_X4_put : xMv yX4_put cX4_put 4 none 3 := ⟨⟨mw_111, mw_24, ⟨by decide, by decide, by decide +kernel⟩, by decide +kernel⟩, mw_109, mw_110⟩
theorem md_X4_putNothing : xMv yX4_putNothing cX4_putNothing 2 none 1 := ⟨⟨mw_234, mw_24, ⟨by decide, by decide, by decide +kernel⟩, by decide +kernel⟩, mw_232, mw_233⟩
theorem md_X4_putLaw : xMv yX4_putLaw cX4_putLaw 3 none 2 := ⟨⟨mw_238, mw_24, ⟨by decide, by decide, by decide +kernel⟩, by decide +kernel⟩, mw_236, mw_237⟩
theorem md_X4_placeOf : xMv yX4_placeOf cX4_placeOf 3 (some .int) 2 := ⟨⟨mw_119, mw_24, ⟨by decide, by decide, by decide +kernel⟩, by decide +kernel⟩, mw_117, mw_118⟩
theorem md_X4_lowestBits : xMs yX4_lowestBits cX4_lowestBits 3 (some .long) 2 := ⟨⟨mw_132, mw_24, ⟨by decide, by decide, by decide +kernel⟩, by decide +kernel⟩, mw_131⟩
theorem md_X4_putElement : xMv yX4_putElement cX4_putElement 6 none 3 := ⟨⟨mw_115, mw_24, ⟨by decide, by decide, by decide +kernel⟩, by decide +kernel⟩, mw_113, mw_114⟩
theorem md_X4_putRow : xMv yX4_putRow cX4_putRow 5 none 3 := ⟨⟨mw_107, mw_24, ⟨by decide, by decide, by decide +kernel⟩, by decide +kernel⟩, mw_105, mw_106⟩
theorem md_X4_elementAt : xMv yX4_elementAt cX4_elementAt 4 (some .long) 2 := ⟨⟨mw_200, mw_24, ⟨by decide, by decide, by decide +kernel⟩, by decide +kernel⟩, mw_198, mw_199⟩
theorem md_X4_hasElements : xMv yX4_hasElements cX4_hasElements 5 (some .boolean) 3 := ⟨⟨mw_192, mw_24, ⟨by decide, by decide, by decide +kernel⟩, by decide +kernel⟩, mw_190, mw_191⟩
theorem md_X4_copyElements : xMv yX4_copyElements cX4_copyElements 9 none 5 := ⟨⟨mw_196, mw_24, ⟨by decide, by decide, by decide +kernel⟩, by decide +kernel⟩, mw_194, mw_195⟩
theorem md_X4_elementsAsBits : xMv yX4_elementsAsBits cX4_elementsAsBits 6 (some .long) 2 := ⟨⟨mw_983, mw_24, ⟨by decide, by decide, by decide +kernel⟩, by decide +kernel⟩, mw_981, mw_982⟩
theorem md_X4_firstWrong : xMv yX4_firstWrong cX4_firstWrong 4 (some .int) 2 := ⟨⟨mw_1242, mw_24, ⟨by decide, by decide, by decide +kernel⟩, by decide +kernel⟩, mw_1240, mw_1241⟩
theorem md_X4_clearLawsFrom : xMv yX4_clearLawsFrom cX4_clearLawsFrom 3 none 1 := ⟨⟨mw_1380, mw_24, ⟨by decide, by decide, by decide +kernel⟩, by decide +kernel⟩, mw_1378, mw_1379⟩
theorem md_X5_hasRoom : xMv yX5_hasRoom cX5_hasRoom 1 (some .boolean) 0 := ⟨⟨mw_418, mw_57, ⟨by decide, by decide, by decide +kernel⟩, by decide +kernel⟩, mw_416, mw_417⟩
theorem md_X5_add : xMv yX5_add cX5_add 2 (some .int) 1 := ⟨⟨mw_423, mw_57, ⟨by decide, by decide, by decide +kernel⟩, by decide +kernel⟩, mw_421, mw_422⟩
theorem md_X6_refuse : xMv yX6_refuse cX6_refuse 3 (some .int) 1 := ⟨⟨mw_103, mw_2, ⟨by decide, by decide, by decide +kernel⟩, by decide +kernel⟩, mw_101, mw_102⟩
theorem md_X6_row : xMv yX6_row cX6_row 4 (some .int) 3 := ⟨⟨mw_93, mw_2, ⟨by decide, by decide, by decide +kernel⟩, by decide +kernel⟩, mw_91, mw_92⟩
theorem md_X6_refusalOfRow : xMv yX6_refusalOfRow cX6_refusalOfRow 2 (some .int) 1 := ⟨⟨mw_154, mw_2, ⟨by decide, by decide, by decide +kernel⟩, by decide +kernel⟩, mw_152, mw_153⟩
theorem md_X6_set : xMv yX6_set cX6_set 6 (some .int) 3 := ⟨⟨mw_150, mw_2, ⟨by decide, by decide, by decide +kernel⟩, by decide +kernel⟩, mw_148, mw_149⟩
theorem md_X6_refusalOfTwoRows : xMv yX6_refusalOfTwoRows cX6_refusalOfTwoRows 5 (some .int) 2 := ⟨⟨mw_187, mw_2, ⟨by decide, by decide, by decide +kernel⟩, by decide +kernel⟩, mw_185, mw_186⟩
theorem md_X6_copy : xMv yX6_copy cX6_copy 7 (some .int) 5 := ⟨⟨mw_183, mw_2, ⟨by decide, by decide, by decide +kernel⟩, by decide +kernel⟩, mw_181, mw_182⟩
theorem md_X6_element : xMv yX6_element cX6_element 3 (some .long) 2 := ⟨⟨mw_208, mw_2, ⟨by decide, by decide, by decide +kernel⟩, by decide +kernel⟩, mw_206, mw_207⟩
theorem md_X6_holds : xMv yX6_holds cX6_holds 2 (some .int) 1 := ⟨⟨mw_217, mw_2, ⟨by decide, by decide, by decide +kernel⟩, by decide +kernel⟩, mw_215, mw_216⟩
theorem md_X6_show : xMv yX6_show cX6_show 3 (some .int) 2 := ⟨⟨mw_225, mw_2, ⟨by decide, by decide, by decide +kernel⟩, by decide +kernel⟩, mw_223, mw_224⟩
theorem md_X6_says : xMv yX6_says cX6_says 4 (some .int) 2 := ⟨⟨mw_251, mw_2, ⟨by decide, by decide, by decide +kernel⟩, by decide +kernel⟩, mw_249, mw_250⟩
theorem md_X6_law : xMv yX6_law cX6_law 3 (some .int) 2 := ⟨⟨mw_346, mw_2, ⟨by decide, by decide, by decide +kernel⟩, by decide +kernel⟩, mw_344, mw_345⟩
theorem md_X6_use : xMv yX6_use cX6_use 3 (some .int) 1 := ⟨⟨mw_370, mw_2, ⟨by decide, by decide, by decide +kernel⟩, by decide +kernel⟩, mw_368, mw_369⟩
theorem md_X6_ask : xMv yX6_ask cX6_ask 4 (some .int) 2 := ⟨⟨mw_379, mw_2, ⟨by decide, by decide, by decide +kernel⟩, by decide +kernel⟩, mw_377, mw_378⟩
theorem md_X6_person : xMv yX6_person cX6_person 2 (some .int) 1 := ⟨⟨mw_388, mw_2, ⟨by decide, by decide, by decide +kernel⟩, by decide +kernel⟩, mw_386, mw_387⟩
theorem md_X6_feed : xMv yX6_feed cX6_feed 2 (some .int) 1 := ⟨⟨mw_414, mw_2, ⟨by decide, by decide, by decide +kernel⟩, by decide +kernel⟩, mw_412, mw_413⟩
theorem md_X6_wipe : xMv yX6_wipe cX6_wipe 2 (some .int) 0 := ⟨⟨mw_432, mw_2, ⟨by decide, by decide, by decide +kernel⟩, by decide +kernel⟩, mw_430, mw_431⟩
theorem md_X6_lake : xMv yX6_lake cX6_lake 2 (some .int) 0 := ⟨⟨mw_440, mw_2, ⟨by decide, by decide, by decide +kernel⟩, by decide +kernel⟩, mw_438, mw_439⟩
theorem md_X6_lawOf : xMv yX6_lawOf cX6_lawOf 3 (some .int) 2 := ⟨⟨mw_647, mw_2, ⟨by decide, by decide, by decide +kernel⟩, by decide +kernel⟩, mw_645, mw_646⟩
theorem md_X6_age : xMv yX6_age cX6_age 2 (some .int) 1 := ⟨⟨mw_655, mw_2, ⟨by decide, by decide, by decide +kernel⟩, by decide +kernel⟩, mw_653, mw_654⟩
theorem md_X6_isStep : xMv yX6_isStep cX6_isStep 2 (some .boolean) 1 := ⟨⟨mw_676, mw_2, ⟨by decide, by decide, by decide +kernel⟩, by decide +kernel⟩, mw_674, mw_675⟩
theorem md_X6_asNumber : xMs yX6_asNumber cX6_asNumber 1 (some .int) 1 := ⟨⟨mw_680, mw_2, ⟨by decide, by decide, by decide +kernel⟩, by decide +kernel⟩, mw_679⟩
theorem md_X6_step : xMv yX6_step cX6_step 2 (some .int) 1 := ⟨⟨mw_672, mw_2, ⟨by decide, by decide, by decide +kernel⟩, by decide +kernel⟩, mw_670, mw_671⟩
theorem md_X6_strikes : xMv yX6_strikes cX6_strikes 2 (some .int) 1 := ⟨⟨mw_692, mw_2, ⟨by decide, by decide, by decide +kernel⟩, by decide +kernel⟩, mw_690, mw_691⟩
theorem md_X6_strikesBy : xMv yX6_strikesBy cX6_strikesBy 3 (some .int) 2 := ⟨⟨mw_709, mw_2, ⟨by decide, by decide, by decide +kernel⟩, by decide +kernel⟩, mw_707, mw_708⟩
theorem md_X6_heard : xMv yX6_heard cX6_heard 3 (some .int) 2 := ⟨⟨mw_718, mw_2, ⟨by decide, by decide, by decide +kernel⟩, by decide +kernel⟩, mw_716, mw_717⟩
theorem md_X6_all : xMv yX6_all cX6_all 2 (some .int) 1 := ⟨⟨mw_743, mw_2, ⟨by decide, by decide, by decide +kernel⟩, by decide +kernel⟩, mw_741, mw_742⟩
theorem md_X6_firstIn : xMs yX6_firstIn cX6_firstIn 5 (some .int) 3 := ⟨⟨mw_759, mw_2, ⟨by decide, by decide, by decide +kernel⟩, by decide +kernel⟩, mw_758⟩
theorem md_X6_silent : xMv yX6_silent cX6_silent 2 (some .int) 1 := ⟨⟨mw_756, mw_2, ⟨by decide, by decide, by decide +kernel⟩, by decide +kernel⟩, mw_754, mw_755⟩
theorem md_X6_longestRun : xMs yX6_longestRun cX6_longestRun 6 (some .int) 2 := ⟨⟨mw_771, mw_2, ⟨by decide, by decide, by decide +kernel⟩, by decide +kernel⟩, mw_770⟩
theorem md_X6_run : xMv yX6_run cX6_run 2 (some .int) 1 := ⟨⟨mw_767, mw_2, ⟨by decide, by decide, by decide +kernel⟩, by decide +kernel⟩, mw_765, mw_766⟩
theorem md_X6_loop : xMv yX6_loop cX6_loop 2 (some .int) 1 := ⟨⟨mw_783, mw_2, ⟨by decide, by decide, by decide +kernel⟩, by decide +kernel⟩, mw_781, mw_782⟩
theorem md_X6_period : xMv yX6_period cX6_period 2 (some .int) 0 := ⟨⟨mw_799, mw_2, ⟨by decide, by decide, by decide +kernel⟩, by decide +kernel⟩, mw_797, mw_798⟩
theorem md_X6_mirror : xMv yX6_mirror cX6_mirror 1 (some .int) 0 := ⟨⟨mw_808, mw_2, ⟨by decide, by decide, by decide +kernel⟩, by decide +kernel⟩, mw_806, mw_807⟩
theorem md_X6_lastStroke : xMv yX6_lastStroke cX6_lastStroke 3 (some .int) 0 := ⟨⟨mw_824, mw_2, ⟨by decide, by decide, by decide +kernel⟩, by decide +kernel⟩, mw_822, mw_823⟩
theorem md_X6_shift : xMv yX6_shift cX6_shift 4 (some .int) 1 := ⟨⟨mw_832, mw_2, ⟨by decide, by decide, by decide +kernel⟩, by decide +kernel⟩, mw_830, mw_831⟩
theorem md_X6_flip : xMv yX6_flip cX6_flip 5 (some .int) 0 := ⟨⟨mw_844, mw_2, ⟨by decide, by decide, by decide +kernel⟩, by decide +kernel⟩, mw_842, mw_843⟩
theorem md_X6_until : xMv yX6_until cX6_until 5 (some .int) 1 := ⟨⟨mw_852, mw_2, ⟨by decide, by decide, by decide +kernel⟩, by decide +kernel⟩, mw_850, mw_851⟩
theorem md_X6_sameAs : xMv yX6_sameAs cX6_sameAs 6 (some .int) 1 := ⟨⟨mw_861, mw_2, ⟨by decide, by decide, by decide +kernel⟩, by decide +kernel⟩, mw_859, mw_860⟩
theorem md_X6_areTwoLaws : xMv yX6_areTwoLaws cX6_areTwoLaws 3 (some .boolean) 2 := ⟨⟨mw_877, mw_2, ⟨by decide, by decide, by decide +kernel⟩, by decide +kernel⟩, mw_875, mw_876⟩
theorem md_X6_apart : xMv yX6_apart cX6_apart 3 (some .int) 2 := ⟨⟨mw_873, mw_2, ⟨by decide, by decide, by decide +kernel⟩, by decide +kernel⟩, mw_871, mw_872⟩
theorem md_X6_parts : xMv yX6_parts cX6_parts 6 (some .int) 3 := ⟨⟨mw_897, mw_2, ⟨by decide, by decide, by decide +kernel⟩, by decide +kernel⟩, mw_895, mw_896⟩
theorem md_X6_isSetOf : xMs yX6_isSetOf cX6_isSetOf 2 (some .boolean) 2 := ⟨⟨mw_912, mw_2, ⟨by decide, by decide, by decide +kernel⟩, by decide +kernel⟩, mw_911⟩
theorem md_X6_common : xMv yX6_common cX6_common 5 (some .int) 1 := ⟨⟨mw_909, mw_2, ⟨by decide, by decide, by decide +kernel⟩, by decide +kernel⟩, mw_907, mw_908⟩
theorem md_X6_alone : xMv yX6_alone cX6_alone 5 (some .int) 1 := ⟨⟨mw_924, mw_2, ⟨by decide, by decide, by decide +kernel⟩, by decide +kernel⟩, mw_922, mw_923⟩
theorem md_X6_busiest : xMv yX6_busiest cX6_busiest 3 (some .int) 0 := ⟨⟨mw_933, mw_2, ⟨by decide, by decide, by decide +kernel⟩, by decide +kernel⟩, mw_931, mw_932⟩
theorem md_X6_areTriedSteps : xMs yX6_areTriedSteps cX6_areTriedSteps 2 (some .boolean) 2 := ⟨⟨mw_944, mw_2, ⟨by decide, by decide, by decide +kernel⟩, by decide +kernel⟩, mw_943⟩
theorem md_X6_lawFor : xMv yX6_lawFor cX6_lawFor 7 (some .int) 2 := ⟨⟨mw_941, mw_2, ⟨by decide, by decide, by decide +kernel⟩, by decide +kernel⟩, mw_939, mw_940⟩
theorem md_X6_refusalOfHeardRow : xMv yX6_refusalOfHeardRow cX6_refusalOfHeardRow 3 (some .int) 1 := ⟨⟨mw_979, mw_2, ⟨by decide, by decide, by decide +kernel⟩, by decide +kernel⟩, mw_977, mw_978⟩
theorem md_X6_depths : xMv yX6_depths cX6_depths 7 (some .int) 1 := ⟨⟨mw_975, mw_2, ⟨by decide, by decide, by decide +kernel⟩, by decide +kernel⟩, mw_973, mw_974⟩
theorem md_X6_differs : xMv yX6_differs cX6_differs 5 (some .int) 1 := ⟨⟨mw_1003, mw_2, ⟨by decide, by decide, by decide +kernel⟩, by decide +kernel⟩, mw_1001, mw_1002⟩
theorem md_X6_together : xMv yX6_together cX6_together 5 (some .int) 0 := ⟨⟨mw_1011, mw_2, ⟨by decide, by decide, by decide +kernel⟩, by decide +kernel⟩, mw_1009, mw_1010⟩
theorem md_X6_odds : xMv yX6_odds cX6_odds 4 (some .int) 0 := ⟨⟨mw_1019, mw_2, ⟨by decide, by decide, by decide +kernel⟩, by decide +kernel⟩, mw_1017, mw_1018⟩
theorem md_X6_expected : xMv yX6_expected cX6_expected 1 (some .int) 0 := ⟨⟨mw_1029, mw_2, ⟨by decide, by decide, by decide +kernel⟩, by decide +kernel⟩, mw_1027, mw_1028⟩
theorem md_X6_fits : xMv yX6_fits cX6_fits 7 (some .int) 1 := ⟨⟨mw_1037, mw_2, ⟨by decide, by decide, by decide +kernel⟩, by decide +kernel⟩, mw_1035, mw_1036⟩
theorem md_X6_next : xMv yX6_next cX6_next 5 (some .int) 2 := ⟨⟨mw_1045, mw_2, ⟨by decide, by decide, by decide +kernel⟩, by decide +kernel⟩, mw_1043, mw_1044⟩
theorem md_X6_loudest : xMv yX6_loudest cX6_loudest 3 (some .int) 2 := ⟨⟨mw_1064, mw_2, ⟨by decide, by decide, by decide +kernel⟩, by decide +kernel⟩, mw_1062, mw_1063⟩
theorem md_X6_plan : xMv yX6_plan cX6_plan 3 (some .int) 2 := ⟨⟨mw_1078, mw_2, ⟨by decide, by decide, by decide +kernel⟩, by decide +kernel⟩, mw_1076, mw_1077⟩
theorem md_X6_fill : xMv yX6_fill cX6_fill 3 (some .int) 2 := ⟨⟨mw_1086, mw_2, ⟨by decide, by decide, by decide +kernel⟩, by decide +kernel⟩, mw_1084, mw_1085⟩
theorem md_X6_round : xMv yX6_round cX6_round 6 (some .int) 0 := ⟨⟨mw_1102, mw_2, ⟨by decide, by decide, by decide +kernel⟩, by decide +kernel⟩, mw_1100, mw_1101⟩
theorem md_X6_areDivisors : xMs yX6_areDivisors cX6_areDivisors 2 (some .boolean) 2 := ⟨⟨mw_1113, mw_2, ⟨by decide, by decide, by decide +kernel⟩, by decide +kernel⟩, mw_1112⟩
theorem md_X6_leaves : xMs yX6_leaves cX6_leaves 3 (some .boolean) 3 := ⟨⟨mw_1119, mw_2, ⟨by decide, by decide, by decide +kernel⟩, by decide +kernel⟩, mw_1118⟩
theorem md_X6_firstDay : xMs yX6_firstDay cX6_firstDay 6 (some .int) 5 := ⟨⟨mw_1116, mw_2, ⟨by decide, by decide, by decide +kernel⟩, by decide +kernel⟩, mw_1115⟩
theorem md_X6_day : xMv yX6_day cX6_day 5 (some .int) 4 := ⟨⟨mw_1110, mw_2, ⟨by decide, by decide, by decide +kernel⟩, by decide +kernel⟩, mw_1108, mw_1109⟩
theorem md_X6_tolls : xMv yX6_tolls cX6_tolls 3 (some .int) 2 := ⟨⟨mw_1127, mw_2, ⟨by decide, by decide, by decide +kernel⟩, by decide +kernel⟩, mw_1125, mw_1126⟩
theorem md_X6_meet : xMv yX6_meet cX6_meet 3 (some .int) 2 := ⟨⟨mw_1152, mw_2, ⟨by decide, by decide, by decide +kernel⟩, by decide +kernel⟩, mw_1150, mw_1151⟩
theorem md_X6_sum : xMv yX6_sum cX6_sum 2 (some .int) 1 := ⟨⟨mw_1160, mw_2, ⟨by decide, by decide, by decide +kernel⟩, by decide +kernel⟩, mw_1158, mw_1159⟩
theorem md_X6_reached : xMv yX6_reached cX6_reached 2 (some .int) 1 := ⟨⟨mw_1169, mw_2, ⟨by decide, by decide, by decide +kernel⟩, by decide +kernel⟩, mw_1167, mw_1168⟩
theorem md_X6_halves : xMv yX6_halves cX6_halves 1 (some .int) 0 := ⟨⟨mw_1186, mw_2, ⟨by decide, by decide, by decide +kernel⟩, by decide +kernel⟩, mw_1184, mw_1185⟩
theorem md_X6_ranked : xMv yX6_ranked cX6_ranked 2 (some .int) 1 := ⟨⟨mw_1206, mw_2, ⟨by decide, by decide, by decide +kernel⟩, by decide +kernel⟩, mw_1204, mw_1205⟩
theorem md_X6_oldest : xMv yX6_oldest cX6_oldest 1 (some .int) 0 := ⟨⟨mw_1222, mw_2, ⟨by decide, by decide, by decide +kernel⟩, by decide +kernel⟩, mw_1220, mw_1221⟩
theorem md_X6_refusalOfToldRow : xMv yX6_refusalOfToldRow cX6_refusalOfToldRow 4 (some .int) 2 := ⟨⟨mw_1238, mw_2, ⟨by decide, by decide, by decide +kernel⟩, by decide +kernel⟩, mw_1236, mw_1237⟩
theorem md_X6_judge : xMv yX6_judge cX6_judge 4 (some .int) 2 := ⟨⟨mw_1234, mw_2, ⟨by decide, by decide, by decide +kernel⟩, by decide +kernel⟩, mw_1232, mw_1233⟩
theorem md_X6_refusalOfToldRing : xMv yX6_refusalOfToldRing cX6_refusalOfToldRing 4 (some .int) 2 := ⟨⟨mw_1266, mw_2, ⟨by decide, by decide, by decide +kernel⟩, by decide +kernel⟩, mw_1264, mw_1265⟩
theorem md_X6_answers : xMv yX6_answers cX6_answers 7 (some .int) 3 := ⟨⟨mw_1262, mw_2, ⟨by decide, by decide, by decide +kernel⟩, by decide +kernel⟩, mw_1260, mw_1261⟩
theorem md_X6_rings : xMv yX6_rings cX6_rings 4 (some .int) 2 := ⟨⟨mw_1279, mw_2, ⟨by decide, by decide, by decide +kernel⟩, by decide +kernel⟩, mw_1277, mw_1278⟩
theorem md_X6_ring : xMv yX6_ring cX6_ring 2 (some .int) 1 := ⟨⟨mw_1287, mw_2, ⟨by decide, by decide, by decide +kernel⟩, by decide +kernel⟩, mw_1285, mw_1286⟩
theorem md_X6_days : xMv yX6_days cX6_days 5 (some .int) 1 := ⟨⟨mw_1315, mw_2, ⟨by decide, by decide, by decide +kernel⟩, by decide +kernel⟩, mw_1313, mw_1314⟩
theorem md_X6_turn : xMv yX6_turn cX6_turn 1 (some .int) 0 := ⟨⟨mw_1324, mw_2, ⟨by decide, by decide, by decide +kernel⟩, by decide +kernel⟩, mw_1322, mw_1323⟩
theorem md_X6_change : xMv yX6_change cX6_change 2 (some .int) 1 := ⟨⟨mw_1332, mw_2, ⟨by decide, by decide, by decide +kernel⟩, by decide +kernel⟩, mw_1330, mw_1331⟩
theorem md_X6_cut : xMv yX6_cut cX6_cut 2 (some .int) 1 := ⟨⟨mw_1340, mw_2, ⟨by decide, by decide, by decide +kernel⟩, by decide +kernel⟩, mw_1338, mw_1339⟩
theorem md_X6_still : xMv yX6_still cX6_still 2 (some .int) 0 := ⟨⟨mw_1348, mw_2, ⟨by decide, by decide, by decide +kernel⟩, by decide +kernel⟩, mw_1346, mw_1347⟩
theorem md_X6_seed : xMv yX6_seed cX6_seed 3 (some .int) 1 := ⟨⟨mw_1357, mw_2, ⟨by decide, by decide, by decide +kernel⟩, by decide +kernel⟩, mw_1355, mw_1356⟩
theorem md_X6_image : xMv yX6_image cX6_image 1 (some .int) 0 := ⟨⟨mw_1365, mw_2, ⟨by decide, by decide, by decide +kernel⟩, by decide +kernel⟩, mw_1363, mw_1364⟩
theorem md_X6_back : xMv yX6_back cX6_back 1 (some .int) 0 := ⟨⟨mw_1376, mw_2, ⟨by decide, by decide, by decide +kernel⟩, by decide +kernel⟩, mw_1374, mw_1375⟩
theorem md_X6_status : xMv yX6_status cX6_status 2 (some .int) 1 := ⟨⟨mw_1390, mw_2, ⟨by decide, by decide, by decide +kernel⟩, by decide +kernel⟩, mw_1388, mw_1389⟩
theorem md_X7_no : xMv yX7_no cX7_no 2 (some .int) 1 := ⟨⟨mw_146, mw_5, ⟨by decide, by decide, by decide +kernel⟩, by decide +kernel⟩, mw_144, mw_145⟩
theorem md_X7_within : xMs yX7_within cX7_within 3 (some .boolean) 3 := ⟨⟨mw_142, mw_5, ⟨by decide, by decide, by decide +kernel⟩, by decide +kernel⟩, mw_141⟩
theorem md_X7_has : xMs yX7_has cX7_has 3 (some .boolean) 2 := ⟨⟨mw_338, mw_5, ⟨by decide, by decide, by decide +kernel⟩, by decide +kernel⟩, mw_337⟩
theorem md_X7_isLaw : xMv yX7_isLaw cX7_isLaw 2 (some .boolean) 1 := ⟨⟨mw_246, mw_5, ⟨by decide, by decide, by decide +kernel⟩, by decide +kernel⟩, mw_244, mw_245⟩
theorem md_X7_isOne : xMv yX7_isOne cX7_isOne 2 (some .boolean) 1 := ⟨⟨mw_668, mw_5, ⟨by decide, by decide, by decide +kernel⟩, by decide +kernel⟩, mw_666, mw_667⟩
theorem md_X7_isStep : xMv yX7_isStep cX7_isStep 2 (some .boolean) 1 := ⟨⟨mw_688, mw_5, ⟨by decide, by decide, by decide +kernel⟩, by decide +kernel⟩, mw_686, mw_687⟩
theorem md_X7_isShelf : xMs yX7_isShelf cX7_isShelf 1 (some .boolean) 1 := ⟨⟨mw_139, mw_5, ⟨by decide, by decide, by decide +kernel⟩, by decide +kernel⟩, mw_138⟩
theorem md_X7_isRow : xMv yX7_isRow cX7_isRow 2 (some .boolean) 1 := ⟨⟨mw_172, mw_5, ⟨by decide, by decide, by decide +kernel⟩, by decide +kernel⟩, mw_170, mw_171⟩
theorem md_X7_row : xMv yX7_row cX7_row 5 (some .int) 3 := ⟨⟨mw_136, mw_5, ⟨by decide, by decide, by decide +kernel⟩, by decide +kernel⟩, mw_134, mw_135⟩
theorem md_X7_noRow : xMv yX7_noRow cX7_noRow 2 (some .int) 1 := ⟨⟨mw_176, mw_5, ⟨by decide, by decide, by decide +kernel⟩, by decide +kernel⟩, mw_174, mw_175⟩
theorem md_X7_kept : xMs yX7_kept cX7_kept 3 (some .long) 2 := ⟨⟨mw_179, mw_5, ⟨by decide, by decide, by decide +kernel⟩, by decide +kernel⟩, mw_178⟩
theorem md_X7_set : xMv yX7_set cX7_set 5 (some .int) 3 := ⟨⟨mw_168, mw_5, ⟨by decide, by decide, by decide +kernel⟩, by decide +kernel⟩, mw_166, mw_167⟩
theorem md_X7_copy : xMv yX7_copy cX7_copy 7 (some .int) 5 := ⟨⟨mw_204, mw_5, ⟨by decide, by decide, by decide +kernel⟩, by decide +kernel⟩, mw_202, mw_203⟩
theorem md_X7_element : xMv yX7_element cX7_element 3 (some .long) 2 := ⟨⟨mw_213, mw_5, ⟨by decide, by decide, by decide +kernel⟩, by decide +kernel⟩, mw_211, mw_212⟩
theorem md_X7_holds : xMv yX7_holds cX7_holds 2 (some .int) 1 := ⟨⟨mw_221, mw_5, ⟨by decide, by decide, by decide +kernel⟩, by decide +kernel⟩, mw_219, mw_220⟩
theorem md_X7_show : xMv yX7_show cX7_show 3 (some .int) 2 := ⟨⟨mw_242, mw_5, ⟨by decide, by decide, by decide +kernel⟩, by decide +kernel⟩, mw_240, mw_241⟩
theorem md_X7_isUnder : xMs yX7_isUnder cX7_isUnder 2 (some .boolean) 2 := ⟨⟨mw_324, mw_5, ⟨by decide, by decide, by decide +kernel⟩, by decide +kernel⟩, mw_323⟩
theorem md_X7_isStroke : xMs yX7_isStroke cX7_isStroke 4 (some .boolean) 3 := ⟨⟨mw_335, mw_5, ⟨by decide, by decide, by decide +kernel⟩, by decide +kernel⟩, mw_334⟩
theorem md_X7_strokes : xMs yX7_strokes cX7_strokes 5 (some .int) 3 := ⟨⟨mw_341, mw_5, ⟨by decide, by decide, by decide +kernel⟩, by decide +kernel⟩, mw_340⟩
theorem md_X7_strikesAt : xMv yX7_strikesAt cX7_strikesAt 8 (some .boolean) 4 := ⟨⟨mw_332, mw_5, ⟨by decide, by decide, by decide +kernel⟩, by decide +kernel⟩, mw_330, mw_331⟩
theorem md_X7_struck : xMv yX7_struck cX7_struck 7 (some .int) 3 := ⟨⟨mw_328, mw_5, ⟨by decide, by decide, by decide +kernel⟩, by decide +kernel⟩, mw_326, mw_327⟩
theorem md_X7_says : xMv yX7_says cX7_says 4 (some .int) 2 := ⟨⟨mw_319, mw_5, ⟨by decide, by decide, by decide +kernel⟩, by decide +kernel⟩, mw_317, mw_318⟩
theorem md_X7_newLaw : xMv yX7_newLaw cX7_newLaw 3 (some .int) 2 := ⟨⟨mw_366, mw_5, ⟨by decide, by decide, by decide +kernel⟩, by decide +kernel⟩, mw_364, mw_365⟩
theorem md_X7_law : xMv yX7_law cX7_law 3 (some .int) 2 := ⟨⟨mw_362, mw_5, ⟨by decide, by decide, by decide +kernel⟩, by decide +kernel⟩, mw_360, mw_361⟩
theorem md_X7_use : xMv yX7_use cX7_use 3 (some .int) 1 := ⟨⟨mw_374, mw_5, ⟨by decide, by decide, by decide +kernel⟩, by decide +kernel⟩, mw_372, mw_373⟩
theorem md_X7_ask : xMv yX7_ask cX7_ask 4 (some .int) 2 := ⟨⟨mw_383, mw_5, ⟨by decide, by decide, by decide +kernel⟩, by decide +kernel⟩, mw_381, mw_382⟩
theorem md_X7_newOne : xMv yX7_newOne cX7_newOne 2 (some .int) 1 := ⟨⟨mw_410, mw_5, ⟨by decide, by decide, by decide +kernel⟩, by decide +kernel⟩, mw_408, mw_409⟩
theorem md_X7_person : xMv yX7_person cX7_person 2 (some .int) 1 := ⟨⟨mw_405, mw_5, ⟨by decide, by decide, by decide +kernel⟩, by decide +kernel⟩, mw_403, mw_404⟩
theorem md_X7_adds : xMv yX7_adds cX7_adds 2 none 1 := ⟨⟨mw_639, mw_5, ⟨by decide, by decide, by decide +kernel⟩, by decide +kernel⟩, mw_637, mw_638⟩
theorem md_X7_feed : xMv yX7_feed cX7_feed 2 (some .int) 1 := ⟨⟨mw_427, mw_5, ⟨by decide, by decide, by decide +kernel⟩, by decide +kernel⟩, mw_425, mw_426⟩
theorem md_X7_wipe : xMv yX7_wipe cX7_wipe 2 (some .int) 0 := ⟨⟨mw_436, mw_5, ⟨by decide, by decide, by decide +kernel⟩, by decide +kernel⟩, mw_434, mw_435⟩
theorem md_X7_isLetter : xMs yX7_isLetter cX7_isLetter 1 (some .boolean) 1 := ⟨⟨mw_614, mw_5, ⟨by decide, by decide, by decide +kernel⟩, by decide +kernel⟩, mw_613⟩
theorem md_X7_isDigit : xMs yX7_isDigit cX7_isDigit 1 (some .boolean) 1 := ⟨⟨mw_617, mw_5, ⟨by decide, by decide, by decide +kernel⟩, by decide +kernel⟩, mw_616⟩
theorem md_X7_next : xMv yX7_next cX7_next 2 none 0 := ⟨⟨mw_610, mw_5, ⟨by decide, by decide, by decide +kernel⟩, by decide +kernel⟩, mw_608, mw_609⟩
theorem md_X7_isWord : xMv yX7_isWord cX7_isWord 3 (some .boolean) 1 := ⟨⟨mw_625, mw_5, ⟨by decide, by decide, by decide +kernel⟩, by decide +kernel⟩, mw_623, mw_624⟩
theorem md_X7_number : xMv yX7_number cX7_number 3 (some .int) 2 := ⟨⟨mw_631, mw_5, ⟨by decide, by decide, by decide +kernel⟩, by decide +kernel⟩, mw_629, mw_630⟩
theorem md_X7_isTold : xMv yX7_isTold cX7_isTold 2 (some .boolean) 0 := ⟨⟨mw_635, mw_5, ⟨by decide, by decide, by decide +kernel⟩, by decide +kernel⟩, mw_633, mw_634⟩
theorem md_X7_statement : xMv yX7_statement cX7_statement 3 (some .boolean) 0 := ⟨⟨mw_621, mw_5, ⟨by decide, by decide, by decide +kernel⟩, by decide +kernel⟩, mw_619, mw_620⟩
theorem md_X7_keep : xMv yX7_keep cX7_keep 3 none 1 := ⟨⟨mw_606, mw_5, ⟨by decide, by decide, by decide +kernel⟩, by decide +kernel⟩, mw_604, mw_605⟩
theorem md_X7_again : xMv yX7_again cX7_again 3 none 1 := ⟨⟨mw_643, mw_5, ⟨by decide, by decide, by decide +kernel⟩, by decide +kernel⟩, mw_641, mw_642⟩
theorem md_X7_lake : xMv yX7_lake cX7_lake 3 (some .int) 0 := ⟨⟨mw_598, mw_5, ⟨by decide, by decide, by decide +kernel⟩, by decide +kernel⟩, mw_596, mw_597⟩
theorem md_X7_lawOf : xMv yX7_lawOf cX7_lawOf 3 (some .int) 2 := ⟨⟨mw_651, mw_5, ⟨by decide, by decide, by decide +kernel⟩, by decide +kernel⟩, mw_649, mw_650⟩
theorem md_X7_age : xMv yX7_age cX7_age 2 (some .int) 1 := ⟨⟨mw_664, mw_5, ⟨by decide, by decide, by decide +kernel⟩, by decide +kernel⟩, mw_662, mw_663⟩
theorem md_X7_step : xMv yX7_step cX7_step 2 (some .int) 1 := ⟨⟨mw_684, mw_5, ⟨by decide, by decide, by decide +kernel⟩, by decide +kernel⟩, mw_682, mw_683⟩
theorem md_X7_strikesNow : xMv yX7_strikesNow cX7_strikesNow 5 (some .boolean) 3 := ⟨⟨mw_705, mw_5, ⟨by decide, by decide, by decide +kernel⟩, by decide +kernel⟩, mw_703, mw_704⟩
theorem md_X7_struckNow : xMv yX7_struckNow cX7_struckNow 4 (some .int) 2 := ⟨⟨mw_840, mw_5, ⟨by decide, by decide, by decide +kernel⟩, by decide +kernel⟩, mw_838, mw_839⟩
theorem md_X7_struckBits : xMv yX7_struckBits cX7_struckBits 8 (some .long) 3 := ⟨⟨mw_869, mw_5, ⟨by decide, by decide, by decide +kernel⟩, by decide +kernel⟩, mw_867, mw_868⟩
theorem md_X7_isHeard : xMv yX7_isHeard cX7_isHeard 5 (some .boolean) 3 := ⟨⟨mw_735, mw_5, ⟨by decide, by decide, by decide +kernel⟩, by decide +kernel⟩, mw_733, mw_734⟩
theorem md_X7_isBoth : xMv yX7_isBoth cX7_isBoth 5 (some .boolean) 3 := ⟨⟨mw_739, mw_5, ⟨by decide, by decide, by decide +kernel⟩, by decide +kernel⟩, mw_737, mw_738⟩
theorem md_X7_is : xMv yX7_is cX7_is 6 (some .boolean) 4 := ⟨⟨mw_731, mw_5, ⟨by decide, by decide, by decide +kernel⟩, by decide +kernel⟩, mw_729, mw_730⟩
theorem md_X7_many : xMv yX7_many cX7_many 7 (some .int) 3 := ⟨⟨mw_752, mw_5, ⟨by decide, by decide, by decide +kernel⟩, by decide +kernel⟩, mw_750, mw_751⟩
theorem md_X7_heardBits : xMv yX7_heardBits cX7_heardBits 7 (some .long) 2 := ⟨⟨mw_1098, mw_5, ⟨by decide, by decide, by decide +kernel⟩, by decide +kernel⟩, mw_1096, mw_1097⟩
theorem md_X7_strikes : xMv yX7_strikes cX7_strikes 2 (some .int) 1 := ⟨⟨mw_701, mw_5, ⟨by decide, by decide, by decide +kernel⟩, by decide +kernel⟩, mw_699, mw_700⟩
theorem md_X7_strikesBy : xMv yX7_strikesBy cX7_strikesBy 3 (some .int) 2 := ⟨⟨mw_714, mw_5, ⟨by decide, by decide, by decide +kernel⟩, by decide +kernel⟩, mw_712, mw_713⟩
theorem md_X7_heard : xMv yX7_heard cX7_heard 3 (some .int) 2 := ⟨⟨mw_727, mw_5, ⟨by decide, by decide, by decide +kernel⟩, by decide +kernel⟩, mw_725, mw_726⟩
theorem md_X7_all : xMv yX7_all cX7_all 2 (some .int) 1 := ⟨⟨mw_748, mw_5, ⟨by decide, by decide, by decide +kernel⟩, by decide +kernel⟩, mw_746, mw_747⟩
theorem md_X7_silent : xMv yX7_silent cX7_silent 3 (some .int) 1 := ⟨⟨mw_763, mw_5, ⟨by decide, by decide, by decide +kernel⟩, by decide +kernel⟩, mw_761, mw_762⟩
theorem md_X7_run : xMv yX7_run cX7_run 6 (some .int) 1 := ⟨⟨mw_778, mw_5, ⟨by decide, by decide, by decide +kernel⟩, by decide +kernel⟩, mw_776, mw_777⟩
theorem md_X7_looped : xMv yX7_looped cX7_looped 4 (some .int) 1 := ⟨⟨mw_795, mw_5, ⟨by decide, by decide, by decide +kernel⟩, by decide +kernel⟩, mw_793, mw_794⟩
theorem md_X7_loop : xMv yX7_loop cX7_loop 2 (some .int) 1 := ⟨⟨mw_791, mw_5, ⟨by decide, by decide, by decide +kernel⟩, by decide +kernel⟩, mw_789, mw_790⟩
theorem md_X7_round : xMv yX7_round cX7_round 4 (some .int) 0 := ⟨⟨mw_1106, mw_5, ⟨by decide, by decide, by decide +kernel⟩, by decide +kernel⟩, mw_1104, mw_1105⟩
theorem md_X7_period : xMv yX7_period cX7_period 4 (some .int) 0 := ⟨⟨mw_804, mw_5, ⟨by decide, by decide, by decide +kernel⟩, by decide +kernel⟩, mw_802, mw_803⟩
theorem md_X7_backward : xMv yX7_backward cX7_backward 4 (some .long) 0 := ⟨⟨mw_820, mw_5, ⟨by decide, by decide, by decide +kernel⟩, by decide +kernel⟩, mw_818, mw_819⟩
theorem md_X7_mirror : xMv yX7_mirror cX7_mirror 1 (some .int) 0 := ⟨⟨mw_816, mw_5, ⟨by decide, by decide, by decide +kernel⟩, by decide +kernel⟩, mw_814, mw_815⟩
theorem md_X7_lastStroke : xMv yX7_lastStroke cX7_lastStroke 2 (some .int) 0 := ⟨⟨mw_828, mw_5, ⟨by decide, by decide, by decide +kernel⟩, by decide +kernel⟩, mw_826, mw_827⟩
theorem md_X7_shift : xMv yX7_shift cX7_shift 5 (some .int) 1 := ⟨⟨mw_836, mw_5, ⟨by decide, by decide, by decide +kernel⟩, by decide +kernel⟩, mw_834, mw_835⟩
theorem md_X7_flip : xMv yX7_flip cX7_flip 5 (some .int) 0 := ⟨⟨mw_848, mw_5, ⟨by decide, by decide, by decide +kernel⟩, by decide +kernel⟩, mw_846, mw_847⟩
theorem md_X7_until : xMv yX7_until cX7_until 4 (some .int) 1 := ⟨⟨mw_857, mw_5, ⟨by decide, by decide, by decide +kernel⟩, by decide +kernel⟩, mw_855, mw_856⟩
theorem md_X7_sameAs : xMv yX7_sameAs cX7_sameAs 4 (some .int) 1 := ⟨⟨mw_865, mw_5, ⟨by decide, by decide, by decide +kernel⟩, by decide +kernel⟩, mw_863, mw_864⟩
theorem md_X7_areTwo : xMv yX7_areTwo cX7_areTwo 3 (some .boolean) 2 := ⟨⟨mw_885, mw_5, ⟨by decide, by decide, by decide +kernel⟩, by decide +kernel⟩, mw_883, mw_884⟩
theorem md_J6_numberOfTrailingZeros_0f7a4 : xMs yJ6_numberOfTrailingZeros_0f7a4 cJ6_numberOfTrailingZeros_0f7a4 2 (some .int) 1 := ⟨⟨mw_892, mw_891, ⟨by decide, by decide, by decide +kernel⟩, by decide +kernel⟩, mw_890⟩
theorem md_J13_numberOfTrailingZeros_95d88 : xMs yJ13_numberOfTrailingZeros_95d88 cJ13_numberOfTrailingZeros_95d88 3 (some .int) 1 := ⟨⟨mw_888, mw_306, ⟨by decide, by decide, by decide +kernel⟩, by decide +kernel⟩, mw_887⟩
theorem md_X7_apart : xMv yX7_apart cX7_apart 5 (some .int) 2 := ⟨⟨mw_881, mw_5, ⟨by decide, by decide, by decide +kernel⟩, by decide +kernel⟩, mw_879, mw_880⟩
theorem md_X7_parts : xMv yX7_parts cX7_parts 6 (some .int) 3 := ⟨⟨mw_905, mw_5, ⟨by decide, by decide, by decide +kernel⟩, by decide +kernel⟩, mw_903, mw_904⟩
theorem md_X7_isSet : xMv yX7_isSet cX7_isSet 2 (some .boolean) 1 := ⟨⟨mw_920, mw_5, ⟨by decide, by decide, by decide +kernel⟩, by decide +kernel⟩, mw_918, mw_919⟩
theorem md_X7_common : xMv yX7_common cX7_common 5 (some .int) 1 := ⟨⟨mw_916, mw_5, ⟨by decide, by decide, by decide +kernel⟩, by decide +kernel⟩, mw_914, mw_915⟩
theorem md_X7_alone : xMv yX7_alone cX7_alone 5 (some .int) 1 := ⟨⟨mw_928, mw_5, ⟨by decide, by decide, by decide +kernel⟩, by decide +kernel⟩, mw_926, mw_927⟩
theorem md_X7_busiest : xMv yX7_busiest cX7_busiest 3 (some .int) 0 := ⟨⟨mw_937, mw_5, ⟨by decide, by decide, by decide +kernel⟩, by decide +kernel⟩, mw_935, mw_936⟩
theorem md_X7_isPlan : xMs yX7_isPlan cX7_isPlan 2 (some .boolean) 2 := ⟨⟨mw_966, mw_5, ⟨by decide, by decide, by decide +kernel⟩, by decide +kernel⟩, mw_965⟩
theorem md_X7_planBy : xMv yX7_planBy cX7_planBy 6 (some .int) 3 := ⟨⟨mw_970, mw_5, ⟨by decide, by decide, by decide +kernel⟩, by decide +kernel⟩, mw_968, mw_969⟩
theorem md_X7_lawFor : xMv yX7_lawFor cX7_lawFor 7 (some .int) 2 := ⟨⟨mw_963, mw_5, ⟨by decide, by decide, by decide +kernel⟩, by decide +kernel⟩, mw_961, mw_962⟩
theorem md_X7_plan : xMv yX7_plan cX7_plan 3 (some .int) 2 := ⟨⟨mw_1082, mw_5, ⟨by decide, by decide, by decide +kernel⟩, by decide +kernel⟩, mw_1080, mw_1081⟩
theorem md_X7_fill : xMv yX7_fill cX7_fill 5 (some .int) 2 := ⟨⟨mw_1094, mw_5, ⟨by decide, by decide, by decide +kernel⟩, by decide +kernel⟩, mw_1092, mw_1093⟩
theorem md_X7_loudest : xMv yX7_loudest cX7_loudest 7 (some .int) 2 := ⟨⟨mw_1074, mw_5, ⟨by decide, by decide, by decide +kernel⟩, by decide +kernel⟩, mw_1072, mw_1073⟩
theorem md_X7_noHeard : xMv yX7_noHeard cX7_noHeard 2 (some .int) 1 := ⟨⟨mw_995, mw_5, ⟨by decide, by decide, by decide +kernel⟩, by decide +kernel⟩, mw_993, mw_994⟩
theorem md_X7_differsNow : xMv yX7_differsNow cX7_differsNow 4 (some .int) 1 := ⟨⟨mw_999, mw_5, ⟨by decide, by decide, by decide +kernel⟩, by decide +kernel⟩, mw_997, mw_998⟩
theorem md_X7_depths : xMv yX7_depths cX7_depths 5 (some .int) 1 := ⟨⟨mw_991, mw_5, ⟨by decide, by decide, by decide +kernel⟩, by decide +kernel⟩, mw_989, mw_990⟩
theorem md_X7_differs : xMv yX7_differs cX7_differs 3 (some .int) 1 := ⟨⟨mw_1007, mw_5, ⟨by decide, by decide, by decide +kernel⟩, by decide +kernel⟩, mw_1005, mw_1006⟩
theorem md_X7_fits : xMv yX7_fits cX7_fits 5 (some .int) 1 := ⟨⟨mw_1041, mw_5, ⟨by decide, by decide, by decide +kernel⟩, by decide +kernel⟩, mw_1039, mw_1040⟩
theorem md_X7_together : xMv yX7_together cX7_together 5 (some .int) 0 := ⟨⟨mw_1015, mw_5, ⟨by decide, by decide, by decide +kernel⟩, by decide +kernel⟩, mw_1013, mw_1014⟩
theorem md_X7_odds : xMv yX7_odds cX7_odds 3 (some .int) 0 := ⟨⟨mw_1024, mw_5, ⟨by decide, by decide, by decide +kernel⟩, by decide +kernel⟩, mw_1022, mw_1023⟩
theorem md_X7_expected : xMv yX7_expected cX7_expected 1 (some .int) 0 := ⟨⟨mw_1033, mw_5, ⟨by decide, by decide, by decide +kernel⟩, by decide +kernel⟩, mw_1031, mw_1032⟩
theorem md_X7_parted : xMv yX7_parted cX7_parted 8 (some .int) 2 := ⟨⟨mw_1059, mw_5, ⟨by decide, by decide, by decide +kernel⟩, by decide +kernel⟩, mw_1057, mw_1058⟩
theorem md_X7_next_ : xMv yX7_next_ cX7_next_ 5 (some .int) 2 := ⟨⟨mw_1055, mw_5, ⟨by decide, by decide, by decide +kernel⟩, by decide +kernel⟩, mw_1053, mw_1054⟩
theorem md_X7_day : xMv yX7_day cX7_day 6 (some .int) 4 := ⟨⟨mw_1123, mw_5, ⟨by decide, by decide, by decide +kernel⟩, by decide +kernel⟩, mw_1121, mw_1122⟩
theorem md_X7_ageOf : xMv yX7_ageOf cX7_ageOf 4 (some .int) 1 := ⟨⟨mw_1148, mw_5, ⟨by decide, by decide, by decide +kernel⟩, by decide +kernel⟩, mw_1146, mw_1147⟩
theorem md_X7_tolls : xMv yX7_tolls cX7_tolls 6 (some .int) 2 := ⟨⟨mw_1144, mw_5, ⟨by decide, by decide, by decide +kernel⟩, by decide +kernel⟩, mw_1142, mw_1143⟩
theorem md_X7_meet : xMv yX7_meet cX7_meet 4 (some .int) 2 := ⟨⟨mw_1156, mw_5, ⟨by decide, by decide, by decide +kernel⟩, by decide +kernel⟩, mw_1154, mw_1155⟩
theorem md_X7_sum : xMv yX7_sum cX7_sum 2 (some .int) 1 := ⟨⟨mw_1165, mw_5, ⟨by decide, by decide, by decide +kernel⟩, by decide +kernel⟩, mw_1163, mw_1164⟩
theorem md_X7_reached : xMv yX7_reached cX7_reached 4 (some .int) 1 := ⟨⟨mw_1182, mw_5, ⟨by decide, by decide, by decide +kernel⟩, by decide +kernel⟩, mw_1180, mw_1181⟩
theorem md_X7_halves : xMv yX7_halves cX7_halves 4 (some .int) 0 := ⟨⟨mw_1201, mw_5, ⟨by decide, by decide, by decide +kernel⟩, by decide +kernel⟩, mw_1199, mw_1200⟩
theorem md_X7_ranked : xMv yX7_ranked cX7_ranked 5 (some .int) 1 := ⟨⟨mw_1218, mw_5, ⟨by decide, by decide, by decide +kernel⟩, by decide +kernel⟩, mw_1216, mw_1217⟩
theorem md_X7_oldest : xMv yX7_oldest cX7_oldest 3 (some .int) 0 := ⟨⟨mw_1230, mw_5, ⟨by decide, by decide, by decide +kernel⟩, by decide +kernel⟩, mw_1228, mw_1229⟩
theorem md_X7_toldAt : xMv yX7_toldAt cX7_toldAt 3 (some .long) 2 := ⟨⟨mw_1258, mw_5, ⟨by decide, by decide, by decide +kernel⟩, by decide +kernel⟩, mw_1256, mw_1257⟩
theorem md_X7_noRing : xMv yX7_noRing cX7_noRing 3 (some .int) 2 := ⟨⟨mw_1250, mw_5, ⟨by decide, by decide, by decide +kernel⟩, by decide +kernel⟩, mw_1248, mw_1249⟩
theorem md_X7_wrong : xMv yX7_wrong cX7_wrong 4 (some .int) 2 := ⟨⟨mw_1254, mw_5, ⟨by decide, by decide, by decide +kernel⟩, by decide +kernel⟩, mw_1252, mw_1253⟩
theorem md_X7_told : xMv yX7_told cX7_told 6 (some .long) 2 := ⟨⟨mw_1275, mw_5, ⟨by decide, by decide, by decide +kernel⟩, by decide +kernel⟩, mw_1273, mw_1274⟩
theorem md_X7_judge : xMv yX7_judge cX7_judge 4 (some .int) 2 := ⟨⟨mw_1246, mw_5, ⟨by decide, by decide, by decide +kernel⟩, by decide +kernel⟩, mw_1244, mw_1245⟩
theorem md_X7_answers : xMv yX7_answers cX7_answers 7 (some .int) 3 := ⟨⟨mw_1271, mw_5, ⟨by decide, by decide, by decide +kernel⟩, by decide +kernel⟩, mw_1269, mw_1270⟩
theorem md_X7_rings : xMv yX7_rings cX7_rings 4 (some .int) 2 := ⟨⟨mw_1283, mw_5, ⟨by decide, by decide, by decide +kernel⟩, by decide +kernel⟩, mw_1281, mw_1282⟩
theorem md_X7_draw : xMv yX7_draw cX7_draw 2 (some .int) 1 := ⟨⟨mw_1310, mw_5, ⟨by decide, by decide, by decide +kernel⟩, by decide +kernel⟩, mw_1308, mw_1309⟩
theorem md_X7_rung : xMv yX7_rung cX7_rung 2 (some .int) 1 := ⟨⟨mw_1306, mw_5, ⟨by decide, by decide, by decide +kernel⟩, by decide +kernel⟩, mw_1304, mw_1305⟩
theorem md_X7_ring : xMv yX7_ring cX7_ring 2 (some .int) 1 := ⟨⟨mw_1302, mw_5, ⟨by decide, by decide, by decide +kernel⟩, by decide +kernel⟩, mw_1300, mw_1301⟩
theorem md_X7_days : xMv yX7_days cX7_days 4 (some .int) 1 := ⟨⟨mw_1320, mw_5, ⟨by decide, by decide, by decide +kernel⟩, by decide +kernel⟩, mw_1318, mw_1319⟩
theorem md_X7_turn : xMv yX7_turn cX7_turn 1 (some .int) 0 := ⟨⟨mw_1328, mw_5, ⟨by decide, by decide, by decide +kernel⟩, by decide +kernel⟩, mw_1326, mw_1327⟩
theorem md_X7_change : xMv yX7_change cX7_change 2 (some .int) 1 := ⟨⟨mw_1336, mw_5, ⟨by decide, by decide, by decide +kernel⟩, by decide +kernel⟩, mw_1334, mw_1335⟩
theorem md_X7_cut : xMv yX7_cut cX7_cut 2 (some .int) 1 := ⟨⟨mw_1344, mw_5, ⟨by decide, by decide, by decide +kernel⟩, by decide +kernel⟩, mw_1342, mw_1343⟩
theorem md_X7_still : xMv yX7_still cX7_still 2 (some .int) 0 := ⟨⟨mw_1353, mw_5, ⟨by decide, by decide, by decide +kernel⟩, by decide +kernel⟩, mw_1351, mw_1352⟩
theorem md_X7_seed : xMv yX7_seed cX7_seed 3 (some .int) 1 := ⟨⟨mw_1361, mw_5, ⟨by decide, by decide, by decide +kernel⟩, by decide +kernel⟩, mw_1359, mw_1360⟩
theorem md_X7_image : xMv yX7_image cX7_image 1 (some .int) 0 := ⟨⟨mw_1370, mw_5, ⟨by decide, by decide, by decide +kernel⟩, by decide +kernel⟩, mw_1368, mw_1369⟩
theorem md_X7_back : xMv yX7_back cX7_back 2 (some .int) 0 := ⟨⟨mw_1386, mw_5, ⟨by decide, by decide, by decide +kernel⟩, by decide +kernel⟩, mw_1384, mw_1385⟩
theorem md_X7_status : xMv yX7_status cX7_status 4 (some .int) 1 := ⟨⟨mw_1400, mw_5, ⟨by decide, by decide, by decide +kernel⟩, by decide +kernel⟩, mw_1398, mw_1399⟩
theorem mn_RX6_9 : (RX6, 9, yX0_init) ∈ xNestM := List.mem_of_getElem? (i := 0) rfl
theorem mn_RX0_11 : (RX0, 11, yX2_init) ∈ xNestM := List.mem_of_getElem? (i := 1) rfl
theorem mn_RX0_20 : (RX0, 20, yX3_init) ∈ xNestM := List.mem_of_getElem? (i := 2) rfl
theorem mn_RX6_21 : (RX6, 21, yX1_init) ∈ xNestM := List.mem_of_getElem? (i := 3) rfl
theorem mn_RX1_11 : (RX1, 11, yX5_init) ∈ xNestM := List.mem_of_getElem? (i := 4) rfl
theorem mn_RX1_20 : (RX1, 20, yX0_init) ∈ xNestM := List.mem_of_getElem? (i := 5) rfl
theorem mn_RX4_22 : (RX4, 22, yX6_isWithin) ∈ xNestM := List.mem_of_getElem? (i := 6) rfl
theorem mn_RX4_26 : (RX4, 26, yX6_elementOf) ∈ xNestM := List.mem_of_getElem? (i := 7) rfl
theorem mn_RX2_18 : (RX2, 18, yX6_isWithin) ∈ xNestM := List.mem_of_getElem? (i := 8) rfl
theorem mn_RX2_37 : (RX2, 37, yX6_elementOf) ∈ xNestM := List.mem_of_getElem? (i := 9) rfl
theorem mn_RX2_68 : (RX2, 68, yX6_isIn) ∈ xNestM := List.mem_of_getElem? (i := 10) rfl
theorem mn_RX2_78 : (RX2, 78, yX6_firstBits) ∈ xNestM := List.mem_of_getElem? (i := 11) rfl
theorem mn_RX2_64 : (RX2, 64, yX6_isMultiple) ∈ xNestM := List.mem_of_getElem? (i := 12) rfl
theorem mn_RX3_35 : (RX3, 35, yX6_elementOf) ∈ xNestM := List.mem_of_getElem? (i := 13) rfl
theorem mn_RX1_139 : (RX1, 139, yX6_isWithin) ∈ xNestM := List.mem_of_getElem? (i := 14) rfl
theorem mn_RX3_31 : (RX3, 31, yX6_isWithin) ∈ xNestM := List.mem_of_getElem? (i := 15) rfl
theorem mn_RX0_73 : (RX0, 73, yX6_firstBits) ∈ xNestM := List.mem_of_getElem? (i := 16) rfl
theorem mn_RX0_82 : (RX0, 82, yX6_isIn) ∈ xNestM := List.mem_of_getElem? (i := 17) rfl
theorem mn_RX3_39 : (RX3, 39, yX6_isIn) ∈ xNestM := List.mem_of_getElem? (i := 18) rfl
theorem fd_RX6_10 : xFd RX6 10 6 0 true (.object "AnsweredByTheDrowned$Lake") := ⟨RX6, TX6, 6, tyX6, rfl, by decide, inb_X6, mw_16, rfl, by decide +kernel, tyX6_ok, nmX6⟩
theorem fd_RX6_16 : xFd RX6 16 6 1 true (.object "AnsweredByTheDrowned$Lake") := ⟨RX6, TX6, 6, tyX6, rfl, by decide, inb_X6, mw_17, rfl, by decide +kernel, tyX6_ok, nmX6⟩
theorem fd_RX6_22 : xFd RX6 22 6 2 true (.object "AnsweredByTheDrowned$LakeReader") := ⟨RX6, TX6, 6, tyX6, rfl, by decide, inb_X6, mw_21, rfl, by decide +kernel, tyX6_ok, nmX6⟩
theorem fd_RX6_29 : xFd RX6 29 6 3 true (.object "AnsweredByTheDrowned$Shelves") := ⟨RX6, TX6, 6, tyX6, rfl, by decide, inb_X6, mw_25, rfl, by decide +kernel, tyX6_ok, nmX6⟩
theorem fd_RX6_33 : xFd RX6 33 6 4 true (.array .int) := ⟨RX6, TX6, 6, tyX6, rfl, by decide, inb_X6, mw_27, rfl, by decide +kernel, tyX6_ok, nmX6⟩
theorem fd_RX0_12 : xFd RX0 12 0 0 true (.object "AnsweredByTheDrowned$Laws") := ⟨RX0, TX0, 8, tyX0, rfl, by decide, inb_X0, mw_34, rfl, by decide +kernel, tyX0_ok, nmX0⟩
theorem fd_RX0_21 : xFd RX0 21 0 1 true (.object "AnsweredByTheDrowned$People") := ⟨RX0, TX0, 8, tyX0, rfl, by decide, inb_X0, mw_38, rfl, by decide +kernel, tyX0_ok, nmX0⟩
theorem fd_RX0_25 : xFd RX0 25 0 3 false .int := ⟨RX0, TX0, 8, tyX0, rfl, by decide, inb_X0, mw_39, rfl, by decide +kernel, tyX0_ok, nmX0⟩
theorem fd_RX0_29 : xFd RX0 29 0 7 false .int := ⟨RX0, TX0, 8, tyX0, rfl, by decide, inb_X0, mw_40, rfl, by decide +kernel, tyX0_ok, nmX0⟩
theorem fd_RX2_11 : xFd RX2 11 2 0 true (.array .int) := ⟨RX2, TX2, 3, tyX2, rfl, by decide, inb_X2, mw_44, rfl, by decide +kernel, tyX2_ok, nmX2⟩
theorem fd_RX2_15 : xFd RX2 15 2 1 true (.array .int) := ⟨RX2, TX2, 3, tyX2, rfl, by decide, inb_X2, mw_45, rfl, by decide +kernel, tyX2_ok, nmX2⟩
theorem fd_RX3_11 : xFd RX3 11 3 0 true (.array .int) := ⟨RX3, TX3, 3, tyX3, rfl, by decide, inb_X3, mw_49, rfl, by decide +kernel, tyX3_ok, nmX3⟩
theorem fd_RX3_15 : xFd RX3 15 3 1 true (.array .long) := ⟨RX3, TX3, 3, tyX3, rfl, by decide, inb_X3, mw_51, rfl, by decide +kernel, tyX3_ok, nmX3⟩
theorem fd_RX1_12 : xFd RX1 12 1 0 true (.object "AnsweredByTheDrowned$Tape") := ⟨RX1, TX1, 3, tyX1, rfl, by decide, inb_X1, mw_58, rfl, by decide +kernel, tyX1_ok, nmX1⟩
theorem fd_RX1_21 : xFd RX1 21 1 1 true (.object "AnsweredByTheDrowned$Lake") := ⟨RX1, TX1, 3, tyX1, rfl, by decide, inb_X1, mw_60, rfl, by decide +kernel, tyX1_ok, nmX1⟩
theorem fd_RX5_11 : xFd RX5 11 5 0 true (.array .int) := ⟨RX5, TX5, 5, tyX5, rfl, by decide, inb_X5, mw_64, rfl, by decide +kernel, tyX5_ok, nmX5⟩
theorem fd_RX4_11 : xFd RX4 11 4 0 true (.array .int) := ⟨RX4, TX4, 3, tyX4, rfl, by decide, inb_X4, mw_69, rfl, by decide +kernel, tyX4_ok, nmX4⟩
theorem fd_RX4_15 : xFd RX4 15 4 1 true (.array .int) := ⟨RX4, TX4, 3, tyX4, rfl, by decide, inb_X4, mw_70, rfl, by decide +kernel, tyX4_ok, nmX4⟩
theorem fd_RX4_18 : xFd RX4 18 4 2 true (.array .long) := ⟨RX4, TX4, 3, tyX4, rfl, by decide, inb_X4, mw_71, rfl, by decide +kernel, tyX4_ok, nmX4⟩
theorem fd_RX7_7 : xFd RX7 7 7 1 true (.array .int) := ⟨RX7, TX7, 27, tyX7, rfl, by decide, inb_X7, mw_76, rfl, by decide +kernel, tyX7_ok, nmX7⟩
theorem fd_RX7_13 : xFd RX7 13 7 2 true (.array .int) := ⟨RX7, TX7, 27, tyX7, rfl, by decide, inb_X7, mw_77, rfl, by decide +kernel, tyX7_ok, nmX7⟩
theorem fd_RX7_16 : xFd RX7 16 7 9 true (.array .int) := ⟨RX7, TX7, 27, tyX7, rfl, by decide, inb_X7, mw_78, rfl, by decide +kernel, tyX7_ok, nmX7⟩
theorem fd_RX7_19 : xFd RX7 19 7 12 true (.array .int) := ⟨RX7, TX7, 27, tyX7, rfl, by decide, inb_X7, mw_79, rfl, by decide +kernel, tyX7_ok, nmX7⟩
theorem fd_RX7_22 : xFd RX7 22 7 17 true (.array .int) := ⟨RX7, TX7, 27, tyX7, rfl, by decide, inb_X7, mw_80, rfl, by decide +kernel, tyX7_ok, nmX7⟩
theorem fd_RX7_25 : xFd RX7 25 7 18 true (.array .int) := ⟨RX7, TX7, 27, tyX7, rfl, by decide, inb_X7, mw_81, rfl, by decide +kernel, tyX7_ok, nmX7⟩
theorem fd_RX7_28 : xFd RX7 28 7 19 true (.array .long) := ⟨RX7, TX7, 27, tyX7, rfl, by decide, inb_X7, mw_82, rfl, by decide +kernel, tyX7_ok, nmX7⟩
theorem fd_RX7_32 : xFd RX7 32 7 20 true (.array .int) := ⟨RX7, TX7, 27, tyX7, rfl, by decide, inb_X7, mw_83, rfl, by decide +kernel, tyX7_ok, nmX7⟩
theorem fd_RX7_35 : xFd RX7 35 7 22 true (.array .int) := ⟨RX7, TX7, 27, tyX7, rfl, by decide, inb_X7, mw_84, rfl, by decide +kernel, tyX7_ok, nmX7⟩
theorem fd_RX7_38 : xFd RX7 38 7 24 true (.array .int) := ⟨RX7, TX7, 27, tyX7, rfl, by decide, inb_X7, mw_85, rfl, by decide +kernel, tyX7_ok, nmX7⟩
theorem fd_RX7_41 : xFd RX7 41 7 26 true (.array .boolean) := ⟨RX7, TX7, 27, tyX7, rfl, by decide, inb_X7, mw_87, rfl, by decide +kernel, tyX7_ok, nmX7⟩
theorem fd_RX7_45 : xFd RX7 45 7 4 false .int := ⟨RX7, TX7, 27, tyX7, rfl, by decide, inb_X7, mw_88, rfl, by decide +kernel, tyX7_ok, nmX7⟩
theorem fd_RX7_49 : xFd RX7 49 7 10 false .int := ⟨RX7, TX7, 27, tyX7, rfl, by decide, inb_X7, mw_89, rfl, by decide +kernel, tyX7_ok, nmX7⟩
theorem fd_RX2_22 : xFd RX2 22 2 2 false .int := ⟨RX2, TX2, 3, tyX2, rfl, by decide, inb_X2, mw_230, rfl, by decide +kernel, tyX2_ok, nmX2⟩
theorem fd_RX7_52 : xFd RX7 52 7 0 false .int := ⟨RX7, TX7, 27, tyX7, rfl, by decide, inb_X7, mw_247, rfl, by decide +kernel, tyX7_ok, nmX7⟩
theorem fd_RX0_49 : xFd RX0 49 0 6 false .int := ⟨RX0, TX0, 8, tyX0, rfl, by decide, inb_X0, mw_277, rfl, by decide +kernel, tyX0_ok, nmX0⟩
theorem fd_RX7_90 : xFd RX7 90 7 6 false .long := ⟨RX7, TX7, 27, tyX7, rfl, by decide, inb_X7, mw_320, rfl, by decide +kernel, tyX7_ok, nmX7⟩
theorem fd_RX7_62 : xFd RX7 62 7 7 false .int := ⟨RX7, TX7, 27, tyX7, rfl, by decide, inb_X7, mw_321, rfl, by decide +kernel, tyX7_ok, nmX7⟩
theorem fd_RX7_102 : xFd RX7 102 7 3 false .int := ⟨RX7, TX7, 27, tyX7, rfl, by decide, inb_X7, mw_375, rfl, by decide +kernel, tyX7_ok, nmX7⟩
theorem fd_RX7_105 : xFd RX7 105 7 5 false .int := ⟨RX7, TX7, 27, tyX7, rfl, by decide, inb_X7, mw_384, rfl, by decide +kernel, tyX7_ok, nmX7⟩
theorem fd_RX3_19 : xFd RX3 19 3 2 false .int := ⟨RX3, TX3, 3, tyX3, rfl, by decide, inb_X3, mw_393, rfl, by decide +kernel, tyX3_ok, nmX3⟩
theorem fd_RX7_59 : xFd RX7 59 7 8 false .int := ⟨RX7, TX7, 27, tyX7, rfl, by decide, inb_X7, mw_406, rfl, by decide +kernel, tyX7_ok, nmX7⟩
theorem fd_RX5_15 : xFd RX5 15 5 1 false .int := ⟨RX5, TX5, 5, tyX5, rfl, by decide, inb_X5, mw_419, rfl, by decide +kernel, tyX5_ok, nmX5⟩
theorem fd_RX7_111 : xFd RX7 111 7 11 false .int := ⟨RX7, TX7, 27, tyX7, rfl, by decide, inb_X7, mw_428, rfl, by decide +kernel, tyX7_ok, nmX7⟩
theorem fd_RX0_39 : xFd RX0 39 0 2 false .int := ⟨RX0, TX0, 8, tyX0, rfl, by decide, inb_X0, mw_445, rfl, by decide +kernel, tyX0_ok, nmX0⟩
theorem fd_RX0_42 : xFd RX0 42 0 4 false .int := ⟨RX0, TX0, 8, tyX0, rfl, by decide, inb_X0, mw_446, rfl, by decide +kernel, tyX0_ok, nmX0⟩
theorem fd_RX0_45 : xFd RX0 45 0 5 false .long := ⟨RX0, TX0, 8, tyX0, rfl, by decide, inb_X0, mw_447, rfl, by decide +kernel, tyX0_ok, nmX0⟩
theorem fd_RX5_19 : xFd RX5 19 5 4 false .int := ⟨RX5, TX5, 5, tyX5, rfl, by decide, inb_X5, mw_468, rfl, by decide +kernel, tyX5_ok, nmX5⟩
theorem fd_RX5_22 : xFd RX5 22 5 3 false .int := ⟨RX5, TX5, 5, tyX5, rfl, by decide, inb_X5, mw_473, rfl, by decide +kernel, tyX5_ok, nmX5⟩
theorem fd_RX5_32 : xFd RX5 32 5 2 false .int := ⟨RX5, TX5, 5, tyX5, rfl, by decide, inb_X5, mw_474, rfl, by decide +kernel, tyX5_ok, nmX5⟩
theorem fd_RX1_91 : xFd RX1 91 1 2 false .int := ⟨RX1, TX1, 3, tyX1, rfl, by decide, inb_X1, mw_551, rfl, by decide +kernel, tyX1_ok, nmX1⟩
theorem fd_RX7_175 : xFd RX7 175 7 25 false .long := ⟨RX7, TX7, 27, tyX7, rfl, by decide, inb_X7, mw_599, rfl, by decide +kernel, tyX7_ok, nmX7⟩
theorem fd_RX7_114 : xFd RX7 114 7 14 false .int := ⟨RX7, TX7, 27, tyX7, rfl, by decide, inb_X7, mw_600, rfl, by decide +kernel, tyX7_ok, nmX7⟩
theorem fd_RX7_120 : xFd RX7 120 7 15 false .int := ⟨RX7, TX7, 27, tyX7, rfl, by decide, inb_X7, mw_601, rfl, by decide +kernel, tyX7_ok, nmX7⟩
theorem fd_RX7_117 : xFd RX7 117 7 13 false .int := ⟨RX7, TX7, 27, tyX7, rfl, by decide, inb_X7, mw_602, rfl, by decide +kernel, tyX7_ok, nmX7⟩
theorem fd_RX7_129 : xFd RX7 129 7 16 false .int := ⟨RX7, TX7, 27, tyX7, rfl, by decide, inb_X7, mw_611, rfl, by decide +kernel, tyX7_ok, nmX7⟩
theorem fd_RX6_342 : xFd RX6 342 6 5 false .boolean := ⟨RX6, TX6, 6, tyX6, rfl, by decide, inb_X6, mw_1366, rfl, by decide +kernel, tyX6_ok, nmX6⟩
theorem fd_RX7_315 : xFd RX7 315 7 21 false .boolean := ⟨RX7, TX7, 27, tyX7, rfl, by decide, inb_X7, mw_1371, rfl, by decide +kernel, tyX7_ok, nmX7⟩
theorem fd_RX7_319 : xFd RX7 319 7 23 false .long := ⟨RX7, TX7, 27, tyX7, rfl, by decide, inb_X7, mw_1372, rfl, by decide +kernel, tyX7_ok, nmX7⟩
theorem fd_RX1_98 : xFdN RX1 98 2 2 false .int := ⟨RX2, TX2, 3, tyX2, rfl, by decide, inb_X2, (List.mem_of_getElem? (i := 0) rfl), rfl, by decide +kernel, tyX2_ok, nmX2⟩
theorem fd_RX0_79 : xFdN RX0 79 2 2 false .int := ⟨RX2, TX2, 3, tyX2, rfl, by decide, inb_X2, (List.mem_of_getElem? (i := 1) rfl), rfl, by decide +kernel, tyX2_ok, nmX2⟩
theorem fd_RX6_194 : xFdN RX6 194 2 2 false .int := ⟨RX2, TX2, 3, tyX2, rfl, by decide, inb_X2, (List.mem_of_getElem? (i := 2) rfl), rfl, by decide +kernel, tyX2_ok, nmX2⟩
theorem fd_RX6_301 : xFdN RX6 301 3 2 false .int := ⟨RX3, TX3, 3, tyX3, rfl, by decide, inb_X3, (List.mem_of_getElem? (i := 3) rfl), rfl, by decide +kernel, tyX3_ok, nmX3⟩
theorem fd_RX1_78 : xFdN RX1 78 0 0 true (.object "AnsweredByTheDrowned$Laws") := ⟨RX0, TX0, 8, tyX0, rfl, by decide, inb_X0, (List.mem_of_getElem? (i := 4) rfl), rfl, by decide +kernel, tyX0_ok, nmX0⟩
theorem fd_RX6_81 : xFdN RX6 81 0 0 true (.object "AnsweredByTheDrowned$Laws") := ⟨RX0, TX0, 8, tyX0, rfl, by decide, inb_X0, (List.mem_of_getElem? (i := 5) rfl), rfl, by decide +kernel, tyX0_ok, nmX0⟩
theorem fd_RX1_108 : xFdN RX1 108 0 1 true (.object "AnsweredByTheDrowned$People") := ⟨RX0, TX0, 8, tyX0, rfl, by decide, inb_X0, (List.mem_of_getElem? (i := 6) rfl), rfl, by decide +kernel, tyX0_ok, nmX0⟩
theorem fd_RX6_145 : xFdN RX6 145 0 1 true (.object "AnsweredByTheDrowned$People") := ⟨RX0, TX0, 8, tyX0, rfl, by decide, inb_X0, (List.mem_of_getElem? (i := 7) rfl), rfl, by decide +kernel, tyX0_ok, nmX0⟩
theorem fd_RX1_101 : xFdN RX1 101 0 2 false .int := ⟨RX0, TX0, 8, tyX0, rfl, by decide, inb_X0, (List.mem_of_getElem? (i := 8) rfl), rfl, by decide +kernel, tyX0_ok, nmX0⟩
theorem fd_RX6_135 : xFdN RX6 135 0 2 false .int := ⟨RX0, TX0, 8, tyX0, rfl, by decide, inb_X0, (List.mem_of_getElem? (i := 9) rfl), rfl, by decide +kernel, tyX0_ok, nmX0⟩
theorem fd_RX1_104 : xFdN RX1 104 0 3 false .int := ⟨RX0, TX0, 8, tyX0, rfl, by decide, inb_X0, (List.mem_of_getElem? (i := 10) rfl), rfl, by decide +kernel, tyX0_ok, nmX0⟩
theorem fd_RX6_139 : xFdN RX6 139 0 3 false .int := ⟨RX0, TX0, 8, tyX0, rfl, by decide, inb_X0, (List.mem_of_getElem? (i := 11) rfl), rfl, by decide +kernel, tyX0_ok, nmX0⟩
theorem fd_RX1_106 : xFdN RX1 106 0 4 false .int := ⟨RX0, TX0, 8, tyX0, rfl, by decide, inb_X0, (List.mem_of_getElem? (i := 12) rfl), rfl, by decide +kernel, tyX0_ok, nmX0⟩
theorem fd_RX6_142 : xFdN RX6 142 0 4 false .int := ⟨RX0, TX0, 8, tyX0, rfl, by decide, inb_X0, (List.mem_of_getElem? (i := 13) rfl), rfl, by decide +kernel, tyX0_ok, nmX0⟩
theorem fd_RX6_120 : xFdN RX6 120 0 5 false .long := ⟨RX0, TX0, 8, tyX0, rfl, by decide, inb_X0, (List.mem_of_getElem? (i := 14) rfl), rfl, by decide +kernel, tyX0_ok, nmX0⟩
theorem fd_RX1_123 : xFdN RX1 123 0 6 false .int := ⟨RX0, TX0, 8, tyX0, rfl, by decide, inb_X0, (List.mem_of_getElem? (i := 15) rfl), rfl, by decide +kernel, tyX0_ok, nmX0⟩
theorem fd_RX6_200 : xFdN RX6 200 0 6 false .int := ⟨RX0, TX0, 8, tyX0, rfl, by decide, inb_X0, (List.mem_of_getElem? (i := 16) rfl), rfl, by decide +kernel, tyX0_ok, nmX0⟩
theorem fd_RX6_339 : xFdN RX6 339 0 7 false .int := ⟨RX0, TX0, 8, tyX0, rfl, by decide, inb_X0, (List.mem_of_getElem? (i := 17) rfl), rfl, by decide +kernel, tyX0_ok, nmX0⟩
theorem fd_RX6_162 : xFdN RX6 162 5 1 false .int := ⟨RX5, TX5, 5, tyX5, rfl, by decide, inb_X5, (List.mem_of_getElem? (i := 18) rfl), rfl, by decide +kernel, tyX5_ok, nmX5⟩
theorem fd_RX1_35 : xFdN RX1 35 5 2 false .int := ⟨RX5, TX5, 5, tyX5, rfl, by decide, inb_X5, (List.mem_of_getElem? (i := 19) rfl), rfl, by decide +kernel, tyX5_ok, nmX5⟩
theorem fd_RX1_126 : xFdN RX1 126 5 3 false .int := ⟨RX5, TX5, 5, tyX5, rfl, by decide, inb_X5, (List.mem_of_getElem? (i := 20) rfl), rfl, by decide +kernel, tyX5_ok, nmX5⟩
theorem fd_RX6_176 : xFdN RX6 176 5 3 false .int := ⟨RX5, TX5, 5, tyX5, rfl, by decide, inb_X5, (List.mem_of_getElem? (i := 21) rfl), rfl, by decide +kernel, tyX5_ok, nmX5⟩
theorem fd_RX1_129 : xFdN RX1 129 5 4 false .int := ⟨RX5, TX5, 5, tyX5, rfl, by decide, inb_X5, (List.mem_of_getElem? (i := 22) rfl), rfl, by decide +kernel, tyX5_ok, nmX5⟩
theorem fd_RX6_154 : xFdN RX6 154 1 0 true (.object "AnsweredByTheDrowned$Tape") := ⟨RX1, TX1, 3, tyX1, rfl, by decide, inb_X1, (List.mem_of_getElem? (i := 23) rfl), rfl, by decide +kernel, tyX1_ok, nmX1⟩
theorem fd_RX6_165 : xFdN RX6 165 1 1 true (.object "AnsweredByTheDrowned$Lake") := ⟨RX1, TX1, 3, tyX1, rfl, by decide, inb_X1, (List.mem_of_getElem? (i := 24) rfl), rfl, by decide +kernel, tyX1_ok, nmX1⟩
theorem x_lout2 {x : Int32} (h0 : ¬ x = 0) (h2 : ¬ x = 2) : Op.lookupswitch.offset #[((0 : Int), (28 : Int)), (2, 33)].toList 47 x.toInt = 47 := by
  have e0 : ¬ x.toInt = 0 := fun h => h0 (by rw [← Int32.ofInt_toInt (x := x), h]; rfl)
  have e2 : ¬ x.toInt = 2 := fun h => h2 (by rw [← Int32.ofInt_toInt (x := x), h]; rfl)
  simp [Op.lookupswitch.offset, List.find?, e0, e2]
  try (simp [Ne.symm e0, Ne.symm e2])
  try (split <;> simp_all)
