set_option maxRecDepth 100000 in
theorem wd_0 : (.selects RX4 yX4_skipBlanks yX4_skipBlanks : Cond) ∈ lw_g := mg (List.mem_of_getElem? (i := 0) rfl) rfl
set_option maxRecDepth 100000 in
theorem wd_1 : (.selects RX4 yX4_letterHere yX4_letterHere : Cond) ∈ lw_g := mg (List.mem_of_getElem? (i := 1) rfl) rfl
set_option maxRecDepth 100000 in
theorem wd_2 : (.selects RX4 yX4_readClause yX4_readClause : Cond) ∈ lw_g := mg (List.mem_of_getElem? (i := 2) rfl) rfl
set_option maxRecDepth 100000 in
theorem wd_3 : (.selects RX4 yX4_faultOfWord yX4_faultOfWord : Cond) ∈ lw_g := mg (List.mem_of_getElem? (i := 3) rfl) rfl
set_option maxRecDepth 100000 in
theorem wd_4 : (.selects RX4 yX4_blame yX4_blame : Cond) ∈ lw_g := mg (List.mem_of_getElem? (i := 4) rfl) rfl
set_option maxRecDepth 100000 in
theorem wd_5 : (.selects RX4 yX4_readPeople yX4_readPeople : Cond) ∈ lw_g := mg (List.mem_of_getElem? (i := 5) rfl) rfl
set_option maxRecDepth 100000 in
theorem wd_6 : (.selects RX4 yX4_readNumber yX4_readNumber : Cond) ∈ lw_g := mg (List.mem_of_getElem? (i := 6) rfl) rfl
set_option maxRecDepth 100000 in
theorem wd_7 : (.selects RX4 yX4_readFact yX4_readFact : Cond) ∈ lw_g := mg (List.mem_of_getElem? (i := 7) rfl) rfl
set_option maxRecDepth 100000 in
theorem wd_8 : (.selects RX4 yX4_readPerson yX4_readPerson : Cond) ∈ lw_g := mg (List.mem_of_getElem? (i := 8) rfl) rfl
set_option maxRecDepth 100000 in
theorem wd_9 : (.selects RX4 yX4_readKnowers yX4_readKnowers : Cond) ∈ lw_g := mg (List.mem_of_getElem? (i := 9) rfl) rfl
set_option maxRecDepth 100000 in
theorem wd_10 : (.selects RX4 yX4_readFriendship yX4_readFriendship : Cond) ∈ lw_g := mg (List.mem_of_getElem? (i := 10) rfl) rfl
set_option maxRecDepth 100000 in
theorem wd_11 : (.selects RX4 yX4_readQuiet yX4_readQuiet : Cond) ∈ lw_g := mg (List.mem_of_getElem? (i := 11) rfl) rfl
set_option maxRecDepth 100000 in
theorem wd_12 : (.selects RX4 yX4_readBridge yX4_readBridge : Cond) ∈ lw_g := mg (List.mem_of_getElem? (i := 12) rfl) rfl
set_option maxRecDepth 100000 in
theorem wd_13 : (.selects RX4 yX4_readMemory yX4_readMemory : Cond) ∈ lw_g := mg (List.mem_of_getElem? (i := 13) rfl) rfl
set_option maxRecDepth 100000 in
theorem wd_14 : (.selects RX4 yX4_readEnd yX4_readEnd : Cond) ∈ lw_g := mg (List.mem_of_getElem? (i := 14) rfl) rfl
set_option maxRecDepth 100000 in
theorem wd_15 : (.selects RX8 yX8_refusalOfHours yX8_refusalOfHours : Cond) ∈ lw_g := mg (List.mem_of_getElem? (i := 15) rfl) rfl
set_option maxRecDepth 100000 in
theorem wd_16 : (.selects RX2 yX2_forgetOld yX2_forgetOld : Cond) ∈ lw_g := mg (List.mem_of_getElem? (i := 16) rfl) rfl
set_option maxRecDepth 100000 in
theorem wd_17 : (.selects RX2 yX2_tellOn yX2_tellOn : Cond) ∈ lw_g := mg (List.mem_of_getElem? (i := 17) rfl) rfl
set_option maxRecDepth 100000 in
theorem wd_18 : (.selects RX2 yX2_chat yX2_chat : Cond) ∈ lw_g := mg (List.mem_of_getElem? (i := 18) rfl) rfl
set_option maxRecDepth 100000 in
theorem wd_19 : (.selects RX2 yX2_drawOf yX2_drawOf : Cond) ∈ lw_g := mg (List.mem_of_getElem? (i := 19) rfl) rfl
set_option maxRecDepth 100000 in
theorem wd_20 : (.selects RX1 yX1_fewestOf yX1_fewestOf : Cond) ∈ lw_g := mg (List.mem_of_getElem? (i := 20) rfl) rfl
set_option maxRecDepth 100000 in
theorem wd_21 : (.selects RX1 yX1_firstGroup yX1_firstGroup : Cond) ∈ lw_g := mg (List.mem_of_getElem? (i := 21) rfl) rfl
set_option maxRecDepth 100000 in
theorem wd_22 : (.selects RX7 yX7_addFact yX7_addFact : Cond) ∈ lw_g := mg (List.mem_of_getElem? (i := 22) rfl) rfl
set_option maxRecDepth 100000 in
theorem wd_23 : (.selects RX8 yX8_fewestToBreak yX8_fewestToBreak : Cond) ∈ lw_g := mg (List.mem_of_getElem? (i := 23) rfl) rfl
set_option maxRecDepth 100000 in
theorem wd_24 : (.selects RX8 yX8_factsToForget yX8_factsToForget : Cond) ∈ lw_g := mg (List.mem_of_getElem? (i := 24) rfl) rfl
set_option maxRecDepth 100000 in
theorem wd_25 : (.selects RX0 yX0_headForgets yX0_headForgets : Cond) ∈ lw_g := mg (List.mem_of_getElem? (i := 25) rfl) rfl
set_option maxRecDepth 100000 in
theorem wd_26 : (.selects RX0 yX0_move yX0_move : Cond) ∈ lw_g := mg (List.mem_of_getElem? (i := 26) rfl) rfl
set_option maxRecDepth 100000 in
theorem wd_27 : (.selects RX9 yX9_begin yX9_begin : Cond) ∈ lw_g := mg (List.mem_of_getElem? (i := 27) rfl) rfl
set_option maxRecDepth 100000 in
theorem wd_28 : (.selects RX9 yX9_isRead yX9_isRead : Cond) ∈ lw_g := mg (List.mem_of_getElem? (i := 28) rfl) rfl
set_option maxRecDepth 100000 in
theorem wd_29 : (.selects RX9 yX9_nextToken yX9_nextToken : Cond) ∈ lw_g := mg (List.mem_of_getElem? (i := 29) rfl) rfl
set_option maxRecDepth 100000 in
theorem wd_30 : (.selects RX9 yX9_isPeopleLine yX9_isPeopleLine : Cond) ∈ lw_g := mg (List.mem_of_getElem? (i := 30) rfl) rfl
set_option maxRecDepth 100000 in
theorem wd_31 : (.selects RX9 yX9_fails yX9_fails : Cond) ∈ lw_g := mg (List.mem_of_getElem? (i := 31) rfl) rfl
set_option maxRecDepth 100000 in
theorem wd_32 : (.selects RX9 yX9_isNumber yX9_isNumber : Cond) ∈ lw_g := mg (List.mem_of_getElem? (i := 32) rfl) rfl
set_option maxRecDepth 100000 in
theorem wd_33 : (.selects RX9 yX9_isEnd yX9_isEnd : Cond) ∈ lw_g := mg (List.mem_of_getElem? (i := 33) rfl) rfl
set_option maxRecDepth 100000 in
theorem wd_34 : (.selects RX9 yX9_isFactLine yX9_isFactLine : Cond) ∈ lw_g := mg (List.mem_of_getElem? (i := 34) rfl) rfl
set_option maxRecDepth 100000 in
theorem wd_35 : (.selects RX9 yX9_isKnownLine yX9_isKnownLine : Cond) ∈ lw_g := mg (List.mem_of_getElem? (i := 35) rfl) rfl
set_option maxRecDepth 100000 in
theorem wd_36 : (.selects RX9 yX9_isPairLine yX9_isPairLine : Cond) ∈ lw_g := mg (List.mem_of_getElem? (i := 36) rfl) rfl
set_option maxRecDepth 100000 in
theorem wd_37 : (.selects RX9 yX9_isQuietLine yX9_isQuietLine : Cond) ∈ lw_g := mg (List.mem_of_getElem? (i := 37) rfl) rfl
set_option maxRecDepth 100000 in
theorem wd_38 : (.selects RX9 yX9_isBridgeLine yX9_isBridgeLine : Cond) ∈ lw_g := mg (List.mem_of_getElem? (i := 38) rfl) rfl
set_option maxRecDepth 100000 in
theorem wd_39 : (.selects RX9 yX9_isHoursLine yX9_isHoursLine : Cond) ∈ lw_g := mg (List.mem_of_getElem? (i := 39) rfl) rfl
set_option maxRecDepth 100000 in
theorem wd_40 : (.selects RX9 yX9_headsOf yX9_headsOf : Cond) ∈ lw_g := mg (List.mem_of_getElem? (i := 40) rfl) rfl
set_option maxRecDepth 100000 in
theorem wd_41 : (.selects RX9 yX9_personOf yX9_personOf : Cond) ∈ lw_g := mg (List.mem_of_getElem? (i := 41) rfl) rfl
set_option maxRecDepth 100000 in
theorem wd_42 : (.selects RX9 yX9_isFact yX9_isFact : Cond) ∈ lw_g := mg (List.mem_of_getElem? (i := 42) rfl) rfl
set_option maxRecDepth 100000 in
theorem wd_43 : (.selects RX9 yX9_knowersOf yX9_knowersOf : Cond) ∈ lw_g := mg (List.mem_of_getElem? (i := 43) rfl) rfl
set_option maxRecDepth 100000 in
theorem wd_44 : (.selects RX9 yX9_isOne yX9_isOne : Cond) ∈ lw_g := mg (List.mem_of_getElem? (i := 44) rfl) rfl
set_option maxRecDepth 100000 in
theorem wd_45 : (.selects RX9 yX9_friendsOf yX9_friendsOf : Cond) ∈ lw_g := mg (List.mem_of_getElem? (i := 45) rfl) rfl
set_option maxRecDepth 100000 in
theorem wd_46 : (.selects RX9 yX9_weightOf yX9_weightOf : Cond) ∈ lw_g := mg (List.mem_of_getElem? (i := 46) rfl) rfl
set_option maxRecDepth 100000 in
theorem wd_47 : (.selects RX9 yX9_gramsOf yX9_gramsOf : Cond) ∈ lw_g := mg (List.mem_of_getElem? (i := 47) rfl) rfl
set_option maxRecDepth 100000 in
theorem wd_48 : (.selects RX9 yX9_isLie yX9_isLie : Cond) ∈ lw_g := mg (List.mem_of_getElem? (i := 48) rfl) rfl
set_option maxRecDepth 100000 in
theorem wd_49 : (.selects RX9 yX9_isBridge yX9_isBridge : Cond) ∈ lw_g := mg (List.mem_of_getElem? (i := 49) rfl) rfl
set_option maxRecDepth 100000 in
theorem wd_50 : (.selects RX9 yX9_barred yX9_barred : Cond) ∈ lw_g := mg (List.mem_of_getElem? (i := 50) rfl) rfl
set_option maxRecDepth 100000 in
theorem wd_51 : (.selects RX9 yX9_pass yX9_pass : Cond) ∈ lw_g := mg (List.mem_of_getElem? (i := 51) rfl) rfl
set_option maxRecDepth 100000 in
theorem wd_52 : (.selects RX9 yX9_tells yX9_tells : Cond) ∈ lw_g := mg (List.mem_of_getElem? (i := 52) rfl) rfl
set_option maxRecDepth 100000 in
theorem wd_53 : (.selects RX9 yX9_draw yX9_draw : Cond) ∈ lw_g := mg (List.mem_of_getElem? (i := 53) rfl) rfl
set_option maxRecDepth 100000 in
theorem wd_54 : (.selects RX9 yX9_isSet yX9_isSet : Cond) ∈ lw_g := mg (List.mem_of_getElem? (i := 54) rfl) rfl
set_option maxRecDepth 100000 in
theorem wd_55 : (.selects RX9 yX9_togetherOf yX9_togetherOf : Cond) ∈ lw_g := mg (List.mem_of_getElem? (i := 55) rfl) rfl
set_option maxRecDepth 100000 in
theorem wd_56 : (.selects RX9 yX9_layWays yX9_layWays : Cond) ∈ lw_g := mg (List.mem_of_getElem? (i := 56) rfl) rfl
set_option maxRecDepth 100000 in
theorem wd_57 : (.selects RX9 yX9_waysTo yX9_waysTo : Cond) ∈ lw_g := mg (List.mem_of_getElem? (i := 57) rfl) rfl
set_option maxRecDepth 100000 in
theorem wd_58 : (.selects RX9 yX9_canCome yX9_canCome : Cond) ∈ lw_g := mg (List.mem_of_getElem? (i := 58) rfl) rfl
set_option maxRecDepth 100000 in
theorem wd_59 : (.selects RX9 yX9_forgotten yX9_forgotten : Cond) ∈ lw_g := mg (List.mem_of_getElem? (i := 59) rfl) rfl
set_option maxRecDepth 100000 in
theorem wd_61 : (.initialized RX8 : Cond) ∈ lw_g := mg (List.mem_of_getElem? (i := 61) rfl) rfl
set_option maxRecDepth 100000 in
theorem wd_62 : (.initialized RX4 : Cond) ∈ lw_g := mg (List.mem_of_getElem? (i := 62) rfl) rfl
set_option maxRecDepth 100000 in
theorem wd_63 : (.initialized RX3 : Cond) ∈ lw_g := mg (List.mem_of_getElem? (i := 63) rfl) rfl
set_option maxRecDepth 100000 in
theorem wd_64 : (.initialized RX2 : Cond) ∈ lw_g := mg (List.mem_of_getElem? (i := 64) rfl) rfl
set_option maxRecDepth 100000 in
theorem wd_65 : (.initialized RX6 : Cond) ∈ lw_g := mg (List.mem_of_getElem? (i := 65) rfl) rfl
set_option maxRecDepth 100000 in
theorem wd_66 : (.initialized RX1 : Cond) ∈ lw_g := mg (List.mem_of_getElem? (i := 66) rfl) rfl
set_option maxRecDepth 100000 in
theorem wd_67 : (.initialized RX7 : Cond) ∈ lw_g := mg (List.mem_of_getElem? (i := 67) rfl) rfl
set_option maxRecDepth 100000 in
theorem wd_68 : (.initialized RX0 : Cond) ∈ lw_g := mg (List.mem_of_getElem? (i := 68) rfl) rfl
set_option maxRecDepth 100000 in
theorem wd_69 : (.initialized RX5 : Cond) ∈ lw_g := mg (List.mem_of_getElem? (i := 69) rfl) rfl
set_option maxRecDepth 100000 in
theorem wd_70 : (.initialized RX9 : Cond) ∈ lw_g := mg (List.mem_of_getElem? (i := 70) rfl) rfl
set_option maxRecDepth 100000 in
theorem wd_71 : (.initialized RJ7 : Cond) ∈ lw_g := mg (List.mem_of_getElem? (i := 71) rfl) rfl
set_option maxRecDepth 100000 in
theorem wd_72 : (.initialized RJ6 : Cond) ∈ lw_g := mg (List.mem_of_getElem? (i := 72) rfl) rfl
set_option maxRecDepth 100000 in
theorem wd_73 : (.initialized RJ10 : Cond) ∈ lw_g := mg (List.mem_of_getElem? (i := 73) rfl) rfl
set_option maxRecDepth 100000 in
theorem wd_74 : (.initialized RJ9 : Cond) ∈ lw_g := mg (List.mem_of_getElem? (i := 74) rfl) rfl
set_option maxRecDepth 100000 in
theorem wd_89 : (.fieldLink RX4 9 RX4 "letters" "[I" : Cond) ∈ lw_g := mg (List.mem_of_getElem? (i := 89) rfl) rfl
set_option maxRecDepth 100000 in
theorem wd_90 : (.fieldLink RX4 19 RX4 "length" "I" : Cond) ∈ lw_g := mg (List.mem_of_getElem? (i := 90) rfl) rfl
set_option maxRecDepth 100000 in
theorem wd_91 : (.fieldLink RX8 84 RX4 "length" "I" : Cond) ∈ lw_g := mg (List.mem_of_getElem? (i := 91) rfl) rfl
set_option maxRecDepth 100000 in
theorem wd_92 : (.fieldLink RX4 15 RX4 "faultPlace" "I" : Cond) ∈ lw_g := mg (List.mem_of_getElem? (i := 92) rfl) rfl
set_option maxRecDepth 100000 in
theorem wd_93 : (.fieldLink RX8 101 RX4 "faultPlace" "I" : Cond) ∈ lw_g := mg (List.mem_of_getElem? (i := 93) rfl) rfl
set_option maxRecDepth 100000 in
theorem wd_94 : (.fieldLink RX4 31 RX4 "faultKind" "I" : Cond) ∈ lw_g := mg (List.mem_of_getElem? (i := 94) rfl) rfl
set_option maxRecDepth 100000 in
theorem wd_95 : (.fieldLink RX4 28 RX4 "place" "I" : Cond) ∈ lw_g := mg (List.mem_of_getElem? (i := 95) rfl) rfl
set_option maxRecDepth 100000 in
theorem wd_96 : (.fieldLink RX4 92 RX4 "numberPlace" "I" : Cond) ∈ lw_g := mg (List.mem_of_getElem? (i := 96) rfl) rfl
set_option maxRecDepth 100000 in
theorem wd_117 : (.fieldLink RX3 36 RX3 "people" "I" : Cond) ∈ lw_g := mg (List.mem_of_getElem? (i := 117) rfl) rfl
set_option maxRecDepth 100000 in
theorem wd_118 : (.fieldLink RX1 22 RX3 "people" "I" : Cond) ∈ lw_g := mg (List.mem_of_getElem? (i := 118) rfl) rfl
set_option maxRecDepth 100000 in
theorem wd_119 : (.fieldLink RX7 28 RX3 "people" "I" : Cond) ∈ lw_g := mg (List.mem_of_getElem? (i := 119) rfl) rfl
set_option maxRecDepth 100000 in
theorem wd_120 : (.fieldLink RX8 98 RX3 "people" "I" : Cond) ∈ lw_g := mg (List.mem_of_getElem? (i := 120) rfl) rfl
set_option maxRecDepth 100000 in
theorem wd_121 : (.fieldLink RX4 77 RX3 "people" "I" : Cond) ∈ lw_g := mg (List.mem_of_getElem? (i := 121) rfl) rfl
set_option maxRecDepth 100000 in
theorem wd_122 : (.fieldLink RX2 73 RX3 "people" "I" : Cond) ∈ lw_g := mg (List.mem_of_getElem? (i := 122) rfl) rfl
set_option maxRecDepth 100000 in
theorem wd_123 : (.fieldLink RX3 40 RX3 "facts" "I" : Cond) ∈ lw_g := mg (List.mem_of_getElem? (i := 123) rfl) rfl
set_option maxRecDepth 100000 in
theorem wd_124 : (.fieldLink RX2 31 RX3 "facts" "I" : Cond) ∈ lw_g := mg (List.mem_of_getElem? (i := 124) rfl) rfl
set_option maxRecDepth 100000 in
theorem wd_125 : (.fieldLink RX7 33 RX3 "facts" "I" : Cond) ∈ lw_g := mg (List.mem_of_getElem? (i := 125) rfl) rfl
set_option maxRecDepth 100000 in
theorem wd_126 : (.fieldLink RX0 52 RX3 "facts" "I" : Cond) ∈ lw_g := mg (List.mem_of_getElem? (i := 126) rfl) rfl
set_option maxRecDepth 100000 in
theorem wd_127 : (.fieldLink RX5 32 RX3 "facts" "I" : Cond) ∈ lw_g := mg (List.mem_of_getElem? (i := 127) rfl) rfl
set_option maxRecDepth 100000 in
theorem wd_128 : (.fieldLink RX8 104 RX3 "facts" "I" : Cond) ∈ lw_g := mg (List.mem_of_getElem? (i := 128) rfl) rfl
set_option maxRecDepth 100000 in
theorem wd_129 : (.fieldLink RX4 80 RX3 "facts" "I" : Cond) ∈ lw_g := mg (List.mem_of_getElem? (i := 129) rfl) rfl
set_option maxRecDepth 100000 in
theorem wd_130 : (.fieldLink RX3 43 RX3 "friendships" "I" : Cond) ∈ lw_g := mg (List.mem_of_getElem? (i := 130) rfl) rfl
set_option maxRecDepth 100000 in
theorem wd_131 : (.fieldLink RX8 107 RX3 "friendships" "I" : Cond) ∈ lw_g := mg (List.mem_of_getElem? (i := 131) rfl) rfl
set_option maxRecDepth 100000 in
theorem wd_132 : (.fieldLink RX4 83 RX3 "friendships" "I" : Cond) ∈ lw_g := mg (List.mem_of_getElem? (i := 132) rfl) rfl
set_option maxRecDepth 100000 in
theorem wd_133 : (.fieldLink RX3 46 RX3 "bridges" "I" : Cond) ∈ lw_g := mg (List.mem_of_getElem? (i := 133) rfl) rfl
set_option maxRecDepth 100000 in
theorem wd_134 : (.fieldLink RX8 110 RX3 "bridges" "I" : Cond) ∈ lw_g := mg (List.mem_of_getElem? (i := 134) rfl) rfl
set_option maxRecDepth 100000 in
theorem wd_135 : (.fieldLink RX4 86 RX3 "bridges" "I" : Cond) ∈ lw_g := mg (List.mem_of_getElem? (i := 135) rfl) rfl
set_option maxRecDepth 100000 in
theorem wd_136 : (.fieldLink RX3 49 RX3 "memory" "I" : Cond) ∈ lw_g := mg (List.mem_of_getElem? (i := 136) rfl) rfl
set_option maxRecDepth 100000 in
theorem wd_137 : (.fieldLink RX8 113 RX3 "memory" "I" : Cond) ∈ lw_g := mg (List.mem_of_getElem? (i := 137) rfl) rfl
set_option maxRecDepth 100000 in
theorem wd_138 : (.fieldLink RX4 89 RX3 "memory" "I" : Cond) ∈ lw_g := mg (List.mem_of_getElem? (i := 138) rfl) rfl
set_option maxRecDepth 100000 in
theorem wd_139 : (.fieldLink RX2 86 RX3 "memory" "I" : Cond) ∈ lw_g := mg (List.mem_of_getElem? (i := 139) rfl) rfl
set_option maxRecDepth 100000 in
theorem wd_140 : (.fieldLink RX3 52 RX3 "quiet" "I" : Cond) ∈ lw_g := mg (List.mem_of_getElem? (i := 140) rfl) rfl
set_option maxRecDepth 100000 in
theorem wd_141 : (.fieldLink RX8 119 RX3 "quiet" "I" : Cond) ∈ lw_g := mg (List.mem_of_getElem? (i := 141) rfl) rfl
set_option maxRecDepth 100000 in
theorem wd_142 : (.fieldLink RX4 129 RX3 "quiet" "I" : Cond) ∈ lw_g := mg (List.mem_of_getElem? (i := 142) rfl) rfl
set_option maxRecDepth 100000 in
theorem wd_143 : (.fieldLink RX0 20 RX3 "lieFacts" "I" : Cond) ∈ lw_g := mg (List.mem_of_getElem? (i := 143) rfl) rfl
set_option maxRecDepth 100000 in
theorem wd_144 : (.fieldLink RX3 55 RX3 "lieFacts" "I" : Cond) ∈ lw_g := mg (List.mem_of_getElem? (i := 144) rfl) rfl
set_option maxRecDepth 100000 in
theorem wd_145 : (.fieldLink RX2 67 RX3 "lieFacts" "I" : Cond) ∈ lw_g := mg (List.mem_of_getElem? (i := 145) rfl) rfl
set_option maxRecDepth 100000 in
theorem wd_146 : (.fieldLink RX8 268 RX3 "lieFacts" "I" : Cond) ∈ lw_g := mg (List.mem_of_getElem? (i := 146) rfl) rfl
set_option maxRecDepth 100000 in
theorem wd_147 : (.fieldLink RX3 58 RX3 "factsWithKnowers" "I" : Cond) ∈ lw_g := mg (List.mem_of_getElem? (i := 147) rfl) rfl
set_option maxRecDepth 100000 in
theorem wd_148 : (.fieldLink RX4 111 RX3 "factsWithKnowers" "I" : Cond) ∈ lw_g := mg (List.mem_of_getElem? (i := 148) rfl) rfl
set_option maxRecDepth 100000 in
theorem wd_149 : (.fieldLink RX3 9 RX3 "owner" "[I" : Cond) ∈ lw_g := mg (List.mem_of_getElem? (i := 149) rfl) rfl
set_option maxRecDepth 100000 in
theorem wd_150 : (.fieldLink RX0 55 RX3 "owner" "[I" : Cond) ∈ lw_g := mg (List.mem_of_getElem? (i := 150) rfl) rfl
set_option maxRecDepth 100000 in
theorem wd_151 : (.fieldLink RX8 130 RX3 "owner" "[I" : Cond) ∈ lw_g := mg (List.mem_of_getElem? (i := 151) rfl) rfl
set_option maxRecDepth 100000 in
theorem wd_152 : (.fieldLink RX2 48 RX3 "owner" "[I" : Cond) ∈ lw_g := mg (List.mem_of_getElem? (i := 152) rfl) rfl
set_option maxRecDepth 100000 in
theorem wd_153 : (.fieldLink RX3 15 RX3 "grams" "[I" : Cond) ∈ lw_g := mg (List.mem_of_getElem? (i := 153) rfl) rfl
set_option maxRecDepth 100000 in
theorem wd_154 : (.fieldLink RX7 40 RX3 "grams" "[I" : Cond) ∈ lw_g := mg (List.mem_of_getElem? (i := 154) rfl) rfl
set_option maxRecDepth 100000 in
theorem wd_155 : (.fieldLink RX5 38 RX3 "grams" "[I" : Cond) ∈ lw_g := mg (List.mem_of_getElem? (i := 155) rfl) rfl
set_option maxRecDepth 100000 in
theorem wd_156 : (.fieldLink RX8 134 RX3 "grams" "[I" : Cond) ∈ lw_g := mg (List.mem_of_getElem? (i := 156) rfl) rfl
set_option maxRecDepth 100000 in
theorem wd_157 : (.fieldLink RX2 61 RX3 "grams" "[I" : Cond) ∈ lw_g := mg (List.mem_of_getElem? (i := 157) rfl) rfl
set_option maxRecDepth 100000 in
theorem wd_158 : (.fieldLink RX3 18 RX3 "firstKnowers" "[I" : Cond) ∈ lw_g := mg (List.mem_of_getElem? (i := 158) rfl) rfl
set_option maxRecDepth 100000 in
theorem wd_159 : (.fieldLink RX2 36 RX3 "firstKnowers" "[I" : Cond) ∈ lw_g := mg (List.mem_of_getElem? (i := 159) rfl) rfl
set_option maxRecDepth 100000 in
theorem wd_160 : (.fieldLink RX4 117 RX3 "firstKnowers" "[I" : Cond) ∈ lw_g := mg (List.mem_of_getElem? (i := 160) rfl) rfl
set_option maxRecDepth 100000 in
theorem wd_161 : (.fieldLink RX3 21 RX3 "factsOf" "[I" : Cond) ∈ lw_g := mg (List.mem_of_getElem? (i := 161) rfl) rfl
set_option maxRecDepth 100000 in
theorem wd_162 : (.fieldLink RX0 15 RX3 "factsOf" "[I" : Cond) ∈ lw_g := mg (List.mem_of_getElem? (i := 162) rfl) rfl
set_option maxRecDepth 100000 in
theorem wd_163 : (.fieldLink RX8 153 RX3 "factsOf" "[I" : Cond) ∈ lw_g := mg (List.mem_of_getElem? (i := 163) rfl) rfl
set_option maxRecDepth 100000 in
theorem wd_164 : (.fieldLink RX2 64 RX3 "factsOf" "[I" : Cond) ∈ lw_g := mg (List.mem_of_getElem? (i := 164) rfl) rfl
set_option maxRecDepth 100000 in
theorem wd_165 : (.fieldLink RX3 24 RX3 "friends" "[I" : Cond) ∈ lw_g := mg (List.mem_of_getElem? (i := 165) rfl) rfl
set_option maxRecDepth 100000 in
theorem wd_166 : (.fieldLink RX8 150 RX3 "friends" "[I" : Cond) ∈ lw_g := mg (List.mem_of_getElem? (i := 166) rfl) rfl
set_option maxRecDepth 100000 in
theorem wd_167 : (.fieldLink RX4 120 RX3 "friends" "[I" : Cond) ∈ lw_g := mg (List.mem_of_getElem? (i := 167) rfl) rfl
set_option maxRecDepth 100000 in
theorem wd_168 : (.fieldLink RX2 112 RX3 "friends" "[I" : Cond) ∈ lw_g := mg (List.mem_of_getElem? (i := 168) rfl) rfl
set_option maxRecDepth 100000 in
theorem wd_169 : (.fieldLink RX3 27 RX3 "oneFriend" "[I" : Cond) ∈ lw_g := mg (List.mem_of_getElem? (i := 169) rfl) rfl
set_option maxRecDepth 100000 in
theorem wd_170 : (.fieldLink RX3 30 RX3 "otherFriend" "[I" : Cond) ∈ lw_g := mg (List.mem_of_getElem? (i := 170) rfl) rfl
set_option maxRecDepth 100000 in
theorem wd_172 : (.fieldLink RX8 176 RX3 "bears" "[I" : Cond) ∈ lw_g := mg (List.mem_of_getElem? (i := 172) rfl) rfl
set_option maxRecDepth 100000 in
theorem wd_173 : (.fieldLink RX4 132 RX3 "bears" "[I" : Cond) ∈ lw_g := mg (List.mem_of_getElem? (i := 173) rfl) rfl
set_option maxRecDepth 100000 in
theorem wd_213 : (.fieldLink RX2 21 RX2 "hours" "I" : Cond) ∈ lw_g := mg (List.mem_of_getElem? (i := 213) rfl) rfl
set_option maxRecDepth 100000 in
theorem wd_214 : (.fieldLink RX8 116 RX2 "hours" "I" : Cond) ∈ lw_g := mg (List.mem_of_getElem? (i := 214) rfl) rfl
set_option maxRecDepth 100000 in
theorem wd_215 : (.fieldLink RX2 39 RX2 "drawn" "I" : Cond) ∈ lw_g := mg (List.mem_of_getElem? (i := 215) rfl) rfl
set_option maxRecDepth 100000 in
theorem wd_216 : (.fieldLink RX8 282 RX2 "drawn" "I" : Cond) ∈ lw_g := mg (List.mem_of_getElem? (i := 216) rfl) rfl
set_option maxRecDepth 100000 in
theorem wd_217 : (.fieldLink RX2 9 RX2 "knowers" "[I" : Cond) ∈ lw_g := mg (List.mem_of_getElem? (i := 217) rfl) rfl
set_option maxRecDepth 100000 in
theorem wd_218 : (.fieldLink RX8 140 RX2 "knowers" "[I" : Cond) ∈ lw_g := mg (List.mem_of_getElem? (i := 218) rfl) rfl
set_option maxRecDepth 100000 in
theorem wd_219 : (.fieldLink RX2 15 RX2 "hearers" "[I" : Cond) ∈ lw_g := mg (List.mem_of_getElem? (i := 219) rfl) rfl
set_option maxRecDepth 100000 in
theorem wd_220 : (.fieldLink RX2 18 RX2 "heard" "[I" : Cond) ∈ lw_g := mg (List.mem_of_getElem? (i := 220) rfl) rfl
set_option maxRecDepth 100000 in
theorem wd_239 : (.fieldLink RX6 18 RX6 "count" "I" : Cond) ∈ lw_g := mg (List.mem_of_getElem? (i := 239) rfl) rfl
set_option maxRecDepth 100000 in
theorem wd_240 : (.fieldLink RX8 92 RX6 "count" "I" : Cond) ∈ lw_g := mg (List.mem_of_getElem? (i := 240) rfl) rfl
set_option maxRecDepth 100000 in
theorem wd_241 : (.fieldLink RX6 9 RX6 "whom" "[I" : Cond) ∈ lw_g := mg (List.mem_of_getElem? (i := 241) rfl) rfl
set_option maxRecDepth 100000 in
theorem wd_242 : (.fieldLink RX6 15 RX6 "grams" "[I" : Cond) ∈ lw_g := mg (List.mem_of_getElem? (i := 242) rfl) rfl
set_option maxRecDepth 100000 in
theorem wd_256 : (.fieldLink RX1 9 RX1 "fewest" "[I" : Cond) ∈ lw_g := mg (List.mem_of_getElem? (i := 256) rfl) rfl
set_option maxRecDepth 100000 in
theorem wd_257 : (.fieldLink RX8 219 RX1 "fewest" "[I" : Cond) ∈ lw_g := mg (List.mem_of_getElem? (i := 257) rfl) rfl
set_option maxRecDepth 100000 in
theorem wd_258 : (.fieldLink RX1 15 RX1 "loads" "[I" : Cond) ∈ lw_g := mg (List.mem_of_getElem? (i := 258) rfl) rfl
set_option maxRecDepth 100000 in
theorem wd_259 : (.fieldLink RX1 18 RX1 "bears" "I" : Cond) ∈ lw_g := mg (List.mem_of_getElem? (i := 259) rfl) rfl
set_option maxRecDepth 100000 in
theorem wd_273 : (.fieldLink RX7 9 RX7 "row" "[I" : Cond) ∈ lw_g := mg (List.mem_of_getElem? (i := 273) rfl) rfl
set_option maxRecDepth 100000 in
theorem wd_274 : (.fieldLink RX7 21 RX7 "lowest" "I" : Cond) ∈ lw_g := mg (List.mem_of_getElem? (i := 274) rfl) rfl
set_option maxRecDepth 100000 in
theorem wd_275 : (.fieldLink RX7 25 RX7 "top" "I" : Cond) ∈ lw_g := mg (List.mem_of_getElem? (i := 275) rfl) rfl
set_option maxRecDepth 100000 in
theorem wd_289 : (.fieldLink RX0 9 RX0 "row" "[I" : Cond) ∈ lw_g := mg (List.mem_of_getElem? (i := 289) rfl) rfl
set_option maxRecDepth 100000 in
theorem wd_290 : (.fieldLink RX0 30 RX0 "lowest" "I" : Cond) ∈ lw_g := mg (List.mem_of_getElem? (i := 290) rfl) rfl
set_option maxRecDepth 100000 in
theorem wd_291 : (.fieldLink RX0 39 RX0 "from" "I" : Cond) ∈ lw_g := mg (List.mem_of_getElem? (i := 291) rfl) rfl
set_option maxRecDepth 100000 in
theorem wd_292 : (.fieldLink RX0 42 RX0 "to" "I" : Cond) ∈ lw_g := mg (List.mem_of_getElem? (i := 292) rfl) rfl
set_option maxRecDepth 100000 in
theorem wd_308 : (.fieldLink RX5 9 RX5 "leastOfOne" "[I" : Cond) ∈ lw_g := mg (List.mem_of_getElem? (i := 308) rfl) rfl
set_option maxRecDepth 100000 in
theorem wd_309 : (.fieldLink RX8 262 RX5 "leastOfOne" "[I" : Cond) ∈ lw_g := mg (List.mem_of_getElem? (i := 309) rfl) rfl
set_option maxRecDepth 100000 in
theorem wd_310 : (.fieldLink RX5 15 RX5 "leastOfOther" "[I" : Cond) ∈ lw_g := mg (List.mem_of_getElem? (i := 310) rfl) rfl
set_option maxRecDepth 100000 in
theorem wd_311 : (.fieldLink RX8 265 RX5 "leastOfOther" "[I" : Cond) ∈ lw_g := mg (List.mem_of_getElem? (i := 311) rfl) rfl
set_option maxRecDepth 100000 in
theorem wd_317 : (.fieldLink RX8 12 RX8 "text" "LKnownWeight$LandText;" : Cond) ∈ lw_g := mg (List.mem_of_getElem? (i := 317) rfl) rfl
set_option maxRecDepth 100000 in
theorem wd_318 : (.fieldLink RX8 19 RX8 "here" "LKnownWeight$Land;" : Cond) ∈ lw_g := mg (List.mem_of_getElem? (i := 318) rfl) rfl
set_option maxRecDepth 100000 in
theorem wd_319 : (.fieldLink RX8 23 RX8 "draft" "LKnownWeight$Land;" : Cond) ∈ lw_g := mg (List.mem_of_getElem? (i := 319) rfl) rfl
set_option maxRecDepth 100000 in
theorem wd_320 : (.fieldLink RX8 29 RX8 "now" "LKnownWeight$Heads;" : Cond) ∈ lw_g := mg (List.mem_of_getElem? (i := 320) rfl) rfl
set_option maxRecDepth 100000 in
theorem wd_321 : (.fieldLink RX8 33 RX8 "tried" "LKnownWeight$Heads;" : Cond) ∈ lw_g := mg (List.mem_of_getElem? (i := 321) rfl) rfl
set_option maxRecDepth 100000 in
theorem wd_322 : (.fieldLink RX8 36 RX8 "images" "[LKnownWeight$Heads;" : Cond) ∈ lw_g := mg (List.mem_of_getElem? (i := 322) rfl) rfl
set_option maxRecDepth 100000 in
theorem wd_323 : (.fieldLink RX8 95 RX8 "kept" "I" : Cond) ∈ lw_g := mg (List.mem_of_getElem? (i := 323) rfl) rfl
set_option maxRecDepth 100000 in
theorem wd_324 : (.fieldLink RX8 43 RX8 "scales" "LKnownWeight$Scales;" : Cond) ∈ lw_g := mg (List.mem_of_getElem? (i := 324) rfl) rfl
set_option maxRecDepth 100000 in
theorem wd_325 : (.fieldLink RX8 50 RX8 "ferry" "LKnownWeight$Ferry;" : Cond) ∈ lw_g := mg (List.mem_of_getElem? (i := 325) rfl) rfl
set_option maxRecDepth 100000 in
theorem wd_326 : (.fieldLink RX8 57 RX8 "ways" "LKnownWeight$Ways;" : Cond) ∈ lw_g := mg (List.mem_of_getElem? (i := 326) rfl) rfl
set_option maxRecDepth 100000 in
theorem wd_327 : (.fieldLink RX8 64 RX8 "chances" "LKnownWeight$Chances;" : Cond) ∈ lw_g := mg (List.mem_of_getElem? (i := 327) rfl) rfl
set_option maxRecDepth 100000 in
theorem wd_328 : (.fieldLink RX8 71 RX8 "pact" "LKnownWeight$Pact;" : Cond) ∈ lw_g := mg (List.mem_of_getElem? (i := 328) rfl) rfl
set_option maxRecDepth 100000 in
theorem wd_355 : (.instanceMethod yX8_feed : Cond) ∈ lw_g := mg (List.mem_of_getElem? (i := 355) rfl) rfl
set_option maxRecDepth 100000 in
theorem wd_356 : (.selects RX8 yX8_feed yX8_feed : Cond) ∈ lw_g := mg (List.mem_of_getElem? (i := 356) rfl) rfl
set_option maxRecDepth 100000 in
theorem wd_357 : (.code yX8_feed cX8_feed 2 (some .int) : Cond) ∈ lw_g := mg (List.mem_of_getElem? (i := 357) rfl) rfl
set_option maxRecDepth 100000 in
theorem wd_358 : (.constant RX8 75 (-1000000002) : Cond) ∈ lw_g := mg (List.mem_of_getElem? (i := 358) rfl) rfl
set_option maxRecDepth 100000 in
theorem wd_359 : (.methodLink RX8 76 yX4_add : Cond) ∈ lw_g := mg (List.mem_of_getElem? (i := 359) rfl) rfl
set_option maxRecDepth 100000 in
theorem wd_360 : (.instanceMethod yX4_add : Cond) ∈ lw_g := mg (List.mem_of_getElem? (i := 360) rfl) rfl
set_option maxRecDepth 100000 in
theorem wd_361 : (.selects RX4 yX4_add yX4_add : Cond) ∈ lw_g := mg (List.mem_of_getElem? (i := 361) rfl) rfl
set_option maxRecDepth 100000 in
theorem wd_362 : (.code yX4_add cX4_add 2 (some .int) : Cond) ∈ lw_g := mg (List.mem_of_getElem? (i := 362) rfl) rfl
set_option maxRecDepth 100000 in
theorem wd_363 : (.constant RX4 22 (-1000000004) : Cond) ∈ lw_g := mg (List.mem_of_getElem? (i := 363) rfl) rfl
set_option maxRecDepth 100000 in
theorem wd_365 : (.instanceMethod yX8_land : Cond) ∈ lw_g := mg (List.mem_of_getElem? (i := 365) rfl) rfl
set_option maxRecDepth 100000 in
theorem wd_366 : (.selects RX8 yX8_land yX8_land : Cond) ∈ lw_g := mg (List.mem_of_getElem? (i := 366) rfl) rfl
set_option maxRecDepth 100000 in
theorem wd_367 : (.code yX8_land cX8_land 3 (some .int) : Cond) ∈ lw_g := mg (List.mem_of_getElem? (i := 367) rfl) rfl
set_option maxRecDepth 100000 in
theorem wd_368 : (.methodLink RX8 80 yX4_readInto : Cond) ∈ lw_g := mg (List.mem_of_getElem? (i := 368) rfl) rfl
set_option maxRecDepth 100000 in
theorem wd_369 : (.instanceMethod yX4_readInto : Cond) ∈ lw_g := mg (List.mem_of_getElem? (i := 369) rfl) rfl
set_option maxRecDepth 100000 in
theorem wd_370 : (.selects RX4 yX4_readInto yX4_readInto : Cond) ∈ lw_g := mg (List.mem_of_getElem? (i := 370) rfl) rfl
set_option maxRecDepth 100000 in
theorem wd_371 : (.code yX4_readInto cX4_readInto 3 (some .int) : Cond) ∈ lw_g := mg (List.mem_of_getElem? (i := 371) rfl) rfl
set_option maxRecDepth 100000 in
theorem wd_372 : (.methodLink RX4 23 yX3_clear : Cond) ∈ lw_g := mg (List.mem_of_getElem? (i := 372) rfl) rfl
set_option maxRecDepth 100000 in
theorem wd_373 : (.instanceMethod yX3_clear : Cond) ∈ lw_g := mg (List.mem_of_getElem? (i := 373) rfl) rfl
set_option maxRecDepth 100000 in
theorem wd_374 : (.selects RX3 yX3_clear yX3_clear : Cond) ∈ lw_g := mg (List.mem_of_getElem? (i := 374) rfl) rfl
set_option maxRecDepth 100000 in
theorem wd_375 : (.code yX3_clear cX3_clear 1 none : Cond) ∈ lw_g := mg (List.mem_of_getElem? (i := 375) rfl) rfl
set_option maxRecDepth 100000 in
theorem wd_376 : (.methodLink RX3 61 yJ7_fill_53178 : Cond) ∈ lw_g := mg (List.mem_of_getElem? (i := 376) rfl) rfl
set_option maxRecDepth 100000 in
theorem wd_377 : (.static yJ7_fill_53178 : Cond) ∈ lw_g := mg (List.mem_of_getElem? (i := 377) rfl) rfl
set_option maxRecDepth 100000 in
theorem wd_378 : (.code yJ7_fill_53178 cJ7_fill_53178 4 none : Cond) ∈ lw_g := mg (List.mem_of_getElem? (i := 378) rfl) rfl
set_option maxRecDepth 100000 in
theorem wd_379 : (.methodLink RX4 34 yX4_skipBlanks : Cond) ∈ lw_g := mg (List.mem_of_getElem? (i := 379) rfl) rfl
set_option maxRecDepth 100000 in
theorem wd_381 : (.instanceMethod yX4_skipBlanks : Cond) ∈ lw_g := mg (List.mem_of_getElem? (i := 381) rfl) rfl
set_option maxRecDepth 100000 in
theorem wd_382 : (.code yX4_skipBlanks cX4_skipBlanks 1 none : Cond) ∈ lw_g := mg (List.mem_of_getElem? (i := 382) rfl) rfl
set_option maxRecDepth 100000 in
theorem wd_383 : (.methodLink RX4 41 yX4_letterHere : Cond) ∈ lw_g := mg (List.mem_of_getElem? (i := 383) rfl) rfl
set_option maxRecDepth 100000 in
theorem wd_385 : (.instanceMethod yX4_letterHere : Cond) ∈ lw_g := mg (List.mem_of_getElem? (i := 385) rfl) rfl
set_option maxRecDepth 100000 in
theorem wd_386 : (.code yX4_letterHere cX4_letterHere 1 (some .int) : Cond) ∈ lw_g := mg (List.mem_of_getElem? (i := 386) rfl) rfl
set_option maxRecDepth 100000 in
theorem wd_387 : (.methodLink RX4 37 yX4_readClause : Cond) ∈ lw_g := mg (List.mem_of_getElem? (i := 387) rfl) rfl
set_option maxRecDepth 100000 in
theorem wd_389 : (.instanceMethod yX4_readClause : Cond) ∈ lw_g := mg (List.mem_of_getElem? (i := 389) rfl) rfl
set_option maxRecDepth 100000 in
theorem wd_390 : (.code yX4_readClause cX4_readClause 4 none : Cond) ∈ lw_g := mg (List.mem_of_getElem? (i := 390) rfl) rfl
set_option maxRecDepth 100000 in
theorem wd_391 : (.methodLink RX4 45 yX4_faultOfWord : Cond) ∈ lw_g := mg (List.mem_of_getElem? (i := 391) rfl) rfl
set_option maxRecDepth 100000 in
theorem wd_393 : (.instanceMethod yX4_faultOfWord : Cond) ∈ lw_g := mg (List.mem_of_getElem? (i := 393) rfl) rfl
set_option maxRecDepth 100000 in
theorem wd_394 : (.code yX4_faultOfWord cX4_faultOfWord 3 (some .int) : Cond) ∈ lw_g := mg (List.mem_of_getElem? (i := 394) rfl) rfl
set_option maxRecDepth 100000 in
theorem wd_395 : (.methodLink RX4 49 yX4_blame : Cond) ∈ lw_g := mg (List.mem_of_getElem? (i := 395) rfl) rfl
set_option maxRecDepth 100000 in
theorem wd_397 : (.instanceMethod yX4_blame : Cond) ∈ lw_g := mg (List.mem_of_getElem? (i := 397) rfl) rfl
set_option maxRecDepth 100000 in
theorem wd_398 : (.code yX4_blame cX4_blame 3 none : Cond) ∈ lw_g := mg (List.mem_of_getElem? (i := 398) rfl) rfl
set_option maxRecDepth 100000 in
theorem wd_399 : (.methodLink RX4 53 yX4_readPeople : Cond) ∈ lw_g := mg (List.mem_of_getElem? (i := 399) rfl) rfl
set_option maxRecDepth 100000 in
theorem wd_401 : (.instanceMethod yX4_readPeople : Cond) ∈ lw_g := mg (List.mem_of_getElem? (i := 401) rfl) rfl
set_option maxRecDepth 100000 in
theorem wd_402 : (.code yX4_readPeople cX4_readPeople 3 none : Cond) ∈ lw_g := mg (List.mem_of_getElem? (i := 402) rfl) rfl
set_option maxRecDepth 100000 in
theorem wd_403 : (.methodLink RX4 99 yX4_readNumber : Cond) ∈ lw_g := mg (List.mem_of_getElem? (i := 403) rfl) rfl
set_option maxRecDepth 100000 in
theorem wd_405 : (.instanceMethod yX4_readNumber : Cond) ∈ lw_g := mg (List.mem_of_getElem? (i := 405) rfl) rfl
set_option maxRecDepth 100000 in
theorem wd_406 : (.code yX4_readNumber cX4_readNumber 4 (some .int) : Cond) ∈ lw_g := mg (List.mem_of_getElem? (i := 406) rfl) rfl
set_option maxRecDepth 100000 in
theorem wd_407 : (.methodLink RX4 95 yX4_isFigure : Cond) ∈ lw_g := mg (List.mem_of_getElem? (i := 407) rfl) rfl
set_option maxRecDepth 100000 in
theorem wd_408 : (.static yX4_isFigure : Cond) ∈ lw_g := mg (List.mem_of_getElem? (i := 408) rfl) rfl
set_option maxRecDepth 100000 in
theorem wd_409 : (.code yX4_isFigure cX4_isFigure 1 (some .boolean) : Cond) ∈ lw_g := mg (List.mem_of_getElem? (i := 409) rfl) rfl
set_option maxRecDepth 100000 in
theorem wd_410 : (.methodLink RX4 56 yX4_readFact : Cond) ∈ lw_g := mg (List.mem_of_getElem? (i := 410) rfl) rfl
set_option maxRecDepth 100000 in
theorem wd_412 : (.instanceMethod yX4_readFact : Cond) ∈ lw_g := mg (List.mem_of_getElem? (i := 412) rfl) rfl
set_option maxRecDepth 100000 in
theorem wd_413 : (.code yX4_readFact cX4_readFact 5 none : Cond) ∈ lw_g := mg (List.mem_of_getElem? (i := 413) rfl) rfl
set_option maxRecDepth 100000 in
theorem wd_414 : (.methodLink RX4 103 yX4_readPerson : Cond) ∈ lw_g := mg (List.mem_of_getElem? (i := 414) rfl) rfl
set_option maxRecDepth 100000 in
theorem wd_416 : (.instanceMethod yX4_readPerson : Cond) ∈ lw_g := mg (List.mem_of_getElem? (i := 416) rfl) rfl
set_option maxRecDepth 100000 in
theorem wd_417 : (.code yX4_readPerson cX4_readPerson 2 (some .int) : Cond) ∈ lw_g := mg (List.mem_of_getElem? (i := 417) rfl) rfl
set_option maxRecDepth 100000 in
theorem wd_418 : (.methodLink RX4 107 yX3_addFact : Cond) ∈ lw_g := mg (List.mem_of_getElem? (i := 418) rfl) rfl
set_option maxRecDepth 100000 in
theorem wd_419 : (.instanceMethod yX3_addFact : Cond) ∈ lw_g := mg (List.mem_of_getElem? (i := 419) rfl) rfl
set_option maxRecDepth 100000 in
theorem wd_420 : (.selects RX3 yX3_addFact yX3_addFact : Cond) ∈ lw_g := mg (List.mem_of_getElem? (i := 420) rfl) rfl
set_option maxRecDepth 100000 in
theorem wd_421 : (.code yX3_addFact cX3_addFact 4 none : Cond) ∈ lw_g := mg (List.mem_of_getElem? (i := 421) rfl) rfl
set_option maxRecDepth 100000 in
theorem wd_422 : (.methodLink RX4 59 yX4_readKnowers : Cond) ∈ lw_g := mg (List.mem_of_getElem? (i := 422) rfl) rfl
set_option maxRecDepth 100000 in
theorem wd_424 : (.instanceMethod yX4_readKnowers : Cond) ∈ lw_g := mg (List.mem_of_getElem? (i := 424) rfl) rfl
set_option maxRecDepth 100000 in
theorem wd_425 : (.code yX4_readKnowers cX4_readKnowers 4 none : Cond) ∈ lw_g := mg (List.mem_of_getElem? (i := 425) rfl) rfl
set_option maxRecDepth 100000 in
theorem wd_426 : (.methodLink RX4 114 yX3_everybody : Cond) ∈ lw_g := mg (List.mem_of_getElem? (i := 426) rfl) rfl
set_option maxRecDepth 100000 in
theorem wd_427 : (.instanceMethod yX3_everybody : Cond) ∈ lw_g := mg (List.mem_of_getElem? (i := 427) rfl) rfl
set_option maxRecDepth 100000 in
theorem wd_428 : (.selects RX3 yX3_everybody yX3_everybody : Cond) ∈ lw_g := mg (List.mem_of_getElem? (i := 428) rfl) rfl
set_option maxRecDepth 100000 in
theorem wd_429 : (.code yX3_everybody cX3_everybody 1 (some .int) : Cond) ∈ lw_g := mg (List.mem_of_getElem? (i := 429) rfl) rfl
set_option maxRecDepth 100000 in
theorem wd_430 : (.methodLink RX4 62 yX4_readFriendship : Cond) ∈ lw_g := mg (List.mem_of_getElem? (i := 430) rfl) rfl
set_option maxRecDepth 100000 in
theorem wd_432 : (.instanceMethod yX4_readFriendship : Cond) ∈ lw_g := mg (List.mem_of_getElem? (i := 432) rfl) rfl
set_option maxRecDepth 100000 in
theorem wd_433 : (.code yX4_readFriendship cX4_readFriendship 4 none : Cond) ∈ lw_g := mg (List.mem_of_getElem? (i := 433) rfl) rfl
set_option maxRecDepth 100000 in
theorem wd_434 : (.methodLink RX4 123 yX3_addFriendship : Cond) ∈ lw_g := mg (List.mem_of_getElem? (i := 434) rfl) rfl
set_option maxRecDepth 100000 in
theorem wd_435 : (.instanceMethod yX3_addFriendship : Cond) ∈ lw_g := mg (List.mem_of_getElem? (i := 435) rfl) rfl
set_option maxRecDepth 100000 in
theorem wd_436 : (.selects RX3 yX3_addFriendship yX3_addFriendship : Cond) ∈ lw_g := mg (List.mem_of_getElem? (i := 436) rfl) rfl
set_option maxRecDepth 100000 in
theorem wd_437 : (.code yX3_addFriendship cX3_addFriendship 3 none : Cond) ∈ lw_g := mg (List.mem_of_getElem? (i := 437) rfl) rfl
set_option maxRecDepth 100000 in
theorem wd_438 : (.methodLink RX4 65 yX4_readQuiet : Cond) ∈ lw_g := mg (List.mem_of_getElem? (i := 438) rfl) rfl
set_option maxRecDepth 100000 in
theorem wd_440 : (.instanceMethod yX4_readQuiet : Cond) ∈ lw_g := mg (List.mem_of_getElem? (i := 440) rfl) rfl
set_option maxRecDepth 100000 in
theorem wd_441 : (.code yX4_readQuiet cX4_readQuiet 3 none : Cond) ∈ lw_g := mg (List.mem_of_getElem? (i := 441) rfl) rfl
set_option maxRecDepth 100000 in
theorem wd_442 : (.methodLink RX4 126 yX3_isQuiet : Cond) ∈ lw_g := mg (List.mem_of_getElem? (i := 442) rfl) rfl
set_option maxRecDepth 100000 in
theorem wd_443 : (.instanceMethod yX3_isQuiet : Cond) ∈ lw_g := mg (List.mem_of_getElem? (i := 443) rfl) rfl
set_option maxRecDepth 100000 in
theorem wd_444 : (.selects RX3 yX3_isQuiet yX3_isQuiet : Cond) ∈ lw_g := mg (List.mem_of_getElem? (i := 444) rfl) rfl
set_option maxRecDepth 100000 in
theorem wd_445 : (.code yX3_isQuiet cX3_isQuiet 2 (some .boolean) : Cond) ∈ lw_g := mg (List.mem_of_getElem? (i := 445) rfl) rfl
set_option maxRecDepth 100000 in
theorem wd_446 : (.methodLink RX4 68 yX4_readBridge : Cond) ∈ lw_g := mg (List.mem_of_getElem? (i := 446) rfl) rfl
set_option maxRecDepth 100000 in
theorem wd_448 : (.instanceMethod yX4_readBridge : Cond) ∈ lw_g := mg (List.mem_of_getElem? (i := 448) rfl) rfl
set_option maxRecDepth 100000 in
theorem wd_449 : (.code yX4_readBridge cX4_readBridge 3 none : Cond) ∈ lw_g := mg (List.mem_of_getElem? (i := 449) rfl) rfl
set_option maxRecDepth 100000 in
theorem wd_450 : (.methodLink RX4 71 yX4_readMemory : Cond) ∈ lw_g := mg (List.mem_of_getElem? (i := 450) rfl) rfl
set_option maxRecDepth 100000 in
theorem wd_452 : (.instanceMethod yX4_readMemory : Cond) ∈ lw_g := mg (List.mem_of_getElem? (i := 452) rfl) rfl
set_option maxRecDepth 100000 in
theorem wd_453 : (.code yX4_readMemory cX4_readMemory 3 none : Cond) ∈ lw_g := mg (List.mem_of_getElem? (i := 453) rfl) rfl
set_option maxRecDepth 100000 in
theorem wd_454 : (.methodLink RX4 74 yX4_readEnd : Cond) ∈ lw_g := mg (List.mem_of_getElem? (i := 454) rfl) rfl
set_option maxRecDepth 100000 in
theorem wd_456 : (.instanceMethod yX4_readEnd : Cond) ∈ lw_g := mg (List.mem_of_getElem? (i := 456) rfl) rfl
set_option maxRecDepth 100000 in
theorem wd_457 : (.code yX4_readEnd cX4_readEnd 1 none : Cond) ∈ lw_g := mg (List.mem_of_getElem? (i := 457) rfl) rfl
set_option maxRecDepth 100000 in
theorem wd_458 : (.methodLink RX8 88 yX2_begin : Cond) ∈ lw_g := mg (List.mem_of_getElem? (i := 458) rfl) rfl
set_option maxRecDepth 100000 in
theorem wd_459 : (.instanceMethod yX2_begin : Cond) ∈ lw_g := mg (List.mem_of_getElem? (i := 459) rfl) rfl
set_option maxRecDepth 100000 in
theorem wd_460 : (.selects RX2 yX2_begin yX2_begin : Cond) ∈ lw_g := mg (List.mem_of_getElem? (i := 460) rfl) rfl
set_option maxRecDepth 100000 in
theorem wd_461 : (.code yX2_begin cX2_begin 3 none : Cond) ∈ lw_g := mg (List.mem_of_getElem? (i := 461) rfl) rfl
set_option maxRecDepth 100000 in
theorem wd_462 : (.methodLink RX2 25 yJ7_fill_53178 : Cond) ∈ lw_g := mg (List.mem_of_getElem? (i := 462) rfl) rfl
set_option maxRecDepth 100000 in
theorem wd_464 : (.instanceMethod yX8_fault : Cond) ∈ lw_g := mg (List.mem_of_getElem? (i := 464) rfl) rfl
set_option maxRecDepth 100000 in
theorem wd_465 : (.selects RX8 yX8_fault yX8_fault : Cond) ∈ lw_g := mg (List.mem_of_getElem? (i := 465) rfl) rfl
set_option maxRecDepth 100000 in
theorem wd_466 : (.code yX8_fault cX8_fault 1 (some .int) : Cond) ∈ lw_g := mg (List.mem_of_getElem? (i := 466) rfl) rfl
set_option maxRecDepth 100000 in
theorem wd_468 : (.instanceMethod yX8_told : Cond) ∈ lw_g := mg (List.mem_of_getElem? (i := 468) rfl) rfl
set_option maxRecDepth 100000 in
theorem wd_469 : (.selects RX8 yX8_told yX8_told : Cond) ∈ lw_g := mg (List.mem_of_getElem? (i := 469) rfl) rfl
set_option maxRecDepth 100000 in
theorem wd_470 : (.code yX8_told cX8_told 2 (some .int) : Cond) ∈ lw_g := mg (List.mem_of_getElem? (i := 470) rfl) rfl
set_option maxRecDepth 100000 in
theorem wd_471 : (.methodLink RX8 122 yX2_allHeads : Cond) ∈ lw_g := mg (List.mem_of_getElem? (i := 471) rfl) rfl
set_option maxRecDepth 100000 in
theorem wd_472 : (.instanceMethod yX2_allHeads : Cond) ∈ lw_g := mg (List.mem_of_getElem? (i := 472) rfl) rfl
set_option maxRecDepth 100000 in
theorem wd_473 : (.selects RX2 yX2_allHeads yX2_allHeads : Cond) ∈ lw_g := mg (List.mem_of_getElem? (i := 473) rfl) rfl
set_option maxRecDepth 100000 in
theorem wd_474 : (.code yX2_allHeads cX2_allHeads 4 (some .int) : Cond) ∈ lw_g := mg (List.mem_of_getElem? (i := 474) rfl) rfl
set_option maxRecDepth 100000 in
theorem wd_475 : (.methodLink RX2 57 yX2_headsOf : Cond) ∈ lw_g := mg (List.mem_of_getElem? (i := 475) rfl) rfl
set_option maxRecDepth 100000 in
theorem wd_476 : (.instanceMethod yX2_headsOf : Cond) ∈ lw_g := mg (List.mem_of_getElem? (i := 476) rfl) rfl
set_option maxRecDepth 100000 in
theorem wd_477 : (.selects RX2 yX2_headsOf yX2_headsOf : Cond) ∈ lw_g := mg (List.mem_of_getElem? (i := 477) rfl) rfl
set_option maxRecDepth 100000 in
theorem wd_478 : (.code yX2_headsOf cX2_headsOf 3 (some .int) : Cond) ∈ lw_g := mg (List.mem_of_getElem? (i := 478) rfl) rfl
set_option maxRecDepth 100000 in
theorem wd_479 : (.methodLink RX2 51 yJ6_bitCount_0f7a4 : Cond) ∈ lw_g := mg (List.mem_of_getElem? (i := 479) rfl) rfl
set_option maxRecDepth 100000 in
theorem wd_480 : (.static yJ6_bitCount_0f7a4 : Cond) ∈ lw_g := mg (List.mem_of_getElem? (i := 480) rfl) rfl
set_option maxRecDepth 100000 in
theorem wd_481 : (.code yJ6_bitCount_0f7a4 cJ6_bitCount_0f7a4 1 (some .int) : Cond) ∈ lw_g := mg (List.mem_of_getElem? (i := 481) rfl) rfl
set_option maxRecDepth 100000 in
theorem wd_482 : (.constant RJ6 265 (1431655765) : Cond) ∈ lw_g := mg (List.mem_of_getElem? (i := 482) rfl) rfl
set_option maxRecDepth 100000 in
theorem wd_483 : (.constant RJ6 266 (858993459) : Cond) ∈ lw_g := mg (List.mem_of_getElem? (i := 483) rfl) rfl
set_option maxRecDepth 100000 in
theorem wd_484 : (.constant RJ6 267 (252645135) : Cond) ∈ lw_g := mg (List.mem_of_getElem? (i := 484) rfl) rfl
set_option maxRecDepth 100000 in
theorem wd_486 : (.instanceMethod yX8_fact : Cond) ∈ lw_g := mg (List.mem_of_getElem? (i := 486) rfl) rfl
set_option maxRecDepth 100000 in
theorem wd_487 : (.selects RX8 yX8_fact yX8_fact : Cond) ∈ lw_g := mg (List.mem_of_getElem? (i := 487) rfl) rfl
set_option maxRecDepth 100000 in
theorem wd_488 : (.code yX8_fact cX8_fact 3 (some .int) : Cond) ∈ lw_g := mg (List.mem_of_getElem? (i := 488) rfl) rfl
set_option maxRecDepth 100000 in
theorem wd_489 : (.methodLink RX8 125 yX3_hasFact : Cond) ∈ lw_g := mg (List.mem_of_getElem? (i := 489) rfl) rfl
set_option maxRecDepth 100000 in
theorem wd_490 : (.instanceMethod yX3_hasFact : Cond) ∈ lw_g := mg (List.mem_of_getElem? (i := 490) rfl) rfl
set_option maxRecDepth 100000 in
theorem wd_491 : (.selects RX3 yX3_hasFact yX3_hasFact : Cond) ∈ lw_g := mg (List.mem_of_getElem? (i := 491) rfl) rfl
set_option maxRecDepth 100000 in
theorem wd_492 : (.code yX3_hasFact cX3_hasFact 2 (some .boolean) : Cond) ∈ lw_g := mg (List.mem_of_getElem? (i := 492) rfl) rfl
set_option maxRecDepth 100000 in
theorem wd_493 : (.constant RX8 129 (-1000000001) : Cond) ∈ lw_g := mg (List.mem_of_getElem? (i := 493) rfl) rfl
set_option maxRecDepth 100000 in
theorem wd_494 : (.methodLink RX8 137 yX3_isLie : Cond) ∈ lw_g := mg (List.mem_of_getElem? (i := 494) rfl) rfl
set_option maxRecDepth 100000 in
theorem wd_495 : (.instanceMethod yX3_isLie : Cond) ∈ lw_g := mg (List.mem_of_getElem? (i := 495) rfl) rfl
set_option maxRecDepth 100000 in
theorem wd_496 : (.selects RX3 yX3_isLie yX3_isLie : Cond) ∈ lw_g := mg (List.mem_of_getElem? (i := 496) rfl) rfl
set_option maxRecDepth 100000 in
theorem wd_497 : (.code yX3_isLie cX3_isLie 2 (some .boolean) : Cond) ∈ lw_g := mg (List.mem_of_getElem? (i := 497) rfl) rfl
set_option maxRecDepth 100000 in
theorem wd_498 : (.methodLink RX8 143 yX2_headsOf : Cond) ∈ lw_g := mg (List.mem_of_getElem? (i := 498) rfl) rfl
set_option maxRecDepth 100000 in
theorem wd_500 : (.instanceMethod yX8_person : Cond) ∈ lw_g := mg (List.mem_of_getElem? (i := 500) rfl) rfl
set_option maxRecDepth 100000 in
theorem wd_501 : (.selects RX8 yX8_person yX8_person : Cond) ∈ lw_g := mg (List.mem_of_getElem? (i := 501) rfl) rfl
set_option maxRecDepth 100000 in
theorem wd_502 : (.code yX8_person cX8_person 3 (some .int) : Cond) ∈ lw_g := mg (List.mem_of_getElem? (i := 502) rfl) rfl
set_option maxRecDepth 100000 in
theorem wd_503 : (.methodLink RX8 147 yX3_hasPerson : Cond) ∈ lw_g := mg (List.mem_of_getElem? (i := 503) rfl) rfl
set_option maxRecDepth 100000 in
theorem wd_504 : (.instanceMethod yX3_hasPerson : Cond) ∈ lw_g := mg (List.mem_of_getElem? (i := 504) rfl) rfl
set_option maxRecDepth 100000 in
theorem wd_505 : (.selects RX3 yX3_hasPerson yX3_hasPerson : Cond) ∈ lw_g := mg (List.mem_of_getElem? (i := 505) rfl) rfl
set_option maxRecDepth 100000 in
theorem wd_506 : (.code yX3_hasPerson cX3_hasPerson 2 (some .boolean) : Cond) ∈ lw_g := mg (List.mem_of_getElem? (i := 506) rfl) rfl
set_option maxRecDepth 100000 in
theorem wd_507 : (.methodLink RX8 156 yX2_factsIn : Cond) ∈ lw_g := mg (List.mem_of_getElem? (i := 507) rfl) rfl
set_option maxRecDepth 100000 in
theorem wd_508 : (.instanceMethod yX2_factsIn : Cond) ∈ lw_g := mg (List.mem_of_getElem? (i := 508) rfl) rfl
set_option maxRecDepth 100000 in
theorem wd_509 : (.selects RX2 yX2_factsIn yX2_factsIn : Cond) ∈ lw_g := mg (List.mem_of_getElem? (i := 509) rfl) rfl
set_option maxRecDepth 100000 in
theorem wd_510 : (.code yX2_factsIn cX2_factsIn 4 (some .int) : Cond) ∈ lw_g := mg (List.mem_of_getElem? (i := 510) rfl) rfl
set_option maxRecDepth 100000 in
theorem wd_511 : (.methodLink RX8 159 yX3_isQuiet : Cond) ∈ lw_g := mg (List.mem_of_getElem? (i := 511) rfl) rfl
set_option maxRecDepth 100000 in
theorem wd_513 : (.instanceMethod yX8_since : Cond) ∈ lw_g := mg (List.mem_of_getElem? (i := 513) rfl) rfl
set_option maxRecDepth 100000 in
theorem wd_514 : (.selects RX8 yX8_since yX8_since : Cond) ∈ lw_g := mg (List.mem_of_getElem? (i := 514) rfl) rfl
set_option maxRecDepth 100000 in
theorem wd_515 : (.code yX8_since cX8_since 3 (some .int) : Cond) ∈ lw_g := mg (List.mem_of_getElem? (i := 515) rfl) rfl
set_option maxRecDepth 100000 in
theorem wd_516 : (.methodLink RX8 162 yX2_knows : Cond) ∈ lw_g := mg (List.mem_of_getElem? (i := 516) rfl) rfl
set_option maxRecDepth 100000 in
theorem wd_517 : (.instanceMethod yX2_knows : Cond) ∈ lw_g := mg (List.mem_of_getElem? (i := 517) rfl) rfl
set_option maxRecDepth 100000 in
theorem wd_518 : (.selects RX2 yX2_knows yX2_knows : Cond) ∈ lw_g := mg (List.mem_of_getElem? (i := 518) rfl) rfl
set_option maxRecDepth 100000 in
theorem wd_519 : (.code yX2_knows cX2_knows 3 (some .boolean) : Cond) ∈ lw_g := mg (List.mem_of_getElem? (i := 519) rfl) rfl
set_option maxRecDepth 100000 in
theorem wd_520 : (.methodLink RX8 166 yX2_heardAt : Cond) ∈ lw_g := mg (List.mem_of_getElem? (i := 520) rfl) rfl
set_option maxRecDepth 100000 in
theorem wd_521 : (.instanceMethod yX2_heardAt : Cond) ∈ lw_g := mg (List.mem_of_getElem? (i := 521) rfl) rfl
set_option maxRecDepth 100000 in
theorem wd_522 : (.selects RX2 yX2_heardAt yX2_heardAt : Cond) ∈ lw_g := mg (List.mem_of_getElem? (i := 522) rfl) rfl
set_option maxRecDepth 100000 in
theorem wd_523 : (.code yX2_heardAt cX2_heardAt 3 (some .int) : Cond) ∈ lw_g := mg (List.mem_of_getElem? (i := 523) rfl) rfl
set_option maxRecDepth 100000 in
theorem wd_525 : (.instanceMethod yX8_weight : Cond) ∈ lw_g := mg (List.mem_of_getElem? (i := 525) rfl) rfl
set_option maxRecDepth 100000 in
theorem wd_526 : (.selects RX8 yX8_weight yX8_weight : Cond) ∈ lw_g := mg (List.mem_of_getElem? (i := 526) rfl) rfl
set_option maxRecDepth 100000 in
theorem wd_527 : (.code yX8_weight cX8_weight 2 (some .int) : Cond) ∈ lw_g := mg (List.mem_of_getElem? (i := 527) rfl) rfl
set_option maxRecDepth 100000 in
theorem wd_528 : (.methodLink RX8 170 yX2_load : Cond) ∈ lw_g := mg (List.mem_of_getElem? (i := 528) rfl) rfl
set_option maxRecDepth 100000 in
theorem wd_529 : (.instanceMethod yX2_load : Cond) ∈ lw_g := mg (List.mem_of_getElem? (i := 529) rfl) rfl
set_option maxRecDepth 100000 in
theorem wd_530 : (.selects RX2 yX2_load yX2_load : Cond) ∈ lw_g := mg (List.mem_of_getElem? (i := 530) rfl) rfl
set_option maxRecDepth 100000 in
theorem wd_531 : (.code yX2_load cX2_load 4 (some .int) : Cond) ∈ lw_g := mg (List.mem_of_getElem? (i := 531) rfl) rfl
set_option maxRecDepth 100000 in
theorem wd_532 : (.methodLink RX2 70 yX2_gramsOf : Cond) ∈ lw_g := mg (List.mem_of_getElem? (i := 532) rfl) rfl
set_option maxRecDepth 100000 in
theorem wd_533 : (.instanceMethod yX2_gramsOf : Cond) ∈ lw_g := mg (List.mem_of_getElem? (i := 533) rfl) rfl
set_option maxRecDepth 100000 in
theorem wd_534 : (.selects RX2 yX2_gramsOf yX2_gramsOf : Cond) ∈ lw_g := mg (List.mem_of_getElem? (i := 534) rfl) rfl
set_option maxRecDepth 100000 in
theorem wd_535 : (.code yX2_gramsOf cX2_gramsOf 5 (some .int) : Cond) ∈ lw_g := mg (List.mem_of_getElem? (i := 535) rfl) rfl
set_option maxRecDepth 100000 in
theorem wd_537 : (.instanceMethod yX8_bridge : Cond) ∈ lw_g := mg (List.mem_of_getElem? (i := 537) rfl) rfl
set_option maxRecDepth 100000 in
theorem wd_538 : (.selects RX8 yX8_bridge yX8_bridge : Cond) ∈ lw_g := mg (List.mem_of_getElem? (i := 538) rfl) rfl
set_option maxRecDepth 100000 in
theorem wd_539 : (.code yX8_bridge cX8_bridge 2 (some .int) : Cond) ∈ lw_g := mg (List.mem_of_getElem? (i := 539) rfl) rfl
set_option maxRecDepth 100000 in
theorem wd_540 : (.methodLink RX8 173 yX3_hasBridge : Cond) ∈ lw_g := mg (List.mem_of_getElem? (i := 540) rfl) rfl
set_option maxRecDepth 100000 in
theorem wd_541 : (.instanceMethod yX3_hasBridge : Cond) ∈ lw_g := mg (List.mem_of_getElem? (i := 541) rfl) rfl
set_option maxRecDepth 100000 in
theorem wd_542 : (.selects RX3 yX3_hasBridge yX3_hasBridge : Cond) ∈ lw_g := mg (List.mem_of_getElem? (i := 542) rfl) rfl
set_option maxRecDepth 100000 in
theorem wd_543 : (.code yX3_hasBridge cX3_hasBridge 2 (some .boolean) : Cond) ∈ lw_g := mg (List.mem_of_getElem? (i := 543) rfl) rfl
set_option maxRecDepth 100000 in
theorem wd_545 : (.instanceMethod yX8_tell : Cond) ∈ lw_g := mg (List.mem_of_getElem? (i := 545) rfl) rfl
set_option maxRecDepth 100000 in
theorem wd_546 : (.selects RX8 yX8_tell yX8_tell : Cond) ∈ lw_g := mg (List.mem_of_getElem? (i := 546) rfl) rfl
set_option maxRecDepth 100000 in
theorem wd_547 : (.code yX8_tell cX8_tell 3 (some .int) : Cond) ∈ lw_g := mg (List.mem_of_getElem? (i := 547) rfl) rfl
set_option maxRecDepth 100000 in
theorem wd_548 : (.constant RX8 179 (-1000000003) : Cond) ∈ lw_g := mg (List.mem_of_getElem? (i := 548) rfl) rfl
set_option maxRecDepth 100000 in
theorem wd_549 : (.methodLink RX8 180 yX2_learn : Cond) ∈ lw_g := mg (List.mem_of_getElem? (i := 549) rfl) rfl
set_option maxRecDepth 100000 in
theorem wd_550 : (.instanceMethod yX2_learn : Cond) ∈ lw_g := mg (List.mem_of_getElem? (i := 550) rfl) rfl
set_option maxRecDepth 100000 in
theorem wd_551 : (.selects RX2 yX2_learn yX2_learn : Cond) ∈ lw_g := mg (List.mem_of_getElem? (i := 551) rfl) rfl
set_option maxRecDepth 100000 in
theorem wd_552 : (.code yX2_learn cX2_learn 3 none : Cond) ∈ lw_g := mg (List.mem_of_getElem? (i := 552) rfl) rfl
set_option maxRecDepth 100000 in
theorem wd_554 : (.instanceMethod yX8_forget : Cond) ∈ lw_g := mg (List.mem_of_getElem? (i := 554) rfl) rfl
set_option maxRecDepth 100000 in
theorem wd_555 : (.selects RX8 yX8_forget yX8_forget : Cond) ∈ lw_g := mg (List.mem_of_getElem? (i := 555) rfl) rfl
set_option maxRecDepth 100000 in
theorem wd_556 : (.code yX8_forget cX8_forget 3 (some .int) : Cond) ∈ lw_g := mg (List.mem_of_getElem? (i := 556) rfl) rfl
set_option maxRecDepth 100000 in
theorem wd_557 : (.methodLink RX8 184 yX2_lose : Cond) ∈ lw_g := mg (List.mem_of_getElem? (i := 557) rfl) rfl
set_option maxRecDepth 100000 in
theorem wd_558 : (.instanceMethod yX2_lose : Cond) ∈ lw_g := mg (List.mem_of_getElem? (i := 558) rfl) rfl
set_option maxRecDepth 100000 in
theorem wd_559 : (.selects RX2 yX2_lose yX2_lose : Cond) ∈ lw_g := mg (List.mem_of_getElem? (i := 559) rfl) rfl
set_option maxRecDepth 100000 in
theorem wd_560 : (.code yX2_lose cX2_lose 3 none : Cond) ∈ lw_g := mg (List.mem_of_getElem? (i := 560) rfl) rfl
set_option maxRecDepth 100000 in
theorem wd_562 : (.instanceMethod yX8_hour : Cond) ∈ lw_g := mg (List.mem_of_getElem? (i := 562) rfl) rfl
set_option maxRecDepth 100000 in
theorem wd_563 : (.selects RX8 yX8_hour yX8_hour : Cond) ∈ lw_g := mg (List.mem_of_getElem? (i := 563) rfl) rfl
set_option maxRecDepth 100000 in
theorem wd_564 : (.code yX8_hour cX8_hour 4 (some .int) : Cond) ∈ lw_g := mg (List.mem_of_getElem? (i := 564) rfl) rfl
set_option maxRecDepth 100000 in
theorem wd_565 : (.methodLink RX8 187 yX8_refusalOfHours : Cond) ∈ lw_g := mg (List.mem_of_getElem? (i := 565) rfl) rfl
set_option maxRecDepth 100000 in
theorem wd_567 : (.instanceMethod yX8_refusalOfHours : Cond) ∈ lw_g := mg (List.mem_of_getElem? (i := 567) rfl) rfl
set_option maxRecDepth 100000 in
theorem wd_568 : (.code yX8_refusalOfHours cX8_refusalOfHours 2 (some .int) : Cond) ∈ lw_g := mg (List.mem_of_getElem? (i := 568) rfl) rfl
set_option maxRecDepth 100000 in
theorem wd_569 : (.constant RX8 196 (90000) : Cond) ∈ lw_g := mg (List.mem_of_getElem? (i := 569) rfl) rfl
set_option maxRecDepth 100000 in
theorem wd_570 : (.constant RX8 197 (-1000000004) : Cond) ∈ lw_g := mg (List.mem_of_getElem? (i := 570) rfl) rfl
set_option maxRecDepth 100000 in
theorem wd_571 : (.methodLink RX8 190 yX2_passHour : Cond) ∈ lw_g := mg (List.mem_of_getElem? (i := 571) rfl) rfl
set_option maxRecDepth 100000 in
theorem wd_572 : (.instanceMethod yX2_passHour : Cond) ∈ lw_g := mg (List.mem_of_getElem? (i := 572) rfl) rfl
set_option maxRecDepth 100000 in
theorem wd_573 : (.selects RX2 yX2_passHour yX2_passHour : Cond) ∈ lw_g := mg (List.mem_of_getElem? (i := 573) rfl) rfl
set_option maxRecDepth 100000 in
theorem wd_574 : (.code yX2_passHour cX2_passHour 2 none : Cond) ∈ lw_g := mg (List.mem_of_getElem? (i := 574) rfl) rfl
set_option maxRecDepth 100000 in
theorem wd_575 : (.methodLink RX2 79 yX2_forgetOld : Cond) ∈ lw_g := mg (List.mem_of_getElem? (i := 575) rfl) rfl
set_option maxRecDepth 100000 in
theorem wd_577 : (.instanceMethod yX2_forgetOld : Cond) ∈ lw_g := mg (List.mem_of_getElem? (i := 577) rfl) rfl
set_option maxRecDepth 100000 in
theorem wd_578 : (.code yX2_forgetOld cX2_forgetOld 4 none : Cond) ∈ lw_g := mg (List.mem_of_getElem? (i := 578) rfl) rfl
set_option maxRecDepth 100000 in
theorem wd_579 : (.methodLink RX2 89 yX2_knows : Cond) ∈ lw_g := mg (List.mem_of_getElem? (i := 579) rfl) rfl
set_option maxRecDepth 100000 in
theorem wd_580 : (.methodLink RX2 93 yX2_heardAt : Cond) ∈ lw_g := mg (List.mem_of_getElem? (i := 580) rfl) rfl
set_option maxRecDepth 100000 in
theorem wd_581 : (.methodLink RX2 97 yX2_lose : Cond) ∈ lw_g := mg (List.mem_of_getElem? (i := 581) rfl) rfl
set_option maxRecDepth 100000 in
theorem wd_582 : (.methodLink RX2 83 yX2_tellOn : Cond) ∈ lw_g := mg (List.mem_of_getElem? (i := 582) rfl) rfl
set_option maxRecDepth 100000 in
theorem wd_584 : (.instanceMethod yX2_tellOn : Cond) ∈ lw_g := mg (List.mem_of_getElem? (i := 584) rfl) rfl
set_option maxRecDepth 100000 in
theorem wd_585 : (.code yX2_tellOn cX2_tellOn 4 none : Cond) ∈ lw_g := mg (List.mem_of_getElem? (i := 585) rfl) rfl
set_option maxRecDepth 100000 in
theorem wd_586 : (.methodLink RX2 101 yX3_isQuiet : Cond) ∈ lw_g := mg (List.mem_of_getElem? (i := 586) rfl) rfl
set_option maxRecDepth 100000 in
theorem wd_587 : (.methodLink RX2 105 yX2_chat : Cond) ∈ lw_g := mg (List.mem_of_getElem? (i := 587) rfl) rfl
set_option maxRecDepth 100000 in
theorem wd_589 : (.instanceMethod yX2_chat : Cond) ∈ lw_g := mg (List.mem_of_getElem? (i := 589) rfl) rfl
set_option maxRecDepth 100000 in
theorem wd_590 : (.code yX2_chat cX2_chat 5 none : Cond) ∈ lw_g := mg (List.mem_of_getElem? (i := 590) rfl) rfl
set_option maxRecDepth 100000 in
theorem wd_591 : (.methodLink RX2 109 yX2_learn : Cond) ∈ lw_g := mg (List.mem_of_getElem? (i := 591) rfl) rfl
set_option maxRecDepth 100000 in
theorem wd_593 : (.instanceMethod yX8_drift : Cond) ∈ lw_g := mg (List.mem_of_getElem? (i := 593) rfl) rfl
set_option maxRecDepth 100000 in
theorem wd_594 : (.selects RX8 yX8_drift yX8_drift : Cond) ∈ lw_g := mg (List.mem_of_getElem? (i := 594) rfl) rfl
set_option maxRecDepth 100000 in
theorem wd_595 : (.code yX8_drift cX8_drift 4 (some .int) : Cond) ∈ lw_g := mg (List.mem_of_getElem? (i := 595) rfl) rfl
set_option maxRecDepth 100000 in
theorem wd_596 : (.methodLink RX8 193 yX2_changeByDraws : Cond) ∈ lw_g := mg (List.mem_of_getElem? (i := 596) rfl) rfl
set_option maxRecDepth 100000 in
theorem wd_597 : (.instanceMethod yX2_changeByDraws : Cond) ∈ lw_g := mg (List.mem_of_getElem? (i := 597) rfl) rfl
set_option maxRecDepth 100000 in
theorem wd_598 : (.selects RX2 yX2_changeByDraws yX2_changeByDraws : Cond) ∈ lw_g := mg (List.mem_of_getElem? (i := 598) rfl) rfl
set_option maxRecDepth 100000 in
theorem wd_599 : (.code yX2_changeByDraws cX2_changeByDraws 4 none : Cond) ∈ lw_g := mg (List.mem_of_getElem? (i := 599) rfl) rfl
set_option maxRecDepth 100000 in
theorem wd_600 : (.methodLink RX2 115 yX2_drawOf : Cond) ∈ lw_g := mg (List.mem_of_getElem? (i := 600) rfl) rfl
set_option maxRecDepth 100000 in
theorem wd_602 : (.instanceMethod yX2_drawOf : Cond) ∈ lw_g := mg (List.mem_of_getElem? (i := 602) rfl) rfl
set_option maxRecDepth 100000 in
theorem wd_603 : (.code yX2_drawOf cX2_drawOf 2 (some .int) : Cond) ∈ lw_g := mg (List.mem_of_getElem? (i := 603) rfl) rfl
set_option maxRecDepth 100000 in
theorem wd_604 : (.constantLong RX2 118 (1103515245) : Cond) ∈ lw_g := mg (List.mem_of_getElem? (i := 604) rfl) rfl
set_option maxRecDepth 100000 in
theorem wd_605 : (.constantLong RX2 120 (12345) : Cond) ∈ lw_g := mg (List.mem_of_getElem? (i := 605) rfl) rfl
set_option maxRecDepth 100000 in
theorem wd_606 : (.constantLong RX2 122 (2147483647) : Cond) ∈ lw_g := mg (List.mem_of_getElem? (i := 606) rfl) rfl
set_option maxRecDepth 100000 in
theorem wd_607 : (.constant RX2 124 (65536) : Cond) ∈ lw_g := mg (List.mem_of_getElem? (i := 607) rfl) rfl
set_option maxRecDepth 100000 in
theorem wd_609 : (.instanceMethod yX8_heavy : Cond) ∈ lw_g := mg (List.mem_of_getElem? (i := 609) rfl) rfl
set_option maxRecDepth 100000 in
theorem wd_610 : (.selects RX8 yX8_heavy yX8_heavy : Cond) ∈ lw_g := mg (List.mem_of_getElem? (i := 610) rfl) rfl
set_option maxRecDepth 100000 in
theorem wd_611 : (.code yX8_heavy cX8_heavy 4 (some .int) : Cond) ∈ lw_g := mg (List.mem_of_getElem? (i := 611) rfl) rfl
set_option maxRecDepth 100000 in
theorem wd_612 : (.methodLink RX8 198 yX2_copyFrom : Cond) ∈ lw_g := mg (List.mem_of_getElem? (i := 612) rfl) rfl
set_option maxRecDepth 100000 in
theorem wd_613 : (.instanceMethod yX2_copyFrom : Cond) ∈ lw_g := mg (List.mem_of_getElem? (i := 613) rfl) rfl
set_option maxRecDepth 100000 in
theorem wd_614 : (.selects RX2 yX2_copyFrom yX2_copyFrom : Cond) ∈ lw_g := mg (List.mem_of_getElem? (i := 614) rfl) rfl
set_option maxRecDepth 100000 in
theorem wd_615 : (.code yX2_copyFrom cX2_copyFrom 2 none : Cond) ∈ lw_g := mg (List.mem_of_getElem? (i := 615) rfl) rfl
set_option maxRecDepth 100000 in
theorem wd_616 : (.methodLink RX2 42 arraycopyName : Cond) ∈ lw_g := mg (List.mem_of_getElem? (i := 616) rfl) rfl
set_option maxRecDepth 100000 in
theorem wd_617 : (.static arraycopyName : Cond) ∈ lw_g := mg (List.mem_of_getElem? (i := 617) rfl) rfl
set_option maxRecDepth 100000 in
theorem wd_618 : (.native arraycopyName : Cond) ∈ lw_g := mg (List.mem_of_getElem? (i := 618) rfl) rfl
set_option maxRecDepth 100000 in
theorem wd_620 : (.instanceMethod yX8_when : Cond) ∈ lw_g := mg (List.mem_of_getElem? (i := 620) rfl) rfl
set_option maxRecDepth 100000 in
theorem wd_621 : (.selects RX8 yX8_when yX8_when : Cond) ∈ lw_g := mg (List.mem_of_getElem? (i := 621) rfl) rfl
set_option maxRecDepth 100000 in
theorem wd_622 : (.code yX8_when cX8_when 4 (some .int) : Cond) ∈ lw_g := mg (List.mem_of_getElem? (i := 622) rfl) rfl
set_option maxRecDepth 100000 in
theorem wd_624 : (.instanceMethod yX8_least : Cond) ∈ lw_g := mg (List.mem_of_getElem? (i := 624) rfl) rfl
set_option maxRecDepth 100000 in
theorem wd_625 : (.selects RX8 yX8_least yX8_least : Cond) ∈ lw_g := mg (List.mem_of_getElem? (i := 625) rfl) rfl
set_option maxRecDepth 100000 in
theorem wd_626 : (.code yX8_least cX8_least 10 (some .int) : Cond) ∈ lw_g := mg (List.mem_of_getElem? (i := 626) rfl) rfl
set_option maxRecDepth 100000 in
theorem wd_627 : (.methodLink RX8 202 yX3_hasPeople : Cond) ∈ lw_g := mg (List.mem_of_getElem? (i := 627) rfl) rfl
set_option maxRecDepth 100000 in
theorem wd_628 : (.instanceMethod yX3_hasPeople : Cond) ∈ lw_g := mg (List.mem_of_getElem? (i := 628) rfl) rfl
set_option maxRecDepth 100000 in
theorem wd_629 : (.selects RX3 yX3_hasPeople yX3_hasPeople : Cond) ∈ lw_g := mg (List.mem_of_getElem? (i := 629) rfl) rfl
set_option maxRecDepth 100000 in
theorem wd_630 : (.code yX3_hasPeople cX3_hasPeople 2 (some .boolean) : Cond) ∈ lw_g := mg (List.mem_of_getElem? (i := 630) rfl) rfl
set_option maxRecDepth 100000 in
theorem wd_631 : (.methodLink RX3 67 yX3_everybody : Cond) ∈ lw_g := mg (List.mem_of_getElem? (i := 631) rfl) rfl
set_option maxRecDepth 100000 in
theorem wd_632 : (.methodLink RX8 205 yX3_hasFactOrNone : Cond) ∈ lw_g := mg (List.mem_of_getElem? (i := 632) rfl) rfl
set_option maxRecDepth 100000 in
theorem wd_633 : (.instanceMethod yX3_hasFactOrNone : Cond) ∈ lw_g := mg (List.mem_of_getElem? (i := 633) rfl) rfl
set_option maxRecDepth 100000 in
theorem wd_634 : (.selects RX3 yX3_hasFactOrNone yX3_hasFactOrNone : Cond) ∈ lw_g := mg (List.mem_of_getElem? (i := 634) rfl) rfl
set_option maxRecDepth 100000 in
theorem wd_635 : (.code yX3_hasFactOrNone cX3_hasFactOrNone 2 (some .boolean) : Cond) ∈ lw_g := mg (List.mem_of_getElem? (i := 635) rfl) rfl
set_option maxRecDepth 100000 in
theorem wd_636 : (.methodLink RX3 71 yX3_hasFact : Cond) ∈ lw_g := mg (List.mem_of_getElem? (i := 636) rfl) rfl
set_option maxRecDepth 100000 in
theorem wd_637 : (.methodLink RX8 208 yX2_loadOfAll : Cond) ∈ lw_g := mg (List.mem_of_getElem? (i := 637) rfl) rfl
set_option maxRecDepth 100000 in
theorem wd_638 : (.instanceMethod yX2_loadOfAll : Cond) ∈ lw_g := mg (List.mem_of_getElem? (i := 638) rfl) rfl
set_option maxRecDepth 100000 in
theorem wd_639 : (.selects RX2 yX2_loadOfAll yX2_loadOfAll : Cond) ∈ lw_g := mg (List.mem_of_getElem? (i := 639) rfl) rfl
set_option maxRecDepth 100000 in
theorem wd_640 : (.code yX2_loadOfAll cX2_loadOfAll 5 (some .int) : Cond) ∈ lw_g := mg (List.mem_of_getElem? (i := 640) rfl) rfl
set_option maxRecDepth 100000 in
theorem wd_641 : (.methodLink RX2 76 yX2_load : Cond) ∈ lw_g := mg (List.mem_of_getElem? (i := 641) rfl) rfl
set_option maxRecDepth 100000 in
theorem wd_642 : (.methodLink RX8 211 yX8_timesToForget : Cond) ∈ lw_g := mg (List.mem_of_getElem? (i := 642) rfl) rfl
set_option maxRecDepth 100000 in
theorem wd_643 : (.static yX8_timesToForget : Cond) ∈ lw_g := mg (List.mem_of_getElem? (i := 643) rfl) rfl
set_option maxRecDepth 100000 in
theorem wd_644 : (.code yX8_timesToForget cX8_timesToForget 4 (some .int) : Cond) ∈ lw_g := mg (List.mem_of_getElem? (i := 644) rfl) rfl
set_option maxRecDepth 100000 in
theorem wd_646 : (.instanceMethod yX8_trips : Cond) ∈ lw_g := mg (List.mem_of_getElem? (i := 646) rfl) rfl
set_option maxRecDepth 100000 in
theorem wd_647 : (.selects RX8 yX8_trips yX8_trips : Cond) ∈ lw_g := mg (List.mem_of_getElem? (i := 647) rfl) rfl
set_option maxRecDepth 100000 in
theorem wd_648 : (.code yX8_trips cX8_trips 4 (some .int) : Cond) ∈ lw_g := mg (List.mem_of_getElem? (i := 648) rfl) rfl
set_option maxRecDepth 100000 in
theorem wd_649 : (.methodLink RX8 215 yX1_plan : Cond) ∈ lw_g := mg (List.mem_of_getElem? (i := 649) rfl) rfl
set_option maxRecDepth 100000 in
theorem wd_650 : (.instanceMethod yX1_plan : Cond) ∈ lw_g := mg (List.mem_of_getElem? (i := 650) rfl) rfl
set_option maxRecDepth 100000 in
theorem wd_651 : (.selects RX1 yX1_plan yX1_plan : Cond) ∈ lw_g := mg (List.mem_of_getElem? (i := 651) rfl) rfl
set_option maxRecDepth 100000 in
theorem wd_652 : (.code yX1_plan cX1_plan 6 none : Cond) ∈ lw_g := mg (List.mem_of_getElem? (i := 652) rfl) rfl
set_option maxRecDepth 100000 in
theorem wd_653 : (.methodLink RX1 27 yX2_load : Cond) ∈ lw_g := mg (List.mem_of_getElem? (i := 653) rfl) rfl
set_option maxRecDepth 100000 in
theorem wd_654 : (.methodLink RX1 33 yX1_fewestOf : Cond) ∈ lw_g := mg (List.mem_of_getElem? (i := 654) rfl) rfl
set_option maxRecDepth 100000 in
theorem wd_656 : (.instanceMethod yX1_fewestOf : Cond) ∈ lw_g := mg (List.mem_of_getElem? (i := 656) rfl) rfl
set_option maxRecDepth 100000 in
theorem wd_657 : (.code yX1_fewestOf cX1_fewestOf 5 (some .int) : Cond) ∈ lw_g := mg (List.mem_of_getElem? (i := 657) rfl) rfl
set_option maxRecDepth 100000 in
theorem wd_658 : (.methodLink RX8 222 yX1_group : Cond) ∈ lw_g := mg (List.mem_of_getElem? (i := 658) rfl) rfl
set_option maxRecDepth 100000 in
theorem wd_659 : (.instanceMethod yX1_group : Cond) ∈ lw_g := mg (List.mem_of_getElem? (i := 659) rfl) rfl
set_option maxRecDepth 100000 in
theorem wd_660 : (.selects RX1 yX1_group yX1_group : Cond) ∈ lw_g := mg (List.mem_of_getElem? (i := 660) rfl) rfl
set_option maxRecDepth 100000 in
theorem wd_661 : (.code yX1_group cX1_group 6 (some .int) : Cond) ∈ lw_g := mg (List.mem_of_getElem? (i := 661) rfl) rfl
set_option maxRecDepth 100000 in
theorem wd_662 : (.methodLink RX1 37 yX1_firstGroup : Cond) ∈ lw_g := mg (List.mem_of_getElem? (i := 662) rfl) rfl
set_option maxRecDepth 100000 in
theorem wd_664 : (.instanceMethod yX1_firstGroup : Cond) ∈ lw_g := mg (List.mem_of_getElem? (i := 664) rfl) rfl
set_option maxRecDepth 100000 in
theorem wd_665 : (.code yX1_firstGroup cX1_firstGroup 4 (some .int) : Cond) ∈ lw_g := mg (List.mem_of_getElem? (i := 665) rfl) rfl
set_option maxRecDepth 100000 in
theorem wd_667 : (.instanceMethod yX8_counted : Cond) ∈ lw_g := mg (List.mem_of_getElem? (i := 667) rfl) rfl
set_option maxRecDepth 100000 in
theorem wd_668 : (.selects RX8 yX8_counted yX8_counted : Cond) ∈ lw_g := mg (List.mem_of_getElem? (i := 668) rfl) rfl
set_option maxRecDepth 100000 in
theorem wd_669 : (.code yX8_counted cX8_counted 5 (some .int) : Cond) ∈ lw_g := mg (List.mem_of_getElem? (i := 669) rfl) rfl
set_option maxRecDepth 100000 in
theorem wd_670 : (.methodLink RX8 225 yX8_canWeigh : Cond) ∈ lw_g := mg (List.mem_of_getElem? (i := 670) rfl) rfl
set_option maxRecDepth 100000 in
theorem wd_671 : (.static yX8_canWeigh : Cond) ∈ lw_g := mg (List.mem_of_getElem? (i := 671) rfl) rfl
set_option maxRecDepth 100000 in
theorem wd_672 : (.code yX8_canWeigh cX8_canWeigh 1 (some .boolean) : Cond) ∈ lw_g := mg (List.mem_of_getElem? (i := 672) rfl) rfl
set_option maxRecDepth 100000 in
theorem wd_673 : (.methodLink RX8 228 yX7_spread : Cond) ∈ lw_g := mg (List.mem_of_getElem? (i := 673) rfl) rfl
set_option maxRecDepth 100000 in
theorem wd_674 : (.instanceMethod yX7_spread : Cond) ∈ lw_g := mg (List.mem_of_getElem? (i := 674) rfl) rfl
set_option maxRecDepth 100000 in
theorem wd_675 : (.selects RX7 yX7_spread yX7_spread : Cond) ∈ lw_g := mg (List.mem_of_getElem? (i := 675) rfl) rfl
set_option maxRecDepth 100000 in
theorem wd_676 : (.code yX7_spread cX7_spread 5 none : Cond) ∈ lw_g := mg (List.mem_of_getElem? (i := 676) rfl) rfl
set_option maxRecDepth 100000 in
theorem wd_677 : (.methodLink RX7 15 yJ7_fill_53178 : Cond) ∈ lw_g := mg (List.mem_of_getElem? (i := 677) rfl) rfl
set_option maxRecDepth 100000 in
theorem wd_678 : (.methodLink RX7 36 yX3_isLie : Cond) ∈ lw_g := mg (List.mem_of_getElem? (i := 678) rfl) rfl
set_option maxRecDepth 100000 in
theorem wd_679 : (.methodLink RX7 43 yX7_addFact : Cond) ∈ lw_g := mg (List.mem_of_getElem? (i := 679) rfl) rfl
set_option maxRecDepth 100000 in
theorem wd_681 : (.instanceMethod yX7_addFact : Cond) ∈ lw_g := mg (List.mem_of_getElem? (i := 681) rfl) rfl
set_option maxRecDepth 100000 in
theorem wd_682 : (.code yX7_addFact cX7_addFact 6 none : Cond) ∈ lw_g := mg (List.mem_of_getElem? (i := 682) rfl) rfl
set_option maxRecDepth 100000 in
theorem wd_683 : (.methodLink RX7 47 yJ9_min_7cf53 : Cond) ∈ lw_g := mg (List.mem_of_getElem? (i := 683) rfl) rfl
set_option maxRecDepth 100000 in
theorem wd_684 : (.static yJ9_min_7cf53 : Cond) ∈ lw_g := mg (List.mem_of_getElem? (i := 684) rfl) rfl
set_option maxRecDepth 100000 in
theorem wd_685 : (.code yJ9_min_7cf53 cJ9_min_7cf53 2 (some .int) : Cond) ∈ lw_g := mg (List.mem_of_getElem? (i := 685) rfl) rfl
set_option maxRecDepth 100000 in
theorem wd_686 : (.methodLink RX8 232 yX7_countAt : Cond) ∈ lw_g := mg (List.mem_of_getElem? (i := 686) rfl) rfl
set_option maxRecDepth 100000 in
theorem wd_687 : (.instanceMethod yX7_countAt : Cond) ∈ lw_g := mg (List.mem_of_getElem? (i := 687) rfl) rfl
set_option maxRecDepth 100000 in
theorem wd_688 : (.selects RX7 yX7_countAt yX7_countAt : Cond) ∈ lw_g := mg (List.mem_of_getElem? (i := 688) rfl) rfl
set_option maxRecDepth 100000 in
theorem wd_689 : (.code yX7_countAt cX7_countAt 3 (some .int) : Cond) ∈ lw_g := mg (List.mem_of_getElem? (i := 689) rfl) rfl
set_option maxRecDepth 100000 in
theorem wd_690 : (.methodLink RX8 235 yX7_fewestHeads : Cond) ∈ lw_g := mg (List.mem_of_getElem? (i := 690) rfl) rfl
set_option maxRecDepth 100000 in
theorem wd_691 : (.instanceMethod yX7_fewestHeads : Cond) ∈ lw_g := mg (List.mem_of_getElem? (i := 691) rfl) rfl
set_option maxRecDepth 100000 in
theorem wd_692 : (.selects RX7 yX7_fewestHeads yX7_fewestHeads : Cond) ∈ lw_g := mg (List.mem_of_getElem? (i := 692) rfl) rfl
set_option maxRecDepth 100000 in
theorem wd_693 : (.code yX7_fewestHeads cX7_fewestHeads 5 (some .int) : Cond) ∈ lw_g := mg (List.mem_of_getElem? (i := 693) rfl) rfl
set_option maxRecDepth 100000 in
theorem wd_694 : (.methodLink RX7 53 yX3_pull : Cond) ∈ lw_g := mg (List.mem_of_getElem? (i := 694) rfl) rfl
set_option maxRecDepth 100000 in
theorem wd_695 : (.instanceMethod yX3_pull : Cond) ∈ lw_g := mg (List.mem_of_getElem? (i := 695) rfl) rfl
set_option maxRecDepth 100000 in
theorem wd_696 : (.selects RX3 yX3_pull yX3_pull : Cond) ∈ lw_g := mg (List.mem_of_getElem? (i := 696) rfl) rfl
set_option maxRecDepth 100000 in
theorem wd_697 : (.code yX3_pull cX3_pull 2 (some .int) : Cond) ∈ lw_g := mg (List.mem_of_getElem? (i := 697) rfl) rfl
set_option maxRecDepth 100000 in
theorem wd_698 : (.methodLink RX3 75 yX3_isLie : Cond) ∈ lw_g := mg (List.mem_of_getElem? (i := 698) rfl) rfl
set_option maxRecDepth 100000 in
theorem wd_699 : (.methodLink RX7 57 yX7_countAt : Cond) ∈ lw_g := mg (List.mem_of_getElem? (i := 699) rfl) rfl
set_option maxRecDepth 100000 in
theorem wd_700 : (.methodLink RX8 239 yX7_mostHeads : Cond) ∈ lw_g := mg (List.mem_of_getElem? (i := 700) rfl) rfl
set_option maxRecDepth 100000 in
theorem wd_701 : (.instanceMethod yX7_mostHeads : Cond) ∈ lw_g := mg (List.mem_of_getElem? (i := 701) rfl) rfl
set_option maxRecDepth 100000 in
theorem wd_702 : (.selects RX7 yX7_mostHeads yX7_mostHeads : Cond) ∈ lw_g := mg (List.mem_of_getElem? (i := 702) rfl) rfl
set_option maxRecDepth 100000 in
theorem wd_703 : (.code yX7_mostHeads cX7_mostHeads 5 (some .int) : Cond) ∈ lw_g := mg (List.mem_of_getElem? (i := 703) rfl) rfl
set_option maxRecDepth 100000 in
theorem wd_705 : (.instanceMethod yX8_lies : Cond) ∈ lw_g := mg (List.mem_of_getElem? (i := 705) rfl) rfl
set_option maxRecDepth 100000 in
theorem wd_706 : (.selects RX8 yX8_lies yX8_lies : Cond) ∈ lw_g := mg (List.mem_of_getElem? (i := 706) rfl) rfl
set_option maxRecDepth 100000 in
theorem wd_707 : (.code yX8_lies cX8_lies 10 (some .int) : Cond) ∈ lw_g := mg (List.mem_of_getElem? (i := 707) rfl) rfl
set_option maxRecDepth 100000 in
theorem wd_708 : (.methodLink RX8 242 yX2_gramsOf : Cond) ∈ lw_g := mg (List.mem_of_getElem? (i := 708) rfl) rfl
set_option maxRecDepth 100000 in
theorem wd_710 : (.instanceMethod yX8_apart : Cond) ∈ lw_g := mg (List.mem_of_getElem? (i := 710) rfl) rfl
set_option maxRecDepth 100000 in
theorem wd_711 : (.selects RX8 yX8_apart yX8_apart : Cond) ∈ lw_g := mg (List.mem_of_getElem? (i := 711) rfl) rfl
set_option maxRecDepth 100000 in
theorem wd_712 : (.code yX8_apart cX8_apart 5 (some .int) : Cond) ∈ lw_g := mg (List.mem_of_getElem? (i := 712) rfl) rfl
set_option maxRecDepth 100000 in
theorem wd_713 : (.methodLink RX8 245 yX8_fewestToBreak : Cond) ∈ lw_g := mg (List.mem_of_getElem? (i := 713) rfl) rfl
set_option maxRecDepth 100000 in
theorem wd_715 : (.instanceMethod yX8_fewestToBreak : Cond) ∈ lw_g := mg (List.mem_of_getElem? (i := 715) rfl) rfl
set_option maxRecDepth 100000 in
theorem wd_716 : (.code yX8_fewestToBreak cX8_fewestToBreak 7 (some .int) : Cond) ∈ lw_g := mg (List.mem_of_getElem? (i := 716) rfl) rfl
set_option maxRecDepth 100000 in
theorem wd_717 : (.methodLink RX8 253 yX3_waysOut : Cond) ∈ lw_g := mg (List.mem_of_getElem? (i := 717) rfl) rfl
set_option maxRecDepth 100000 in
theorem wd_718 : (.instanceMethod yX3_waysOut : Cond) ∈ lw_g := mg (List.mem_of_getElem? (i := 718) rfl) rfl
set_option maxRecDepth 100000 in
theorem wd_719 : (.selects RX3 yX3_waysOut yX3_waysOut : Cond) ∈ lw_g := mg (List.mem_of_getElem? (i := 719) rfl) rfl
set_option maxRecDepth 100000 in
theorem wd_720 : (.code yX3_waysOut cX3_waysOut 9 (some .int) : Cond) ∈ lw_g := mg (List.mem_of_getElem? (i := 720) rfl) rfl
set_option maxRecDepth 100000 in
theorem wd_721 : (.methodLink RX8 248 yJ6_bitCount_0f7a4 : Cond) ∈ lw_g := mg (List.mem_of_getElem? (i := 721) rfl) rfl
set_option maxRecDepth 100000 in
theorem wd_723 : (.instanceMethod yX8_treaty : Cond) ∈ lw_g := mg (List.mem_of_getElem? (i := 723) rfl) rfl
set_option maxRecDepth 100000 in
theorem wd_724 : (.selects RX8 yX8_treaty yX8_treaty : Cond) ∈ lw_g := mg (List.mem_of_getElem? (i := 724) rfl) rfl
set_option maxRecDepth 100000 in
theorem wd_725 : (.code yX8_treaty cX8_treaty 5 (some .int) : Cond) ∈ lw_g := mg (List.mem_of_getElem? (i := 725) rfl) rfl
set_option maxRecDepth 100000 in
theorem wd_726 : (.methodLink RX8 256 yX8_factsToForget : Cond) ∈ lw_g := mg (List.mem_of_getElem? (i := 726) rfl) rfl
set_option maxRecDepth 100000 in
theorem wd_728 : (.instanceMethod yX8_factsToForget : Cond) ∈ lw_g := mg (List.mem_of_getElem? (i := 728) rfl) rfl
set_option maxRecDepth 100000 in
theorem wd_729 : (.code yX8_factsToForget cX8_factsToForget 3 (some .int) : Cond) ∈ lw_g := mg (List.mem_of_getElem? (i := 729) rfl) rfl
set_option maxRecDepth 100000 in
theorem wd_730 : (.methodLink RX8 259 yX5_agree : Cond) ∈ lw_g := mg (List.mem_of_getElem? (i := 730) rfl) rfl
set_option maxRecDepth 100000 in
theorem wd_731 : (.instanceMethod yX5_agree : Cond) ∈ lw_g := mg (List.mem_of_getElem? (i := 731) rfl) rfl
set_option maxRecDepth 100000 in
theorem wd_732 : (.selects RX5 yX5_agree yX5_agree : Cond) ∈ lw_g := mg (List.mem_of_getElem? (i := 732) rfl) rfl
set_option maxRecDepth 100000 in
theorem wd_733 : (.code yX5_agree cX5_agree 5 (some .int) : Cond) ∈ lw_g := mg (List.mem_of_getElem? (i := 733) rfl) rfl
set_option maxRecDepth 100000 in
theorem wd_734 : (.methodLink RX5 18 yX5_findParts : Cond) ∈ lw_g := mg (List.mem_of_getElem? (i := 734) rfl) rfl
set_option maxRecDepth 100000 in
theorem wd_735 : (.static yX5_findParts : Cond) ∈ lw_g := mg (List.mem_of_getElem? (i := 735) rfl) rfl
set_option maxRecDepth 100000 in
theorem wd_736 : (.code yX5_findParts cX5_findParts 5 none : Cond) ∈ lw_g := mg (List.mem_of_getElem? (i := 736) rfl) rfl
set_option maxRecDepth 100000 in
theorem wd_737 : (.methodLink RX5 22 yJ7_fill_53178 : Cond) ∈ lw_g := mg (List.mem_of_getElem? (i := 737) rfl) rfl
set_option maxRecDepth 100000 in
theorem wd_738 : (.methodLink RX5 28 yX5_gramsAHead : Cond) ∈ lw_g := mg (List.mem_of_getElem? (i := 738) rfl) rfl
set_option maxRecDepth 100000 in
theorem wd_739 : (.static yX5_gramsAHead : Cond) ∈ lw_g := mg (List.mem_of_getElem? (i := 739) rfl) rfl
set_option maxRecDepth 100000 in
theorem wd_740 : (.code yX5_gramsAHead cX5_gramsAHead 4 (some .int) : Cond) ∈ lw_g := mg (List.mem_of_getElem? (i := 740) rfl) rfl
set_option maxRecDepth 100000 in
theorem wd_741 : (.methodLink RX5 41 yJ9_min_7cf53 : Cond) ∈ lw_g := mg (List.mem_of_getElem? (i := 741) rfl) rfl
set_option maxRecDepth 100000 in
theorem wd_743 : (.instanceMethod yX8_odds : Cond) ∈ lw_g := mg (List.mem_of_getElem? (i := 743) rfl) rfl
set_option maxRecDepth 100000 in
theorem wd_744 : (.selects RX8 yX8_odds yX8_odds : Cond) ∈ lw_g := mg (List.mem_of_getElem? (i := 744) rfl) rfl
set_option maxRecDepth 100000 in
theorem wd_745 : (.code yX8_odds cX8_odds 4 (some .int) : Cond) ∈ lw_g := mg (List.mem_of_getElem? (i := 745) rfl) rfl
set_option maxRecDepth 100000 in
theorem wd_746 : (.methodLink RX8 271 yX0_spread : Cond) ∈ lw_g := mg (List.mem_of_getElem? (i := 746) rfl) rfl
set_option maxRecDepth 100000 in
theorem wd_747 : (.instanceMethod yX0_spread : Cond) ∈ lw_g := mg (List.mem_of_getElem? (i := 747) rfl) rfl
set_option maxRecDepth 100000 in
theorem wd_748 : (.selects RX0 yX0_spread yX0_spread : Cond) ∈ lw_g := mg (List.mem_of_getElem? (i := 748) rfl) rfl
set_option maxRecDepth 100000 in
theorem wd_749 : (.code yX0_spread cX0_spread 9 none : Cond) ∈ lw_g := mg (List.mem_of_getElem? (i := 749) rfl) rfl
set_option maxRecDepth 100000 in
theorem wd_750 : (.methodLink RX0 24 yX2_gramsOf : Cond) ∈ lw_g := mg (List.mem_of_getElem? (i := 750) rfl) rfl
set_option maxRecDepth 100000 in
theorem wd_751 : (.methodLink RX0 33 yJ9_min_7cf53 : Cond) ∈ lw_g := mg (List.mem_of_getElem? (i := 751) rfl) rfl
set_option maxRecDepth 100000 in
theorem wd_752 : (.methodLink RX0 45 yJ7_fill_53178 : Cond) ∈ lw_g := mg (List.mem_of_getElem? (i := 752) rfl) rfl
set_option maxRecDepth 100000 in
theorem wd_753 : (.constant RX0 51 (1000000000) : Cond) ∈ lw_g := mg (List.mem_of_getElem? (i := 753) rfl) rfl
set_option maxRecDepth 100000 in
theorem wd_754 : (.methodLink RX0 58 yX2_headsOf : Cond) ∈ lw_g := mg (List.mem_of_getElem? (i := 754) rfl) rfl
set_option maxRecDepth 100000 in
theorem wd_755 : (.methodLink RX0 61 yX3_pull : Cond) ∈ lw_g := mg (List.mem_of_getElem? (i := 755) rfl) rfl
set_option maxRecDepth 100000 in
theorem wd_756 : (.methodLink RX0 65 yX0_headForgets : Cond) ∈ lw_g := mg (List.mem_of_getElem? (i := 756) rfl) rfl
set_option maxRecDepth 100000 in
theorem wd_758 : (.instanceMethod yX0_headForgets : Cond) ∈ lw_g := mg (List.mem_of_getElem? (i := 758) rfl) rfl
set_option maxRecDepth 100000 in
theorem wd_759 : (.code yX0_headForgets cX0_headForgets 4 none : Cond) ∈ lw_g := mg (List.mem_of_getElem? (i := 759) rfl) rfl
set_option maxRecDepth 100000 in
theorem wd_760 : (.methodLink RX0 69 yX0_move : Cond) ∈ lw_g := mg (List.mem_of_getElem? (i := 760) rfl) rfl
set_option maxRecDepth 100000 in
theorem wd_762 : (.instanceMethod yX0_move : Cond) ∈ lw_g := mg (List.mem_of_getElem? (i := 762) rfl) rfl
set_option maxRecDepth 100000 in
theorem wd_763 : (.code yX0_move cX0_move 5 none : Cond) ∈ lw_g := mg (List.mem_of_getElem? (i := 763) rfl) rfl
set_option maxRecDepth 100000 in
theorem wd_764 : (.constantLong RX0 76 (100) : Cond) ∈ lw_g := mg (List.mem_of_getElem? (i := 764) rfl) rfl
set_option maxRecDepth 100000 in
theorem wd_765 : (.methodLink RX0 73 yJ9_max_7cf53 : Cond) ∈ lw_g := mg (List.mem_of_getElem? (i := 765) rfl) rfl
set_option maxRecDepth 100000 in
theorem wd_766 : (.static yJ9_max_7cf53 : Cond) ∈ lw_g := mg (List.mem_of_getElem? (i := 766) rfl) rfl
set_option maxRecDepth 100000 in
theorem wd_767 : (.code yJ9_max_7cf53 cJ9_max_7cf53 2 (some .int) : Cond) ∈ lw_g := mg (List.mem_of_getElem? (i := 767) rfl) rfl
set_option maxRecDepth 100000 in
theorem wd_768 : (.methodLink RX8 273 yX0_upTo : Cond) ∈ lw_g := mg (List.mem_of_getElem? (i := 768) rfl) rfl
set_option maxRecDepth 100000 in
theorem wd_769 : (.instanceMethod yX0_upTo : Cond) ∈ lw_g := mg (List.mem_of_getElem? (i := 769) rfl) rfl
set_option maxRecDepth 100000 in
theorem wd_770 : (.selects RX0 yX0_upTo yX0_upTo : Cond) ∈ lw_g := mg (List.mem_of_getElem? (i := 770) rfl) rfl
set_option maxRecDepth 100000 in
theorem wd_771 : (.code yX0_upTo cX0_upTo 4 (some .int) : Cond) ∈ lw_g := mg (List.mem_of_getElem? (i := 771) rfl) rfl
set_option maxRecDepth 100000 in
theorem wd_773 : (.instanceMethod yX8_write : Cond) ∈ lw_g := mg (List.mem_of_getElem? (i := 773) rfl) rfl
set_option maxRecDepth 100000 in
theorem wd_774 : (.selects RX8 yX8_write yX8_write : Cond) ∈ lw_g := mg (List.mem_of_getElem? (i := 774) rfl) rfl
set_option maxRecDepth 100000 in
theorem wd_775 : (.code yX8_write cX8_write 3 (some .int) : Cond) ∈ lw_g := mg (List.mem_of_getElem? (i := 775) rfl) rfl
set_option maxRecDepth 100000 in
theorem wd_776 : (.methodLink RX8 276 yX6_add : Cond) ∈ lw_g := mg (List.mem_of_getElem? (i := 776) rfl) rfl
set_option maxRecDepth 100000 in
theorem wd_777 : (.instanceMethod yX6_add : Cond) ∈ lw_g := mg (List.mem_of_getElem? (i := 777) rfl) rfl
set_option maxRecDepth 100000 in
theorem wd_778 : (.selects RX6 yX6_add yX6_add : Cond) ∈ lw_g := mg (List.mem_of_getElem? (i := 778) rfl) rfl
set_option maxRecDepth 100000 in
theorem wd_779 : (.code yX6_add cX6_add 3 (some .int) : Cond) ∈ lw_g := mg (List.mem_of_getElem? (i := 779) rfl) rfl
set_option maxRecDepth 100000 in
theorem wd_780 : (.constant RX6 22 (-1000000004) : Cond) ∈ lw_g := mg (List.mem_of_getElem? (i := 780) rfl) rfl
set_option maxRecDepth 100000 in
theorem wd_782 : (.instanceMethod yX8_tear : Cond) ∈ lw_g := mg (List.mem_of_getElem? (i := 782) rfl) rfl
set_option maxRecDepth 100000 in
theorem wd_783 : (.selects RX8 yX8_tear yX8_tear : Cond) ∈ lw_g := mg (List.mem_of_getElem? (i := 783) rfl) rfl
set_option maxRecDepth 100000 in
theorem wd_784 : (.code yX8_tear cX8_tear 2 (some .int) : Cond) ∈ lw_g := mg (List.mem_of_getElem? (i := 784) rfl) rfl
set_option maxRecDepth 100000 in
theorem wd_786 : (.instanceMethod yX8_judge : Cond) ∈ lw_g := mg (List.mem_of_getElem? (i := 786) rfl) rfl
set_option maxRecDepth 100000 in
theorem wd_787 : (.selects RX8 yX8_judge yX8_judge : Cond) ∈ lw_g := mg (List.mem_of_getElem? (i := 787) rfl) rfl
set_option maxRecDepth 100000 in
theorem wd_788 : (.code yX8_judge cX8_judge 1 (some .int) : Cond) ∈ lw_g := mg (List.mem_of_getElem? (i := 788) rfl) rfl
set_option maxRecDepth 100000 in
theorem wd_789 : (.methodLink RX8 278 yX6_firstWrong : Cond) ∈ lw_g := mg (List.mem_of_getElem? (i := 789) rfl) rfl
set_option maxRecDepth 100000 in
theorem wd_790 : (.instanceMethod yX6_firstWrong : Cond) ∈ lw_g := mg (List.mem_of_getElem? (i := 790) rfl) rfl
set_option maxRecDepth 100000 in
theorem wd_791 : (.selects RX6 yX6_firstWrong yX6_firstWrong : Cond) ∈ lw_g := mg (List.mem_of_getElem? (i := 791) rfl) rfl
set_option maxRecDepth 100000 in
theorem wd_792 : (.code yX6_firstWrong cX6_firstWrong 4 (some .int) : Cond) ∈ lw_g := mg (List.mem_of_getElem? (i := 792) rfl) rfl
set_option maxRecDepth 100000 in
theorem wd_793 : (.methodLink RX6 23 yX2_load : Cond) ∈ lw_g := mg (List.mem_of_getElem? (i := 793) rfl) rfl
set_option maxRecDepth 100000 in
theorem wd_795 : (.instanceMethod yX8_seed : Cond) ∈ lw_g := mg (List.mem_of_getElem? (i := 795) rfl) rfl
set_option maxRecDepth 100000 in
theorem wd_796 : (.selects RX8 yX8_seed yX8_seed : Cond) ∈ lw_g := mg (List.mem_of_getElem? (i := 796) rfl) rfl
set_option maxRecDepth 100000 in
theorem wd_797 : (.code yX8_seed cX8_seed 3 (some .int) : Cond) ∈ lw_g := mg (List.mem_of_getElem? (i := 797) rfl) rfl
set_option maxRecDepth 100000 in
theorem wd_799 : (.instanceMethod yX8_keep : Cond) ∈ lw_g := mg (List.mem_of_getElem? (i := 799) rfl) rfl
set_option maxRecDepth 100000 in
theorem wd_800 : (.selects RX8 yX8_keep yX8_keep : Cond) ∈ lw_g := mg (List.mem_of_getElem? (i := 800) rfl) rfl
set_option maxRecDepth 100000 in
theorem wd_801 : (.code yX8_keep cX8_keep 2 (some .int) : Cond) ∈ lw_g := mg (List.mem_of_getElem? (i := 801) rfl) rfl
set_option maxRecDepth 100000 in
theorem wd_803 : (.instanceMethod yX8_goBack : Cond) ∈ lw_g := mg (List.mem_of_getElem? (i := 803) rfl) rfl
set_option maxRecDepth 100000 in
theorem wd_804 : (.selects RX8 yX8_goBack yX8_goBack : Cond) ∈ lw_g := mg (List.mem_of_getElem? (i := 804) rfl) rfl
set_option maxRecDepth 100000 in
theorem wd_805 : (.code yX8_goBack cX8_goBack 2 (some .int) : Cond) ∈ lw_g := mg (List.mem_of_getElem? (i := 805) rfl) rfl
set_option maxRecDepth 100000 in
theorem wd_812 : (.methodLink RX9 70 yX9_begin : Cond) ∈ lw_g := mg (List.mem_of_getElem? (i := 812) rfl) rfl
set_option maxRecDepth 100000 in
theorem wd_814 : (.instanceMethod yX9_begin : Cond) ∈ lw_g := mg (List.mem_of_getElem? (i := 814) rfl) rfl
set_option maxRecDepth 100000 in
theorem wd_815 : (.code yX9_begin cX9_begin 2 none : Cond) ∈ lw_g := mg (List.mem_of_getElem? (i := 815) rfl) rfl
set_option maxRecDepth 100000 in
theorem wd_816 : (.fieldLink RX9 90 RX9 "letters" "I" : Cond) ∈ lw_g := mg (List.mem_of_getElem? (i := 816) rfl) rfl
set_option maxRecDepth 100000 in
theorem wd_817 : (.fieldLink RX9 7 RX9 "text" "[I" : Cond) ∈ lw_g := mg (List.mem_of_getElem? (i := 817) rfl) rfl
set_option maxRecDepth 100000 in
theorem wd_818 : (.fieldLink RX9 94 RX9 "position" "I" : Cond) ∈ lw_g := mg (List.mem_of_getElem? (i := 818) rfl) rfl
set_option maxRecDepth 100000 in
theorem wd_819 : (.fieldLink RX9 97 RX9 "tokenAt" "I" : Cond) ∈ lw_g := mg (List.mem_of_getElem? (i := 819) rfl) rfl
set_option maxRecDepth 100000 in
theorem wd_820 : (.fieldLink RX9 103 RX9 "token" "I" : Cond) ∈ lw_g := mg (List.mem_of_getElem? (i := 820) rfl) rfl
set_option maxRecDepth 100000 in
theorem wd_821 : (.fieldLink RX9 100 RX9 "number" "I" : Cond) ∈ lw_g := mg (List.mem_of_getElem? (i := 821) rfl) rfl
set_option maxRecDepth 100000 in
theorem wd_822 : (.fieldLink RX9 13 RX9 "faultAt" "I" : Cond) ∈ lw_g := mg (List.mem_of_getElem? (i := 822) rfl) rfl
set_option maxRecDepth 100000 in
theorem wd_823 : (.fieldLink RX9 106 RX9 "faultIs" "I" : Cond) ∈ lw_g := mg (List.mem_of_getElem? (i := 823) rfl) rfl
set_option maxRecDepth 100000 in
theorem wd_824 : (.fieldLink RX9 116 RX9 "readMany" "I" : Cond) ∈ lw_g := mg (List.mem_of_getElem? (i := 824) rfl) rfl
set_option maxRecDepth 100000 in
theorem wd_825 : (.fieldLink RX9 127 RX9 "readFacts" "I" : Cond) ∈ lw_g := mg (List.mem_of_getElem? (i := 825) rfl) rfl
set_option maxRecDepth 100000 in
theorem wd_826 : (.fieldLink RX9 17 RX9 "readFact" "[I" : Cond) ∈ lw_g := mg (List.mem_of_getElem? (i := 826) rfl) rfl
set_option maxRecDepth 100000 in
theorem wd_827 : (.fieldLink RX9 130 RX9 "readPairs" "I" : Cond) ∈ lw_g := mg (List.mem_of_getElem? (i := 827) rfl) rfl
set_option maxRecDepth 100000 in
theorem wd_828 : (.fieldLink RX9 20 RX9 "readPair" "[I" : Cond) ∈ lw_g := mg (List.mem_of_getElem? (i := 828) rfl) rfl
set_option maxRecDepth 100000 in
theorem wd_829 : (.fieldLink RX9 133 RX9 "readQuiet" "I" : Cond) ∈ lw_g := mg (List.mem_of_getElem? (i := 829) rfl) rfl
set_option maxRecDepth 100000 in
theorem wd_830 : (.fieldLink RX9 139 RX9 "readBridges" "I" : Cond) ∈ lw_g := mg (List.mem_of_getElem? (i := 830) rfl) rfl
set_option maxRecDepth 100000 in
theorem wd_831 : (.fieldLink RX9 23 RX9 "readBridge" "[I" : Cond) ∈ lw_g := mg (List.mem_of_getElem? (i := 831) rfl) rfl
set_option maxRecDepth 100000 in
theorem wd_832 : (.fieldLink RX9 142 RX9 "readHours" "I" : Cond) ∈ lw_g := mg (List.mem_of_getElem? (i := 832) rfl) rfl
set_option maxRecDepth 100000 in
theorem wd_833 : (.fieldLink RX9 76 RX9 "many" "I" : Cond) ∈ lw_g := mg (List.mem_of_getElem? (i := 833) rfl) rfl
set_option maxRecDepth 100000 in
theorem wd_834 : (.fieldLink RX9 83 RX9 "facts" "I" : Cond) ∈ lw_g := mg (List.mem_of_getElem? (i := 834) rfl) rfl
set_option maxRecDepth 100000 in
theorem wd_835 : (.fieldLink RX9 26 RX9 "fact" "[I" : Cond) ∈ lw_g := mg (List.mem_of_getElem? (i := 835) rfl) rfl
set_option maxRecDepth 100000 in
theorem wd_836 : (.fieldLink RX9 169 RX9 "pairs" "I" : Cond) ∈ lw_g := mg (List.mem_of_getElem? (i := 836) rfl) rfl
set_option maxRecDepth 100000 in
theorem wd_837 : (.fieldLink RX9 29 RX9 "pair" "[I" : Cond) ∈ lw_g := mg (List.mem_of_getElem? (i := 837) rfl) rfl
set_option maxRecDepth 100000 in
theorem wd_838 : (.fieldLink RX9 172 RX9 "quiet" "I" : Cond) ∈ lw_g := mg (List.mem_of_getElem? (i := 838) rfl) rfl
set_option maxRecDepth 100000 in
theorem wd_839 : (.fieldLink RX9 86 RX9 "bridges" "I" : Cond) ∈ lw_g := mg (List.mem_of_getElem? (i := 839) rfl) rfl
set_option maxRecDepth 100000 in
theorem wd_840 : (.fieldLink RX9 32 RX9 "bridge" "[I" : Cond) ∈ lw_g := mg (List.mem_of_getElem? (i := 840) rfl) rfl
set_option maxRecDepth 100000 in
theorem wd_841 : (.fieldLink RX9 175 RX9 "forgets" "I" : Cond) ∈ lw_g := mg (List.mem_of_getElem? (i := 841) rfl) rfl
set_option maxRecDepth 100000 in
theorem wd_842 : (.fieldLink RX9 35 RX9 "now" "[I" : Cond) ∈ lw_g := mg (List.mem_of_getElem? (i := 842) rfl) rfl
set_option maxRecDepth 100000 in
theorem wd_843 : (.fieldLink RX9 38 RX9 "tried" "[I" : Cond) ∈ lw_g := mg (List.mem_of_getElem? (i := 843) rfl) rfl
set_option maxRecDepth 100000 in
theorem wd_844 : (.fieldLink RX9 41 RX9 "was" "[I" : Cond) ∈ lw_g := mg (List.mem_of_getElem? (i := 844) rfl) rfl
set_option maxRecDepth 100000 in
theorem wd_845 : (.fieldLink RX9 44 RX9 "image" "[I" : Cond) ∈ lw_g := mg (List.mem_of_getElem? (i := 845) rfl) rfl
set_option maxRecDepth 100000 in
theorem wd_846 : (.fieldLink RX9 47 RX9 "isKept" "[Z" : Cond) ∈ lw_g := mg (List.mem_of_getElem? (i := 846) rfl) rfl
set_option maxRecDepth 100000 in
theorem wd_847 : (.fieldLink RX9 73 RX9 "lines" "I" : Cond) ∈ lw_g := mg (List.mem_of_getElem? (i := 847) rfl) rfl
set_option maxRecDepth 100000 in
theorem wd_848 : (.fieldLink RX9 51 RX9 "line" "[I" : Cond) ∈ lw_g := mg (List.mem_of_getElem? (i := 848) rfl) rfl
set_option maxRecDepth 100000 in
theorem wd_849 : (.fieldLink RX9 54 RX9 "often" "[I" : Cond) ∈ lw_g := mg (List.mem_of_getElem? (i := 849) rfl) rfl
set_option maxRecDepth 100000 in
theorem wd_850 : (.fieldLink RX9 57 RX9 "best" "[I" : Cond) ∈ lw_g := mg (List.mem_of_getElem? (i := 850) rfl) rfl
set_option maxRecDepth 100000 in
theorem wd_851 : (.fieldLink RX9 60 RX9 "row" "[J" : Cond) ∈ lw_g := mg (List.mem_of_getElem? (i := 851) rfl) rfl
set_option maxRecDepth 100000 in
theorem wd_852 : (.fieldLink RX9 64 RX9 "next" "[J" : Cond) ∈ lw_g := mg (List.mem_of_getElem? (i := 852) rfl) rfl
set_option maxRecDepth 100000 in
theorem wd_853 : (.fieldLink RX9 67 RX9 "weights" "[I" : Cond) ∈ lw_g := mg (List.mem_of_getElem? (i := 853) rfl) rfl
set_option maxRecDepth 100000 in
theorem wd_934 : (.instanceMethod yX9_feed : Cond) ∈ lw_g := mg (List.mem_of_getElem? (i := 934) rfl) rfl
set_option maxRecDepth 100000 in
theorem wd_935 : (.selects RX9 yX9_feed yX9_feed : Cond) ∈ lw_g := mg (List.mem_of_getElem? (i := 935) rfl) rfl
set_option maxRecDepth 100000 in
theorem wd_936 : (.code yX9_feed cX9_feed 2 (some .int) : Cond) ∈ lw_g := mg (List.mem_of_getElem? (i := 936) rfl) rfl
set_option maxRecDepth 100000 in
theorem wd_937 : (.methodLink RX9 79 yX9_in : Cond) ∈ lw_g := mg (List.mem_of_getElem? (i := 937) rfl) rfl
set_option maxRecDepth 100000 in
theorem wd_938 : (.static yX9_in : Cond) ∈ lw_g := mg (List.mem_of_getElem? (i := 938) rfl) rfl
set_option maxRecDepth 100000 in
theorem wd_939 : (.code yX9_in cX9_in 3 (some .boolean) : Cond) ∈ lw_g := mg (List.mem_of_getElem? (i := 939) rfl) rfl
set_option maxRecDepth 100000 in
theorem wd_940 : (.constant RX9 89 (-1000000002) : Cond) ∈ lw_g := mg (List.mem_of_getElem? (i := 940) rfl) rfl
set_option maxRecDepth 100000 in
theorem wd_941 : (.constant RX9 93 (-1000000004) : Cond) ∈ lw_g := mg (List.mem_of_getElem? (i := 941) rfl) rfl
set_option maxRecDepth 100000 in
theorem wd_943 : (.instanceMethod yX9_land : Cond) ∈ lw_g := mg (List.mem_of_getElem? (i := 943) rfl) rfl
set_option maxRecDepth 100000 in
theorem wd_944 : (.selects RX9 yX9_land yX9_land : Cond) ∈ lw_g := mg (List.mem_of_getElem? (i := 944) rfl) rfl
set_option maxRecDepth 100000 in
theorem wd_945 : (.code yX9_land cX9_land 4 (some .int) : Cond) ∈ lw_g := mg (List.mem_of_getElem? (i := 945) rfl) rfl
set_option maxRecDepth 100000 in
theorem wd_946 : (.methodLink RX9 166 yX9_isRead : Cond) ∈ lw_g := mg (List.mem_of_getElem? (i := 946) rfl) rfl
set_option maxRecDepth 100000 in
theorem wd_948 : (.instanceMethod yX9_isRead : Cond) ∈ lw_g := mg (List.mem_of_getElem? (i := 948) rfl) rfl
set_option maxRecDepth 100000 in
theorem wd_949 : (.code yX9_isRead cX9_isRead 2 (some .boolean) : Cond) ∈ lw_g := mg (List.mem_of_getElem? (i := 949) rfl) rfl
set_option maxRecDepth 100000 in
theorem wd_950 : (.methodLink RX9 109 yX9_nextToken : Cond) ∈ lw_g := mg (List.mem_of_getElem? (i := 950) rfl) rfl
set_option maxRecDepth 100000 in
theorem wd_952 : (.instanceMethod yX9_nextToken : Cond) ∈ lw_g := mg (List.mem_of_getElem? (i := 952) rfl) rfl
set_option maxRecDepth 100000 in
theorem wd_953 : (.code yX9_nextToken cX9_nextToken 1 none : Cond) ∈ lw_g := mg (List.mem_of_getElem? (i := 953) rfl) rfl
set_option maxRecDepth 100000 in
theorem wd_954 : (.methodLink RX9 145 yX9_isPeopleLine : Cond) ∈ lw_g := mg (List.mem_of_getElem? (i := 954) rfl) rfl
set_option maxRecDepth 100000 in
theorem wd_956 : (.instanceMethod yX9_isPeopleLine : Cond) ∈ lw_g := mg (List.mem_of_getElem? (i := 956) rfl) rfl
set_option maxRecDepth 100000 in
theorem wd_957 : (.code yX9_isPeopleLine cX9_isPeopleLine 1 (some .boolean) : Cond) ∈ lw_g := mg (List.mem_of_getElem? (i := 957) rfl) rfl
set_option maxRecDepth 100000 in
theorem wd_958 : (.methodLink RX9 112 yX9_fails : Cond) ∈ lw_g := mg (List.mem_of_getElem? (i := 958) rfl) rfl
set_option maxRecDepth 100000 in
theorem wd_960 : (.instanceMethod yX9_fails : Cond) ∈ lw_g := mg (List.mem_of_getElem? (i := 960) rfl) rfl
set_option maxRecDepth 100000 in
theorem wd_961 : (.code yX9_fails cX9_fails 2 (some .boolean) : Cond) ∈ lw_g := mg (List.mem_of_getElem? (i := 961) rfl) rfl
set_option maxRecDepth 100000 in
theorem wd_962 : (.methodLink RX9 119 yX9_isNumber : Cond) ∈ lw_g := mg (List.mem_of_getElem? (i := 962) rfl) rfl
set_option maxRecDepth 100000 in
theorem wd_964 : (.instanceMethod yX9_isNumber : Cond) ∈ lw_g := mg (List.mem_of_getElem? (i := 964) rfl) rfl
set_option maxRecDepth 100000 in
theorem wd_965 : (.code yX9_isNumber cX9_isNumber 3 (some .boolean) : Cond) ∈ lw_g := mg (List.mem_of_getElem? (i := 965) rfl) rfl
set_option maxRecDepth 100000 in
theorem wd_966 : (.methodLink RX9 123 yX9_isEnd : Cond) ∈ lw_g := mg (List.mem_of_getElem? (i := 966) rfl) rfl
set_option maxRecDepth 100000 in
theorem wd_968 : (.instanceMethod yX9_isEnd : Cond) ∈ lw_g := mg (List.mem_of_getElem? (i := 968) rfl) rfl
set_option maxRecDepth 100000 in
theorem wd_969 : (.code yX9_isEnd cX9_isEnd 1 (some .boolean) : Cond) ∈ lw_g := mg (List.mem_of_getElem? (i := 969) rfl) rfl
set_option maxRecDepth 100000 in
theorem wd_970 : (.methodLink RX9 148 yX9_isFactLine : Cond) ∈ lw_g := mg (List.mem_of_getElem? (i := 970) rfl) rfl
set_option maxRecDepth 100000 in
theorem wd_972 : (.instanceMethod yX9_isFactLine : Cond) ∈ lw_g := mg (List.mem_of_getElem? (i := 972) rfl) rfl
set_option maxRecDepth 100000 in
theorem wd_973 : (.code yX9_isFactLine cX9_isFactLine 3 (some .boolean) : Cond) ∈ lw_g := mg (List.mem_of_getElem? (i := 973) rfl) rfl
set_option maxRecDepth 100000 in
theorem wd_974 : (.methodLink RX9 151 yX9_isKnownLine : Cond) ∈ lw_g := mg (List.mem_of_getElem? (i := 974) rfl) rfl
set_option maxRecDepth 100000 in
theorem wd_976 : (.instanceMethod yX9_isKnownLine : Cond) ∈ lw_g := mg (List.mem_of_getElem? (i := 976) rfl) rfl
set_option maxRecDepth 100000 in
theorem wd_977 : (.code yX9_isKnownLine cX9_isKnownLine 2 (some .boolean) : Cond) ∈ lw_g := mg (List.mem_of_getElem? (i := 977) rfl) rfl
set_option maxRecDepth 100000 in
theorem wd_978 : (.methodLink RX9 154 yX9_isPairLine : Cond) ∈ lw_g := mg (List.mem_of_getElem? (i := 978) rfl) rfl
set_option maxRecDepth 100000 in
theorem wd_980 : (.instanceMethod yX9_isPairLine : Cond) ∈ lw_g := mg (List.mem_of_getElem? (i := 980) rfl) rfl
set_option maxRecDepth 100000 in
theorem wd_981 : (.code yX9_isPairLine cX9_isPairLine 6 (some .boolean) : Cond) ∈ lw_g := mg (List.mem_of_getElem? (i := 981) rfl) rfl
set_option maxRecDepth 100000 in
theorem wd_982 : (.methodLink RX9 157 yX9_isQuietLine : Cond) ∈ lw_g := mg (List.mem_of_getElem? (i := 982) rfl) rfl
set_option maxRecDepth 100000 in
theorem wd_984 : (.instanceMethod yX9_isQuietLine : Cond) ∈ lw_g := mg (List.mem_of_getElem? (i := 984) rfl) rfl
set_option maxRecDepth 100000 in
theorem wd_985 : (.code yX9_isQuietLine cX9_isQuietLine 1 (some .boolean) : Cond) ∈ lw_g := mg (List.mem_of_getElem? (i := 985) rfl) rfl
set_option maxRecDepth 100000 in
theorem wd_986 : (.methodLink RX9 136 yX9_has : Cond) ∈ lw_g := mg (List.mem_of_getElem? (i := 986) rfl) rfl
set_option maxRecDepth 100000 in
theorem wd_987 : (.static yX9_has : Cond) ∈ lw_g := mg (List.mem_of_getElem? (i := 987) rfl) rfl
set_option maxRecDepth 100000 in
theorem wd_988 : (.code yX9_has cX9_has 2 (some .boolean) : Cond) ∈ lw_g := mg (List.mem_of_getElem? (i := 988) rfl) rfl
set_option maxRecDepth 100000 in
theorem wd_989 : (.methodLink RX9 160 yX9_isBridgeLine : Cond) ∈ lw_g := mg (List.mem_of_getElem? (i := 989) rfl) rfl
set_option maxRecDepth 100000 in
theorem wd_991 : (.instanceMethod yX9_isBridgeLine : Cond) ∈ lw_g := mg (List.mem_of_getElem? (i := 991) rfl) rfl
set_option maxRecDepth 100000 in
theorem wd_992 : (.code yX9_isBridgeLine cX9_isBridgeLine 1 (some .boolean) : Cond) ∈ lw_g := mg (List.mem_of_getElem? (i := 992) rfl) rfl
set_option maxRecDepth 100000 in
theorem wd_993 : (.methodLink RX9 163 yX9_isHoursLine : Cond) ∈ lw_g := mg (List.mem_of_getElem? (i := 993) rfl) rfl
set_option maxRecDepth 100000 in
theorem wd_995 : (.instanceMethod yX9_isHoursLine : Cond) ∈ lw_g := mg (List.mem_of_getElem? (i := 995) rfl) rfl
set_option maxRecDepth 100000 in
theorem wd_996 : (.code yX9_isHoursLine cX9_isHoursLine 1 (some .boolean) : Cond) ∈ lw_g := mg (List.mem_of_getElem? (i := 996) rfl) rfl
set_option maxRecDepth 100000 in
theorem wd_998 : (.instanceMethod yX9_fault : Cond) ∈ lw_g := mg (List.mem_of_getElem? (i := 998) rfl) rfl
set_option maxRecDepth 100000 in
theorem wd_999 : (.selects RX9 yX9_fault yX9_fault : Cond) ∈ lw_g := mg (List.mem_of_getElem? (i := 999) rfl) rfl
set_option maxRecDepth 100000 in
theorem wd_1000 : (.code yX9_fault cX9_fault 1 (some .int) : Cond) ∈ lw_g := mg (List.mem_of_getElem? (i := 1000) rfl) rfl
set_option maxRecDepth 100000 in
theorem wd_1002 : (.instanceMethod yX9_told : Cond) ∈ lw_g := mg (List.mem_of_getElem? (i := 1002) rfl) rfl
set_option maxRecDepth 100000 in
theorem wd_1003 : (.selects RX9 yX9_told yX9_told : Cond) ∈ lw_g := mg (List.mem_of_getElem? (i := 1003) rfl) rfl
set_option maxRecDepth 100000 in
theorem wd_1004 : (.code yX9_told cX9_told 4 (some .int) : Cond) ∈ lw_g := mg (List.mem_of_getElem? (i := 1004) rfl) rfl
set_option maxRecDepth 100000 in
theorem wd_1005 : (.methodLink RX9 189 yX9_headsOf : Cond) ∈ lw_g := mg (List.mem_of_getElem? (i := 1005) rfl) rfl
set_option maxRecDepth 100000 in
theorem wd_1007 : (.instanceMethod yX9_headsOf : Cond) ∈ lw_g := mg (List.mem_of_getElem? (i := 1007) rfl) rfl
set_option maxRecDepth 100000 in
theorem wd_1008 : (.code yX9_headsOf cX9_headsOf 5 (some .int) : Cond) ∈ lw_g := mg (List.mem_of_getElem? (i := 1008) rfl) rfl
set_option maxRecDepth 100000 in
theorem wd_1009 : (.methodLink RX9 182 yX9_personOf : Cond) ∈ lw_g := mg (List.mem_of_getElem? (i := 1009) rfl) rfl
set_option maxRecDepth 100000 in
theorem wd_1011 : (.instanceMethod yX9_personOf : Cond) ∈ lw_g := mg (List.mem_of_getElem? (i := 1011) rfl) rfl
set_option maxRecDepth 100000 in
theorem wd_1012 : (.code yX9_personOf cX9_personOf 2 (some .int) : Cond) ∈ lw_g := mg (List.mem_of_getElem? (i := 1012) rfl) rfl
set_option maxRecDepth 100000 in
theorem wd_1013 : (.methodLink RX9 178 yX9_knows : Cond) ∈ lw_g := mg (List.mem_of_getElem? (i := 1013) rfl) rfl
set_option maxRecDepth 100000 in
theorem wd_1014 : (.static yX9_knows : Cond) ∈ lw_g := mg (List.mem_of_getElem? (i := 1014) rfl) rfl
set_option maxRecDepth 100000 in
theorem wd_1015 : (.code yX9_knows cX9_knows 3 (some .boolean) : Cond) ∈ lw_g := mg (List.mem_of_getElem? (i := 1015) rfl) rfl
set_option maxRecDepth 100000 in
theorem wd_1017 : (.instanceMethod yX9_fact : Cond) ∈ lw_g := mg (List.mem_of_getElem? (i := 1017) rfl) rfl
set_option maxRecDepth 100000 in
theorem wd_1018 : (.selects RX9 yX9_fact yX9_fact : Cond) ∈ lw_g := mg (List.mem_of_getElem? (i := 1018) rfl) rfl
set_option maxRecDepth 100000 in
theorem wd_1019 : (.code yX9_fact cX9_fact 3 (some .int) : Cond) ∈ lw_g := mg (List.mem_of_getElem? (i := 1019) rfl) rfl
set_option maxRecDepth 100000 in
theorem wd_1020 : (.methodLink RX9 210 yX9_isFact : Cond) ∈ lw_g := mg (List.mem_of_getElem? (i := 1020) rfl) rfl
set_option maxRecDepth 100000 in
theorem wd_1022 : (.instanceMethod yX9_isFact : Cond) ∈ lw_g := mg (List.mem_of_getElem? (i := 1022) rfl) rfl
set_option maxRecDepth 100000 in
theorem wd_1023 : (.code yX9_isFact cX9_isFact 2 (some .boolean) : Cond) ∈ lw_g := mg (List.mem_of_getElem? (i := 1023) rfl) rfl
set_option maxRecDepth 100000 in
theorem wd_1024 : (.constant RX9 213 (-1000000001) : Cond) ∈ lw_g := mg (List.mem_of_getElem? (i := 1024) rfl) rfl
set_option maxRecDepth 100000 in
theorem wd_1025 : (.methodLink RX9 199 yX9_knowersOf : Cond) ∈ lw_g := mg (List.mem_of_getElem? (i := 1025) rfl) rfl
set_option maxRecDepth 100000 in
theorem wd_1027 : (.instanceMethod yX9_knowersOf : Cond) ∈ lw_g := mg (List.mem_of_getElem? (i := 1027) rfl) rfl
set_option maxRecDepth 100000 in
theorem wd_1028 : (.code yX9_knowersOf cX9_knowersOf 5 (some .int) : Cond) ∈ lw_g := mg (List.mem_of_getElem? (i := 1028) rfl) rfl
set_option maxRecDepth 100000 in
theorem wd_1030 : (.instanceMethod yX9_person : Cond) ∈ lw_g := mg (List.mem_of_getElem? (i := 1030) rfl) rfl
set_option maxRecDepth 100000 in
theorem wd_1031 : (.selects RX9 yX9_person yX9_person : Cond) ∈ lw_g := mg (List.mem_of_getElem? (i := 1031) rfl) rfl
set_option maxRecDepth 100000 in
theorem wd_1032 : (.code yX9_person cX9_person 6 (some .int) : Cond) ∈ lw_g := mg (List.mem_of_getElem? (i := 1032) rfl) rfl
set_option maxRecDepth 100000 in
theorem wd_1033 : (.methodLink RX9 214 yX9_isOne : Cond) ∈ lw_g := mg (List.mem_of_getElem? (i := 1033) rfl) rfl
set_option maxRecDepth 100000 in
theorem wd_1035 : (.instanceMethod yX9_isOne : Cond) ∈ lw_g := mg (List.mem_of_getElem? (i := 1035) rfl) rfl
set_option maxRecDepth 100000 in
theorem wd_1036 : (.code yX9_isOne cX9_isOne 2 (some .boolean) : Cond) ∈ lw_g := mg (List.mem_of_getElem? (i := 1036) rfl) rfl
set_option maxRecDepth 100000 in
theorem wd_1037 : (.methodLink RX9 196 yX9_friendsOf : Cond) ∈ lw_g := mg (List.mem_of_getElem? (i := 1037) rfl) rfl
set_option maxRecDepth 100000 in
theorem wd_1039 : (.instanceMethod yX9_friendsOf : Cond) ∈ lw_g := mg (List.mem_of_getElem? (i := 1039) rfl) rfl
set_option maxRecDepth 100000 in
theorem wd_1040 : (.code yX9_friendsOf cX9_friendsOf 4 (some .int) : Cond) ∈ lw_g := mg (List.mem_of_getElem? (i := 1040) rfl) rfl
set_option maxRecDepth 100000 in
theorem wd_1042 : (.instanceMethod yX9_since : Cond) ∈ lw_g := mg (List.mem_of_getElem? (i := 1042) rfl) rfl
set_option maxRecDepth 100000 in
theorem wd_1043 : (.selects RX9 yX9_since yX9_since : Cond) ∈ lw_g := mg (List.mem_of_getElem? (i := 1043) rfl) rfl
set_option maxRecDepth 100000 in
theorem wd_1044 : (.code yX9_since cX9_since 3 (some .int) : Cond) ∈ lw_g := mg (List.mem_of_getElem? (i := 1044) rfl) rfl
set_option maxRecDepth 100000 in
theorem wd_1046 : (.instanceMethod yX9_weight : Cond) ∈ lw_g := mg (List.mem_of_getElem? (i := 1046) rfl) rfl
set_option maxRecDepth 100000 in
theorem wd_1047 : (.selects RX9 yX9_weight yX9_weight : Cond) ∈ lw_g := mg (List.mem_of_getElem? (i := 1047) rfl) rfl
set_option maxRecDepth 100000 in
theorem wd_1048 : (.code yX9_weight cX9_weight 2 (some .int) : Cond) ∈ lw_g := mg (List.mem_of_getElem? (i := 1048) rfl) rfl
set_option maxRecDepth 100000 in
theorem wd_1049 : (.methodLink RX9 217 yX9_weightOf : Cond) ∈ lw_g := mg (List.mem_of_getElem? (i := 1049) rfl) rfl
set_option maxRecDepth 100000 in
theorem wd_1051 : (.instanceMethod yX9_weightOf : Cond) ∈ lw_g := mg (List.mem_of_getElem? (i := 1051) rfl) rfl
set_option maxRecDepth 100000 in
theorem wd_1052 : (.code yX9_weightOf cX9_weightOf 6 (some .int) : Cond) ∈ lw_g := mg (List.mem_of_getElem? (i := 1052) rfl) rfl
set_option maxRecDepth 100000 in
theorem wd_1053 : (.methodLink RX9 186 yX9_gramsOf : Cond) ∈ lw_g := mg (List.mem_of_getElem? (i := 1053) rfl) rfl
set_option maxRecDepth 100000 in
theorem wd_1055 : (.instanceMethod yX9_gramsOf : Cond) ∈ lw_g := mg (List.mem_of_getElem? (i := 1055) rfl) rfl
set_option maxRecDepth 100000 in
theorem wd_1056 : (.code yX9_gramsOf cX9_gramsOf 2 (some .int) : Cond) ∈ lw_g := mg (List.mem_of_getElem? (i := 1056) rfl) rfl
set_option maxRecDepth 100000 in
theorem wd_1057 : (.methodLink RX9 193 yX9_isLie : Cond) ∈ lw_g := mg (List.mem_of_getElem? (i := 1057) rfl) rfl
set_option maxRecDepth 100000 in
theorem wd_1059 : (.instanceMethod yX9_isLie : Cond) ∈ lw_g := mg (List.mem_of_getElem? (i := 1059) rfl) rfl
set_option maxRecDepth 100000 in
theorem wd_1060 : (.code yX9_isLie cX9_isLie 2 (some .boolean) : Cond) ∈ lw_g := mg (List.mem_of_getElem? (i := 1060) rfl) rfl
set_option maxRecDepth 100000 in
theorem wd_1062 : (.instanceMethod yX9_bridge : Cond) ∈ lw_g := mg (List.mem_of_getElem? (i := 1062) rfl) rfl
set_option maxRecDepth 100000 in
theorem wd_1063 : (.selects RX9 yX9_bridge yX9_bridge : Cond) ∈ lw_g := mg (List.mem_of_getElem? (i := 1063) rfl) rfl
set_option maxRecDepth 100000 in
theorem wd_1064 : (.code yX9_bridge cX9_bridge 2 (some .int) : Cond) ∈ lw_g := mg (List.mem_of_getElem? (i := 1064) rfl) rfl
set_option maxRecDepth 100000 in
theorem wd_1065 : (.methodLink RX9 220 yX9_isBridge : Cond) ∈ lw_g := mg (List.mem_of_getElem? (i := 1065) rfl) rfl
set_option maxRecDepth 100000 in
theorem wd_1067 : (.instanceMethod yX9_isBridge : Cond) ∈ lw_g := mg (List.mem_of_getElem? (i := 1067) rfl) rfl
set_option maxRecDepth 100000 in
theorem wd_1068 : (.code yX9_isBridge cX9_isBridge 2 (some .boolean) : Cond) ∈ lw_g := mg (List.mem_of_getElem? (i := 1068) rfl) rfl
set_option maxRecDepth 100000 in
theorem wd_1070 : (.instanceMethod yX9_tell : Cond) ∈ lw_g := mg (List.mem_of_getElem? (i := 1070) rfl) rfl
set_option maxRecDepth 100000 in
theorem wd_1071 : (.selects RX9 yX9_tell yX9_tell : Cond) ∈ lw_g := mg (List.mem_of_getElem? (i := 1071) rfl) rfl
set_option maxRecDepth 100000 in
theorem wd_1072 : (.code yX9_tell cX9_tell 3 (some .int) : Cond) ∈ lw_g := mg (List.mem_of_getElem? (i := 1072) rfl) rfl
set_option maxRecDepth 100000 in
theorem wd_1073 : (.constant RX9 223 (-1000000003) : Cond) ∈ lw_g := mg (List.mem_of_getElem? (i := 1073) rfl) rfl
set_option maxRecDepth 100000 in
theorem wd_1075 : (.instanceMethod yX9_forget : Cond) ∈ lw_g := mg (List.mem_of_getElem? (i := 1075) rfl) rfl
set_option maxRecDepth 100000 in
theorem wd_1076 : (.selects RX9 yX9_forget yX9_forget : Cond) ∈ lw_g := mg (List.mem_of_getElem? (i := 1076) rfl) rfl
set_option maxRecDepth 100000 in
theorem wd_1077 : (.code yX9_forget cX9_forget 3 (some .int) : Cond) ∈ lw_g := mg (List.mem_of_getElem? (i := 1077) rfl) rfl
set_option maxRecDepth 100000 in
theorem wd_1079 : (.instanceMethod yX9_hour : Cond) ∈ lw_g := mg (List.mem_of_getElem? (i := 1079) rfl) rfl
set_option maxRecDepth 100000 in
theorem wd_1080 : (.selects RX9 yX9_hour yX9_hour : Cond) ∈ lw_g := mg (List.mem_of_getElem? (i := 1080) rfl) rfl
set_option maxRecDepth 100000 in
theorem wd_1081 : (.code yX9_hour cX9_hour 4 (some .int) : Cond) ∈ lw_g := mg (List.mem_of_getElem? (i := 1081) rfl) rfl
set_option maxRecDepth 100000 in
theorem wd_1082 : (.methodLink RX9 225 yX9_barred : Cond) ∈ lw_g := mg (List.mem_of_getElem? (i := 1082) rfl) rfl
set_option maxRecDepth 100000 in
theorem wd_1084 : (.instanceMethod yX9_barred : Cond) ∈ lw_g := mg (List.mem_of_getElem? (i := 1084) rfl) rfl
set_option maxRecDepth 100000 in
theorem wd_1085 : (.code yX9_barred cX9_barred 2 (some .int) : Cond) ∈ lw_g := mg (List.mem_of_getElem? (i := 1085) rfl) rfl
set_option maxRecDepth 100000 in
theorem wd_1086 : (.constant RX9 224 (90000) : Cond) ∈ lw_g := mg (List.mem_of_getElem? (i := 1086) rfl) rfl
set_option maxRecDepth 100000 in
theorem wd_1087 : (.methodLink RX9 202 yX9_copy : Cond) ∈ lw_g := mg (List.mem_of_getElem? (i := 1087) rfl) rfl
set_option maxRecDepth 100000 in
theorem wd_1088 : (.static yX9_copy : Cond) ∈ lw_g := mg (List.mem_of_getElem? (i := 1088) rfl) rfl
set_option maxRecDepth 100000 in
theorem wd_1089 : (.code yX9_copy cX9_copy 5 none : Cond) ∈ lw_g := mg (List.mem_of_getElem? (i := 1089) rfl) rfl
set_option maxRecDepth 100000 in
theorem wd_1090 : (.methodLink RX9 228 yX9_pass : Cond) ∈ lw_g := mg (List.mem_of_getElem? (i := 1090) rfl) rfl
set_option maxRecDepth 100000 in
theorem wd_1092 : (.instanceMethod yX9_pass : Cond) ∈ lw_g := mg (List.mem_of_getElem? (i := 1092) rfl) rfl
set_option maxRecDepth 100000 in
theorem wd_1093 : (.code yX9_pass cX9_pass 2 none : Cond) ∈ lw_g := mg (List.mem_of_getElem? (i := 1093) rfl) rfl
set_option maxRecDepth 100000 in
theorem wd_1094 : (.methodLink RX9 206 yX9_tells : Cond) ∈ lw_g := mg (List.mem_of_getElem? (i := 1094) rfl) rfl
set_option maxRecDepth 100000 in
theorem wd_1096 : (.instanceMethod yX9_tells : Cond) ∈ lw_g := mg (List.mem_of_getElem? (i := 1096) rfl) rfl
set_option maxRecDepth 100000 in
theorem wd_1097 : (.code yX9_tells cX9_tells 6 none : Cond) ∈ lw_g := mg (List.mem_of_getElem? (i := 1097) rfl) rfl
set_option maxRecDepth 100000 in
theorem wd_1099 : (.instanceMethod yX9_drift : Cond) ∈ lw_g := mg (List.mem_of_getElem? (i := 1099) rfl) rfl
set_option maxRecDepth 100000 in
theorem wd_1100 : (.selects RX9 yX9_drift yX9_drift : Cond) ∈ lw_g := mg (List.mem_of_getElem? (i := 1100) rfl) rfl
set_option maxRecDepth 100000 in
theorem wd_1101 : (.code yX9_drift cX9_drift 6 (some .int) : Cond) ∈ lw_g := mg (List.mem_of_getElem? (i := 1101) rfl) rfl
set_option maxRecDepth 100000 in
theorem wd_1102 : (.methodLink RX9 238 yX9_draw : Cond) ∈ lw_g := mg (List.mem_of_getElem? (i := 1102) rfl) rfl
set_option maxRecDepth 100000 in
theorem wd_1104 : (.instanceMethod yX9_draw : Cond) ∈ lw_g := mg (List.mem_of_getElem? (i := 1104) rfl) rfl
set_option maxRecDepth 100000 in
theorem wd_1105 : (.code yX9_draw cX9_draw 2 (some .int) : Cond) ∈ lw_g := mg (List.mem_of_getElem? (i := 1105) rfl) rfl
set_option maxRecDepth 100000 in
theorem wd_1106 : (.constantLong RX9 231 (1103515245) : Cond) ∈ lw_g := mg (List.mem_of_getElem? (i := 1106) rfl) rfl
set_option maxRecDepth 100000 in
theorem wd_1107 : (.constantLong RX9 233 (12345) : Cond) ∈ lw_g := mg (List.mem_of_getElem? (i := 1107) rfl) rfl
set_option maxRecDepth 100000 in
theorem wd_1108 : (.constantLong RX9 235 (2147483648) : Cond) ∈ lw_g := mg (List.mem_of_getElem? (i := 1108) rfl) rfl
set_option maxRecDepth 100000 in
theorem wd_1109 : (.constant RX9 237 (65536) : Cond) ∈ lw_g := mg (List.mem_of_getElem? (i := 1109) rfl) rfl
set_option maxRecDepth 100000 in
theorem wd_1111 : (.instanceMethod yX9_heavy : Cond) ∈ lw_g := mg (List.mem_of_getElem? (i := 1111) rfl) rfl
set_option maxRecDepth 100000 in
theorem wd_1112 : (.selects RX9 yX9_heavy yX9_heavy : Cond) ∈ lw_g := mg (List.mem_of_getElem? (i := 1112) rfl) rfl
set_option maxRecDepth 100000 in
theorem wd_1113 : (.code yX9_heavy cX9_heavy 4 (some .int) : Cond) ∈ lw_g := mg (List.mem_of_getElem? (i := 1113) rfl) rfl
set_option maxRecDepth 100000 in
theorem wd_1115 : (.instanceMethod yX9_when : Cond) ∈ lw_g := mg (List.mem_of_getElem? (i := 1115) rfl) rfl
set_option maxRecDepth 100000 in
theorem wd_1116 : (.selects RX9 yX9_when yX9_when : Cond) ∈ lw_g := mg (List.mem_of_getElem? (i := 1116) rfl) rfl
set_option maxRecDepth 100000 in
theorem wd_1117 : (.code yX9_when cX9_when 4 (some .int) : Cond) ∈ lw_g := mg (List.mem_of_getElem? (i := 1117) rfl) rfl
set_option maxRecDepth 100000 in
theorem wd_1119 : (.instanceMethod yX9_least : Cond) ∈ lw_g := mg (List.mem_of_getElem? (i := 1119) rfl) rfl
set_option maxRecDepth 100000 in
theorem wd_1120 : (.selects RX9 yX9_least yX9_least : Cond) ∈ lw_g := mg (List.mem_of_getElem? (i := 1120) rfl) rfl
set_option maxRecDepth 100000 in
theorem wd_1121 : (.code yX9_least cX9_least 10 (some .int) : Cond) ∈ lw_g := mg (List.mem_of_getElem? (i := 1121) rfl) rfl
set_option maxRecDepth 100000 in
theorem wd_1122 : (.methodLink RX9 241 yX9_isSet : Cond) ∈ lw_g := mg (List.mem_of_getElem? (i := 1122) rfl) rfl
set_option maxRecDepth 100000 in
theorem wd_1124 : (.instanceMethod yX9_isSet : Cond) ∈ lw_g := mg (List.mem_of_getElem? (i := 1124) rfl) rfl
set_option maxRecDepth 100000 in
theorem wd_1125 : (.code yX9_isSet cX9_isSet 2 (some .boolean) : Cond) ∈ lw_g := mg (List.mem_of_getElem? (i := 1125) rfl) rfl
set_option maxRecDepth 100000 in
theorem wd_1127 : (.instanceMethod yX9_trips : Cond) ∈ lw_g := mg (List.mem_of_getElem? (i := 1127) rfl) rfl
set_option maxRecDepth 100000 in
theorem wd_1128 : (.selects RX9 yX9_trips yX9_trips : Cond) ∈ lw_g := mg (List.mem_of_getElem? (i := 1128) rfl) rfl
set_option maxRecDepth 100000 in
theorem wd_1129 : (.code yX9_trips cX9_trips 10 (some .int) : Cond) ∈ lw_g := mg (List.mem_of_getElem? (i := 1129) rfl) rfl
set_option maxRecDepth 100000 in
theorem wd_1130 : (.methodLink RX9 244 yX9_togetherOf : Cond) ∈ lw_g := mg (List.mem_of_getElem? (i := 1130) rfl) rfl
set_option maxRecDepth 100000 in
theorem wd_1132 : (.instanceMethod yX9_togetherOf : Cond) ∈ lw_g := mg (List.mem_of_getElem? (i := 1132) rfl) rfl
set_option maxRecDepth 100000 in
theorem wd_1133 : (.code yX9_togetherOf cX9_togetherOf 4 (some .int) : Cond) ∈ lw_g := mg (List.mem_of_getElem? (i := 1133) rfl) rfl
set_option maxRecDepth 100000 in
theorem wd_1135 : (.instanceMethod yX9_counted : Cond) ∈ lw_g := mg (List.mem_of_getElem? (i := 1135) rfl) rfl
set_option maxRecDepth 100000 in
theorem wd_1136 : (.selects RX9 yX9_counted yX9_counted : Cond) ∈ lw_g := mg (List.mem_of_getElem? (i := 1136) rfl) rfl
set_option maxRecDepth 100000 in
theorem wd_1137 : (.code yX9_counted cX9_counted 8 (some .int) : Cond) ∈ lw_g := mg (List.mem_of_getElem? (i := 1137) rfl) rfl
set_option maxRecDepth 100000 in
theorem wd_1138 : (.methodLink RX9 247 yX9_layWays : Cond) ∈ lw_g := mg (List.mem_of_getElem? (i := 1138) rfl) rfl
set_option maxRecDepth 100000 in
theorem wd_1140 : (.instanceMethod yX9_layWays : Cond) ∈ lw_g := mg (List.mem_of_getElem? (i := 1140) rfl) rfl
set_option maxRecDepth 100000 in
theorem wd_1141 : (.code yX9_layWays cX9_layWays 8 none : Cond) ∈ lw_g := mg (List.mem_of_getElem? (i := 1141) rfl) rfl
set_option maxRecDepth 100000 in
theorem wd_1142 : (.methodLink RX9 251 yX9_waysTo : Cond) ∈ lw_g := mg (List.mem_of_getElem? (i := 1142) rfl) rfl
set_option maxRecDepth 100000 in
theorem wd_1144 : (.instanceMethod yX9_waysTo : Cond) ∈ lw_g := mg (List.mem_of_getElem? (i := 1144) rfl) rfl
set_option maxRecDepth 100000 in
theorem wd_1145 : (.code yX9_waysTo cX9_waysTo 2 (some .long) : Cond) ∈ lw_g := mg (List.mem_of_getElem? (i := 1145) rfl) rfl
set_option maxRecDepth 100000 in
theorem wd_1147 : (.instanceMethod yX9_lies : Cond) ∈ lw_g := mg (List.mem_of_getElem? (i := 1147) rfl) rfl
set_option maxRecDepth 100000 in
theorem wd_1148 : (.selects RX9 yX9_lies yX9_lies : Cond) ∈ lw_g := mg (List.mem_of_getElem? (i := 1148) rfl) rfl
set_option maxRecDepth 100000 in
theorem wd_1149 : (.code yX9_lies cX9_lies 12 (some .int) : Cond) ∈ lw_g := mg (List.mem_of_getElem? (i := 1149) rfl) rfl
set_option maxRecDepth 100000 in
theorem wd_1151 : (.instanceMethod yX9_apart : Cond) ∈ lw_g := mg (List.mem_of_getElem? (i := 1151) rfl) rfl
set_option maxRecDepth 100000 in
theorem wd_1152 : (.selects RX9 yX9_apart yX9_apart : Cond) ∈ lw_g := mg (List.mem_of_getElem? (i := 1152) rfl) rfl
set_option maxRecDepth 100000 in
theorem wd_1153 : (.code yX9_apart cX9_apart 6 (some .int) : Cond) ∈ lw_g := mg (List.mem_of_getElem? (i := 1153) rfl) rfl
set_option maxRecDepth 100000 in
theorem wd_1154 : (.methodLink RX9 255 yX9_bits : Cond) ∈ lw_g := mg (List.mem_of_getElem? (i := 1154) rfl) rfl
set_option maxRecDepth 100000 in
theorem wd_1155 : (.static yX9_bits : Cond) ∈ lw_g := mg (List.mem_of_getElem? (i := 1155) rfl) rfl
set_option maxRecDepth 100000 in
theorem wd_1156 : (.code yX9_bits cX9_bits 3 (some .int) : Cond) ∈ lw_g := mg (List.mem_of_getElem? (i := 1156) rfl) rfl
set_option maxRecDepth 100000 in
theorem wd_1157 : (.methodLink RX9 258 yX9_canCome : Cond) ∈ lw_g := mg (List.mem_of_getElem? (i := 1157) rfl) rfl
set_option maxRecDepth 100000 in
theorem wd_1159 : (.instanceMethod yX9_canCome : Cond) ∈ lw_g := mg (List.mem_of_getElem? (i := 1159) rfl) rfl
set_option maxRecDepth 100000 in
theorem wd_1160 : (.code yX9_canCome cX9_canCome 11 (some .boolean) : Cond) ∈ lw_g := mg (List.mem_of_getElem? (i := 1160) rfl) rfl
set_option maxRecDepth 100000 in
theorem wd_1162 : (.instanceMethod yX9_treaty : Cond) ∈ lw_g := mg (List.mem_of_getElem? (i := 1162) rfl) rfl
set_option maxRecDepth 100000 in
theorem wd_1163 : (.selects RX9 yX9_treaty yX9_treaty : Cond) ∈ lw_g := mg (List.mem_of_getElem? (i := 1163) rfl) rfl
set_option maxRecDepth 100000 in
theorem wd_1164 : (.code yX9_treaty cX9_treaty 5 (some .int) : Cond) ∈ lw_g := mg (List.mem_of_getElem? (i := 1164) rfl) rfl
set_option maxRecDepth 100000 in
theorem wd_1165 : (.methodLink RX9 261 yX9_forgotten : Cond) ∈ lw_g := mg (List.mem_of_getElem? (i := 1165) rfl) rfl
set_option maxRecDepth 100000 in
theorem wd_1167 : (.instanceMethod yX9_forgotten : Cond) ∈ lw_g := mg (List.mem_of_getElem? (i := 1167) rfl) rfl
set_option maxRecDepth 100000 in
theorem wd_1168 : (.code yX9_forgotten cX9_forgotten 10 (some .int) : Cond) ∈ lw_g := mg (List.mem_of_getElem? (i := 1168) rfl) rfl
set_option maxRecDepth 100000 in
theorem wd_1170 : (.instanceMethod yX9_odds : Cond) ∈ lw_g := mg (List.mem_of_getElem? (i := 1170) rfl) rfl
set_option maxRecDepth 100000 in
theorem wd_1171 : (.selects RX9 yX9_odds yX9_odds : Cond) ∈ lw_g := mg (List.mem_of_getElem? (i := 1171) rfl) rfl
set_option maxRecDepth 100000 in
theorem wd_1172 : (.code yX9_odds cX9_odds 10 (some .int) : Cond) ∈ lw_g := mg (List.mem_of_getElem? (i := 1172) rfl) rfl
set_option maxRecDepth 100000 in
theorem wd_1173 : (.constantLong RX9 265 (1000000000) : Cond) ∈ lw_g := mg (List.mem_of_getElem? (i := 1173) rfl) rfl
set_option maxRecDepth 100000 in
theorem wd_1174 : (.constantLong RX9 267 (100) : Cond) ∈ lw_g := mg (List.mem_of_getElem? (i := 1174) rfl) rfl
set_option maxRecDepth 100000 in
theorem wd_1176 : (.instanceMethod yX9_write : Cond) ∈ lw_g := mg (List.mem_of_getElem? (i := 1176) rfl) rfl
set_option maxRecDepth 100000 in
theorem wd_1177 : (.selects RX9 yX9_write yX9_write : Cond) ∈ lw_g := mg (List.mem_of_getElem? (i := 1177) rfl) rfl
set_option maxRecDepth 100000 in
theorem wd_1178 : (.code yX9_write cX9_write 3 (some .int) : Cond) ∈ lw_g := mg (List.mem_of_getElem? (i := 1178) rfl) rfl
set_option maxRecDepth 100000 in
theorem wd_1180 : (.instanceMethod yX9_tear : Cond) ∈ lw_g := mg (List.mem_of_getElem? (i := 1180) rfl) rfl
set_option maxRecDepth 100000 in
theorem wd_1181 : (.selects RX9 yX9_tear yX9_tear : Cond) ∈ lw_g := mg (List.mem_of_getElem? (i := 1181) rfl) rfl
set_option maxRecDepth 100000 in
theorem wd_1182 : (.code yX9_tear cX9_tear 2 (some .int) : Cond) ∈ lw_g := mg (List.mem_of_getElem? (i := 1182) rfl) rfl
set_option maxRecDepth 100000 in
theorem wd_1184 : (.instanceMethod yX9_judge : Cond) ∈ lw_g := mg (List.mem_of_getElem? (i := 1184) rfl) rfl
set_option maxRecDepth 100000 in
theorem wd_1185 : (.selects RX9 yX9_judge yX9_judge : Cond) ∈ lw_g := mg (List.mem_of_getElem? (i := 1185) rfl) rfl
set_option maxRecDepth 100000 in
theorem wd_1186 : (.code yX9_judge cX9_judge 2 (some .int) : Cond) ∈ lw_g := mg (List.mem_of_getElem? (i := 1186) rfl) rfl
set_option maxRecDepth 100000 in
theorem wd_1188 : (.instanceMethod yX9_seed : Cond) ∈ lw_g := mg (List.mem_of_getElem? (i := 1188) rfl) rfl
set_option maxRecDepth 100000 in
theorem wd_1189 : (.selects RX9 yX9_seed yX9_seed : Cond) ∈ lw_g := mg (List.mem_of_getElem? (i := 1189) rfl) rfl
set_option maxRecDepth 100000 in
theorem wd_1190 : (.code yX9_seed cX9_seed 3 (some .int) : Cond) ∈ lw_g := mg (List.mem_of_getElem? (i := 1190) rfl) rfl
set_option maxRecDepth 100000 in
theorem wd_1192 : (.instanceMethod yX9_keep : Cond) ∈ lw_g := mg (List.mem_of_getElem? (i := 1192) rfl) rfl
set_option maxRecDepth 100000 in
theorem wd_1193 : (.selects RX9 yX9_keep yX9_keep : Cond) ∈ lw_g := mg (List.mem_of_getElem? (i := 1193) rfl) rfl
set_option maxRecDepth 100000 in
theorem wd_1194 : (.code yX9_keep cX9_keep 2 (some .int) : Cond) ∈ lw_g := mg (List.mem_of_getElem? (i := 1194) rfl) rfl
set_option maxRecDepth 100000 in
theorem wd_1196 : (.instanceMethod yX9_goBack : Cond) ∈ lw_g := mg (List.mem_of_getElem? (i := 1196) rfl) rfl
set_option maxRecDepth 100000 in
theorem wd_1197 : (.selects RX9 yX9_goBack yX9_goBack : Cond) ∈ lw_g := mg (List.mem_of_getElem? (i := 1197) rfl) rfl
set_option maxRecDepth 100000 in
theorem wd_1198 : (.code yX9_goBack cX9_goBack 2 (some .int) : Cond) ∈ lw_g := mg (List.mem_of_getElem? (i := 1198) rfl) rfl
theorem ar_of {o k j : Nat} {q : Nat × Nat} (ho : clsO o = k) (h : arT k j = some q) : arT (clsO o) j = some q := by rw [ho]; exact h
theorem ar_0_0 : arT 0 0 = some (0, 433) := by decide +kernel
theorem ar_1_0 : arT 1 0 = some (0, 128) := by decide +kernel
theorem ar_1_1 : arT 1 1 = some (0, 128) := by decide +kernel
theorem ar_2_2 : arT 2 2 = some (0, 8) := by decide +kernel
theorem ar_2_3 : arT 2 3 = some (0, 8) := by decide +kernel
theorem ar_2_4 : arT 2 4 = some (0, 56) := by decide +kernel
theorem ar_3_8 : arT 3 8 = some (0, 8) := by decide +kernel
theorem ar_3_9 : arT 3 9 = some (0, 8) := by decide +kernel
theorem ar_3_10 : arT 3 10 = some (0, 8) := by decide +kernel
theorem ar_3_11 : arT 3 11 = some (0, 7) := by decide +kernel
theorem ar_3_12 : arT 3 12 = some (0, 7) := by decide +kernel
theorem ar_3_13 : arT 3 13 = some (0, 12) := by decide +kernel
theorem ar_3_14 : arT 3 14 = some (0, 12) := by decide +kernel
theorem ar_3_15 : arT 3 15 = some (0, 4) := by decide +kernel
theorem ar_4_0 : arT 4 0 = some (0, 250) := by decide +kernel
theorem ar_5_0 : arT 5 0 = some (0, 73) := by decide +kernel
theorem ar_5_1 : arT 5 1 = some (0, 73) := by decide +kernel
theorem ar_6_1 : arT 6 1 = some (0, 15) := by decide +kernel
theorem ar_6_2 : arT 6 2 = some (0, 15) := by decide +kernel
theorem ar_7_0 : arT 7 0 = some (0, 433) := by decide +kernel
theorem ar_8_5 : arT 8 5 = some (3, 2) := by decide +kernel
theorem ar_9_1 : arT 9 1 = some (0, 250) := by decide +kernel
theorem ar_9_10 : arT 9 10 = some (0, 32) := by decide +kernel
theorem ar_9_12 : arT 9 12 = some (0, 24) := by decide +kernel
theorem ar_9_15 : arT 9 15 = some (0, 4) := by decide +kernel
theorem ar_9_19 : arT 9 19 = some (0, 32) := by decide +kernel
theorem ar_9_21 : arT 9 21 = some (0, 24) := by decide +kernel
theorem ar_9_24 : arT 9 24 = some (0, 4) := by decide +kernel
theorem ar_9_26 : arT 9 26 = some (0, 58) := by decide +kernel
theorem ar_9_27 : arT 9 27 = some (0, 58) := by decide +kernel
theorem ar_9_28 : arT 9 28 = some (0, 58) := by decide +kernel
theorem ar_9_29 : arT 9 29 = some (0, 116) := by decide +kernel
theorem ar_9_30 : arT 9 30 = some (2, 2) := by decide +kernel
theorem ar_9_32 : arT 9 32 = some (0, 30) := by decide +kernel
theorem ar_9_33 : arT 9 33 = some (0, 8) := by decide +kernel
theorem ar_9_34 : arT 9 34 = some (0, 128) := by decide +kernel
theorem ar_9_35 : arT 9 35 = some (1, 1200) := by decide +kernel
theorem ar_9_36 : arT 9 36 = some (1, 1200) := by decide +kernel
theorem ar_9_37 : arT 9 37 = some (0, 7) := by decide +kernel
theorem mv_J7_fill_53178 : MS yJ7_fill_53178 cJ7_fill_53178 4 none 2 := ⟨wd_377, wd_71, wd_378, by decide +kernel, by decide +kernel, by decide +kernel⟩
theorem mv_X0_move : MV yX0_move cX0_move 5 none 3 := ⟨wd_762, wd_26, wd_68, wd_763, by decide +kernel, by decide +kernel, by decide +kernel⟩
theorem mv_X0_headForgets : MV yX0_headForgets cX0_headForgets 4 none 2 := ⟨wd_758, wd_25, wd_68, wd_759, by decide +kernel, by decide +kernel, by decide +kernel⟩
theorem mv_J6_bitCount_0f7a4 : MS yJ6_bitCount_0f7a4 cJ6_bitCount_0f7a4 1 (some .int) 1 := ⟨wd_480, wd_72, wd_481, by decide +kernel, by decide +kernel, by decide +kernel⟩
theorem mv_X2_headsOf : MV yX2_headsOf cX2_headsOf 3 (some .int) 2 := ⟨wd_476, wd_477, wd_64, wd_478, by decide +kernel, by decide +kernel, by decide +kernel⟩
theorem mv_X2_gramsOf : MV yX2_gramsOf cX2_gramsOf 5 (some .int) 2 := ⟨wd_533, wd_534, wd_64, wd_535, by decide +kernel, by decide +kernel, by decide +kernel⟩
theorem mv_X3_isLie : MV yX3_isLie cX3_isLie 2 (some .boolean) 1 := ⟨wd_495, wd_496, wd_63, wd_497, by decide +kernel, by decide +kernel, by decide +kernel⟩
theorem mv_X3_pull : MV yX3_pull cX3_pull 2 (some .int) 1 := ⟨wd_695, wd_696, wd_63, wd_697, by decide +kernel, by decide +kernel, by decide +kernel⟩
theorem mv_X0_spread : MV yX0_spread cX0_spread 9 none 4 := ⟨wd_747, wd_748, wd_68, wd_749, by decide +kernel, by decide +kernel, by decide +kernel⟩
theorem mv_X0_upTo : MV yX0_upTo cX0_upTo 4 (some .int) 1 := ⟨wd_769, wd_770, wd_68, wd_771, by decide +kernel, by decide +kernel, by decide +kernel⟩
theorem mv_X1_fewestOf : MV yX1_fewestOf cX1_fewestOf 5 (some .int) 1 := ⟨wd_656, wd_20, wd_66, wd_657, by decide +kernel, by decide +kernel, by decide +kernel⟩
theorem mv_X2_load : MV yX2_load cX2_load 4 (some .int) 2 := ⟨wd_529, wd_530, wd_64, wd_531, by decide +kernel, by decide +kernel, by decide +kernel⟩
theorem mv_X1_plan : MV yX1_plan cX1_plan 6 none 4 := ⟨wd_650, wd_651, wd_66, wd_652, by decide +kernel, by decide +kernel, by decide +kernel⟩
theorem mv_X1_firstGroup : MV yX1_firstGroup cX1_firstGroup 4 (some .int) 1 := ⟨wd_664, wd_21, wd_66, wd_665, by decide +kernel, by decide +kernel, by decide +kernel⟩
theorem mv_X1_group : MV yX1_group cX1_group 6 (some .int) 2 := ⟨wd_659, wd_660, wd_66, wd_661, by decide +kernel, by decide +kernel, by decide +kernel⟩
theorem mv_X2_begin : MV yX2_begin cX2_begin 3 none 1 := ⟨wd_459, wd_460, wd_64, wd_461, by decide +kernel, by decide +kernel, by decide +kernel⟩
theorem mv_X2_copyFrom : MV yX2_copyFrom cX2_copyFrom 2 none 1 := ⟨wd_613, wd_614, wd_64, wd_615, by decide +kernel, by decide +kernel, by decide +kernel⟩
theorem mv_X2_knows : MV yX2_knows cX2_knows 3 (some .boolean) 2 := ⟨wd_517, wd_518, wd_64, wd_519, by decide +kernel, by decide +kernel, by decide +kernel⟩
theorem mv_X2_heardAt : MV yX2_heardAt cX2_heardAt 3 (some .int) 2 := ⟨wd_521, wd_522, wd_64, wd_523, by decide +kernel, by decide +kernel, by decide +kernel⟩
theorem mv_X2_learn : MV yX2_learn cX2_learn 3 none 2 := ⟨wd_550, wd_551, wd_64, wd_552, by decide +kernel, by decide +kernel, by decide +kernel⟩
theorem mv_X2_lose : MV yX2_lose cX2_lose 3 none 2 := ⟨wd_558, wd_559, wd_64, wd_560, by decide +kernel, by decide +kernel, by decide +kernel⟩
theorem mv_X2_factsIn : MV yX2_factsIn cX2_factsIn 4 (some .int) 1 := ⟨wd_508, wd_509, wd_64, wd_510, by decide +kernel, by decide +kernel, by decide +kernel⟩
theorem mv_X2_allHeads : MV yX2_allHeads cX2_allHeads 4 (some .int) 1 := ⟨wd_472, wd_473, wd_64, wd_474, by decide +kernel, by decide +kernel, by decide +kernel⟩
theorem mv_X2_loadOfAll : MV yX2_loadOfAll cX2_loadOfAll 5 (some .int) 2 := ⟨wd_638, wd_639, wd_64, wd_640, by decide +kernel, by decide +kernel, by decide +kernel⟩
theorem mv_X2_forgetOld : MV yX2_forgetOld cX2_forgetOld 4 none 1 := ⟨wd_577, wd_16, wd_64, wd_578, by decide +kernel, by decide +kernel, by decide +kernel⟩
theorem mv_X2_chat : MV yX2_chat cX2_chat 5 none 2 := ⟨wd_589, wd_18, wd_64, wd_590, by decide +kernel, by decide +kernel, by decide +kernel⟩
theorem mv_X3_isQuiet : MV yX3_isQuiet cX3_isQuiet 2 (some .boolean) 1 := ⟨wd_443, wd_444, wd_63, wd_445, by decide +kernel, by decide +kernel, by decide +kernel⟩
theorem mv_X2_tellOn : MV yX2_tellOn cX2_tellOn 4 none 1 := ⟨wd_584, wd_17, wd_64, wd_585, by decide +kernel, by decide +kernel, by decide +kernel⟩
theorem mv_X2_passHour : MV yX2_passHour cX2_passHour 2 none 1 := ⟨wd_572, wd_573, wd_64, wd_574, by decide +kernel, by decide +kernel, by decide +kernel⟩
theorem mv_X2_drawOf : MV yX2_drawOf cX2_drawOf 2 (some .int) 1 := ⟨wd_602, wd_19, wd_64, wd_603, by decide +kernel, by decide +kernel, by decide +kernel⟩
theorem mv_X2_changeByDraws : MV yX2_changeByDraws cX2_changeByDraws 4 none 1 := ⟨wd_597, wd_598, wd_64, wd_599, by decide +kernel, by decide +kernel, by decide +kernel⟩
theorem mv_X3_clear : MV yX3_clear cX3_clear 1 none 0 := ⟨wd_373, wd_374, wd_63, wd_375, by decide +kernel, by decide +kernel, by decide +kernel⟩
theorem mv_X3_hasPerson : MV yX3_hasPerson cX3_hasPerson 2 (some .boolean) 1 := ⟨wd_504, wd_505, wd_63, wd_506, by decide +kernel, by decide +kernel, by decide +kernel⟩
theorem mv_X3_everybody : MV yX3_everybody cX3_everybody 1 (some .int) 0 := ⟨wd_427, wd_428, wd_63, wd_429, by decide +kernel, by decide +kernel, by decide +kernel⟩
theorem mv_X3_hasPeople : MV yX3_hasPeople cX3_hasPeople 2 (some .boolean) 1 := ⟨wd_628, wd_629, wd_63, wd_630, by decide +kernel, by decide +kernel, by decide +kernel⟩
theorem mv_X3_hasFact : MV yX3_hasFact cX3_hasFact 2 (some .boolean) 1 := ⟨wd_490, wd_491, wd_63, wd_492, by decide +kernel, by decide +kernel, by decide +kernel⟩
theorem mv_X3_hasFactOrNone : MV yX3_hasFactOrNone cX3_hasFactOrNone 2 (some .boolean) 1 := ⟨wd_633, wd_634, wd_63, wd_635, by decide +kernel, by decide +kernel, by decide +kernel⟩
theorem mv_X3_hasBridge : MV yX3_hasBridge cX3_hasBridge 2 (some .boolean) 1 := ⟨wd_541, wd_542, wd_63, wd_543, by decide +kernel, by decide +kernel, by decide +kernel⟩
theorem mv_X3_addFact : MV yX3_addFact cX3_addFact 4 none 3 := ⟨wd_419, wd_420, wd_63, wd_421, by decide +kernel, by decide +kernel, by decide +kernel⟩
theorem mv_X3_addFriendship : MV yX3_addFriendship cX3_addFriendship 3 none 2 := ⟨wd_435, wd_436, wd_63, wd_437, by decide +kernel, by decide +kernel, by decide +kernel⟩
theorem mv_X3_waysOut : MV yX3_waysOut cX3_waysOut 9 (some .int) 1 := ⟨wd_718, wd_719, wd_63, wd_720, by decide +kernel, by decide +kernel, by decide +kernel⟩
theorem mv_X4_add : MV yX4_add cX4_add 2 (some .int) 1 := ⟨wd_360, wd_361, wd_62, wd_362, by decide +kernel, by decide +kernel, by decide +kernel⟩
theorem mv_X4_blame : MV yX4_blame cX4_blame 3 none 2 := ⟨wd_397, wd_4, wd_62, wd_398, by decide +kernel, by decide +kernel, by decide +kernel⟩
theorem mv_X4_faultOfWord : MV yX4_faultOfWord cX4_faultOfWord 3 (some .int) 2 := ⟨wd_393, wd_3, wd_62, wd_394, by decide +kernel, by decide +kernel, by decide +kernel⟩
theorem mv_X4_letterHere : MV yX4_letterHere cX4_letterHere 1 (some .int) 0 := ⟨wd_385, wd_1, wd_62, wd_386, by decide +kernel, by decide +kernel, by decide +kernel⟩
theorem mv_X4_isFigure : MS yX4_isFigure cX4_isFigure 1 (some .boolean) 1 := ⟨wd_408, wd_62, wd_409, by decide +kernel, by decide +kernel, by decide +kernel⟩
theorem mv_X4_skipBlanks : MV yX4_skipBlanks cX4_skipBlanks 1 none 0 := ⟨wd_381, wd_0, wd_62, wd_382, by decide +kernel, by decide +kernel, by decide +kernel⟩
theorem mv_X4_readNumber : MV yX4_readNumber cX4_readNumber 4 (some .int) 2 := ⟨wd_405, wd_6, wd_62, wd_406, by decide +kernel, by decide +kernel, by decide +kernel⟩
theorem mv_X4_readBridge : MV yX4_readBridge cX4_readBridge 3 none 1 := ⟨wd_448, wd_12, wd_62, wd_449, by decide +kernel, by decide +kernel, by decide +kernel⟩
theorem mv_X4_readEnd : MV yX4_readEnd cX4_readEnd 1 none 0 := ⟨wd_456, wd_14, wd_62, wd_457, by decide +kernel, by decide +kernel, by decide +kernel⟩
theorem mv_X4_readPerson : MV yX4_readPerson cX4_readPerson 2 (some .int) 1 := ⟨wd_416, wd_8, wd_62, wd_417, by decide +kernel, by decide +kernel, by decide +kernel⟩
theorem mv_X4_readFact : MV yX4_readFact cX4_readFact 5 none 1 := ⟨wd_412, wd_7, wd_62, wd_413, by decide +kernel, by decide +kernel, by decide +kernel⟩
theorem mv_X4_readFriendship : MV yX4_readFriendship cX4_readFriendship 4 none 1 := ⟨wd_432, wd_10, wd_62, wd_433, by decide +kernel, by decide +kernel, by decide +kernel⟩
theorem mv_X4_readKnowers : MV yX4_readKnowers cX4_readKnowers 4 none 1 := ⟨wd_424, wd_9, wd_62, wd_425, by decide +kernel, by decide +kernel, by decide +kernel⟩
theorem mv_X4_readMemory : MV yX4_readMemory cX4_readMemory 3 none 1 := ⟨wd_452, wd_13, wd_62, wd_453, by decide +kernel, by decide +kernel, by decide +kernel⟩
theorem mv_X4_readPeople : MV yX4_readPeople cX4_readPeople 3 none 1 := ⟨wd_401, wd_5, wd_62, wd_402, by decide +kernel, by decide +kernel, by decide +kernel⟩
theorem mv_X4_readQuiet : MV yX4_readQuiet cX4_readQuiet 3 none 1 := ⟨wd_440, wd_11, wd_62, wd_441, by decide +kernel, by decide +kernel, by decide +kernel⟩
theorem mv_X4_readClause : MV yX4_readClause cX4_readClause 4 none 1 := ⟨wd_389, wd_2, wd_62, wd_390, by decide +kernel, by decide +kernel, by decide +kernel⟩
theorem mv_X4_readInto : MV yX4_readInto cX4_readInto 3 (some .int) 1 := ⟨wd_369, wd_370, wd_62, wd_371, by decide +kernel, by decide +kernel, by decide +kernel⟩
theorem mv_X5_gramsAHead : MS yX5_gramsAHead cX5_gramsAHead 4 (some .int) 2 := ⟨wd_739, wd_69, wd_740, by decide +kernel, by decide +kernel, by decide +kernel⟩
theorem mv_X5_findParts : MS yX5_findParts cX5_findParts 5 none 3 := ⟨wd_735, wd_69, wd_736, by decide +kernel, by decide +kernel, by decide +kernel⟩
theorem mv_X5_agree : MV yX5_agree cX5_agree 5 (some .int) 3 := ⟨wd_731, wd_732, wd_69, wd_733, by decide +kernel, by decide +kernel, by decide +kernel⟩
theorem mv_X6_add : MV yX6_add cX6_add 3 (some .int) 2 := ⟨wd_777, wd_778, wd_65, wd_779, by decide +kernel, by decide +kernel, by decide +kernel⟩
theorem mv_X6_firstWrong : MV yX6_firstWrong cX6_firstWrong 4 (some .int) 2 := ⟨wd_790, wd_791, wd_65, wd_792, by decide +kernel, by decide +kernel, by decide +kernel⟩
theorem mv_X7_addFact : MV yX7_addFact cX7_addFact 6 none 2 := ⟨wd_681, wd_22, wd_67, wd_682, by decide +kernel, by decide +kernel, by decide +kernel⟩
theorem mv_X7_spread : MV yX7_spread cX7_spread 5 none 2 := ⟨wd_674, wd_675, wd_67, wd_676, by decide +kernel, by decide +kernel, by decide +kernel⟩
theorem mv_X7_countAt : MV yX7_countAt cX7_countAt 3 (some .int) 1 := ⟨wd_687, wd_688, wd_67, wd_689, by decide +kernel, by decide +kernel, by decide +kernel⟩
theorem mv_X7_fewestHeads : MV yX7_fewestHeads cX7_fewestHeads 5 (some .int) 3 := ⟨wd_691, wd_692, wd_67, wd_693, by decide +kernel, by decide +kernel, by decide +kernel⟩
theorem mv_X7_mostHeads : MV yX7_mostHeads cX7_mostHeads 5 (some .int) 3 := ⟨wd_701, wd_702, wd_67, wd_703, by decide +kernel, by decide +kernel, by decide +kernel⟩
theorem mv_X8_feed : MV yX8_feed cX8_feed 2 (some .int) 1 := ⟨wd_355, wd_356, wd_61, wd_357, by decide +kernel, by decide +kernel, by decide +kernel⟩
theorem mv_X8_land : MV yX8_land cX8_land 3 (some .int) 0 := ⟨wd_365, wd_366, wd_61, wd_367, by decide +kernel, by decide +kernel, by decide +kernel⟩
theorem mv_X8_fault : MV yX8_fault cX8_fault 1 (some .int) 0 := ⟨wd_464, wd_465, wd_61, wd_466, by decide +kernel, by decide +kernel, by decide +kernel⟩
theorem mv_X8_told : MV yX8_told cX8_told 2 (some .int) 1 := ⟨wd_468, wd_469, wd_61, wd_470, by decide +kernel, by decide +kernel, by decide +kernel⟩
theorem mv_X8_fact : MV yX8_fact cX8_fact 3 (some .int) 2 := ⟨wd_486, wd_487, wd_61, wd_488, by decide +kernel, by decide +kernel, by decide +kernel⟩
theorem mv_X8_person : MV yX8_person cX8_person 3 (some .int) 2 := ⟨wd_500, wd_501, wd_61, wd_502, by decide +kernel, by decide +kernel, by decide +kernel⟩
theorem mv_X8_since : MV yX8_since cX8_since 3 (some .int) 2 := ⟨wd_513, wd_514, wd_61, wd_515, by decide +kernel, by decide +kernel, by decide +kernel⟩
theorem mv_X8_weight : MV yX8_weight cX8_weight 2 (some .int) 1 := ⟨wd_525, wd_526, wd_61, wd_527, by decide +kernel, by decide +kernel, by decide +kernel⟩
theorem mv_X8_bridge : MV yX8_bridge cX8_bridge 2 (some .int) 1 := ⟨wd_537, wd_538, wd_61, wd_539, by decide +kernel, by decide +kernel, by decide +kernel⟩
theorem mv_X8_tell : MV yX8_tell cX8_tell 3 (some .int) 2 := ⟨wd_545, wd_546, wd_61, wd_547, by decide +kernel, by decide +kernel, by decide +kernel⟩
theorem mv_X8_forget : MV yX8_forget cX8_forget 3 (some .int) 2 := ⟨wd_554, wd_555, wd_61, wd_556, by decide +kernel, by decide +kernel, by decide +kernel⟩
theorem mv_X8_refusalOfHours : MV yX8_refusalOfHours cX8_refusalOfHours 2 (some .int) 1 := ⟨wd_567, wd_15, wd_61, wd_568, by decide +kernel, by decide +kernel, by decide +kernel⟩
theorem mv_X8_hour : MV yX8_hour cX8_hour 4 (some .int) 1 := ⟨wd_562, wd_563, wd_61, wd_564, by decide +kernel, by decide +kernel, by decide +kernel⟩
theorem mv_X8_drift : MV yX8_drift cX8_drift 4 (some .int) 1 := ⟨wd_593, wd_594, wd_61, wd_595, by decide +kernel, by decide +kernel, by decide +kernel⟩
theorem mv_X8_heavy : MV yX8_heavy cX8_heavy 4 (some .int) 2 := ⟨wd_609, wd_610, wd_61, wd_611, by decide +kernel, by decide +kernel, by decide +kernel⟩
theorem mv_X8_when : MV yX8_when cX8_when 4 (some .int) 2 := ⟨wd_620, wd_621, wd_61, wd_622, by decide +kernel, by decide +kernel, by decide +kernel⟩
theorem mv_X8_timesToForget : MS yX8_timesToForget cX8_timesToForget 4 (some .int) 3 := ⟨wd_643, wd_61, wd_644, by decide +kernel, by decide +kernel, by decide +kernel⟩
theorem mv_X8_least : MV yX8_least cX8_least 10 (some .int) 3 := ⟨wd_624, wd_625, wd_61, wd_626, by decide +kernel, by decide +kernel, by decide +kernel⟩
theorem mv_X8_trips : MV yX8_trips cX8_trips 4 (some .int) 3 := ⟨wd_646, wd_647, wd_61, wd_648, by decide +kernel, by decide +kernel, by decide +kernel⟩
theorem mv_X8_canWeigh : MS yX8_canWeigh cX8_canWeigh 1 (some .boolean) 1 := ⟨wd_671, wd_61, wd_672, by decide +kernel, by decide +kernel, by decide +kernel⟩
theorem mv_X8_counted : MV yX8_counted cX8_counted 5 (some .int) 4 := ⟨wd_667, wd_668, wd_61, wd_669, by decide +kernel, by decide +kernel, by decide +kernel⟩
theorem mv_X8_lies : MV yX8_lies cX8_lies 10 (some .int) 3 := ⟨wd_705, wd_706, wd_61, wd_707, by decide +kernel, by decide +kernel, by decide +kernel⟩
theorem mv_X8_fewestToBreak : MV yX8_fewestToBreak cX8_fewestToBreak 7 (some .int) 2 := ⟨wd_715, wd_23, wd_61, wd_716, by decide +kernel, by decide +kernel, by decide +kernel⟩
theorem mv_X8_apart : MV yX8_apart cX8_apart 5 (some .int) 3 := ⟨wd_710, wd_711, wd_61, wd_712, by decide +kernel, by decide +kernel, by decide +kernel⟩
theorem mv_X8_factsToForget : MV yX8_factsToForget cX8_factsToForget 3 (some .int) 2 := ⟨wd_728, wd_24, wd_61, wd_729, by decide +kernel, by decide +kernel, by decide +kernel⟩
theorem mv_X8_treaty : MV yX8_treaty cX8_treaty 5 (some .int) 3 := ⟨wd_723, wd_724, wd_61, wd_725, by decide +kernel, by decide +kernel, by decide +kernel⟩
theorem mv_X8_odds : MV yX8_odds cX8_odds 4 (some .int) 3 := ⟨wd_743, wd_744, wd_61, wd_745, by decide +kernel, by decide +kernel, by decide +kernel⟩
theorem mv_X8_write : MV yX8_write cX8_write 3 (some .int) 2 := ⟨wd_773, wd_774, wd_61, wd_775, by decide +kernel, by decide +kernel, by decide +kernel⟩
theorem mv_X8_tear : MV yX8_tear cX8_tear 2 (some .int) 0 := ⟨wd_782, wd_783, wd_61, wd_784, by decide +kernel, by decide +kernel, by decide +kernel⟩
theorem mv_X8_judge : MV yX8_judge cX8_judge 1 (some .int) 0 := ⟨wd_786, wd_787, wd_61, wd_788, by decide +kernel, by decide +kernel, by decide +kernel⟩
theorem mv_X8_seed : MV yX8_seed cX8_seed 3 (some .int) 1 := ⟨wd_795, wd_796, wd_61, wd_797, by decide +kernel, by decide +kernel, by decide +kernel⟩
theorem mv_X8_keep : MV yX8_keep cX8_keep 2 (some .int) 1 := ⟨wd_799, wd_800, wd_61, wd_801, by decide +kernel, by decide +kernel, by decide +kernel⟩
theorem mv_X8_goBack : MV yX8_goBack cX8_goBack 2 (some .int) 1 := ⟨wd_803, wd_804, wd_61, wd_805, by decide +kernel, by decide +kernel, by decide +kernel⟩
theorem mv_X9_in : MS yX9_in cX9_in 3 (some .boolean) 3 := ⟨wd_938, wd_70, wd_939, by decide +kernel, by decide +kernel, by decide +kernel⟩
theorem mv_X9_has : MS yX9_has cX9_has 2 (some .boolean) 2 := ⟨wd_987, wd_70, wd_988, by decide +kernel, by decide +kernel, by decide +kernel⟩
theorem mv_X9_begin : MV yX9_begin cX9_begin 2 none 0 := ⟨wd_814, wd_27, wd_70, wd_815, by decide +kernel, by decide +kernel, by decide +kernel⟩
theorem mv_X9_isOne : MV yX9_isOne cX9_isOne 2 (some .boolean) 1 := ⟨wd_1035, wd_44, wd_70, wd_1036, by decide +kernel, by decide +kernel, by decide +kernel⟩
theorem mv_X9_isFact : MV yX9_isFact cX9_isFact 2 (some .boolean) 1 := ⟨wd_1022, wd_42, wd_70, wd_1023, by decide +kernel, by decide +kernel, by decide +kernel⟩
theorem mv_X9_isBridge : MV yX9_isBridge cX9_isBridge 2 (some .boolean) 1 := ⟨wd_1067, wd_49, wd_70, wd_1068, by decide +kernel, by decide +kernel, by decide +kernel⟩
theorem mv_X9_isSet : MV yX9_isSet cX9_isSet 2 (some .boolean) 1 := ⟨wd_1124, wd_54, wd_70, wd_1125, by decide +kernel, by decide +kernel, by decide +kernel⟩
theorem mv_X9_feed : MV yX9_feed cX9_feed 2 (some .int) 1 := ⟨wd_934, wd_935, wd_70, wd_936, by decide +kernel, by decide +kernel, by decide +kernel⟩
theorem mv_X9_nextToken : MV yX9_nextToken cX9_nextToken 1 none 0 := ⟨wd_952, wd_29, wd_70, wd_953, by decide +kernel, by decide +kernel, by decide +kernel⟩
theorem mv_X9_fails : MV yX9_fails cX9_fails 2 (some .boolean) 1 := ⟨wd_960, wd_31, wd_70, wd_961, by decide +kernel, by decide +kernel, by decide +kernel⟩
theorem mv_X9_isNumber : MV yX9_isNumber cX9_isNumber 3 (some .boolean) 2 := ⟨wd_964, wd_32, wd_70, wd_965, by decide +kernel, by decide +kernel, by decide +kernel⟩
theorem mv_X9_isEnd : MV yX9_isEnd cX9_isEnd 1 (some .boolean) 0 := ⟨wd_968, wd_33, wd_70, wd_969, by decide +kernel, by decide +kernel, by decide +kernel⟩
theorem mv_X9_isPeopleLine : MV yX9_isPeopleLine cX9_isPeopleLine 1 (some .boolean) 0 := ⟨wd_956, wd_30, wd_70, wd_957, by decide +kernel, by decide +kernel, by decide +kernel⟩
theorem mv_X9_isFactLine : MV yX9_isFactLine cX9_isFactLine 3 (some .boolean) 0 := ⟨wd_972, wd_34, wd_70, wd_973, by decide +kernel, by decide +kernel, by decide +kernel⟩
theorem mv_X9_isKnownLine : MV yX9_isKnownLine cX9_isKnownLine 2 (some .boolean) 0 := ⟨wd_976, wd_35, wd_70, wd_977, by decide +kernel, by decide +kernel, by decide +kernel⟩
theorem mv_X9_isPairLine : MV yX9_isPairLine cX9_isPairLine 6 (some .boolean) 0 := ⟨wd_980, wd_36, wd_70, wd_981, by decide +kernel, by decide +kernel, by decide +kernel⟩
theorem mv_X9_isQuietLine : MV yX9_isQuietLine cX9_isQuietLine 1 (some .boolean) 0 := ⟨wd_984, wd_37, wd_70, wd_985, by decide +kernel, by decide +kernel, by decide +kernel⟩
theorem mv_X9_isBridgeLine : MV yX9_isBridgeLine cX9_isBridgeLine 1 (some .boolean) 0 := ⟨wd_991, wd_38, wd_70, wd_992, by decide +kernel, by decide +kernel, by decide +kernel⟩
theorem mv_X9_isHoursLine : MV yX9_isHoursLine cX9_isHoursLine 1 (some .boolean) 0 := ⟨wd_995, wd_39, wd_70, wd_996, by decide +kernel, by decide +kernel, by decide +kernel⟩
theorem mv_X9_isRead : MV yX9_isRead cX9_isRead 2 (some .boolean) 0 := ⟨wd_948, wd_28, wd_70, wd_949, by decide +kernel, by decide +kernel, by decide +kernel⟩
theorem mv_X9_land : MV yX9_land cX9_land 4 (some .int) 0 := ⟨wd_943, wd_944, wd_70, wd_945, by decide +kernel, by decide +kernel, by decide +kernel⟩
theorem mv_X9_fault : MV yX9_fault cX9_fault 1 (some .int) 0 := ⟨wd_998, wd_999, wd_70, wd_1000, by decide +kernel, by decide +kernel, by decide +kernel⟩
theorem mv_X9_personOf : MV yX9_personOf cX9_personOf 2 (some .int) 1 := ⟨wd_1011, wd_41, wd_70, wd_1012, by decide +kernel, by decide +kernel, by decide +kernel⟩
theorem mv_X9_gramsOf : MV yX9_gramsOf cX9_gramsOf 2 (some .int) 1 := ⟨wd_1055, wd_47, wd_70, wd_1056, by decide +kernel, by decide +kernel, by decide +kernel⟩
theorem mv_X9_isLie : MV yX9_isLie cX9_isLie 2 (some .boolean) 1 := ⟨wd_1059, wd_48, wd_70, wd_1060, by decide +kernel, by decide +kernel, by decide +kernel⟩
theorem mv_X9_knows : MS yX9_knows cX9_knows 3 (some .boolean) 3 := ⟨wd_1014, wd_70, wd_1015, by decide +kernel, by decide +kernel, by decide +kernel⟩
theorem mv_X9_knowersOf : MV yX9_knowersOf cX9_knowersOf 5 (some .int) 2 := ⟨wd_1027, wd_43, wd_70, wd_1028, by decide +kernel, by decide +kernel, by decide +kernel⟩
theorem mv_X9_headsOf : MV yX9_headsOf cX9_headsOf 5 (some .int) 2 := ⟨wd_1007, wd_40, wd_70, wd_1008, by decide +kernel, by decide +kernel, by decide +kernel⟩
theorem mv_X9_weightOf : MV yX9_weightOf cX9_weightOf 6 (some .int) 2 := ⟨wd_1051, wd_46, wd_70, wd_1052, by decide +kernel, by decide +kernel, by decide +kernel⟩
theorem mv_X9_friendsOf : MV yX9_friendsOf cX9_friendsOf 4 (some .int) 1 := ⟨wd_1039, wd_45, wd_70, wd_1040, by decide +kernel, by decide +kernel, by decide +kernel⟩
theorem mv_X9_copy : MS yX9_copy cX9_copy 5 none 4 := ⟨wd_1088, wd_70, wd_1089, by decide +kernel, by decide +kernel, by decide +kernel⟩
theorem mv_X9_tells : MV yX9_tells cX9_tells 6 none 1 := ⟨wd_1096, wd_52, wd_70, wd_1097, by decide +kernel, by decide +kernel, by decide +kernel⟩
theorem mv_X9_pass : MV yX9_pass cX9_pass 2 none 0 := ⟨wd_1092, wd_51, wd_70, wd_1093, by decide +kernel, by decide +kernel, by decide +kernel⟩
theorem mv_X9_told : MV yX9_told cX9_told 4 (some .int) 1 := ⟨wd_1002, wd_1003, wd_70, wd_1004, by decide +kernel, by decide +kernel, by decide +kernel⟩
theorem mv_X9_fact : MV yX9_fact cX9_fact 3 (some .int) 2 := ⟨wd_1017, wd_1018, wd_70, wd_1019, by decide +kernel, by decide +kernel, by decide +kernel⟩
theorem mv_X9_person : MV yX9_person cX9_person 6 (some .int) 2 := ⟨wd_1030, wd_1031, wd_70, wd_1032, by decide +kernel, by decide +kernel, by decide +kernel⟩
theorem mv_X9_since : MV yX9_since cX9_since 3 (some .int) 2 := ⟨wd_1042, wd_1043, wd_70, wd_1044, by decide +kernel, by decide +kernel, by decide +kernel⟩
theorem mv_X9_weight : MV yX9_weight cX9_weight 2 (some .int) 1 := ⟨wd_1046, wd_1047, wd_70, wd_1048, by decide +kernel, by decide +kernel, by decide +kernel⟩
theorem mv_X9_bridge : MV yX9_bridge cX9_bridge 2 (some .int) 1 := ⟨wd_1062, wd_1063, wd_70, wd_1064, by decide +kernel, by decide +kernel, by decide +kernel⟩
theorem mv_X9_tell : MV yX9_tell cX9_tell 3 (some .int) 2 := ⟨wd_1070, wd_1071, wd_70, wd_1072, by decide +kernel, by decide +kernel, by decide +kernel⟩
theorem mv_X9_forget : MV yX9_forget cX9_forget 3 (some .int) 2 := ⟨wd_1075, wd_1076, wd_70, wd_1077, by decide +kernel, by decide +kernel, by decide +kernel⟩
theorem mv_X9_barred : MV yX9_barred cX9_barred 2 (some .int) 1 := ⟨wd_1084, wd_50, wd_70, wd_1085, by decide +kernel, by decide +kernel, by decide +kernel⟩
theorem mv_X9_hour : MV yX9_hour cX9_hour 4 (some .int) 1 := ⟨wd_1079, wd_1080, wd_70, wd_1081, by decide +kernel, by decide +kernel, by decide +kernel⟩
theorem mv_X9_draw : MV yX9_draw cX9_draw 2 (some .int) 1 := ⟨wd_1104, wd_53, wd_70, wd_1105, by decide +kernel, by decide +kernel, by decide +kernel⟩
theorem mv_X9_drift : MV yX9_drift cX9_drift 6 (some .int) 1 := ⟨wd_1099, wd_1100, wd_70, wd_1101, by decide +kernel, by decide +kernel, by decide +kernel⟩
theorem mv_X9_heavy : MV yX9_heavy cX9_heavy 4 (some .int) 2 := ⟨wd_1111, wd_1112, wd_70, wd_1113, by decide +kernel, by decide +kernel, by decide +kernel⟩
theorem mv_X9_when : MV yX9_when cX9_when 4 (some .int) 2 := ⟨wd_1115, wd_1116, wd_70, wd_1117, by decide +kernel, by decide +kernel, by decide +kernel⟩
theorem mv_X9_least : MV yX9_least cX9_least 10 (some .int) 3 := ⟨wd_1119, wd_1120, wd_70, wd_1121, by decide +kernel, by decide +kernel, by decide +kernel⟩
theorem mv_X9_togetherOf : MV yX9_togetherOf cX9_togetherOf 4 (some .int) 1 := ⟨wd_1132, wd_55, wd_70, wd_1133, by decide +kernel, by decide +kernel, by decide +kernel⟩
theorem mv_X9_trips : MV yX9_trips cX9_trips 10 (some .int) 3 := ⟨wd_1127, wd_1128, wd_70, wd_1129, by decide +kernel, by decide +kernel, by decide +kernel⟩
theorem mv_X9_layWays : MV yX9_layWays cX9_layWays 8 none 3 := ⟨wd_1140, wd_56, wd_70, wd_1141, by decide +kernel, by decide +kernel, by decide +kernel⟩
theorem mv_X9_waysTo : MV yX9_waysTo cX9_waysTo 2 (some .long) 1 := ⟨wd_1144, wd_57, wd_70, wd_1145, by decide +kernel, by decide +kernel, by decide +kernel⟩
theorem mv_X9_counted : MV yX9_counted cX9_counted 8 (some .int) 4 := ⟨wd_1135, wd_1136, wd_70, wd_1137, by decide +kernel, by decide +kernel, by decide +kernel⟩
theorem mv_X9_lies : MV yX9_lies cX9_lies 12 (some .int) 3 := ⟨wd_1147, wd_1148, wd_70, wd_1149, by decide +kernel, by decide +kernel, by decide +kernel⟩
theorem mv_X9_canCome : MV yX9_canCome cX9_canCome 11 (some .boolean) 3 := ⟨wd_1159, wd_58, wd_70, wd_1160, by decide +kernel, by decide +kernel, by decide +kernel⟩
theorem mv_X9_bits : MS yX9_bits cX9_bits 3 (some .int) 1 := ⟨wd_1155, wd_70, wd_1156, by decide +kernel, by decide +kernel, by decide +kernel⟩
theorem mv_X9_apart : MV yX9_apart cX9_apart 6 (some .int) 3 := ⟨wd_1151, wd_1152, wd_70, wd_1153, by decide +kernel, by decide +kernel, by decide +kernel⟩
theorem mv_X9_forgotten : MV yX9_forgotten cX9_forgotten 10 (some .int) 3 := ⟨wd_1167, wd_59, wd_70, wd_1168, by decide +kernel, by decide +kernel, by decide +kernel⟩
theorem mv_X9_treaty : MV yX9_treaty cX9_treaty 5 (some .int) 3 := ⟨wd_1162, wd_1163, wd_70, wd_1164, by decide +kernel, by decide +kernel, by decide +kernel⟩
theorem mv_X9_odds : MV yX9_odds cX9_odds 10 (some .int) 3 := ⟨wd_1170, wd_1171, wd_70, wd_1172, by decide +kernel, by decide +kernel, by decide +kernel⟩
theorem mv_X9_write : MV yX9_write cX9_write 3 (some .int) 2 := ⟨wd_1176, wd_1177, wd_70, wd_1178, by decide +kernel, by decide +kernel, by decide +kernel⟩
theorem mv_X9_tear : MV yX9_tear cX9_tear 2 (some .int) 0 := ⟨wd_1180, wd_1181, wd_70, wd_1182, by decide +kernel, by decide +kernel, by decide +kernel⟩
theorem mv_X9_judge : MV yX9_judge cX9_judge 2 (some .int) 0 := ⟨wd_1184, wd_1185, wd_70, wd_1186, by decide +kernel, by decide +kernel, by decide +kernel⟩
theorem mv_X9_seed : MV yX9_seed cX9_seed 3 (some .int) 1 := ⟨wd_1188, wd_1189, wd_70, wd_1190, by decide +kernel, by decide +kernel, by decide +kernel⟩
theorem mv_X9_keep : MV yX9_keep cX9_keep 2 (some .int) 1 := ⟨wd_1192, wd_1193, wd_70, wd_1194, by decide +kernel, by decide +kernel, by decide +kernel⟩
theorem mv_X9_goBack : MV yX9_goBack cX9_goBack 2 (some .int) 1 := ⟨wd_1196, wd_1197, wd_70, wd_1198, by decide +kernel, by decide +kernel, by decide +kernel⟩
