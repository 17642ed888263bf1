theorem bw_0 : ((.constantLong RX0 13 (1103515245) : Cond)) ∈ mm_big := mm_inb (by decide +kernel) rfl
theorem bw_1 : ((.fieldLink RX0 7 "WhisperDome$Draws" "seed" "J" : Cond)) ∈ mm_big := mm_inb (by decide +kernel) rfl
theorem bw_2 : ((.constantLong RX0 15 (12345) : Cond)) ∈ mm_big := mm_inb (by decide +kernel) rfl
theorem bw_3 : ((.constantLong RX0 17 (2147483648) : Cond)) ∈ mm_big := mm_inb (by decide +kernel) rfl
theorem bw_4 : ((.constantLong RX0 19 (65536) : Cond)) ∈ mm_big := mm_inb (by decide +kernel) rfl
theorem bw_5 : ((.fieldLink RX1 19 "WhisperDome$Hearing" "waiting" "I" : Cond)) ∈ mm_big := mm_inb (by decide +kernel) rfl
theorem bw_6 : ((.fieldLink RX1 9 "WhisperDome$Hearing" "minutes" "[I" : Cond)) ∈ mm_big := mm_inb (by decide +kernel) rfl
theorem bw_7 : ((.fieldLink RX1 15 "WhisperDome$Hearing" "hearers" "I" : Cond)) ∈ mm_big := mm_inb (by decide +kernel) rfl
theorem bw_8 : ((.fieldLink RX1 28 "WhisperDome$Scene" "kinds" "[I" : Cond)) ∈ mm_big := mm_inb (by decide +kernel) rfl
theorem bw_9 : ((.fieldLink RX1 48 "WhisperDome$Scene" "places" "[I" : Cond)) ∈ mm_big := mm_inb (by decide +kernel) rfl
theorem bw_10 : ((.fieldLink RX1 51 "WhisperDome$Plan" "heardAt" "[I" : Cond)) ∈ mm_big := mm_inb (by decide +kernel) rfl
theorem bw_11 : ((.fieldLink RX1 56 "WhisperDome$Scene" "clothBits" "I" : Cond)) ∈ mm_big := mm_inb (by decide +kernel) rfl
theorem bw_12 : ((.fieldLink RX1 33 "WhisperDome$Scene" "people" "I" : Cond)) ∈ mm_big := mm_inb (by decide +kernel) rfl
theorem bw_13 : ((.methodLink RX1 59 yX1_reach : Cond)) ∈ mm_big := mm_inb (by decide +kernel) rfl
theorem bw_14 : ((.fieldLink RX1 63 "WhisperDome$Plan" "later" "[I" : Cond)) ∈ mm_big := mm_inb (by decide +kernel) rfl
theorem bw_15 : ((.methodLink RX1 22 yJ7_fill_53178 : Cond)) ∈ mm_big := mm_inb (by decide +kernel) rfl
theorem bw_16 : ((.methodLink RX1 36 yX1_earliestWaiting : Cond)) ∈ mm_big := mm_inb (by decide +kernel) rfl
theorem bw_17 : ((.methodLink RX1 40 yX1_utter : Cond)) ∈ mm_big := mm_inb (by decide +kernel) rfl
theorem bw_18 : ((.fieldLink RX2 9 "WhisperDome$Plan" "heardAt" "[I" : Cond)) ∈ mm_big := mm_inb (by decide +kernel) rfl
theorem bw_19 : ((.fieldLink RX2 15 "WhisperDome$Plan" "later" "[I" : Cond)) ∈ mm_big := mm_inb (by decide +kernel) rfl
theorem bw_20 : ((.constant RJ6 265 (1431655765) : Cond)) ∈ mm_big := mm_inb (by decide +kernel) rfl
theorem bw_21 : ((.constant RJ6 266 (858993459) : Cond)) ∈ mm_big := mm_inb (by decide +kernel) rfl
theorem bw_22 : ((.constant RJ6 267 (252645135) : Cond)) ∈ mm_big := mm_inb (by decide +kernel) rfl
theorem bw_23 : ((.methodLink RX2 18 yX2_sources : Cond)) ∈ mm_big := mm_inb (by decide +kernel) rfl
theorem bw_24 : ((.methodLink RX2 22 yJ6_bitCount_0f7a4 : Cond)) ∈ mm_big := mm_inb (by decide +kernel) rfl
theorem bw_25 : ((.fieldLink RX3 31 "WhisperDome$Scene" "trials" "I" : Cond)) ∈ mm_big := mm_inb (by decide +kernel) rfl
theorem bw_26 : ((.fieldLink RX3 34 "WhisperDome$Scene" "heardBits" "I" : Cond)) ∈ mm_big := mm_inb (by decide +kernel) rfl
theorem bw_27 : ((.fieldLink RX3 37 "WhisperDome$Scene" "unheardBits" "I" : Cond)) ∈ mm_big := mm_inb (by decide +kernel) rfl
theorem bw_28 : ((.fieldLink RX3 9 "WhisperDome$Scene" "people" "I" : Cond)) ∈ mm_big := mm_inb (by decide +kernel) rfl
theorem bw_29 : ((.fieldLink RX3 25 "WhisperDome$Scene" "clothBits" "I" : Cond)) ∈ mm_big := mm_inb (by decide +kernel) rfl
theorem bw_30 : ((.fieldLink RX3 28 "WhisperDome$Scene" "said" "I" : Cond)) ∈ mm_big := mm_inb (by decide +kernel) rfl
theorem bw_31 : ((.methodLink RX3 40 yX3_dropTrials : Cond)) ∈ mm_big := mm_inb (by decide +kernel) rfl
theorem bw_32 : ((.fieldLink RX3 15 "WhisperDome$Scene" "kinds" "[I" : Cond)) ∈ mm_big := mm_inb (by decide +kernel) rfl
theorem bw_33 : ((.fieldLink RX3 19 "WhisperDome$Scene" "places" "[I" : Cond)) ∈ mm_big := mm_inb (by decide +kernel) rfl
theorem bw_34 : ((.fieldLink RX3 22 "WhisperDome$Scene" "known" "[I" : Cond)) ∈ mm_big := mm_inb (by decide +kernel) rfl
theorem bw_35 : ((.methodLink RX3 47 yJ6_bitCount_0f7a4 : Cond)) ∈ mm_big := mm_inb (by decide +kernel) rfl
theorem bw_36 : ((.fieldLink RX4 13 "WhisperDome" "letters" "I" : Cond)) ∈ mm_big := mm_inb (by decide +kernel) rfl
theorem bw_37 : ((.fieldLink RX4 9 "WhisperDome" "page" "[I" : Cond)) ∈ mm_big := mm_inb (by decide +kernel) rfl
theorem bw_38 : ((.methodLink RX4 64 yX4_fitsDome : Cond)) ∈ mm_big := mm_inb (by decide +kernel) rfl
theorem bw_39 : ((.methodLink RX4 68 yX4_fault : Cond)) ∈ mm_big := mm_inb (by decide +kernel) rfl
theorem bw_40 : ((.fieldLink RX4 20 "WhisperDome" "plan" "LWhisperDome$Plan;" : Cond)) ∈ mm_big := mm_inb (by decide +kernel) rfl
theorem bw_41 : ((.methodLink RX4 72 yX2_read : Cond)) ∈ mm_big := mm_inb (by decide +kernel) rfl
theorem bw_42 : ((.fieldLink RX4 27 "WhisperDome" "now" "LWhisperDome$Scene;" : Cond)) ∈ mm_big := mm_inb (by decide +kernel) rfl
theorem bw_43 : ((.methodLink RX4 76 yX3_clear : Cond)) ∈ mm_big := mm_inb (by decide +kernel) rfl
theorem bw_44 : ((.fieldLink RX4 54 "WhisperDome" "hasImage" "Z" : Cond)) ∈ mm_big := mm_inb (by decide +kernel) rfl
theorem bw_45 : ((.fieldLink RX4 58 "WhisperDome" "domesRead" "I" : Cond)) ∈ mm_big := mm_inb (by decide +kernel) rfl
theorem bw_46 : ((.methodLink RX4 79 yX2_heardElsewhere : Cond)) ∈ mm_big := mm_inb (by decide +kernel) rfl
theorem bw_47 : ((.methodLink RX4 178 yX4_hasDome : Cond)) ∈ mm_big := mm_inb (by decide +kernel) rfl
theorem bw_48 : ((.methodLink RX4 82 yX4_isPlace : Cond)) ∈ mm_big := mm_inb (by decide +kernel) rfl
theorem bw_49 : ((.fieldLink RX4 86 "WhisperDome$Plan" "heardAt" "[I" : Cond)) ∈ mm_big := mm_inb (by decide +kernel) rfl
theorem bw_50 : ((.fieldLink RX4 89 "WhisperDome$Plan" "later" "[I" : Cond)) ∈ mm_big := mm_inb (by decide +kernel) rfl
theorem bw_51 : ((.fieldLink RX4 92 "WhisperDome$Scene" "clothBits" "I" : Cond)) ∈ mm_big := mm_inb (by decide +kernel) rfl
theorem bw_52 : ((.methodLink RX4 95 yX4_hasBit : Cond)) ∈ mm_big := mm_inb (by decide +kernel) rfl
theorem bw_53 : ((.methodLink RX4 98 yX3_peopleAt : Cond)) ∈ mm_big := mm_inb (by decide +kernel) rfl
theorem bw_54 : ((.methodLink RX4 102 yX2_rent : Cond)) ∈ mm_big := mm_inb (by decide +kernel) rfl
theorem bw_55 : ((.methodLink RX4 105 yX2_sources : Cond)) ∈ mm_big := mm_inb (by decide +kernel) rfl
theorem bw_56 : ((.methodLink RX4 108 yX4_isKind : Cond)) ∈ mm_big := mm_inb (by decide +kernel) rfl
theorem bw_57 : ((.fieldLink RX4 111 "WhisperDome$Scene" "people" "I" : Cond)) ∈ mm_big := mm_inb (by decide +kernel) rfl
theorem bw_58 : ((.methodLink RX4 114 yX3_enter : Cond)) ∈ mm_big := mm_inb (by decide +kernel) rfl
theorem bw_59 : ((.methodLink RX4 118 yX4_isPerson : Cond)) ∈ mm_big := mm_inb (by decide +kernel) rfl
theorem bw_60 : ((.fieldLink RX4 121 "WhisperDome$Scene" "kinds" "[I" : Cond)) ∈ mm_big := mm_inb (by decide +kernel) rfl
theorem bw_61 : ((.fieldLink RX4 124 "WhisperDome$Scene" "places" "[I" : Cond)) ∈ mm_big := mm_inb (by decide +kernel) rfl
theorem bw_62 : ((.fieldLink RX4 127 "WhisperDome$Scene" "known" "[I" : Cond)) ∈ mm_big := mm_inb (by decide +kernel) rfl
theorem bw_63 : ((.fieldLink RX4 40 "WhisperDome" "hearing" "LWhisperDome$Hearing;" : Cond)) ∈ mm_big := mm_inb (by decide +kernel) rfl
theorem bw_64 : ((.methodLink RX4 130 yX1_spread : Cond)) ∈ mm_big := mm_inb (by decide +kernel) rfl
theorem bw_65 : ((.methodLink RX4 134 yX4_isOfKind : Cond)) ∈ mm_big := mm_inb (by decide +kernel) rfl
theorem bw_66 : ((.methodLink RX4 215 yX3_learn : Cond)) ∈ mm_big := mm_inb (by decide +kernel) rfl
theorem bw_67 : ((.fieldLink RX4 137 "WhisperDome$Scene" "said" "I" : Cond)) ∈ mm_big := mm_inb (by decide +kernel) rfl
theorem bw_68 : ((.methodLink RX4 140 yX4_tell : Cond)) ∈ mm_big := mm_inb (by decide +kernel) rfl
theorem bw_69 : ((.fieldLink RX4 144 "WhisperDome$Hearing" "minutes" "[I" : Cond)) ∈ mm_big := mm_inb (by decide +kernel) rfl
theorem bw_70 : ((.fieldLink RX4 34 "WhisperDome" "dream" "LWhisperDome$Scene;" : Cond)) ∈ mm_big := mm_inb (by decide +kernel) rfl
theorem bw_71 : ((.methodLink RX4 158 yX3_copyFrom : Cond)) ∈ mm_big := mm_inb (by decide +kernel) rfl
theorem bw_72 : ((.methodLink RX4 153 yJ6_bitCount_0f7a4 : Cond)) ∈ mm_big := mm_inb (by decide +kernel) rfl
theorem bw_73 : ((.methodLink RX4 147 yX4_isPair : Cond)) ∈ mm_big := mm_inb (by decide +kernel) rfl
theorem bw_74 : ((.fieldLink RX4 61 "WhisperDome" "screensDone" "I" : Cond)) ∈ mm_big := mm_inb (by decide +kernel) rfl
theorem bw_75 : ((.methodLink RX4 150 yX4_leastScreens : Cond)) ∈ mm_big := mm_inb (by decide +kernel) rfl
theorem bw_76 : ((.methodLink RX4 162 yX4_areAlone : Cond)) ∈ mm_big := mm_inb (by decide +kernel) rfl
theorem bw_77 : ((.fieldLink RX4 166 "WhisperDome$Scene" "trials" "I" : Cond)) ∈ mm_big := mm_inb (by decide +kernel) rfl
theorem bw_78 : ((.fieldLink RX4 169 "WhisperDome$Scene" "heardBits" "I" : Cond)) ∈ mm_big := mm_inb (by decide +kernel) rfl
theorem bw_79 : ((.fieldLink RX4 172 "WhisperDome$Scene" "unheardBits" "I" : Cond)) ∈ mm_big := mm_inb (by decide +kernel) rfl
theorem bw_80 : ((.methodLink RX4 175 yX3_dropTrials : Cond)) ∈ mm_big := mm_inb (by decide +kernel) rfl
theorem bw_81 : ((.fieldLink RX4 51 "WhisperDome" "hearersOf" "[I" : Cond)) ∈ mm_big := mm_inb (by decide +kernel) rfl
theorem bw_82 : ((.methodLink RX4 218 yX3_agrees : Cond)) ∈ mm_big := mm_inb (by decide +kernel) rfl
theorem bw_83 : ((.methodLink RX4 182 yX4_suspects : Cond)) ∈ mm_big := mm_inb (by decide +kernel) rfl
theorem bw_84 : ((.methodLink RX4 224 yJ9_max_7cf53 : Cond)) ∈ mm_big := mm_inb (by decide +kernel) rfl
theorem bw_85 : ((.methodLink RX4 221 yX4_leftAtWorst : Cond)) ∈ mm_big := mm_inb (by decide +kernel) rfl
theorem bw_86 : ((.methodLink RX4 185 yX4_bestToAsk : Cond)) ∈ mm_big := mm_inb (by decide +kernel) rfl
theorem bw_87 : ((.fieldLink RX4 47 "WhisperDome" "draws" "LWhisperDome$Draws;" : Cond)) ∈ mm_big := mm_inb (by decide +kernel) rfl
theorem bw_88 : ((.methodLink RX4 229 yX0_next : Cond)) ∈ mm_big := mm_inb (by decide +kernel) rfl
theorem bw_89 : ((.fieldLink RX4 188 "WhisperDome$Draws" "seed" "J" : Cond)) ∈ mm_big := mm_inb (by decide +kernel) rfl
theorem bw_90 : ((.methodLink RX4 192 yX4_dreamDay : Cond)) ∈ mm_big := mm_inb (by decide +kernel) rfl
theorem bw_91 : ((.methodLink RX4 195 yX3_wordsKnown : Cond)) ∈ mm_big := mm_inb (by decide +kernel) rfl
theorem bw_92 : ((.fieldLink RX4 31 "WhisperDome" "kept" "LWhisperDome$Scene;" : Cond)) ∈ mm_big := mm_inb (by decide +kernel) rfl
theorem bw_93 : ((.constantLong RX4 232 (31) : Cond)) ∈ mm_big := mm_inb (by decide +kernel) rfl
theorem bw_94 : ((.methodLink RX4 234 yX4_place : Cond)) ∈ mm_big := mm_inb (by decide +kernel) rfl
theorem bw_95 : ((.methodLink RX4 208 yX4_mix : Cond)) ∈ mm_big := mm_inb (by decide +kernel) rfl
theorem bw_96 : ((.constantLong RX4 198 (937) : Cond)) ∈ mm_big := mm_inb (by decide +kernel) rfl
theorem bw_97 : ((.methodLink RX4 200 yX4_digestPlaces : Cond)) ∈ mm_big := mm_inb (by decide +kernel) rfl
theorem bw_98 : ((.methodLink RX4 204 yX4_digestPerson : Cond)) ∈ mm_big := mm_inb (by decide +kernel) rfl
theorem bw_99 : ((.methodLink RX4 212 yX4_count : Cond)) ∈ mm_big := mm_inb (by decide +kernel) rfl
theorem bw_100 : ((.constantLong RX5 41 (126) : Cond)) ∈ mm_big := mm_inb (by decide +kernel) rfl
theorem bw_101 : ((.methodLink RX5 43 yX5_in : Cond)) ∈ mm_big := mm_inb (by decide +kernel) rfl
theorem bw_102 : ((.fieldLink RX5 47 "WhisperDomeModel" "pageMany" "I" : Cond)) ∈ mm_big := mm_inb (by decide +kernel) rfl
theorem bw_103 : ((.fieldLink RX5 7 "WhisperDomeModel" "page" "[I" : Cond)) ∈ mm_big := mm_inb (by decide +kernel) rfl
theorem bw_104 : ((.constantLong RX5 50 (97) : Cond)) ∈ mm_big := mm_inb (by decide +kernel) rfl
theorem bw_105 : ((.constantLong RX5 52 (104) : Cond)) ∈ mm_big := mm_inb (by decide +kernel) rfl
theorem bw_106 : ((.constantLong RX5 54 (48) : Cond)) ∈ mm_big := mm_inb (by decide +kernel) rfl
theorem bw_107 : ((.constantLong RX5 56 (57) : Cond)) ∈ mm_big := mm_inb (by decide +kernel) rfl
theorem bw_108 : ((.methodLink RX5 58 yX5_isGood : Cond)) ∈ mm_big := mm_inb (by decide +kernel) rfl
theorem bw_109 : ((.methodLink RX5 62 yX5_faultOf : Cond)) ∈ mm_big := mm_inb (by decide +kernel) rfl
theorem bw_110 : ((.fieldLink RX5 13 "WhisperDomeModel" "goals" "[I" : Cond)) ∈ mm_big := mm_inb (by decide +kernel) rfl
theorem bw_111 : ((.fieldLink RX5 16 "WhisperDomeModel" "later" "[I" : Cond)) ∈ mm_big := mm_inb (by decide +kernel) rfl
theorem bw_112 : ((.fieldLink RX5 66 "WhisperDomeModel" "isThere" "Z" : Cond)) ∈ mm_big := mm_inb (by decide +kernel) rfl
theorem bw_113 : ((.fieldLink RX5 70 "WhisperDomeModel" "clothBits" "I" : Cond)) ∈ mm_big := mm_inb (by decide +kernel) rfl
theorem bw_114 : ((.fieldLink RX5 73 "WhisperDomeModel" "saidMany" "I" : Cond)) ∈ mm_big := mm_inb (by decide +kernel) rfl
theorem bw_115 : ((.fieldLink RX5 76 "WhisperDomeModel" "people" "I" : Cond)) ∈ mm_big := mm_inb (by decide +kernel) rfl
theorem bw_116 : ((.fieldLink RX5 79 "WhisperDomeModel" "trialMany" "I" : Cond)) ∈ mm_big := mm_inb (by decide +kernel) rfl
theorem bw_117 : ((.fieldLink RX5 82 "WhisperDomeModel" "domesRead" "I" : Cond)) ∈ mm_big := mm_inb (by decide +kernel) rfl
theorem bw_118 : ((.constantLong RX5 85 (7) : Cond)) ∈ mm_big := mm_inb (by decide +kernel) rfl
theorem bw_119 : ((.fieldLink RX5 19 "WhisperDomeModel" "rows" "[I" : Cond)) ∈ mm_big := mm_inb (by decide +kernel) rfl
theorem bw_120 : ((.methodLink RX5 87 yX5_heardAt : Cond)) ∈ mm_big := mm_inb (by decide +kernel) rfl
theorem bw_121 : ((.methodLink RX5 91 yX5_ones : Cond)) ∈ mm_big := mm_inb (by decide +kernel) rfl
theorem bw_122 : ((.methodLink RX5 94 yX5_whoIsAt : Cond)) ∈ mm_big := mm_inb (by decide +kernel) rfl
theorem bw_123 : ((.methodLink RX5 97 yX5_rentOf : Cond)) ∈ mm_big := mm_inb (by decide +kernel) rfl
theorem bw_124 : ((.methodLink RX5 100 yX5_isPlace : Cond)) ∈ mm_big := mm_inb (by decide +kernel) rfl
theorem bw_125 : ((.methodLink RX5 104 yX5_tellPlace : Cond)) ∈ mm_big := mm_inb (by decide +kernel) rfl
theorem bw_126 : ((.constantLong RX5 108 (4) : Cond)) ∈ mm_big := mm_inb (by decide +kernel) rfl
theorem bw_127 : ((.fieldLink RX5 22 "WhisperDomeModel" "minutes" "[I" : Cond)) ∈ mm_big := mm_inb (by decide +kernel) rfl
theorem bw_128 : ((.methodLink RX5 110 yX5_isPerson : Cond)) ∈ mm_big := mm_inb (by decide +kernel) rfl
theorem bw_129 : ((.methodLink RX5 113 yX5_laterBy : Cond)) ∈ mm_big := mm_inb (by decide +kernel) rfl
theorem bw_130 : ((.methodLink RX5 117 yX5_layHears : Cond)) ∈ mm_big := mm_inb (by decide +kernel) rfl
theorem bw_131 : ((.methodLink RX5 121 yX5_hearers : Cond)) ∈ mm_big := mm_inb (by decide +kernel) rfl
theorem bw_132 : ((.methodLink RX5 124 yX5_tell : Cond)) ∈ mm_big := mm_inb (by decide +kernel) rfl
theorem bw_133 : ((.constantLong RX5 127 (9) : Cond)) ∈ mm_big := mm_inb (by decide +kernel) rfl
theorem bw_134 : ((.methodLink RX5 129 yX5_says : Cond)) ∈ mm_big := mm_inb (by decide +kernel) rfl
theorem bw_135 : ((.methodLink RX5 132 yX5_hearsOf : Cond)) ∈ mm_big := mm_inb (by decide +kernel) rfl
theorem bw_136 : ((.fieldLink RX5 135 "WhisperDomeModel" "screensMany" "I" : Cond)) ∈ mm_big := mm_inb (by decide +kernel) rfl
theorem bw_137 : ((.methodLink RX5 138 yX5_screensOf : Cond)) ∈ mm_big := mm_inb (by decide +kernel) rfl
theorem bw_138 : ((.methodLink RX5 141 yX5_standOf : Cond)) ∈ mm_big := mm_inb (by decide +kernel) rfl
theorem bw_139 : ((.fieldLink RX5 25 "WhisperDomeModel" "trials" "[I" : Cond)) ∈ mm_big := mm_inb (by decide +kernel) rfl
theorem bw_140 : ((.methodLink RX5 144 yX5_whoBits : Cond)) ∈ mm_big := mm_inb (by decide +kernel) rfl
theorem bw_141 : ((.methodLink RX5 147 yX5_askOf : Cond)) ∈ mm_big := mm_inb (by decide +kernel) rfl
theorem bw_142 : ((.constantLong RX5 150 (1103515245) : Cond)) ∈ mm_big := mm_inb (by decide +kernel) rfl
theorem bw_143 : ((.fieldLink RX5 152 "WhisperDomeModel" "seedNow" "I" : Cond)) ∈ mm_big := mm_inb (by decide +kernel) rfl
theorem bw_144 : ((.constantLong RX5 155 (12345) : Cond)) ∈ mm_big := mm_inb (by decide +kernel) rfl
theorem bw_145 : ((.constantLong RX5 157 (2147483647) : Cond)) ∈ mm_big := mm_inb (by decide +kernel) rfl
theorem bw_146 : ((.constant RX5 159 (65536) : Cond)) ∈ mm_big := mm_inb (by decide +kernel) rfl
theorem bw_147 : ((.constantLong RX5 160 (60) : Cond)) ∈ mm_big := mm_inb (by decide +kernel) rfl
theorem bw_148 : ((.constantLong RX5 162 (2) : Cond)) ∈ mm_big := mm_inb (by decide +kernel) rfl
theorem bw_149 : ((.fieldLink RX5 28 "WhisperDomeModel" "savedRows" "[I" : Cond)) ∈ mm_big := mm_inb (by decide +kernel) rfl
theorem bw_150 : ((.methodLink RX5 164 yX5_copy : Cond)) ∈ mm_big := mm_inb (by decide +kernel) rfl
theorem bw_151 : ((.methodLink RX5 168 yX5_draw : Cond)) ∈ mm_big := mm_inb (by decide +kernel) rfl
theorem bw_152 : ((.methodLink RX5 171 yX5_knownAll : Cond)) ∈ mm_big := mm_inb (by decide +kernel) rfl
theorem bw_153 : ((.fieldLink RX5 31 "WhisperDomeModel" "keptRows" "[I" : Cond)) ∈ mm_big := mm_inb (by decide +kernel) rfl
theorem bw_154 : ((.fieldLink RX5 34 "WhisperDomeModel" "keptTrials" "[I" : Cond)) ∈ mm_big := mm_inb (by decide +kernel) rfl
theorem bw_155 : ((.fieldLink RX5 174 "WhisperDomeModel" "keptPeople" "I" : Cond)) ∈ mm_big := mm_inb (by decide +kernel) rfl
theorem bw_156 : ((.fieldLink RX5 177 "WhisperDomeModel" "keptCloth" "I" : Cond)) ∈ mm_big := mm_inb (by decide +kernel) rfl
theorem bw_157 : ((.fieldLink RX5 180 "WhisperDomeModel" "keptSaid" "I" : Cond)) ∈ mm_big := mm_inb (by decide +kernel) rfl
theorem bw_158 : ((.fieldLink RX5 183 "WhisperDomeModel" "keptTrialMany" "I" : Cond)) ∈ mm_big := mm_inb (by decide +kernel) rfl
theorem bw_159 : ((.fieldLink RX5 37 "WhisperDomeModel" "keptDome" "I" : Cond)) ∈ mm_big := mm_inb (by decide +kernel) rfl
theorem bw_160 : ((.methodLink RX5 186 yX5_countOf : Cond)) ∈ mm_big := mm_inb (by decide +kernel) rfl
theorem bw_161 : ((.constantLong RX5 189 (31) : Cond)) ∈ mm_big := mm_inb (by decide +kernel) rfl
theorem bw_162 : ((.fieldLink RX5 191 "WhisperDomeModel" "hash" "J" : Cond)) ∈ mm_big := mm_inb (by decide +kernel) rfl
theorem bw_163 : ((.constantLong RX5 195 (937) : Cond)) ∈ mm_big := mm_inb (by decide +kernel) rfl
theorem bw_164 : ((.methodLink RX5 197 yX5_note : Cond)) ∈ mm_big := mm_inb (by decide +kernel) rfl
theorem hin_X0 : ∀ w ∈ u_ws RX0 TX0 1, w ∈ mm_big := by
  intro w hw
  have h : ∀ w ∈ u_ws RX0 TX0 1, w ∈ lw_tbl := by decide +kernel
  have h2 : (u_ws RX0 TX0 1).all goodWord = true := by decide +kernel
  exact mm_inb (h w hw) (List.all_eq_true.mp h2 w hw)
theorem hsz_X0 : ∀ r, r < 31 → (mm_sh r).2.1 = 0 → (mm_sh r).2.2.length = 1 := by decide +kernel
theorem hin_X1 : ∀ w ∈ u_ws RX1 TX1 3, w ∈ mm_big := by
  intro w hw
  have h : ∀ w ∈ u_ws RX1 TX1 3, w ∈ lw_tbl := by decide +kernel
  have h2 : (u_ws RX1 TX1 3).all goodWord = true := by decide +kernel
  exact mm_inb (h w hw) (List.all_eq_true.mp h2 w hw)
theorem hsz_X1 : ∀ r, r < 31 → (mm_sh r).2.1 = 1 → (mm_sh r).2.2.length = 3 := by decide +kernel
theorem hin_X2 : ∀ w ∈ u_ws RX2 TX2 2, w ∈ mm_big := by
  intro w hw
  have h : ∀ w ∈ u_ws RX2 TX2 2, w ∈ lw_tbl := by decide +kernel
  have h2 : (u_ws RX2 TX2 2).all goodWord = true := by decide +kernel
  exact mm_inb (h w hw) (List.all_eq_true.mp h2 w hw)
theorem hsz_X2 : ∀ r, r < 31 → (mm_sh r).2.1 = 2 → (mm_sh r).2.2.length = 2 := by decide +kernel
theorem hin_X3 : ∀ w ∈ u_ws RX3 TX3 9, w ∈ mm_big := by
  intro w hw
  have h : ∀ w ∈ u_ws RX3 TX3 9, w ∈ lw_tbl := by decide +kernel
  have h2 : (u_ws RX3 TX3 9).all goodWord = true := by decide +kernel
  exact mm_inb (h w hw) (List.all_eq_true.mp h2 w hw)
theorem hsz_X3 : ∀ r, r < 31 → (mm_sh r).2.1 = 3 → (mm_sh r).2.2.length = 9 := by decide +kernel
theorem hin_X4 : ∀ w ∈ u_ws RX4 TX4 12, w ∈ mm_big := by
  intro w hw
  have h : ∀ w ∈ u_ws RX4 TX4 12, w ∈ lw_tbl := by decide +kernel
  have h2 : (u_ws RX4 TX4 12).all goodWord = true := by decide +kernel
  exact mm_inb (h w hw) (List.all_eq_true.mp h2 w hw)
theorem hsz_X4 : ∀ r, r < 31 → (mm_sh r).2.1 = 4 → (mm_sh r).2.2.length = 12 := by decide +kernel
theorem hin_X5 : ∀ w ∈ u_ws RX5 TX5 24, w ∈ mm_big := by
  intro w hw
  have h : ∀ w ∈ u_ws RX5 TX5 24, w ∈ lw_tbl := by decide +kernel
  have h2 : (u_ws RX5 TX5 24).all goodWord = true := by decide +kernel
  exact mm_inb (h w hw) (List.all_eq_true.mp h2 w hw)
theorem hsz_X5 : ∀ r, r < 31 → (mm_sh r).2.1 = 5 → (mm_sh r).2.2.length = 24 := by decide +kernel
theorem hkt_X0_0 : ∀ r, r < 31 → (mm_sh r).2.1 = 0 → (mm_nth (mm_sh r).2.2 0 98 = 0 → tyX0 0 = .int) ∧ (mm_nth (mm_sh r).2.2 0 98 = 1 → tyX0 0 = .long) ∧ (mm_nth (mm_sh r).2.2 0 98 = 2 → tyX0 0 = .boolean) := by
  intro r h1 h2
  have h3 : ∀ r, r < 31 → (mm_sh r).2.1 = 0 → r = 19 := by decide +kernel
  rcases h3 r h1 h2 with rfl <;> exact ⟨fun h => by first | rfl | exact absurd h (by decide), fun h => by first | rfl | exact absurd h (by decide), fun h => by first | rfl | exact absurd h (by decide)⟩
theorem hkt_X1_1 : ∀ r, r < 31 → (mm_sh r).2.1 = 1 → (mm_nth (mm_sh r).2.2 1 98 = 0 → tyX1 1 = .int) ∧ (mm_nth (mm_sh r).2.2 1 98 = 1 → tyX1 1 = .long) ∧ (mm_nth (mm_sh r).2.2 1 98 = 2 → tyX1 1 = .boolean) := by
  intro r h1 h2
  have h3 : ∀ r, r < 31 → (mm_sh r).2.1 = 1 → r = 17 := by decide +kernel
  rcases h3 r h1 h2 with rfl <;> exact ⟨fun h => by first | rfl | exact absurd h (by decide), fun h => by first | rfl | exact absurd h (by decide), fun h => by first | rfl | exact absurd h (by decide)⟩
theorem hkt_X1_2 : ∀ r, r < 31 → (mm_sh r).2.1 = 1 → (mm_nth (mm_sh r).2.2 2 98 = 0 → tyX1 2 = .int) ∧ (mm_nth (mm_sh r).2.2 2 98 = 1 → tyX1 2 = .long) ∧ (mm_nth (mm_sh r).2.2 2 98 = 2 → tyX1 2 = .boolean) := by
  intro r h1 h2
  have h3 : ∀ r, r < 31 → (mm_sh r).2.1 = 1 → r = 17 := by decide +kernel
  rcases h3 r h1 h2 with rfl <;> exact ⟨fun h => by first | rfl | exact absurd h (by decide), fun h => by first | rfl | exact absurd h (by decide), fun h => by first | rfl | exact absurd h (by decide)⟩
theorem hkt_X3_0 : ∀ r, r < 31 → (mm_sh r).2.1 = 3 → (mm_nth (mm_sh r).2.2 0 98 = 0 → tyX3 0 = .int) ∧ (mm_nth (mm_sh r).2.2 0 98 = 1 → tyX3 0 = .long) ∧ (mm_nth (mm_sh r).2.2 0 98 = 2 → tyX3 0 = .boolean) := by
  intro r h1 h2
  have h3 : ∀ r, r < 31 → (mm_sh r).2.1 = 3 → r = 5 ∨ r = 9 ∨ r = 13 := by decide +kernel
  rcases h3 r h1 h2 with rfl | rfl | rfl <;> exact ⟨fun h => by first | rfl | exact absurd h (by decide), fun h => by first | rfl | exact absurd h (by decide), fun h => by first | rfl | exact absurd h (by decide)⟩
theorem hkt_X3_4 : ∀ r, r < 31 → (mm_sh r).2.1 = 3 → (mm_nth (mm_sh r).2.2 4 98 = 0 → tyX3 4 = .int) ∧ (mm_nth (mm_sh r).2.2 4 98 = 1 → tyX3 4 = .long) ∧ (mm_nth (mm_sh r).2.2 4 98 = 2 → tyX3 4 = .boolean) := by
  intro r h1 h2
  have h3 : ∀ r, r < 31 → (mm_sh r).2.1 = 3 → r = 5 ∨ r = 9 ∨ r = 13 := by decide +kernel
  rcases h3 r h1 h2 with rfl | rfl | rfl <;> exact ⟨fun h => by first | rfl | exact absurd h (by decide), fun h => by first | rfl | exact absurd h (by decide), fun h => by first | rfl | exact absurd h (by decide)⟩
theorem hkt_X3_5 : ∀ r, r < 31 → (mm_sh r).2.1 = 3 → (mm_nth (mm_sh r).2.2 5 98 = 0 → tyX3 5 = .int) ∧ (mm_nth (mm_sh r).2.2 5 98 = 1 → tyX3 5 = .long) ∧ (mm_nth (mm_sh r).2.2 5 98 = 2 → tyX3 5 = .boolean) := by
  intro r h1 h2
  have h3 : ∀ r, r < 31 → (mm_sh r).2.1 = 3 → r = 5 ∨ r = 9 ∨ r = 13 := by decide +kernel
  rcases h3 r h1 h2 with rfl | rfl | rfl <;> exact ⟨fun h => by first | rfl | exact absurd h (by decide), fun h => by first | rfl | exact absurd h (by decide), fun h => by first | rfl | exact absurd h (by decide)⟩
theorem hkt_X3_6 : ∀ r, r < 31 → (mm_sh r).2.1 = 3 → (mm_nth (mm_sh r).2.2 6 98 = 0 → tyX3 6 = .int) ∧ (mm_nth (mm_sh r).2.2 6 98 = 1 → tyX3 6 = .long) ∧ (mm_nth (mm_sh r).2.2 6 98 = 2 → tyX3 6 = .boolean) := by
  intro r h1 h2
  have h3 : ∀ r, r < 31 → (mm_sh r).2.1 = 3 → r = 5 ∨ r = 9 ∨ r = 13 := by decide +kernel
  rcases h3 r h1 h2 with rfl | rfl | rfl <;> exact ⟨fun h => by first | rfl | exact absurd h (by decide), fun h => by first | rfl | exact absurd h (by decide), fun h => by first | rfl | exact absurd h (by decide)⟩
theorem hkt_X3_7 : ∀ r, r < 31 → (mm_sh r).2.1 = 3 → (mm_nth (mm_sh r).2.2 7 98 = 0 → tyX3 7 = .int) ∧ (mm_nth (mm_sh r).2.2 7 98 = 1 → tyX3 7 = .long) ∧ (mm_nth (mm_sh r).2.2 7 98 = 2 → tyX3 7 = .boolean) := by
  intro r h1 h2
  have h3 : ∀ r, r < 31 → (mm_sh r).2.1 = 3 → r = 5 ∨ r = 9 ∨ r = 13 := by decide +kernel
  rcases h3 r h1 h2 with rfl | rfl | rfl <;> exact ⟨fun h => by first | rfl | exact absurd h (by decide), fun h => by first | rfl | exact absurd h (by decide), fun h => by first | rfl | exact absurd h (by decide)⟩
theorem hkt_X3_8 : ∀ r, r < 31 → (mm_sh r).2.1 = 3 → (mm_nth (mm_sh r).2.2 8 98 = 0 → tyX3 8 = .int) ∧ (mm_nth (mm_sh r).2.2 8 98 = 1 → tyX3 8 = .long) ∧ (mm_nth (mm_sh r).2.2 8 98 = 2 → tyX3 8 = .boolean) := by
  intro r h1 h2
  have h3 : ∀ r, r < 31 → (mm_sh r).2.1 = 3 → r = 5 ∨ r = 9 ∨ r = 13 := by decide +kernel
  rcases h3 r h1 h2 with rfl | rfl | rfl <;> exact ⟨fun h => by first | rfl | exact absurd h (by decide), fun h => by first | rfl | exact absurd h (by decide), fun h => by first | rfl | exact absurd h (by decide)⟩
theorem hkt_X4_1 : ∀ r, r < 31 → (mm_sh r).2.1 = 4 → (mm_nth (mm_sh r).2.2 1 98 = 0 → tyX4 1 = .int) ∧ (mm_nth (mm_sh r).2.2 1 98 = 1 → tyX4 1 = .long) ∧ (mm_nth (mm_sh r).2.2 1 98 = 2 → tyX4 1 = .boolean) := by
  intro r h1 h2
  have h3 : ∀ r, r < 31 → (mm_sh r).2.1 = 4 → r = 0 := by decide +kernel
  rcases h3 r h1 h2 with rfl <;> exact ⟨fun h => by first | rfl | exact absurd h (by decide), fun h => by first | rfl | exact absurd h (by decide), fun h => by first | rfl | exact absurd h (by decide)⟩
theorem hkt_X4_9 : ∀ r, r < 31 → (mm_sh r).2.1 = 4 → (mm_nth (mm_sh r).2.2 9 98 = 0 → tyX4 9 = .int) ∧ (mm_nth (mm_sh r).2.2 9 98 = 1 → tyX4 9 = .long) ∧ (mm_nth (mm_sh r).2.2 9 98 = 2 → tyX4 9 = .boolean) := by
  intro r h1 h2
  have h3 : ∀ r, r < 31 → (mm_sh r).2.1 = 4 → r = 0 := by decide +kernel
  rcases h3 r h1 h2 with rfl <;> exact ⟨fun h => by first | rfl | exact absurd h (by decide), fun h => by first | rfl | exact absurd h (by decide), fun h => by first | rfl | exact absurd h (by decide)⟩
theorem hkt_X4_10 : ∀ r, r < 31 → (mm_sh r).2.1 = 4 → (mm_nth (mm_sh r).2.2 10 98 = 0 → tyX4 10 = .int) ∧ (mm_nth (mm_sh r).2.2 10 98 = 1 → tyX4 10 = .long) ∧ (mm_nth (mm_sh r).2.2 10 98 = 2 → tyX4 10 = .boolean) := by
  intro r h1 h2
  have h3 : ∀ r, r < 31 → (mm_sh r).2.1 = 4 → r = 0 := by decide +kernel
  rcases h3 r h1 h2 with rfl <;> exact ⟨fun h => by first | rfl | exact absurd h (by decide), fun h => by first | rfl | exact absurd h (by decide), fun h => by first | rfl | exact absurd h (by decide)⟩
theorem hkt_X4_11 : ∀ r, r < 31 → (mm_sh r).2.1 = 4 → (mm_nth (mm_sh r).2.2 11 98 = 0 → tyX4 11 = .int) ∧ (mm_nth (mm_sh r).2.2 11 98 = 1 → tyX4 11 = .long) ∧ (mm_nth (mm_sh r).2.2 11 98 = 2 → tyX4 11 = .boolean) := by
  intro r h1 h2
  have h3 : ∀ r, r < 31 → (mm_sh r).2.1 = 4 → r = 0 := by decide +kernel
  rcases h3 r h1 h2 with rfl <;> exact ⟨fun h => by first | rfl | exact absurd h (by decide), fun h => by first | rfl | exact absurd h (by decide), fun h => by first | rfl | exact absurd h (by decide)⟩
theorem hkt_X5_1 : ∀ r, r < 31 → (mm_sh r).2.1 = 5 → (mm_nth (mm_sh r).2.2 1 98 = 0 → tyX5 1 = .int) ∧ (mm_nth (mm_sh r).2.2 1 98 = 1 → tyX5 1 = .long) ∧ (mm_nth (mm_sh r).2.2 1 98 = 2 → tyX5 1 = .boolean) := by
  intro r h1 h2
  have h3 : ∀ r, r < 31 → (mm_sh r).2.1 = 5 → r = 21 := by decide +kernel
  rcases h3 r h1 h2 with rfl <;> exact ⟨fun h => by first | rfl | exact absurd h (by decide), fun h => by first | rfl | exact absurd h (by decide), fun h => by first | rfl | exact absurd h (by decide)⟩
theorem hkt_X5_2 : ∀ r, r < 31 → (mm_sh r).2.1 = 5 → (mm_nth (mm_sh r).2.2 2 98 = 0 → tyX5 2 = .int) ∧ (mm_nth (mm_sh r).2.2 2 98 = 1 → tyX5 2 = .long) ∧ (mm_nth (mm_sh r).2.2 2 98 = 2 → tyX5 2 = .boolean) := by
  intro r h1 h2
  have h3 : ∀ r, r < 31 → (mm_sh r).2.1 = 5 → r = 21 := by decide +kernel
  rcases h3 r h1 h2 with rfl <;> exact ⟨fun h => by first | rfl | exact absurd h (by decide), fun h => by first | rfl | exact absurd h (by decide), fun h => by first | rfl | exact absurd h (by decide)⟩
theorem hkt_X5_3 : ∀ r, r < 31 → (mm_sh r).2.1 = 5 → (mm_nth (mm_sh r).2.2 3 98 = 0 → tyX5 3 = .int) ∧ (mm_nth (mm_sh r).2.2 3 98 = 1 → tyX5 3 = .long) ∧ (mm_nth (mm_sh r).2.2 3 98 = 2 → tyX5 3 = .boolean) := by
  intro r h1 h2
  have h3 : ∀ r, r < 31 → (mm_sh r).2.1 = 5 → r = 21 := by decide +kernel
  rcases h3 r h1 h2 with rfl <;> exact ⟨fun h => by first | rfl | exact absurd h (by decide), fun h => by first | rfl | exact absurd h (by decide), fun h => by first | rfl | exact absurd h (by decide)⟩
theorem hkt_X5_4 : ∀ r, r < 31 → (mm_sh r).2.1 = 5 → (mm_nth (mm_sh r).2.2 4 98 = 0 → tyX5 4 = .int) ∧ (mm_nth (mm_sh r).2.2 4 98 = 1 → tyX5 4 = .long) ∧ (mm_nth (mm_sh r).2.2 4 98 = 2 → tyX5 4 = .boolean) := by
  intro r h1 h2
  have h3 : ∀ r, r < 31 → (mm_sh r).2.1 = 5 → r = 21 := by decide +kernel
  rcases h3 r h1 h2 with rfl <;> exact ⟨fun h => by first | rfl | exact absurd h (by decide), fun h => by first | rfl | exact absurd h (by decide), fun h => by first | rfl | exact absurd h (by decide)⟩
theorem hkt_X5_5 : ∀ r, r < 31 → (mm_sh r).2.1 = 5 → (mm_nth (mm_sh r).2.2 5 98 = 0 → tyX5 5 = .int) ∧ (mm_nth (mm_sh r).2.2 5 98 = 1 → tyX5 5 = .long) ∧ (mm_nth (mm_sh r).2.2 5 98 = 2 → tyX5 5 = .boolean) := by
  intro r h1 h2
  have h3 : ∀ r, r < 31 → (mm_sh r).2.1 = 5 → r = 21 := by decide +kernel
  rcases h3 r h1 h2 with rfl <;> exact ⟨fun h => by first | rfl | exact absurd h (by decide), fun h => by first | rfl | exact absurd h (by decide), fun h => by first | rfl | exact absurd h (by decide)⟩
theorem hkt_X5_8 : ∀ r, r < 31 → (mm_sh r).2.1 = 5 → (mm_nth (mm_sh r).2.2 8 98 = 0 → tyX5 8 = .int) ∧ (mm_nth (mm_sh r).2.2 8 98 = 1 → tyX5 8 = .long) ∧ (mm_nth (mm_sh r).2.2 8 98 = 2 → tyX5 8 = .boolean) := by
  intro r h1 h2
  have h3 : ∀ r, r < 31 → (mm_sh r).2.1 = 5 → r = 21 := by decide +kernel
  rcases h3 r h1 h2 with rfl <;> exact ⟨fun h => by first | rfl | exact absurd h (by decide), fun h => by first | rfl | exact absurd h (by decide), fun h => by first | rfl | exact absurd h (by decide)⟩
theorem hkt_X5_11 : ∀ r, r < 31 → (mm_sh r).2.1 = 5 → (mm_nth (mm_sh r).2.2 11 98 = 0 → tyX5 11 = .int) ∧ (mm_nth (mm_sh r).2.2 11 98 = 1 → tyX5 11 = .long) ∧ (mm_nth (mm_sh r).2.2 11 98 = 2 → tyX5 11 = .boolean) := by
  intro r h1 h2
  have h3 : ∀ r, r < 31 → (mm_sh r).2.1 = 5 → r = 21 := by decide +kernel
  rcases h3 r h1 h2 with rfl <;> exact ⟨fun h => by first | rfl | exact absurd h (by decide), fun h => by first | rfl | exact absurd h (by decide), fun h => by first | rfl | exact absurd h (by decide)⟩
theorem hkt_X5_12 : ∀ r, r < 31 → (mm_sh r).2.1 = 5 → (mm_nth (mm_sh r).2.2 12 98 = 0 → tyX5 12 = .int) ∧ (mm_nth (mm_sh r).2.2 12 98 = 1 → tyX5 12 = .long) ∧ (mm_nth (mm_sh r).2.2 12 98 = 2 → tyX5 12 = .boolean) := by
  intro r h1 h2
  have h3 : ∀ r, r < 31 → (mm_sh r).2.1 = 5 → r = 21 := by decide +kernel
  rcases h3 r h1 h2 with rfl <;> exact ⟨fun h => by first | rfl | exact absurd h (by decide), fun h => by first | rfl | exact absurd h (by decide), fun h => by first | rfl | exact absurd h (by decide)⟩
theorem hkt_X5_14 : ∀ r, r < 31 → (mm_sh r).2.1 = 5 → (mm_nth (mm_sh r).2.2 14 98 = 0 → tyX5 14 = .int) ∧ (mm_nth (mm_sh r).2.2 14 98 = 1 → tyX5 14 = .long) ∧ (mm_nth (mm_sh r).2.2 14 98 = 2 → tyX5 14 = .boolean) := by
  intro r h1 h2
  have h3 : ∀ r, r < 31 → (mm_sh r).2.1 = 5 → r = 21 := by decide +kernel
  rcases h3 r h1 h2 with rfl <;> exact ⟨fun h => by first | rfl | exact absurd h (by decide), fun h => by first | rfl | exact absurd h (by decide), fun h => by first | rfl | exact absurd h (by decide)⟩
theorem hkt_X5_16 : ∀ r, r < 31 → (mm_sh r).2.1 = 5 → (mm_nth (mm_sh r).2.2 16 98 = 0 → tyX5 16 = .int) ∧ (mm_nth (mm_sh r).2.2 16 98 = 1 → tyX5 16 = .long) ∧ (mm_nth (mm_sh r).2.2 16 98 = 2 → tyX5 16 = .boolean) := by
  intro r h1 h2
  have h3 : ∀ r, r < 31 → (mm_sh r).2.1 = 5 → r = 21 := by decide +kernel
  rcases h3 r h1 h2 with rfl <;> exact ⟨fun h => by first | rfl | exact absurd h (by decide), fun h => by first | rfl | exact absurd h (by decide), fun h => by first | rfl | exact absurd h (by decide)⟩
theorem hkt_X5_17 : ∀ r, r < 31 → (mm_sh r).2.1 = 5 → (mm_nth (mm_sh r).2.2 17 98 = 0 → tyX5 17 = .int) ∧ (mm_nth (mm_sh r).2.2 17 98 = 1 → tyX5 17 = .long) ∧ (mm_nth (mm_sh r).2.2 17 98 = 2 → tyX5 17 = .boolean) := by
  intro r h1 h2
  have h3 : ∀ r, r < 31 → (mm_sh r).2.1 = 5 → r = 21 := by decide +kernel
  rcases h3 r h1 h2 with rfl <;> exact ⟨fun h => by first | rfl | exact absurd h (by decide), fun h => by first | rfl | exact absurd h (by decide), fun h => by first | rfl | exact absurd h (by decide)⟩
theorem hkt_X5_18 : ∀ r, r < 31 → (mm_sh r).2.1 = 5 → (mm_nth (mm_sh r).2.2 18 98 = 0 → tyX5 18 = .int) ∧ (mm_nth (mm_sh r).2.2 18 98 = 1 → tyX5 18 = .long) ∧ (mm_nth (mm_sh r).2.2 18 98 = 2 → tyX5 18 = .boolean) := by
  intro r h1 h2
  have h3 : ∀ r, r < 31 → (mm_sh r).2.1 = 5 → r = 21 := by decide +kernel
  rcases h3 r h1 h2 with rfl <;> exact ⟨fun h => by first | rfl | exact absurd h (by decide), fun h => by first | rfl | exact absurd h (by decide), fun h => by first | rfl | exact absurd h (by decide)⟩
theorem hkt_X5_19 : ∀ r, r < 31 → (mm_sh r).2.1 = 5 → (mm_nth (mm_sh r).2.2 19 98 = 0 → tyX5 19 = .int) ∧ (mm_nth (mm_sh r).2.2 19 98 = 1 → tyX5 19 = .long) ∧ (mm_nth (mm_sh r).2.2 19 98 = 2 → tyX5 19 = .boolean) := by
  intro r h1 h2
  have h3 : ∀ r, r < 31 → (mm_sh r).2.1 = 5 → r = 21 := by decide +kernel
  rcases h3 r h1 h2 with rfl <;> exact ⟨fun h => by first | rfl | exact absurd h (by decide), fun h => by first | rfl | exact absurd h (by decide), fun h => by first | rfl | exact absurd h (by decide)⟩
theorem hkt_X5_20 : ∀ r, r < 31 → (mm_sh r).2.1 = 5 → (mm_nth (mm_sh r).2.2 20 98 = 0 → tyX5 20 = .int) ∧ (mm_nth (mm_sh r).2.2 20 98 = 1 → tyX5 20 = .long) ∧ (mm_nth (mm_sh r).2.2 20 98 = 2 → tyX5 20 = .boolean) := by
  intro r h1 h2
  have h3 : ∀ r, r < 31 → (mm_sh r).2.1 = 5 → r = 21 := by decide +kernel
  rcases h3 r h1 h2 with rfl <;> exact ⟨fun h => by first | rfl | exact absurd h (by decide), fun h => by first | rfl | exact absurd h (by decide), fun h => by first | rfl | exact absurd h (by decide)⟩
theorem hkt_X5_23 : ∀ r, r < 31 → (mm_sh r).2.1 = 5 → (mm_nth (mm_sh r).2.2 23 98 = 0 → tyX5 23 = .int) ∧ (mm_nth (mm_sh r).2.2 23 98 = 1 → tyX5 23 = .long) ∧ (mm_nth (mm_sh r).2.2 23 98 = 2 → tyX5 23 = .boolean) := by
  intro r h1 h2
  have h3 : ∀ r, r < 31 → (mm_sh r).2.1 = 5 → r = 21 := by decide +kernel
  rcases h3 r h1 h2 with rfl <;> exact ⟨fun h => by first | rfl | exact absurd h (by decide), fun h => by first | rfl | exact absurd h (by decide), fun h => by first | rfl | exact absurd h (by decide)⟩
theorem bm_X0_next : (.instanceMethod yX0_next ∈ mm_big ∧ .selects RX0 yX0_next yX0_next ∈ mm_big ∧ .initialized RX0 ∈ mm_big ∧ .code yX0_next cX0_next 2 (some .int) ∈ mm_big) := ⟨mm_inb (by decide +kernel) rfl, mm_inb (by decide +kernel) rfl, mm_inb (by decide +kernel) rfl, mm_inb (by decide +kernel) rfl⟩
theorem bs_J7_fill_53178 : (.static yJ7_fill_53178 ∈ mm_big ∧ .initialized yJ7_fill_53178.cls ∈ mm_big ∧ .code yJ7_fill_53178 cJ7_fill_53178 4 none ∈ mm_big) := ⟨mm_inb (by decide +kernel) rfl, mm_inb (by decide +kernel) rfl, mm_inb (by decide +kernel) rfl⟩
theorem bs_X4_hasBit : (.static yX4_hasBit ∈ mm_big ∧ .initialized yX4_hasBit.cls ∈ mm_big ∧ .code yX4_hasBit cX4_hasBit 2 (some .boolean) ∈ mm_big) := ⟨mm_inb (by decide +kernel) rfl, mm_inb (by decide +kernel) rfl, mm_inb (by decide +kernel) rfl⟩
theorem bm_X1_earliestWaiting : (.instanceMethod yX1_earliestWaiting ∈ mm_big ∧ .selects RX1 yX1_earliestWaiting yX1_earliestWaiting ∈ mm_big ∧ .initialized RX1 ∈ mm_big ∧ .code yX1_earliestWaiting cX1_earliestWaiting 5 (some .int) ∈ mm_big) := ⟨mm_inb (by decide +kernel) rfl, mm_inb (by decide +kernel) rfl, mm_inb (by decide +kernel) rfl, mm_inb (by decide +kernel) rfl⟩
theorem bs_X4_isOfKind : (.static yX4_isOfKind ∈ mm_big ∧ .initialized yX4_isOfKind.cls ∈ mm_big ∧ .code yX4_isOfKind cX4_isOfKind 2 (some .boolean) ∈ mm_big) := ⟨mm_inb (by decide +kernel) rfl, mm_inb (by decide +kernel) rfl, mm_inb (by decide +kernel) rfl⟩
theorem bm_X1_reach : (.instanceMethod yX1_reach ∈ mm_big ∧ .selects RX1 yX1_reach yX1_reach ∈ mm_big ∧ .initialized RX1 ∈ mm_big ∧ .code yX1_reach cX1_reach 4 none ∈ mm_big) := ⟨mm_inb (by decide +kernel) rfl, mm_inb (by decide +kernel) rfl, mm_inb (by decide +kernel) rfl, mm_inb (by decide +kernel) rfl⟩
theorem bm_X1_utter : (.instanceMethod yX1_utter ∈ mm_big ∧ .selects RX1 yX1_utter yX1_utter ∈ mm_big ∧ .initialized RX1 ∈ mm_big ∧ .code yX1_utter cX1_utter 8 none ∈ mm_big) := ⟨mm_inb (by decide +kernel) rfl, mm_inb (by decide +kernel) rfl, mm_inb (by decide +kernel) rfl, mm_inb (by decide +kernel) rfl⟩
theorem bm_X1_spread : (.instanceMethod yX1_spread ∈ mm_big ∧ .selects RX1 yX1_spread yX1_spread ∈ mm_big ∧ .initialized RX1 ∈ mm_big ∧ .code yX1_spread cX1_spread 6 (some .int) ∈ mm_big) := ⟨mm_inb (by decide +kernel) rfl, mm_inb (by decide +kernel) rfl, mm_inb (by decide +kernel) rfl, mm_inb (by decide +kernel) rfl⟩
theorem bm_X2_read : (.instanceMethod yX2_read ∈ mm_big ∧ .selects RX2 yX2_read yX2_read ∈ mm_big ∧ .initialized RX2 ∈ mm_big ∧ .code yX2_read cX2_read 3 none ∈ mm_big) := ⟨mm_inb (by decide +kernel) rfl, mm_inb (by decide +kernel) rfl, mm_inb (by decide +kernel) rfl, mm_inb (by decide +kernel) rfl⟩
theorem bm_X2_heardElsewhere : (.instanceMethod yX2_heardElsewhere ∈ mm_big ∧ .selects RX2 yX2_heardElsewhere yX2_heardElsewhere ∈ mm_big ∧ .initialized RX2 ∈ mm_big ∧ .code yX2_heardElsewhere cX2_heardElsewhere 3 (some .int) ∈ mm_big) := ⟨mm_inb (by decide +kernel) rfl, mm_inb (by decide +kernel) rfl, mm_inb (by decide +kernel) rfl, mm_inb (by decide +kernel) rfl⟩
theorem bm_X2_sources : (.instanceMethod yX2_sources ∈ mm_big ∧ .selects RX2 yX2_sources yX2_sources ∈ mm_big ∧ .initialized RX2 ∈ mm_big ∧ .code yX2_sources cX2_sources 4 (some .int) ∈ mm_big) := ⟨mm_inb (by decide +kernel) rfl, mm_inb (by decide +kernel) rfl, mm_inb (by decide +kernel) rfl, mm_inb (by decide +kernel) rfl⟩
theorem bs_J6_bitCount_0f7a4 : (.static yJ6_bitCount_0f7a4 ∈ mm_big ∧ .initialized yJ6_bitCount_0f7a4.cls ∈ mm_big ∧ .code yJ6_bitCount_0f7a4 cJ6_bitCount_0f7a4 1 (some .int) ∈ mm_big) := ⟨mm_inb (by decide +kernel) rfl, mm_inb (by decide +kernel) rfl, mm_inb (by decide +kernel) rfl⟩
theorem bm_X2_rent : (.instanceMethod yX2_rent ∈ mm_big ∧ .selects RX2 yX2_rent yX2_rent ∈ mm_big ∧ .initialized RX2 ∈ mm_big ∧ .code yX2_rent cX2_rent 4 (some .int) ∈ mm_big) := ⟨mm_inb (by decide +kernel) rfl, mm_inb (by decide +kernel) rfl, mm_inb (by decide +kernel) rfl, mm_inb (by decide +kernel) rfl⟩
theorem bm_X3_dropTrials : (.instanceMethod yX3_dropTrials ∈ mm_big ∧ .selects RX3 yX3_dropTrials yX3_dropTrials ∈ mm_big ∧ .initialized RX3 ∈ mm_big ∧ .code yX3_dropTrials cX3_dropTrials 1 none ∈ mm_big) := ⟨mm_inb (by decide +kernel) rfl, mm_inb (by decide +kernel) rfl, mm_inb (by decide +kernel) rfl, mm_inb (by decide +kernel) rfl⟩
theorem bm_X3_clear : (.instanceMethod yX3_clear ∈ mm_big ∧ .selects RX3 yX3_clear yX3_clear ∈ mm_big ∧ .initialized RX3 ∈ mm_big ∧ .code yX3_clear cX3_clear 1 none ∈ mm_big) := ⟨mm_inb (by decide +kernel) rfl, mm_inb (by decide +kernel) rfl, mm_inb (by decide +kernel) rfl, mm_inb (by decide +kernel) rfl⟩
theorem bm_X3_copyFrom : (.instanceMethod yX3_copyFrom ∈ mm_big ∧ .selects RX3 yX3_copyFrom yX3_copyFrom ∈ mm_big ∧ .initialized RX3 ∈ mm_big ∧ .code yX3_copyFrom cX3_copyFrom 3 none ∈ mm_big) := ⟨mm_inb (by decide +kernel) rfl, mm_inb (by decide +kernel) rfl, mm_inb (by decide +kernel) rfl, mm_inb (by decide +kernel) rfl⟩
theorem bm_X3_enter : (.instanceMethod yX3_enter ∈ mm_big ∧ .selects RX3 yX3_enter yX3_enter ∈ mm_big ∧ .initialized RX3 ∈ mm_big ∧ .code yX3_enter cX3_enter 4 (some .int) ∈ mm_big) := ⟨mm_inb (by decide +kernel) rfl, mm_inb (by decide +kernel) rfl, mm_inb (by decide +kernel) rfl, mm_inb (by decide +kernel) rfl⟩
theorem bm_X3_peopleAt : (.instanceMethod yX3_peopleAt ∈ mm_big ∧ .selects RX3 yX3_peopleAt yX3_peopleAt ∈ mm_big ∧ .initialized RX3 ∈ mm_big ∧ .code yX3_peopleAt cX3_peopleAt 4 (some .int) ∈ mm_big) := ⟨mm_inb (by decide +kernel) rfl, mm_inb (by decide +kernel) rfl, mm_inb (by decide +kernel) rfl, mm_inb (by decide +kernel) rfl⟩
theorem bm_X3_learn : (.instanceMethod yX3_learn ∈ mm_big ∧ .selects RX3 yX3_learn yX3_learn ∈ mm_big ∧ .initialized RX3 ∈ mm_big ∧ .code yX3_learn cX3_learn 5 (some .int) ∈ mm_big) := ⟨mm_inb (by decide +kernel) rfl, mm_inb (by decide +kernel) rfl, mm_inb (by decide +kernel) rfl, mm_inb (by decide +kernel) rfl⟩
theorem bm_X3_wordsKnown : (.instanceMethod yX3_wordsKnown ∈ mm_big ∧ .selects RX3 yX3_wordsKnown yX3_wordsKnown ∈ mm_big ∧ .initialized RX3 ∈ mm_big ∧ .code yX3_wordsKnown cX3_wordsKnown 3 (some .int) ∈ mm_big) := ⟨mm_inb (by decide +kernel) rfl, mm_inb (by decide +kernel) rfl, mm_inb (by decide +kernel) rfl, mm_inb (by decide +kernel) rfl⟩
theorem bm_X3_agrees : (.instanceMethod yX3_agrees ∈ mm_big ∧ .selects RX3 yX3_agrees yX3_agrees ∈ mm_big ∧ .initialized RX3 ∈ mm_big ∧ .code yX3_agrees cX3_agrees 2 (some .boolean) ∈ mm_big) := ⟨mm_inb (by decide +kernel) rfl, mm_inb (by decide +kernel) rfl, mm_inb (by decide +kernel) rfl, mm_inb (by decide +kernel) rfl⟩
theorem bm_X4_letter : (.instanceMethod yX4_letter ∈ mm_big ∧ .selects RX4 yX4_letter yX4_letter ∈ mm_big ∧ .initialized RX4 ∈ mm_big ∧ .code yX4_letter cX4_letter 2 (some .int) ∈ mm_big) := ⟨mm_inb (by decide +kernel) rfl, mm_inb (by decide +kernel) rfl, mm_inb (by decide +kernel) rfl, mm_inb (by decide +kernel) rfl⟩
theorem bm_X4_blank : (.instanceMethod yX4_blank ∈ mm_big ∧ .selects RX4 yX4_blank yX4_blank ∈ mm_big ∧ .initialized RX4 ∈ mm_big ∧ .code yX4_blank cX4_blank 2 (some .int) ∈ mm_big) := ⟨mm_inb (by decide +kernel) rfl, mm_inb (by decide +kernel) rfl, mm_inb (by decide +kernel) rfl, mm_inb (by decide +kernel) rfl⟩
theorem bs_X4_fitsDome : (.static yX4_fitsDome ∈ mm_big ∧ .initialized yX4_fitsDome.cls ∈ mm_big ∧ .code yX4_fitsDome cX4_fitsDome 2 (some .boolean) ∈ mm_big) := ⟨mm_inb (by decide +kernel) rfl, mm_inb (by decide +kernel) rfl, mm_inb (by decide +kernel) rfl⟩
theorem bm_X4_fault : (.instanceMethod yX4_fault ∈ mm_big ∧ .selects RX4 yX4_fault yX4_fault ∈ mm_big ∧ .initialized RX4 ∈ mm_big ∧ .code yX4_fault cX4_fault 2 (some .int) ∈ mm_big) := ⟨mm_inb (by decide +kernel) rfl, mm_inb (by decide +kernel) rfl, mm_inb (by decide +kernel) rfl, mm_inb (by decide +kernel) rfl⟩
theorem bm_X4_dome : (.instanceMethod yX4_dome ∈ mm_big ∧ .selects RX4 yX4_dome yX4_dome ∈ mm_big ∧ .initialized RX4 ∈ mm_big ∧ .code yX4_dome cX4_dome 1 (some .int) ∈ mm_big) := ⟨mm_inb (by decide +kernel) rfl, mm_inb (by decide +kernel) rfl, mm_inb (by decide +kernel) rfl, mm_inb (by decide +kernel) rfl⟩
theorem bm_X4_hasDome : (.instanceMethod yX4_hasDome ∈ mm_big ∧ .selects RX4 yX4_hasDome yX4_hasDome ∈ mm_big ∧ .initialized RX4 ∈ mm_big ∧ .code yX4_hasDome cX4_hasDome 1 (some .boolean) ∈ mm_big) := ⟨mm_inb (by decide +kernel) rfl, mm_inb (by decide +kernel) rfl, mm_inb (by decide +kernel) rfl, mm_inb (by decide +kernel) rfl⟩
theorem bm_X4_isPlace : (.instanceMethod yX4_isPlace ∈ mm_big ∧ .selects RX4 yX4_isPlace yX4_isPlace ∈ mm_big ∧ .initialized RX4 ∈ mm_big ∧ .code yX4_isPlace cX4_isPlace 2 (some .boolean) ∈ mm_big) := ⟨mm_inb (by decide +kernel) rfl, mm_inb (by decide +kernel) rfl, mm_inb (by decide +kernel) rfl, mm_inb (by decide +kernel) rfl⟩
theorem bm_X4_place : (.instanceMethod yX4_place ∈ mm_big ∧ .selects RX4 yX4_place yX4_place ∈ mm_big ∧ .initialized RX4 ∈ mm_big ∧ .code yX4_place cX4_place 3 (some .int) ∈ mm_big) := ⟨mm_inb (by decide +kernel) rfl, mm_inb (by decide +kernel) rfl, mm_inb (by decide +kernel) rfl, mm_inb (by decide +kernel) rfl⟩
theorem bm_X4_cloth : (.instanceMethod yX4_cloth ∈ mm_big ∧ .selects RX4 yX4_cloth yX4_cloth ∈ mm_big ∧ .initialized RX4 ∈ mm_big ∧ .code yX4_cloth cX4_cloth 4 (some .int) ∈ mm_big) := ⟨mm_inb (by decide +kernel) rfl, mm_inb (by decide +kernel) rfl, mm_inb (by decide +kernel) rfl, mm_inb (by decide +kernel) rfl⟩
theorem bs_X4_isKind : (.static yX4_isKind ∈ mm_big ∧ .initialized yX4_isKind.cls ∈ mm_big ∧ .code yX4_isKind cX4_isKind 1 (some .boolean) ∈ mm_big) := ⟨mm_inb (by decide +kernel) rfl, mm_inb (by decide +kernel) rfl, mm_inb (by decide +kernel) rfl⟩
theorem bm_X4_person : (.instanceMethod yX4_person ∈ mm_big ∧ .selects RX4 yX4_person yX4_person ∈ mm_big ∧ .initialized RX4 ∈ mm_big ∧ .code yX4_person cX4_person 3 (some .int) ∈ mm_big) := ⟨mm_inb (by decide +kernel) rfl, mm_inb (by decide +kernel) rfl, mm_inb (by decide +kernel) rfl, mm_inb (by decide +kernel) rfl⟩
theorem bm_X4_isPerson : (.instanceMethod yX4_isPerson ∈ mm_big ∧ .selects RX4 yX4_isPerson yX4_isPerson ∈ mm_big ∧ .initialized RX4 ∈ mm_big ∧ .code yX4_isPerson cX4_isPerson 2 (some .boolean) ∈ mm_big) := ⟨mm_inb (by decide +kernel) rfl, mm_inb (by decide +kernel) rfl, mm_inb (by decide +kernel) rfl, mm_inb (by decide +kernel) rfl⟩
theorem bm_X4_about : (.instanceMethod yX4_about ∈ mm_big ∧ .selects RX4 yX4_about yX4_about ∈ mm_big ∧ .initialized RX4 ∈ mm_big ∧ .code yX4_about cX4_about 3 (some .int) ∈ mm_big) := ⟨mm_inb (by decide +kernel) rfl, mm_inb (by decide +kernel) rfl, mm_inb (by decide +kernel) rfl, mm_inb (by decide +kernel) rfl⟩
theorem bm_X4_as : (.instanceMethod yX4_as ∈ mm_big ∧ .selects RX4 yX4_as yX4_as ∈ mm_big ∧ .initialized RX4 ∈ mm_big ∧ .code yX4_as cX4_as 3 (some .int) ∈ mm_big) := ⟨mm_inb (by decide +kernel) rfl, mm_inb (by decide +kernel) rfl, mm_inb (by decide +kernel) rfl, mm_inb (by decide +kernel) rfl⟩
theorem bm_X4_move : (.instanceMethod yX4_move ∈ mm_big ∧ .selects RX4 yX4_move yX4_move ∈ mm_big ∧ .initialized RX4 ∈ mm_big ∧ .code yX4_move cX4_move 4 (some .int) ∈ mm_big) := ⟨mm_inb (by decide +kernel) rfl, mm_inb (by decide +kernel) rfl, mm_inb (by decide +kernel) rfl, mm_inb (by decide +kernel) rfl⟩
theorem bm_X4_tell : (.instanceMethod yX4_tell ∈ mm_big ∧ .selects RX4 yX4_tell yX4_tell ∈ mm_big ∧ .initialized RX4 ∈ mm_big ∧ .code yX4_tell cX4_tell 4 (some .int) ∈ mm_big) := ⟨mm_inb (by decide +kernel) rfl, mm_inb (by decide +kernel) rfl, mm_inb (by decide +kernel) rfl, mm_inb (by decide +kernel) rfl⟩
theorem bm_X4_say : (.instanceMethod yX4_say ∈ mm_big ∧ .selects RX4 yX4_say yX4_say ∈ mm_big ∧ .initialized RX4 ∈ mm_big ∧ .code yX4_say cX4_say 3 (some .int) ∈ mm_big) := ⟨mm_inb (by decide +kernel) rfl, mm_inb (by decide +kernel) rfl, mm_inb (by decide +kernel) rfl, mm_inb (by decide +kernel) rfl⟩
theorem bm_X4_hears : (.instanceMethod yX4_hears ∈ mm_big ∧ .selects RX4 yX4_hears yX4_hears ∈ mm_big ∧ .initialized RX4 ∈ mm_big ∧ .code yX4_hears cX4_hears 3 (some .int) ∈ mm_big) := ⟨mm_inb (by decide +kernel) rfl, mm_inb (by decide +kernel) rfl, mm_inb (by decide +kernel) rfl, mm_inb (by decide +kernel) rfl⟩
theorem bm_X4_isPair : (.instanceMethod yX4_isPair ∈ mm_big ∧ .selects RX4 yX4_isPair yX4_isPair ∈ mm_big ∧ .initialized RX4 ∈ mm_big ∧ .code yX4_isPair cX4_isPair 3 (some .boolean) ∈ mm_big) := ⟨mm_inb (by decide +kernel) rfl, mm_inb (by decide +kernel) rfl, mm_inb (by decide +kernel) rfl, mm_inb (by decide +kernel) rfl⟩
theorem bm_X4_leastScreens : (.instanceMethod yX4_leastScreens ∈ mm_big ∧ .selects RX4 yX4_leastScreens yX4_leastScreens ∈ mm_big ∧ .initialized RX4 ∈ mm_big ∧ .code yX4_leastScreens cX4_leastScreens 7 (some .int) ∈ mm_big) := ⟨mm_inb (by decide +kernel) rfl, mm_inb (by decide +kernel) rfl, mm_inb (by decide +kernel) rfl, mm_inb (by decide +kernel) rfl⟩
theorem bm_X4_screens : (.instanceMethod yX4_screens ∈ mm_big ∧ .selects RX4 yX4_screens yX4_screens ∈ mm_big ∧ .initialized RX4 ∈ mm_big ∧ .code yX4_screens cX4_screens 5 (some .int) ∈ mm_big) := ⟨mm_inb (by decide +kernel) rfl, mm_inb (by decide +kernel) rfl, mm_inb (by decide +kernel) rfl, mm_inb (by decide +kernel) rfl⟩
theorem bm_X4_areAlone : (.instanceMethod yX4_areAlone ∈ mm_big ∧ .selects RX4 yX4_areAlone yX4_areAlone ∈ mm_big ∧ .initialized RX4 ∈ mm_big ∧ .code yX4_areAlone cX4_areAlone 5 (some .boolean) ∈ mm_big) := ⟨mm_inb (by decide +kernel) rfl, mm_inb (by decide +kernel) rfl, mm_inb (by decide +kernel) rfl, mm_inb (by decide +kernel) rfl⟩
theorem bm_X4_stand : (.instanceMethod yX4_stand ∈ mm_big ∧ .selects RX4 yX4_stand yX4_stand ∈ mm_big ∧ .initialized RX4 ∈ mm_big ∧ .code yX4_stand cX4_stand 4 (some .int) ∈ mm_big) := ⟨mm_inb (by decide +kernel) rfl, mm_inb (by decide +kernel) rfl, mm_inb (by decide +kernel) rfl, mm_inb (by decide +kernel) rfl⟩
theorem bm_X4_trial : (.instanceMethod yX4_trial ∈ mm_big ∧ .selects RX4 yX4_trial yX4_trial ∈ mm_big ∧ .initialized RX4 ∈ mm_big ∧ .code yX4_trial cX4_trial 3 (some .int) ∈ mm_big) := ⟨mm_inb (by decide +kernel) rfl, mm_inb (by decide +kernel) rfl, mm_inb (by decide +kernel) rfl, mm_inb (by decide +kernel) rfl⟩
theorem bm_X4_forget : (.instanceMethod yX4_forget ∈ mm_big ∧ .selects RX4 yX4_forget yX4_forget ∈ mm_big ∧ .initialized RX4 ∈ mm_big ∧ .code yX4_forget cX4_forget 2 (some .int) ∈ mm_big) := ⟨mm_inb (by decide +kernel) rfl, mm_inb (by decide +kernel) rfl, mm_inb (by decide +kernel) rfl, mm_inb (by decide +kernel) rfl⟩
theorem bm_X4_suspects : (.instanceMethod yX4_suspects ∈ mm_big ∧ .selects RX4 yX4_suspects yX4_suspects ∈ mm_big ∧ .initialized RX4 ∈ mm_big ∧ .code yX4_suspects cX4_suspects 3 (some .int) ∈ mm_big) := ⟨mm_inb (by decide +kernel) rfl, mm_inb (by decide +kernel) rfl, mm_inb (by decide +kernel) rfl, mm_inb (by decide +kernel) rfl⟩
theorem bm_X4_who : (.instanceMethod yX4_who ∈ mm_big ∧ .selects RX4 yX4_who yX4_who ∈ mm_big ∧ .initialized RX4 ∈ mm_big ∧ .code yX4_who cX4_who 1 (some .int) ∈ mm_big) := ⟨mm_inb (by decide +kernel) rfl, mm_inb (by decide +kernel) rfl, mm_inb (by decide +kernel) rfl, mm_inb (by decide +kernel) rfl⟩
theorem bs_J9_max_7cf53 : (.static yJ9_max_7cf53 ∈ mm_big ∧ .initialized yJ9_max_7cf53.cls ∈ mm_big ∧ .code yJ9_max_7cf53 cJ9_max_7cf53 2 (some .int) ∈ mm_big) := ⟨mm_inb (by decide +kernel) rfl, mm_inb (by decide +kernel) rfl, mm_inb (by decide +kernel) rfl⟩
theorem bm_X4_leftAtWorst : (.instanceMethod yX4_leftAtWorst ∈ mm_big ∧ .selects RX4 yX4_leftAtWorst yX4_leftAtWorst ∈ mm_big ∧ .initialized RX4 ∈ mm_big ∧ .code yX4_leftAtWorst cX4_leftAtWorst 5 (some .int) ∈ mm_big) := ⟨mm_inb (by decide +kernel) rfl, mm_inb (by decide +kernel) rfl, mm_inb (by decide +kernel) rfl, mm_inb (by decide +kernel) rfl⟩
theorem bm_X4_bestToAsk : (.instanceMethod yX4_bestToAsk ∈ mm_big ∧ .selects RX4 yX4_bestToAsk yX4_bestToAsk ∈ mm_big ∧ .initialized RX4 ∈ mm_big ∧ .code yX4_bestToAsk cX4_bestToAsk 6 (some .int) ∈ mm_big) := ⟨mm_inb (by decide +kernel) rfl, mm_inb (by decide +kernel) rfl, mm_inb (by decide +kernel) rfl, mm_inb (by decide +kernel) rfl⟩
theorem bm_X4_ask : (.instanceMethod yX4_ask ∈ mm_big ∧ .selects RX4 yX4_ask yX4_ask ∈ mm_big ∧ .initialized RX4 ∈ mm_big ∧ .code yX4_ask cX4_ask 1 (some .int) ∈ mm_big) := ⟨mm_inb (by decide +kernel) rfl, mm_inb (by decide +kernel) rfl, mm_inb (by decide +kernel) rfl, mm_inb (by decide +kernel) rfl⟩
theorem bm_X4_dreamDay : (.instanceMethod yX4_dreamDay ∈ mm_big ∧ .selects RX4 yX4_dreamDay yX4_dreamDay ∈ mm_big ∧ .initialized RX4 ∈ mm_big ∧ .code yX4_dreamDay cX4_dreamDay 4 (some .int) ∈ mm_big) := ⟨mm_inb (by decide +kernel) rfl, mm_inb (by decide +kernel) rfl, mm_inb (by decide +kernel) rfl, mm_inb (by decide +kernel) rfl⟩
theorem bm_X4_days : (.instanceMethod yX4_days ∈ mm_big ∧ .selects RX4 yX4_days yX4_days ∈ mm_big ∧ .initialized RX4 ∈ mm_big ∧ .code yX4_days cX4_days 6 (some .int) ∈ mm_big) := ⟨mm_inb (by decide +kernel) rfl, mm_inb (by decide +kernel) rfl, mm_inb (by decide +kernel) rfl, mm_inb (by decide +kernel) rfl⟩
theorem bm_X4_image : (.instanceMethod yX4_image ∈ mm_big ∧ .selects RX4 yX4_image yX4_image ∈ mm_big ∧ .initialized RX4 ∈ mm_big ∧ .code yX4_image cX4_image 1 (some .int) ∈ mm_big) := ⟨mm_inb (by decide +kernel) rfl, mm_inb (by decide +kernel) rfl, mm_inb (by decide +kernel) rfl, mm_inb (by decide +kernel) rfl⟩
theorem bm_X4_restore : (.instanceMethod yX4_restore ∈ mm_big ∧ .selects RX4 yX4_restore yX4_restore ∈ mm_big ∧ .initialized RX4 ∈ mm_big ∧ .code yX4_restore cX4_restore 1 (some .int) ∈ mm_big) := ⟨mm_inb (by decide +kernel) rfl, mm_inb (by decide +kernel) rfl, mm_inb (by decide +kernel) rfl, mm_inb (by decide +kernel) rfl⟩
theorem bm_X4_count : (.instanceMethod yX4_count ∈ mm_big ∧ .selects RX4 yX4_count yX4_count ∈ mm_big ∧ .initialized RX4 ∈ mm_big ∧ .code yX4_count cX4_count 2 (some .int) ∈ mm_big) := ⟨mm_inb (by decide +kernel) rfl, mm_inb (by decide +kernel) rfl, mm_inb (by decide +kernel) rfl, mm_inb (by decide +kernel) rfl⟩
theorem bs_X4_mix : (.static yX4_mix ∈ mm_big ∧ .initialized yX4_mix.cls ∈ mm_big ∧ .code yX4_mix cX4_mix 4 (some .long) ∈ mm_big) := ⟨mm_inb (by decide +kernel) rfl, mm_inb (by decide +kernel) rfl, mm_inb (by decide +kernel) rfl⟩
theorem bm_X4_digestPlaces : (.instanceMethod yX4_digestPlaces ∈ mm_big ∧ .selects RX4 yX4_digestPlaces yX4_digestPlaces ∈ mm_big ∧ .initialized RX4 ∈ mm_big ∧ .code yX4_digestPlaces cX4_digestPlaces 7 (some .long) ∈ mm_big) := ⟨mm_inb (by decide +kernel) rfl, mm_inb (by decide +kernel) rfl, mm_inb (by decide +kernel) rfl, mm_inb (by decide +kernel) rfl⟩
theorem bm_X4_digestPerson : (.instanceMethod yX4_digestPerson ∈ mm_big ∧ .selects RX4 yX4_digestPerson yX4_digestPerson ∈ mm_big ∧ .initialized RX4 ∈ mm_big ∧ .code yX4_digestPerson cX4_digestPerson 7 (some .long) ∈ mm_big) := ⟨mm_inb (by decide +kernel) rfl, mm_inb (by decide +kernel) rfl, mm_inb (by decide +kernel) rfl, mm_inb (by decide +kernel) rfl⟩
theorem bm_X4_digest : (.instanceMethod yX4_digest ∈ mm_big ∧ .selects RX4 yX4_digest yX4_digest ∈ mm_big ∧ .initialized RX4 ∈ mm_big ∧ .code yX4_digest cX4_digest 4 (some .long) ∈ mm_big) := ⟨mm_inb (by decide +kernel) rfl, mm_inb (by decide +kernel) rfl, mm_inb (by decide +kernel) rfl, mm_inb (by decide +kernel) rfl⟩
theorem bs_X5_in : (.static yX5_in ∈ mm_big ∧ .initialized yX5_in.cls ∈ mm_big ∧ .code yX5_in cX5_in 6 (some .boolean) ∈ mm_big) := ⟨mm_inb (by decide +kernel) rfl, mm_inb (by decide +kernel) rfl, mm_inb (by decide +kernel) rfl⟩
theorem bs_X5_copy : (.static yX5_copy ∈ mm_big ∧ .initialized yX5_copy.cls ∈ mm_big ∧ .code yX5_copy cX5_copy 3 none ∈ mm_big) := ⟨mm_inb (by decide +kernel) rfl, mm_inb (by decide +kernel) rfl, mm_inb (by decide +kernel) rfl⟩
theorem bs_X5_ones : (.static yX5_ones ∈ mm_big ∧ .initialized yX5_ones.cls ∈ mm_big ∧ .code yX5_ones cX5_ones 3 (some .int) ∈ mm_big) := ⟨mm_inb (by decide +kernel) rfl, mm_inb (by decide +kernel) rfl, mm_inb (by decide +kernel) rfl⟩
theorem bm_X5_letter : (.instanceMethod yX5_letter ∈ mm_big ∧ .selects RX5 yX5_letter yX5_letter ∈ mm_big ∧ .initialized RX5 ∈ mm_big ∧ .code yX5_letter cX5_letter 2 (some .int) ∈ mm_big) := ⟨mm_inb (by decide +kernel) rfl, mm_inb (by decide +kernel) rfl, mm_inb (by decide +kernel) rfl, mm_inb (by decide +kernel) rfl⟩
theorem bm_X5_blank : (.instanceMethod yX5_blank ∈ mm_big ∧ .selects RX5 yX5_blank yX5_blank ∈ mm_big ∧ .initialized RX5 ∈ mm_big ∧ .code yX5_blank cX5_blank 2 (some .int) ∈ mm_big) := ⟨mm_inb (by decide +kernel) rfl, mm_inb (by decide +kernel) rfl, mm_inb (by decide +kernel) rfl, mm_inb (by decide +kernel) rfl⟩
theorem bs_X5_isGood : (.static yX5_isGood ∈ mm_big ∧ .initialized yX5_isGood.cls ∈ mm_big ∧ .code yX5_isGood cX5_isGood 2 (some .boolean) ∈ mm_big) := ⟨mm_inb (by decide +kernel) rfl, mm_inb (by decide +kernel) rfl, mm_inb (by decide +kernel) rfl⟩
theorem bm_X5_faultOf : (.instanceMethod yX5_faultOf ∈ mm_big ∧ .selects RX5 yX5_faultOf yX5_faultOf ∈ mm_big ∧ .initialized RX5 ∈ mm_big ∧ .code yX5_faultOf cX5_faultOf 2 (some .int) ∈ mm_big) := ⟨mm_inb (by decide +kernel) rfl, mm_inb (by decide +kernel) rfl, mm_inb (by decide +kernel) rfl, mm_inb (by decide +kernel) rfl⟩
theorem bm_X5_fault : (.instanceMethod yX5_fault ∈ mm_big ∧ .selects RX5 yX5_fault yX5_fault ∈ mm_big ∧ .initialized RX5 ∈ mm_big ∧ .code yX5_fault cX5_fault 1 (some .int) ∈ mm_big) := ⟨mm_inb (by decide +kernel) rfl, mm_inb (by decide +kernel) rfl, mm_inb (by decide +kernel) rfl, mm_inb (by decide +kernel) rfl⟩
theorem bm_X5_dome : (.instanceMethod yX5_dome ∈ mm_big ∧ .selects RX5 yX5_dome yX5_dome ∈ mm_big ∧ .initialized RX5 ∈ mm_big ∧ .code yX5_dome cX5_dome 3 (some .int) ∈ mm_big) := ⟨mm_inb (by decide +kernel) rfl, mm_inb (by decide +kernel) rfl, mm_inb (by decide +kernel) rfl, mm_inb (by decide +kernel) rfl⟩
theorem bm_X5_isPlace : (.instanceMethod yX5_isPlace ∈ mm_big ∧ .selects RX5 yX5_isPlace yX5_isPlace ∈ mm_big ∧ .initialized RX5 ∈ mm_big ∧ .code yX5_isPlace cX5_isPlace 2 (some .boolean) ∈ mm_big) := ⟨mm_inb (by decide +kernel) rfl, mm_inb (by decide +kernel) rfl, mm_inb (by decide +kernel) rfl, mm_inb (by decide +kernel) rfl⟩
theorem bm_X5_isPerson : (.instanceMethod yX5_isPerson ∈ mm_big ∧ .selects RX5 yX5_isPerson yX5_isPerson ∈ mm_big ∧ .initialized RX5 ∈ mm_big ∧ .code yX5_isPerson cX5_isPerson 2 (some .boolean) ∈ mm_big) := ⟨mm_inb (by decide +kernel) rfl, mm_inb (by decide +kernel) rfl, mm_inb (by decide +kernel) rfl, mm_inb (by decide +kernel) rfl⟩
theorem bm_X5_whoIsAt : (.instanceMethod yX5_whoIsAt ∈ mm_big ∧ .selects RX5 yX5_whoIsAt yX5_whoIsAt ∈ mm_big ∧ .initialized RX5 ∈ mm_big ∧ .code yX5_whoIsAt cX5_whoIsAt 4 (some .int) ∈ mm_big) := ⟨mm_inb (by decide +kernel) rfl, mm_inb (by decide +kernel) rfl, mm_inb (by decide +kernel) rfl, mm_inb (by decide +kernel) rfl⟩
theorem bm_X5_heardAt : (.instanceMethod yX5_heardAt ∈ mm_big ∧ .selects RX5 yX5_heardAt yX5_heardAt ∈ mm_big ∧ .initialized RX5 ∈ mm_big ∧ .code yX5_heardAt cX5_heardAt 4 (some .int) ∈ mm_big) := ⟨mm_inb (by decide +kernel) rfl, mm_inb (by decide +kernel) rfl, mm_inb (by decide +kernel) rfl, mm_inb (by decide +kernel) rfl⟩
theorem bm_X5_rentOf : (.instanceMethod yX5_rentOf ∈ mm_big ∧ .selects RX5 yX5_rentOf yX5_rentOf ∈ mm_big ∧ .initialized RX5 ∈ mm_big ∧ .code yX5_rentOf cX5_rentOf 2 (some .int) ∈ mm_big) := ⟨mm_inb (by decide +kernel) rfl, mm_inb (by decide +kernel) rfl, mm_inb (by decide +kernel) rfl, mm_inb (by decide +kernel) rfl⟩
theorem bm_X5_tellPlace : (.instanceMethod yX5_tellPlace ∈ mm_big ∧ .selects RX5 yX5_tellPlace yX5_tellPlace ∈ mm_big ∧ .initialized RX5 ∈ mm_big ∧ .code yX5_tellPlace cX5_tellPlace 3 (some .int) ∈ mm_big) := ⟨mm_inb (by decide +kernel) rfl, mm_inb (by decide +kernel) rfl, mm_inb (by decide +kernel) rfl, mm_inb (by decide +kernel) rfl⟩
theorem bm_X5_place : (.instanceMethod yX5_place ∈ mm_big ∧ .selects RX5 yX5_place yX5_place ∈ mm_big ∧ .initialized RX5 ∈ mm_big ∧ .code yX5_place cX5_place 3 (some .int) ∈ mm_big) := ⟨mm_inb (by decide +kernel) rfl, mm_inb (by decide +kernel) rfl, mm_inb (by decide +kernel) rfl, mm_inb (by decide +kernel) rfl⟩
theorem bm_X5_cloth : (.instanceMethod yX5_cloth ∈ mm_big ∧ .selects RX5 yX5_cloth yX5_cloth ∈ mm_big ∧ .initialized RX5 ∈ mm_big ∧ .code yX5_cloth cX5_cloth 4 (some .int) ∈ mm_big) := ⟨mm_inb (by decide +kernel) rfl, mm_inb (by decide +kernel) rfl, mm_inb (by decide +kernel) rfl, mm_inb (by decide +kernel) rfl⟩
theorem bm_X5_person : (.instanceMethod yX5_person ∈ mm_big ∧ .selects RX5 yX5_person yX5_person ∈ mm_big ∧ .initialized RX5 ∈ mm_big ∧ .code yX5_person cX5_person 3 (some .int) ∈ mm_big) := ⟨mm_inb (by decide +kernel) rfl, mm_inb (by decide +kernel) rfl, mm_inb (by decide +kernel) rfl, mm_inb (by decide +kernel) rfl⟩
theorem bm_X5_laterBy : (.instanceMethod yX5_laterBy ∈ mm_big ∧ .selects RX5 yX5_laterBy yX5_laterBy ∈ mm_big ∧ .initialized RX5 ∈ mm_big ∧ .code yX5_laterBy cX5_laterBy 8 (some .int) ∈ mm_big) := ⟨mm_inb (by decide +kernel) rfl, mm_inb (by decide +kernel) rfl, mm_inb (by decide +kernel) rfl, mm_inb (by decide +kernel) rfl⟩
theorem bm_X5_layHears : (.instanceMethod yX5_layHears ∈ mm_big ∧ .selects RX5 yX5_layHears yX5_layHears ∈ mm_big ∧ .initialized RX5 ∈ mm_big ∧ .code yX5_layHears cX5_layHears 9 none ∈ mm_big) := ⟨mm_inb (by decide +kernel) rfl, mm_inb (by decide +kernel) rfl, mm_inb (by decide +kernel) rfl, mm_inb (by decide +kernel) rfl⟩
theorem bm_X5_hearers : (.instanceMethod yX5_hearers ∈ mm_big ∧ .selects RX5 yX5_hearers yX5_hearers ∈ mm_big ∧ .initialized RX5 ∈ mm_big ∧ .code yX5_hearers cX5_hearers 5 (some .int) ∈ mm_big) := ⟨mm_inb (by decide +kernel) rfl, mm_inb (by decide +kernel) rfl, mm_inb (by decide +kernel) rfl, mm_inb (by decide +kernel) rfl⟩
theorem bm_X5_tell : (.instanceMethod yX5_tell ∈ mm_big ∧ .selects RX5 yX5_tell yX5_tell ∈ mm_big ∧ .initialized RX5 ∈ mm_big ∧ .code yX5_tell cX5_tell 3 (some .int) ∈ mm_big) := ⟨mm_inb (by decide +kernel) rfl, mm_inb (by decide +kernel) rfl, mm_inb (by decide +kernel) rfl, mm_inb (by decide +kernel) rfl⟩
theorem bm_X5_about : (.instanceMethod yX5_about ∈ mm_big ∧ .selects RX5 yX5_about yX5_about ∈ mm_big ∧ .initialized RX5 ∈ mm_big ∧ .code yX5_about cX5_about 3 (some .int) ∈ mm_big) := ⟨mm_inb (by decide +kernel) rfl, mm_inb (by decide +kernel) rfl, mm_inb (by decide +kernel) rfl, mm_inb (by decide +kernel) rfl⟩
theorem bm_X5_as : (.instanceMethod yX5_as ∈ mm_big ∧ .selects RX5 yX5_as yX5_as ∈ mm_big ∧ .initialized RX5 ∈ mm_big ∧ .code yX5_as cX5_as 5 (some .int) ∈ mm_big) := ⟨mm_inb (by decide +kernel) rfl, mm_inb (by decide +kernel) rfl, mm_inb (by decide +kernel) rfl, mm_inb (by decide +kernel) rfl⟩
theorem bm_X5_move : (.instanceMethod yX5_move ∈ mm_big ∧ .selects RX5 yX5_move yX5_move ∈ mm_big ∧ .initialized RX5 ∈ mm_big ∧ .code yX5_move cX5_move 4 (some .int) ∈ mm_big) := ⟨mm_inb (by decide +kernel) rfl, mm_inb (by decide +kernel) rfl, mm_inb (by decide +kernel) rfl, mm_inb (by decide +kernel) rfl⟩
theorem bm_X5_says : (.instanceMethod yX5_says ∈ mm_big ∧ .selects RX5 yX5_says yX5_says ∈ mm_big ∧ .initialized RX5 ∈ mm_big ∧ .code yX5_says cX5_says 7 (some .int) ∈ mm_big) := ⟨mm_inb (by decide +kernel) rfl, mm_inb (by decide +kernel) rfl, mm_inb (by decide +kernel) rfl, mm_inb (by decide +kernel) rfl⟩
theorem bm_X5_say : (.instanceMethod yX5_say ∈ mm_big ∧ .selects RX5 yX5_say yX5_say ∈ mm_big ∧ .initialized RX5 ∈ mm_big ∧ .code yX5_say cX5_say 3 (some .int) ∈ mm_big) := ⟨mm_inb (by decide +kernel) rfl, mm_inb (by decide +kernel) rfl, mm_inb (by decide +kernel) rfl, mm_inb (by decide +kernel) rfl⟩
theorem bm_X5_hearsOf : (.instanceMethod yX5_hearsOf ∈ mm_big ∧ .selects RX5 yX5_hearsOf yX5_hearsOf ∈ mm_big ∧ .initialized RX5 ∈ mm_big ∧ .code yX5_hearsOf cX5_hearsOf 3 (some .int) ∈ mm_big) := ⟨mm_inb (by decide +kernel) rfl, mm_inb (by decide +kernel) rfl, mm_inb (by decide +kernel) rfl, mm_inb (by decide +kernel) rfl⟩
theorem bm_X5_hears : (.instanceMethod yX5_hears ∈ mm_big ∧ .selects RX5 yX5_hears yX5_hears ∈ mm_big ∧ .initialized RX5 ∈ mm_big ∧ .code yX5_hears cX5_hears 3 (some .int) ∈ mm_big) := ⟨mm_inb (by decide +kernel) rfl, mm_inb (by decide +kernel) rfl, mm_inb (by decide +kernel) rfl, mm_inb (by decide +kernel) rfl⟩
theorem bm_X5_screensOf : (.instanceMethod yX5_screensOf ∈ mm_big ∧ .selects RX5 yX5_screensOf yX5_screensOf ∈ mm_big ∧ .initialized RX5 ∈ mm_big ∧ .code yX5_screensOf cX5_screensOf 6 (some .int) ∈ mm_big) := ⟨mm_inb (by decide +kernel) rfl, mm_inb (by decide +kernel) rfl, mm_inb (by decide +kernel) rfl, mm_inb (by decide +kernel) rfl⟩
theorem bm_X5_screens : (.instanceMethod yX5_screens ∈ mm_big ∧ .selects RX5 yX5_screens yX5_screens ∈ mm_big ∧ .initialized RX5 ∈ mm_big ∧ .code yX5_screens cX5_screens 5 (some .int) ∈ mm_big) := ⟨mm_inb (by decide +kernel) rfl, mm_inb (by decide +kernel) rfl, mm_inb (by decide +kernel) rfl, mm_inb (by decide +kernel) rfl⟩
theorem bm_X5_standOf : (.instanceMethod yX5_standOf ∈ mm_big ∧ .selects RX5 yX5_standOf yX5_standOf ∈ mm_big ∧ .initialized RX5 ∈ mm_big ∧ .code yX5_standOf cX5_standOf 9 (some .int) ∈ mm_big) := ⟨mm_inb (by decide +kernel) rfl, mm_inb (by decide +kernel) rfl, mm_inb (by decide +kernel) rfl, mm_inb (by decide +kernel) rfl⟩
theorem bm_X5_stand : (.instanceMethod yX5_stand ∈ mm_big ∧ .selects RX5 yX5_stand yX5_stand ∈ mm_big ∧ .initialized RX5 ∈ mm_big ∧ .code yX5_stand cX5_stand 3 (some .int) ∈ mm_big) := ⟨mm_inb (by decide +kernel) rfl, mm_inb (by decide +kernel) rfl, mm_inb (by decide +kernel) rfl, mm_inb (by decide +kernel) rfl⟩
theorem bm_X5_trial : (.instanceMethod yX5_trial ∈ mm_big ∧ .selects RX5 yX5_trial yX5_trial ∈ mm_big ∧ .initialized RX5 ∈ mm_big ∧ .code yX5_trial cX5_trial 3 (some .int) ∈ mm_big) := ⟨mm_inb (by decide +kernel) rfl, mm_inb (by decide +kernel) rfl, mm_inb (by decide +kernel) rfl, mm_inb (by decide +kernel) rfl⟩
theorem bm_X5_forget : (.instanceMethod yX5_forget ∈ mm_big ∧ .selects RX5 yX5_forget yX5_forget ∈ mm_big ∧ .initialized RX5 ∈ mm_big ∧ .code yX5_forget cX5_forget 2 (some .int) ∈ mm_big) := ⟨mm_inb (by decide +kernel) rfl, mm_inb (by decide +kernel) rfl, mm_inb (by decide +kernel) rfl, mm_inb (by decide +kernel) rfl⟩
theorem bm_X5_whoBits : (.instanceMethod yX5_whoBits ∈ mm_big ∧ .selects RX5 yX5_whoBits yX5_whoBits ∈ mm_big ∧ .initialized RX5 ∈ mm_big ∧ .code yX5_whoBits cX5_whoBits 6 (some .int) ∈ mm_big) := ⟨mm_inb (by decide +kernel) rfl, mm_inb (by decide +kernel) rfl, mm_inb (by decide +kernel) rfl, mm_inb (by decide +kernel) rfl⟩
theorem bm_X5_who : (.instanceMethod yX5_who ∈ mm_big ∧ .selects RX5 yX5_who yX5_who ∈ mm_big ∧ .initialized RX5 ∈ mm_big ∧ .code yX5_who cX5_who 1 (some .int) ∈ mm_big) := ⟨mm_inb (by decide +kernel) rfl, mm_inb (by decide +kernel) rfl, mm_inb (by decide +kernel) rfl, mm_inb (by decide +kernel) rfl⟩
theorem bm_X5_askOf : (.instanceMethod yX5_askOf ∈ mm_big ∧ .selects RX5 yX5_askOf yX5_askOf ∈ mm_big ∧ .initialized RX5 ∈ mm_big ∧ .code yX5_askOf cX5_askOf 8 (some .int) ∈ mm_big) := ⟨mm_inb (by decide +kernel) rfl, mm_inb (by decide +kernel) rfl, mm_inb (by decide +kernel) rfl, mm_inb (by decide +kernel) rfl⟩
theorem bm_X5_ask : (.instanceMethod yX5_ask ∈ mm_big ∧ .selects RX5 yX5_ask yX5_ask ∈ mm_big ∧ .initialized RX5 ∈ mm_big ∧ .code yX5_ask cX5_ask 1 (some .int) ∈ mm_big) := ⟨mm_inb (by decide +kernel) rfl, mm_inb (by decide +kernel) rfl, mm_inb (by decide +kernel) rfl, mm_inb (by decide +kernel) rfl⟩
theorem bm_X5_draw : (.instanceMethod yX5_draw ∈ mm_big ∧ .selects RX5 yX5_draw yX5_draw ∈ mm_big ∧ .initialized RX5 ∈ mm_big ∧ .code yX5_draw cX5_draw 2 (some .int) ∈ mm_big) := ⟨mm_inb (by decide +kernel) rfl, mm_inb (by decide +kernel) rfl, mm_inb (by decide +kernel) rfl, mm_inb (by decide +kernel) rfl⟩
theorem bm_X5_knownAll : (.instanceMethod yX5_knownAll ∈ mm_big ∧ .selects RX5 yX5_knownAll yX5_knownAll ∈ mm_big ∧ .initialized RX5 ∈ mm_big ∧ .code yX5_knownAll cX5_knownAll 3 (some .int) ∈ mm_big) := ⟨mm_inb (by decide +kernel) rfl, mm_inb (by decide +kernel) rfl, mm_inb (by decide +kernel) rfl, mm_inb (by decide +kernel) rfl⟩
theorem bm_X5_days : (.instanceMethod yX5_days ∈ mm_big ∧ .selects RX5 yX5_days yX5_days ∈ mm_big ∧ .initialized RX5 ∈ mm_big ∧ .code yX5_days cX5_days 9 (some .int) ∈ mm_big) := ⟨mm_inb (by decide +kernel) rfl, mm_inb (by decide +kernel) rfl, mm_inb (by decide +kernel) rfl, mm_inb (by decide +kernel) rfl⟩
theorem bm_X5_image : (.instanceMethod yX5_image ∈ mm_big ∧ .selects RX5 yX5_image yX5_image ∈ mm_big ∧ .initialized RX5 ∈ mm_big ∧ .code yX5_image cX5_image 1 (some .int) ∈ mm_big) := ⟨mm_inb (by decide +kernel) rfl, mm_inb (by decide +kernel) rfl, mm_inb (by decide +kernel) rfl, mm_inb (by decide +kernel) rfl⟩
theorem bm_X5_restore : (.instanceMethod yX5_restore ∈ mm_big ∧ .selects RX5 yX5_restore yX5_restore ∈ mm_big ∧ .initialized RX5 ∈ mm_big ∧ .code yX5_restore cX5_restore 1 (some .int) ∈ mm_big) := ⟨mm_inb (by decide +kernel) rfl, mm_inb (by decide +kernel) rfl, mm_inb (by decide +kernel) rfl, mm_inb (by decide +kernel) rfl⟩
theorem bm_X5_countOf : (.instanceMethod yX5_countOf ∈ mm_big ∧ .selects RX5 yX5_countOf yX5_countOf ∈ mm_big ∧ .initialized RX5 ∈ mm_big ∧ .code yX5_countOf cX5_countOf 2 (some .int) ∈ mm_big) := ⟨mm_inb (by decide +kernel) rfl, mm_inb (by decide +kernel) rfl, mm_inb (by decide +kernel) rfl, mm_inb (by decide +kernel) rfl⟩
theorem bm_X5_count : (.instanceMethod yX5_count ∈ mm_big ∧ .selects RX5 yX5_count yX5_count ∈ mm_big ∧ .initialized RX5 ∈ mm_big ∧ .code yX5_count cX5_count 2 (some .int) ∈ mm_big) := ⟨mm_inb (by decide +kernel) rfl, mm_inb (by decide +kernel) rfl, mm_inb (by decide +kernel) rfl, mm_inb (by decide +kernel) rfl⟩
theorem bm_X5_note : (.instanceMethod yX5_note ∈ mm_big ∧ .selects RX5 yX5_note yX5_note ∈ mm_big ∧ .initialized RX5 ∈ mm_big ∧ .code yX5_note cX5_note 3 none ∈ mm_big) := ⟨mm_inb (by decide +kernel) rfl, mm_inb (by decide +kernel) rfl, mm_inb (by decide +kernel) rfl, mm_inb (by decide +kernel) rfl⟩
theorem bm_X5_digest : (.instanceMethod yX5_digest ∈ mm_big ∧ .selects RX5 yX5_digest yX5_digest ∈ mm_big ∧ .initialized RX5 ∈ mm_big ∧ .code yX5_digest cX5_digest 3 (some .long) ∈ mm_big) := ⟨mm_inb (by decide +kernel) rfl, mm_inb (by decide +kernel) rfl, mm_inb (by decide +kernel) rfl, mm_inb (by decide +kernel) rfl⟩
