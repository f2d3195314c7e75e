theorem tw_1_0 : Cond.initialized RL ∈ jT := jT_in (in_t1 (List.mem_of_getElem? (i := 0) rfl)) rfl
theorem tw_1_1 : Cond.initialized RX11 ∈ jT := jT_in (in_t1 (List.mem_of_getElem? (i := 1) rfl)) rfl
theorem tw_1_2 : Cond.initialized RX10 ∈ jT := jT_in (in_t1 (List.mem_of_getElem? (i := 2) rfl)) rfl
theorem tw_1_3 : Cond.initialized RX0 ∈ jT := jT_in (in_t1 (List.mem_of_getElem? (i := 3) rfl)) rfl
theorem tw_1_4 : Cond.initialized RX6 ∈ jT := jT_in (in_t1 (List.mem_of_getElem? (i := 4) rfl)) rfl
theorem tw_1_5 : Cond.initialized RX8 ∈ jT := jT_in (in_t1 (List.mem_of_getElem? (i := 5) rfl)) rfl
theorem tw_1_6 : Cond.initialized RX5 ∈ jT := jT_in (in_t1 (List.mem_of_getElem? (i := 6) rfl)) rfl
theorem tw_1_7 : Cond.initialized RX4 ∈ jT := jT_in (in_t1 (List.mem_of_getElem? (i := 7) rfl)) rfl
theorem tw_1_8 : Cond.initialized RX3 ∈ jT := jT_in (in_t1 (List.mem_of_getElem? (i := 8) rfl)) rfl
theorem tw_1_9 : Cond.initialized RX2 ∈ jT := jT_in (in_t1 (List.mem_of_getElem? (i := 9) rfl)) rfl
theorem tw_1_10 : Cond.initialized RX7 ∈ jT := jT_in (in_t1 (List.mem_of_getElem? (i := 10) rfl)) rfl
theorem tw_1_11 : Cond.initialized RX1 ∈ jT := jT_in (in_t1 (List.mem_of_getElem? (i := 11) rfl)) rfl
theorem tw_1_12 : Cond.initialized RX9 ∈ jT := jT_in (in_t1 (List.mem_of_getElem? (i := 12) rfl)) rfl
theorem tw_1_13 : Cond.initialized RX12 ∈ jT := jT_in (in_t1 (List.mem_of_getElem? (i := 13) rfl)) rfl
theorem tw_1_14 : Cond.initialized RJ9 ∈ jT := jT_in (in_t1 (List.mem_of_getElem? (i := 14) rfl)) rfl
theorem tw_1_15 : Cond.initialized RJ0 ∈ jT := jT_in (in_t1 (List.mem_of_getElem? (i := 15) rfl)) rfl
theorem tw_1_16 : Cond.initialized RJ1 ∈ jT := jT_in (in_t1 (List.mem_of_getElem? (i := 16) rfl)) rfl
theorem tw_1_17 : Cond.initialized RJ2 ∈ jT := jT_in (in_t1 (List.mem_of_getElem? (i := 17) rfl)) rfl
theorem tw_1_18 : Cond.initialized RJ3 ∈ jT := jT_in (in_t1 (List.mem_of_getElem? (i := 18) rfl)) rfl
theorem tw_1_19 : Cond.initialized RJ11 ∈ jT := jT_in (in_t1 (List.mem_of_getElem? (i := 19) rfl)) rfl
theorem tw_1_20 : Cond.initialized RJ10 ∈ jT := jT_in (in_t1 (List.mem_of_getElem? (i := 20) rfl)) rfl
theorem tw_1_21 : Cond.initialized RJ6 ∈ jT := jT_in (in_t1 (List.mem_of_getElem? (i := 21) rfl)) rfl
theorem tw_1_22 : Cond.classLink RL 7 RX11 ∈ jT := jT_in (in_t1 (List.mem_of_getElem? (i := 22) rfl)) rfl
theorem tw_1_23 : Cond.instantiable RX11 14 ∈ jT := jT_in (in_t1 (List.mem_of_getElem? (i := 23) rfl)) rfl
theorem tw_1_24 : Cond.methodLink RL 9 yX11_init ∈ jT := jT_in (in_t1 (List.mem_of_getElem? (i := 24) rfl)) rfl
theorem tw_1_25 : Cond.instanceMethod yX11_init ∈ jT := jT_in (in_t1 (List.mem_of_getElem? (i := 25) rfl)) rfl
theorem tw_1_26 : Cond.code yX11_init cX11_init 1 none ∈ jT := jT_in (in_t1 (List.mem_of_getElem? (i := 26) rfl)) rfl
theorem tw_1_27 : Cond.methodLink RX11 1 objectInit ∈ jT := jT_in (in_t1 (List.mem_of_getElem? (i := 27) rfl)) rfl
theorem tw_1_28 : Cond.instanceMethod objectInit ∈ jT := jT_in (in_t1 (List.mem_of_getElem? (i := 28) rfl)) rfl
theorem tw_1_29 : Cond.code objectInit ⟨#[0xb1]⟩ 1 none ∈ jT := jT_in (in_t1 (List.mem_of_getElem? (i := 29) rfl)) rfl
theorem tw_1_30 : Cond.classLink RX11 7 RX10 ∈ jT := jT_in (in_t1 (List.mem_of_getElem? (i := 30) rfl)) rfl
theorem tw_1_31 : Cond.instantiable RX10 6 ∈ jT := jT_in (in_t1 (List.mem_of_getElem? (i := 31) rfl)) rfl
theorem tw_1_32 : Cond.methodLinkNest RX11 9 yX10_init "StruckBeats" ∈ jN := jN_in (in_t1 (List.mem_of_getElem? (i := 32) rfl)) rfl
theorem tw_1_33 : Cond.instanceMethod yX10_init ∈ jT := jT_in (in_t1 (List.mem_of_getElem? (i := 33) rfl)) rfl
theorem tw_1_34 : Cond.code yX10_init cX10_init 1 none ∈ jT := jT_in (in_t1 (List.mem_of_getElem? (i := 34) rfl)) rfl
theorem tw_1_35 : Cond.methodLink RX10 3 objectInit ∈ jT := jT_in (in_t1 (List.mem_of_getElem? (i := 35) rfl)) rfl
theorem tw_1_36 : Cond.fieldLink RX10 9 "StruckBeats$Tape" "bytes" "[I" ∈ jT := jT_in (in_t1 (List.mem_of_getElem? (i := 36) rfl)) rfl
theorem tw_1_37 : Cond.fieldLink RX10 15 "StruckBeats$Tape" "size" "I" ∈ jT := jT_in (in_t1 (List.mem_of_getElem? (i := 37) rfl)) rfl
theorem tw_1_38 : Cond.fieldLinkNest RX11 116 "StruckBeats$Tape" "size" "I" "StruckBeats" ∈ jN := jN_in (in_t1 (List.mem_of_getElem? (i := 38) rfl)) rfl
theorem tw_1_39 : Cond.fieldLink RX10 19 "StruckBeats$Tape" "end" "I" ∈ jT := jT_in (in_t1 (List.mem_of_getElem? (i := 39) rfl)) rfl
theorem tw_1_40 : Cond.fieldLink RX10 22 "StruckBeats$Tape" "place" "I" ∈ jT := jT_in (in_t1 (List.mem_of_getElem? (i := 40) rfl)) rfl
theorem tw_1_41 : Cond.fieldLinkNest RX5 43 "StruckBeats$Tape" "place" "I" "StruckBeats" ∈ jN := jN_in (in_t1 (List.mem_of_getElem? (i := 41) rfl)) rfl
theorem tw_1_42 : Cond.fieldLinkNest RX4 38 "StruckBeats$Tape" "place" "I" "StruckBeats" ∈ jN := jN_in (in_t1 (List.mem_of_getElem? (i := 42) rfl)) rfl
theorem tw_1_43 : Cond.fieldLinkNest RX8 56 "StruckBeats$Tape" "place" "I" "StruckBeats" ∈ jN := jN_in (in_t1 (List.mem_of_getElem? (i := 43) rfl)) rfl
theorem tw_1_44 : Cond.fieldLink RX10 25 "StruckBeats$Tape" "sign" "I" ∈ jT := jT_in (in_t1 (List.mem_of_getElem? (i := 44) rfl)) rfl
theorem tw_1_45 : Cond.fieldLinkNest RX4 34 "StruckBeats$Tape" "sign" "I" "StruckBeats" ∈ jN := jN_in (in_t1 (List.mem_of_getElem? (i := 45) rfl)) rfl
theorem tw_1_46 : Cond.fieldLinkNest RX5 64 "StruckBeats$Tape" "sign" "I" "StruckBeats" ∈ jN := jN_in (in_t1 (List.mem_of_getElem? (i := 46) rfl)) rfl
theorem tw_1_47 : Cond.fieldLinkNest RX8 53 "StruckBeats$Tape" "sign" "I" "StruckBeats" ∈ jN := jN_in (in_t1 (List.mem_of_getElem? (i := 47) rfl)) rfl
theorem tw_1_48 : Cond.fieldLink RX10 28 "StruckBeats$Tape" "fault" "I" ∈ jT := jT_in (in_t1 (List.mem_of_getElem? (i := 48) rfl)) rfl
theorem tw_1_49 : Cond.fieldLinkNest RX5 57 "StruckBeats$Tape" "fault" "I" "StruckBeats" ∈ jN := jN_in (in_t1 (List.mem_of_getElem? (i := 49) rfl)) rfl
theorem tw_1_50 : Cond.fieldLinkNest RX11 134 "StruckBeats$Tape" "fault" "I" "StruckBeats" ∈ jN := jN_in (in_t1 (List.mem_of_getElem? (i := 50) rfl)) rfl
theorem tw_1_51 : Cond.fieldLinkNest RX8 37 "StruckBeats$Tape" "fault" "I" "StruckBeats" ∈ jN := jN_in (in_t1 (List.mem_of_getElem? (i := 51) rfl)) rfl
theorem tw_1_65 : Cond.arrayClass .int ∈ jT := jT_in (in_t1 (List.mem_of_getElem? (i := 65) rfl)) rfl
theorem tw_1_66 : Cond.classLink RX11 16 RX0 ∈ jT := jT_in (in_t1 (List.mem_of_getElem? (i := 66) rfl)) rfl
theorem tw_1_67 : Cond.instantiable RX0 8 ∈ jT := jT_in (in_t1 (List.mem_of_getElem? (i := 67) rfl)) rfl
theorem tw_1_68 : Cond.methodLinkNest RX11 18 yX0_init "StruckBeats" ∈ jN := jN_in (in_t1 (List.mem_of_getElem? (i := 68) rfl)) rfl
theorem tw_1_69 : Cond.instanceMethod yX0_init ∈ jT := jT_in (in_t1 (List.mem_of_getElem? (i := 69) rfl)) rfl
theorem tw_1_70 : Cond.code yX0_init cX0_init 1 none ∈ jT := jT_in (in_t1 (List.mem_of_getElem? (i := 70) rfl)) rfl
theorem tw_1_71 : Cond.methodLink RX0 3 objectInit ∈ jT := jT_in (in_t1 (List.mem_of_getElem? (i := 71) rfl)) rfl
theorem tw_1_72 : Cond.classLink RX0 18 RX6 ∈ jT := jT_in (in_t1 (List.mem_of_getElem? (i := 72) rfl)) rfl
theorem tw_1_73 : Cond.instantiable RX6 7 ∈ jT := jT_in (in_t1 (List.mem_of_getElem? (i := 73) rfl)) rfl
theorem tw_1_74 : Cond.methodLinkNest RX0 20 yX6_init "StruckBeats" ∈ jN := jN_in (in_t1 (List.mem_of_getElem? (i := 74) rfl)) rfl
theorem tw_1_75 : Cond.instanceMethod yX6_init ∈ jT := jT_in (in_t1 (List.mem_of_getElem? (i := 75) rfl)) rfl
theorem tw_1_76 : Cond.code yX6_init cX6_init 1 none ∈ jT := jT_in (in_t1 (List.mem_of_getElem? (i := 76) rfl)) rfl
theorem tw_1_77 : Cond.methodLink RX6 3 objectInit ∈ jT := jT_in (in_t1 (List.mem_of_getElem? (i := 77) rfl)) rfl
theorem tw_1_78 : Cond.fieldLink RX6 9 "StruckBeats$Loans" "lenders" "[I" ∈ jT := jT_in (in_t1 (List.mem_of_getElem? (i := 78) rfl)) rfl
theorem tw_1_79 : Cond.fieldLinkNest RX7 27 "StruckBeats$Loans" "lenders" "[I" "StruckBeats" ∈ jN := jN_in (in_t1 (List.mem_of_getElem? (i := 79) rfl)) rfl
theorem tw_1_80 : Cond.fieldLinkNest RX0 76 "StruckBeats$Loans" "lenders" "[I" "StruckBeats" ∈ jN := jN_in (in_t1 (List.mem_of_getElem? (i := 80) rfl)) rfl
theorem tw_1_81 : Cond.fieldLink RX6 15 "StruckBeats$Loans" "debtors" "[I" ∈ jT := jT_in (in_t1 (List.mem_of_getElem? (i := 81) rfl)) rfl
theorem tw_1_82 : Cond.fieldLinkNest RX7 33 "StruckBeats$Loans" "debtors" "[I" "StruckBeats" ∈ jN := jN_in (in_t1 (List.mem_of_getElem? (i := 82) rfl)) rfl
theorem tw_1_83 : Cond.fieldLinkNest RX0 79 "StruckBeats$Loans" "debtors" "[I" "StruckBeats" ∈ jN := jN_in (in_t1 (List.mem_of_getElem? (i := 83) rfl)) rfl
theorem tw_1_84 : Cond.fieldLink RX6 18 "StruckBeats$Loans" "amounts" "[I" ∈ jT := jT_in (in_t1 (List.mem_of_getElem? (i := 84) rfl)) rfl
theorem tw_1_85 : Cond.fieldLink RX6 21 "StruckBeats$Loans" "rates" "[I" ∈ jT := jT_in (in_t1 (List.mem_of_getElem? (i := 85) rfl)) rfl
theorem tw_1_86 : Cond.fieldLink RX6 24 "StruckBeats$Loans" "daily" "[I" ∈ jT := jT_in (in_t1 (List.mem_of_getElem? (i := 86) rfl)) rfl
theorem tw_1_87 : Cond.fieldLinkNest RX0 88 "StruckBeats$Loans" "daily" "[I" "StruckBeats" ∈ jN := jN_in (in_t1 (List.mem_of_getElem? (i := 87) rfl)) rfl
theorem tw_1_88 : Cond.fieldLink RX6 27 "StruckBeats$Loans" "dues" "[I" ∈ jT := jT_in (in_t1 (List.mem_of_getElem? (i := 88) rfl)) rfl
theorem tw_1_89 : Cond.fieldLinkNest RX7 30 "StruckBeats$Loans" "dues" "[I" "StruckBeats" ∈ jN := jN_in (in_t1 (List.mem_of_getElem? (i := 89) rfl)) rfl
theorem tw_1_90 : Cond.fieldLinkNest RX0 82 "StruckBeats$Loans" "dues" "[I" "StruckBeats" ∈ jN := jN_in (in_t1 (List.mem_of_getElem? (i := 90) rfl)) rfl
theorem tw_1_91 : Cond.fieldLink RX6 30 "StruckBeats$Loans" "size" "I" ∈ jT := jT_in (in_t1 (List.mem_of_getElem? (i := 91) rfl)) rfl
theorem tw_1_92 : Cond.fieldLinkNest RX5 22 "StruckBeats$Loans" "size" "I" "StruckBeats" ∈ jN := jN_in (in_t1 (List.mem_of_getElem? (i := 92) rfl)) rfl
theorem tw_1_93 : Cond.fieldLinkNest RX7 22 "StruckBeats$Loans" "size" "I" "StruckBeats" ∈ jN := jN_in (in_t1 (List.mem_of_getElem? (i := 93) rfl)) rfl
theorem tw_1_94 : Cond.fieldLinkNest RX11 154 "StruckBeats$Loans" "size" "I" "StruckBeats" ∈ jN := jN_in (in_t1 (List.mem_of_getElem? (i := 94) rfl)) rfl
theorem tw_1_95 : Cond.fieldLinkNest RX0 73 "StruckBeats$Loans" "size" "I" "StruckBeats" ∈ jN := jN_in (in_t1 (List.mem_of_getElem? (i := 95) rfl)) rfl
theorem tw_1_111 : Cond.fieldLink RX0 9 "StruckBeats$City" "beats" "[I" ∈ jT := jT_in (in_t1 (List.mem_of_getElem? (i := 111) rfl)) rfl
theorem tw_1_112 : Cond.fieldLinkNest RX11 102 "StruckBeats$City" "beats" "[I" "StruckBeats" ∈ jN := jN_in (in_t1 (List.mem_of_getElem? (i := 112) rfl)) rfl
theorem tw_1_113 : Cond.fieldLink RX0 15 "StruckBeats$City" "ages" "[I" ∈ jT := jT_in (in_t1 (List.mem_of_getElem? (i := 113) rfl)) rfl
theorem tw_1_114 : Cond.fieldLinkNest RX11 106 "StruckBeats$City" "ages" "[I" "StruckBeats" ∈ jN := jN_in (in_t1 (List.mem_of_getElem? (i := 114) rfl)) rfl
theorem tw_1_115 : Cond.fieldLink RX0 21 "StruckBeats$City" "loans" "LStruckBeats$Loans;" ∈ jT := jT_in (in_t1 (List.mem_of_getElem? (i := 115) rfl)) rfl
theorem tw_1_116 : Cond.fieldLinkNest RX11 143 "StruckBeats$City" "loans" "LStruckBeats$Loans;" "StruckBeats" ∈ jN := jN_in (in_t1 (List.mem_of_getElem? (i := 116) rfl)) rfl
theorem tw_1_117 : Cond.fieldLinkNest RX2 111 "StruckBeats$City" "loans" "LStruckBeats$Loans;" "StruckBeats" ∈ jN := jN_in (in_t1 (List.mem_of_getElem? (i := 117) rfl)) rfl
theorem tw_1_118 : Cond.fieldLink RX0 25 "StruckBeats$City" "told" "I" ∈ jT := jT_in (in_t1 (List.mem_of_getElem? (i := 118) rfl)) rfl
theorem tw_1_119 : Cond.fieldLinkNest RX11 109 "StruckBeats$City" "told" "I" "StruckBeats" ∈ jN := jN_in (in_t1 (List.mem_of_getElem? (i := 119) rfl)) rfl
theorem tw_1_120 : Cond.fieldLink RX0 29 "StruckBeats$City" "living" "I" ∈ jT := jT_in (in_t1 (List.mem_of_getElem? (i := 120) rfl)) rfl
theorem tw_1_121 : Cond.fieldLinkNest RX11 113 "StruckBeats$City" "living" "I" "StruckBeats" ∈ jN := jN_in (in_t1 (List.mem_of_getElem? (i := 121) rfl)) rfl
theorem tw_1_122 : Cond.fieldLinkNest RX2 105 "StruckBeats$City" "living" "I" "StruckBeats" ∈ jN := jN_in (in_t1 (List.mem_of_getElem? (i := 122) rfl)) rfl
theorem tw_1_123 : Cond.fieldLink RX0 32 "StruckBeats$City" "parish" "I" ∈ jT := jT_in (in_t1 (List.mem_of_getElem? (i := 123) rfl)) rfl
theorem tw_1_124 : Cond.fieldLinkNest RX11 172 "StruckBeats$City" "parish" "I" "StruckBeats" ∈ jN := jN_in (in_t1 (List.mem_of_getElem? (i := 124) rfl)) rfl
theorem tw_1_125 : Cond.fieldLink RX0 35 "StruckBeats$City" "day" "I" ∈ jT := jT_in (in_t1 (List.mem_of_getElem? (i := 125) rfl)) rfl
theorem tw_1_126 : Cond.fieldLinkNest RX2 120 "StruckBeats$City" "day" "I" "StruckBeats" ∈ jN := jN_in (in_t1 (List.mem_of_getElem? (i := 126) rfl)) rfl
theorem tw_1_127 : Cond.fieldLinkNest RX11 273 "StruckBeats$City" "day" "I" "StruckBeats" ∈ jN := jN_in (in_t1 (List.mem_of_getElem? (i := 127) rfl)) rfl
theorem tw_1_128 : Cond.fieldLink RX0 38 "StruckBeats$City" "drawn" "I" ∈ jT := jT_in (in_t1 (List.mem_of_getElem? (i := 128) rfl)) rfl
theorem tw_1_129 : Cond.fieldLinkNest RX11 270 "StruckBeats$City" "drawn" "I" "StruckBeats" ∈ jN := jN_in (in_t1 (List.mem_of_getElem? (i := 129) rfl)) rfl
theorem tw_1_147 : Cond.classLink RX11 29 RX8 ∈ jT := jT_in (in_t1 (List.mem_of_getElem? (i := 147) rfl)) rfl
theorem tw_1_148 : Cond.instantiable RX8 5 ∈ jT := jT_in (in_t1 (List.mem_of_getElem? (i := 148) rfl)) rfl
theorem tw_1_149 : Cond.methodLink RX11 31 yX8_init ∈ jT := jT_in (in_t1 (List.mem_of_getElem? (i := 149) rfl)) rfl
theorem tw_1_150 : Cond.instanceMethod yX8_init ∈ jT := jT_in (in_t1 (List.mem_of_getElem? (i := 150) rfl)) rfl
theorem tw_1_151 : Cond.code yX8_init cX8_init 2 none ∈ jT := jT_in (in_t1 (List.mem_of_getElem? (i := 151) rfl)) rfl
theorem tw_1_152 : Cond.methodLink RX8 3 objectInit ∈ jT := jT_in (in_t1 (List.mem_of_getElem? (i := 152) rfl)) rfl
theorem tw_1_153 : Cond.fieldLink RX8 25 "StruckBeats$Routines" "tape" "LStruckBeats$Tape;" ∈ jT := jT_in (in_t1 (List.mem_of_getElem? (i := 153) rfl)) rfl
theorem tw_1_154 : Cond.fieldLink RX8 9 "StruckBeats$Routines" "doings" "[I" ∈ jT := jT_in (in_t1 (List.mem_of_getElem? (i := 154) rfl)) rfl
theorem tw_1_155 : Cond.fieldLink RX8 15 "StruckBeats$Routines" "lengths" "[I" ∈ jT := jT_in (in_t1 (List.mem_of_getElem? (i := 155) rfl)) rfl
theorem tw_1_156 : Cond.fieldLink RX8 18 "StruckBeats$Routines" "draft" "[I" ∈ jT := jT_in (in_t1 (List.mem_of_getElem? (i := 156) rfl)) rfl
theorem tw_1_157 : Cond.fieldLink RX8 21 "StruckBeats$Routines" "length" "I" ∈ jT := jT_in (in_t1 (List.mem_of_getElem? (i := 157) rfl)) rfl
theorem tw_1_169 : Cond.classLink RX11 38 RX5 ∈ jT := jT_in (in_t1 (List.mem_of_getElem? (i := 169) rfl)) rfl
theorem tw_1_170 : Cond.instantiable RX5 2 ∈ jT := jT_in (in_t1 (List.mem_of_getElem? (i := 170) rfl)) rfl
theorem tw_1_171 : Cond.methodLink RX11 40 yX5_init ∈ jT := jT_in (in_t1 (List.mem_of_getElem? (i := 171) rfl)) rfl
theorem tw_1_172 : Cond.instanceMethod yX5_init ∈ jT := jT_in (in_t1 (List.mem_of_getElem? (i := 172) rfl)) rfl
theorem tw_1_173 : Cond.code yX5_init cX5_init 2 none ∈ jT := jT_in (in_t1 (List.mem_of_getElem? (i := 173) rfl)) rfl
theorem tw_1_174 : Cond.methodLink RX5 3 objectInit ∈ jT := jT_in (in_t1 (List.mem_of_getElem? (i := 174) rfl)) rfl
theorem tw_1_175 : Cond.classLink RX5 9 RX6 ∈ jT := jT_in (in_t1 (List.mem_of_getElem? (i := 175) rfl)) rfl
theorem tw_1_176 : Cond.methodLinkNest RX5 11 yX6_init "StruckBeats" ∈ jN := jN_in (in_t1 (List.mem_of_getElem? (i := 176) rfl)) rfl
theorem tw_1_177 : Cond.fieldLink RX5 18 "StruckBeats$LedgerReader" "tape" "LStruckBeats$Tape;" ∈ jT := jT_in (in_t1 (List.mem_of_getElem? (i := 177) rfl)) rfl
theorem tw_1_178 : Cond.fieldLink RX5 12 "StruckBeats$LedgerReader" "loans" "LStruckBeats$Loans;" ∈ jT := jT_in (in_t1 (List.mem_of_getElem? (i := 178) rfl)) rfl
theorem tw_1_179 : Cond.fieldLinkNest RX11 147 "StruckBeats$LedgerReader" "loans" "LStruckBeats$Loans;" "StruckBeats" ∈ jN := jN_in (in_t1 (List.mem_of_getElem? (i := 179) rfl)) rfl
theorem tw_1_185 : Cond.classLink RX11 45 RX4 ∈ jT := jT_in (in_t1 (List.mem_of_getElem? (i := 185) rfl)) rfl
theorem tw_1_186 : Cond.instantiable RX4 1 ∈ jT := jT_in (in_t1 (List.mem_of_getElem? (i := 186) rfl)) rfl
theorem tw_1_187 : Cond.methodLink RX11 47 yX4_init ∈ jT := jT_in (in_t1 (List.mem_of_getElem? (i := 187) rfl)) rfl
theorem tw_1_188 : Cond.instanceMethod yX4_init ∈ jT := jT_in (in_t1 (List.mem_of_getElem? (i := 188) rfl)) rfl
theorem tw_1_189 : Cond.code yX4_init cX4_init 2 none ∈ jT := jT_in (in_t1 (List.mem_of_getElem? (i := 189) rfl)) rfl
theorem tw_1_190 : Cond.methodLink RX4 3 objectInit ∈ jT := jT_in (in_t1 (List.mem_of_getElem? (i := 190) rfl)) rfl
theorem tw_1_191 : Cond.fieldLink RX4 9 "StruckBeats$LawReader" "tape" "LStruckBeats$Tape;" ∈ jT := jT_in (in_t1 (List.mem_of_getElem? (i := 191) rfl)) rfl
theorem tw_1_195 : Cond.classLink RX11 52 RX3 ∈ jT := jT_in (in_t1 (List.mem_of_getElem? (i := 195) rfl)) rfl
theorem tw_1_196 : Cond.instantiable RX3 7 ∈ jT := jT_in (in_t1 (List.mem_of_getElem? (i := 196) rfl)) rfl
theorem tw_1_197 : Cond.methodLinkNest RX11 54 yX3_init "StruckBeats" ∈ jN := jN_in (in_t1 (List.mem_of_getElem? (i := 197) rfl)) rfl
theorem tw_1_198 : Cond.instanceMethod yX3_init ∈ jT := jT_in (in_t1 (List.mem_of_getElem? (i := 198) rfl)) rfl
theorem tw_1_199 : Cond.code yX3_init cX3_init 1 none ∈ jT := jT_in (in_t1 (List.mem_of_getElem? (i := 199) rfl)) rfl
theorem tw_1_200 : Cond.methodLink RX3 3 objectInit ∈ jT := jT_in (in_t1 (List.mem_of_getElem? (i := 200) rfl)) rfl
theorem tw_1_201 : Cond.fieldLink RX3 9 "StruckBeats$Law" "code" "[I" ∈ jT := jT_in (in_t1 (List.mem_of_getElem? (i := 201) rfl)) rfl
theorem tw_1_202 : Cond.fieldLinkNest RX2 77 "StruckBeats$Law" "code" "[I" "StruckBeats" ∈ jN := jN_in (in_t1 (List.mem_of_getElem? (i := 202) rfl)) rfl
theorem tw_1_203 : Cond.fieldLink RX3 15 "StruckBeats$Law" "kinds" "[I" ∈ jT := jT_in (in_t1 (List.mem_of_getElem? (i := 203) rfl)) rfl
theorem tw_1_204 : Cond.fieldLinkNest RX2 52 "StruckBeats$Law" "kinds" "[I" "StruckBeats" ∈ jN := jN_in (in_t1 (List.mem_of_getElem? (i := 204) rfl)) rfl
theorem tw_1_205 : Cond.fieldLink RX3 18 "StruckBeats$Law" "starts" "[I" ∈ jT := jT_in (in_t1 (List.mem_of_getElem? (i := 205) rfl)) rfl
theorem tw_1_206 : Cond.fieldLinkNest RX2 65 "StruckBeats$Law" "starts" "[I" "StruckBeats" ∈ jN := jN_in (in_t1 (List.mem_of_getElem? (i := 206) rfl)) rfl
theorem tw_1_207 : Cond.fieldLink RX3 21 "StruckBeats$Law" "cases" "[I" ∈ jT := jT_in (in_t1 (List.mem_of_getElem? (i := 207) rfl)) rfl
theorem tw_1_208 : Cond.fieldLinkNest RX2 55 "StruckBeats$Law" "cases" "[I" "StruckBeats" ∈ jN := jN_in (in_t1 (List.mem_of_getElem? (i := 208) rfl)) rfl
theorem tw_1_209 : Cond.fieldLink RX3 24 "StruckBeats$Law" "ends" "[I" ∈ jT := jT_in (in_t1 (List.mem_of_getElem? (i := 209) rfl)) rfl
theorem tw_1_210 : Cond.fieldLinkNest RX2 58 "StruckBeats$Law" "ends" "[I" "StruckBeats" ∈ jN := jN_in (in_t1 (List.mem_of_getElem? (i := 210) rfl)) rfl
theorem tw_1_211 : Cond.fieldLink RX3 27 "StruckBeats$Law" "length" "I" ∈ jT := jT_in (in_t1 (List.mem_of_getElem? (i := 211) rfl)) rfl
theorem tw_1_212 : Cond.fieldLinkNest RX4 51 "StruckBeats$Law" "length" "I" "StruckBeats" ∈ jN := jN_in (in_t1 (List.mem_of_getElem? (i := 212) rfl)) rfl
theorem tw_1_213 : Cond.fieldLink RX3 31 "StruckBeats$Law" "size" "I" ∈ jT := jT_in (in_t1 (List.mem_of_getElem? (i := 213) rfl)) rfl
theorem tw_1_214 : Cond.fieldLinkNest RX4 45 "StruckBeats$Law" "size" "I" "StruckBeats" ∈ jN := jN_in (in_t1 (List.mem_of_getElem? (i := 214) rfl)) rfl
theorem tw_1_215 : Cond.fieldLinkNest RX2 47 "StruckBeats$Law" "size" "I" "StruckBeats" ∈ jN := jN_in (in_t1 (List.mem_of_getElem? (i := 215) rfl)) rfl
theorem tw_1_216 : Cond.fieldLinkNest RX11 137 "StruckBeats$Law" "size" "I" "StruckBeats" ∈ jN := jN_in (in_t1 (List.mem_of_getElem? (i := 216) rfl)) rfl
theorem tw_1_232 : Cond.classLink RX11 62 RX2 ∈ jT := jT_in (in_t1 (List.mem_of_getElem? (i := 232) rfl)) rfl
theorem tw_1_233 : Cond.instantiable RX2 10 ∈ jT := jT_in (in_t1 (List.mem_of_getElem? (i := 233) rfl)) rfl
theorem tw_1_234 : Cond.methodLink RX11 64 yX2_init ∈ jT := jT_in (in_t1 (List.mem_of_getElem? (i := 234) rfl)) rfl
theorem tw_1_235 : Cond.instanceMethod yX2_init ∈ jT := jT_in (in_t1 (List.mem_of_getElem? (i := 235) rfl)) rfl
theorem tw_1_236 : Cond.code yX2_init cX2_init 4 none ∈ jT := jT_in (in_t1 (List.mem_of_getElem? (i := 236) rfl)) rfl
theorem tw_1_237 : Cond.methodLink RX2 3 objectInit ∈ jT := jT_in (in_t1 (List.mem_of_getElem? (i := 237) rfl)) rfl
theorem tw_1_238 : Cond.fieldLink RX2 35 "StruckBeats$Judge" "routines" "LStruckBeats$Routines;" ∈ jT := jT_in (in_t1 (List.mem_of_getElem? (i := 238) rfl)) rfl
theorem tw_1_239 : Cond.fieldLink RX2 11 "StruckBeats$Judge" "stack" "[I" ∈ jT := jT_in (in_t1 (List.mem_of_getElem? (i := 239) rfl)) rfl
theorem tw_2_0 : Cond.fieldLink RX2 39 "StruckBeats$Judge" "city" "LStruckBeats$City;" ∈ jT := jT_in (in_t2 (List.mem_of_getElem? (i := 0) rfl)) rfl
theorem tw_2_1 : Cond.fieldLink RX2 43 "StruckBeats$Judge" "law" "LStruckBeats$Law;" ∈ jT := jT_in (in_t2 (List.mem_of_getElem? (i := 1) rfl)) rfl
theorem tw_2_2 : Cond.fieldLink RX2 15 "StruckBeats$Judge" "who" "I" ∈ jT := jT_in (in_t2 (List.mem_of_getElem? (i := 2) rfl)) rfl
theorem tw_2_3 : Cond.fieldLink RX2 19 "StruckBeats$Judge" "hour" "I" ∈ jT := jT_in (in_t2 (List.mem_of_getElem? (i := 3) rfl)) rfl
theorem tw_2_4 : Cond.fieldLink RX2 22 "StruckBeats$Judge" "drawn" "I" ∈ jT := jT_in (in_t2 (List.mem_of_getElem? (i := 4) rfl)) rfl
theorem tw_2_5 : Cond.fieldLink RX2 25 "StruckBeats$Judge" "isAmongOthers" "Z" ∈ jT := jT_in (in_t2 (List.mem_of_getElem? (i := 5) rfl)) rfl
theorem tw_2_6 : Cond.fieldLink RX2 29 "StruckBeats$Judge" "holds" "Z" ∈ jT := jT_in (in_t2 (List.mem_of_getElem? (i := 6) rfl)) rfl
theorem tw_2_7 : Cond.fieldLink RX2 32 "StruckBeats$Judge" "isRefused" "Z" ∈ jT := jT_in (in_t2 (List.mem_of_getElem? (i := 7) rfl)) rfl
theorem tw_2_29 : Cond.classLink RX11 71 RX7 ∈ jT := jT_in (in_t2 (List.mem_of_getElem? (i := 29) rfl)) rfl
theorem tw_2_30 : Cond.instantiable RX7 3 ∈ jT := jT_in (in_t2 (List.mem_of_getElem? (i := 30) rfl)) rfl
theorem tw_2_31 : Cond.methodLinkNest RX11 73 yX7_init "StruckBeats" ∈ jN := jN_in (in_t2 (List.mem_of_getElem? (i := 31) rfl)) rfl
theorem tw_2_32 : Cond.instanceMethod yX7_init ∈ jT := jT_in (in_t2 (List.mem_of_getElem? (i := 32) rfl)) rfl
theorem tw_2_33 : Cond.code yX7_init cX7_init 1 none ∈ jT := jT_in (in_t2 (List.mem_of_getElem? (i := 33) rfl)) rfl
theorem tw_2_34 : Cond.methodLink RX7 3 objectInit ∈ jT := jT_in (in_t2 (List.mem_of_getElem? (i := 34) rfl)) rfl
theorem tw_2_35 : Cond.fieldLink RX7 9 "StruckBeats$Rings" "debtors" "[I" ∈ jT := jT_in (in_t2 (List.mem_of_getElem? (i := 35) rfl)) rfl
theorem tw_2_36 : Cond.fieldLink RX7 15 "StruckBeats$Rings" "fewest" "I" ∈ jT := jT_in (in_t2 (List.mem_of_getElem? (i := 36) rfl)) rfl
theorem tw_2_37 : Cond.fieldLinkNest RX11 217 "StruckBeats$Rings" "fewest" "I" "StruckBeats" ∈ jN := jN_in (in_t2 (List.mem_of_getElem? (i := 37) rfl)) rfl
theorem tw_2_38 : Cond.fieldLink RX7 19 "StruckBeats$Rings" "bits" "I" ∈ jT := jT_in (in_t2 (List.mem_of_getElem? (i := 38) rfl)) rfl
theorem tw_2_39 : Cond.fieldLinkNest RX11 214 "StruckBeats$Rings" "bits" "I" "StruckBeats" ∈ jN := jN_in (in_t2 (List.mem_of_getElem? (i := 39) rfl)) rfl
theorem tw_2_47 : Cond.classLink RX11 78 RX1 ∈ jT := jT_in (in_t2 (List.mem_of_getElem? (i := 47) rfl)) rfl
theorem tw_2_48 : Cond.instantiable RX1 6 ∈ jT := jT_in (in_t2 (List.mem_of_getElem? (i := 48) rfl)) rfl
theorem tw_2_49 : Cond.methodLinkNest RX11 80 yX1_init "StruckBeats" ∈ jN := jN_in (in_t2 (List.mem_of_getElem? (i := 49) rfl)) rfl
theorem tw_2_50 : Cond.instanceMethod yX1_init ∈ jT := jT_in (in_t2 (List.mem_of_getElem? (i := 50) rfl)) rfl
theorem tw_2_51 : Cond.code yX1_init cX1_init 1 none ∈ jT := jT_in (in_t2 (List.mem_of_getElem? (i := 51) rfl)) rfl
theorem tw_2_52 : Cond.methodLink RX1 3 objectInit ∈ jT := jT_in (in_t2 (List.mem_of_getElem? (i := 52) rfl)) rfl
theorem tw_2_53 : Cond.fieldLink RX1 9 "StruckBeats$Joys" "costs" "[I" ∈ jT := jT_in (in_t2 (List.mem_of_getElem? (i := 53) rfl)) rfl
theorem tw_2_54 : Cond.fieldLink RX1 15 "StruckBeats$Joys" "gains" "[I" ∈ jT := jT_in (in_t2 (List.mem_of_getElem? (i := 54) rfl)) rfl
theorem tw_2_55 : Cond.fieldLink RX1 18 "StruckBeats$Joys" "shared" "[I" ∈ jT := jT_in (in_t2 (List.mem_of_getElem? (i := 55) rfl)) rfl
theorem tw_2_56 : Cond.fieldLink RX1 21 "StruckBeats$Joys" "best" "[I" ∈ jT := jT_in (in_t2 (List.mem_of_getElem? (i := 56) rfl)) rfl
theorem tw_2_57 : Cond.fieldLink RX1 24 "StruckBeats$Joys" "size" "I" ∈ jT := jT_in (in_t2 (List.mem_of_getElem? (i := 57) rfl)) rfl
theorem tw_2_58 : Cond.fieldLink RX1 28 "StruckBeats$Joys" "most" "I" ∈ jT := jT_in (in_t2 (List.mem_of_getElem? (i := 58) rfl)) rfl
theorem tw_2_59 : Cond.fieldLinkNest RX11 230 "StruckBeats$Joys" "most" "I" "StruckBeats" ∈ jN := jN_in (in_t2 (List.mem_of_getElem? (i := 59) rfl)) rfl
theorem tw_2_73 : Cond.classLink RX11 85 RX9 ∈ jT := jT_in (in_t2 (List.mem_of_getElem? (i := 73) rfl)) rfl
theorem tw_2_74 : Cond.instantiable RX9 3 ∈ jT := jT_in (in_t2 (List.mem_of_getElem? (i := 74) rfl)) rfl
theorem tw_2_75 : Cond.methodLink RX11 87 yX9_init ∈ jT := jT_in (in_t2 (List.mem_of_getElem? (i := 75) rfl)) rfl
theorem tw_2_76 : Cond.instanceMethod yX9_init ∈ jT := jT_in (in_t2 (List.mem_of_getElem? (i := 76) rfl)) rfl
theorem tw_2_77 : Cond.code yX9_init cX9_init 2 none ∈ jT := jT_in (in_t2 (List.mem_of_getElem? (i := 77) rfl)) rfl
theorem tw_2_78 : Cond.methodLink RX9 3 objectInit ∈ jT := jT_in (in_t2 (List.mem_of_getElem? (i := 78) rfl)) rfl
theorem tw_2_79 : Cond.fieldLink RX9 18 "StruckBeats$Sums" "tape" "LStruckBeats$Tape;" ∈ jT := jT_in (in_t2 (List.mem_of_getElem? (i := 79) rfl)) rfl
theorem tw_2_80 : Cond.fieldLink RX9 11 "StruckBeats$Sums" "first" "[I" ∈ jT := jT_in (in_t2 (List.mem_of_getElem? (i := 80) rfl)) rfl
theorem tw_2_81 : Cond.fieldLink RX9 15 "StruckBeats$Sums" "second" "[I" ∈ jT := jT_in (in_t2 (List.mem_of_getElem? (i := 81) rfl)) rfl
theorem tw_2_89 : Cond.fieldLink RX11 10 "StruckBeats" "tape" "LStruckBeats$Tape;" ∈ jT := jT_in (in_t2 (List.mem_of_getElem? (i := 89) rfl)) rfl
theorem tw_2_90 : Cond.fieldLink RX11 19 "StruckBeats" "now" "LStruckBeats$City;" ∈ jT := jT_in (in_t2 (List.mem_of_getElem? (i := 90) rfl)) rfl
theorem tw_2_91 : Cond.fieldLink RX11 23 "StruckBeats" "kept" "LStruckBeats$City;" ∈ jT := jT_in (in_t2 (List.mem_of_getElem? (i := 91) rfl)) rfl
theorem tw_2_92 : Cond.fieldLink RX11 26 "StruckBeats" "trial" "LStruckBeats$City;" ∈ jT := jT_in (in_t2 (List.mem_of_getElem? (i := 92) rfl)) rfl
theorem tw_2_93 : Cond.fieldLink RX11 34 "StruckBeats" "routines" "LStruckBeats$Routines;" ∈ jT := jT_in (in_t2 (List.mem_of_getElem? (i := 93) rfl)) rfl
theorem tw_2_94 : Cond.fieldLink RX11 41 "StruckBeats" "ledgers" "LStruckBeats$LedgerReader;" ∈ jT := jT_in (in_t2 (List.mem_of_getElem? (i := 94) rfl)) rfl
theorem tw_2_95 : Cond.fieldLink RX11 48 "StruckBeats" "laws" "LStruckBeats$LawReader;" ∈ jT := jT_in (in_t2 (List.mem_of_getElem? (i := 95) rfl)) rfl
theorem tw_2_96 : Cond.fieldLink RX11 67 "StruckBeats" "judge" "LStruckBeats$Judge;" ∈ jT := jT_in (in_t2 (List.mem_of_getElem? (i := 96) rfl)) rfl
theorem tw_2_97 : Cond.fieldLink RX11 74 "StruckBeats" "ringSearch" "LStruckBeats$Rings;" ∈ jT := jT_in (in_t2 (List.mem_of_getElem? (i := 97) rfl)) rfl
theorem tw_2_98 : Cond.fieldLink RX11 81 "StruckBeats" "joys" "LStruckBeats$Joys;" ∈ jT := jT_in (in_t2 (List.mem_of_getElem? (i := 98) rfl)) rfl
theorem tw_2_99 : Cond.fieldLink RX11 88 "StruckBeats" "sums" "LStruckBeats$Sums;" ∈ jT := jT_in (in_t2 (List.mem_of_getElem? (i := 99) rfl)) rfl
theorem tw_2_100 : Cond.fieldLink RX11 55 "StruckBeats" "law" "LStruckBeats$Law;" ∈ jT := jT_in (in_t2 (List.mem_of_getElem? (i := 100) rfl)) rfl
theorem tw_2_101 : Cond.fieldLink RX11 59 "StruckBeats" "spareLaw" "LStruckBeats$Law;" ∈ jT := jT_in (in_t2 (List.mem_of_getElem? (i := 101) rfl)) rfl
theorem tw_2_102 : Cond.fieldLink RX11 92 "StruckBeats" "isKept" "Z" ∈ jT := jT_in (in_t2 (List.mem_of_getElem? (i := 102) rfl)) rfl
theorem tw_2_132 : Cond.methodLink RL 13 yX11_person ∈ jT := jT_in (in_t2 (List.mem_of_getElem? (i := 132) rfl)) rfl
theorem tw_2_133 : Cond.instanceMethod yX11_person ∈ jT := jT_in (in_t2 (List.mem_of_getElem? (i := 133) rfl)) rfl
theorem tw_2_134 : Cond.selects RX11 yX11_person yX11_person ∈ jT := jT_in (in_t2 (List.mem_of_getElem? (i := 134) rfl)) rfl
theorem tw_2_135 : Cond.code yX11_person cX11_person 4 (some .boolean) ∈ jT := jT_in (in_t2 (List.mem_of_getElem? (i := 135) rfl)) rfl
theorem tw_2_136 : Cond.methodLink RX11 96 yX11_isWithin ∈ jT := jT_in (in_t2 (List.mem_of_getElem? (i := 136) rfl)) rfl
theorem tw_2_137 : Cond.static yX11_isWithin ∈ jT := jT_in (in_t2 (List.mem_of_getElem? (i := 137) rfl)) rfl
theorem tw_2_138 : Cond.code yX11_isWithin cX11_isWithin 3 (some .boolean) ∈ jT := jT_in (in_t2 (List.mem_of_getElem? (i := 138) rfl)) rfl
theorem tw_2_139 : Cond.constant RX11 100 (999999999) ∈ jT := jT_in (in_t2 (List.mem_of_getElem? (i := 139) rfl)) rfl
theorem tw_2_140 : Cond.constant RX11 101 (99999) ∈ jT := jT_in (in_t2 (List.mem_of_getElem? (i := 140) rfl)) rfl
theorem tw_2_141 : Cond.methodLink RL 18 yX11_feed ∈ jT := jT_in (in_t2 (List.mem_of_getElem? (i := 141) rfl)) rfl
theorem tw_2_142 : Cond.instanceMethod yX11_feed ∈ jT := jT_in (in_t2 (List.mem_of_getElem? (i := 142) rfl)) rfl
theorem tw_2_143 : Cond.selects RX11 yX11_feed yX11_feed ∈ jT := jT_in (in_t2 (List.mem_of_getElem? (i := 143) rfl)) rfl
theorem tw_2_144 : Cond.code yX11_feed cX11_feed 6 (some .int) ∈ jT := jT_in (in_t2 (List.mem_of_getElem? (i := 144) rfl)) rfl
theorem tw_2_145 : Cond.methodLink RX11 119 yX10_add ∈ jT := jT_in (in_t2 (List.mem_of_getElem? (i := 145) rfl)) rfl
theorem tw_2_146 : Cond.instanceMethod yX10_add ∈ jT := jT_in (in_t2 (List.mem_of_getElem? (i := 146) rfl)) rfl
theorem tw_2_147 : Cond.selects RX10 yX10_add yX10_add ∈ jT := jT_in (in_t2 (List.mem_of_getElem? (i := 147) rfl)) rfl
theorem tw_2_148 : Cond.code yX10_add cX10_add 3 none ∈ jT := jT_in (in_t2 (List.mem_of_getElem? (i := 148) rfl)) rfl
theorem tw_2_149 : Cond.methodLink RL 23 yX11_law ∈ jT := jT_in (in_t2 (List.mem_of_getElem? (i := 149) rfl)) rfl
theorem tw_2_150 : Cond.instanceMethod yX11_law ∈ jT := jT_in (in_t2 (List.mem_of_getElem? (i := 150) rfl)) rfl
theorem tw_2_151 : Cond.selects RX11 yX11_law yX11_law ∈ jT := jT_in (in_t2 (List.mem_of_getElem? (i := 151) rfl)) rfl
theorem tw_2_152 : Cond.code yX11_law cX11_law 3 (some .int) ∈ jT := jT_in (in_t2 (List.mem_of_getElem? (i := 152) rfl)) rfl
theorem tw_2_153 : Cond.methodLink RX11 123 yX10_has ∈ jT := jT_in (in_t2 (List.mem_of_getElem? (i := 153) rfl)) rfl
theorem tw_2_154 : Cond.instanceMethod yX10_has ∈ jT := jT_in (in_t2 (List.mem_of_getElem? (i := 154) rfl)) rfl
theorem tw_2_155 : Cond.selects RX10 yX10_has yX10_has ∈ jT := jT_in (in_t2 (List.mem_of_getElem? (i := 155) rfl)) rfl
theorem tw_2_156 : Cond.code yX10_has cX10_has 2 (some .boolean) ∈ jT := jT_in (in_t2 (List.mem_of_getElem? (i := 156) rfl)) rfl
theorem tw_2_157 : Cond.methodLink RX11 127 yX10_open ∈ jT := jT_in (in_t2 (List.mem_of_getElem? (i := 157) rfl)) rfl
theorem tw_2_158 : Cond.instanceMethod yX10_open ∈ jT := jT_in (in_t2 (List.mem_of_getElem? (i := 158) rfl)) rfl
theorem tw_2_159 : Cond.selects RX10 yX10_open yX10_open ∈ jT := jT_in (in_t2 (List.mem_of_getElem? (i := 159) rfl)) rfl
theorem tw_2_160 : Cond.code yX10_open cX10_open 2 none ∈ jT := jT_in (in_t2 (List.mem_of_getElem? (i := 160) rfl)) rfl
theorem tw_2_161 : Cond.methodLink RX10 31 Lib.Math.min.name ∈ jT := jT_in (in_t2 (List.mem_of_getElem? (i := 161) rfl)) rfl
theorem tw_2_162 : Cond.static Lib.Math.min.name ∈ jT := jT_in (in_t2 (List.mem_of_getElem? (i := 162) rfl)) rfl
theorem tw_2_163 : Cond.code Lib.Math.min.name Lib.Math.min.code 2 (some .int) ∈ jT := jT_in (in_t2 (List.mem_of_getElem? (i := 163) rfl)) rfl
theorem tw_2_164 : Cond.methodLink RX11 130 yX4_read ∈ jT := jT_in (in_t2 (List.mem_of_getElem? (i := 164) rfl)) rfl
theorem tw_2_165 : Cond.instanceMethod yX4_read ∈ jT := jT_in (in_t2 (List.mem_of_getElem? (i := 165) rfl)) rfl
theorem tw_2_166 : Cond.selects RX4 yX4_read yX4_read ∈ jT := jT_in (in_t2 (List.mem_of_getElem? (i := 166) rfl)) rfl
theorem tw_2_167 : Cond.code yX4_read cX4_read 3 none ∈ jT := jT_in (in_t2 (List.mem_of_getElem? (i := 167) rfl)) rfl
theorem tw_2_168 : Cond.methodLink RX4 15 yX3_clear ∈ jT := jT_in (in_t2 (List.mem_of_getElem? (i := 168) rfl)) rfl
theorem tw_2_169 : Cond.instanceMethod yX3_clear ∈ jT := jT_in (in_t2 (List.mem_of_getElem? (i := 169) rfl)) rfl
theorem tw_2_170 : Cond.selects RX3 yX3_clear yX3_clear ∈ jT := jT_in (in_t2 (List.mem_of_getElem? (i := 170) rfl)) rfl
theorem tw_2_171 : Cond.code yX3_clear cX3_clear 1 none ∈ jT := jT_in (in_t2 (List.mem_of_getElem? (i := 171) rfl)) rfl
theorem tw_2_172 : Cond.methodLink RX4 20 yX4_readRule ∈ jT := jT_in (in_t2 (List.mem_of_getElem? (i := 172) rfl)) rfl
theorem tw_2_174 : Cond.instanceMethod yX4_readRule ∈ jT := jT_in (in_t2 (List.mem_of_getElem? (i := 174) rfl)) rfl
theorem tw_2_175 : Cond.code yX4_readRule cX4_readRule 5 none ∈ jT := jT_in (in_t2 (List.mem_of_getElem? (i := 175) rfl)) rfl
theorem tw_2_176 : Cond.methodLink RX4 41 yX10_fail ∈ jT := jT_in (in_t2 (List.mem_of_getElem? (i := 176) rfl)) rfl
theorem tw_2_177 : Cond.instanceMethod yX10_fail ∈ jT := jT_in (in_t2 (List.mem_of_getElem? (i := 177) rfl)) rfl
theorem tw_2_178 : Cond.selects RX10 yX10_fail yX10_fail ∈ jT := jT_in (in_t2 (List.mem_of_getElem? (i := 178) rfl)) rfl
theorem tw_2_179 : Cond.code yX10_fail cX10_fail 3 none ∈ jT := jT_in (in_t2 (List.mem_of_getElem? (i := 179) rfl)) rfl
theorem tw_2_180 : Cond.methodLink RX4 48 yX10_step ∈ jT := jT_in (in_t2 (List.mem_of_getElem? (i := 180) rfl)) rfl
theorem tw_2_181 : Cond.instanceMethod yX10_step ∈ jT := jT_in (in_t2 (List.mem_of_getElem? (i := 181) rfl)) rfl
theorem tw_2_182 : Cond.selects RX10 yX10_step yX10_step ∈ jT := jT_in (in_t2 (List.mem_of_getElem? (i := 182) rfl)) rfl
theorem tw_2_183 : Cond.code yX10_step cX10_step 1 none ∈ jT := jT_in (in_t2 (List.mem_of_getElem? (i := 183) rfl)) rfl
theorem tw_2_184 : Cond.methodLink RX4 54 yX4_readSum ∈ jT := jT_in (in_t2 (List.mem_of_getElem? (i := 184) rfl)) rfl
theorem tw_2_186 : Cond.instanceMethod yX4_readSum ∈ jT := jT_in (in_t2 (List.mem_of_getElem? (i := 186) rfl)) rfl
theorem tw_2_187 : Cond.code yX4_readSum cX4_readSum 7 none ∈ jT := jT_in (in_t2 (List.mem_of_getElem? (i := 187) rfl)) rfl
theorem tw_2_188 : Cond.methodLink RX4 91 yX4_readFactor ∈ jT := jT_in (in_t2 (List.mem_of_getElem? (i := 188) rfl)) rfl
theorem tw_2_190 : Cond.instanceMethod yX4_readFactor ∈ jT := jT_in (in_t2 (List.mem_of_getElem? (i := 190) rfl)) rfl
theorem tw_2_191 : Cond.code yX4_readFactor cX4_readFactor 4 none ∈ jT := jT_in (in_t2 (List.mem_of_getElem? (i := 191) rfl)) rfl
theorem tw_2_193 : Cond.methodLink RX4 87 yX4_stepOf ∈ jT := jT_in (in_t2 (List.mem_of_getElem? (i := 193) rfl)) rfl
theorem tw_2_195 : Cond.instanceMethod yX4_stepOf ∈ jT := jT_in (in_t2 (List.mem_of_getElem? (i := 195) rfl)) rfl
theorem tw_2_196 : Cond.code yX4_stepOf cX4_stepOf 4 (some .int) ∈ jT := jT_in (in_t2 (List.mem_of_getElem? (i := 196) rfl)) rfl
theorem tw_2_197 : Cond.methodLink RX4 24 yX10_goesOn ∈ jT := jT_in (in_t2 (List.mem_of_getElem? (i := 197) rfl)) rfl
theorem tw_2_198 : Cond.instanceMethod yX10_goesOn ∈ jT := jT_in (in_t2 (List.mem_of_getElem? (i := 198) rfl)) rfl
theorem tw_2_199 : Cond.selects RX10 yX10_goesOn yX10_goesOn ∈ jT := jT_in (in_t2 (List.mem_of_getElem? (i := 199) rfl)) rfl
theorem tw_2_200 : Cond.code yX10_goesOn cX10_goesOn 1 (some .boolean) ∈ jT := jT_in (in_t2 (List.mem_of_getElem? (i := 200) rfl)) rfl
theorem tw_2_201 : Cond.methodLink RX4 99 yJ0_indexOf_0f7a4 ∈ jT := jT_in (in_t2 (List.mem_of_getElem? (i := 201) rfl)) rfl
theorem tw_2_202 : Cond.instanceMethod yJ0_indexOf_0f7a4 ∈ jT := jT_in (in_t2 (List.mem_of_getElem? (i := 202) rfl)) rfl
theorem tw_2_203 : Cond.selects RJ0 yJ0_indexOf_0f7a4 yJ0_indexOf_0f7a4 ∈ jT := jT_in (in_t2 (List.mem_of_getElem? (i := 203) rfl)) rfl
theorem tw_2_204 : Cond.code yJ0_indexOf_0f7a4 cJ0_indexOf_0f7a4 2 (some .int) ∈ jT := jT_in (in_t2 (List.mem_of_getElem? (i := 204) rfl)) rfl
theorem tw_2_205 : Cond.methodLink RJ0 633 yJ0_indexOf_7cf53 ∈ jT := jT_in (in_t2 (List.mem_of_getElem? (i := 205) rfl)) rfl
theorem tw_2_206 : Cond.instanceMethod yJ0_indexOf_7cf53 ∈ jT := jT_in (in_t2 (List.mem_of_getElem? (i := 206) rfl)) rfl
theorem tw_2_207 : Cond.selects RJ0 yJ0_indexOf_7cf53 yJ0_indexOf_7cf53 ∈ jT := jT_in (in_t2 (List.mem_of_getElem? (i := 207) rfl)) rfl
theorem tw_2_208 : Cond.code yJ0_indexOf_7cf53 cJ0_indexOf_7cf53 3 (some .int) ∈ jT := jT_in (in_t2 (List.mem_of_getElem? (i := 208) rfl)) rfl
theorem tw_2_209 : Cond.methodLink RJ0 492 yJ0_isLatin1_aae02 ∈ jT := jT_in (in_t2 (List.mem_of_getElem? (i := 209) rfl)) rfl
theorem tw_2_210 : Cond.instanceMethod yJ0_isLatin1_aae02 ∈ jT := jT_in (in_t2 (List.mem_of_getElem? (i := 210) rfl)) rfl
theorem tw_2_211 : Cond.selects RJ0 yJ0_isLatin1_aae02 yJ0_isLatin1_aae02 ∈ jT := jT_in (in_t2 (List.mem_of_getElem? (i := 211) rfl)) rfl
theorem tw_2_212 : Cond.code yJ0_isLatin1_aae02 cJ0_isLatin1_aae02 1 (some .boolean) ∈ jT := jT_in (in_t2 (List.mem_of_getElem? (i := 212) rfl)) rfl
theorem tw_2_213 : Cond.fieldLink RJ0 38 "java/lang/String" "COMPACT_STRINGS" "Z" ∈ jT := jT_in (in_t2 (List.mem_of_getElem? (i := 213) rfl)) rfl
theorem tw_2_215 : Cond.methodLink RJ0 505 yJ0_length_8abf5 ∈ jT := jT_in (in_t2 (List.mem_of_getElem? (i := 215) rfl)) rfl
theorem tw_2_216 : Cond.instanceMethod yJ0_length_8abf5 ∈ jT := jT_in (in_t2 (List.mem_of_getElem? (i := 216) rfl)) rfl
theorem tw_2_217 : Cond.selects RJ0 yJ0_length_8abf5 yJ0_length_8abf5 ∈ jT := jT_in (in_t2 (List.mem_of_getElem? (i := 217) rfl)) rfl
theorem tw_2_218 : Cond.code yJ0_length_8abf5 cJ0_length_8abf5 1 (some .int) ∈ jT := jT_in (in_t2 (List.mem_of_getElem? (i := 218) rfl)) rfl
theorem tw_2_219 : Cond.methodLink RJ0 335 yJ0_coder_7d493 ∈ jT := jT_in (in_t2 (List.mem_of_getElem? (i := 219) rfl)) rfl
theorem tw_2_220 : Cond.instanceMethod yJ0_coder_7d493 ∈ jT := jT_in (in_t2 (List.mem_of_getElem? (i := 220) rfl)) rfl
theorem tw_2_221 : Cond.selects RJ0 yJ0_coder_7d493 yJ0_coder_7d493 ∈ jT := jT_in (in_t2 (List.mem_of_getElem? (i := 221) rfl)) rfl
theorem tw_2_222 : Cond.code yJ0_coder_7d493 cJ0_coder_7d493 1 (some .byte) ∈ jT := jT_in (in_t2 (List.mem_of_getElem? (i := 222) rfl)) rfl
theorem tw_2_223 : Cond.methodLink RJ0 637 yJ1_indexOf_4cfef ∈ jT := jT_in (in_t2 (List.mem_of_getElem? (i := 223) rfl)) rfl
theorem tw_2_224 : Cond.static yJ1_indexOf_4cfef ∈ jT := jT_in (in_t2 (List.mem_of_getElem? (i := 224) rfl)) rfl
theorem tw_2_225 : Cond.code yJ1_indexOf_4cfef cJ1_indexOf_4cfef 4 (some .int) ∈ jT := jT_in (in_t2 (List.mem_of_getElem? (i := 225) rfl)) rfl
theorem tw_2_226 : Cond.methodLink RJ1 88 yJ1_canEncode_9a6ad ∈ jT := jT_in (in_t2 (List.mem_of_getElem? (i := 226) rfl)) rfl
theorem tw_2_227 : Cond.static yJ1_canEncode_9a6ad ∈ jT := jT_in (in_t2 (List.mem_of_getElem? (i := 227) rfl)) rfl
theorem tw_2_228 : Cond.code yJ1_canEncode_9a6ad cJ1_canEncode_9a6ad 1 (some .boolean) ∈ jT := jT_in (in_t2 (List.mem_of_getElem? (i := 228) rfl)) rfl
theorem tw_2_229 : Cond.methodLink RJ1 92 Lib.Math.max.name ∈ jT := jT_in (in_t2 (List.mem_of_getElem? (i := 229) rfl)) rfl
theorem tw_2_230 : Cond.static Lib.Math.max.name ∈ jT := jT_in (in_t2 (List.mem_of_getElem? (i := 230) rfl)) rfl
theorem tw_2_231 : Cond.code Lib.Math.max.name Lib.Math.max.code 2 (some .int) ∈ jT := jT_in (in_t2 (List.mem_of_getElem? (i := 231) rfl)) rfl
theorem tw_2_232 : Cond.methodLink RJ1 38 Lib.Math.min.name ∈ jT := jT_in (in_t2 (List.mem_of_getElem? (i := 232) rfl)) rfl
theorem tw_2_233 : Cond.methodLink RJ1 95 yJ1_indexOfChar_4cfef ∈ jT := jT_in (in_t2 (List.mem_of_getElem? (i := 233) rfl)) rfl
theorem tw_2_234 : Cond.static yJ1_indexOfChar_4cfef ∈ jT := jT_in (in_t2 (List.mem_of_getElem? (i := 234) rfl)) rfl
theorem tw_2_235 : Cond.code yJ1_indexOfChar_4cfef cJ1_indexOfChar_4cfef 6 (some .int) ∈ jT := jT_in (in_t2 (List.mem_of_getElem? (i := 235) rfl)) rfl
theorem tw_2_236 : Cond.methodLink RJ0 640 yJ2_indexOf_4cfef ∈ jT := jT_in (in_t2 (List.mem_of_getElem? (i := 236) rfl)) rfl
theorem tw_2_237 : Cond.static yJ2_indexOf_4cfef ∈ jT := jT_in (in_t2 (List.mem_of_getElem? (i := 237) rfl)) rfl
theorem tw_2_238 : Cond.code yJ2_indexOf_4cfef cJ2_indexOf_4cfef 4 (some .int) ∈ jT := jT_in (in_t2 (List.mem_of_getElem? (i := 238) rfl)) rfl
theorem tw_2_239 : Cond.methodLink RJ2 224 Lib.Math.max.name ∈ jT := jT_in (in_t2 (List.mem_of_getElem? (i := 239) rfl)) rfl
theorem tw_3_0 : Cond.methodLink RJ2 183 Lib.Math.min.name ∈ jT := jT_in (in_t3 (List.mem_of_getElem? (i := 0) rfl)) rfl
theorem tw_3_1 : Cond.constant RJ2 227 (65536) ∈ jT := jT_in (in_t3 (List.mem_of_getElem? (i := 1) rfl)) rfl
theorem tw_3_2 : Cond.methodLink RJ2 228 yJ2_indexOfChar_4cfef ∈ jT := jT_in (in_t3 (List.mem_of_getElem? (i := 2) rfl)) rfl
theorem tw_3_3 : Cond.static yJ2_indexOfChar_4cfef ∈ jT := jT_in (in_t3 (List.mem_of_getElem? (i := 3) rfl)) rfl
theorem tw_3_4 : Cond.code yJ2_indexOfChar_4cfef cJ2_indexOfChar_4cfef 4 (some .int) ∈ jT := jT_in (in_t3 (List.mem_of_getElem? (i := 4) rfl)) rfl
theorem tw_3_5 : Cond.methodLink RJ2 96 yJ2_checkBoundsBeginEnd_d044e ∈ jT := jT_in (in_t3 (List.mem_of_getElem? (i := 5) rfl)) rfl
theorem tw_3_6 : Cond.static yJ2_checkBoundsBeginEnd_d044e ∈ jT := jT_in (in_t3 (List.mem_of_getElem? (i := 6) rfl)) rfl
theorem tw_3_7 : Cond.code yJ2_checkBoundsBeginEnd_d044e cJ2_checkBoundsBeginEnd_d044e 3 none ∈ jT := jT_in (in_t3 (List.mem_of_getElem? (i := 7) rfl)) rfl
theorem tw_3_8 : Cond.methodLink RJ2 48 yJ2_length_9d52b ∈ jT := jT_in (in_t3 (List.mem_of_getElem? (i := 8) rfl)) rfl
theorem tw_3_9 : Cond.static yJ2_length_9d52b ∈ jT := jT_in (in_t3 (List.mem_of_getElem? (i := 9) rfl)) rfl
theorem tw_3_10 : Cond.code yJ2_length_9d52b cJ2_length_9d52b 1 (some .int) ∈ jT := jT_in (in_t3 (List.mem_of_getElem? (i := 10) rfl)) rfl
theorem tw_3_11 : Cond.methodLink RJ2 241 yJ0_checkBoundsBeginEnd_23922 ∈ jT := jT_in (in_t3 (List.mem_of_getElem? (i := 11) rfl)) rfl
theorem tw_3_12 : Cond.static yJ0_checkBoundsBeginEnd_23922 ∈ jT := jT_in (in_t3 (List.mem_of_getElem? (i := 12) rfl)) rfl
theorem tw_3_13 : Cond.code yJ0_checkBoundsBeginEnd_23922 cJ0_checkBoundsBeginEnd_23922 3 none ∈ jT := jT_in (in_t3 (List.mem_of_getElem? (i := 13) rfl)) rfl
theorem tw_3_14 : Cond.fieldLink RJ0 1053 "jdk/internal/util/Preconditions" "SIOOBE_FORMATTER" "Ljava/util/function/BiFunction;" ∈ jT := jT_in (in_t3 (List.mem_of_getElem? (i := 14) rfl)) rfl
theorem tw_3_16 : Cond.methodLink RJ0 1062 yJ3_checkFromToIndex_8c36e ∈ jT := jT_in (in_t3 (List.mem_of_getElem? (i := 16) rfl)) rfl
theorem tw_3_17 : Cond.static yJ3_checkFromToIndex_8c36e ∈ jT := jT_in (in_t3 (List.mem_of_getElem? (i := 17) rfl)) rfl
theorem tw_3_18 : Cond.code yJ3_checkFromToIndex_8c36e cJ3_checkFromToIndex_8c36e 4 (some .int) ∈ jT := jT_in (in_t3 (List.mem_of_getElem? (i := 18) rfl)) rfl
theorem tw_3_19 : Cond.methodLink RJ2 244 yJ2_indexOfCharUnsafe_4cfef ∈ jT := jT_in (in_t3 (List.mem_of_getElem? (i := 19) rfl)) rfl
theorem tw_3_20 : Cond.static yJ2_indexOfCharUnsafe_4cfef ∈ jT := jT_in (in_t3 (List.mem_of_getElem? (i := 20) rfl)) rfl
theorem tw_3_21 : Cond.code yJ2_indexOfCharUnsafe_4cfef cJ2_indexOfCharUnsafe_4cfef 5 (some .int) ∈ jT := jT_in (in_t3 (List.mem_of_getElem? (i := 21) rfl)) rfl
theorem tw_3_22 : Cond.methodLink RJ2 71 yJ2_getChar_3b067 ∈ jT := jT_in (in_t3 (List.mem_of_getElem? (i := 22) rfl)) rfl
theorem tw_3_23 : Cond.static yJ2_getChar_3b067 ∈ jT := jT_in (in_t3 (List.mem_of_getElem? (i := 23) rfl)) rfl
theorem tw_3_24 : Cond.code yJ2_getChar_3b067 cJ2_getChar_3b067 2 (some .char) ∈ jT := jT_in (in_t3 (List.mem_of_getElem? (i := 24) rfl)) rfl
theorem tw_3_25 : Cond.fieldLink RJ2 44 "java/lang/StringUTF16" "$assertionsDisabled" "Z" ∈ jT := jT_in (in_t3 (List.mem_of_getElem? (i := 25) rfl)) rfl
theorem tw_3_27 : Cond.fieldLink RJ2 59 "java/lang/StringUTF16" "HI_BYTE_SHIFT" "I" ∈ jT := jT_in (in_t3 (List.mem_of_getElem? (i := 27) rfl)) rfl
theorem tw_3_29 : Cond.fieldLink RJ2 63 "java/lang/StringUTF16" "LO_BYTE_SHIFT" "I" ∈ jT := jT_in (in_t3 (List.mem_of_getElem? (i := 29) rfl)) rfl
theorem tw_3_31 : Cond.methodLink RJ2 232 yJ2_indexOfSupplementary_4cfef ∈ jT := jT_in (in_t3 (List.mem_of_getElem? (i := 31) rfl)) rfl
theorem tw_3_32 : Cond.static yJ2_indexOfSupplementary_4cfef ∈ jT := jT_in (in_t3 (List.mem_of_getElem? (i := 32) rfl)) rfl
theorem tw_3_33 : Cond.code yJ2_indexOfSupplementary_4cfef cJ2_indexOfSupplementary_4cfef 7 (some .int) ∈ jT := jT_in (in_t3 (List.mem_of_getElem? (i := 33) rfl)) rfl
theorem tw_3_34 : Cond.methodLink RJ2 164 yJ11_isValidCodePoint_9a6ad ∈ jT := jT_in (in_t3 (List.mem_of_getElem? (i := 34) rfl)) rfl
theorem tw_3_35 : Cond.static yJ11_isValidCodePoint_9a6ad ∈ jT := jT_in (in_t3 (List.mem_of_getElem? (i := 35) rfl)) rfl
theorem tw_3_36 : Cond.code yJ11_isValidCodePoint_9a6ad cJ11_isValidCodePoint_9a6ad 2 (some .boolean) ∈ jT := jT_in (in_t3 (List.mem_of_getElem? (i := 36) rfl)) rfl
theorem tw_3_37 : Cond.methodLink RJ2 157 yJ11_highSurrogate_5068e ∈ jT := jT_in (in_t3 (List.mem_of_getElem? (i := 37) rfl)) rfl
theorem tw_3_38 : Cond.static yJ11_highSurrogate_5068e ∈ jT := jT_in (in_t3 (List.mem_of_getElem? (i := 38) rfl)) rfl
theorem tw_3_39 : Cond.code yJ11_highSurrogate_5068e cJ11_highSurrogate_5068e 1 (some .char) ∈ jT := jT_in (in_t3 (List.mem_of_getElem? (i := 39) rfl)) rfl
theorem tw_3_40 : Cond.constant RJ11 110 (55232) ∈ jT := jT_in (in_t3 (List.mem_of_getElem? (i := 40) rfl)) rfl
theorem tw_3_41 : Cond.methodLink RJ2 161 yJ11_lowSurrogate_5068e ∈ jT := jT_in (in_t3 (List.mem_of_getElem? (i := 41) rfl)) rfl
theorem tw_3_42 : Cond.static yJ11_lowSurrogate_5068e ∈ jT := jT_in (in_t3 (List.mem_of_getElem? (i := 42) rfl)) rfl
theorem tw_3_43 : Cond.code yJ11_lowSurrogate_5068e cJ11_lowSurrogate_5068e 1 (some .char) ∈ jT := jT_in (in_t3 (List.mem_of_getElem? (i := 43) rfl)) rfl
theorem tw_3_44 : Cond.constant RJ11 76 (56320) ∈ jT := jT_in (in_t3 (List.mem_of_getElem? (i := 44) rfl)) rfl
theorem tw_3_45 : Cond.methodLink RX4 68 yX10_stands ∈ jT := jT_in (in_t3 (List.mem_of_getElem? (i := 45) rfl)) rfl
theorem tw_3_46 : Cond.instanceMethod yX10_stands ∈ jT := jT_in (in_t3 (List.mem_of_getElem? (i := 46) rfl)) rfl
theorem tw_3_47 : Cond.selects RX10 yX10_stands yX10_stands ∈ jT := jT_in (in_t3 (List.mem_of_getElem? (i := 47) rfl)) rfl
theorem tw_3_48 : Cond.code yX10_stands cX10_stands 2 (some .boolean) ∈ jT := jT_in (in_t3 (List.mem_of_getElem? (i := 48) rfl)) rfl
theorem tw_3_49 : Cond.methodLink RX4 79 yX4_opens ∈ jT := jT_in (in_t3 (List.mem_of_getElem? (i := 49) rfl)) rfl
theorem tw_3_51 : Cond.instanceMethod yX4_opens ∈ jT := jT_in (in_t3 (List.mem_of_getElem? (i := 51) rfl)) rfl
theorem tw_3_52 : Cond.code yX4_opens cX4_opens 2 (some .boolean) ∈ jT := jT_in (in_t3 (List.mem_of_getElem? (i := 52) rfl)) rfl
theorem tw_3_53 : Cond.methodLink RX4 30 yX10_take ∈ jT := jT_in (in_t3 (List.mem_of_getElem? (i := 53) rfl)) rfl
theorem tw_3_54 : Cond.instanceMethod yX10_take ∈ jT := jT_in (in_t3 (List.mem_of_getElem? (i := 54) rfl)) rfl
theorem tw_3_55 : Cond.selects RX10 yX10_take yX10_take ∈ jT := jT_in (in_t3 (List.mem_of_getElem? (i := 55) rfl)) rfl
theorem tw_3_56 : Cond.code yX10_take cX10_take 2 none ∈ jT := jT_in (in_t3 (List.mem_of_getElem? (i := 56) rfl)) rfl
theorem tw_3_57 : Cond.methodLink RX10 41 yX10_step ∈ jT := jT_in (in_t3 (List.mem_of_getElem? (i := 57) rfl)) rfl
theorem tw_3_58 : Cond.methodLink RX10 44 yX10_fail ∈ jT := jT_in (in_t3 (List.mem_of_getElem? (i := 58) rfl)) rfl
theorem tw_3_59 : Cond.methodLink RX4 82 yX3_put ∈ jT := jT_in (in_t3 (List.mem_of_getElem? (i := 59) rfl)) rfl
theorem tw_3_60 : Cond.instanceMethod yX3_put ∈ jT := jT_in (in_t3 (List.mem_of_getElem? (i := 60) rfl)) rfl
theorem tw_3_61 : Cond.selects RX3 yX3_put yX3_put ∈ jT := jT_in (in_t3 (List.mem_of_getElem? (i := 61) rfl)) rfl
theorem tw_3_62 : Cond.code yX3_put cX3_put 3 none ∈ jT := jT_in (in_t3 (List.mem_of_getElem? (i := 62) rfl)) rfl
theorem tw_3_63 : Cond.methodLink RX4 107 yX10_number ∈ jT := jT_in (in_t3 (List.mem_of_getElem? (i := 63) rfl)) rfl
theorem tw_3_64 : Cond.instanceMethod yX10_number ∈ jT := jT_in (in_t3 (List.mem_of_getElem? (i := 64) rfl)) rfl
theorem tw_3_65 : Cond.selects RX10 yX10_number yX10_number ∈ jT := jT_in (in_t3 (List.mem_of_getElem? (i := 65) rfl)) rfl
theorem tw_3_66 : Cond.code yX10_number cX10_number 4 (some .int) ∈ jT := jT_in (in_t3 (List.mem_of_getElem? (i := 66) rfl)) rfl
theorem tw_3_68 : Cond.methodLink RX4 96 yX4_putWaiting ∈ jT := jT_in (in_t3 (List.mem_of_getElem? (i := 68) rfl)) rfl
theorem tw_3_69 : Cond.static yX4_putWaiting ∈ jT := jT_in (in_t3 (List.mem_of_getElem? (i := 69) rfl)) rfl
theorem tw_3_70 : Cond.code yX4_putWaiting cX4_putWaiting 2 none ∈ jT := jT_in (in_t3 (List.mem_of_getElem? (i := 70) rfl)) rfl
theorem tw_3_71 : Cond.methodLink RX4 58 yX4_readCase ∈ jT := jT_in (in_t3 (List.mem_of_getElem? (i := 71) rfl)) rfl
theorem tw_3_73 : Cond.instanceMethod yX4_readCase ∈ jT := jT_in (in_t3 (List.mem_of_getElem? (i := 73) rfl)) rfl
theorem tw_3_74 : Cond.code yX4_readCase cX4_readCase 6 none ∈ jT := jT_in (in_t3 (List.mem_of_getElem? (i := 74) rfl)) rfl
theorem tw_3_75 : Cond.methodLink RX4 65 yX4_readTest ∈ jT := jT_in (in_t3 (List.mem_of_getElem? (i := 75) rfl)) rfl
theorem tw_3_77 : Cond.instanceMethod yX4_readTest ∈ jT := jT_in (in_t3 (List.mem_of_getElem? (i := 77) rfl)) rfl
theorem tw_3_78 : Cond.code yX4_readTest cX4_readTest 4 none ∈ jT := jT_in (in_t3 (List.mem_of_getElem? (i := 78) rfl)) rfl
theorem tw_3_80 : Cond.methodLink RX4 72 yX3_putJump ∈ jT := jT_in (in_t3 (List.mem_of_getElem? (i := 80) rfl)) rfl
theorem tw_3_81 : Cond.instanceMethod yX3_putJump ∈ jT := jT_in (in_t3 (List.mem_of_getElem? (i := 81) rfl)) rfl
theorem tw_3_82 : Cond.selects RX3 yX3_putJump yX3_putJump ∈ jT := jT_in (in_t3 (List.mem_of_getElem? (i := 82) rfl)) rfl
theorem tw_3_83 : Cond.code yX3_putJump cX3_putJump 3 (some .int) ∈ jT := jT_in (in_t3 (List.mem_of_getElem? (i := 83) rfl)) rfl
theorem tw_3_84 : Cond.methodLink RX3 34 yX3_aim ∈ jT := jT_in (in_t3 (List.mem_of_getElem? (i := 84) rfl)) rfl
theorem tw_3_85 : Cond.instanceMethod yX3_aim ∈ jT := jT_in (in_t3 (List.mem_of_getElem? (i := 85) rfl)) rfl
theorem tw_3_86 : Cond.selects RX3 yX3_aim yX3_aim ∈ jT := jT_in (in_t3 (List.mem_of_getElem? (i := 86) rfl)) rfl
theorem tw_3_87 : Cond.code yX3_aim cX3_aim 2 none ∈ jT := jT_in (in_t3 (List.mem_of_getElem? (i := 87) rfl)) rfl
theorem tw_3_88 : Cond.methodLink RX3 38 yX3_put ∈ jT := jT_in (in_t3 (List.mem_of_getElem? (i := 88) rfl)) rfl
theorem tw_3_89 : Cond.methodLink RX4 76 yX3_aim ∈ jT := jT_in (in_t3 (List.mem_of_getElem? (i := 89) rfl)) rfl
theorem tw_3_90 : Cond.methodLink RX4 61 yX3_addRule ∈ jT := jT_in (in_t3 (List.mem_of_getElem? (i := 90) rfl)) rfl
theorem tw_3_91 : Cond.instanceMethod yX3_addRule ∈ jT := jT_in (in_t3 (List.mem_of_getElem? (i := 91) rfl)) rfl
theorem tw_3_92 : Cond.selects RX3 yX3_addRule yX3_addRule ∈ jT := jT_in (in_t3 (List.mem_of_getElem? (i := 92) rfl)) rfl
theorem tw_3_93 : Cond.code yX3_addRule cX3_addRule 4 none ∈ jT := jT_in (in_t3 (List.mem_of_getElem? (i := 93) rfl)) rfl
theorem tw_3_94 : Cond.arrayClass .byte ∈ jT := jT_in (in_t3 (List.mem_of_getElem? (i := 94) rfl)) rfl
theorem tw_3_95 : Cond.methodLink RL 28 yX11_routine ∈ jT := jT_in (in_t3 (List.mem_of_getElem? (i := 95) rfl)) rfl
theorem tw_3_96 : Cond.instanceMethod yX11_routine ∈ jT := jT_in (in_t3 (List.mem_of_getElem? (i := 96) rfl)) rfl
theorem tw_3_97 : Cond.selects RX11 yX11_routine yX11_routine ∈ jT := jT_in (in_t3 (List.mem_of_getElem? (i := 97) rfl)) rfl
theorem tw_3_98 : Cond.code yX11_routine cX11_routine 3 (some .int) ∈ jT := jT_in (in_t3 (List.mem_of_getElem? (i := 98) rfl)) rfl
theorem tw_3_99 : Cond.methodLink RX11 138 yX8_read ∈ jT := jT_in (in_t3 (List.mem_of_getElem? (i := 99) rfl)) rfl
theorem tw_3_100 : Cond.instanceMethod yX8_read ∈ jT := jT_in (in_t3 (List.mem_of_getElem? (i := 100) rfl)) rfl
theorem tw_3_101 : Cond.selects RX8 yX8_read yX8_read ∈ jT := jT_in (in_t3 (List.mem_of_getElem? (i := 101) rfl)) rfl
theorem tw_3_102 : Cond.code yX8_read cX8_read 3 (some .int) ∈ jT := jT_in (in_t3 (List.mem_of_getElem? (i := 102) rfl)) rfl
theorem tw_3_103 : Cond.methodLink RX8 33 yX8_readHours ∈ jT := jT_in (in_t3 (List.mem_of_getElem? (i := 103) rfl)) rfl
theorem tw_3_105 : Cond.instanceMethod yX8_readHours ∈ jT := jT_in (in_t3 (List.mem_of_getElem? (i := 105) rfl)) rfl
theorem tw_3_106 : Cond.code yX8_readHours cX8_readHours 3 none ∈ jT := jT_in (in_t3 (List.mem_of_getElem? (i := 106) rfl)) rfl
theorem tw_3_107 : Cond.methodLink RX8 42 yX8_readPiece ∈ jT := jT_in (in_t3 (List.mem_of_getElem? (i := 107) rfl)) rfl
theorem tw_3_109 : Cond.instanceMethod yX8_readPiece ∈ jT := jT_in (in_t3 (List.mem_of_getElem? (i := 109) rfl)) rfl
theorem tw_3_110 : Cond.code yX8_readPiece cX8_readPiece 5 none ∈ jT := jT_in (in_t3 (List.mem_of_getElem? (i := 110) rfl)) rfl
theorem tw_3_111 : Cond.methodLink RX8 59 yX10_step ∈ jT := jT_in (in_t3 (List.mem_of_getElem? (i := 111) rfl)) rfl
theorem tw_3_112 : Cond.methodLink RX8 62 yX10_stands ∈ jT := jT_in (in_t3 (List.mem_of_getElem? (i := 112) rfl)) rfl
theorem tw_3_113 : Cond.methodLink RX8 65 yX8_readGroup ∈ jT := jT_in (in_t3 (List.mem_of_getElem? (i := 113) rfl)) rfl
theorem tw_3_115 : Cond.instanceMethod yX8_readGroup ∈ jT := jT_in (in_t3 (List.mem_of_getElem? (i := 115) rfl)) rfl
theorem tw_3_116 : Cond.code yX8_readGroup cX8_readGroup 2 none ∈ jT := jT_in (in_t3 (List.mem_of_getElem? (i := 116) rfl)) rfl
theorem tw_3_117 : Cond.methodLink RX8 75 yX10_fail ∈ jT := jT_in (in_t3 (List.mem_of_getElem? (i := 117) rfl)) rfl
theorem tw_3_118 : Cond.methodLink RX8 78 yX10_take ∈ jT := jT_in (in_t3 (List.mem_of_getElem? (i := 118) rfl)) rfl
theorem tw_3_119 : Cond.methodLink RX8 68 yX8_readDoing ∈ jT := jT_in (in_t3 (List.mem_of_getElem? (i := 119) rfl)) rfl
theorem tw_3_121 : Cond.instanceMethod yX8_readDoing ∈ jT := jT_in (in_t3 (List.mem_of_getElem? (i := 121) rfl)) rfl
theorem tw_3_122 : Cond.code yX8_readDoing cX8_readDoing 2 none ∈ jT := jT_in (in_t3 (List.mem_of_getElem? (i := 122) rfl)) rfl
theorem tw_3_123 : Cond.methodLink RX8 49 yX10_goesOn ∈ jT := jT_in (in_t3 (List.mem_of_getElem? (i := 123) rfl)) rfl
theorem tw_3_125 : Cond.methodLink RX8 83 yJ0_indexOf_0f7a4 ∈ jT := jT_in (in_t3 (List.mem_of_getElem? (i := 125) rfl)) rfl
theorem tw_3_126 : Cond.methodLink RX8 89 yX8_put ∈ jT := jT_in (in_t3 (List.mem_of_getElem? (i := 126) rfl)) rfl
theorem tw_3_128 : Cond.instanceMethod yX8_put ∈ jT := jT_in (in_t3 (List.mem_of_getElem? (i := 128) rfl)) rfl
theorem tw_3_129 : Cond.code yX8_put cX8_put 2 none ∈ jT := jT_in (in_t3 (List.mem_of_getElem? (i := 129) rfl)) rfl
theorem tw_3_130 : Cond.methodLink RX8 71 yX8_repeat ∈ jT := jT_in (in_t3 (List.mem_of_getElem? (i := 130) rfl)) rfl
theorem tw_3_132 : Cond.instanceMethod yX8_repeat ∈ jT := jT_in (in_t3 (List.mem_of_getElem? (i := 132) rfl)) rfl
theorem tw_3_133 : Cond.code yX8_repeat cX8_repeat 6 none ∈ jT := jT_in (in_t3 (List.mem_of_getElem? (i := 133) rfl)) rfl
theorem tw_3_134 : Cond.methodLink RX8 45 yX8_isMore ∈ jT := jT_in (in_t3 (List.mem_of_getElem? (i := 134) rfl)) rfl
theorem tw_3_136 : Cond.instanceMethod yX8_isMore ∈ jT := jT_in (in_t3 (List.mem_of_getElem? (i := 136) rfl)) rfl
theorem tw_3_137 : Cond.code yX8_isMore cX8_isMore 2 (some .boolean) ∈ jT := jT_in (in_t3 (List.mem_of_getElem? (i := 137) rfl)) rfl
theorem tw_3_138 : Cond.methodLink RL 33 yX11_ledger ∈ jT := jT_in (in_t3 (List.mem_of_getElem? (i := 138) rfl)) rfl
theorem tw_3_139 : Cond.instanceMethod yX11_ledger ∈ jT := jT_in (in_t3 (List.mem_of_getElem? (i := 139) rfl)) rfl
theorem tw_3_140 : Cond.selects RX11 yX11_ledger yX11_ledger ∈ jT := jT_in (in_t3 (List.mem_of_getElem? (i := 140) rfl)) rfl
theorem tw_3_141 : Cond.code yX11_ledger cX11_ledger 2 (some .int) ∈ jT := jT_in (in_t3 (List.mem_of_getElem? (i := 141) rfl)) rfl
theorem tw_3_142 : Cond.methodLink RX11 141 yX5_read ∈ jT := jT_in (in_t3 (List.mem_of_getElem? (i := 142) rfl)) rfl
theorem tw_3_143 : Cond.instanceMethod yX5_read ∈ jT := jT_in (in_t3 (List.mem_of_getElem? (i := 143) rfl)) rfl
theorem tw_3_144 : Cond.selects RX5 yX5_read yX5_read ∈ jT := jT_in (in_t3 (List.mem_of_getElem? (i := 144) rfl)) rfl
theorem tw_3_145 : Cond.code yX5_read cX5_read 3 none ∈ jT := jT_in (in_t3 (List.mem_of_getElem? (i := 145) rfl)) rfl
theorem tw_3_146 : Cond.methodLink RX5 26 yX5_readLoan ∈ jT := jT_in (in_t3 (List.mem_of_getElem? (i := 146) rfl)) rfl
theorem tw_3_148 : Cond.instanceMethod yX5_readLoan ∈ jT := jT_in (in_t3 (List.mem_of_getElem? (i := 148) rfl)) rfl
theorem tw_3_149 : Cond.code yX5_readLoan cX5_readLoan 8 none ∈ jT := jT_in (in_t3 (List.mem_of_getElem? (i := 149) rfl)) rfl
theorem tw_3_150 : Cond.methodLink RX5 39 yX5_readPerson ∈ jT := jT_in (in_t3 (List.mem_of_getElem? (i := 150) rfl)) rfl
theorem tw_3_152 : Cond.instanceMethod yX5_readPerson ∈ jT := jT_in (in_t3 (List.mem_of_getElem? (i := 152) rfl)) rfl
theorem tw_3_153 : Cond.code yX5_readPerson cX5_readPerson 4 (some .int) ∈ jT := jT_in (in_t3 (List.mem_of_getElem? (i := 153) rfl)) rfl
theorem tw_3_154 : Cond.methodLink RX5 50 yX10_fail ∈ jT := jT_in (in_t3 (List.mem_of_getElem? (i := 154) rfl)) rfl
theorem tw_3_155 : Cond.methodLink RX5 67 yX10_step ∈ jT := jT_in (in_t3 (List.mem_of_getElem? (i := 155) rfl)) rfl
theorem tw_3_156 : Cond.methodLink RX5 36 yX10_take ∈ jT := jT_in (in_t3 (List.mem_of_getElem? (i := 156) rfl)) rfl
theorem tw_3_157 : Cond.methodLink RX5 46 yX10_number ∈ jT := jT_in (in_t3 (List.mem_of_getElem? (i := 157) rfl)) rfl
theorem tw_3_158 : Cond.methodLink RX5 54 yX5_readPart ∈ jT := jT_in (in_t3 (List.mem_of_getElem? (i := 158) rfl)) rfl
theorem tw_3_160 : Cond.instanceMethod yX5_readPart ∈ jT := jT_in (in_t3 (List.mem_of_getElem? (i := 160) rfl)) rfl
theorem tw_3_161 : Cond.code yX5_readPart cX5_readPart 3 (some .int) ∈ jT := jT_in (in_t3 (List.mem_of_getElem? (i := 161) rfl)) rfl
theorem tw_3_162 : Cond.methodLink RX5 70 yX10_stands ∈ jT := jT_in (in_t3 (List.mem_of_getElem? (i := 162) rfl)) rfl
theorem tw_3_163 : Cond.methodLink RX5 60 yX6_add ∈ jT := jT_in (in_t3 (List.mem_of_getElem? (i := 163) rfl)) rfl
theorem tw_3_164 : Cond.instanceMethod yX6_add ∈ jT := jT_in (in_t3 (List.mem_of_getElem? (i := 164) rfl)) rfl
theorem tw_3_165 : Cond.selects RX6 yX6_add yX6_add ∈ jT := jT_in (in_t3 (List.mem_of_getElem? (i := 165) rfl)) rfl
theorem tw_3_166 : Cond.code yX6_add cX6_add 6 none ∈ jT := jT_in (in_t3 (List.mem_of_getElem? (i := 166) rfl)) rfl
theorem tw_3_167 : Cond.methodLink RX5 30 yX10_goesOn ∈ jT := jT_in (in_t3 (List.mem_of_getElem? (i := 167) rfl)) rfl
theorem tw_3_168 : Cond.methodLink RX11 148 yX6_copy ∈ jT := jT_in (in_t3 (List.mem_of_getElem? (i := 168) rfl)) rfl
theorem tw_3_169 : Cond.instanceMethod yX6_copy ∈ jT := jT_in (in_t3 (List.mem_of_getElem? (i := 169) rfl)) rfl
theorem tw_3_170 : Cond.selects RX6 yX6_copy yX6_copy ∈ jT := jT_in (in_t3 (List.mem_of_getElem? (i := 170) rfl)) rfl
theorem tw_3_171 : Cond.code yX6_copy cX6_copy 2 none ∈ jT := jT_in (in_t3 (List.mem_of_getElem? (i := 171) rfl)) rfl
theorem tw_3_172 : Cond.methodLink RX6 34 arraycopyName ∈ jT := jT_in (in_t3 (List.mem_of_getElem? (i := 172) rfl)) rfl
theorem tw_3_173 : Cond.static arraycopyName ∈ jT := jT_in (in_t3 (List.mem_of_getElem? (i := 173) rfl)) rfl
theorem tw_3_174 : Cond.native arraycopyName ∈ jT := jT_in (in_t3 (List.mem_of_getElem? (i := 174) rfl)) rfl
theorem tw_3_175 : Cond.methodLink RL 37 yX11_days ∈ jT := jT_in (in_t3 (List.mem_of_getElem? (i := 175) rfl)) rfl
theorem tw_3_176 : Cond.instanceMethod yX11_days ∈ jT := jT_in (in_t3 (List.mem_of_getElem? (i := 176) rfl)) rfl
theorem tw_3_177 : Cond.selects RX11 yX11_days yX11_days ∈ jT := jT_in (in_t3 (List.mem_of_getElem? (i := 177) rfl)) rfl
theorem tw_3_178 : Cond.code yX11_days cX11_days 2 (some .int) ∈ jT := jT_in (in_t3 (List.mem_of_getElem? (i := 178) rfl)) rfl
theorem tw_3_179 : Cond.methodLink RX11 155 yX11_passDays ∈ jT := jT_in (in_t3 (List.mem_of_getElem? (i := 179) rfl)) rfl
theorem tw_3_181 : Cond.instanceMethod yX11_passDays ∈ jT := jT_in (in_t3 (List.mem_of_getElem? (i := 181) rfl)) rfl
theorem tw_3_182 : Cond.code yX11_passDays cX11_passDays 6 (some .int) ∈ jT := jT_in (in_t3 (List.mem_of_getElem? (i := 182) rfl)) rfl
theorem tw_3_183 : Cond.methodLink RX11 279 yJ6_bitCount_0f7a4 ∈ jT := jT_in (in_t3 (List.mem_of_getElem? (i := 183) rfl)) rfl
theorem tw_3_184 : Cond.static yJ6_bitCount_0f7a4 ∈ jT := jT_in (in_t3 (List.mem_of_getElem? (i := 184) rfl)) rfl
theorem tw_3_185 : Cond.code yJ6_bitCount_0f7a4 cJ6_bitCount_0f7a4 1 (some .int) ∈ jT := jT_in (in_t3 (List.mem_of_getElem? (i := 185) rfl)) rfl
theorem tw_3_186 : Cond.constant RJ6 265 (1431655765) ∈ jT := jT_in (in_t3 (List.mem_of_getElem? (i := 186) rfl)) rfl
theorem tw_3_187 : Cond.constant RJ6 266 (858993459) ∈ jT := jT_in (in_t3 (List.mem_of_getElem? (i := 187) rfl)) rfl
theorem tw_3_188 : Cond.constant RJ6 267 (252645135) ∈ jT := jT_in (in_t3 (List.mem_of_getElem? (i := 188) rfl)) rfl
theorem tw_3_189 : Cond.methodLink RX11 284 yX2_sit ∈ jT := jT_in (in_t3 (List.mem_of_getElem? (i := 189) rfl)) rfl
theorem tw_3_190 : Cond.instanceMethod yX2_sit ∈ jT := jT_in (in_t3 (List.mem_of_getElem? (i := 190) rfl)) rfl
theorem tw_3_191 : Cond.selects RX2 yX2_sit yX2_sit ∈ jT := jT_in (in_t3 (List.mem_of_getElem? (i := 191) rfl)) rfl
theorem tw_3_192 : Cond.code yX2_sit cX2_sit 3 none ∈ jT := jT_in (in_t3 (List.mem_of_getElem? (i := 192) rfl)) rfl
theorem tw_3_193 : Cond.methodLink RX11 288 yX11_passHour ∈ jT := jT_in (in_t3 (List.mem_of_getElem? (i := 193) rfl)) rfl
theorem tw_3_195 : Cond.instanceMethod yX11_passHour ∈ jT := jT_in (in_t3 (List.mem_of_getElem? (i := 195) rfl)) rfl
theorem tw_3_196 : Cond.code yX11_passHour cX11_passHour 4 none ∈ jT := jT_in (in_t3 (List.mem_of_getElem? (i := 196) rfl)) rfl
theorem tw_3_197 : Cond.methodLink RX11 179 yX0_isLiving ∈ jT := jT_in (in_t3 (List.mem_of_getElem? (i := 197) rfl)) rfl
theorem tw_3_198 : Cond.instanceMethod yX0_isLiving ∈ jT := jT_in (in_t3 (List.mem_of_getElem? (i := 198) rfl)) rfl
theorem tw_3_199 : Cond.selects RX0 yX0_isLiving yX0_isLiving ∈ jT := jT_in (in_t3 (List.mem_of_getElem? (i := 199) rfl)) rfl
theorem tw_3_200 : Cond.code yX0_isLiving cX0_isLiving 2 (some .boolean) ∈ jT := jT_in (in_t3 (List.mem_of_getElem? (i := 200) rfl)) rfl
theorem tw_3_201 : Cond.methodLink RX11 301 yX0_draw ∈ jT := jT_in (in_t3 (List.mem_of_getElem? (i := 201) rfl)) rfl
theorem tw_3_202 : Cond.instanceMethod yX0_draw ∈ jT := jT_in (in_t3 (List.mem_of_getElem? (i := 202) rfl)) rfl
theorem tw_3_203 : Cond.selects RX0 yX0_draw yX0_draw ∈ jT := jT_in (in_t3 (List.mem_of_getElem? (i := 203) rfl)) rfl
theorem tw_3_204 : Cond.code yX0_draw cX0_draw 1 (some .int) ∈ jT := jT_in (in_t3 (List.mem_of_getElem? (i := 204) rfl)) rfl
theorem tw_3_205 : Cond.constant RX0 55 (65536) ∈ jT := jT_in (in_t3 (List.mem_of_getElem? (i := 205) rfl)) rfl
theorem tw_3_206 : Cond.methodLink RX11 304 yX2_turnTo ∈ jT := jT_in (in_t3 (List.mem_of_getElem? (i := 206) rfl)) rfl
theorem tw_3_207 : Cond.instanceMethod yX2_turnTo ∈ jT := jT_in (in_t3 (List.mem_of_getElem? (i := 207) rfl)) rfl
theorem tw_3_208 : Cond.selects RX2 yX2_turnTo yX2_turnTo ∈ jT := jT_in (in_t3 (List.mem_of_getElem? (i := 208) rfl)) rfl
theorem tw_3_209 : Cond.code yX2_turnTo cX2_turnTo 5 none ∈ jT := jT_in (in_t3 (List.mem_of_getElem? (i := 209) rfl)) rfl
theorem tw_3_210 : Cond.methodLink RX11 308 yX2_worth ∈ jT := jT_in (in_t3 (List.mem_of_getElem? (i := 210) rfl)) rfl
theorem tw_3_211 : Cond.instanceMethod yX2_worth ∈ jT := jT_in (in_t3 (List.mem_of_getElem? (i := 211) rfl)) rfl
theorem tw_3_212 : Cond.selects RX2 yX2_worth yX2_worth ∈ jT := jT_in (in_t3 (List.mem_of_getElem? (i := 212) rfl)) rfl
theorem tw_3_213 : Cond.code yX2_worth cX2_worth 7 (some .int) ∈ jT := jT_in (in_t3 (List.mem_of_getElem? (i := 213) rfl)) rfl
theorem tw_3_214 : Cond.methodLink RX2 61 yX2_reckon ∈ jT := jT_in (in_t3 (List.mem_of_getElem? (i := 214) rfl)) rfl
theorem tw_3_216 : Cond.instanceMethod yX2_reckon ∈ jT := jT_in (in_t3 (List.mem_of_getElem? (i := 216) rfl)) rfl
theorem tw_3_217 : Cond.code yX2_reckon cX2_reckon 7 none ∈ jT := jT_in (in_t3 (List.mem_of_getElem? (i := 217) rfl)) rfl
theorem tw_3_218 : Cond.methodLink RX2 74 Lib.Math.max.name ∈ jT := jT_in (in_t3 (List.mem_of_getElem? (i := 218) rfl)) rfl
theorem tw_3_219 : Cond.methodLink RX2 80 yX2_letter ∈ jT := jT_in (in_t3 (List.mem_of_getElem? (i := 219) rfl)) rfl
theorem tw_3_221 : Cond.instanceMethod yX2_letter ∈ jT := jT_in (in_t3 (List.mem_of_getElem? (i := 221) rfl)) rfl
theorem tw_3_222 : Cond.code yX2_letter cX2_letter 3 (some .int) ∈ jT := jT_in (in_t3 (List.mem_of_getElem? (i := 222) rfl)) rfl
theorem tw_3_223 : Cond.methodLink RX2 68 Lib.Math.min.name ∈ jT := jT_in (in_t3 (List.mem_of_getElem? (i := 223) rfl)) rfl
theorem tw_3_224 : Cond.methodLink RX2 92 yX8_doing ∈ jT := jT_in (in_t3 (List.mem_of_getElem? (i := 224) rfl)) rfl
theorem tw_3_225 : Cond.instanceMethod yX8_doing ∈ jT := jT_in (in_t3 (List.mem_of_getElem? (i := 225) rfl)) rfl
theorem tw_3_226 : Cond.selects RX8 yX8_doing yX8_doing ∈ jT := jT_in (in_t3 (List.mem_of_getElem? (i := 226) rfl)) rfl
theorem tw_3_227 : Cond.code yX8_doing cX8_doing 4 (some .int) ∈ jT := jT_in (in_t3 (List.mem_of_getElem? (i := 227) rfl)) rfl
theorem tw_3_228 : Cond.methodLink RX2 97 yX0_ageOf ∈ jT := jT_in (in_t3 (List.mem_of_getElem? (i := 228) rfl)) rfl
theorem tw_3_229 : Cond.instanceMethod yX0_ageOf ∈ jT := jT_in (in_t3 (List.mem_of_getElem? (i := 229) rfl)) rfl
theorem tw_3_230 : Cond.selects RX0 yX0_ageOf yX0_ageOf ∈ jT := jT_in (in_t3 (List.mem_of_getElem? (i := 230) rfl)) rfl
theorem tw_3_231 : Cond.code yX0_ageOf cX0_ageOf 2 (some .int) ∈ jT := jT_in (in_t3 (List.mem_of_getElem? (i := 231) rfl)) rfl
theorem tw_3_232 : Cond.methodLink RX2 102 yX0_beatsOf ∈ jT := jT_in (in_t3 (List.mem_of_getElem? (i := 232) rfl)) rfl
theorem tw_3_233 : Cond.instanceMethod yX0_beatsOf ∈ jT := jT_in (in_t3 (List.mem_of_getElem? (i := 233) rfl)) rfl
theorem tw_3_234 : Cond.selects RX0 yX0_beatsOf yX0_beatsOf ∈ jT := jT_in (in_t3 (List.mem_of_getElem? (i := 234) rfl)) rfl
theorem tw_3_235 : Cond.code yX0_beatsOf cX0_beatsOf 2 (some .int) ∈ jT := jT_in (in_t3 (List.mem_of_getElem? (i := 235) rfl)) rfl
theorem tw_3_236 : Cond.methodLink RX2 108 yX8_othersWith ∈ jT := jT_in (in_t3 (List.mem_of_getElem? (i := 236) rfl)) rfl
theorem tw_3_237 : Cond.instanceMethod yX8_othersWith ∈ jT := jT_in (in_t3 (List.mem_of_getElem? (i := 237) rfl)) rfl
theorem tw_3_238 : Cond.selects RX8 yX8_othersWith yX8_othersWith ∈ jT := jT_in (in_t3 (List.mem_of_getElem? (i := 238) rfl)) rfl
theorem tw_3_239 : Cond.code yX8_othersWith cX8_othersWith 7 (some .int) ∈ jT := jT_in (in_t3 (List.mem_of_getElem? (i := 239) rfl)) rfl
theorem tw_4_0 : Cond.methodLink RX2 115 yX6_owedBy ∈ jT := jT_in (in_t4 (List.mem_of_getElem? (i := 0) rfl)) rfl
theorem tw_4_1 : Cond.instanceMethod yX6_owedBy ∈ jT := jT_in (in_t4 (List.mem_of_getElem? (i := 1) rfl)) rfl
theorem tw_4_2 : Cond.selects RX6 yX6_owedBy yX6_owedBy ∈ jT := jT_in (in_t4 (List.mem_of_getElem? (i := 2) rfl)) rfl
theorem tw_4_3 : Cond.code yX6_owedBy cX6_owedBy 4 (some .int) ∈ jT := jT_in (in_t4 (List.mem_of_getElem? (i := 3) rfl)) rfl
theorem tw_4_4 : Cond.methodLink RX2 84 yX2_compared ∈ jT := jT_in (in_t4 (List.mem_of_getElem? (i := 4) rfl)) rfl
theorem tw_4_5 : Cond.static yX2_compared ∈ jT := jT_in (in_t4 (List.mem_of_getElem? (i := 5) rfl)) rfl
theorem tw_4_6 : Cond.code yX2_compared cX2_compared 3 (some .boolean) ∈ jT := jT_in (in_t4 (List.mem_of_getElem? (i := 6) rfl)) rfl
theorem tw_4_7 : Cond.methodLink RX2 88 yX2_reckoned ∈ jT := jT_in (in_t4 (List.mem_of_getElem? (i := 7) rfl)) rfl
theorem tw_4_9 : Cond.instanceMethod yX2_reckoned ∈ jT := jT_in (in_t4 (List.mem_of_getElem? (i := 9) rfl)) rfl
theorem tw_4_10 : Cond.code yX2_reckoned cX2_reckoned 4 (some .int) ∈ jT := jT_in (in_t4 (List.mem_of_getElem? (i := 10) rfl)) rfl
theorem tw_4_11 : Cond.methodLink RX11 312 yX0_bury ∈ jT := jT_in (in_t4 (List.mem_of_getElem? (i := 11) rfl)) rfl
theorem tw_4_12 : Cond.instanceMethod yX0_bury ∈ jT := jT_in (in_t4 (List.mem_of_getElem? (i := 12) rfl)) rfl
theorem tw_4_13 : Cond.selects RX0 yX0_bury yX0_bury ∈ jT := jT_in (in_t4 (List.mem_of_getElem? (i := 13) rfl)) rfl
theorem tw_4_14 : Cond.code yX0_bury cX0_bury 2 none ∈ jT := jT_in (in_t4 (List.mem_of_getElem? (i := 14) rfl)) rfl
theorem tw_4_15 : Cond.methodLink RX0 56 yX0_isLiving ∈ jT := jT_in (in_t4 (List.mem_of_getElem? (i := 15) rfl)) rfl
theorem tw_4_16 : Cond.constant RX0 59 (999999999) ∈ jT := jT_in (in_t4 (List.mem_of_getElem? (i := 16) rfl)) rfl
theorem tw_4_17 : Cond.methodLink RX0 60 Lib.Math.min.name ∈ jT := jT_in (in_t4 (List.mem_of_getElem? (i := 17) rfl)) rfl
theorem tw_4_18 : Cond.methodLink RX11 315 yX0_spend ∈ jT := jT_in (in_t4 (List.mem_of_getElem? (i := 18) rfl)) rfl
theorem tw_4_19 : Cond.instanceMethod yX0_spend ∈ jT := jT_in (in_t4 (List.mem_of_getElem? (i := 19) rfl)) rfl
theorem tw_4_20 : Cond.selects RX0 yX0_spend yX0_spend ∈ jT := jT_in (in_t4 (List.mem_of_getElem? (i := 20) rfl)) rfl
theorem tw_4_21 : Cond.code yX0_spend cX0_spend 3 none ∈ jT := jT_in (in_t4 (List.mem_of_getElem? (i := 21) rfl)) rfl
theorem tw_4_22 : Cond.methodLink RX0 66 Lib.Math.max.name ∈ jT := jT_in (in_t4 (List.mem_of_getElem? (i := 22) rfl)) rfl
theorem tw_4_23 : Cond.methodLink RX0 69 yX0_bury ∈ jT := jT_in (in_t4 (List.mem_of_getElem? (i := 23) rfl)) rfl
theorem tw_4_24 : Cond.methodLink RX11 292 yX0_payLoans ∈ jT := jT_in (in_t4 (List.mem_of_getElem? (i := 24) rfl)) rfl
theorem tw_4_25 : Cond.instanceMethod yX0_payLoans ∈ jT := jT_in (in_t4 (List.mem_of_getElem? (i := 25) rfl)) rfl
theorem tw_4_26 : Cond.selects RX0 yX0_payLoans yX0_payLoans ∈ jT := jT_in (in_t4 (List.mem_of_getElem? (i := 26) rfl)) rfl
theorem tw_4_27 : Cond.code yX0_payLoans cX0_payLoans 6 none ∈ jT := jT_in (in_t4 (List.mem_of_getElem? (i := 27) rfl)) rfl
theorem tw_4_28 : Cond.methodLink RX0 85 yX6_grown ∈ jT := jT_in (in_t4 (List.mem_of_getElem? (i := 28) rfl)) rfl
theorem tw_4_29 : Cond.instanceMethod yX6_grown ∈ jT := jT_in (in_t4 (List.mem_of_getElem? (i := 29) rfl)) rfl
theorem tw_4_30 : Cond.selects RX6 yX6_grown yX6_grown ∈ jT := jT_in (in_t4 (List.mem_of_getElem? (i := 30) rfl)) rfl
theorem tw_4_31 : Cond.code yX6_grown cX6_grown 4 (some .int) ∈ jT := jT_in (in_t4 (List.mem_of_getElem? (i := 31) rfl)) rfl
theorem tw_4_32 : Cond.methodLink RX6 40 yX6_has ∈ jT := jT_in (in_t4 (List.mem_of_getElem? (i := 32) rfl)) rfl
theorem tw_4_33 : Cond.instanceMethod yX6_has ∈ jT := jT_in (in_t4 (List.mem_of_getElem? (i := 33) rfl)) rfl
theorem tw_4_34 : Cond.selects RX6 yX6_has yX6_has ∈ jT := jT_in (in_t4 (List.mem_of_getElem? (i := 34) rfl)) rfl
theorem tw_4_35 : Cond.code yX6_has cX6_has 2 (some .boolean) ∈ jT := jT_in (in_t4 (List.mem_of_getElem? (i := 35) rfl)) rfl
theorem tw_4_36 : Cond.constant RX6 44 (9999999) ∈ jT := jT_in (in_t4 (List.mem_of_getElem? (i := 36) rfl)) rfl
theorem tw_4_37 : Cond.methodLink RX6 45 Lib.Math.min.name ∈ jT := jT_in (in_t4 (List.mem_of_getElem? (i := 37) rfl)) rfl
theorem tw_4_38 : Cond.methodLink RX11 295 yX11_giveFromParish ∈ jT := jT_in (in_t4 (List.mem_of_getElem? (i := 38) rfl)) rfl
theorem tw_4_40 : Cond.instanceMethod yX11_giveFromParish ∈ jT := jT_in (in_t4 (List.mem_of_getElem? (i := 40) rfl)) rfl
theorem tw_4_41 : Cond.code yX11_giveFromParish cX11_giveFromParish 3 none ∈ jT := jT_in (in_t4 (List.mem_of_getElem? (i := 41) rfl)) rfl
theorem tw_4_42 : Cond.methodLink RX11 319 yX0_give ∈ jT := jT_in (in_t4 (List.mem_of_getElem? (i := 42) rfl)) rfl
theorem tw_4_43 : Cond.instanceMethod yX0_give ∈ jT := jT_in (in_t4 (List.mem_of_getElem? (i := 43) rfl)) rfl
theorem tw_4_44 : Cond.selects RX0 yX0_give yX0_give ∈ jT := jT_in (in_t4 (List.mem_of_getElem? (i := 44) rfl)) rfl
theorem tw_4_45 : Cond.code yX0_give cX0_give 4 none ∈ jT := jT_in (in_t4 (List.mem_of_getElem? (i := 45) rfl)) rfl
theorem tw_4_46 : Cond.methodLink RX11 298 yX0_growOlder ∈ jT := jT_in (in_t4 (List.mem_of_getElem? (i := 46) rfl)) rfl
theorem tw_4_47 : Cond.instanceMethod yX0_growOlder ∈ jT := jT_in (in_t4 (List.mem_of_getElem? (i := 47) rfl)) rfl
theorem tw_4_48 : Cond.selects RX0 yX0_growOlder yX0_growOlder ∈ jT := jT_in (in_t4 (List.mem_of_getElem? (i := 48) rfl)) rfl
theorem tw_4_49 : Cond.code yX0_growOlder cX0_growOlder 2 none ∈ jT := jT_in (in_t4 (List.mem_of_getElem? (i := 49) rfl)) rfl
theorem tw_4_50 : Cond.constant RX0 91 (99999) ∈ jT := jT_in (in_t4 (List.mem_of_getElem? (i := 50) rfl)) rfl
theorem tw_4_51 : Cond.methodLink RL 41 yX11_tried ∈ jT := jT_in (in_t4 (List.mem_of_getElem? (i := 51) rfl)) rfl
theorem tw_4_52 : Cond.instanceMethod yX11_tried ∈ jT := jT_in (in_t4 (List.mem_of_getElem? (i := 52) rfl)) rfl
theorem tw_4_53 : Cond.selects RX11 yX11_tried yX11_tried ∈ jT := jT_in (in_t4 (List.mem_of_getElem? (i := 53) rfl)) rfl
theorem tw_4_54 : Cond.code yX11_tried cX11_tried 6 (some .int) ∈ jT := jT_in (in_t4 (List.mem_of_getElem? (i := 54) rfl)) rfl
theorem tw_4_55 : Cond.methodLink RX11 159 yX0_isTold ∈ jT := jT_in (in_t4 (List.mem_of_getElem? (i := 55) rfl)) rfl
theorem tw_4_56 : Cond.instanceMethod yX0_isTold ∈ jT := jT_in (in_t4 (List.mem_of_getElem? (i := 56) rfl)) rfl
theorem tw_4_57 : Cond.selects RX0 yX0_isTold yX0_isTold ∈ jT := jT_in (in_t4 (List.mem_of_getElem? (i := 57) rfl)) rfl
theorem tw_4_58 : Cond.code yX0_isTold cX0_isTold 2 (some .boolean) ∈ jT := jT_in (in_t4 (List.mem_of_getElem? (i := 58) rfl)) rfl
theorem tw_4_59 : Cond.methodLink RX11 162 yX6_has ∈ jT := jT_in (in_t4 (List.mem_of_getElem? (i := 59) rfl)) rfl
theorem tw_4_60 : Cond.methodLink RX11 163 yX0_copy ∈ jT := jT_in (in_t4 (List.mem_of_getElem? (i := 60) rfl)) rfl
theorem tw_4_61 : Cond.instanceMethod yX0_copy ∈ jT := jT_in (in_t4 (List.mem_of_getElem? (i := 61) rfl)) rfl
theorem tw_4_62 : Cond.selects RX0 yX0_copy yX0_copy ∈ jT := jT_in (in_t4 (List.mem_of_getElem? (i := 62) rfl)) rfl
theorem tw_4_63 : Cond.code yX0_copy cX0_copy 2 none ∈ jT := jT_in (in_t4 (List.mem_of_getElem? (i := 63) rfl)) rfl
theorem tw_4_64 : Cond.methodLink RX0 41 arraycopyName ∈ jT := jT_in (in_t4 (List.mem_of_getElem? (i := 64) rfl)) rfl
theorem tw_4_65 : Cond.methodLink RX0 47 yX6_copy ∈ jT := jT_in (in_t4 (List.mem_of_getElem? (i := 65) rfl)) rfl
theorem tw_4_66 : Cond.methodLink RX11 166 yX6_dueOf ∈ jT := jT_in (in_t4 (List.mem_of_getElem? (i := 66) rfl)) rfl
theorem tw_4_67 : Cond.instanceMethod yX6_dueOf ∈ jT := jT_in (in_t4 (List.mem_of_getElem? (i := 67) rfl)) rfl
theorem tw_4_68 : Cond.selects RX6 yX6_dueOf yX6_dueOf ∈ jT := jT_in (in_t4 (List.mem_of_getElem? (i := 68) rfl)) rfl
theorem tw_4_69 : Cond.code yX6_dueOf cX6_dueOf 2 (some .int) ∈ jT := jT_in (in_t4 (List.mem_of_getElem? (i := 69) rfl)) rfl
theorem tw_4_70 : Cond.methodLink RX11 169 yX0_beatsOf ∈ jT := jT_in (in_t4 (List.mem_of_getElem? (i := 70) rfl)) rfl
theorem tw_4_71 : Cond.methodLink RL 45 yX11_personIs ∈ jT := jT_in (in_t4 (List.mem_of_getElem? (i := 71) rfl)) rfl
theorem tw_4_72 : Cond.instanceMethod yX11_personIs ∈ jT := jT_in (in_t4 (List.mem_of_getElem? (i := 72) rfl)) rfl
theorem tw_4_73 : Cond.selects RX11 yX11_personIs yX11_personIs ∈ jT := jT_in (in_t4 (List.mem_of_getElem? (i := 73) rfl)) rfl
theorem tw_4_74 : Cond.code yX11_personIs cX11_personIs 3 (some .int) ∈ jT := jT_in (in_t4 (List.mem_of_getElem? (i := 74) rfl)) rfl
theorem tw_4_75 : Cond.constant RX11 175 (-1000000000) ∈ jT := jT_in (in_t4 (List.mem_of_getElem? (i := 75) rfl)) rfl
theorem tw_4_76 : Cond.methodLink RX11 176 yX0_ageOf ∈ jT := jT_in (in_t4 (List.mem_of_getElem? (i := 76) rfl)) rfl
theorem tw_4_77 : Cond.methodLink RX11 182 yX8_hoursOf ∈ jT := jT_in (in_t4 (List.mem_of_getElem? (i := 77) rfl)) rfl
theorem tw_4_78 : Cond.instanceMethod yX8_hoursOf ∈ jT := jT_in (in_t4 (List.mem_of_getElem? (i := 78) rfl)) rfl
theorem tw_4_79 : Cond.selects RX8 yX8_hoursOf yX8_hoursOf ∈ jT := jT_in (in_t4 (List.mem_of_getElem? (i := 79) rfl)) rfl
theorem tw_4_80 : Cond.code yX8_hoursOf cX8_hoursOf 2 (some .int) ∈ jT := jT_in (in_t4 (List.mem_of_getElem? (i := 80) rfl)) rfl
theorem tw_4_81 : Cond.methodLink RX11 185 yX6_netOf ∈ jT := jT_in (in_t4 (List.mem_of_getElem? (i := 81) rfl)) rfl
theorem tw_4_82 : Cond.instanceMethod yX6_netOf ∈ jT := jT_in (in_t4 (List.mem_of_getElem? (i := 82) rfl)) rfl
theorem tw_4_83 : Cond.selects RX6 yX6_netOf yX6_netOf ∈ jT := jT_in (in_t4 (List.mem_of_getElem? (i := 83) rfl)) rfl
theorem tw_4_84 : Cond.code yX6_netOf cX6_netOf 4 (some .int) ∈ jT := jT_in (in_t4 (List.mem_of_getElem? (i := 84) rfl)) rfl
theorem tw_4_85 : Cond.methodLink RL 49 yX11_loanIs ∈ jT := jT_in (in_t4 (List.mem_of_getElem? (i := 85) rfl)) rfl
theorem tw_4_86 : Cond.instanceMethod yX11_loanIs ∈ jT := jT_in (in_t4 (List.mem_of_getElem? (i := 86) rfl)) rfl
theorem tw_4_87 : Cond.selects RX11 yX11_loanIs yX11_loanIs ∈ jT := jT_in (in_t4 (List.mem_of_getElem? (i := 87) rfl)) rfl
theorem tw_4_88 : Cond.code yX11_loanIs cX11_loanIs 3 (some .int) ∈ jT := jT_in (in_t4 (List.mem_of_getElem? (i := 88) rfl)) rfl
theorem tw_4_89 : Cond.methodLink RX11 188 yX6_partOf ∈ jT := jT_in (in_t4 (List.mem_of_getElem? (i := 89) rfl)) rfl
theorem tw_4_90 : Cond.instanceMethod yX6_partOf ∈ jT := jT_in (in_t4 (List.mem_of_getElem? (i := 90) rfl)) rfl
theorem tw_4_91 : Cond.selects RX6 yX6_partOf yX6_partOf ∈ jT := jT_in (in_t4 (List.mem_of_getElem? (i := 91) rfl)) rfl
theorem tw_4_92 : Cond.code yX6_partOf cX6_partOf 3 (some .int) ∈ jT := jT_in (in_t4 (List.mem_of_getElem? (i := 92) rfl)) rfl
theorem tw_4_93 : Cond.methodLink RL 53 yX11_dies ∈ jT := jT_in (in_t4 (List.mem_of_getElem? (i := 93) rfl)) rfl
theorem tw_4_94 : Cond.instanceMethod yX11_dies ∈ jT := jT_in (in_t4 (List.mem_of_getElem? (i := 94) rfl)) rfl
theorem tw_4_95 : Cond.selects RX11 yX11_dies yX11_dies ∈ jT := jT_in (in_t4 (List.mem_of_getElem? (i := 95) rfl)) rfl
theorem tw_4_96 : Cond.code yX11_dies cX11_dies 4 (some .int) ∈ jT := jT_in (in_t4 (List.mem_of_getElem? (i := 96) rfl)) rfl
theorem tw_4_97 : Cond.methodLink RL 57 yX11_costs ∈ jT := jT_in (in_t4 (List.mem_of_getElem? (i := 97) rfl)) rfl
theorem tw_4_98 : Cond.instanceMethod yX11_costs ∈ jT := jT_in (in_t4 (List.mem_of_getElem? (i := 98) rfl)) rfl
theorem tw_4_99 : Cond.selects RX11 yX11_costs yX11_costs ∈ jT := jT_in (in_t4 (List.mem_of_getElem? (i := 99) rfl)) rfl
theorem tw_4_100 : Cond.code yX11_costs cX11_costs 3 (some .int) ∈ jT := jT_in (in_t4 (List.mem_of_getElem? (i := 100) rfl)) rfl
theorem tw_4_101 : Cond.methodLink RX11 192 yX11_costOf ∈ jT := jT_in (in_t4 (List.mem_of_getElem? (i := 101) rfl)) rfl
theorem tw_4_103 : Cond.instanceMethod yX11_costOf ∈ jT := jT_in (in_t4 (List.mem_of_getElem? (i := 103) rfl)) rfl
theorem tw_4_104 : Cond.code yX11_costOf cX11_costOf 6 (some .int) ∈ jT := jT_in (in_t4 (List.mem_of_getElem? (i := 104) rfl)) rfl
theorem tw_4_105 : Cond.methodLink RL 61 yX11_paidOff ∈ jT := jT_in (in_t4 (List.mem_of_getElem? (i := 105) rfl)) rfl
theorem tw_4_106 : Cond.instanceMethod yX11_paidOff ∈ jT := jT_in (in_t4 (List.mem_of_getElem? (i := 106) rfl)) rfl
theorem tw_4_107 : Cond.selects RX11 yX11_paidOff yX11_paidOff ∈ jT := jT_in (in_t4 (List.mem_of_getElem? (i := 107) rfl)) rfl
theorem tw_4_108 : Cond.code yX11_paidOff cX11_paidOff 4 (some .int) ∈ jT := jT_in (in_t4 (List.mem_of_getElem? (i := 108) rfl)) rfl
theorem tw_4_109 : Cond.methodLink RX11 196 yX6_dueNextDay ∈ jT := jT_in (in_t4 (List.mem_of_getElem? (i := 109) rfl)) rfl
theorem tw_4_110 : Cond.instanceMethod yX6_dueNextDay ∈ jT := jT_in (in_t4 (List.mem_of_getElem? (i := 110) rfl)) rfl
theorem tw_4_111 : Cond.selects RX6 yX6_dueNextDay yX6_dueNextDay ∈ jT := jT_in (in_t4 (List.mem_of_getElem? (i := 111) rfl)) rfl
theorem tw_4_112 : Cond.code yX6_dueNextDay cX6_dueNextDay 4 (some .int) ∈ jT := jT_in (in_t4 (List.mem_of_getElem? (i := 112) rfl)) rfl
theorem tw_4_113 : Cond.methodLink RX6 51 yX6_grown ∈ jT := jT_in (in_t4 (List.mem_of_getElem? (i := 113) rfl)) rfl
theorem tw_4_114 : Cond.methodLink RL 65 yX11_dueAfter ∈ jT := jT_in (in_t4 (List.mem_of_getElem? (i := 114) rfl)) rfl
theorem tw_4_115 : Cond.instanceMethod yX11_dueAfter ∈ jT := jT_in (in_t4 (List.mem_of_getElem? (i := 115) rfl)) rfl
theorem tw_4_116 : Cond.selects RX11 yX11_dueAfter yX11_dueAfter ∈ jT := jT_in (in_t4 (List.mem_of_getElem? (i := 116) rfl)) rfl
theorem tw_4_117 : Cond.code yX11_dueAfter cX11_dueAfter 5 (some .int) ∈ jT := jT_in (in_t4 (List.mem_of_getElem? (i := 117) rfl)) rfl
theorem tw_4_118 : Cond.methodLink RL 69 yX11_hiccups ∈ jT := jT_in (in_t4 (List.mem_of_getElem? (i := 118) rfl)) rfl
theorem tw_4_119 : Cond.instanceMethod yX11_hiccups ∈ jT := jT_in (in_t4 (List.mem_of_getElem? (i := 119) rfl)) rfl
theorem tw_4_120 : Cond.selects RX11 yX11_hiccups yX11_hiccups ∈ jT := jT_in (in_t4 (List.mem_of_getElem? (i := 120) rfl)) rfl
theorem tw_4_121 : Cond.code yX11_hiccups cX11_hiccups 7 (some .int) ∈ jT := jT_in (in_t4 (List.mem_of_getElem? (i := 121) rfl)) rfl
theorem tw_4_122 : Cond.methodLink RX11 199 yX8_joined ∈ jT := jT_in (in_t4 (List.mem_of_getElem? (i := 122) rfl)) rfl
theorem tw_4_123 : Cond.instanceMethod yX8_joined ∈ jT := jT_in (in_t4 (List.mem_of_getElem? (i := 123) rfl)) rfl
theorem tw_4_124 : Cond.selects RX8 yX8_joined yX8_joined ∈ jT := jT_in (in_t4 (List.mem_of_getElem? (i := 124) rfl)) rfl
theorem tw_4_125 : Cond.code yX8_joined cX8_joined 7 (some .int) ∈ jT := jT_in (in_t4 (List.mem_of_getElem? (i := 125) rfl)) rfl
theorem tw_4_126 : Cond.methodLink RX8 29 yX8_doing ∈ jT := jT_in (in_t4 (List.mem_of_getElem? (i := 126) rfl)) rfl
theorem tw_4_127 : Cond.methodLink RL 73 yX11_left ∈ jT := jT_in (in_t4 (List.mem_of_getElem? (i := 127) rfl)) rfl
theorem tw_4_128 : Cond.instanceMethod yX11_left ∈ jT := jT_in (in_t4 (List.mem_of_getElem? (i := 128) rfl)) rfl
theorem tw_4_129 : Cond.selects RX11 yX11_left yX11_left ∈ jT := jT_in (in_t4 (List.mem_of_getElem? (i := 129) rfl)) rfl
theorem tw_4_130 : Cond.code yX11_left cX11_left 2 (some .int) ∈ jT := jT_in (in_t4 (List.mem_of_getElem? (i := 130) rfl)) rfl
theorem tw_4_131 : Cond.methodLink RX11 202 yX11_daysLeft ∈ jT := jT_in (in_t4 (List.mem_of_getElem? (i := 131) rfl)) rfl
theorem tw_4_133 : Cond.instanceMethod yX11_daysLeft ∈ jT := jT_in (in_t4 (List.mem_of_getElem? (i := 133) rfl)) rfl
theorem tw_4_134 : Cond.code yX11_daysLeft cX11_daysLeft 3 (some .int) ∈ jT := jT_in (in_t4 (List.mem_of_getElem? (i := 134) rfl)) rfl
theorem tw_4_135 : Cond.methodLink RL 77 yX11_longest ∈ jT := jT_in (in_t4 (List.mem_of_getElem? (i := 135) rfl)) rfl
theorem tw_4_136 : Cond.instanceMethod yX11_longest ∈ jT := jT_in (in_t4 (List.mem_of_getElem? (i := 136) rfl)) rfl
theorem tw_4_137 : Cond.selects RX11 yX11_longest yX11_longest ∈ jT := jT_in (in_t4 (List.mem_of_getElem? (i := 137) rfl)) rfl
theorem tw_4_138 : Cond.code yX11_longest cX11_longest 5 (some .int) ∈ jT := jT_in (in_t4 (List.mem_of_getElem? (i := 138) rfl)) rfl
theorem tw_4_139 : Cond.methodLink RL 82 yX11_stillest ∈ jT := jT_in (in_t4 (List.mem_of_getElem? (i := 139) rfl)) rfl
theorem tw_4_140 : Cond.instanceMethod yX11_stillest ∈ jT := jT_in (in_t4 (List.mem_of_getElem? (i := 140) rfl)) rfl
theorem tw_4_141 : Cond.selects RX11 yX11_stillest yX11_stillest ∈ jT := jT_in (in_t4 (List.mem_of_getElem? (i := 141) rfl)) rfl
theorem tw_4_142 : Cond.code yX11_stillest cX11_stillest 6 (some .int) ∈ jT := jT_in (in_t4 (List.mem_of_getElem? (i := 142) rfl)) rfl
theorem tw_4_143 : Cond.methodLink RX11 205 yX11_costOfAll ∈ jT := jT_in (in_t4 (List.mem_of_getElem? (i := 143) rfl)) rfl
theorem tw_4_145 : Cond.instanceMethod yX11_costOfAll ∈ jT := jT_in (in_t4 (List.mem_of_getElem? (i := 145) rfl)) rfl
theorem tw_4_146 : Cond.code yX11_costOfAll cX11_costOfAll 4 (some .int) ∈ jT := jT_in (in_t4 (List.mem_of_getElem? (i := 146) rfl)) rfl
theorem tw_4_147 : Cond.methodLink RL 86 yX11_alike ∈ jT := jT_in (in_t4 (List.mem_of_getElem? (i := 147) rfl)) rfl
theorem tw_4_148 : Cond.instanceMethod yX11_alike ∈ jT := jT_in (in_t4 (List.mem_of_getElem? (i := 148) rfl)) rfl
theorem tw_4_149 : Cond.selects RX11 yX11_alike yX11_alike ∈ jT := jT_in (in_t4 (List.mem_of_getElem? (i := 149) rfl)) rfl
theorem tw_4_150 : Cond.code yX11_alike cX11_alike 8 (some .int) ∈ jT := jT_in (in_t4 (List.mem_of_getElem? (i := 150) rfl)) rfl
theorem tw_4_151 : Cond.methodLink RX11 208 yX8_sameHours ∈ jT := jT_in (in_t4 (List.mem_of_getElem? (i := 151) rfl)) rfl
theorem tw_4_152 : Cond.instanceMethod yX8_sameHours ∈ jT := jT_in (in_t4 (List.mem_of_getElem? (i := 152) rfl)) rfl
theorem tw_4_153 : Cond.selects RX8 yX8_sameHours yX8_sameHours ∈ jT := jT_in (in_t4 (List.mem_of_getElem? (i := 153) rfl)) rfl
theorem tw_4_154 : Cond.code yX8_sameHours cX8_sameHours 6 (some .int) ∈ jT := jT_in (in_t4 (List.mem_of_getElem? (i := 154) rfl)) rfl
theorem tw_4_155 : Cond.methodLink RL 91 yX11_rings ∈ jT := jT_in (in_t4 (List.mem_of_getElem? (i := 155) rfl)) rfl
theorem tw_4_156 : Cond.instanceMethod yX11_rings ∈ jT := jT_in (in_t4 (List.mem_of_getElem? (i := 156) rfl)) rfl
theorem tw_4_157 : Cond.selects RX11 yX11_rings yX11_rings ∈ jT := jT_in (in_t4 (List.mem_of_getElem? (i := 157) rfl)) rfl
theorem tw_4_158 : Cond.code yX11_rings cX11_rings 2 (some .int) ∈ jT := jT_in (in_t4 (List.mem_of_getElem? (i := 158) rfl)) rfl
theorem tw_4_159 : Cond.methodLink RX11 211 yX7_search ∈ jT := jT_in (in_t4 (List.mem_of_getElem? (i := 159) rfl)) rfl
theorem tw_4_160 : Cond.instanceMethod yX7_search ∈ jT := jT_in (in_t4 (List.mem_of_getElem? (i := 160) rfl)) rfl
theorem tw_4_161 : Cond.selects RX7 yX7_search yX7_search ∈ jT := jT_in (in_t4 (List.mem_of_getElem? (i := 161) rfl)) rfl
theorem tw_4_162 : Cond.code yX7_search cX7_search 4 none ∈ jT := jT_in (in_t4 (List.mem_of_getElem? (i := 162) rfl)) rfl
theorem tw_4_163 : Cond.methodLink RX7 34 yX7_follow ∈ jT := jT_in (in_t4 (List.mem_of_getElem? (i := 163) rfl)) rfl
theorem tw_4_165 : Cond.instanceMethod yX7_follow ∈ jT := jT_in (in_t4 (List.mem_of_getElem? (i := 165) rfl)) rfl
theorem tw_4_166 : Cond.code yX7_follow cX7_follow 6 none ∈ jT := jT_in (in_t4 (List.mem_of_getElem? (i := 166) rfl)) rfl
theorem tw_4_167 : Cond.methodLink RX7 38 yX7_note ∈ jT := jT_in (in_t4 (List.mem_of_getElem? (i := 167) rfl)) rfl
theorem tw_4_169 : Cond.instanceMethod yX7_note ∈ jT := jT_in (in_t4 (List.mem_of_getElem? (i := 169) rfl)) rfl
theorem tw_4_170 : Cond.code yX7_note cX7_note 3 none ∈ jT := jT_in (in_t4 (List.mem_of_getElem? (i := 170) rfl)) rfl
theorem tw_4_171 : Cond.methodLink RL 95 yX11_settled ∈ jT := jT_in (in_t4 (List.mem_of_getElem? (i := 171) rfl)) rfl
theorem tw_4_172 : Cond.instanceMethod yX11_settled ∈ jT := jT_in (in_t4 (List.mem_of_getElem? (i := 172) rfl)) rfl
theorem tw_4_173 : Cond.selects RX11 yX11_settled yX11_settled ∈ jT := jT_in (in_t4 (List.mem_of_getElem? (i := 173) rfl)) rfl
theorem tw_4_174 : Cond.code yX11_settled cX11_settled 3 (some .int) ∈ jT := jT_in (in_t4 (List.mem_of_getElem? (i := 174) rfl)) rfl
theorem tw_4_175 : Cond.methodLink RX11 220 yX9_payments ∈ jT := jT_in (in_t4 (List.mem_of_getElem? (i := 175) rfl)) rfl
theorem tw_4_176 : Cond.instanceMethod yX9_payments ∈ jT := jT_in (in_t4 (List.mem_of_getElem? (i := 176) rfl)) rfl
theorem tw_4_177 : Cond.selects RX9 yX9_payments yX9_payments ∈ jT := jT_in (in_t4 (List.mem_of_getElem? (i := 177) rfl)) rfl
theorem tw_4_178 : Cond.code yX9_payments cX9_payments 8 (some .int) ∈ jT := jT_in (in_t4 (List.mem_of_getElem? (i := 178) rfl)) rfl
theorem tw_4_179 : Cond.methodLink RX9 38 yX9_paidInAll ∈ jT := jT_in (in_t4 (List.mem_of_getElem? (i := 179) rfl)) rfl
theorem tw_4_180 : Cond.instanceMethod yX9_paidInAll ∈ jT := jT_in (in_t4 (List.mem_of_getElem? (i := 180) rfl)) rfl
theorem tw_4_181 : Cond.selects RX9 yX9_paidInAll yX9_paidInAll ∈ jT := jT_in (in_t4 (List.mem_of_getElem? (i := 181) rfl)) rfl
theorem tw_4_182 : Cond.code yX9_paidInAll cX9_paidInAll 5 (some .int) ∈ jT := jT_in (in_t4 (List.mem_of_getElem? (i := 182) rfl)) rfl
theorem tw_4_183 : Cond.methodLink RX9 29 yX9_netAt ∈ jT := jT_in (in_t4 (List.mem_of_getElem? (i := 183) rfl)) rfl
theorem tw_4_185 : Cond.instanceMethod yX9_netAt ∈ jT := jT_in (in_t4 (List.mem_of_getElem? (i := 185) rfl)) rfl
theorem tw_4_186 : Cond.code yX9_netAt cX9_netAt 2 (some .int) ∈ jT := jT_in (in_t4 (List.mem_of_getElem? (i := 186) rfl)) rfl
theorem tw_4_187 : Cond.methodLink RX9 22 yX10_wordAt ∈ jT := jT_in (in_t4 (List.mem_of_getElem? (i := 187) rfl)) rfl
theorem tw_4_188 : Cond.instanceMethod yX10_wordAt ∈ jT := jT_in (in_t4 (List.mem_of_getElem? (i := 188) rfl)) rfl
theorem tw_4_189 : Cond.selects RX10 yX10_wordAt yX10_wordAt ∈ jT := jT_in (in_t4 (List.mem_of_getElem? (i := 189) rfl)) rfl
theorem tw_4_190 : Cond.code yX10_wordAt cX10_wordAt 2 (some .int) ∈ jT := jT_in (in_t4 (List.mem_of_getElem? (i := 190) rfl)) rfl
theorem tw_4_191 : Cond.methodLink RX10 37 yX10_byteAt ∈ jT := jT_in (in_t4 (List.mem_of_getElem? (i := 191) rfl)) rfl
theorem tw_4_192 : Cond.instanceMethod yX10_byteAt ∈ jT := jT_in (in_t4 (List.mem_of_getElem? (i := 192) rfl)) rfl
theorem tw_4_193 : Cond.selects RX10 yX10_byteAt yX10_byteAt ∈ jT := jT_in (in_t4 (List.mem_of_getElem? (i := 193) rfl)) rfl
theorem tw_4_194 : Cond.code yX10_byteAt cX10_byteAt 2 (some .int) ∈ jT := jT_in (in_t4 (List.mem_of_getElem? (i := 194) rfl)) rfl
theorem tw_4_195 : Cond.constant RX9 28 (32768) ∈ jT := jT_in (in_t4 (List.mem_of_getElem? (i := 195) rfl)) rfl
theorem tw_4_196 : Cond.methodLink RX9 32 Lib.Math.max.name ∈ jT := jT_in (in_t4 (List.mem_of_getElem? (i := 196) rfl)) rfl
theorem tw_4_197 : Cond.methodLink RX11 223 yX9_paidInAll ∈ jT := jT_in (in_t4 (List.mem_of_getElem? (i := 197) rfl)) rfl
theorem tw_4_198 : Cond.methodLink RL 99 yX11_joy ∈ jT := jT_in (in_t4 (List.mem_of_getElem? (i := 198) rfl)) rfl
theorem tw_4_199 : Cond.instanceMethod yX11_joy ∈ jT := jT_in (in_t4 (List.mem_of_getElem? (i := 199) rfl)) rfl
theorem tw_4_200 : Cond.selects RX11 yX11_joy yX11_joy ∈ jT := jT_in (in_t4 (List.mem_of_getElem? (i := 200) rfl)) rfl
theorem tw_4_201 : Cond.code yX11_joy cX11_joy 5 (some .int) ∈ jT := jT_in (in_t4 (List.mem_of_getElem? (i := 201) rfl)) rfl
theorem tw_4_202 : Cond.methodLink RX11 226 yX1_seek ∈ jT := jT_in (in_t4 (List.mem_of_getElem? (i := 202) rfl)) rfl
theorem tw_4_203 : Cond.instanceMethod yX1_seek ∈ jT := jT_in (in_t4 (List.mem_of_getElem? (i := 203) rfl)) rfl
theorem tw_4_204 : Cond.selects RX1 yX1_seek yX1_seek ∈ jT := jT_in (in_t4 (List.mem_of_getElem? (i := 204) rfl)) rfl
theorem tw_4_205 : Cond.code yX1_seek cX1_seek 5 none ∈ jT := jT_in (in_t4 (List.mem_of_getElem? (i := 205) rfl)) rfl
theorem tw_4_206 : Cond.methodLink RX1 31 Lib.Math.min.name ∈ jT := jT_in (in_t4 (List.mem_of_getElem? (i := 206) rfl)) rfl
theorem tw_4_207 : Cond.methodLink RX1 37 yX10_byteAt ∈ jT := jT_in (in_t4 (List.mem_of_getElem? (i := 207) rfl)) rfl
theorem tw_4_208 : Cond.methodLink RX1 43 yX1_share ∈ jT := jT_in (in_t4 (List.mem_of_getElem? (i := 208) rfl)) rfl
theorem tw_4_210 : Cond.instanceMethod yX1_share ∈ jT := jT_in (in_t4 (List.mem_of_getElem? (i := 210) rfl)) rfl
theorem tw_4_211 : Cond.code yX1_share cX1_share 7 none ∈ jT := jT_in (in_t4 (List.mem_of_getElem? (i := 211) rfl)) rfl
theorem tw_4_212 : Cond.methodLink RX1 47 yX1_note ∈ jT := jT_in (in_t4 (List.mem_of_getElem? (i := 212) rfl)) rfl
theorem tw_4_214 : Cond.instanceMethod yX1_note ∈ jT := jT_in (in_t4 (List.mem_of_getElem? (i := 214) rfl)) rfl
theorem tw_4_215 : Cond.code yX1_note cX1_note 2 none ∈ jT := jT_in (in_t4 (List.mem_of_getElem? (i := 215) rfl)) rfl
theorem tw_4_216 : Cond.methodLink RX1 51 arraycopyName ∈ jT := jT_in (in_t4 (List.mem_of_getElem? (i := 216) rfl)) rfl
theorem tw_4_217 : Cond.methodLink RX11 233 yX1_hoursOf ∈ jT := jT_in (in_t4 (List.mem_of_getElem? (i := 217) rfl)) rfl
theorem tw_4_218 : Cond.instanceMethod yX1_hoursOf ∈ jT := jT_in (in_t4 (List.mem_of_getElem? (i := 218) rfl)) rfl
theorem tw_4_219 : Cond.selects RX1 yX1_hoursOf yX1_hoursOf ∈ jT := jT_in (in_t4 (List.mem_of_getElem? (i := 219) rfl)) rfl
theorem tw_4_220 : Cond.code yX1_hoursOf cX1_hoursOf 2 (some .int) ∈ jT := jT_in (in_t4 (List.mem_of_getElem? (i := 220) rfl)) rfl
theorem tw_4_221 : Cond.methodLink RL 103 yX11_run ∈ jT := jT_in (in_t4 (List.mem_of_getElem? (i := 221) rfl)) rfl
theorem tw_4_222 : Cond.instanceMethod yX11_run ∈ jT := jT_in (in_t4 (List.mem_of_getElem? (i := 222) rfl)) rfl
theorem tw_4_223 : Cond.selects RX11 yX11_run yX11_run ∈ jT := jT_in (in_t4 (List.mem_of_getElem? (i := 223) rfl)) rfl
theorem tw_4_224 : Cond.code yX11_run cX11_run 3 (some .int) ∈ jT := jT_in (in_t4 (List.mem_of_getElem? (i := 224) rfl)) rfl
theorem tw_4_225 : Cond.methodLink RX11 234 yX9_bankRun ∈ jT := jT_in (in_t4 (List.mem_of_getElem? (i := 225) rfl)) rfl
theorem tw_4_226 : Cond.instanceMethod yX9_bankRun ∈ jT := jT_in (in_t4 (List.mem_of_getElem? (i := 226) rfl)) rfl
theorem tw_4_227 : Cond.selects RX9 yX9_bankRun yX9_bankRun ∈ jT := jT_in (in_t4 (List.mem_of_getElem? (i := 227) rfl)) rfl
theorem tw_4_228 : Cond.code yX9_bankRun cX9_bankRun 8 (some .int) ∈ jT := jT_in (in_t4 (List.mem_of_getElem? (i := 228) rfl)) rfl
theorem tw_4_229 : Cond.methodLink RX9 41 yX10_byteAt ∈ jT := jT_in (in_t4 (List.mem_of_getElem? (i := 229) rfl)) rfl
theorem tw_4_230 : Cond.methodLink RL 107 yX11_table ∈ jT := jT_in (in_t4 (List.mem_of_getElem? (i := 230) rfl)) rfl
theorem tw_4_231 : Cond.instanceMethod yX11_table ∈ jT := jT_in (in_t4 (List.mem_of_getElem? (i := 231) rfl)) rfl
theorem tw_4_232 : Cond.selects RX11 yX11_table yX11_table ∈ jT := jT_in (in_t4 (List.mem_of_getElem? (i := 232) rfl)) rfl
theorem tw_4_233 : Cond.code yX11_table cX11_table 4 (some .int) ∈ jT := jT_in (in_t4 (List.mem_of_getElem? (i := 233) rfl)) rfl
theorem tw_4_234 : Cond.methodLink RX11 237 yX9_isLifeTable ∈ jT := jT_in (in_t4 (List.mem_of_getElem? (i := 234) rfl)) rfl
theorem tw_4_235 : Cond.instanceMethod yX9_isLifeTable ∈ jT := jT_in (in_t4 (List.mem_of_getElem? (i := 235) rfl)) rfl
theorem tw_4_236 : Cond.selects RX9 yX9_isLifeTable yX9_isLifeTable ∈ jT := jT_in (in_t4 (List.mem_of_getElem? (i := 236) rfl)) rfl
theorem tw_4_237 : Cond.code yX9_isLifeTable cX9_isLifeTable 4 (some .boolean) ∈ jT := jT_in (in_t4 (List.mem_of_getElem? (i := 237) rfl)) rfl
theorem tw_4_238 : Cond.methodLink RX11 240 yX9_ageOfMostDeaths ∈ jT := jT_in (in_t4 (List.mem_of_getElem? (i := 238) rfl)) rfl
theorem tw_4_239 : Cond.instanceMethod yX9_ageOfMostDeaths ∈ jT := jT_in (in_t4 (List.mem_of_getElem? (i := 239) rfl)) rfl
theorem tw_5_0 : Cond.selects RX9 yX9_ageOfMostDeaths yX9_ageOfMostDeaths ∈ jT := jT_in (in_t5 (List.mem_of_getElem? (i := 0) rfl)) rfl
theorem tw_5_1 : Cond.code yX9_ageOfMostDeaths cX9_ageOfMostDeaths 7 (some .int) ∈ jT := jT_in (in_t5 (List.mem_of_getElem? (i := 1) rfl)) rfl
theorem tw_5_2 : Cond.methodLink RX11 243 yX9_expected ∈ jT := jT_in (in_t5 (List.mem_of_getElem? (i := 2) rfl)) rfl
theorem tw_5_3 : Cond.instanceMethod yX9_expected ∈ jT := jT_in (in_t5 (List.mem_of_getElem? (i := 3) rfl)) rfl
theorem tw_5_4 : Cond.selects RX9 yX9_expected yX9_expected ∈ jT := jT_in (in_t5 (List.mem_of_getElem? (i := 4) rfl)) rfl
theorem tw_5_5 : Cond.code yX9_expected cX9_expected 7 (some .int) ∈ jT := jT_in (in_t5 (List.mem_of_getElem? (i := 5) rfl)) rfl
theorem tw_5_6 : Cond.methodLink RX9 44 yX9_commonDivisor ∈ jT := jT_in (in_t5 (List.mem_of_getElem? (i := 6) rfl)) rfl
theorem tw_5_7 : Cond.static yX9_commonDivisor ∈ jT := jT_in (in_t5 (List.mem_of_getElem? (i := 7) rfl)) rfl
theorem tw_5_8 : Cond.code yX9_commonDivisor cX9_commonDivisor 6 (some .int) ∈ jT := jT_in (in_t5 (List.mem_of_getElem? (i := 8) rfl)) rfl
theorem tw_5_9 : Cond.methodLink RL 111 yX11_atOnce ∈ jT := jT_in (in_t5 (List.mem_of_getElem? (i := 9) rfl)) rfl
theorem tw_5_10 : Cond.instanceMethod yX11_atOnce ∈ jT := jT_in (in_t5 (List.mem_of_getElem? (i := 10) rfl)) rfl
theorem tw_5_11 : Cond.selects RX11 yX11_atOnce yX11_atOnce ∈ jT := jT_in (in_t5 (List.mem_of_getElem? (i := 11) rfl)) rfl
theorem tw_5_12 : Cond.code yX11_atOnce cX11_atOnce 4 (some .int) ∈ jT := jT_in (in_t5 (List.mem_of_getElem? (i := 12) rfl)) rfl
theorem tw_5_13 : Cond.constant RX11 247 (65535) ∈ jT := jT_in (in_t5 (List.mem_of_getElem? (i := 13) rfl)) rfl
theorem tw_5_14 : Cond.methodLink RX11 248 yX10_byteAt ∈ jT := jT_in (in_t5 (List.mem_of_getElem? (i := 14) rfl)) rfl
theorem tw_5_15 : Cond.methodLink RX11 251 yX9_firstTogether ∈ jT := jT_in (in_t5 (List.mem_of_getElem? (i := 15) rfl)) rfl
theorem tw_5_16 : Cond.instanceMethod yX9_firstTogether ∈ jT := jT_in (in_t5 (List.mem_of_getElem? (i := 16) rfl)) rfl
theorem tw_5_17 : Cond.selects RX9 yX9_firstTogether yX9_firstTogether ∈ jT := jT_in (in_t5 (List.mem_of_getElem? (i := 17) rfl)) rfl
theorem tw_5_18 : Cond.code yX9_firstTogether cX9_firstTogether 6 (some .int) ∈ jT := jT_in (in_t5 (List.mem_of_getElem? (i := 18) rfl)) rfl
theorem tw_5_19 : Cond.methodLink RX11 255 yX9_timesTogether ∈ jT := jT_in (in_t5 (List.mem_of_getElem? (i := 19) rfl)) rfl
theorem tw_5_20 : Cond.instanceMethod yX9_timesTogether ∈ jT := jT_in (in_t5 (List.mem_of_getElem? (i := 20) rfl)) rfl
theorem tw_5_21 : Cond.selects RX9 yX9_timesTogether yX9_timesTogether ∈ jT := jT_in (in_t5 (List.mem_of_getElem? (i := 21) rfl)) rfl
theorem tw_5_22 : Cond.code yX9_timesTogether cX9_timesTogether 5 (some .int) ∈ jT := jT_in (in_t5 (List.mem_of_getElem? (i := 22) rfl)) rfl
theorem tw_5_23 : Cond.methodLink RL 115 yX11_pulse ∈ jT := jT_in (in_t5 (List.mem_of_getElem? (i := 23) rfl)) rfl
theorem tw_5_24 : Cond.instanceMethod yX11_pulse ∈ jT := jT_in (in_t5 (List.mem_of_getElem? (i := 24) rfl)) rfl
theorem tw_5_25 : Cond.selects RX11 yX11_pulse yX11_pulse ∈ jT := jT_in (in_t5 (List.mem_of_getElem? (i := 25) rfl)) rfl
theorem tw_5_26 : Cond.code yX11_pulse cX11_pulse 3 (some .int) ∈ jT := jT_in (in_t5 (List.mem_of_getElem? (i := 26) rfl)) rfl
theorem tw_5_27 : Cond.methodLink RX11 258 yX9_pulseOf ∈ jT := jT_in (in_t5 (List.mem_of_getElem? (i := 27) rfl)) rfl
theorem tw_5_28 : Cond.instanceMethod yX9_pulseOf ∈ jT := jT_in (in_t5 (List.mem_of_getElem? (i := 28) rfl)) rfl
theorem tw_5_29 : Cond.selects RX9 yX9_pulseOf yX9_pulseOf ∈ jT := jT_in (in_t5 (List.mem_of_getElem? (i := 29) rfl)) rfl
theorem tw_5_30 : Cond.code yX9_pulseOf cX9_pulseOf 6 (some .int) ∈ jT := jT_in (in_t5 (List.mem_of_getElem? (i := 30) rfl)) rfl
theorem tw_5_31 : Cond.methodLink RL 119 yX11_stairs ∈ jT := jT_in (in_t5 (List.mem_of_getElem? (i := 31) rfl)) rfl
theorem tw_5_32 : Cond.instanceMethod yX11_stairs ∈ jT := jT_in (in_t5 (List.mem_of_getElem? (i := 32) rfl)) rfl
theorem tw_5_33 : Cond.selects RX11 yX11_stairs yX11_stairs ∈ jT := jT_in (in_t5 (List.mem_of_getElem? (i := 33) rfl)) rfl
theorem tw_5_34 : Cond.code yX11_stairs cX11_stairs 3 (some .int) ∈ jT := jT_in (in_t5 (List.mem_of_getElem? (i := 34) rfl)) rfl
theorem tw_5_35 : Cond.methodLink RX11 261 yX9_climb ∈ jT := jT_in (in_t5 (List.mem_of_getElem? (i := 35) rfl)) rfl
theorem tw_5_36 : Cond.instanceMethod yX9_climb ∈ jT := jT_in (in_t5 (List.mem_of_getElem? (i := 36) rfl)) rfl
theorem tw_5_37 : Cond.selects RX9 yX9_climb yX9_climb ∈ jT := jT_in (in_t5 (List.mem_of_getElem? (i := 37) rfl)) rfl
theorem tw_5_38 : Cond.code yX9_climb cX9_climb 7 (some .int) ∈ jT := jT_in (in_t5 (List.mem_of_getElem? (i := 38) rfl)) rfl
theorem tw_5_39 : Cond.constant RX9 47 (1000000) ∈ jT := jT_in (in_t5 (List.mem_of_getElem? (i := 39) rfl)) rfl
theorem tw_5_40 : Cond.methodLink RX9 48 yX9_costOfWay ∈ jT := jT_in (in_t5 (List.mem_of_getElem? (i := 40) rfl)) rfl
theorem tw_5_42 : Cond.instanceMethod yX9_costOfWay ∈ jT := jT_in (in_t5 (List.mem_of_getElem? (i := 42) rfl)) rfl
theorem tw_5_43 : Cond.code yX9_costOfWay cX9_costOfWay 4 (some .int) ∈ jT := jT_in (in_t5 (List.mem_of_getElem? (i := 43) rfl)) rfl
theorem tw_5_44 : Cond.methodLink RL 123 yX11_bells ∈ jT := jT_in (in_t5 (List.mem_of_getElem? (i := 44) rfl)) rfl
theorem tw_5_45 : Cond.instanceMethod yX11_bells ∈ jT := jT_in (in_t5 (List.mem_of_getElem? (i := 45) rfl)) rfl
theorem tw_5_46 : Cond.selects RX11 yX11_bells yX11_bells ∈ jT := jT_in (in_t5 (List.mem_of_getElem? (i := 46) rfl)) rfl
theorem tw_5_47 : Cond.code yX11_bells cX11_bells 3 (some .int) ∈ jT := jT_in (in_t5 (List.mem_of_getElem? (i := 47) rfl)) rfl
theorem tw_5_48 : Cond.methodLink RX11 264 yX9_areBells ∈ jT := jT_in (in_t5 (List.mem_of_getElem? (i := 48) rfl)) rfl
theorem tw_5_49 : Cond.instanceMethod yX9_areBells ∈ jT := jT_in (in_t5 (List.mem_of_getElem? (i := 49) rfl)) rfl
theorem tw_5_50 : Cond.selects RX9 yX9_areBells yX9_areBells ∈ jT := jT_in (in_t5 (List.mem_of_getElem? (i := 50) rfl)) rfl
theorem tw_5_51 : Cond.code yX9_areBells cX9_areBells 5 (some .boolean) ∈ jT := jT_in (in_t5 (List.mem_of_getElem? (i := 51) rfl)) rfl
theorem tw_5_52 : Cond.methodLink RX11 267 yX9_fewestBlows ∈ jT := jT_in (in_t5 (List.mem_of_getElem? (i := 52) rfl)) rfl
theorem tw_5_53 : Cond.instanceMethod yX9_fewestBlows ∈ jT := jT_in (in_t5 (List.mem_of_getElem? (i := 53) rfl)) rfl
theorem tw_5_54 : Cond.selects RX9 yX9_fewestBlows yX9_fewestBlows ∈ jT := jT_in (in_t5 (List.mem_of_getElem? (i := 54) rfl)) rfl
theorem tw_5_55 : Cond.code yX9_fewestBlows cX9_fewestBlows 7 (some .int) ∈ jT := jT_in (in_t5 (List.mem_of_getElem? (i := 55) rfl)) rfl
theorem tw_5_56 : Cond.methodLink RX9 51 Lib.Math.min.name ∈ jT := jT_in (in_t5 (List.mem_of_getElem? (i := 56) rfl)) rfl
theorem tw_5_57 : Cond.methodLink RL 127 yX11_seed ∈ jT := jT_in (in_t5 (List.mem_of_getElem? (i := 57) rfl)) rfl
theorem tw_5_58 : Cond.instanceMethod yX11_seed ∈ jT := jT_in (in_t5 (List.mem_of_getElem? (i := 58) rfl)) rfl
theorem tw_5_59 : Cond.selects RX11 yX11_seed yX11_seed ∈ jT := jT_in (in_t5 (List.mem_of_getElem? (i := 59) rfl)) rfl
theorem tw_5_60 : Cond.code yX11_seed cX11_seed 2 (some .boolean) ∈ jT := jT_in (in_t5 (List.mem_of_getElem? (i := 60) rfl)) rfl
theorem tw_5_61 : Cond.methodLink RL 132 yX11_keep ∈ jT := jT_in (in_t5 (List.mem_of_getElem? (i := 61) rfl)) rfl
theorem tw_5_62 : Cond.instanceMethod yX11_keep ∈ jT := jT_in (in_t5 (List.mem_of_getElem? (i := 62) rfl)) rfl
theorem tw_5_63 : Cond.selects RX11 yX11_keep yX11_keep ∈ jT := jT_in (in_t5 (List.mem_of_getElem? (i := 63) rfl)) rfl
theorem tw_5_64 : Cond.code yX11_keep cX11_keep 1 (some .int) ∈ jT := jT_in (in_t5 (List.mem_of_getElem? (i := 64) rfl)) rfl
theorem tw_5_65 : Cond.methodLink RL 136 yX11_undo ∈ jT := jT_in (in_t5 (List.mem_of_getElem? (i := 65) rfl)) rfl
theorem tw_5_66 : Cond.instanceMethod yX11_undo ∈ jT := jT_in (in_t5 (List.mem_of_getElem? (i := 66) rfl)) rfl
theorem tw_5_67 : Cond.selects RX11 yX11_undo yX11_undo ∈ jT := jT_in (in_t5 (List.mem_of_getElem? (i := 67) rfl)) rfl
theorem tw_5_68 : Cond.code yX11_undo cX11_undo 1 (some .boolean) ∈ jT := jT_in (in_t5 (List.mem_of_getElem? (i := 68) rfl)) rfl
theorem tw_5_69 : Cond.methodLink RL 141 yX11_check ∈ jT := jT_in (in_t5 (List.mem_of_getElem? (i := 69) rfl)) rfl
theorem tw_5_70 : Cond.instanceMethod yX11_check ∈ jT := jT_in (in_t5 (List.mem_of_getElem? (i := 70) rfl)) rfl
theorem tw_5_71 : Cond.selects RX11 yX11_check yX11_check ∈ jT := jT_in (in_t5 (List.mem_of_getElem? (i := 71) rfl)) rfl
theorem tw_5_72 : Cond.code yX11_check cX11_check 4 (some .int) ∈ jT := jT_in (in_t5 (List.mem_of_getElem? (i := 72) rfl)) rfl
theorem tw_5_73 : Cond.methodLink RL 145 yX11_count ∈ jT := jT_in (in_t5 (List.mem_of_getElem? (i := 73) rfl)) rfl
theorem tw_5_74 : Cond.instanceMethod yX11_count ∈ jT := jT_in (in_t5 (List.mem_of_getElem? (i := 74) rfl)) rfl
theorem tw_5_75 : Cond.selects RX11 yX11_count yX11_count ∈ jT := jT_in (in_t5 (List.mem_of_getElem? (i := 75) rfl)) rfl
theorem tw_5_76 : Cond.code yX11_count cX11_count 2 (some .int) ∈ jT := jT_in (in_t5 (List.mem_of_getElem? (i := 76) rfl)) rfl
theorem tw_5_77 : Cond.methodLink RX11 276 yX0_richest ∈ jT := jT_in (in_t5 (List.mem_of_getElem? (i := 77) rfl)) rfl
theorem tw_5_78 : Cond.instanceMethod yX0_richest ∈ jT := jT_in (in_t5 (List.mem_of_getElem? (i := 78) rfl)) rfl
theorem tw_5_79 : Cond.selects RX0 yX0_richest yX0_richest ∈ jT := jT_in (in_t5 (List.mem_of_getElem? (i := 79) rfl)) rfl
theorem tw_5_80 : Cond.code yX0_richest cX0_richest 4 (some .int) ∈ jT := jT_in (in_t5 (List.mem_of_getElem? (i := 80) rfl)) rfl
theorem tw_5_81 : Cond.methodLink RX0 51 yX0_isTold ∈ jT := jT_in (in_t5 (List.mem_of_getElem? (i := 81) rfl)) rfl
theorem tw_5_82 : Cond.classLink RL 10 RX12 ∈ jT := jT_in (in_t5 (List.mem_of_getElem? (i := 82) rfl)) rfl
theorem tw_5_83 : Cond.instantiable RX12 51 ∈ jT := jT_in (in_t5 (List.mem_of_getElem? (i := 83) rfl)) rfl
theorem tw_5_84 : Cond.methodLink RL 12 yX12_init ∈ jT := jT_in (in_t5 (List.mem_of_getElem? (i := 84) rfl)) rfl
theorem tw_5_85 : Cond.instanceMethod yX12_init ∈ jT := jT_in (in_t5 (List.mem_of_getElem? (i := 85) rfl)) rfl
theorem tw_5_86 : Cond.code yX12_init cX12_init 1 none ∈ jT := jT_in (in_t5 (List.mem_of_getElem? (i := 86) rfl)) rfl
theorem tw_5_87 : Cond.methodLink RX12 1 objectInit ∈ jT := jT_in (in_t5 (List.mem_of_getElem? (i := 87) rfl)) rfl
theorem tw_5_88 : Cond.fieldLink RX12 7 "StruckBeatsModel" "now" "[I" ∈ jT := jT_in (in_t5 (List.mem_of_getElem? (i := 88) rfl)) rfl
theorem tw_5_89 : Cond.fieldLink RX12 13 "StruckBeatsModel" "aside" "[I" ∈ jT := jT_in (in_t5 (List.mem_of_getElem? (i := 89) rfl)) rfl
theorem tw_5_90 : Cond.fieldLink RX12 16 "StruckBeatsModel" "kept" "[I" ∈ jT := jT_in (in_t5 (List.mem_of_getElem? (i := 90) rfl)) rfl
theorem tw_5_91 : Cond.fieldLink RX12 19 "StruckBeatsModel" "doesAt" "[I" ∈ jT := jT_in (in_t5 (List.mem_of_getElem? (i := 91) rfl)) rfl
theorem tw_5_92 : Cond.fieldLink RX12 22 "StruckBeatsModel" "hourMany" "[I" ∈ jT := jT_in (in_t5 (List.mem_of_getElem? (i := 92) rfl)) rfl
theorem tw_5_93 : Cond.fieldLink RX12 25 "StruckBeatsModel" "tape" "[B" ∈ jT := jT_in (in_t5 (List.mem_of_getElem? (i := 93) rfl)) rfl
theorem tw_5_94 : Cond.fieldLink RX12 120 "StruckBeatsModel" "taped" "I" ∈ jT := jT_in (in_t5 (List.mem_of_getElem? (i := 94) rfl)) rfl
theorem tw_5_95 : Cond.fieldLink RX12 128 "StruckBeatsModel" "place0" "I" ∈ jT := jT_in (in_t5 (List.mem_of_getElem? (i := 95) rfl)) rfl
theorem tw_5_96 : Cond.fieldLink RX12 131 "StruckBeatsModel" "length0" "I" ∈ jT := jT_in (in_t5 (List.mem_of_getElem? (i := 96) rfl)) rfl
theorem tw_5_97 : Cond.fieldLink RX12 138 "StruckBeatsModel" "fault" "I" ∈ jT := jT_in (in_t5 (List.mem_of_getElem? (i := 97) rfl)) rfl
theorem tw_5_98 : Cond.fieldLink RX12 145 "StruckBeatsModel" "number0" "I" ∈ jT := jT_in (in_t5 (List.mem_of_getElem? (i := 98) rfl)) rfl
theorem tw_5_99 : Cond.fieldLink RX12 156 "StruckBeatsModel" "open" "I" ∈ jT := jT_in (in_t5 (List.mem_of_getElem? (i := 99) rfl)) rfl
theorem tw_5_100 : Cond.fieldLink RX12 152 "StruckBeatsModel" "codeMany" "I" ∈ jT := jT_in (in_t5 (List.mem_of_getElem? (i := 100) rfl)) rfl
theorem tw_5_101 : Cond.fieldLink RX12 159 "StruckBeatsModel" "waiting" "I" ∈ jT := jT_in (in_t5 (List.mem_of_getElem? (i := 101) rfl)) rfl
theorem tw_5_102 : Cond.fieldLink RX12 207 "StruckBeatsModel" "saidMany" "I" ∈ jT := jT_in (in_t5 (List.mem_of_getElem? (i := 102) rfl)) rfl
theorem tw_5_103 : Cond.fieldLink RX12 222 "StruckBeatsModel" "clauses" "I" ∈ jT := jT_in (in_t5 (List.mem_of_getElem? (i := 103) rfl)) rfl
theorem tw_5_104 : Cond.fieldLink RX12 29 "StruckBeatsModel" "said" "[I" ∈ jT := jT_in (in_t5 (List.mem_of_getElem? (i := 104) rfl)) rfl
theorem tw_5_105 : Cond.fieldLink RX12 32 "StruckBeatsModel" "waitsAt" "[I" ∈ jT := jT_in (in_t5 (List.mem_of_getElem? (i := 105) rfl)) rfl
theorem tw_5_106 : Cond.fieldLink RX12 35 "StruckBeatsModel" "saidLetter" "[I" ∈ jT := jT_in (in_t5 (List.mem_of_getElem? (i := 106) rfl)) rfl
theorem tw_5_107 : Cond.fieldLink RX12 38 "StruckBeatsModel" "saidFrom" "[I" ∈ jT := jT_in (in_t5 (List.mem_of_getElem? (i := 107) rfl)) rfl
theorem tw_5_108 : Cond.fieldLink RX12 41 "StruckBeatsModel" "saidHalf" "[I" ∈ jT := jT_in (in_t5 (List.mem_of_getElem? (i := 108) rfl)) rfl
theorem tw_5_109 : Cond.fieldLink RX12 44 "StruckBeatsModel" "saidTo" "[I" ∈ jT := jT_in (in_t5 (List.mem_of_getElem? (i := 109) rfl)) rfl
theorem tw_5_110 : Cond.fieldLink RX12 47 "StruckBeatsModel" "codes" "[I" ∈ jT := jT_in (in_t5 (List.mem_of_getElem? (i := 110) rfl)) rfl
theorem tw_5_111 : Cond.fieldLink RX12 50 "StruckBeatsModel" "clauseOf" "[I" ∈ jT := jT_in (in_t5 (List.mem_of_getElem? (i := 111) rfl)) rfl
theorem tw_5_112 : Cond.fieldLink RX12 53 "StruckBeatsModel" "codeFrom" "[I" ∈ jT := jT_in (in_t5 (List.mem_of_getElem? (i := 112) rfl)) rfl
theorem tw_5_113 : Cond.fieldLink RX12 56 "StruckBeatsModel" "codeHalf" "[I" ∈ jT := jT_in (in_t5 (List.mem_of_getElem? (i := 113) rfl)) rfl
theorem tw_5_114 : Cond.fieldLink RX12 59 "StruckBeatsModel" "codeTo" "[I" ∈ jT := jT_in (in_t5 (List.mem_of_getElem? (i := 114) rfl)) rfl
theorem tw_5_115 : Cond.fieldLink RX12 62 "StruckBeatsModel" "stack" "[I" ∈ jT := jT_in (in_t5 (List.mem_of_getElem? (i := 115) rfl)) rfl
theorem tw_5_116 : Cond.fieldLink RX12 65 "StruckBeatsModel" "facts" "[I" ∈ jT := jT_in (in_t5 (List.mem_of_getElem? (i := 116) rfl)) rfl
theorem tw_5_117 : Cond.fieldLink RX12 68 "StruckBeatsModel" "newHours" "[I" ∈ jT := jT_in (in_t5 (List.mem_of_getElem? (i := 117) rfl)) rfl
theorem tw_5_118 : Cond.fieldLink RX12 71 "StruckBeatsModel" "roundFrom" "[I" ∈ jT := jT_in (in_t5 (List.mem_of_getElem? (i := 118) rfl)) rfl
theorem tw_5_119 : Cond.fieldLink RX12 74 "StruckBeatsModel" "roundAt" "[I" ∈ jT := jT_in (in_t5 (List.mem_of_getElem? (i := 119) rfl)) rfl
theorem tw_5_120 : Cond.fieldLink RX12 77 "StruckBeatsModel" "roundTimes" "[I" ∈ jT := jT_in (in_t5 (List.mem_of_getElem? (i := 120) rfl)) rfl
theorem tw_5_121 : Cond.fieldLink RX12 239 "StruckBeatsModel" "newMany" "I" ∈ jT := jT_in (in_t5 (List.mem_of_getElem? (i := 121) rfl)) rfl
theorem tw_5_122 : Cond.fieldLink RX12 245 "StruckBeatsModel" "rounds" "I" ∈ jT := jT_in (in_t5 (List.mem_of_getElem? (i := 122) rfl)) rfl
theorem tw_5_123 : Cond.fieldLink RX12 233 "StruckBeatsModel" "itFrom" "I" ∈ jT := jT_in (in_t5 (List.mem_of_getElem? (i := 123) rfl)) rfl
theorem tw_5_124 : Cond.fieldLink RX12 236 "StruckBeatsModel" "itTimes" "I" ∈ jT := jT_in (in_t5 (List.mem_of_getElem? (i := 124) rfl)) rfl
theorem tw_5_125 : Cond.fieldLink RX12 80 "StruckBeatsModel" "newLoans" "[I" ∈ jT := jT_in (in_t5 (List.mem_of_getElem? (i := 125) rfl)) rfl
theorem tw_5_126 : Cond.fieldLink RX12 263 "StruckBeatsModel" "loansSaid" "I" ∈ jT := jT_in (in_t5 (List.mem_of_getElem? (i := 126) rfl)) rfl
theorem tw_5_127 : Cond.fieldLink RX12 285 "StruckBeatsModel" "diedNow" "I" ∈ jT := jT_in (in_t5 (List.mem_of_getElem? (i := 127) rfl)) rfl
theorem tw_5_128 : Cond.fieldLink RX12 83 "StruckBeatsModel" "ringAt" "[I" ∈ jT := jT_in (in_t5 (List.mem_of_getElem? (i := 128) rfl)) rfl
theorem tw_5_129 : Cond.fieldLink RX12 86 "StruckBeatsModel" "loanAt" "[I" ∈ jT := jT_in (in_t5 (List.mem_of_getElem? (i := 129) rfl)) rfl
theorem tw_5_130 : Cond.fieldLink RX12 369 "StruckBeatsModel" "ringLeast" "I" ∈ jT := jT_in (in_t5 (List.mem_of_getElem? (i := 130) rfl)) rfl
theorem tw_5_131 : Cond.fieldLink RX12 372 "StruckBeatsModel" "ringWho" "I" ∈ jT := jT_in (in_t5 (List.mem_of_getElem? (i := 131) rfl)) rfl
theorem tw_5_132 : Cond.fieldLink RX12 89 "StruckBeatsModel" "groupsOf" "[I" ∈ jT := jT_in (in_t5 (List.mem_of_getElem? (i := 132) rfl)) rfl
theorem tw_5_133 : Cond.fieldLink RX12 92 "StruckBeatsModel" "hoursOf" "[I" ∈ jT := jT_in (in_t5 (List.mem_of_getElem? (i := 133) rfl)) rfl
theorem tw_5_134 : Cond.fieldLink RX12 95 "StruckBeatsModel" "hoursBest" "[I" ∈ jT := jT_in (in_t5 (List.mem_of_getElem? (i := 134) rfl)) rfl
theorem tw_5_135 : Cond.fieldLink RX12 98 "StruckBeatsModel" "costTo" "[I" ∈ jT := jT_in (in_t5 (List.mem_of_getElem? (i := 135) rfl)) rfl
theorem tw_5_136 : Cond.fieldLink RX12 101 "StruckBeatsModel" "waysTo" "[I" ∈ jT := jT_in (in_t5 (List.mem_of_getElem? (i := 136) rfl)) rfl
theorem tw_5_137 : Cond.fieldLink RX12 104 "StruckBeatsModel" "blowsFor" "[I" ∈ jT := jT_in (in_t5 (List.mem_of_getElem? (i := 137) rfl)) rfl
theorem tw_5_138 : Cond.fieldLink RX12 416 "StruckBeatsModel" "isKept" "Z" ∈ jT := jT_in (in_t5 (List.mem_of_getElem? (i := 138) rfl)) rfl
theorem tw_6_2 : Cond.methodLink RL 17 yX12_person ∈ jT := jT_in (in_t6 (List.mem_of_getElem? (i := 2) rfl)) rfl
theorem tw_6_3 : Cond.instanceMethod yX12_person ∈ jT := jT_in (in_t6 (List.mem_of_getElem? (i := 3) rfl)) rfl
theorem tw_6_4 : Cond.selects RX12 yX12_person yX12_person ∈ jT := jT_in (in_t6 (List.mem_of_getElem? (i := 4) rfl)) rfl
theorem tw_6_5 : Cond.code yX12_person cX12_person 4 (some .boolean) ∈ jT := jT_in (in_t6 (List.mem_of_getElem? (i := 5) rfl)) rfl
theorem tw_6_6 : Cond.methodLink RX12 107 yX12_in ∈ jT := jT_in (in_t6 (List.mem_of_getElem? (i := 6) rfl)) rfl
theorem tw_6_7 : Cond.static yX12_in ∈ jT := jT_in (in_t6 (List.mem_of_getElem? (i := 7) rfl)) rfl
theorem tw_6_8 : Cond.code yX12_in cX12_in 3 (some .boolean) ∈ jT := jT_in (in_t6 (List.mem_of_getElem? (i := 8) rfl)) rfl
theorem tw_6_9 : Cond.constant RX12 118 (999999999) ∈ jT := jT_in (in_t6 (List.mem_of_getElem? (i := 9) rfl)) rfl
theorem tw_6_10 : Cond.constant RX12 119 (99999) ∈ jT := jT_in (in_t6 (List.mem_of_getElem? (i := 10) rfl)) rfl
theorem tw_6_11 : Cond.methodLink RL 22 yX12_feed ∈ jT := jT_in (in_t6 (List.mem_of_getElem? (i := 11) rfl)) rfl
theorem tw_6_12 : Cond.instanceMethod yX12_feed ∈ jT := jT_in (in_t6 (List.mem_of_getElem? (i := 12) rfl)) rfl
theorem tw_6_13 : Cond.selects RX12 yX12_feed yX12_feed ∈ jT := jT_in (in_t6 (List.mem_of_getElem? (i := 13) rfl)) rfl
theorem tw_6_14 : Cond.code yX12_feed cX12_feed 6 (some .int) ∈ jT := jT_in (in_t6 (List.mem_of_getElem? (i := 14) rfl)) rfl
theorem tw_6_15 : Cond.methodLink RX12 124 yX12_types ∈ jT := jT_in (in_t6 (List.mem_of_getElem? (i := 15) rfl)) rfl
theorem tw_6_17 : Cond.instanceMethod yX12_types ∈ jT := jT_in (in_t6 (List.mem_of_getElem? (i := 17) rfl)) rfl
theorem tw_6_18 : Cond.code yX12_types cX12_types 3 none ∈ jT := jT_in (in_t6 (List.mem_of_getElem? (i := 18) rfl)) rfl
theorem tw_6_19 : Cond.methodLink RL 27 yX12_law ∈ jT := jT_in (in_t6 (List.mem_of_getElem? (i := 19) rfl)) rfl
theorem tw_6_20 : Cond.instanceMethod yX12_law ∈ jT := jT_in (in_t6 (List.mem_of_getElem? (i := 20) rfl)) rfl
theorem tw_6_21 : Cond.selects RX12 yX12_law yX12_law ∈ jT := jT_in (in_t6 (List.mem_of_getElem? (i := 21) rfl)) rfl
theorem tw_6_22 : Cond.code yX12_law cX12_law 4 (some .int) ∈ jT := jT_in (in_t6 (List.mem_of_getElem? (i := 22) rfl)) rfl
theorem tw_6_23 : Cond.methodLink RX12 213 yX12_beginsText ∈ jT := jT_in (in_t6 (List.mem_of_getElem? (i := 23) rfl)) rfl
theorem tw_6_25 : Cond.instanceMethod yX12_beginsText ∈ jT := jT_in (in_t6 (List.mem_of_getElem? (i := 25) rfl)) rfl
theorem tw_6_26 : Cond.code yX12_beginsText cX12_beginsText 2 none ∈ jT := jT_in (in_t6 (List.mem_of_getElem? (i := 26) rfl)) rfl
theorem tw_6_27 : Cond.methodLink RX12 216 yX12_readsRule ∈ jT := jT_in (in_t6 (List.mem_of_getElem? (i := 27) rfl)) rfl
theorem tw_6_29 : Cond.instanceMethod yX12_readsRule ∈ jT := jT_in (in_t6 (List.mem_of_getElem? (i := 29) rfl)) rfl
theorem tw_6_30 : Cond.code yX12_readsRule cX12_readsRule 2 (some .boolean) ∈ jT := jT_in (in_t6 (List.mem_of_getElem? (i := 30) rfl)) rfl
theorem tw_6_31 : Cond.methodLink RX12 134 yX12_here ∈ jT := jT_in (in_t6 (List.mem_of_getElem? (i := 31) rfl)) rfl
theorem tw_6_33 : Cond.instanceMethod yX12_here ∈ jT := jT_in (in_t6 (List.mem_of_getElem? (i := 33) rfl)) rfl
theorem tw_6_34 : Cond.code yX12_here cX12_here 1 (some .int) ∈ jT := jT_in (in_t6 (List.mem_of_getElem? (i := 34) rfl)) rfl
theorem tw_6_35 : Cond.methodLink RX12 141 yX12_wrongAt ∈ jT := jT_in (in_t6 (List.mem_of_getElem? (i := 35) rfl)) rfl
theorem tw_6_37 : Cond.instanceMethod yX12_wrongAt ∈ jT := jT_in (in_t6 (List.mem_of_getElem? (i := 37) rfl)) rfl
theorem tw_6_38 : Cond.code yX12_wrongAt cX12_wrongAt 3 (some .boolean) ∈ jT := jT_in (in_t6 (List.mem_of_getElem? (i := 38) rfl)) rfl
theorem tw_6_39 : Cond.methodLink RX12 192 yX12_readsSum ∈ jT := jT_in (in_t6 (List.mem_of_getElem? (i := 39) rfl)) rfl
theorem tw_6_41 : Cond.instanceMethod yX12_readsSum ∈ jT := jT_in (in_t6 (List.mem_of_getElem? (i := 41) rfl)) rfl
theorem tw_6_42 : Cond.code yX12_readsSum cX12_readsSum 3 (some .boolean) ∈ jT := jT_in (in_t6 (List.mem_of_getElem? (i := 42) rfl)) rfl
theorem tw_6_43 : Cond.methodLink RX12 179 yX12_readsFactor ∈ jT := jT_in (in_t6 (List.mem_of_getElem? (i := 43) rfl)) rfl
theorem tw_6_45 : Cond.instanceMethod yX12_readsFactor ∈ jT := jT_in (in_t6 (List.mem_of_getElem? (i := 45) rfl)) rfl
theorem tw_6_46 : Cond.code yX12_readsFactor cX12_readsFactor 2 (some .boolean) ∈ jT := jT_in (in_t6 (List.mem_of_getElem? (i := 46) rfl)) rfl
theorem tw_6_47 : Cond.methodLink RX12 169 yX12_opens ∈ jT := jT_in (in_t6 (List.mem_of_getElem? (i := 47) rfl)) rfl
theorem tw_6_49 : Cond.instanceMethod yX12_opens ∈ jT := jT_in (in_t6 (List.mem_of_getElem? (i := 49) rfl)) rfl
theorem tw_6_50 : Cond.code yX12_opens cX12_opens 2 (some .boolean) ∈ jT := jT_in (in_t6 (List.mem_of_getElem? (i := 50) rfl)) rfl
theorem tw_6_51 : Cond.constant RX12 155 (1048576) ∈ jT := jT_in (in_t6 (List.mem_of_getElem? (i := 51) rfl)) rfl
theorem tw_6_52 : Cond.methodLink RX12 148 yX12_isDigit ∈ jT := jT_in (in_t6 (List.mem_of_getElem? (i := 52) rfl)) rfl
theorem tw_6_54 : Cond.instanceMethod yX12_isDigit ∈ jT := jT_in (in_t6 (List.mem_of_getElem? (i := 54) rfl)) rfl
theorem tw_6_55 : Cond.code yX12_isDigit cX12_isDigit 1 (some .boolean) ∈ jT := jT_in (in_t6 (List.mem_of_getElem? (i := 55) rfl)) rfl
theorem tw_6_56 : Cond.methodLink RX12 172 yX12_readsNumber ∈ jT := jT_in (in_t6 (List.mem_of_getElem? (i := 56) rfl)) rfl
theorem tw_6_58 : Cond.instanceMethod yX12_readsNumber ∈ jT := jT_in (in_t6 (List.mem_of_getElem? (i := 58) rfl)) rfl
theorem tw_6_59 : Cond.code yX12_readsNumber cX12_readsNumber 2 (some .boolean) ∈ jT := jT_in (in_t6 (List.mem_of_getElem? (i := 59) rfl)) rfl
theorem tw_6_60 : Cond.methodLink RX12 165 yX12_notes ∈ jT := jT_in (in_t6 (List.mem_of_getElem? (i := 60) rfl)) rfl
theorem tw_6_62 : Cond.instanceMethod yX12_notes ∈ jT := jT_in (in_t6 (List.mem_of_getElem? (i := 62) rfl)) rfl
theorem tw_6_63 : Cond.code yX12_notes cX12_notes 3 none ∈ jT := jT_in (in_t6 (List.mem_of_getElem? (i := 63) rfl)) rfl
theorem tw_6_64 : Cond.methodLink RX12 175 yX12_factOf ∈ jT := jT_in (in_t6 (List.mem_of_getElem? (i := 64) rfl)) rfl
theorem tw_6_65 : Cond.static yX12_factOf ∈ jT := jT_in (in_t6 (List.mem_of_getElem? (i := 65) rfl)) rfl
theorem tw_6_66 : Cond.code yX12_factOf cX12_factOf 1 (some .int) ∈ jT := jT_in (in_t6 (List.mem_of_getElem? (i := 66) rfl)) rfl
theorem tw_6_67 : Cond.methodLink RX12 182 yX12_sumSign ∈ jT := jT_in (in_t6 (List.mem_of_getElem? (i := 67) rfl)) rfl
theorem tw_6_68 : Cond.static yX12_sumSign ∈ jT := jT_in (in_t6 (List.mem_of_getElem? (i := 68) rfl)) rfl
theorem tw_6_69 : Cond.code yX12_sumSign cX12_sumSign 1 (some .int) ∈ jT := jT_in (in_t6 (List.mem_of_getElem? (i := 69) rfl)) rfl
theorem tw_6_70 : Cond.methodLink RX12 185 yX12_closesSums ∈ jT := jT_in (in_t6 (List.mem_of_getElem? (i := 70) rfl)) rfl
theorem tw_6_72 : Cond.instanceMethod yX12_closesSums ∈ jT := jT_in (in_t6 (List.mem_of_getElem? (i := 72) rfl)) rfl
theorem tw_6_73 : Cond.code yX12_closesSums cX12_closesSums 2 none ∈ jT := jT_in (in_t6 (List.mem_of_getElem? (i := 73) rfl)) rfl
theorem tw_6_74 : Cond.methodLink RX12 162 yX12_waitTop ∈ jT := jT_in (in_t6 (List.mem_of_getElem? (i := 74) rfl)) rfl
theorem tw_6_76 : Cond.instanceMethod yX12_waitTop ∈ jT := jT_in (in_t6 (List.mem_of_getElem? (i := 76) rfl)) rfl
theorem tw_6_77 : Cond.code yX12_waitTop cX12_waitTop 1 (some .int) ∈ jT := jT_in (in_t6 (List.mem_of_getElem? (i := 77) rfl)) rfl
theorem tw_6_78 : Cond.methodLink RX12 189 yX12_hasOpenSum ∈ jT := jT_in (in_t6 (List.mem_of_getElem? (i := 78) rfl)) rfl
theorem tw_6_80 : Cond.instanceMethod yX12_hasOpenSum ∈ jT := jT_in (in_t6 (List.mem_of_getElem? (i := 80) rfl)) rfl
theorem tw_6_81 : Cond.code yX12_hasOpenSum cX12_hasOpenSum 3 (some .boolean) ∈ jT := jT_in (in_t6 (List.mem_of_getElem? (i := 81) rfl)) rfl
theorem tw_6_82 : Cond.methodLink RX12 210 yX12_readsCondition ∈ jT := jT_in (in_t6 (List.mem_of_getElem? (i := 82) rfl)) rfl
theorem tw_6_84 : Cond.instanceMethod yX12_readsCondition ∈ jT := jT_in (in_t6 (List.mem_of_getElem? (i := 84) rfl)) rfl
theorem tw_6_85 : Cond.code yX12_readsCondition cX12_readsCondition 1 (some .boolean) ∈ jT := jT_in (in_t6 (List.mem_of_getElem? (i := 85) rfl)) rfl
theorem tw_6_86 : Cond.methodLink RX12 198 yX12_readsCompared ∈ jT := jT_in (in_t6 (List.mem_of_getElem? (i := 86) rfl)) rfl
theorem tw_6_88 : Cond.instanceMethod yX12_readsCompared ∈ jT := jT_in (in_t6 (List.mem_of_getElem? (i := 88) rfl)) rfl
theorem tw_6_89 : Cond.code yX12_readsCompared cX12_readsCompared 2 (some .boolean) ∈ jT := jT_in (in_t6 (List.mem_of_getElem? (i := 89) rfl)) rfl
theorem tw_6_90 : Cond.methodLink RX12 195 yX12_endsPiece ∈ jT := jT_in (in_t6 (List.mem_of_getElem? (i := 90) rfl)) rfl
theorem tw_6_92 : Cond.instanceMethod yX12_endsPiece ∈ jT := jT_in (in_t6 (List.mem_of_getElem? (i := 92) rfl)) rfl
theorem tw_6_93 : Cond.code yX12_endsPiece cX12_endsPiece 1 none ∈ jT := jT_in (in_t6 (List.mem_of_getElem? (i := 93) rfl)) rfl
theorem tw_6_94 : Cond.methodLink RX12 201 yX12_lands ∈ jT := jT_in (in_t6 (List.mem_of_getElem? (i := 94) rfl)) rfl
theorem tw_6_96 : Cond.instanceMethod yX12_lands ∈ jT := jT_in (in_t6 (List.mem_of_getElem? (i := 96) rfl)) rfl
theorem tw_6_97 : Cond.code yX12_lands cX12_lands 3 none ∈ jT := jT_in (in_t6 (List.mem_of_getElem? (i := 97) rfl)) rfl
theorem tw_6_98 : Cond.methodLink RX12 204 yX12_jumps ∈ jT := jT_in (in_t6 (List.mem_of_getElem? (i := 98) rfl)) rfl
theorem tw_6_100 : Cond.instanceMethod yX12_jumps ∈ jT := jT_in (in_t6 (List.mem_of_getElem? (i := 100) rfl)) rfl
theorem tw_6_101 : Cond.code yX12_jumps cX12_jumps 2 none ∈ jT := jT_in (in_t6 (List.mem_of_getElem? (i := 101) rfl)) rfl
theorem tw_6_102 : Cond.methodLink RX12 219 yX12_takes ∈ jT := jT_in (in_t6 (List.mem_of_getElem? (i := 102) rfl)) rfl
theorem tw_6_104 : Cond.instanceMethod yX12_takes ∈ jT := jT_in (in_t6 (List.mem_of_getElem? (i := 104) rfl)) rfl
theorem tw_6_105 : Cond.code yX12_takes cX12_takes 2 (some .boolean) ∈ jT := jT_in (in_t6 (List.mem_of_getElem? (i := 105) rfl)) rfl
theorem tw_6_106 : Cond.methodLink RL 32 yX12_routine ∈ jT := jT_in (in_t6 (List.mem_of_getElem? (i := 106) rfl)) rfl
theorem tw_6_107 : Cond.instanceMethod yX12_routine ∈ jT := jT_in (in_t6 (List.mem_of_getElem? (i := 107) rfl)) rfl
theorem tw_6_108 : Cond.selects RX12 yX12_routine yX12_routine ∈ jT := jT_in (in_t6 (List.mem_of_getElem? (i := 108) rfl)) rfl
theorem tw_6_109 : Cond.code yX12_routine cX12_routine 5 (some .int) ∈ jT := jT_in (in_t6 (List.mem_of_getElem? (i := 109) rfl)) rfl
theorem tw_6_110 : Cond.methodLink RX12 254 yX12_readsHour ∈ jT := jT_in (in_t6 (List.mem_of_getElem? (i := 110) rfl)) rfl
theorem tw_6_112 : Cond.instanceMethod yX12_readsHour ∈ jT := jT_in (in_t6 (List.mem_of_getElem? (i := 112) rfl)) rfl
theorem tw_6_113 : Cond.code yX12_readsHour cX12_readsHour 4 (some .boolean) ∈ jT := jT_in (in_t6 (List.mem_of_getElem? (i := 113) rfl)) rfl
theorem tw_6_114 : Cond.methodLink RX12 242 yX12_readsTimes ∈ jT := jT_in (in_t6 (List.mem_of_getElem? (i := 114) rfl)) rfl
theorem tw_6_116 : Cond.instanceMethod yX12_readsTimes ∈ jT := jT_in (in_t6 (List.mem_of_getElem? (i := 116) rfl)) rfl
theorem tw_6_117 : Cond.code yX12_readsTimes cX12_readsTimes 1 none ∈ jT := jT_in (in_t6 (List.mem_of_getElem? (i := 117) rfl)) rfl
theorem tw_6_118 : Cond.methodLink RX12 248 yX12_doingBy ∈ jT := jT_in (in_t6 (List.mem_of_getElem? (i := 118) rfl)) rfl
theorem tw_6_119 : Cond.static yX12_doingBy ∈ jT := jT_in (in_t6 (List.mem_of_getElem? (i := 119) rfl)) rfl
theorem tw_6_120 : Cond.code yX12_doingBy cX12_doingBy 1 (some .int) ∈ jT := jT_in (in_t6 (List.mem_of_getElem? (i := 120) rfl)) rfl
theorem tw_6_121 : Cond.methodLink RX12 251 yX12_repeats ∈ jT := jT_in (in_t6 (List.mem_of_getElem? (i := 121) rfl)) rfl
theorem tw_6_123 : Cond.instanceMethod yX12_repeats ∈ jT := jT_in (in_t6 (List.mem_of_getElem? (i := 123) rfl)) rfl
theorem tw_6_124 : Cond.code yX12_repeats cX12_repeats 6 (some .boolean) ∈ jT := jT_in (in_t6 (List.mem_of_getElem? (i := 124) rfl)) rfl
theorem tw_6_125 : Cond.methodLink RL 36 yX12_ledger ∈ jT := jT_in (in_t6 (List.mem_of_getElem? (i := 125) rfl)) rfl
theorem tw_6_126 : Cond.instanceMethod yX12_ledger ∈ jT := jT_in (in_t6 (List.mem_of_getElem? (i := 126) rfl)) rfl
theorem tw_6_127 : Cond.selects RX12 yX12_ledger yX12_ledger ∈ jT := jT_in (in_t6 (List.mem_of_getElem? (i := 127) rfl)) rfl
theorem tw_6_128 : Cond.code yX12_ledger cX12_ledger 5 (some .int) ∈ jT := jT_in (in_t6 (List.mem_of_getElem? (i := 128) rfl)) rfl
theorem tw_6_129 : Cond.methodLink RX12 269 yX12_readsLoan ∈ jT := jT_in (in_t6 (List.mem_of_getElem? (i := 129) rfl)) rfl
theorem tw_6_131 : Cond.instanceMethod yX12_readsLoan ∈ jT := jT_in (in_t6 (List.mem_of_getElem? (i := 131) rfl)) rfl
theorem tw_6_132 : Cond.code yX12_readsLoan cX12_readsLoan 5 (some .boolean) ∈ jT := jT_in (in_t6 (List.mem_of_getElem? (i := 132) rfl)) rfl
theorem tw_6_133 : Cond.methodLink RX12 260 yX12_isLetter ∈ jT := jT_in (in_t6 (List.mem_of_getElem? (i := 133) rfl)) rfl
theorem tw_6_135 : Cond.instanceMethod yX12_isLetter ∈ jT := jT_in (in_t6 (List.mem_of_getElem? (i := 135) rfl)) rfl
theorem tw_6_136 : Cond.code yX12_isLetter cX12_isLetter 1 (some .boolean) ∈ jT := jT_in (in_t6 (List.mem_of_getElem? (i := 136) rfl)) rfl
theorem tw_6_137 : Cond.methodLink RX12 111 yX12_isTold ∈ jT := jT_in (in_t6 (List.mem_of_getElem? (i := 137) rfl)) rfl
theorem tw_6_139 : Cond.instanceMethod yX12_isTold ∈ jT := jT_in (in_t6 (List.mem_of_getElem? (i := 139) rfl)) rfl
theorem tw_6_140 : Cond.code yX12_isTold cX12_isTold 2 (some .boolean) ∈ jT := jT_in (in_t6 (List.mem_of_getElem? (i := 140) rfl)) rfl
theorem tw_6_141 : Cond.methodLink RX12 257 yX12_readsAmount ∈ jT := jT_in (in_t6 (List.mem_of_getElem? (i := 141) rfl)) rfl
theorem tw_6_143 : Cond.instanceMethod yX12_readsAmount ∈ jT := jT_in (in_t6 (List.mem_of_getElem? (i := 143) rfl)) rfl
theorem tw_6_144 : Cond.code yX12_readsAmount cX12_readsAmount 3 (some .boolean) ∈ jT := jT_in (in_t6 (List.mem_of_getElem? (i := 144) rfl)) rfl
theorem tw_6_145 : Cond.methodLink RX12 266 yX12_readsPerhaps ∈ jT := jT_in (in_t6 (List.mem_of_getElem? (i := 145) rfl)) rfl
theorem tw_6_147 : Cond.instanceMethod yX12_readsPerhaps ∈ jT := jT_in (in_t6 (List.mem_of_getElem? (i := 147) rfl)) rfl
theorem tw_6_148 : Cond.code yX12_readsPerhaps cX12_readsPerhaps 3 (some .boolean) ∈ jT := jT_in (in_t6 (List.mem_of_getElem? (i := 148) rfl)) rfl
theorem tw_6_149 : Cond.methodLink RL 40 yX12_days ∈ jT := jT_in (in_t6 (List.mem_of_getElem? (i := 149) rfl)) rfl
theorem tw_6_150 : Cond.instanceMethod yX12_days ∈ jT := jT_in (in_t6 (List.mem_of_getElem? (i := 150) rfl)) rfl
theorem tw_6_151 : Cond.selects RX12 yX12_days yX12_days ∈ jT := jT_in (in_t6 (List.mem_of_getElem? (i := 151) rfl)) rfl
theorem tw_6_152 : Cond.code yX12_days cX12_days 2 (some .int) ∈ jT := jT_in (in_t6 (List.mem_of_getElem? (i := 152) rfl)) rfl
theorem tw_6_153 : Cond.methodLink RX12 324 yX12_daysGo ∈ jT := jT_in (in_t6 (List.mem_of_getElem? (i := 153) rfl)) rfl
theorem tw_6_155 : Cond.instanceMethod yX12_daysGo ∈ jT := jT_in (in_t6 (List.mem_of_getElem? (i := 155) rfl)) rfl
theorem tw_6_156 : Cond.code yX12_daysGo cX12_daysGo 3 none ∈ jT := jT_in (in_t6 (List.mem_of_getElem? (i := 156) rfl)) rfl
theorem tw_6_157 : Cond.methodLink RX12 321 yX12_dayGoes ∈ jT := jT_in (in_t6 (List.mem_of_getElem? (i := 157) rfl)) rfl
theorem tw_6_159 : Cond.instanceMethod yX12_dayGoes ∈ jT := jT_in (in_t6 (List.mem_of_getElem? (i := 159) rfl)) rfl
theorem tw_6_160 : Cond.code yX12_dayGoes cX12_dayGoes 3 none ∈ jT := jT_in (in_t6 (List.mem_of_getElem? (i := 160) rfl)) rfl
theorem tw_6_161 : Cond.methodLink RX12 115 yX12_isLiving ∈ jT := jT_in (in_t6 (List.mem_of_getElem? (i := 161) rfl)) rfl
theorem tw_6_163 : Cond.instanceMethod yX12_isLiving ∈ jT := jT_in (in_t6 (List.mem_of_getElem? (i := 163) rfl)) rfl
theorem tw_6_164 : Cond.code yX12_isLiving cX12_isLiving 2 (some .boolean) ∈ jT := jT_in (in_t6 (List.mem_of_getElem? (i := 164) rfl)) rfl
theorem tw_6_165 : Cond.methodLink RX12 312 yX12_hourOf ∈ jT := jT_in (in_t6 (List.mem_of_getElem? (i := 165) rfl)) rfl
theorem tw_6_167 : Cond.instanceMethod yX12_hourOf ∈ jT := jT_in (in_t6 (List.mem_of_getElem? (i := 167) rfl)) rfl
theorem tw_6_168 : Cond.code yX12_hourOf cX12_hourOf 4 none ∈ jT := jT_in (in_t6 (List.mem_of_getElem? (i := 168) rfl)) rfl
theorem tw_6_169 : Cond.constant RX12 288 (65536) ∈ jT := jT_in (in_t6 (List.mem_of_getElem? (i := 169) rfl)) rfl
theorem tw_6_170 : Cond.methodLink RX12 289 yX12_othersDoing ∈ jT := jT_in (in_t6 (List.mem_of_getElem? (i := 170) rfl)) rfl
theorem tw_6_172 : Cond.instanceMethod yX12_othersDoing ∈ jT := jT_in (in_t6 (List.mem_of_getElem? (i := 172) rfl)) rfl
theorem tw_6_173 : Cond.code yX12_othersDoing cX12_othersDoing 5 (some .int) ∈ jT := jT_in (in_t6 (List.mem_of_getElem? (i := 173) rfl)) rfl
theorem tw_6_174 : Cond.methodLink RX12 275 yX12_doing ∈ jT := jT_in (in_t6 (List.mem_of_getElem? (i := 174) rfl)) rfl
theorem tw_6_176 : Cond.instanceMethod yX12_doing ∈ jT := jT_in (in_t6 (List.mem_of_getElem? (i := 176) rfl)) rfl
theorem tw_6_177 : Cond.code yX12_doing cX12_doing 3 (some .int) ∈ jT := jT_in (in_t6 (List.mem_of_getElem? (i := 177) rfl)) rfl
theorem tw_6_178 : Cond.methodLink RX12 292 yX12_feels ∈ jT := jT_in (in_t6 (List.mem_of_getElem? (i := 178) rfl)) rfl
theorem tw_6_180 : Cond.instanceMethod yX12_feels ∈ jT := jT_in (in_t6 (List.mem_of_getElem? (i := 180) rfl)) rfl
theorem tw_6_181 : Cond.code yX12_feels cX12_feels 5 none ∈ jT := jT_in (in_t6 (List.mem_of_getElem? (i := 181) rfl)) rfl
theorem tw_6_182 : Cond.methodLink RX12 272 yX12_min ∈ jT := jT_in (in_t6 (List.mem_of_getElem? (i := 182) rfl)) rfl
theorem tw_6_183 : Cond.static yX12_min ∈ jT := jT_in (in_t6 (List.mem_of_getElem? (i := 183) rfl)) rfl
theorem tw_6_184 : Cond.code yX12_min cX12_min 2 (some .int) ∈ jT := jT_in (in_t6 (List.mem_of_getElem? (i := 184) rfl)) rfl
theorem tw_6_185 : Cond.methodLink RX12 278 yX12_debtsOf ∈ jT := jT_in (in_t6 (List.mem_of_getElem? (i := 185) rfl)) rfl
theorem tw_6_187 : Cond.instanceMethod yX12_debtsOf ∈ jT := jT_in (in_t6 (List.mem_of_getElem? (i := 187) rfl)) rfl
theorem tw_6_188 : Cond.code yX12_debtsOf cX12_debtsOf 4 (some .int) ∈ jT := jT_in (in_t6 (List.mem_of_getElem? (i := 188) rfl)) rfl
theorem tw_6_189 : Cond.methodLink RX12 296 yX12_paceNow ∈ jT := jT_in (in_t6 (List.mem_of_getElem? (i := 189) rfl)) rfl
theorem tw_6_191 : Cond.instanceMethod yX12_paceNow ∈ jT := jT_in (in_t6 (List.mem_of_getElem? (i := 191) rfl)) rfl
theorem tw_6_192 : Cond.code yX12_paceNow cX12_paceNow 1 (some .int) ∈ jT := jT_in (in_t6 (List.mem_of_getElem? (i := 192) rfl)) rfl
theorem tw_6_193 : Cond.methodLink RX12 281 yX12_byLaw ∈ jT := jT_in (in_t6 (List.mem_of_getElem? (i := 193) rfl)) rfl
theorem tw_6_195 : Cond.instanceMethod yX12_byLaw ∈ jT := jT_in (in_t6 (List.mem_of_getElem? (i := 195) rfl)) rfl
theorem tw_6_196 : Cond.code yX12_byLaw cX12_byLaw 7 (some .int) ∈ jT := jT_in (in_t6 (List.mem_of_getElem? (i := 196) rfl)) rfl
theorem tw_6_197 : Cond.methodLink RX12 229 yX12_reckonsTo ∈ jT := jT_in (in_t6 (List.mem_of_getElem? (i := 197) rfl)) rfl
theorem tw_6_199 : Cond.instanceMethod yX12_reckonsTo ∈ jT := jT_in (in_t6 (List.mem_of_getElem? (i := 199) rfl)) rfl
theorem tw_6_200 : Cond.code yX12_reckonsTo cX12_reckonsTo 8 (some .int) ∈ jT := jT_in (in_t6 (List.mem_of_getElem? (i := 200) rfl)) rfl
theorem tw_6_201 : Cond.methodLink RX12 225 yX12_reckon ∈ jT := jT_in (in_t6 (List.mem_of_getElem? (i := 201) rfl)) rfl
theorem tw_6_202 : Cond.static yX12_reckon ∈ jT := jT_in (in_t6 (List.mem_of_getElem? (i := 202) rfl)) rfl
theorem tw_6_203 : Cond.code yX12_reckon cX12_reckon 3 (some .int) ∈ jT := jT_in (in_t6 (List.mem_of_getElem? (i := 203) rfl)) rfl
theorem tw_6_204 : Cond.methodLink RX12 299 yX12_holdsAny ∈ jT := jT_in (in_t6 (List.mem_of_getElem? (i := 204) rfl)) rfl
theorem tw_6_206 : Cond.instanceMethod yX12_holdsAny ∈ jT := jT_in (in_t6 (List.mem_of_getElem? (i := 206) rfl)) rfl
theorem tw_6_207 : Cond.code yX12_holdsAny cX12_holdsAny 3 (some .boolean) ∈ jT := jT_in (in_t6 (List.mem_of_getElem? (i := 207) rfl)) rfl
theorem tw_6_208 : Cond.methodLink RX12 302 yX12_max ∈ jT := jT_in (in_t6 (List.mem_of_getElem? (i := 208) rfl)) rfl
theorem tw_6_209 : Cond.static yX12_max ∈ jT := jT_in (in_t6 (List.mem_of_getElem? (i := 209) rfl)) rfl
theorem tw_6_210 : Cond.code yX12_max cX12_max 2 (some .int) ∈ jT := jT_in (in_t6 (List.mem_of_getElem? (i := 210) rfl)) rfl
theorem tw_6_211 : Cond.methodLink RX12 305 yX12_diesNow ∈ jT := jT_in (in_t6 (List.mem_of_getElem? (i := 211) rfl)) rfl
theorem tw_6_213 : Cond.instanceMethod yX12_diesNow ∈ jT := jT_in (in_t6 (List.mem_of_getElem? (i := 213) rfl)) rfl
theorem tw_6_214 : Cond.code yX12_diesNow cX12_diesNow 2 none ∈ jT := jT_in (in_t6 (List.mem_of_getElem? (i := 214) rfl)) rfl
theorem tw_6_215 : Cond.methodLink RX12 315 yX12_loanGoes ∈ jT := jT_in (in_t6 (List.mem_of_getElem? (i := 215) rfl)) rfl
theorem tw_6_217 : Cond.instanceMethod yX12_loanGoes ∈ jT := jT_in (in_t6 (List.mem_of_getElem? (i := 217) rfl)) rfl
theorem tw_6_218 : Cond.code yX12_loanGoes cX12_loanGoes 5 none ∈ jT := jT_in (in_t6 (List.mem_of_getElem? (i := 218) rfl)) rfl
theorem tw_6_219 : Cond.methodLink RX12 309 yX12_grownBy ∈ jT := jT_in (in_t6 (List.mem_of_getElem? (i := 219) rfl)) rfl
theorem tw_6_220 : Cond.static yX12_grownBy ∈ jT := jT_in (in_t6 (List.mem_of_getElem? (i := 220) rfl)) rfl
theorem tw_6_221 : Cond.code yX12_grownBy cX12_grownBy 2 (some .int) ∈ jT := jT_in (in_t6 (List.mem_of_getElem? (i := 221) rfl)) rfl
theorem tw_6_222 : Cond.constant RX12 308 (9999999) ∈ jT := jT_in (in_t6 (List.mem_of_getElem? (i := 222) rfl)) rfl
theorem tw_6_223 : Cond.methodLink RX12 318 yX12_parishGives ∈ jT := jT_in (in_t6 (List.mem_of_getElem? (i := 223) rfl)) rfl
theorem tw_6_225 : Cond.instanceMethod yX12_parishGives ∈ jT := jT_in (in_t6 (List.mem_of_getElem? (i := 225) rfl)) rfl
theorem tw_6_226 : Cond.code yX12_parishGives cX12_parishGives 3 none ∈ jT := jT_in (in_t6 (List.mem_of_getElem? (i := 226) rfl)) rfl
theorem tw_6_227 : Cond.methodLink RL 44 yX12_tried ∈ jT := jT_in (in_t6 (List.mem_of_getElem? (i := 227) rfl)) rfl
theorem tw_6_228 : Cond.instanceMethod yX12_tried ∈ jT := jT_in (in_t6 (List.mem_of_getElem? (i := 228) rfl)) rfl
theorem tw_6_229 : Cond.selects RX12 yX12_tried yX12_tried ∈ jT := jT_in (in_t6 (List.mem_of_getElem? (i := 229) rfl)) rfl
theorem tw_6_230 : Cond.code yX12_tried cX12_tried 4 (some .int) ∈ jT := jT_in (in_t6 (List.mem_of_getElem? (i := 230) rfl)) rfl
theorem tw_6_231 : Cond.methodLink RX12 327 yX12_isLoan ∈ jT := jT_in (in_t6 (List.mem_of_getElem? (i := 231) rfl)) rfl
theorem tw_6_233 : Cond.instanceMethod yX12_isLoan ∈ jT := jT_in (in_t6 (List.mem_of_getElem? (i := 233) rfl)) rfl
theorem tw_6_234 : Cond.code yX12_isLoan cX12_isLoan 2 (some .boolean) ∈ jT := jT_in (in_t6 (List.mem_of_getElem? (i := 234) rfl)) rfl
theorem tw_6_235 : Cond.methodLink RX12 330 yX12_copies ∈ jT := jT_in (in_t6 (List.mem_of_getElem? (i := 235) rfl)) rfl
theorem tw_6_236 : Cond.static yX12_copies ∈ jT := jT_in (in_t6 (List.mem_of_getElem? (i := 236) rfl)) rfl
theorem tw_6_237 : Cond.code yX12_copies cX12_copies 3 none ∈ jT := jT_in (in_t6 (List.mem_of_getElem? (i := 237) rfl)) rfl
theorem tw_6_238 : Cond.methodLink RX12 334 yX12_livingSet ∈ jT := jT_in (in_t6 (List.mem_of_getElem? (i := 238) rfl)) rfl
theorem tw_7_0 : Cond.instanceMethod yX12_livingSet ∈ jT := jT_in (in_t7 (List.mem_of_getElem? (i := 0) rfl)) rfl
theorem tw_7_1 : Cond.code yX12_livingSet cX12_livingSet 3 (some .int) ∈ jT := jT_in (in_t7 (List.mem_of_getElem? (i := 1) rfl)) rfl
theorem tw_7_2 : Cond.methodLink RL 56 yX12_dies ∈ jT := jT_in (in_t7 (List.mem_of_getElem? (i := 2) rfl)) rfl
theorem tw_7_3 : Cond.instanceMethod yX12_dies ∈ jT := jT_in (in_t7 (List.mem_of_getElem? (i := 3) rfl)) rfl
theorem tw_7_4 : Cond.selects RX12 yX12_dies yX12_dies ∈ jT := jT_in (in_t7 (List.mem_of_getElem? (i := 4) rfl)) rfl
theorem tw_7_5 : Cond.code yX12_dies cX12_dies 5 (some .int) ∈ jT := jT_in (in_t7 (List.mem_of_getElem? (i := 5) rfl)) rfl
theorem tw_7_6 : Cond.methodLink RL 48 yX12_personIs ∈ jT := jT_in (in_t7 (List.mem_of_getElem? (i := 6) rfl)) rfl
theorem tw_7_7 : Cond.instanceMethod yX12_personIs ∈ jT := jT_in (in_t7 (List.mem_of_getElem? (i := 7) rfl)) rfl
theorem tw_7_8 : Cond.selects RX12 yX12_personIs yX12_personIs ∈ jT := jT_in (in_t7 (List.mem_of_getElem? (i := 8) rfl)) rfl
theorem tw_7_9 : Cond.code yX12_personIs cX12_personIs 3 (some .int) ∈ jT := jT_in (in_t7 (List.mem_of_getElem? (i := 9) rfl)) rfl
theorem tw_7_10 : Cond.constant RX12 337 (-1000000000) ∈ jT := jT_in (in_t7 (List.mem_of_getElem? (i := 10) rfl)) rfl
theorem tw_7_11 : Cond.methodLink RX12 338 yX12_netOf ∈ jT := jT_in (in_t7 (List.mem_of_getElem? (i := 11) rfl)) rfl
theorem tw_7_13 : Cond.instanceMethod yX12_netOf ∈ jT := jT_in (in_t7 (List.mem_of_getElem? (i := 13) rfl)) rfl
theorem tw_7_14 : Cond.code yX12_netOf cX12_netOf 4 (some .int) ∈ jT := jT_in (in_t7 (List.mem_of_getElem? (i := 14) rfl)) rfl
theorem tw_7_15 : Cond.methodLink RL 52 yX12_loanIs ∈ jT := jT_in (in_t7 (List.mem_of_getElem? (i := 15) rfl)) rfl
theorem tw_7_16 : Cond.instanceMethod yX12_loanIs ∈ jT := jT_in (in_t7 (List.mem_of_getElem? (i := 16) rfl)) rfl
theorem tw_7_17 : Cond.selects RX12 yX12_loanIs yX12_loanIs ∈ jT := jT_in (in_t7 (List.mem_of_getElem? (i := 17) rfl)) rfl
theorem tw_7_18 : Cond.code yX12_loanIs cX12_loanIs 3 (some .int) ∈ jT := jT_in (in_t7 (List.mem_of_getElem? (i := 18) rfl)) rfl
theorem tw_7_19 : Cond.methodLink RL 60 yX12_costs ∈ jT := jT_in (in_t7 (List.mem_of_getElem? (i := 19) rfl)) rfl
theorem tw_7_20 : Cond.instanceMethod yX12_costs ∈ jT := jT_in (in_t7 (List.mem_of_getElem? (i := 20) rfl)) rfl
theorem tw_7_21 : Cond.selects RX12 yX12_costs yX12_costs ∈ jT := jT_in (in_t7 (List.mem_of_getElem? (i := 21) rfl)) rfl
theorem tw_7_22 : Cond.code yX12_costs cX12_costs 3 (some .int) ∈ jT := jT_in (in_t7 (List.mem_of_getElem? (i := 22) rfl)) rfl
theorem tw_7_23 : Cond.methodLink RX12 344 yX12_costsOfDay ∈ jT := jT_in (in_t7 (List.mem_of_getElem? (i := 23) rfl)) rfl
theorem tw_7_25 : Cond.instanceMethod yX12_costsOfDay ∈ jT := jT_in (in_t7 (List.mem_of_getElem? (i := 25) rfl)) rfl
theorem tw_7_26 : Cond.code yX12_costsOfDay cX12_costsOfDay 4 (some .int) ∈ jT := jT_in (in_t7 (List.mem_of_getElem? (i := 26) rfl)) rfl
theorem tw_7_27 : Cond.methodLink RX12 341 yX12_costsIn ∈ jT := jT_in (in_t7 (List.mem_of_getElem? (i := 27) rfl)) rfl
theorem tw_7_29 : Cond.instanceMethod yX12_costsIn ∈ jT := jT_in (in_t7 (List.mem_of_getElem? (i := 29) rfl)) rfl
theorem tw_7_30 : Cond.code yX12_costsIn cX12_costsIn 3 (some .int) ∈ jT := jT_in (in_t7 (List.mem_of_getElem? (i := 30) rfl)) rfl
theorem tw_7_31 : Cond.methodLink RL 64 yX12_paidOff ∈ jT := jT_in (in_t7 (List.mem_of_getElem? (i := 31) rfl)) rfl
theorem tw_7_32 : Cond.instanceMethod yX12_paidOff ∈ jT := jT_in (in_t7 (List.mem_of_getElem? (i := 32) rfl)) rfl
theorem tw_7_33 : Cond.selects RX12 yX12_paidOff yX12_paidOff ∈ jT := jT_in (in_t7 (List.mem_of_getElem? (i := 33) rfl)) rfl
theorem tw_7_34 : Cond.code yX12_paidOff cX12_paidOff 4 (some .int) ∈ jT := jT_in (in_t7 (List.mem_of_getElem? (i := 34) rfl)) rfl
theorem tw_7_35 : Cond.methodLink RX12 347 yX12_lessBy ∈ jT := jT_in (in_t7 (List.mem_of_getElem? (i := 35) rfl)) rfl
theorem tw_7_36 : Cond.static yX12_lessBy ∈ jT := jT_in (in_t7 (List.mem_of_getElem? (i := 36) rfl)) rfl
theorem tw_7_37 : Cond.code yX12_lessBy cX12_lessBy 2 (some .int) ∈ jT := jT_in (in_t7 (List.mem_of_getElem? (i := 37) rfl)) rfl
theorem tw_7_38 : Cond.methodLink RL 68 yX12_dueAfter ∈ jT := jT_in (in_t7 (List.mem_of_getElem? (i := 38) rfl)) rfl
theorem tw_7_39 : Cond.instanceMethod yX12_dueAfter ∈ jT := jT_in (in_t7 (List.mem_of_getElem? (i := 39) rfl)) rfl
theorem tw_7_40 : Cond.selects RX12 yX12_dueAfter yX12_dueAfter ∈ jT := jT_in (in_t7 (List.mem_of_getElem? (i := 40) rfl)) rfl
theorem tw_7_41 : Cond.code yX12_dueAfter cX12_dueAfter 5 (some .int) ∈ jT := jT_in (in_t7 (List.mem_of_getElem? (i := 41) rfl)) rfl
theorem tw_7_42 : Cond.methodLink RL 72 yX12_hiccups ∈ jT := jT_in (in_t7 (List.mem_of_getElem? (i := 42) rfl)) rfl
theorem tw_7_43 : Cond.instanceMethod yX12_hiccups ∈ jT := jT_in (in_t7 (List.mem_of_getElem? (i := 43) rfl)) rfl
theorem tw_7_44 : Cond.selects RX12 yX12_hiccups yX12_hiccups ∈ jT := jT_in (in_t7 (List.mem_of_getElem? (i := 44) rfl)) rfl
theorem tw_7_45 : Cond.code yX12_hiccups cX12_hiccups 7 (some .int) ∈ jT := jT_in (in_t7 (List.mem_of_getElem? (i := 45) rfl)) rfl
theorem tw_7_46 : Cond.constant RX12 353 (65535) ∈ jT := jT_in (in_t7 (List.mem_of_getElem? (i := 46) rfl)) rfl
theorem tw_7_47 : Cond.methodLink RX12 354 yX12_toldSet ∈ jT := jT_in (in_t7 (List.mem_of_getElem? (i := 47) rfl)) rfl
theorem tw_7_49 : Cond.instanceMethod yX12_toldSet ∈ jT := jT_in (in_t7 (List.mem_of_getElem? (i := 49) rfl)) rfl
theorem tw_7_50 : Cond.code yX12_toldSet cX12_toldSet 3 (some .int) ∈ jT := jT_in (in_t7 (List.mem_of_getElem? (i := 50) rfl)) rfl
theorem tw_7_51 : Cond.methodLink RX12 357 yX12_doingAs ∈ jT := jT_in (in_t7 (List.mem_of_getElem? (i := 51) rfl)) rfl
theorem tw_7_53 : Cond.instanceMethod yX12_doingAs ∈ jT := jT_in (in_t7 (List.mem_of_getElem? (i := 53) rfl)) rfl
theorem tw_7_54 : Cond.code yX12_doingAs cX12_doingAs 6 (some .int) ∈ jT := jT_in (in_t7 (List.mem_of_getElem? (i := 54) rfl)) rfl
theorem tw_7_55 : Cond.methodLink RX12 350 yX12_has ∈ jT := jT_in (in_t7 (List.mem_of_getElem? (i := 55) rfl)) rfl
theorem tw_7_56 : Cond.static yX12_has ∈ jT := jT_in (in_t7 (List.mem_of_getElem? (i := 56) rfl)) rfl
theorem tw_7_57 : Cond.code yX12_has cX12_has 2 (some .boolean) ∈ jT := jT_in (in_t7 (List.mem_of_getElem? (i := 57) rfl)) rfl
theorem tw_7_58 : Cond.methodLink RL 76 yX12_left ∈ jT := jT_in (in_t7 (List.mem_of_getElem? (i := 58) rfl)) rfl
theorem tw_7_59 : Cond.instanceMethod yX12_left ∈ jT := jT_in (in_t7 (List.mem_of_getElem? (i := 59) rfl)) rfl
theorem tw_7_60 : Cond.selects RX12 yX12_left yX12_left ∈ jT := jT_in (in_t7 (List.mem_of_getElem? (i := 60) rfl)) rfl
theorem tw_7_61 : Cond.code yX12_left cX12_left 2 (some .int) ∈ jT := jT_in (in_t7 (List.mem_of_getElem? (i := 61) rfl)) rfl
theorem tw_7_62 : Cond.methodLink RL 81 yX12_longest ∈ jT := jT_in (in_t7 (List.mem_of_getElem? (i := 62) rfl)) rfl
theorem tw_7_63 : Cond.instanceMethod yX12_longest ∈ jT := jT_in (in_t7 (List.mem_of_getElem? (i := 63) rfl)) rfl
theorem tw_7_64 : Cond.selects RX12 yX12_longest yX12_longest ∈ jT := jT_in (in_t7 (List.mem_of_getElem? (i := 64) rfl)) rfl
theorem tw_7_65 : Cond.code yX12_longest cX12_longest 3 (some .int) ∈ jT := jT_in (in_t7 (List.mem_of_getElem? (i := 65) rfl)) rfl
theorem tw_7_66 : Cond.methodLink RX12 360 yX12_left ∈ jT := jT_in (in_t7 (List.mem_of_getElem? (i := 66) rfl)) rfl
theorem tw_7_67 : Cond.methodLink RL 85 yX12_stillest ∈ jT := jT_in (in_t7 (List.mem_of_getElem? (i := 67) rfl)) rfl
theorem tw_7_68 : Cond.instanceMethod yX12_stillest ∈ jT := jT_in (in_t7 (List.mem_of_getElem? (i := 68) rfl)) rfl
theorem tw_7_69 : Cond.selects RX12 yX12_stillest yX12_stillest ∈ jT := jT_in (in_t7 (List.mem_of_getElem? (i := 69) rfl)) rfl
theorem tw_7_70 : Cond.code yX12_stillest cX12_stillest 4 (some .int) ∈ jT := jT_in (in_t7 (List.mem_of_getElem? (i := 70) rfl)) rfl
theorem tw_7_71 : Cond.methodLink RX12 363 yX12_costsOfAll ∈ jT := jT_in (in_t7 (List.mem_of_getElem? (i := 71) rfl)) rfl
theorem tw_7_73 : Cond.instanceMethod yX12_costsOfAll ∈ jT := jT_in (in_t7 (List.mem_of_getElem? (i := 73) rfl)) rfl
theorem tw_7_74 : Cond.code yX12_costsOfAll cX12_costsOfAll 4 (some .int) ∈ jT := jT_in (in_t7 (List.mem_of_getElem? (i := 74) rfl)) rfl
theorem tw_7_75 : Cond.methodLink RL 90 yX12_alike ∈ jT := jT_in (in_t7 (List.mem_of_getElem? (i := 75) rfl)) rfl
theorem tw_7_76 : Cond.instanceMethod yX12_alike ∈ jT := jT_in (in_t7 (List.mem_of_getElem? (i := 76) rfl)) rfl
theorem tw_7_77 : Cond.selects RX12 yX12_alike yX12_alike ∈ jT := jT_in (in_t7 (List.mem_of_getElem? (i := 77) rfl)) rfl
theorem tw_7_78 : Cond.code yX12_alike cX12_alike 6 (some .int) ∈ jT := jT_in (in_t7 (List.mem_of_getElem? (i := 78) rfl)) rfl
theorem tw_7_79 : Cond.methodLink RX12 366 yX12_alikeBy ∈ jT := jT_in (in_t7 (List.mem_of_getElem? (i := 79) rfl)) rfl
theorem tw_7_81 : Cond.instanceMethod yX12_alikeBy ∈ jT := jT_in (in_t7 (List.mem_of_getElem? (i := 81) rfl)) rfl
theorem tw_7_82 : Cond.code yX12_alikeBy cX12_alikeBy 6 (some .int) ∈ jT := jT_in (in_t7 (List.mem_of_getElem? (i := 82) rfl)) rfl
theorem tw_7_83 : Cond.methodLink RL 94 yX12_rings ∈ jT := jT_in (in_t7 (List.mem_of_getElem? (i := 83) rfl)) rfl
theorem tw_7_84 : Cond.instanceMethod yX12_rings ∈ jT := jT_in (in_t7 (List.mem_of_getElem? (i := 84) rfl)) rfl
theorem tw_7_85 : Cond.selects RX12 yX12_rings yX12_rings ∈ jT := jT_in (in_t7 (List.mem_of_getElem? (i := 85) rfl)) rfl
theorem tw_7_86 : Cond.code yX12_rings cX12_rings 3 (some .int) ∈ jT := jT_in (in_t7 (List.mem_of_getElem? (i := 86) rfl)) rfl
theorem tw_7_87 : Cond.methodLink RX12 381 yX12_goesFrom ∈ jT := jT_in (in_t7 (List.mem_of_getElem? (i := 87) rfl)) rfl
theorem tw_7_89 : Cond.instanceMethod yX12_goesFrom ∈ jT := jT_in (in_t7 (List.mem_of_getElem? (i := 89) rfl)) rfl
theorem tw_7_90 : Cond.code yX12_goesFrom cX12_goesFrom 5 none ∈ jT := jT_in (in_t7 (List.mem_of_getElem? (i := 90) rfl)) rfl
theorem tw_7_91 : Cond.methodLink RX12 375 yX12_countsRing ∈ jT := jT_in (in_t7 (List.mem_of_getElem? (i := 91) rfl)) rfl
theorem tw_7_93 : Cond.instanceMethod yX12_countsRing ∈ jT := jT_in (in_t7 (List.mem_of_getElem? (i := 93) rfl)) rfl
theorem tw_7_94 : Cond.code yX12_countsRing cX12_countsRing 4 none ∈ jT := jT_in (in_t7 (List.mem_of_getElem? (i := 94) rfl)) rfl
theorem tw_7_95 : Cond.methodLink RX12 378 yX12_isInRing ∈ jT := jT_in (in_t7 (List.mem_of_getElem? (i := 95) rfl)) rfl
theorem tw_7_97 : Cond.instanceMethod yX12_isInRing ∈ jT := jT_in (in_t7 (List.mem_of_getElem? (i := 97) rfl)) rfl
theorem tw_7_98 : Cond.code yX12_isInRing cX12_isInRing 4 (some .boolean) ∈ jT := jT_in (in_t7 (List.mem_of_getElem? (i := 98) rfl)) rfl
theorem tw_7_99 : Cond.methodLink RL 98 yX12_settled ∈ jT := jT_in (in_t7 (List.mem_of_getElem? (i := 99) rfl)) rfl
theorem tw_7_100 : Cond.instanceMethod yX12_settled ∈ jT := jT_in (in_t7 (List.mem_of_getElem? (i := 100) rfl)) rfl
theorem tw_7_101 : Cond.selects RX12 yX12_settled yX12_settled ∈ jT := jT_in (in_t7 (List.mem_of_getElem? (i := 101) rfl)) rfl
theorem tw_7_102 : Cond.code yX12_settled cX12_settled 8 (some .int) ∈ jT := jT_in (in_t7 (List.mem_of_getElem? (i := 102) rfl)) rfl
theorem tw_7_103 : Cond.methodLink RX12 391 yX12_sumOf ∈ jT := jT_in (in_t7 (List.mem_of_getElem? (i := 103) rfl)) rfl
theorem tw_7_105 : Cond.instanceMethod yX12_sumOf ∈ jT := jT_in (in_t7 (List.mem_of_getElem? (i := 105) rfl)) rfl
theorem tw_7_106 : Cond.code yX12_sumOf cX12_sumOf 5 (some .int) ∈ jT := jT_in (in_t7 (List.mem_of_getElem? (i := 106) rfl)) rfl
theorem tw_7_107 : Cond.methodLink RX12 387 yX12_twoOctets ∈ jT := jT_in (in_t7 (List.mem_of_getElem? (i := 107) rfl)) rfl
theorem tw_7_109 : Cond.instanceMethod yX12_twoOctets ∈ jT := jT_in (in_t7 (List.mem_of_getElem? (i := 109) rfl)) rfl
theorem tw_7_110 : Cond.code yX12_twoOctets cX12_twoOctets 2 (some .int) ∈ jT := jT_in (in_t7 (List.mem_of_getElem? (i := 110) rfl)) rfl
theorem tw_7_111 : Cond.methodLink RX12 384 yX12_octet ∈ jT := jT_in (in_t7 (List.mem_of_getElem? (i := 111) rfl)) rfl
theorem tw_7_113 : Cond.instanceMethod yX12_octet ∈ jT := jT_in (in_t7 (List.mem_of_getElem? (i := 113) rfl)) rfl
theorem tw_7_114 : Cond.code yX12_octet cX12_octet 2 (some .int) ∈ jT := jT_in (in_t7 (List.mem_of_getElem? (i := 114) rfl)) rfl
theorem tw_7_115 : Cond.constant RX12 390 (32768) ∈ jT := jT_in (in_t7 (List.mem_of_getElem? (i := 115) rfl)) rfl
theorem tw_7_116 : Cond.methodLink RL 102 yX12_joy ∈ jT := jT_in (in_t7 (List.mem_of_getElem? (i := 116) rfl)) rfl
theorem tw_7_117 : Cond.instanceMethod yX12_joy ∈ jT := jT_in (in_t7 (List.mem_of_getElem? (i := 117) rfl)) rfl
theorem tw_7_118 : Cond.selects RX12 yX12_joy yX12_joy ∈ jT := jT_in (in_t7 (List.mem_of_getElem? (i := 118) rfl)) rfl
theorem tw_7_119 : Cond.code yX12_joy cX12_joy 7 (some .int) ∈ jT := jT_in (in_t7 (List.mem_of_getElem? (i := 119) rfl)) rfl
theorem tw_7_120 : Cond.methodLink RX12 394 yX12_sumBy ∈ jT := jT_in (in_t7 (List.mem_of_getElem? (i := 120) rfl)) rfl
theorem tw_7_122 : Cond.instanceMethod yX12_sumBy ∈ jT := jT_in (in_t7 (List.mem_of_getElem? (i := 122) rfl)) rfl
theorem tw_7_123 : Cond.code yX12_sumBy cX12_sumBy 5 (some .int) ∈ jT := jT_in (in_t7 (List.mem_of_getElem? (i := 123) rfl)) rfl
theorem tw_7_124 : Cond.methodLink RX12 397 yX12_nextRow ∈ jT := jT_in (in_t7 (List.mem_of_getElem? (i := 124) rfl)) rfl
theorem tw_7_126 : Cond.instanceMethod yX12_nextRow ∈ jT := jT_in (in_t7 (List.mem_of_getElem? (i := 126) rfl)) rfl
theorem tw_7_127 : Cond.code yX12_nextRow cX12_nextRow 5 (some .boolean) ∈ jT := jT_in (in_t7 (List.mem_of_getElem? (i := 127) rfl)) rfl
theorem tw_7_128 : Cond.methodLink RL 106 yX12_run ∈ jT := jT_in (in_t7 (List.mem_of_getElem? (i := 128) rfl)) rfl
theorem tw_7_129 : Cond.instanceMethod yX12_run ∈ jT := jT_in (in_t7 (List.mem_of_getElem? (i := 129) rfl)) rfl
theorem tw_7_130 : Cond.selects RX12 yX12_run yX12_run ∈ jT := jT_in (in_t7 (List.mem_of_getElem? (i := 130) rfl)) rfl
theorem tw_7_131 : Cond.code yX12_run cX12_run 7 (some .int) ∈ jT := jT_in (in_t7 (List.mem_of_getElem? (i := 131) rfl)) rfl
theorem tw_7_132 : Cond.methodLink RX12 400 yX12_bits ∈ jT := jT_in (in_t7 (List.mem_of_getElem? (i := 132) rfl)) rfl
theorem tw_7_133 : Cond.static yX12_bits ∈ jT := jT_in (in_t7 (List.mem_of_getElem? (i := 133) rfl)) rfl
theorem tw_7_134 : Cond.code yX12_bits cX12_bits 3 (some .int) ∈ jT := jT_in (in_t7 (List.mem_of_getElem? (i := 134) rfl)) rfl
theorem tw_7_135 : Cond.methodLink RL 110 yX12_table ∈ jT := jT_in (in_t7 (List.mem_of_getElem? (i := 135) rfl)) rfl
theorem tw_7_136 : Cond.instanceMethod yX12_table ∈ jT := jT_in (in_t7 (List.mem_of_getElem? (i := 136) rfl)) rfl
theorem tw_7_137 : Cond.selects RX12 yX12_table yX12_table ∈ jT := jT_in (in_t7 (List.mem_of_getElem? (i := 137) rfl)) rfl
theorem tw_7_138 : Cond.code yX12_table cX12_table 6 (some .int) ∈ jT := jT_in (in_t7 (List.mem_of_getElem? (i := 138) rfl)) rfl
theorem tw_7_139 : Cond.methodLink RX12 403 yX12_isTable ∈ jT := jT_in (in_t7 (List.mem_of_getElem? (i := 139) rfl)) rfl
theorem tw_7_141 : Cond.instanceMethod yX12_isTable ∈ jT := jT_in (in_t7 (List.mem_of_getElem? (i := 141) rfl)) rfl
theorem tw_7_142 : Cond.code yX12_isTable cX12_isTable 3 (some .boolean) ∈ jT := jT_in (in_t7 (List.mem_of_getElem? (i := 142) rfl)) rfl
theorem tw_7_143 : Cond.methodLink RX12 406 yX12_deathsAt ∈ jT := jT_in (in_t7 (List.mem_of_getElem? (i := 143) rfl)) rfl
theorem tw_7_145 : Cond.instanceMethod yX12_deathsAt ∈ jT := jT_in (in_t7 (List.mem_of_getElem? (i := 145) rfl)) rfl
theorem tw_7_146 : Cond.code yX12_deathsAt cX12_deathsAt 3 (some .int) ∈ jT := jT_in (in_t7 (List.mem_of_getElem? (i := 146) rfl)) rfl
theorem tw_7_147 : Cond.methodLink RX12 409 yX12_gcd ∈ jT := jT_in (in_t7 (List.mem_of_getElem? (i := 147) rfl)) rfl
theorem tw_7_148 : Cond.static yX12_gcd ∈ jT := jT_in (in_t7 (List.mem_of_getElem? (i := 148) rfl)) rfl
theorem tw_7_149 : Cond.code yX12_gcd cX12_gcd 5 (some .int) ∈ jT := jT_in (in_t7 (List.mem_of_getElem? (i := 149) rfl)) rfl
theorem tw_7_150 : Cond.methodLink RL 114 yX12_atOnce ∈ jT := jT_in (in_t7 (List.mem_of_getElem? (i := 150) rfl)) rfl
theorem tw_7_151 : Cond.instanceMethod yX12_atOnce ∈ jT := jT_in (in_t7 (List.mem_of_getElem? (i := 151) rfl)) rfl
theorem tw_7_152 : Cond.selects RX12 yX12_atOnce yX12_atOnce ∈ jT := jT_in (in_t7 (List.mem_of_getElem? (i := 152) rfl)) rfl
theorem tw_7_153 : Cond.code yX12_atOnce cX12_atOnce 7 (some .int) ∈ jT := jT_in (in_t7 (List.mem_of_getElem? (i := 153) rfl)) rfl
theorem tw_7_154 : Cond.methodLink RL 118 yX12_pulse ∈ jT := jT_in (in_t7 (List.mem_of_getElem? (i := 154) rfl)) rfl
theorem tw_7_155 : Cond.instanceMethod yX12_pulse ∈ jT := jT_in (in_t7 (List.mem_of_getElem? (i := 155) rfl)) rfl
theorem tw_7_156 : Cond.selects RX12 yX12_pulse yX12_pulse ∈ jT := jT_in (in_t7 (List.mem_of_getElem? (i := 156) rfl)) rfl
theorem tw_7_157 : Cond.code yX12_pulse cX12_pulse 5 (some .int) ∈ jT := jT_in (in_t7 (List.mem_of_getElem? (i := 157) rfl)) rfl
theorem tw_7_158 : Cond.methodLink RL 122 yX12_stairs ∈ jT := jT_in (in_t7 (List.mem_of_getElem? (i := 158) rfl)) rfl
theorem tw_7_159 : Cond.instanceMethod yX12_stairs ∈ jT := jT_in (in_t7 (List.mem_of_getElem? (i := 159) rfl)) rfl
theorem tw_7_160 : Cond.selects RX12 yX12_stairs yX12_stairs ∈ jT := jT_in (in_t7 (List.mem_of_getElem? (i := 160) rfl)) rfl
theorem tw_7_161 : Cond.code yX12_stairs cX12_stairs 4 (some .int) ∈ jT := jT_in (in_t7 (List.mem_of_getElem? (i := 161) rfl)) rfl
theorem tw_7_162 : Cond.constant RX12 412 (1000000000) ∈ jT := jT_in (in_t7 (List.mem_of_getElem? (i := 162) rfl)) rfl
theorem tw_7_163 : Cond.methodLink RX12 413 yX12_climbs ∈ jT := jT_in (in_t7 (List.mem_of_getElem? (i := 163) rfl)) rfl
theorem tw_7_165 : Cond.instanceMethod yX12_climbs ∈ jT := jT_in (in_t7 (List.mem_of_getElem? (i := 165) rfl)) rfl
theorem tw_7_166 : Cond.code yX12_climbs cX12_climbs 6 none ∈ jT := jT_in (in_t7 (List.mem_of_getElem? (i := 166) rfl)) rfl
theorem tw_7_167 : Cond.methodLink RL 126 yX12_bells ∈ jT := jT_in (in_t7 (List.mem_of_getElem? (i := 167) rfl)) rfl
theorem tw_7_168 : Cond.instanceMethod yX12_bells ∈ jT := jT_in (in_t7 (List.mem_of_getElem? (i := 168) rfl)) rfl
theorem tw_7_169 : Cond.selects RX12 yX12_bells yX12_bells ∈ jT := jT_in (in_t7 (List.mem_of_getElem? (i := 169) rfl)) rfl
theorem tw_7_170 : Cond.code yX12_bells cX12_bells 5 (some .int) ∈ jT := jT_in (in_t7 (List.mem_of_getElem? (i := 170) rfl)) rfl
theorem tw_7_171 : Cond.methodLink RL 131 yX12_seed ∈ jT := jT_in (in_t7 (List.mem_of_getElem? (i := 171) rfl)) rfl
theorem tw_7_172 : Cond.instanceMethod yX12_seed ∈ jT := jT_in (in_t7 (List.mem_of_getElem? (i := 172) rfl)) rfl
theorem tw_7_173 : Cond.selects RX12 yX12_seed yX12_seed ∈ jT := jT_in (in_t7 (List.mem_of_getElem? (i := 173) rfl)) rfl
theorem tw_7_174 : Cond.code yX12_seed cX12_seed 2 (some .boolean) ∈ jT := jT_in (in_t7 (List.mem_of_getElem? (i := 174) rfl)) rfl
theorem tw_7_175 : Cond.methodLink RL 135 yX12_keep ∈ jT := jT_in (in_t7 (List.mem_of_getElem? (i := 175) rfl)) rfl
theorem tw_7_176 : Cond.instanceMethod yX12_keep ∈ jT := jT_in (in_t7 (List.mem_of_getElem? (i := 176) rfl)) rfl
theorem tw_7_177 : Cond.selects RX12 yX12_keep yX12_keep ∈ jT := jT_in (in_t7 (List.mem_of_getElem? (i := 177) rfl)) rfl
theorem tw_7_178 : Cond.code yX12_keep cX12_keep 1 (some .int) ∈ jT := jT_in (in_t7 (List.mem_of_getElem? (i := 178) rfl)) rfl
theorem tw_7_179 : Cond.methodLink RL 140 yX12_undo ∈ jT := jT_in (in_t7 (List.mem_of_getElem? (i := 179) rfl)) rfl
theorem tw_7_180 : Cond.instanceMethod yX12_undo ∈ jT := jT_in (in_t7 (List.mem_of_getElem? (i := 180) rfl)) rfl
theorem tw_7_181 : Cond.selects RX12 yX12_undo yX12_undo ∈ jT := jT_in (in_t7 (List.mem_of_getElem? (i := 181) rfl)) rfl
theorem tw_7_182 : Cond.code yX12_undo cX12_undo 1 (some .boolean) ∈ jT := jT_in (in_t7 (List.mem_of_getElem? (i := 182) rfl)) rfl
theorem tw_7_183 : Cond.methodLink RL 144 yX12_check ∈ jT := jT_in (in_t7 (List.mem_of_getElem? (i := 183) rfl)) rfl
theorem tw_7_184 : Cond.instanceMethod yX12_check ∈ jT := jT_in (in_t7 (List.mem_of_getElem? (i := 184) rfl)) rfl
theorem tw_7_185 : Cond.selects RX12 yX12_check yX12_check ∈ jT := jT_in (in_t7 (List.mem_of_getElem? (i := 185) rfl)) rfl
theorem tw_7_186 : Cond.code yX12_check cX12_check 3 (some .int) ∈ jT := jT_in (in_t7 (List.mem_of_getElem? (i := 186) rfl)) rfl
theorem tw_7_187 : Cond.methodLink RL 148 yX12_count ∈ jT := jT_in (in_t7 (List.mem_of_getElem? (i := 187) rfl)) rfl
theorem tw_7_188 : Cond.instanceMethod yX12_count ∈ jT := jT_in (in_t7 (List.mem_of_getElem? (i := 188) rfl)) rfl
theorem tw_7_189 : Cond.selects RX12 yX12_count yX12_count ∈ jT := jT_in (in_t7 (List.mem_of_getElem? (i := 189) rfl)) rfl
theorem tw_7_190 : Cond.code yX12_count cX12_count 2 (some .int) ∈ jT := jT_in (in_t7 (List.mem_of_getElem? (i := 190) rfl)) rfl
theorem tw_7_191 : Cond.methodLink RX12 420 yX12_richest ∈ jT := jT_in (in_t7 (List.mem_of_getElem? (i := 191) rfl)) rfl
theorem tw_7_193 : Cond.instanceMethod yX12_richest ∈ jT := jT_in (in_t7 (List.mem_of_getElem? (i := 193) rfl)) rfl
theorem tw_7_194 : Cond.code yX12_richest cX12_richest 3 (some .int) ∈ jT := jT_in (in_t7 (List.mem_of_getElem? (i := 194) rfl)) rfl
theorem tw_7_195 : Cond.fieldLink RJ0 15 "java/lang/String" "coder" "B" ∈ jT := jT_in (in_t7 (List.mem_of_getElem? (i := 195) rfl)) rfl
theorem tw_7_196 : Cond.fieldLink RJ0 9 "java/lang/String" "value" "[B" ∈ jT := jT_in (in_t7 (List.mem_of_getElem? (i := 196) rfl)) rfl
theorem tp_0 : Cond.selects RX4 yX4_readRule yX4_readRule ∈ jT := jT_in (in_t0 (List.mem_of_getElem? (i := 0) (by decide +kernel))) rfl
theorem tp_1 : Cond.selects RX4 yX4_readSum yX4_readSum ∈ jT := jT_in (in_t0 (List.mem_of_getElem? (i := 1) (by decide +kernel))) rfl
theorem tp_2 : Cond.selects RX4 yX4_readFactor yX4_readFactor ∈ jT := jT_in (in_t0 (List.mem_of_getElem? (i := 2) (by decide +kernel))) rfl
theorem tp_3 : Cond.selects RX4 yX4_stepOf yX4_stepOf ∈ jT := jT_in (in_t0 (List.mem_of_getElem? (i := 3) (by decide +kernel))) rfl
theorem tp_4 : Cond.selects RX4 yX4_opens yX4_opens ∈ jT := jT_in (in_t0 (List.mem_of_getElem? (i := 4) (by decide +kernel))) rfl
theorem tp_5 : Cond.selects RX4 yX4_readCase yX4_readCase ∈ jT := jT_in (in_t0 (List.mem_of_getElem? (i := 5) (by decide +kernel))) rfl
theorem tp_6 : Cond.selects RX4 yX4_readTest yX4_readTest ∈ jT := jT_in (in_t0 (List.mem_of_getElem? (i := 6) (by decide +kernel))) rfl
theorem tp_7 : Cond.selects RX8 yX8_readHours yX8_readHours ∈ jT := jT_in (in_t0 (List.mem_of_getElem? (i := 7) (by decide +kernel))) rfl
theorem tp_8 : Cond.selects RX8 yX8_readPiece yX8_readPiece ∈ jT := jT_in (in_t0 (List.mem_of_getElem? (i := 8) (by decide +kernel))) rfl
theorem tp_9 : Cond.selects RX8 yX8_readGroup yX8_readGroup ∈ jT := jT_in (in_t0 (List.mem_of_getElem? (i := 9) (by decide +kernel))) rfl
theorem tp_10 : Cond.selects RX8 yX8_readDoing yX8_readDoing ∈ jT := jT_in (in_t0 (List.mem_of_getElem? (i := 10) (by decide +kernel))) rfl
theorem tp_11 : Cond.selects RX8 yX8_put yX8_put ∈ jT := jT_in (in_t0 (List.mem_of_getElem? (i := 11) (by decide +kernel))) rfl
theorem tp_12 : Cond.selects RX8 yX8_repeat yX8_repeat ∈ jT := jT_in (in_t0 (List.mem_of_getElem? (i := 12) (by decide +kernel))) rfl
theorem tp_13 : Cond.selects RX8 yX8_isMore yX8_isMore ∈ jT := jT_in (in_t0 (List.mem_of_getElem? (i := 13) (by decide +kernel))) rfl
theorem tp_14 : Cond.selects RX5 yX5_readLoan yX5_readLoan ∈ jT := jT_in (in_t0 (List.mem_of_getElem? (i := 14) (by decide +kernel))) rfl
theorem tp_15 : Cond.selects RX5 yX5_readPerson yX5_readPerson ∈ jT := jT_in (in_t0 (List.mem_of_getElem? (i := 15) (by decide +kernel))) rfl
theorem tp_16 : Cond.selects RX5 yX5_readPart yX5_readPart ∈ jT := jT_in (in_t0 (List.mem_of_getElem? (i := 16) (by decide +kernel))) rfl
theorem tp_17 : Cond.selects RX11 yX11_passDays yX11_passDays ∈ jT := jT_in (in_t0 (List.mem_of_getElem? (i := 17) (by decide +kernel))) rfl
theorem tp_18 : Cond.selects RX11 yX11_passHour yX11_passHour ∈ jT := jT_in (in_t0 (List.mem_of_getElem? (i := 18) (by decide +kernel))) rfl
theorem tp_19 : Cond.selects RX2 yX2_reckon yX2_reckon ∈ jT := jT_in (in_t0 (List.mem_of_getElem? (i := 19) (by decide +kernel))) rfl
theorem tp_20 : Cond.selects RX2 yX2_letter yX2_letter ∈ jT := jT_in (in_t0 (List.mem_of_getElem? (i := 20) (by decide +kernel))) rfl
theorem tp_21 : Cond.selects RX2 yX2_reckoned yX2_reckoned ∈ jT := jT_in (in_t0 (List.mem_of_getElem? (i := 21) (by decide +kernel))) rfl
theorem tp_22 : Cond.selects RX11 yX11_giveFromParish yX11_giveFromParish ∈ jT := jT_in (in_t0 (List.mem_of_getElem? (i := 22) (by decide +kernel))) rfl
theorem tp_23 : Cond.selects RX11 yX11_costOf yX11_costOf ∈ jT := jT_in (in_t0 (List.mem_of_getElem? (i := 23) (by decide +kernel))) rfl
theorem tp_24 : Cond.selects RX11 yX11_daysLeft yX11_daysLeft ∈ jT := jT_in (in_t0 (List.mem_of_getElem? (i := 24) (by decide +kernel))) rfl
theorem tp_25 : Cond.selects RX11 yX11_costOfAll yX11_costOfAll ∈ jT := jT_in (in_t0 (List.mem_of_getElem? (i := 25) (by decide +kernel))) rfl
theorem tp_26 : Cond.selects RX7 yX7_follow yX7_follow ∈ jT := jT_in (in_t0 (List.mem_of_getElem? (i := 26) (by decide +kernel))) rfl
theorem tp_27 : Cond.selects RX7 yX7_note yX7_note ∈ jT := jT_in (in_t0 (List.mem_of_getElem? (i := 27) (by decide +kernel))) rfl
theorem tp_28 : Cond.selects RX9 yX9_netAt yX9_netAt ∈ jT := jT_in (in_t0 (List.mem_of_getElem? (i := 28) (by decide +kernel))) rfl
theorem tp_29 : Cond.selects RX1 yX1_share yX1_share ∈ jT := jT_in (in_t0 (List.mem_of_getElem? (i := 29) (by decide +kernel))) rfl
theorem tp_30 : Cond.selects RX1 yX1_note yX1_note ∈ jT := jT_in (in_t0 (List.mem_of_getElem? (i := 30) (by decide +kernel))) rfl
theorem tp_31 : Cond.selects RX9 yX9_costOfWay yX9_costOfWay ∈ jT := jT_in (in_t0 (List.mem_of_getElem? (i := 31) (by decide +kernel))) rfl
theorem tp_32 : Cond.selects RX12 yX12_types yX12_types ∈ jT := jT_in (in_t0 (List.mem_of_getElem? (i := 32) (by decide +kernel))) rfl
theorem tp_33 : Cond.selects RX12 yX12_beginsText yX12_beginsText ∈ jT := jT_in (in_t0 (List.mem_of_getElem? (i := 33) (by decide +kernel))) rfl
theorem tp_34 : Cond.selects RX12 yX12_readsRule yX12_readsRule ∈ jT := jT_in (in_t0 (List.mem_of_getElem? (i := 34) (by decide +kernel))) rfl
theorem tp_35 : Cond.selects RX12 yX12_here yX12_here ∈ jT := jT_in (in_t0 (List.mem_of_getElem? (i := 35) (by decide +kernel))) rfl
theorem tp_36 : Cond.selects RX12 yX12_wrongAt yX12_wrongAt ∈ jT := jT_in (in_t0 (List.mem_of_getElem? (i := 36) (by decide +kernel))) rfl
theorem tp_37 : Cond.selects RX12 yX12_readsSum yX12_readsSum ∈ jT := jT_in (in_t0 (List.mem_of_getElem? (i := 37) (by decide +kernel))) rfl
theorem tp_38 : Cond.selects RX12 yX12_readsFactor yX12_readsFactor ∈ jT := jT_in (in_t0 (List.mem_of_getElem? (i := 38) (by decide +kernel))) rfl
theorem tp_39 : Cond.selects RX12 yX12_opens yX12_opens ∈ jT := jT_in (in_t0 (List.mem_of_getElem? (i := 39) (by decide +kernel))) rfl
theorem tp_40 : Cond.selects RX12 yX12_isDigit yX12_isDigit ∈ jT := jT_in (in_t0 (List.mem_of_getElem? (i := 40) (by decide +kernel))) rfl
theorem tp_41 : Cond.selects RX12 yX12_readsNumber yX12_readsNumber ∈ jT := jT_in (in_t0 (List.mem_of_getElem? (i := 41) (by decide +kernel))) rfl
theorem tp_42 : Cond.selects RX12 yX12_notes yX12_notes ∈ jT := jT_in (in_t0 (List.mem_of_getElem? (i := 42) (by decide +kernel))) rfl
theorem tp_43 : Cond.selects RX12 yX12_closesSums yX12_closesSums ∈ jT := jT_in (in_t0 (List.mem_of_getElem? (i := 43) (by decide +kernel))) rfl
theorem tp_44 : Cond.selects RX12 yX12_waitTop yX12_waitTop ∈ jT := jT_in (in_t0 (List.mem_of_getElem? (i := 44) (by decide +kernel))) rfl
theorem tp_45 : Cond.selects RX12 yX12_hasOpenSum yX12_hasOpenSum ∈ jT := jT_in (in_t0 (List.mem_of_getElem? (i := 45) (by decide +kernel))) rfl
theorem tp_46 : Cond.selects RX12 yX12_readsCondition yX12_readsCondition ∈ jT := jT_in (in_t0 (List.mem_of_getElem? (i := 46) (by decide +kernel))) rfl
theorem tp_47 : Cond.selects RX12 yX12_readsCompared yX12_readsCompared ∈ jT := jT_in (in_t0 (List.mem_of_getElem? (i := 47) (by decide +kernel))) rfl
theorem tp_48 : Cond.selects RX12 yX12_endsPiece yX12_endsPiece ∈ jT := jT_in (in_t0 (List.mem_of_getElem? (i := 48) (by decide +kernel))) rfl
theorem tp_49 : Cond.selects RX12 yX12_lands yX12_lands ∈ jT := jT_in (in_t0 (List.mem_of_getElem? (i := 49) (by decide +kernel))) rfl
theorem tp_50 : Cond.selects RX12 yX12_jumps yX12_jumps ∈ jT := jT_in (in_t0 (List.mem_of_getElem? (i := 50) (by decide +kernel))) rfl
theorem tp_51 : Cond.selects RX12 yX12_takes yX12_takes ∈ jT := jT_in (in_t0 (List.mem_of_getElem? (i := 51) (by decide +kernel))) rfl
theorem tp_52 : Cond.selects RX12 yX12_readsHour yX12_readsHour ∈ jT := jT_in (in_t0 (List.mem_of_getElem? (i := 52) (by decide +kernel))) rfl
theorem tp_53 : Cond.selects RX12 yX12_readsTimes yX12_readsTimes ∈ jT := jT_in (in_t0 (List.mem_of_getElem? (i := 53) (by decide +kernel))) rfl
theorem tp_54 : Cond.selects RX12 yX12_repeats yX12_repeats ∈ jT := jT_in (in_t0 (List.mem_of_getElem? (i := 54) (by decide +kernel))) rfl
theorem tp_55 : Cond.selects RX12 yX12_readsLoan yX12_readsLoan ∈ jT := jT_in (in_t0 (List.mem_of_getElem? (i := 55) (by decide +kernel))) rfl
theorem tp_56 : Cond.selects RX12 yX12_isLetter yX12_isLetter ∈ jT := jT_in (in_t0 (List.mem_of_getElem? (i := 56) (by decide +kernel))) rfl
theorem tp_57 : Cond.selects RX12 yX12_isTold yX12_isTold ∈ jT := jT_in (in_t0 (List.mem_of_getElem? (i := 57) (by decide +kernel))) rfl
theorem tp_58 : Cond.selects RX12 yX12_readsAmount yX12_readsAmount ∈ jT := jT_in (in_t0 (List.mem_of_getElem? (i := 58) (by decide +kernel))) rfl
theorem tp_59 : Cond.selects RX12 yX12_readsPerhaps yX12_readsPerhaps ∈ jT := jT_in (in_t0 (List.mem_of_getElem? (i := 59) (by decide +kernel))) rfl
theorem tp_60 : Cond.selects RX12 yX12_daysGo yX12_daysGo ∈ jT := jT_in (in_t0 (List.mem_of_getElem? (i := 60) (by decide +kernel))) rfl
theorem tp_61 : Cond.selects RX12 yX12_dayGoes yX12_dayGoes ∈ jT := jT_in (in_t0 (List.mem_of_getElem? (i := 61) (by decide +kernel))) rfl
theorem tp_62 : Cond.selects RX12 yX12_isLiving yX12_isLiving ∈ jT := jT_in (in_t0 (List.mem_of_getElem? (i := 62) (by decide +kernel))) rfl
theorem tp_63 : Cond.selects RX12 yX12_hourOf yX12_hourOf ∈ jT := jT_in (in_t0 (List.mem_of_getElem? (i := 63) (by decide +kernel))) rfl
theorem tp_64 : Cond.selects RX12 yX12_othersDoing yX12_othersDoing ∈ jT := jT_in (in_t0 (List.mem_of_getElem? (i := 64) (by decide +kernel))) rfl
theorem tp_65 : Cond.selects RX12 yX12_doing yX12_doing ∈ jT := jT_in (in_t0 (List.mem_of_getElem? (i := 65) (by decide +kernel))) rfl
theorem tp_66 : Cond.selects RX12 yX12_feels yX12_feels ∈ jT := jT_in (in_t0 (List.mem_of_getElem? (i := 66) (by decide +kernel))) rfl
theorem tp_67 : Cond.selects RX12 yX12_debtsOf yX12_debtsOf ∈ jT := jT_in (in_t0 (List.mem_of_getElem? (i := 67) (by decide +kernel))) rfl
theorem tp_68 : Cond.selects RX12 yX12_paceNow yX12_paceNow ∈ jT := jT_in (in_t0 (List.mem_of_getElem? (i := 68) (by decide +kernel))) rfl
theorem tp_69 : Cond.selects RX12 yX12_byLaw yX12_byLaw ∈ jT := jT_in (in_t0 (List.mem_of_getElem? (i := 69) (by decide +kernel))) rfl
theorem tp_70 : Cond.selects RX12 yX12_reckonsTo yX12_reckonsTo ∈ jT := jT_in (in_t0 (List.mem_of_getElem? (i := 70) (by decide +kernel))) rfl
theorem tp_71 : Cond.selects RX12 yX12_holdsAny yX12_holdsAny ∈ jT := jT_in (in_t0 (List.mem_of_getElem? (i := 71) (by decide +kernel))) rfl
theorem tp_72 : Cond.selects RX12 yX12_diesNow yX12_diesNow ∈ jT := jT_in (in_t0 (List.mem_of_getElem? (i := 72) (by decide +kernel))) rfl
theorem tp_73 : Cond.selects RX12 yX12_loanGoes yX12_loanGoes ∈ jT := jT_in (in_t0 (List.mem_of_getElem? (i := 73) (by decide +kernel))) rfl
theorem tp_74 : Cond.selects RX12 yX12_parishGives yX12_parishGives ∈ jT := jT_in (in_t0 (List.mem_of_getElem? (i := 74) (by decide +kernel))) rfl
theorem tp_75 : Cond.selects RX12 yX12_isLoan yX12_isLoan ∈ jT := jT_in (in_t0 (List.mem_of_getElem? (i := 75) (by decide +kernel))) rfl
theorem tp_76 : Cond.selects RX12 yX12_livingSet yX12_livingSet ∈ jT := jT_in (in_t0 (List.mem_of_getElem? (i := 76) (by decide +kernel))) rfl
theorem tp_77 : Cond.selects RX12 yX12_netOf yX12_netOf ∈ jT := jT_in (in_t0 (List.mem_of_getElem? (i := 77) (by decide +kernel))) rfl
theorem tp_78 : Cond.selects RX12 yX12_costsOfDay yX12_costsOfDay ∈ jT := jT_in (in_t0 (List.mem_of_getElem? (i := 78) (by decide +kernel))) rfl
theorem tp_79 : Cond.selects RX12 yX12_costsIn yX12_costsIn ∈ jT := jT_in (in_t0 (List.mem_of_getElem? (i := 79) (by decide +kernel))) rfl
theorem tp_80 : Cond.selects RX12 yX12_toldSet yX12_toldSet ∈ jT := jT_in (in_t0 (List.mem_of_getElem? (i := 80) (by decide +kernel))) rfl
theorem tp_81 : Cond.selects RX12 yX12_doingAs yX12_doingAs ∈ jT := jT_in (in_t0 (List.mem_of_getElem? (i := 81) (by decide +kernel))) rfl
theorem tp_82 : Cond.selects RX12 yX12_costsOfAll yX12_costsOfAll ∈ jT := jT_in (in_t0 (List.mem_of_getElem? (i := 82) (by decide +kernel))) rfl
theorem tp_83 : Cond.selects RX12 yX12_alikeBy yX12_alikeBy ∈ jT := jT_in (in_t0 (List.mem_of_getElem? (i := 83) (by decide +kernel))) rfl
theorem tp_84 : Cond.selects RX12 yX12_goesFrom yX12_goesFrom ∈ jT := jT_in (in_t0 (List.mem_of_getElem? (i := 84) (by decide +kernel))) rfl
theorem tp_85 : Cond.selects RX12 yX12_countsRing yX12_countsRing ∈ jT := jT_in (in_t0 (List.mem_of_getElem? (i := 85) (by decide +kernel))) rfl
theorem tp_86 : Cond.selects RX12 yX12_isInRing yX12_isInRing ∈ jT := jT_in (in_t0 (List.mem_of_getElem? (i := 86) (by decide +kernel))) rfl
theorem tp_87 : Cond.selects RX12 yX12_sumOf yX12_sumOf ∈ jT := jT_in (in_t0 (List.mem_of_getElem? (i := 87) (by decide +kernel))) rfl
theorem tp_88 : Cond.selects RX12 yX12_twoOctets yX12_twoOctets ∈ jT := jT_in (in_t0 (List.mem_of_getElem? (i := 88) (by decide +kernel))) rfl
theorem tp_89 : Cond.selects RX12 yX12_octet yX12_octet ∈ jT := jT_in (in_t0 (List.mem_of_getElem? (i := 89) (by decide +kernel))) rfl
theorem tp_90 : Cond.selects RX12 yX12_sumBy yX12_sumBy ∈ jT := jT_in (in_t0 (List.mem_of_getElem? (i := 90) (by decide +kernel))) rfl
theorem tp_91 : Cond.selects RX12 yX12_nextRow yX12_nextRow ∈ jT := jT_in (in_t0 (List.mem_of_getElem? (i := 91) (by decide +kernel))) rfl
theorem tp_92 : Cond.selects RX12 yX12_isTable yX12_isTable ∈ jT := jT_in (in_t0 (List.mem_of_getElem? (i := 92) (by decide +kernel))) rfl
theorem tp_93 : Cond.selects RX12 yX12_deathsAt yX12_deathsAt ∈ jT := jT_in (in_t0 (List.mem_of_getElem? (i := 93) (by decide +kernel))) rfl
theorem tp_94 : Cond.selects RX12 yX12_climbs yX12_climbs ∈ jT := jT_in (in_t0 (List.mem_of_getElem? (i := 94) (by decide +kernel))) rfl
theorem tp_95 : Cond.selects RX12 yX12_richest yX12_richest ∈ jT := jT_in (in_t0 (List.mem_of_getElem? (i := 95) (by decide +kernel))) rfl
theorem hi_X0 : ∀ w ∈ u_ws RX0 TX0 8, w ∈ jT := by
  have h1 : ∀ w ∈ u_ws RX0 TX0 8, w ∈ lw_tbl := by decide +kernel
  have h2 : ∀ w ∈ u_ws RX0 TX0 8, goodWord w = true := by decide +kernel
  exact fun w hw => jT_in (h1 w hw) (h2 w hw)
theorem hi_X1 : ∀ w ∈ u_ws RX1 TX1 6, w ∈ jT := by
  have h1 : ∀ w ∈ u_ws RX1 TX1 6, w ∈ lw_tbl := by decide +kernel
  have h2 : ∀ w ∈ u_ws RX1 TX1 6, goodWord w = true := by decide +kernel
  exact fun w hw => jT_in (h1 w hw) (h2 w hw)
theorem hi_X2 : ∀ w ∈ u_ws RX2 TX2 10, w ∈ jT := by
  have h1 : ∀ w ∈ u_ws RX2 TX2 10, w ∈ lw_tbl := by decide +kernel
  have h2 : ∀ w ∈ u_ws RX2 TX2 10, goodWord w = true := by decide +kernel
  exact fun w hw => jT_in (h1 w hw) (h2 w hw)
theorem hi_X3 : ∀ w ∈ u_ws RX3 TX3 7, w ∈ jT := by
  have h1 : ∀ w ∈ u_ws RX3 TX3 7, w ∈ lw_tbl := by decide +kernel
  have h2 : ∀ w ∈ u_ws RX3 TX3 7, goodWord w = true := by decide +kernel
  exact fun w hw => jT_in (h1 w hw) (h2 w hw)
theorem hi_X4 : ∀ w ∈ u_ws RX4 TX4 1, w ∈ jT := by
  have h1 : ∀ w ∈ u_ws RX4 TX4 1, w ∈ lw_tbl := by decide +kernel
  have h2 : ∀ w ∈ u_ws RX4 TX4 1, goodWord w = true := by decide +kernel
  exact fun w hw => jT_in (h1 w hw) (h2 w hw)
theorem hi_X5 : ∀ w ∈ u_ws RX5 TX5 2, w ∈ jT := by
  have h1 : ∀ w ∈ u_ws RX5 TX5 2, w ∈ lw_tbl := by decide +kernel
  have h2 : ∀ w ∈ u_ws RX5 TX5 2, goodWord w = true := by decide +kernel
  exact fun w hw => jT_in (h1 w hw) (h2 w hw)
theorem hi_X6 : ∀ w ∈ u_ws RX6 TX6 7, w ∈ jT := by
  have h1 : ∀ w ∈ u_ws RX6 TX6 7, w ∈ lw_tbl := by decide +kernel
  have h2 : ∀ w ∈ u_ws RX6 TX6 7, goodWord w = true := by decide +kernel
  exact fun w hw => jT_in (h1 w hw) (h2 w hw)
theorem hi_X7 : ∀ w ∈ u_ws RX7 TX7 3, w ∈ jT := by
  have h1 : ∀ w ∈ u_ws RX7 TX7 3, w ∈ lw_tbl := by decide +kernel
  have h2 : ∀ w ∈ u_ws RX7 TX7 3, goodWord w = true := by decide +kernel
  exact fun w hw => jT_in (h1 w hw) (h2 w hw)
theorem hi_X8 : ∀ w ∈ u_ws RX8 TX8 5, w ∈ jT := by
  have h1 : ∀ w ∈ u_ws RX8 TX8 5, w ∈ lw_tbl := by decide +kernel
  have h2 : ∀ w ∈ u_ws RX8 TX8 5, goodWord w = true := by decide +kernel
  exact fun w hw => jT_in (h1 w hw) (h2 w hw)
theorem hi_X9 : ∀ w ∈ u_ws RX9 TX9 3, w ∈ jT := by
  have h1 : ∀ w ∈ u_ws RX9 TX9 3, w ∈ lw_tbl := by decide +kernel
  have h2 : ∀ w ∈ u_ws RX9 TX9 3, goodWord w = true := by decide +kernel
  exact fun w hw => jT_in (h1 w hw) (h2 w hw)
theorem hi_X10 : ∀ w ∈ u_ws RX10 TX10 6, w ∈ jT := by
  have h1 : ∀ w ∈ u_ws RX10 TX10 6, w ∈ lw_tbl := by decide +kernel
  have h2 : ∀ w ∈ u_ws RX10 TX10 6, goodWord w = true := by decide +kernel
  exact fun w hw => jT_in (h1 w hw) (h2 w hw)
theorem hi_X11 : ∀ w ∈ u_ws RX11 TX11 14, w ∈ jT := by
  have h1 : ∀ w ∈ u_ws RX11 TX11 14, w ∈ lw_tbl := by decide +kernel
  have h2 : ∀ w ∈ u_ws RX11 TX11 14, goodWord w = true := by decide +kernel
  exact fun w hw => jT_in (h1 w hw) (h2 w hw)
theorem hi_X12 : ∀ w ∈ u_ws RX12 TX12 51, w ∈ jT := by
  have h1 : ∀ w ∈ u_ws RX12 TX12 51, w ∈ lw_tbl := by decide +kernel
  have h2 : ∀ w ∈ u_ws RX12 TX12 51, goodWord w = true := by decide +kernel
  exact fun w hw => jT_in (h1 w hw) (h2 w hw)
