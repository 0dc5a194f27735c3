/-! ===== words of the tables, each by its place ===== -/
theorem in_t1 {w : Cond} (h : w ∈ tables_1_1) : w ∈ lw_tbl := List.mem_append_right _ (List.mem_append_left _ h)
theorem in_t2 {w : Cond} (h : w ∈ tables_1_2) : w ∈ lw_tbl := List.mem_append_right _ (List.mem_append_right _ (List.mem_append_left _ h))
theorem in_t3 {w : Cond} (h : w ∈ tables_1_3) : w ∈ lw_tbl := List.mem_append_right _ (List.mem_append_right _ (List.mem_append_right _ (List.mem_append_left _ h)))
theorem in_t4 {w : Cond} (h : w ∈ tables_1_4) : w ∈ lw_tbl := List.mem_append_right _ (List.mem_append_right _ (List.mem_append_right _ (List.mem_append_right _ (List.mem_append_left _ h))))
theorem in_t5 {w : Cond} (h : w ∈ tables_1_5) : w ∈ lw_tbl := List.mem_append_right _ (List.mem_append_right _ (List.mem_append_right _ (List.mem_append_right _ (List.mem_append_right _ (List.mem_append_left _ h)))))
theorem in_t6 {w : Cond} (h : w ∈ tables_1_6) : w ∈ lw_tbl := List.mem_append_right _ (List.mem_append_right _ (List.mem_append_right _ (List.mem_append_right _ (List.mem_append_right _ (List.mem_append_right _ (List.mem_append_left _ h))))))
theorem in_t7 {w : Cond} (h : w ∈ tables_1_7) : w ∈ lw_tbl := List.mem_append_right _ (List.mem_append_right _ (List.mem_append_right _ (List.mem_append_right _ (List.mem_append_right _ (List.mem_append_right _ (List.mem_append_right _ (List.mem_append_left _ h)))))))
theorem in_t8 {w : Cond} (h : w ∈ tables_1_8) : w ∈ lw_tbl := List.mem_append_right _ (List.mem_append_right _ (List.mem_append_right _ (List.mem_append_right _ (List.mem_append_right _ (List.mem_append_right _ (List.mem_append_right _ (List.mem_append_right _ (h))))))))
theorem tw_2_111 : Cond.fieldLink RX11 58 "SecondLife" "trays" "[LSecondLife$Tray;" ∈ lw_tbl := in_t2 (List.mem_of_getElem? (i := 111) (by decide +kernel))
theorem tw_1_184 : Cond.classLink RX11 56 RX9 ∈ lw_tbl := in_t1 (List.mem_of_getElem? (i := 184) (by decide +kernel))
theorem tw_2_80 : Cond.instantiable RX9 4 ∈ lw_tbl := in_t2 (List.mem_of_getElem? (i := 80) (by decide +kernel))
theorem tw_1_13 : Cond.initialized RX9 ∈ lw_tbl := in_t1 (List.mem_of_getElem? (i := 13) (by decide +kernel))
theorem tw_2_103 : Cond.fieldLink RX11 13 "SecondLife" "taped" "I" ∈ lw_tbl := in_t2 (List.mem_of_getElem? (i := 103) (by decide +kernel))
theorem tw_2_104 : Cond.fieldLink RX11 20 "SecondLife" "reader" "LSecondLife$Reader;" ∈ lw_tbl := in_t2 (List.mem_of_getElem? (i := 104) (by decide +kernel))
theorem tw_1_106 : Cond.fieldLinkNest RX11 133 "SecondLife$Reader" "place" "I" "SecondLife" ∈ lw_tbl := in_t1 (List.mem_of_getElem? (i := 106) (by decide +kernel))
theorem tw_1_104 : Cond.fieldLinkNest RX11 120 "SecondLife$Reader" "fault" "I" "SecondLife" ∈ lw_tbl := in_t1 (List.mem_of_getElem? (i := 104) (by decide +kernel))
theorem tw_3_205 : Cond.code yX11_fault cX11_fault 2 (some .int) ∈ lw_tbl := in_t3 (List.mem_of_getElem? (i := 205) (by decide +kernel))
theorem tw_1_1 : Cond.initialized RX11 ∈ lw_tbl := in_t1 (List.mem_of_getElem? (i := 1) (by decide +kernel))
theorem tw_3_203 : Cond.instanceMethod yX11_fault ∈ lw_tbl := in_t3 (List.mem_of_getElem? (i := 203) (by decide +kernel))
theorem tw_3_204 : Cond.selects RX11 yX11_fault yX11_fault ∈ lw_tbl := in_t3 (List.mem_of_getElem? (i := 204) (by decide +kernel))
theorem tw_2_106 : Cond.fieldLink RX11 34 "SecondLife" "now" "LSecondLife$People;" ∈ lw_tbl := in_t2 (List.mem_of_getElem? (i := 106) (by decide +kernel))
theorem tw_2_107 : Cond.fieldLink RX11 38 "SecondLife" "trial" "LSecondLife$People;" ∈ lw_tbl := in_t2 (List.mem_of_getElem? (i := 107) (by decide +kernel))
theorem tw_2_108 : Cond.fieldLink RX11 44 "SecondLife" "past" "LSecondLife$Past;" ∈ lw_tbl := in_t2 (List.mem_of_getElem? (i := 108) (by decide +kernel))
theorem tw_2_105 : Cond.fieldLink RX11 27 "SecondLife" "town" "LSecondLife$Town;" ∈ lw_tbl := in_t2 (List.mem_of_getElem? (i := 105) (by decide +kernel))
theorem tw_1_59 : Cond.fieldLinkNest RX11 278 "SecondLife$Town" "trades" "I" "SecondLife" ∈ lw_tbl := in_t1 (List.mem_of_getElem? (i := 59) (by decide +kernel))
theorem tw_1_52 : Cond.fieldLinkNest RX11 148 "SecondLife$Town" "years" "I" "SecondLife" ∈ lw_tbl := in_t1 (List.mem_of_getElem? (i := 52) (by decide +kernel))
theorem tw_1_152 : Cond.fieldLinkNest RX11 319 "SecondLife$People" "size" "I" "SecondLife" ∈ lw_tbl := in_t1 (List.mem_of_getElem? (i := 152) (by decide +kernel))
theorem tw_1_155 : Cond.fieldLinkNest RX11 182 "SecondLife$People" "cash" "I" "SecondLife" ∈ lw_tbl := in_t1 (List.mem_of_getElem? (i := 155) (by decide +kernel))
theorem tw_2_158 : Cond.constant RX11 323 (-99000000) ∈ lw_tbl := in_t2 (List.mem_of_getElem? (i := 158) (by decide +kernel))
theorem tw_2_157 : Cond.code yX11_refused cX11_refused 1 (some .int) ∈ lw_tbl := in_t2 (List.mem_of_getElem? (i := 157) (by decide +kernel))
theorem tw_2_156 : Cond.static yX11_refused ∈ lw_tbl := in_t2 (List.mem_of_getElem? (i := 156) (by decide +kernel))
theorem tw_2_102 : Cond.fieldLink RX11 9 "SecondLife" "tape" "[B" ∈ lw_tbl := in_t2 (List.mem_of_getElem? (i := 102) (by decide +kernel))
theorem tw_2_162 : Cond.code yX11_tapeWord cX11_tapeWord 3 none ∈ lw_tbl := in_t2 (List.mem_of_getElem? (i := 162) (by decide +kernel))
theorem tw_2_161 : Cond.instanceMethod yX11_tapeWord ∈ lw_tbl := in_t2 (List.mem_of_getElem? (i := 161) (by decide +kernel))
theorem tw_4_94 : Cond.code yX11_trayAt cX11_trayAt 2 (some (.object "SecondLife$Tray")) ∈ lw_tbl := in_t4 (List.mem_of_getElem? (i := 94) (by decide +kernel))
theorem tw_4_93 : Cond.instanceMethod yX11_trayAt ∈ lw_tbl := in_t4 (List.mem_of_getElem? (i := 93) (by decide +kernel))
theorem tw_2_92 : Cond.fieldLinkNest RX11 212 "SecondLife$Tray" "size" "I" "SecondLife" ∈ lw_tbl := in_t2 (List.mem_of_getElem? (i := 92) (by decide +kernel))
theorem tw_4_12 : Cond.code yX11_within cX11_within 3 (some .int) ∈ lw_tbl := in_t4 (List.mem_of_getElem? (i := 12) (by decide +kernel))
theorem tw_4_11 : Cond.static yX11_within ∈ lw_tbl := in_t4 (List.mem_of_getElem? (i := 11) (by decide +kernel))
theorem tw_6_164 : Cond.code yX12_within cX12_within 6 (some .boolean) ∈ lw_tbl := in_t6 (List.mem_of_getElem? (i := 164) (by decide +kernel))
theorem tw_1_14 : Cond.initialized RX12 ∈ lw_tbl := in_t1 (List.mem_of_getElem? (i := 14) (by decide +kernel))
theorem tw_6_163 : Cond.static yX12_within ∈ lw_tbl := in_t6 (List.mem_of_getElem? (i := 163) (by decide +kernel))
theorem tw_6_38 : Cond.methodLink RX12 7 Lib.objectInit ∈ lw_tbl := in_t6 (List.mem_of_getElem? (i := 38) (by decide +kernel))
theorem tw_1_29 : Cond.instanceMethod Lib.objectInit ∈ lw_tbl := in_t1 (List.mem_of_getElem? (i := 29) (by decide +kernel))
theorem tw_1_30 : Cond.code Lib.objectInit ⟨#[0xb1]⟩ 1 none ∈ lw_tbl := in_t1 (List.mem_of_getElem? (i := 30) (by decide +kernel))
theorem tw_1_102 : Cond.arrayClass .int ∈ lw_tbl := in_t1 (List.mem_of_getElem? (i := 102) (by decide +kernel))
theorem tw_6_44 : Cond.fieldLink RX12 13 "SecondLifeModel" "all" "[I" ∈ lw_tbl := in_t6 (List.mem_of_getElem? (i := 44) (by decide +kernel))
theorem tw_6_152 : Cond.arrayClass .boolean ∈ lw_tbl := in_t6 (List.mem_of_getElem? (i := 152) (by decide +kernel))
theorem tw_6_45 : Cond.fieldLink RX12 17 "SecondLifeModel" "hasImage" "[Z" ∈ lw_tbl := in_t6 (List.mem_of_getElem? (i := 45) (by decide +kernel))
theorem tw_6_46 : Cond.fieldLink RX12 21 "SecondLifeModel" "tape" "[I" ∈ lw_tbl := in_t6 (List.mem_of_getElem? (i := 46) (by decide +kernel))
theorem tw_6_47 : Cond.fieldLink RX12 24 "SecondLifeModel" "fresh" "[I" ∈ lw_tbl := in_t6 (List.mem_of_getElem? (i := 47) (by decide +kernel))
theorem tw_6_57 : Cond.fieldLink RX12 27 "SecondLifeModel" "faultPlace" "I" ∈ lw_tbl := in_t6 (List.mem_of_getElem? (i := 57) (by decide +kernel))
theorem tw_6_59 : Cond.fieldLink RX12 30 "SecondLifeModel" "reckoned" "[I" ∈ lw_tbl := in_t6 (List.mem_of_getElem? (i := 59) (by decide +kernel))
theorem tw_6_60 : Cond.fieldLink RX12 33 "SecondLifeModel" "words" "[I" ∈ lw_tbl := in_t6 (List.mem_of_getElem? (i := 60) (by decide +kernel))
theorem tw_6_61 : Cond.fieldLink RX12 36 "SecondLifeModel" "was" "[I" ∈ lw_tbl := in_t6 (List.mem_of_getElem? (i := 61) (by decide +kernel))
theorem tw_6_64 : Cond.fieldLink RX12 39 "SecondLifeModel" "most" "[I" ∈ lw_tbl := in_t6 (List.mem_of_getElem? (i := 64) (by decide +kernel))
theorem tw_6_65 : Cond.fieldLink RX12 42 "SecondLifeModel" "few" "[I" ∈ lw_tbl := in_t6 (List.mem_of_getElem? (i := 65) (by decide +kernel))
theorem tw_2_42 : Cond.arrayClass .long ∈ lw_tbl := in_t2 (List.mem_of_getElem? (i := 42) (by decide +kernel))
theorem tw_6_66 : Cond.fieldLink RX12 45 "SecondLifeModel" "many" "[J" ∈ lw_tbl := in_t6 (List.mem_of_getElem? (i := 66) (by decide +kernel))
theorem tw_6_67 : Cond.fieldLink RX12 49 "SecondLifeModel" "known" "[Z" ∈ lw_tbl := in_t6 (List.mem_of_getElem? (i := 67) (by decide +kernel))
theorem tw_6_70 : Cond.fieldLink RX12 52 "SecondLifeModel" "sums" "[I" ∈ lw_tbl := in_t6 (List.mem_of_getElem? (i := 70) (by decide +kernel))
theorem tw_6_71 : Cond.fieldLink RX12 55 "SecondLifeModel" "sumsThen" "[I" ∈ lw_tbl := in_t6 (List.mem_of_getElem? (i := 71) (by decide +kernel))
theorem tw_6_72 : Cond.fieldLink RX12 58 "SecondLifeModel" "means" "[J" ∈ lw_tbl := in_t6 (List.mem_of_getElem? (i := 72) (by decide +kernel))
theorem tw_6_39 : Cond.constant RX12 61 (373870) ∈ lw_tbl := in_t6 (List.mem_of_getElem? (i := 39) (by decide +kernel))
theorem tw_6_73 : Cond.fieldLink RX12 62 "SecondLifeModel" "hopes" "[J" ∈ lw_tbl := in_t6 (List.mem_of_getElem? (i := 73) (by decide +kernel))
theorem tw_6_74 : Cond.fieldLink RX12 65 "SecondLifeModel" "often" "[I" ∈ lw_tbl := in_t6 (List.mem_of_getElem? (i := 74) (by decide +kernel))
theorem tw_6_76 : Cond.fieldLink RX12 68 "SecondLifeModel" "rowSort" "[I" ∈ lw_tbl := in_t6 (List.mem_of_getElem? (i := 76) (by decide +kernel))
theorem tw_6_77 : Cond.fieldLink RX12 71 "SecondLifeModel" "rowMany" "[I" ∈ lw_tbl := in_t6 (List.mem_of_getElem? (i := 77) (by decide +kernel))
theorem tw_6_78 : Cond.fieldLink RX12 74 "SecondLifeModel" "numbers" "[J" ∈ lw_tbl := in_t6 (List.mem_of_getElem? (i := 78) (by decide +kernel))
theorem tw_6_42 : Cond.code yX12_plain cX12_plain 2 none ∈ lw_tbl := in_t6 (List.mem_of_getElem? (i := 42) (by decide +kernel))
theorem tw_6_41 : Cond.static yX12_plain ∈ lw_tbl := in_t6 (List.mem_of_getElem? (i := 41) (by decide +kernel))
theorem tw_6_48 : Cond.fieldLink RX12 81 "SecondLifeModel" "taped" "I" ∈ lw_tbl := in_t6 (List.mem_of_getElem? (i := 48) (by decide +kernel))
theorem tw_6_43 : Cond.fieldLink RX12 1 "SecondLifeModel" "thrown" "I" ∈ lw_tbl := in_t6 (List.mem_of_getElem? (i := 43) (by decide +kernel))
theorem tw_6_157 : Cond.constant RX12 84 (-99000005) ∈ lw_tbl := in_t6 (List.mem_of_getElem? (i := 157) (by decide +kernel))
theorem tw_6_156 : Cond.code yX12_feed cX12_feed 8 (some .int) ∈ lw_tbl := in_t6 (List.mem_of_getElem? (i := 156) (by decide +kernel))
theorem tw_6_154 : Cond.instanceMethod yX12_feed ∈ lw_tbl := in_t6 (List.mem_of_getElem? (i := 154) (by decide +kernel))
theorem tw_6_155 : Cond.selects RX12 yX12_feed yX12_feed ∈ lw_tbl := in_t6 (List.mem_of_getElem? (i := 155) (by decide +kernel))
theorem tw_6_51 : Cond.fieldLink RX12 85 "SecondLifeModel" "size" "I" ∈ lw_tbl := in_t6 (List.mem_of_getElem? (i := 51) (by decide +kernel))
theorem tw_6_173 : Cond.code yX12_see cX12_see 2 (some .int) ∈ lw_tbl := in_t6 (List.mem_of_getElem? (i := 173) (by decide +kernel))
theorem tw_6_172 : Cond.instanceMethod yX12_see ∈ lw_tbl := in_t6 (List.mem_of_getElem? (i := 172) (by decide +kernel))
theorem tw_6_176 : Cond.code yX12_isSmall cX12_isSmall 1 (some .boolean) ∈ lw_tbl := in_t6 (List.mem_of_getElem? (i := 176) (by decide +kernel))
theorem tw_6_175 : Cond.static yX12_isSmall ∈ lw_tbl := in_t6 (List.mem_of_getElem? (i := 175) (by decide +kernel))
theorem tw_6_186 : Cond.code yX12_isDigit cX12_isDigit 1 (some .boolean) ∈ lw_tbl := in_t6 (List.mem_of_getElem? (i := 186) (by decide +kernel))
theorem tw_6_185 : Cond.static yX12_isDigit ∈ lw_tbl := in_t6 (List.mem_of_getElem? (i := 185) (by decide +kernel))
theorem tw_6_54 : Cond.fieldLink RX12 128 "SecondLifeModel" "wrong" "I" ∈ lw_tbl := in_t6 (List.mem_of_getElem? (i := 54) (by decide +kernel))
theorem tw_6_49 : Cond.fieldLink RX12 100 "SecondLifeModel" "at" "I" ∈ lw_tbl := in_t6 (List.mem_of_getElem? (i := 49) (by decide +kernel))
theorem tw_6_55 : Cond.fieldLink RX12 131 "SecondLifeModel" "wrongAt" "I" ∈ lw_tbl := in_t6 (List.mem_of_getElem? (i := 55) (by decide +kernel))
theorem tw_6_52 : Cond.fieldLink RX12 110 "SecondLifeModel" "kind" "I" ∈ lw_tbl := in_t6 (List.mem_of_getElem? (i := 52) (by decide +kernel))
theorem tw_6_199 : Cond.code yX12_fails cX12_fails 2 none ∈ lw_tbl := in_t6 (List.mem_of_getElem? (i := 199) (by decide +kernel))
theorem tw_6_198 : Cond.instanceMethod yX12_fails ∈ lw_tbl := in_t6 (List.mem_of_getElem? (i := 198) (by decide +kernel))
theorem tw_6_195 : Cond.code yX12_is cX12_is 2 (some .boolean) ∈ lw_tbl := in_t6 (List.mem_of_getElem? (i := 195) (by decide +kernel))
theorem tw_6_194 : Cond.instanceMethod yX12_is ∈ lw_tbl := in_t6 (List.mem_of_getElem? (i := 194) (by decide +kernel))
theorem tw_6_192 : Cond.methodLink RX12 134 yX12_is ∈ lw_tbl := in_t6 (List.mem_of_getElem? (i := 192) (by decide +kernel))
theorem tw_6_53 : Cond.fieldLink RX12 123 "SecondLifeModel" "number" "I" ∈ lw_tbl := in_t6 (List.mem_of_getElem? (i := 53) (by decide +kernel))
theorem tw_8_133 : Cond.code yX12_isIn cX12_isIn 3 (some .boolean) ∈ lw_tbl := in_t8 (List.mem_of_getElem? (i := 133) (by decide +kernel))
theorem tw_8_132 : Cond.static yX12_isIn ∈ lw_tbl := in_t8 (List.mem_of_getElem? (i := 132) (by decide +kernel))
theorem tw_6_58 : Cond.fieldLink RX12 148 "SecondLifeModel" "reading" "I" ∈ lw_tbl := in_t6 (List.mem_of_getElem? (i := 58) (by decide +kernel))
theorem tw_7_4 : Cond.constantLong RX12 151 (15) ∈ lw_tbl := in_t7 (List.mem_of_getElem? (i := 4) (by decide +kernel))
theorem tw_7_5 : Cond.constantLong RX12 153 (19) ∈ lw_tbl := in_t7 (List.mem_of_getElem? (i := 5) (by decide +kernel))
theorem tw_6_162 : Cond.methodLink RX12 144 yX12_within ∈ lw_tbl := in_t6 (List.mem_of_getElem? (i := 162) (by decide +kernel))
theorem tw_7_3 : Cond.code yX12_wordOf cX12_wordOf 2 (some .int) ∈ lw_tbl := in_t7 (List.mem_of_getElem? (i := 3) (by decide +kernel))
theorem tw_7_2 : Cond.instanceMethod yX12_wordOf ∈ lw_tbl := in_t7 (List.mem_of_getElem? (i := 2) (by decide +kernel))
theorem tw_6_239 : Cond.code yX12_codes cX12_codes 2 none ∈ lw_tbl := in_t6 (List.mem_of_getElem? (i := 239) (by decide +kernel))
theorem tw_6_238 : Cond.instanceMethod yX12_codes ∈ lw_tbl := in_t6 (List.mem_of_getElem? (i := 238) (by decide +kernel))
theorem tw_6_196 : Cond.methodLink RX12 140 yX12_fails ∈ lw_tbl := in_t6 (List.mem_of_getElem? (i := 196) (by decide +kernel))
theorem tw_7_13 : Cond.code yX12_readIf cX12_readIf 2 none ∈ lw_tbl := in_t7 (List.mem_of_getElem? (i := 13) (by decide +kernel))
theorem tw_7_12 : Cond.instanceMethod yX12_readIf ∈ lw_tbl := in_t7 (List.mem_of_getElem? (i := 12) (by decide +kernel))
theorem tw_7_10 : Cond.methodLink RX12 170 yX12_readIf ∈ lw_tbl := in_t7 (List.mem_of_getElem? (i := 10) (by decide +kernel))
theorem tw_7_26 : Cond.constant RX12 211 (-99000030) ∈ lw_tbl := in_t7 (List.mem_of_getElem? (i := 26) (by decide +kernel))
theorem tw_6_56 : Cond.fieldLink RX12 208 "SecondLifeModel" "faultKind" "I" ∈ lw_tbl := in_t6 (List.mem_of_getElem? (i := 56) (by decide +kernel))
theorem tw_7_30 : Cond.code yX12_fault cX12_fault 2 (some .int) ∈ lw_tbl := in_t7 (List.mem_of_getElem? (i := 30) (by decide +kernel))
theorem tw_7_28 : Cond.instanceMethod yX12_fault ∈ lw_tbl := in_t7 (List.mem_of_getElem? (i := 28) (by decide +kernel))
theorem tw_7_29 : Cond.selects RX12 yX12_fault yX12_fault ∈ lw_tbl := in_t7 (List.mem_of_getElem? (i := 29) (by decide +kernel))
theorem tw_7_38 : Cond.code yX12_isPerson cX12_isPerson 3 (some .boolean) ∈ lw_tbl := in_t7 (List.mem_of_getElem? (i := 38) (by decide +kernel))
theorem tw_7_37 : Cond.instanceMethod yX12_isPerson ∈ lw_tbl := in_t7 (List.mem_of_getElem? (i := 37) (by decide +kernel))
theorem tw_7_47 : Cond.code yX12_isTrade cX12_isTrade 3 (some .boolean) ∈ lw_tbl := in_t7 (List.mem_of_getElem? (i := 47) (by decide +kernel))
theorem tw_7_46 : Cond.instanceMethod yX12_isTrade ∈ lw_tbl := in_t7 (List.mem_of_getElem? (i := 46) (by decide +kernel))
theorem tw_8_152 : Cond.code yX12_bitsOf cX12_bitsOf 3 (some .int) ∈ lw_tbl := in_t8 (List.mem_of_getElem? (i := 152) (by decide +kernel))
theorem tw_8_151 : Cond.static yX12_bitsOf ∈ lw_tbl := in_t8 (List.mem_of_getElem? (i := 151) (by decide +kernel))
theorem tw_7_85 : Cond.constantLong RX12 212 (1000000) ∈ lw_tbl := in_t7 (List.mem_of_getElem? (i := 85) (by decide +kernel))
theorem tw_7_86 : Cond.constantLong RX12 214 (-1000000) ∈ lw_tbl := in_t7 (List.mem_of_getElem? (i := 86) (by decide +kernel))
theorem tw_7_84 : Cond.code yX12_between cX12_between 5 (some .int) ∈ lw_tbl := in_t7 (List.mem_of_getElem? (i := 84) (by decide +kernel))
theorem tw_7_83 : Cond.static yX12_between ∈ lw_tbl := in_t7 (List.mem_of_getElem? (i := 83) (by decide +kernel))
theorem tw_7_82 : Cond.methodLink RX12 216 yX12_between ∈ lw_tbl := in_t7 (List.mem_of_getElem? (i := 82) (by decide +kernel))
theorem tw_7_81 : Cond.code yX12_reckons cX12_reckons 5 (some .int) ∈ lw_tbl := in_t7 (List.mem_of_getElem? (i := 81) (by decide +kernel))
theorem tw_7_80 : Cond.instanceMethod yX12_reckons ∈ lw_tbl := in_t7 (List.mem_of_getElem? (i := 80) (by decide +kernel))
theorem tw_7_54 : Cond.code yX12_standOf cX12_standOf 5 (some .int) ∈ lw_tbl := in_t7 (List.mem_of_getElem? (i := 54) (by decide +kernel))
theorem tw_7_53 : Cond.static yX12_standOf ∈ lw_tbl := in_t7 (List.mem_of_getElem? (i := 53) (by decide +kernel))
theorem tw_7_74 : Cond.code yX12_lifeOf cX12_lifeOf 1 (some .int) ∈ lw_tbl := in_t7 (List.mem_of_getElem? (i := 74) (by decide +kernel))
theorem tw_7_73 : Cond.static yX12_lifeOf ∈ lw_tbl := in_t7 (List.mem_of_getElem? (i := 73) (by decide +kernel))
theorem tw_7_77 : Cond.code yX12_oldOf cX12_oldOf 1 (some .int) ∈ lw_tbl := in_t7 (List.mem_of_getElem? (i := 77) (by decide +kernel))
theorem tw_7_76 : Cond.static yX12_oldOf ∈ lw_tbl := in_t7 (List.mem_of_getElem? (i := 76) (by decide +kernel))
theorem tw_7_61 : Cond.code yX12_yearOf cX12_yearOf 1 (some .int) ∈ lw_tbl := in_t7 (List.mem_of_getElem? (i := 61) (by decide +kernel))
theorem tw_7_60 : Cond.static yX12_yearOf ∈ lw_tbl := in_t7 (List.mem_of_getElem? (i := 60) (by decide +kernel))
theorem tw_7_68 : Cond.code yX12_lastOf cX12_lastOf 2 (some .int) ∈ lw_tbl := in_t7 (List.mem_of_getElem? (i := 68) (by decide +kernel))
theorem tw_7_67 : Cond.static yX12_lastOf ∈ lw_tbl := in_t7 (List.mem_of_getElem? (i := 67) (by decide +kernel))
theorem tw_7_71 : Cond.code yX12_streakOf cX12_streakOf 1 (some .int) ∈ lw_tbl := in_t7 (List.mem_of_getElem? (i := 71) (by decide +kernel))
theorem tw_7_70 : Cond.static yX12_streakOf ∈ lw_tbl := in_t7 (List.mem_of_getElem? (i := 70) (by decide +kernel))
theorem tw_7_52 : Cond.methodLink RX12 220 yX12_standOf ∈ lw_tbl := in_t7 (List.mem_of_getElem? (i := 52) (by decide +kernel))
theorem tw_7_51 : Cond.code yX12_standNow cX12_standNow 2 (some .int) ∈ lw_tbl := in_t7 (List.mem_of_getElem? (i := 51) (by decide +kernel))
theorem tw_7_50 : Cond.instanceMethod yX12_standNow ∈ lw_tbl := in_t7 (List.mem_of_getElem? (i := 50) (by decide +kernel))
theorem tw_7_59 : Cond.methodLink RX12 224 yX12_yearOf ∈ lw_tbl := in_t7 (List.mem_of_getElem? (i := 59) (by decide +kernel))
theorem tw_7_66 : Cond.methodLink RX12 227 yX12_lastOf ∈ lw_tbl := in_t7 (List.mem_of_getElem? (i := 66) (by decide +kernel))
theorem tw_7_69 : Cond.methodLink RX12 230 yX12_streakOf ∈ lw_tbl := in_t7 (List.mem_of_getElem? (i := 69) (by decide +kernel))
theorem tw_7_72 : Cond.methodLink RX12 233 yX12_lifeOf ∈ lw_tbl := in_t7 (List.mem_of_getElem? (i := 72) (by decide +kernel))
theorem tw_7_75 : Cond.methodLink RX12 236 yX12_oldOf ∈ lw_tbl := in_t7 (List.mem_of_getElem? (i := 75) (by decide +kernel))
theorem tw_7_78 : Cond.methodLink RX12 239 yX12_reckons ∈ lw_tbl := in_t7 (List.mem_of_getElem? (i := 78) (by decide +kernel))
theorem tw_7_65 : Cond.code yX12_worthOf cX12_worthOf 5 (some .int) ∈ lw_tbl := in_t7 (List.mem_of_getElem? (i := 65) (by decide +kernel))
theorem tw_7_64 : Cond.instanceMethod yX12_worthOf ∈ lw_tbl := in_t7 (List.mem_of_getElem? (i := 64) (by decide +kernel))
theorem tw_7_94 : Cond.code yX12_grownTo cX12_grownTo 4 (some .int) ∈ lw_tbl := in_t7 (List.mem_of_getElem? (i := 94) (by decide +kernel))
theorem tw_7_93 : Cond.instanceMethod yX12_grownTo ∈ lw_tbl := in_t7 (List.mem_of_getElem? (i := 93) (by decide +kernel))
theorem tw_7_58 : Cond.code yX12_isOver cX12_isOver 2 (some .boolean) ∈ lw_tbl := in_t7 (List.mem_of_getElem? (i := 58) (by decide +kernel))
theorem tw_7_57 : Cond.instanceMethod yX12_isOver ∈ lw_tbl := in_t7 (List.mem_of_getElem? (i := 57) (by decide +kernel))
theorem tw_7_114 : Cond.code yX12_livedTo cX12_livedTo 2 (some .int) ∈ lw_tbl := in_t7 (List.mem_of_getElem? (i := 114) (by decide +kernel))
theorem tw_7_113 : Cond.static yX12_livedTo ∈ lw_tbl := in_t7 (List.mem_of_getElem? (i := 113) (by decide +kernel))
theorem tw_7_91 : Cond.methodLink RX12 242 yX12_grownTo ∈ lw_tbl := in_t7 (List.mem_of_getElem? (i := 91) (by decide +kernel))
theorem tw_7_138 : Cond.code yX12_drawnTo cX12_drawnTo 3 (some .int) ∈ lw_tbl := in_t7 (List.mem_of_getElem? (i := 138) (by decide +kernel))
theorem tw_7_137 : Cond.instanceMethod yX12_drawnTo ∈ lw_tbl := in_t7 (List.mem_of_getElem? (i := 137) (by decide +kernel))
theorem tw_7_35 : Cond.methodLink RX12 245 yX12_isPerson ∈ lw_tbl := in_t7 (List.mem_of_getElem? (i := 35) (by decide +kernel))
theorem tw_7_39 : Cond.constant RX12 249 (-99000002) ∈ lw_tbl := in_t7 (List.mem_of_getElem? (i := 39) (by decide +kernel))
theorem tw_7_34 : Cond.code yX12_person cX12_person 3 (some .int) ∈ lw_tbl := in_t7 (List.mem_of_getElem? (i := 34) (by decide +kernel))
theorem tw_7_32 : Cond.instanceMethod yX12_person ∈ lw_tbl := in_t7 (List.mem_of_getElem? (i := 32) (by decide +kernel))
theorem tw_7_33 : Cond.selects RX12 yX12_person yX12_person ∈ lw_tbl := in_t7 (List.mem_of_getElem? (i := 33) (by decide +kernel))
theorem tw_7_44 : Cond.methodLink RX12 250 yX12_isTrade ∈ lw_tbl := in_t7 (List.mem_of_getElem? (i := 44) (by decide +kernel))
theorem tw_7_48 : Cond.methodLink RX12 253 yX12_standNow ∈ lw_tbl := in_t7 (List.mem_of_getElem? (i := 48) (by decide +kernel))
theorem tw_7_55 : Cond.methodLink RX12 256 yX12_isOver ∈ lw_tbl := in_t7 (List.mem_of_getElem? (i := 55) (by decide +kernel))
theorem tw_7_62 : Cond.methodLink RX12 259 yX12_worthOf ∈ lw_tbl := in_t7 (List.mem_of_getElem? (i := 62) (by decide +kernel))
theorem tw_7_43 : Cond.code yX12_worth cX12_worth 3 (some .int) ∈ lw_tbl := in_t7 (List.mem_of_getElem? (i := 43) (by decide +kernel))
theorem tw_7_41 : Cond.instanceMethod yX12_worth ∈ lw_tbl := in_t7 (List.mem_of_getElem? (i := 41) (by decide +kernel))
theorem tw_7_42 : Cond.selects RX12 yX12_worth yX12_worth ∈ lw_tbl := in_t7 (List.mem_of_getElem? (i := 42) (by decide +kernel))
theorem tw_7_90 : Cond.code yX12_grown cX12_grown 2 (some .int) ∈ lw_tbl := in_t7 (List.mem_of_getElem? (i := 90) (by decide +kernel))
theorem tw_7_88 : Cond.instanceMethod yX12_grown ∈ lw_tbl := in_t7 (List.mem_of_getElem? (i := 88) (by decide +kernel))
theorem tw_7_89 : Cond.selects RX12 yX12_grown yX12_grown ∈ lw_tbl := in_t7 (List.mem_of_getElem? (i := 89) (by decide +kernel))
theorem tw_7_107 : Cond.code yX12_keeps cX12_keeps 2 none ∈ lw_tbl := in_t7 (List.mem_of_getElem? (i := 107) (by decide +kernel))
theorem tw_7_106 : Cond.instanceMethod yX12_keeps ∈ lw_tbl := in_t7 (List.mem_of_getElem? (i := 106) (by decide +kernel))
theorem tw_7_210 : Cond.code yX12_isAgain cX12_isAgain 2 none ∈ lw_tbl := in_t7 (List.mem_of_getElem? (i := 210) (by decide +kernel))
theorem tw_7_209 : Cond.instanceMethod yX12_isAgain ∈ lw_tbl := in_t7 (List.mem_of_getElem? (i := 209) (by decide +kernel))
theorem tw_7_122 : Cond.code yX12_notes cX12_notes 2 none ∈ lw_tbl := in_t7 (List.mem_of_getElem? (i := 122) (by decide +kernel))
theorem tw_7_121 : Cond.instanceMethod yX12_notes ∈ lw_tbl := in_t7 (List.mem_of_getElem? (i := 121) (by decide +kernel))
theorem tw_7_102 : Cond.code yX12_whyLive cX12_whyLive 5 (some .int) ∈ lw_tbl := in_t7 (List.mem_of_getElem? (i := 102) (by decide +kernel))
theorem tw_7_101 : Cond.instanceMethod yX12_whyLive ∈ lw_tbl := in_t7 (List.mem_of_getElem? (i := 101) (by decide +kernel))
theorem tw_7_130 : Cond.code yX12_whyDraw cX12_whyDraw 3 (some .int) ∈ lw_tbl := in_t7 (List.mem_of_getElem? (i := 130) (by decide +kernel))
theorem tw_7_129 : Cond.instanceMethod yX12_whyDraw ∈ lw_tbl := in_t7 (List.mem_of_getElem? (i := 129) (by decide +kernel))
theorem tw_7_147 : Cond.constantLong RX12 262 (99) ∈ lw_tbl := in_t7 (List.mem_of_getElem? (i := 147) (by decide +kernel))
theorem tw_7_127 : Cond.methodLink RX12 264 yX12_whyDraw ∈ lw_tbl := in_t7 (List.mem_of_getElem? (i := 127) (by decide +kernel))
theorem tw_7_146 : Cond.code yX12_whyPledge cX12_whyPledge 6 (some .int) ∈ lw_tbl := in_t7 (List.mem_of_getElem? (i := 146) (by decide +kernel))
theorem tw_7_145 : Cond.instanceMethod yX12_whyPledge ∈ lw_tbl := in_t7 (List.mem_of_getElem? (i := 145) (by decide +kernel))
theorem tw_7_159 : Cond.code yX12_whyRedeem cX12_whyRedeem 3 (some .int) ∈ lw_tbl := in_t7 (List.mem_of_getElem? (i := 159) (by decide +kernel))
theorem tw_7_158 : Cond.instanceMethod yX12_whyRedeem ∈ lw_tbl := in_t7 (List.mem_of_getElem? (i := 158) (by decide +kernel))
theorem tw_7_118 : Cond.code yX12_stands cX12_stands 3 none ∈ lw_tbl := in_t7 (List.mem_of_getElem? (i := 118) (by decide +kernel))
theorem tw_7_117 : Cond.instanceMethod yX12_stands ∈ lw_tbl := in_t7 (List.mem_of_getElem? (i := 117) (by decide +kernel))
theorem tw_7_112 : Cond.methodLink RX12 268 yX12_livedTo ∈ lw_tbl := in_t7 (List.mem_of_getElem? (i := 112) (by decide +kernel))
theorem tw_7_115 : Cond.methodLink RX12 271 yX12_stands ∈ lw_tbl := in_t7 (List.mem_of_getElem? (i := 115) (by decide +kernel))
theorem tw_7_111 : Cond.code yX12_lives cX12_lives 5 (some .int) ∈ lw_tbl := in_t7 (List.mem_of_getElem? (i := 111) (by decide +kernel))
theorem tw_7_110 : Cond.instanceMethod yX12_lives ∈ lw_tbl := in_t7 (List.mem_of_getElem? (i := 110) (by decide +kernel))
theorem tw_7_135 : Cond.methodLink RX12 275 yX12_drawnTo ∈ lw_tbl := in_t7 (List.mem_of_getElem? (i := 135) (by decide +kernel))
theorem tw_7_134 : Cond.code yX12_drawsIt cX12_drawsIt 2 none ∈ lw_tbl := in_t7 (List.mem_of_getElem? (i := 134) (by decide +kernel))
theorem tw_7_133 : Cond.instanceMethod yX12_drawsIt ∈ lw_tbl := in_t7 (List.mem_of_getElem? (i := 133) (by decide +kernel))
theorem tw_7_151 : Cond.code yX12_goes cX12_goes 3 none ∈ lw_tbl := in_t7 (List.mem_of_getElem? (i := 151) (by decide +kernel))
theorem tw_7_150 : Cond.instanceMethod yX12_goes ∈ lw_tbl := in_t7 (List.mem_of_getElem? (i := 150) (by decide +kernel))
theorem tw_7_99 : Cond.methodLink RX12 278 yX12_whyLive ∈ lw_tbl := in_t7 (List.mem_of_getElem? (i := 99) (by decide +kernel))
theorem tw_7_104 : Cond.methodLink RX12 283 yX12_keeps ∈ lw_tbl := in_t7 (List.mem_of_getElem? (i := 104) (by decide +kernel))
theorem tw_7_108 : Cond.methodLink RX12 286 yX12_lives ∈ lw_tbl := in_t7 (List.mem_of_getElem? (i := 108) (by decide +kernel))
theorem tw_7_119 : Cond.methodLink RX12 289 yX12_notes ∈ lw_tbl := in_t7 (List.mem_of_getElem? (i := 119) (by decide +kernel))
theorem tw_7_103 : Cond.constant RX12 282 (-99000010) ∈ lw_tbl := in_t7 (List.mem_of_getElem? (i := 103) (by decide +kernel))
theorem tw_7_98 : Cond.code yX12_live cX12_live 5 (some .int) ∈ lw_tbl := in_t7 (List.mem_of_getElem? (i := 98) (by decide +kernel))
theorem tw_7_96 : Cond.instanceMethod yX12_live ∈ lw_tbl := in_t7 (List.mem_of_getElem? (i := 96) (by decide +kernel))
theorem tw_7_97 : Cond.selects RX12 yX12_live yX12_live ∈ lw_tbl := in_t7 (List.mem_of_getElem? (i := 97) (by decide +kernel))
theorem tw_7_131 : Cond.methodLink RX12 292 yX12_drawsIt ∈ lw_tbl := in_t7 (List.mem_of_getElem? (i := 131) (by decide +kernel))
theorem tw_7_126 : Cond.code yX12_draw cX12_draw 3 (some .int) ∈ lw_tbl := in_t7 (List.mem_of_getElem? (i := 126) (by decide +kernel))
theorem tw_7_124 : Cond.instanceMethod yX12_draw ∈ lw_tbl := in_t7 (List.mem_of_getElem? (i := 124) (by decide +kernel))
theorem tw_7_125 : Cond.selects RX12 yX12_draw yX12_draw ∈ lw_tbl := in_t7 (List.mem_of_getElem? (i := 125) (by decide +kernel))
theorem tw_7_143 : Cond.methodLink RX12 295 yX12_whyPledge ∈ lw_tbl := in_t7 (List.mem_of_getElem? (i := 143) (by decide +kernel))
theorem tw_7_148 : Cond.methodLink RX12 298 yX12_goes ∈ lw_tbl := in_t7 (List.mem_of_getElem? (i := 148) (by decide +kernel))
theorem tw_7_142 : Cond.code yX12_pledge cX12_pledge 4 (some .int) ∈ lw_tbl := in_t7 (List.mem_of_getElem? (i := 142) (by decide +kernel))
theorem tw_7_140 : Cond.instanceMethod yX12_pledge ∈ lw_tbl := in_t7 (List.mem_of_getElem? (i := 140) (by decide +kernel))
theorem tw_7_141 : Cond.selects RX12 yX12_pledge yX12_pledge ∈ lw_tbl := in_t7 (List.mem_of_getElem? (i := 141) (by decide +kernel))
theorem tw_7_156 : Cond.methodLink RX12 301 yX12_whyRedeem ∈ lw_tbl := in_t7 (List.mem_of_getElem? (i := 156) (by decide +kernel))
theorem tw_7_155 : Cond.code yX12_redeem cX12_redeem 3 (some .int) ∈ lw_tbl := in_t7 (List.mem_of_getElem? (i := 155) (by decide +kernel))
theorem tw_7_153 : Cond.instanceMethod yX12_redeem ∈ lw_tbl := in_t7 (List.mem_of_getElem? (i := 153) (by decide +kernel))
theorem tw_7_154 : Cond.selects RX12 yX12_redeem yX12_redeem ∈ lw_tbl := in_t7 (List.mem_of_getElem? (i := 154) (by decide +kernel))
theorem tw_7_165 : Cond.constant RX12 306 (-99000011) ∈ lw_tbl := in_t7 (List.mem_of_getElem? (i := 165) (by decide +kernel))
theorem tw_7_164 : Cond.constantLong RX12 304 (9) ∈ lw_tbl := in_t7 (List.mem_of_getElem? (i := 164) (by decide +kernel))
theorem tw_7_163 : Cond.code yX12_talent cX12_talent 3 (some .int) ∈ lw_tbl := in_t7 (List.mem_of_getElem? (i := 163) (by decide +kernel))
theorem tw_7_161 : Cond.instanceMethod yX12_talent ∈ lw_tbl := in_t7 (List.mem_of_getElem? (i := 161) (by decide +kernel))
theorem tw_7_162 : Cond.selects RX12 yX12_talent yX12_talent ∈ lw_tbl := in_t7 (List.mem_of_getElem? (i := 162) (by decide +kernel))
theorem tw_7_170 : Cond.constantLong RX12 307 (10) ∈ lw_tbl := in_t7 (List.mem_of_getElem? (i := 170) (by decide +kernel))
theorem tw_6_165 : Cond.constant RX12 201 (-99000003) ∈ lw_tbl := in_t6 (List.mem_of_getElem? (i := 165) (by decide +kernel))
theorem tw_7_169 : Cond.code yX12_undo cX12_undo 3 (some .int) ∈ lw_tbl := in_t7 (List.mem_of_getElem? (i := 169) (by decide +kernel))
theorem tw_7_167 : Cond.instanceMethod yX12_undo ∈ lw_tbl := in_t7 (List.mem_of_getElem? (i := 167) (by decide +kernel))
theorem tw_7_168 : Cond.selects RX12 yX12_undo yX12_undo ∈ lw_tbl := in_t7 (List.mem_of_getElem? (i := 168) (by decide +kernel))
theorem tw_7_189 : Cond.constantLong RX12 309 (100) ∈ lw_tbl := in_t7 (List.mem_of_getElem? (i := 189) (by decide +kernel))
theorem tw_7_190 : Cond.constantLong RX12 311 (109) ∈ lw_tbl := in_t7 (List.mem_of_getElem? (i := 190) (by decide +kernel))
theorem tw_7_191 : Cond.constantLong RX12 313 (110) ∈ lw_tbl := in_t7 (List.mem_of_getElem? (i := 191) (by decide +kernel))
theorem tw_7_192 : Cond.constantLong RX12 315 (119) ∈ lw_tbl := in_t7 (List.mem_of_getElem? (i := 192) (by decide +kernel))
theorem tw_7_193 : Cond.constantLong RX12 317 (1000) ∈ lw_tbl := in_t7 (List.mem_of_getElem? (i := 193) (by decide +kernel))
theorem tw_7_194 : Cond.constantLong RX12 319 (1999) ∈ lw_tbl := in_t7 (List.mem_of_getElem? (i := 194) (by decide +kernel))
theorem tw_7_188 : Cond.code yX12_whyNot cX12_whyNot 3 (some .int) ∈ lw_tbl := in_t7 (List.mem_of_getElem? (i := 188) (by decide +kernel))
theorem tw_7_187 : Cond.instanceMethod yX12_whyNot ∈ lw_tbl := in_t7 (List.mem_of_getElem? (i := 187) (by decide +kernel))
theorem tw_7_198 : Cond.code yX12_does cX12_does 2 none ∈ lw_tbl := in_t7 (List.mem_of_getElem? (i := 198) (by decide +kernel))
theorem tw_7_197 : Cond.instanceMethod yX12_does ∈ lw_tbl := in_t7 (List.mem_of_getElem? (i := 197) (by decide +kernel))
theorem tw_7_185 : Cond.methodLink RX12 324 yX12_whyNot ∈ lw_tbl := in_t7 (List.mem_of_getElem? (i := 185) (by decide +kernel))
theorem tw_6_62 : Cond.fieldLink RX12 321 "SecondLifeModel" "toldWhy" "I" ∈ lw_tbl := in_t6 (List.mem_of_getElem? (i := 62) (by decide +kernel))
theorem tw_7_195 : Cond.methodLink RX12 327 yX12_does ∈ lw_tbl := in_t7 (List.mem_of_getElem? (i := 195) (by decide +kernel))
theorem tw_7_184 : Cond.code yX12_tells cX12_tells 3 (some .int) ∈ lw_tbl := in_t7 (List.mem_of_getElem? (i := 184) (by decide +kernel))
theorem tw_7_183 : Cond.instanceMethod yX12_tells ∈ lw_tbl := in_t7 (List.mem_of_getElem? (i := 183) (by decide +kernel))
theorem tw_7_175 : Cond.constantLong RX12 330 (3) ∈ lw_tbl := in_t7 (List.mem_of_getElem? (i := 175) (by decide +kernel))
theorem tw_7_180 : Cond.constant RX12 332 (-99000006) ∈ lw_tbl := in_t7 (List.mem_of_getElem? (i := 180) (by decide +kernel))
theorem tw_7_179 : Cond.code yX12_noTray cX12_noTray 2 (some .int) ∈ lw_tbl := in_t7 (List.mem_of_getElem? (i := 179) (by decide +kernel))
theorem tw_7_178 : Cond.instanceMethod yX12_noTray ∈ lw_tbl := in_t7 (List.mem_of_getElem? (i := 178) (by decide +kernel))
theorem tw_7_202 : Cond.code yX12_hasAll cX12_hasAll 3 (some .int) ∈ lw_tbl := in_t7 (List.mem_of_getElem? (i := 202) (by decide +kernel))
theorem tw_7_201 : Cond.instanceMethod yX12_hasAll ∈ lw_tbl := in_t7 (List.mem_of_getElem? (i := 201) (by decide +kernel))
theorem tw_7_206 : Cond.code yX12_inSecond cX12_inSecond 3 (some .int) ∈ lw_tbl := in_t7 (List.mem_of_getElem? (i := 206) (by decide +kernel))
theorem tw_7_205 : Cond.instanceMethod yX12_inSecond ∈ lw_tbl := in_t7 (List.mem_of_getElem? (i := 205) (by decide +kernel))
theorem tw_7_176 : Cond.methodLink RX12 333 yX12_noTray ∈ lw_tbl := in_t7 (List.mem_of_getElem? (i := 176) (by decide +kernel))
theorem tw_7_181 : Cond.methodLink RX12 336 yX12_tells ∈ lw_tbl := in_t7 (List.mem_of_getElem? (i := 181) (by decide +kernel))
theorem tw_7_199 : Cond.methodLink RX12 339 yX12_hasAll ∈ lw_tbl := in_t7 (List.mem_of_getElem? (i := 199) (by decide +kernel))
theorem tw_7_203 : Cond.methodLink RX12 342 yX12_inSecond ∈ lw_tbl := in_t7 (List.mem_of_getElem? (i := 203) (by decide +kernel))
theorem tw_7_207 : Cond.methodLink RX12 345 yX12_isAgain ∈ lw_tbl := in_t7 (List.mem_of_getElem? (i := 207) (by decide +kernel))
theorem tw_7_174 : Cond.code yX12_judge cX12_judge 7 (some .int) ∈ lw_tbl := in_t7 (List.mem_of_getElem? (i := 174) (by decide +kernel))
theorem tw_7_172 : Cond.instanceMethod yX12_judge ∈ lw_tbl := in_t7 (List.mem_of_getElem? (i := 172) (by decide +kernel))
theorem tw_7_173 : Cond.selects RX12 yX12_judge yX12_judge ∈ lw_tbl := in_t7 (List.mem_of_getElem? (i := 173) (by decide +kernel))
theorem tw_7_214 : Cond.code yX12_perform cX12_perform 4 (some .int) ∈ lw_tbl := in_t7 (List.mem_of_getElem? (i := 214) (by decide +kernel))
theorem tw_7_212 : Cond.instanceMethod yX12_perform ∈ lw_tbl := in_t7 (List.mem_of_getElem? (i := 212) (by decide +kernel))
theorem tw_7_213 : Cond.selects RX12 yX12_perform yX12_perform ∈ lw_tbl := in_t7 (List.mem_of_getElem? (i := 213) (by decide +kernel))
theorem tw_7_228 : Cond.constant RX12 348 (1103515245) ∈ lw_tbl := in_t7 (List.mem_of_getElem? (i := 228) (by decide +kernel))
theorem tw_6_63 : Cond.fieldLink RX12 349 "SecondLifeModel" "x" "I" ∈ lw_tbl := in_t6 (List.mem_of_getElem? (i := 63) (by decide +kernel))
theorem tw_7_227 : Cond.code yX12_lot cX12_lot 2 (some .int) ∈ lw_tbl := in_t7 (List.mem_of_getElem? (i := 227) (by decide +kernel))
theorem tw_7_226 : Cond.instanceMethod yX12_lot ∈ lw_tbl := in_t7 (List.mem_of_getElem? (i := 226) (by decide +kernel))
theorem tw_7_224 : Cond.methodLink RX12 352 yX12_lot ∈ lw_tbl := in_t7 (List.mem_of_getElem? (i := 224) (by decide +kernel))
theorem tw_7_223 : Cond.code yX12_drawn cX12_drawn 3 (some .int) ∈ lw_tbl := in_t7 (List.mem_of_getElem? (i := 223) (by decide +kernel))
theorem tw_7_222 : Cond.instanceMethod yX12_drawn ∈ lw_tbl := in_t7 (List.mem_of_getElem? (i := 222) (by decide +kernel))
theorem tw_7_220 : Cond.methodLink RX12 357 yX12_drawn ∈ lw_tbl := in_t7 (List.mem_of_getElem? (i := 220) (by decide +kernel))
theorem tw_7_219 : Cond.constantLong RX12 355 (40) ∈ lw_tbl := in_t7 (List.mem_of_getElem? (i := 219) (by decide +kernel))
theorem tw_7_218 : Cond.code yX12_season cX12_season 6 (some .int) ∈ lw_tbl := in_t7 (List.mem_of_getElem? (i := 218) (by decide +kernel))
theorem tw_7_216 : Cond.instanceMethod yX12_season ∈ lw_tbl := in_t7 (List.mem_of_getElem? (i := 216) (by decide +kernel))
theorem tw_7_217 : Cond.selects RX12 yX12_season yX12_season ∈ lw_tbl := in_t7 (List.mem_of_getElem? (i := 217) (by decide +kernel))
theorem tw_6_69 : Cond.fieldLink RX12 363 "SecondLifeModel" "mayDraw" "Z" ∈ lw_tbl := in_t6 (List.mem_of_getElem? (i := 69) (by decide +kernel))
theorem tw_6_68 : Cond.fieldLink RX12 360 "SecondLifeModel" "talentOf" "I" ∈ lw_tbl := in_t6 (List.mem_of_getElem? (i := 68) (by decide +kernel))
theorem tw_7_236 : Cond.code yX12_begins cX12_begins 3 none ∈ lw_tbl := in_t7 (List.mem_of_getElem? (i := 236) (by decide +kernel))
theorem tw_7_235 : Cond.instanceMethod yX12_begins ∈ lw_tbl := in_t7 (List.mem_of_getElem? (i := 235) (by decide +kernel))
theorem tw_8_4 : Cond.code yX12_canDraw cX12_canDraw 2 (some .boolean) ∈ lw_tbl := in_t8 (List.mem_of_getElem? (i := 4) (by decide +kernel))
theorem tw_8_3 : Cond.instanceMethod yX12_canDraw ∈ lw_tbl := in_t8 (List.mem_of_getElem? (i := 3) (by decide +kernel))
theorem tw_8_1 : Cond.methodLink RX12 370 yX12_canDraw ∈ lw_tbl := in_t8 (List.mem_of_getElem? (i := 1) (by decide +kernel))
theorem tw_8_0 : Cond.code yX12_laysBest cX12_laysBest 7 none ∈ lw_tbl := in_t8 (List.mem_of_getElem? (i := 0) (by decide +kernel))
theorem tw_7_239 : Cond.instanceMethod yX12_laysBest ∈ lw_tbl := in_t7 (List.mem_of_getElem? (i := 239) (by decide +kernel))
theorem tw_7_237 : Cond.methodLink RX12 367 yX12_laysBest ∈ lw_tbl := in_t7 (List.mem_of_getElem? (i := 237) (by decide +kernel))
theorem tw_8_16 : Cond.code yX12_nextBest cX12_nextBest 4 (some .int) ∈ lw_tbl := in_t8 (List.mem_of_getElem? (i := 16) (by decide +kernel))
theorem tw_8_15 : Cond.instanceMethod yX12_nextBest ∈ lw_tbl := in_t8 (List.mem_of_getElem? (i := 15) (by decide +kernel))
theorem tw_8_20 : Cond.code yX12_doneTo cX12_doneTo 3 (some .int) ∈ lw_tbl := in_t8 (List.mem_of_getElem? (i := 20) (by decide +kernel))
theorem tw_8_19 : Cond.instanceMethod yX12_doneTo ∈ lw_tbl := in_t8 (List.mem_of_getElem? (i := 19) (by decide +kernel))
theorem tw_7_233 : Cond.methodLink RX12 373 yX12_begins ∈ lw_tbl := in_t7 (List.mem_of_getElem? (i := 233) (by decide +kernel))
theorem tw_7_232 : Cond.code yX12_best cX12_best 2 (some .int) ∈ lw_tbl := in_t7 (List.mem_of_getElem? (i := 232) (by decide +kernel))
theorem tw_7_230 : Cond.instanceMethod yX12_best ∈ lw_tbl := in_t7 (List.mem_of_getElem? (i := 230) (by decide +kernel))
theorem tw_7_231 : Cond.selects RX12 yX12_best yX12_best ∈ lw_tbl := in_t7 (List.mem_of_getElem? (i := 231) (by decide +kernel))
theorem tw_8_13 : Cond.methodLink RX12 376 yX12_nextBest ∈ lw_tbl := in_t8 (List.mem_of_getElem? (i := 13) (by decide +kernel))
theorem tw_8_17 : Cond.methodLink RX12 379 yX12_doneTo ∈ lw_tbl := in_t8 (List.mem_of_getElem? (i := 17) (by decide +kernel))
theorem tw_8_12 : Cond.code yX12_courseAt cX12_courseAt 5 (some .int) ∈ lw_tbl := in_t8 (List.mem_of_getElem? (i := 12) (by decide +kernel))
theorem tw_8_11 : Cond.instanceMethod yX12_courseAt ∈ lw_tbl := in_t8 (List.mem_of_getElem? (i := 11) (by decide +kernel))
theorem tw_8_9 : Cond.methodLink RX12 382 yX12_courseAt ∈ lw_tbl := in_t8 (List.mem_of_getElem? (i := 9) (by decide +kernel))
theorem tw_8_8 : Cond.code yX12_course cX12_course 3 (some .int) ∈ lw_tbl := in_t8 (List.mem_of_getElem? (i := 8) (by decide +kernel))
theorem tw_8_6 : Cond.instanceMethod yX12_course ∈ lw_tbl := in_t8 (List.mem_of_getElem? (i := 6) (by decide +kernel))
theorem tw_8_7 : Cond.selects RX12 yX12_course yX12_course ∈ lw_tbl := in_t8 (List.mem_of_getElem? (i := 7) (by decide +kernel))
theorem tw_8_24 : Cond.code yX12_drawsAt cX12_drawsAt 3 (some .int) ∈ lw_tbl := in_t8 (List.mem_of_getElem? (i := 24) (by decide +kernel))
theorem tw_8_22 : Cond.instanceMethod yX12_drawsAt ∈ lw_tbl := in_t8 (List.mem_of_getElem? (i := 22) (by decide +kernel))
theorem tw_8_23 : Cond.selects RX12 yX12_drawsAt yX12_drawsAt ∈ lw_tbl := in_t8 (List.mem_of_getElem? (i := 23) (by decide +kernel))
theorem tw_8_33 : Cond.code yX12_coursesFrom cX12_coursesFrom 5 (some .long) ∈ lw_tbl := in_t8 (List.mem_of_getElem? (i := 33) (by decide +kernel))
theorem tw_8_32 : Cond.instanceMethod yX12_coursesFrom ∈ lw_tbl := in_t8 (List.mem_of_getElem? (i := 32) (by decide +kernel))
theorem tw_8_30 : Cond.methodLink RX12 385 yX12_coursesFrom ∈ lw_tbl := in_t8 (List.mem_of_getElem? (i := 30) (by decide +kernel))
theorem tw_8_29 : Cond.constantLong RX12 389 (-99000002) ∈ lw_tbl := in_t8 (List.mem_of_getElem? (i := 29) (by decide +kernel))
theorem tw_8_28 : Cond.code yX12_courses cX12_courses 2 (some .long) ∈ lw_tbl := in_t8 (List.mem_of_getElem? (i := 28) (by decide +kernel))
theorem tw_8_26 : Cond.instanceMethod yX12_courses ∈ lw_tbl := in_t8 (List.mem_of_getElem? (i := 26) (by decide +kernel))
theorem tw_8_27 : Cond.selects RX12 yX12_courses yX12_courses ∈ lw_tbl := in_t8 (List.mem_of_getElem? (i := 27) (by decide +kernel))
theorem tw_8_46 : Cond.code yX12_better cX12_better 3 none ∈ lw_tbl := in_t8 (List.mem_of_getElem? (i := 46) (by decide +kernel))
theorem tw_8_45 : Cond.instanceMethod yX12_better ∈ lw_tbl := in_t8 (List.mem_of_getElem? (i := 45) (by decide +kernel))
theorem tw_8_43 : Cond.methodLink RX12 392 yX12_better ∈ lw_tbl := in_t8 (List.mem_of_getElem? (i := 43) (by decide +kernel))
theorem tw_8_38 : Cond.constant RX12 391 (-268435456) ∈ lw_tbl := in_t8 (List.mem_of_getElem? (i := 38) (by decide +kernel))
theorem tw_8_42 : Cond.code yX12_goesOn cX12_goesOn 3 (some .int) ∈ lw_tbl := in_t8 (List.mem_of_getElem? (i := 42) (by decide +kernel))
theorem tw_8_41 : Cond.instanceMethod yX12_goesOn ∈ lw_tbl := in_t8 (List.mem_of_getElem? (i := 41) (by decide +kernel))
theorem tw_8_39 : Cond.methodLink RX12 395 yX12_goesOn ∈ lw_tbl := in_t8 (List.mem_of_getElem? (i := 39) (by decide +kernel))
theorem tw_8_37 : Cond.code yX12_soonest cX12_soonest 5 (some .int) ∈ lw_tbl := in_t8 (List.mem_of_getElem? (i := 37) (by decide +kernel))
theorem tw_8_35 : Cond.instanceMethod yX12_soonest ∈ lw_tbl := in_t8 (List.mem_of_getElem? (i := 35) (by decide +kernel))
theorem tw_8_36 : Cond.selects RX12 yX12_soonest yX12_soonest ∈ lw_tbl := in_t8 (List.mem_of_getElem? (i := 36) (by decide +kernel))
theorem tw_8_54 : Cond.code yX12_meanFrom cX12_meanFrom 7 (some .long) ∈ lw_tbl := in_t8 (List.mem_of_getElem? (i := 54) (by decide +kernel))
theorem tw_8_53 : Cond.instanceMethod yX12_meanFrom ∈ lw_tbl := in_t8 (List.mem_of_getElem? (i := 53) (by decide +kernel))
theorem tw_8_51 : Cond.methodLink RX12 398 yX12_meanFrom ∈ lw_tbl := in_t8 (List.mem_of_getElem? (i := 51) (by decide +kernel))
theorem tw_8_63 : Cond.constantLong RX12 401 (1000000000000) ∈ lw_tbl := in_t8 (List.mem_of_getElem? (i := 63) (by decide +kernel))
theorem tw_8_58 : Cond.code yX12_drawnMean cX12_drawnMean 2 (some .long) ∈ lw_tbl := in_t8 (List.mem_of_getElem? (i := 58) (by decide +kernel))
theorem tw_8_57 : Cond.instanceMethod yX12_drawnMean ∈ lw_tbl := in_t8 (List.mem_of_getElem? (i := 57) (by decide +kernel))
theorem tw_8_55 : Cond.methodLink RX12 403 yX12_drawnMean ∈ lw_tbl := in_t8 (List.mem_of_getElem? (i := 55) (by decide +kernel))
theorem tw_8_62 : Cond.code yX12_livedMean cX12_livedMean 3 (some .long) ∈ lw_tbl := in_t8 (List.mem_of_getElem? (i := 62) (by decide +kernel))
theorem tw_8_61 : Cond.instanceMethod yX12_livedMean ∈ lw_tbl := in_t8 (List.mem_of_getElem? (i := 61) (by decide +kernel))
theorem tw_8_59 : Cond.methodLink RX12 406 yX12_livedMean ∈ lw_tbl := in_t8 (List.mem_of_getElem? (i := 59) (by decide +kernel))
theorem tw_8_69 : Cond.code yX12_common cX12_common 4 (some .long) ∈ lw_tbl := in_t8 (List.mem_of_getElem? (i := 69) (by decide +kernel))
theorem tw_8_68 : Cond.static yX12_common ∈ lw_tbl := in_t8 (List.mem_of_getElem? (i := 68) (by decide +kernel))
theorem tw_8_67 : Cond.methodLink RX12 410 yX12_common ∈ lw_tbl := in_t8 (List.mem_of_getElem? (i := 67) (by decide +kernel))
theorem tw_8_66 : Cond.code yX12_part cX12_part 3 (some .long) ∈ lw_tbl := in_t8 (List.mem_of_getElem? (i := 66) (by decide +kernel))
theorem tw_8_65 : Cond.static yX12_part ∈ lw_tbl := in_t8 (List.mem_of_getElem? (i := 65) (by decide +kernel))
theorem tw_8_64 : Cond.methodLink RX12 414 yX12_part ∈ lw_tbl := in_t8 (List.mem_of_getElem? (i := 64) (by decide +kernel))
theorem tw_8_50 : Cond.code yX12_mean cX12_mean 3 (some .long) ∈ lw_tbl := in_t8 (List.mem_of_getElem? (i := 50) (by decide +kernel))
theorem tw_8_48 : Cond.instanceMethod yX12_mean ∈ lw_tbl := in_t8 (List.mem_of_getElem? (i := 48) (by decide +kernel))
theorem tw_8_49 : Cond.selects RX12 yX12_mean yX12_mean ∈ lw_tbl := in_t8 (List.mem_of_getElem? (i := 49) (by decide +kernel))
theorem tw_8_73 : Cond.code yX12_choice cX12_choice 6 (some .int) ∈ lw_tbl := in_t8 (List.mem_of_getElem? (i := 73) (by decide +kernel))
theorem tw_8_71 : Cond.instanceMethod yX12_choice ∈ lw_tbl := in_t8 (List.mem_of_getElem? (i := 71) (by decide +kernel))
theorem tw_8_72 : Cond.selects RX12 yX12_choice yX12_choice ∈ lw_tbl := in_t8 (List.mem_of_getElem? (i := 72) (by decide +kernel))
theorem tw_8_77 : Cond.code yX12_drawing cX12_drawing 3 (some .int) ∈ lw_tbl := in_t8 (List.mem_of_getElem? (i := 77) (by decide +kernel))
theorem tw_8_75 : Cond.instanceMethod yX12_drawing ∈ lw_tbl := in_t8 (List.mem_of_getElem? (i := 75) (by decide +kernel))
theorem tw_8_76 : Cond.selects RX12 yX12_drawing yX12_drawing ∈ lw_tbl := in_t8 (List.mem_of_getElem? (i := 76) (by decide +kernel))
theorem tw_8_96 : Cond.code yX12_yearsLeft cX12_yearsLeft 2 (some .int) ∈ lw_tbl := in_t8 (List.mem_of_getElem? (i := 96) (by decide +kernel))
theorem tw_8_95 : Cond.instanceMethod yX12_yearsLeft ∈ lw_tbl := in_t8 (List.mem_of_getElem? (i := 95) (by decide +kernel))
theorem tw_8_92 : Cond.code yX12_hopeFrom cX12_hopeFrom 9 (some .long) ∈ lw_tbl := in_t8 (List.mem_of_getElem? (i := 92) (by decide +kernel))
theorem tw_8_91 : Cond.instanceMethod yX12_hopeFrom ∈ lw_tbl := in_t8 (List.mem_of_getElem? (i := 91) (by decide +kernel))
theorem tw_8_89 : Cond.methodLink RX12 418 yX12_hopeFrom ∈ lw_tbl := in_t8 (List.mem_of_getElem? (i := 89) (by decide +kernel))
theorem tw_8_100 : Cond.code yX12_drawnHope cX12_drawnHope 3 (some .long) ∈ lw_tbl := in_t8 (List.mem_of_getElem? (i := 100) (by decide +kernel))
theorem tw_8_99 : Cond.instanceMethod yX12_drawnHope ∈ lw_tbl := in_t8 (List.mem_of_getElem? (i := 99) (by decide +kernel))
theorem tw_8_97 : Cond.methodLink RX12 421 yX12_drawnHope ∈ lw_tbl := in_t8 (List.mem_of_getElem? (i := 97) (by decide +kernel))
theorem tw_8_104 : Cond.code yX12_livedHope cX12_livedHope 4 (some .long) ∈ lw_tbl := in_t8 (List.mem_of_getElem? (i := 104) (by decide +kernel))
theorem tw_8_103 : Cond.instanceMethod yX12_livedHope ∈ lw_tbl := in_t8 (List.mem_of_getElem? (i := 103) (by decide +kernel))
theorem tw_8_101 : Cond.methodLink RX12 427 yX12_livedHope ∈ lw_tbl := in_t8 (List.mem_of_getElem? (i := 101) (by decide +kernel))
theorem tw_8_93 : Cond.methodLink RX12 424 yX12_yearsLeft ∈ lw_tbl := in_t8 (List.mem_of_getElem? (i := 93) (by decide +kernel))
theorem tw_8_88 : Cond.constantLong RX12 431 (-1) ∈ lw_tbl := in_t8 (List.mem_of_getElem? (i := 88) (by decide +kernel))
theorem tw_8_87 : Cond.code yX12_beginsHope cX12_beginsHope 3 none ∈ lw_tbl := in_t8 (List.mem_of_getElem? (i := 87) (by decide +kernel))
theorem tw_8_86 : Cond.instanceMethod yX12_beginsHope ∈ lw_tbl := in_t8 (List.mem_of_getElem? (i := 86) (by decide +kernel))
theorem tw_8_82 : Cond.constantLong RX12 433 (60) ∈ lw_tbl := in_t8 (List.mem_of_getElem? (i := 82) (by decide +kernel))
theorem tw_8_84 : Cond.methodLink RX12 437 yX12_beginsHope ∈ lw_tbl := in_t8 (List.mem_of_getElem? (i := 84) (by decide +kernel))
theorem tw_8_83 : Cond.constantLong RX12 435 (-99000003) ∈ lw_tbl := in_t8 (List.mem_of_getElem? (i := 83) (by decide +kernel))
theorem tw_8_81 : Cond.code yX12_hope cX12_hope 4 (some .long) ∈ lw_tbl := in_t8 (List.mem_of_getElem? (i := 81) (by decide +kernel))
theorem tw_8_79 : Cond.instanceMethod yX12_hope ∈ lw_tbl := in_t8 (List.mem_of_getElem? (i := 79) (by decide +kernel))
theorem tw_8_80 : Cond.selects RX12 yX12_hope yX12_hope ∈ lw_tbl := in_t8 (List.mem_of_getElem? (i := 80) (by decide +kernel))
theorem tw_8_108 : Cond.code yX12_hoping cX12_hoping 7 (some .int) ∈ lw_tbl := in_t8 (List.mem_of_getElem? (i := 108) (by decide +kernel))
theorem tw_8_106 : Cond.instanceMethod yX12_hoping ∈ lw_tbl := in_t8 (List.mem_of_getElem? (i := 106) (by decide +kernel))
theorem tw_8_107 : Cond.selects RX12 yX12_hoping yX12_hoping ∈ lw_tbl := in_t8 (List.mem_of_getElem? (i := 107) (by decide +kernel))
theorem tw_8_117 : Cond.constantLong RX12 440 (12) ∈ lw_tbl := in_t8 (List.mem_of_getElem? (i := 117) (by decide +kernel))
theorem tw_8_118 : Cond.constant RX12 442 (-99000004) ∈ lw_tbl := in_t8 (List.mem_of_getElem? (i := 118) (by decide +kernel))
theorem tw_8_116 : Cond.code yX12_noLived cX12_noLived 5 (some .int) ∈ lw_tbl := in_t8 (List.mem_of_getElem? (i := 116) (by decide +kernel))
theorem tw_8_115 : Cond.instanceMethod yX12_noLived ∈ lw_tbl := in_t8 (List.mem_of_getElem? (i := 115) (by decide +kernel))
theorem tw_8_122 : Cond.code yX12_talentsOf cX12_talentsOf 10 (some .int) ∈ lw_tbl := in_t8 (List.mem_of_getElem? (i := 122) (by decide +kernel))
theorem tw_8_121 : Cond.instanceMethod yX12_talentsOf ∈ lw_tbl := in_t8 (List.mem_of_getElem? (i := 121) (by decide +kernel))
theorem tw_8_113 : Cond.methodLink RX12 443 yX12_noLived ∈ lw_tbl := in_t8 (List.mem_of_getElem? (i := 113) (by decide +kernel))
theorem tw_8_119 : Cond.methodLink RX12 446 yX12_talentsOf ∈ lw_tbl := in_t8 (List.mem_of_getElem? (i := 119) (by decide +kernel))
theorem tw_8_112 : Cond.code yX12_talents cX12_talents 5 (some .int) ∈ lw_tbl := in_t8 (List.mem_of_getElem? (i := 112) (by decide +kernel))
theorem tw_8_110 : Cond.instanceMethod yX12_talents ∈ lw_tbl := in_t8 (List.mem_of_getElem? (i := 110) (by decide +kernel))
theorem tw_8_111 : Cond.selects RX12 yX12_talents yX12_talents ∈ lw_tbl := in_t8 (List.mem_of_getElem? (i := 111) (by decide +kernel))
theorem tw_8_131 : Cond.methodLink RX12 449 yX12_isIn ∈ lw_tbl := in_t8 (List.mem_of_getElem? (i := 131) (by decide +kernel))
theorem tw_8_130 : Cond.code yX12_mostOften cX12_mostOften 7 (some .int) ∈ lw_tbl := in_t8 (List.mem_of_getElem? (i := 130) (by decide +kernel))
theorem tw_8_129 : Cond.instanceMethod yX12_mostOften ∈ lw_tbl := in_t8 (List.mem_of_getElem? (i := 129) (by decide +kernel))
theorem tw_8_127 : Cond.methodLink RX12 453 yX12_mostOften ∈ lw_tbl := in_t8 (List.mem_of_getElem? (i := 127) (by decide +kernel))
theorem tw_8_126 : Cond.code yX12_attempt cX12_attempt 10 (some .int) ∈ lw_tbl := in_t8 (List.mem_of_getElem? (i := 126) (by decide +kernel))
theorem tw_8_124 : Cond.instanceMethod yX12_attempt ∈ lw_tbl := in_t8 (List.mem_of_getElem? (i := 124) (by decide +kernel))
theorem tw_8_125 : Cond.selects RX12 yX12_attempt yX12_attempt ∈ lw_tbl := in_t8 (List.mem_of_getElem? (i := 125) (by decide +kernel))
theorem tw_8_141 : Cond.code yX12_isSet cX12_isSet 2 (some .boolean) ∈ lw_tbl := in_t8 (List.mem_of_getElem? (i := 141) (by decide +kernel))
theorem tw_8_140 : Cond.instanceMethod yX12_isSet ∈ lw_tbl := in_t8 (List.mem_of_getElem? (i := 140) (by decide +kernel))
theorem tw_8_150 : Cond.methodLink RX12 456 yX12_bitsOf ∈ lw_tbl := in_t8 (List.mem_of_getElem? (i := 150) (by decide +kernel))
theorem tw_8_149 : Cond.code yX12_joins cX12_joins 5 (some .int) ∈ lw_tbl := in_t8 (List.mem_of_getElem? (i := 149) (by decide +kernel))
theorem tw_8_148 : Cond.instanceMethod yX12_joins ∈ lw_tbl := in_t8 (List.mem_of_getElem? (i := 148) (by decide +kernel))
theorem tw_8_146 : Cond.methodLink RX12 462 yX12_joins ∈ lw_tbl := in_t8 (List.mem_of_getElem? (i := 146) (by decide +kernel))
theorem tw_6_75 : Cond.fieldLink RX12 459 "SecondLifeModel" "runRounds" "I" ∈ lw_tbl := in_t6 (List.mem_of_getElem? (i := 75) (by decide +kernel))
theorem tw_8_145 : Cond.code yX12_runOf cX12_runOf 4 (some .int) ∈ lw_tbl := in_t8 (List.mem_of_getElem? (i := 145) (by decide +kernel))
theorem tw_8_144 : Cond.instanceMethod yX12_runOf ∈ lw_tbl := in_t8 (List.mem_of_getElem? (i := 144) (by decide +kernel))
theorem tw_8_138 : Cond.methodLink RX12 465 yX12_isSet ∈ lw_tbl := in_t8 (List.mem_of_getElem? (i := 138) (by decide +kernel))
theorem tw_8_142 : Cond.methodLink RX12 468 yX12_runOf ∈ lw_tbl := in_t8 (List.mem_of_getElem? (i := 142) (by decide +kernel))
theorem tw_8_137 : Cond.code yX12_run cX12_run 2 (some .int) ∈ lw_tbl := in_t8 (List.mem_of_getElem? (i := 137) (by decide +kernel))
theorem tw_8_135 : Cond.instanceMethod yX12_run ∈ lw_tbl := in_t8 (List.mem_of_getElem? (i := 135) (by decide +kernel))
theorem tw_8_136 : Cond.selects RX12 yX12_run yX12_run ∈ lw_tbl := in_t8 (List.mem_of_getElem? (i := 136) (by decide +kernel))
theorem tw_8_156 : Cond.code yX12_rounds cX12_rounds 2 (some .int) ∈ lw_tbl := in_t8 (List.mem_of_getElem? (i := 156) (by decide +kernel))
theorem tw_8_154 : Cond.instanceMethod yX12_rounds ∈ lw_tbl := in_t8 (List.mem_of_getElem? (i := 154) (by decide +kernel))
theorem tw_8_155 : Cond.selects RX12 yX12_rounds yX12_rounds ∈ lw_tbl := in_t8 (List.mem_of_getElem? (i := 155) (by decide +kernel))
theorem tw_8_161 : Cond.constantLong RX12 471 (6) ∈ lw_tbl := in_t8 (List.mem_of_getElem? (i := 161) (by decide +kernel))
theorem tw_8_160 : Cond.code yX12_spark cX12_spark 4 (some .int) ∈ lw_tbl := in_t8 (List.mem_of_getElem? (i := 160) (by decide +kernel))
theorem tw_8_158 : Cond.instanceMethod yX12_spark ∈ lw_tbl := in_t8 (List.mem_of_getElem? (i := 158) (by decide +kernel))
theorem tw_8_159 : Cond.selects RX12 yX12_spark yX12_spark ∈ lw_tbl := in_t8 (List.mem_of_getElem? (i := 159) (by decide +kernel))
theorem tw_8_165 : Cond.code yX12_calm cX12_calm 5 (some .int) ∈ lw_tbl := in_t8 (List.mem_of_getElem? (i := 165) (by decide +kernel))
theorem tw_8_163 : Cond.instanceMethod yX12_calm ∈ lw_tbl := in_t8 (List.mem_of_getElem? (i := 163) (by decide +kernel))
theorem tw_8_164 : Cond.selects RX12 yX12_calm yX12_calm ∈ lw_tbl := in_t8 (List.mem_of_getElem? (i := 164) (by decide +kernel))
theorem tw_8_173 : Cond.code yX12_isRest cX12_isRest 4 (some .boolean) ∈ lw_tbl := in_t8 (List.mem_of_getElem? (i := 173) (by decide +kernel))
theorem tw_8_172 : Cond.instanceMethod yX12_isRest ∈ lw_tbl := in_t8 (List.mem_of_getElem? (i := 172) (by decide +kernel))
theorem tw_8_170 : Cond.methodLink RX12 473 yX12_isRest ∈ lw_tbl := in_t8 (List.mem_of_getElem? (i := 170) (by decide +kernel))
theorem tw_8_169 : Cond.code yX12_rests cX12_rests 3 (some .int) ∈ lw_tbl := in_t8 (List.mem_of_getElem? (i := 169) (by decide +kernel))
theorem tw_8_167 : Cond.instanceMethod yX12_rests ∈ lw_tbl := in_t8 (List.mem_of_getElem? (i := 167) (by decide +kernel))
theorem tw_8_168 : Cond.selects RX12 yX12_rests yX12_rests ∈ lw_tbl := in_t8 (List.mem_of_getElem? (i := 168) (by decide +kernel))
theorem tw_8_177 : Cond.code yX12_rest cX12_rest 4 (some .int) ∈ lw_tbl := in_t8 (List.mem_of_getElem? (i := 177) (by decide +kernel))
theorem tw_8_175 : Cond.instanceMethod yX12_rest ∈ lw_tbl := in_t8 (List.mem_of_getElem? (i := 175) (by decide +kernel))
theorem tw_8_176 : Cond.selects RX12 yX12_rest yX12_rest ∈ lw_tbl := in_t8 (List.mem_of_getElem? (i := 176) (by decide +kernel))
theorem tw_8_189 : Cond.code yX12_cut cX12_cut 3 (some .long) ∈ lw_tbl := in_t8 (List.mem_of_getElem? (i := 189) (by decide +kernel))
theorem tw_8_188 : Cond.static yX12_cut ∈ lw_tbl := in_t8 (List.mem_of_getElem? (i := 188) (by decide +kernel))
theorem tw_8_181 : Cond.code yX12_numbers cX12_numbers 5 (some .int) ∈ lw_tbl := in_t8 (List.mem_of_getElem? (i := 181) (by decide +kernel))
theorem tw_8_179 : Cond.instanceMethod yX12_numbers ∈ lw_tbl := in_t8 (List.mem_of_getElem? (i := 179) (by decide +kernel))
theorem tw_8_180 : Cond.selects RX12 yX12_numbers yX12_numbers ∈ lw_tbl := in_t8 (List.mem_of_getElem? (i := 180) (by decide +kernel))
theorem tw_8_187 : Cond.methodLink RX12 478 yX12_cut ∈ lw_tbl := in_t8 (List.mem_of_getElem? (i := 187) (by decide +kernel))
theorem tw_8_186 : Cond.constantLong RX12 476 (-99000007) ∈ lw_tbl := in_t8 (List.mem_of_getElem? (i := 186) (by decide +kernel))
theorem tw_8_185 : Cond.code yX12_write cX12_write 6 (some .long) ∈ lw_tbl := in_t8 (List.mem_of_getElem? (i := 185) (by decide +kernel))
theorem tw_8_183 : Cond.instanceMethod yX12_write ∈ lw_tbl := in_t8 (List.mem_of_getElem? (i := 183) (by decide +kernel))
theorem tw_8_184 : Cond.selects RX12 yX12_write yX12_write ∈ lw_tbl := in_t8 (List.mem_of_getElem? (i := 184) (by decide +kernel))
theorem tw_8_193 : Cond.code yX12_lists cX12_lists 6 (some .int) ∈ lw_tbl := in_t8 (List.mem_of_getElem? (i := 193) (by decide +kernel))
theorem tw_8_191 : Cond.instanceMethod yX12_lists ∈ lw_tbl := in_t8 (List.mem_of_getElem? (i := 191) (by decide +kernel))
theorem tw_8_192 : Cond.selects RX12 yX12_lists yX12_lists ∈ lw_tbl := in_t8 (List.mem_of_getElem? (i := 192) (by decide +kernel))
theorem tw_8_197 : Cond.code yX12_image cX12_image 3 (some .int) ∈ lw_tbl := in_t8 (List.mem_of_getElem? (i := 197) (by decide +kernel))
theorem tw_8_195 : Cond.instanceMethod yX12_image ∈ lw_tbl := in_t8 (List.mem_of_getElem? (i := 195) (by decide +kernel))
theorem tw_8_196 : Cond.selects RX12 yX12_image yX12_image ∈ lw_tbl := in_t8 (List.mem_of_getElem? (i := 196) (by decide +kernel))
theorem tw_8_201 : Cond.code yX12_restore cX12_restore 3 (some .int) ∈ lw_tbl := in_t8 (List.mem_of_getElem? (i := 201) (by decide +kernel))
theorem tw_8_199 : Cond.instanceMethod yX12_restore ∈ lw_tbl := in_t8 (List.mem_of_getElem? (i := 199) (by decide +kernel))
theorem tw_8_200 : Cond.selects RX12 yX12_restore yX12_restore ∈ lw_tbl := in_t8 (List.mem_of_getElem? (i := 200) (by decide +kernel))
theorem tw_8_209 : Cond.code yX12_pledgedSet cX12_pledgedSet 3 (some .int) ∈ lw_tbl := in_t8 (List.mem_of_getElem? (i := 209) (by decide +kernel))
theorem tw_8_208 : Cond.instanceMethod yX12_pledgedSet ∈ lw_tbl := in_t8 (List.mem_of_getElem? (i := 208) (by decide +kernel))
theorem tw_8_206 : Cond.methodLink RX12 481 yX12_pledgedSet ∈ lw_tbl := in_t8 (List.mem_of_getElem? (i := 206) (by decide +kernel))
theorem tw_8_205 : Cond.code yX12_count cX12_count 2 (some .int) ∈ lw_tbl := in_t8 (List.mem_of_getElem? (i := 205) (by decide +kernel))
theorem tw_8_203 : Cond.instanceMethod yX12_count ∈ lw_tbl := in_t8 (List.mem_of_getElem? (i := 203) (by decide +kernel))
theorem tw_8_204 : Cond.selects RX12 yX12_count yX12_count ∈ lw_tbl := in_t8 (List.mem_of_getElem? (i := 204) (by decide +kernel))
theorem tw_2_61 : Cond.methodLink RX0 3 Lib.objectInit ∈ lw_tbl := in_t2 (List.mem_of_getElem? (i := 61) (by decide +kernel))
theorem tw_2_62 : Cond.classLink RX0 9 RX3 ∈ lw_tbl := in_t2 (List.mem_of_getElem? (i := 62) (by decide +kernel))
theorem tw_2_30 : Cond.instantiable RX3 1 ∈ lw_tbl := in_t2 (List.mem_of_getElem? (i := 30) (by decide +kernel))
theorem tw_1_10 : Cond.initialized RX3 ∈ lw_tbl := in_t1 (List.mem_of_getElem? (i := 10) (by decide +kernel))
theorem tw_2_68 : Cond.fieldLink RX0 26 "SecondLife$Chances" "hopes" "LSecondLife$Memo;" ∈ lw_tbl := in_t2 (List.mem_of_getElem? (i := 68) (by decide +kernel))
theorem tw_2_64 : Cond.fieldLink RX0 29 "SecondLife$Chances" "ways" "LSecondLife$Ways;" ∈ lw_tbl := in_t2 (List.mem_of_getElem? (i := 64) (by decide +kernel))
theorem tw_1_231 : Cond.fieldLinkNest RX0 51 "SecondLife$Ways" "town" "LSecondLife$Town;" "SecondLife" ∈ lw_tbl := in_t1 (List.mem_of_getElem? (i := 231) (by decide +kernel))
theorem tw_1_51 : Cond.fieldLinkNest RX0 55 "SecondLife$Town" "years" "I" "SecondLife" ∈ lw_tbl := in_t1 (List.mem_of_getElem? (i := 51) (by decide +kernel))
theorem tw_5_67 : Cond.fieldLink RX0 61 "SecondLife$Chances" "TENS" "[J" ∈ lw_tbl := in_t5 (List.mem_of_getElem? (i := 67) (by decide +kernel))
theorem tw_5_66 : Cond.code yX0_tens cX0_tens 1 (some .long) ∈ lw_tbl := in_t5 (List.mem_of_getElem? (i := 66) (by decide +kernel))
theorem tw_1_12 : Cond.initialized RX0 ∈ lw_tbl := in_t1 (List.mem_of_getElem? (i := 12) (by decide +kernel))
theorem tw_5_65 : Cond.static yX0_tens ∈ lw_tbl := in_t5 (List.mem_of_getElem? (i := 65) (by decide +kernel))
theorem tw_2_1 : Cond.fieldLinkNest RX0 65 "SecondLife$Ways" "start" "I" "SecondLife" ∈ lw_tbl := in_t2 (List.mem_of_getElem? (i := 1) (by decide +kernel))
theorem tw_5_86 : Cond.code yX0_commonDivisor cX0_commonDivisor 11 (some .long) ∈ lw_tbl := in_t5 (List.mem_of_getElem? (i := 86) (by decide +kernel))
theorem tw_5_85 : Cond.static yX0_commonDivisor ∈ lw_tbl := in_t5 (List.mem_of_getElem? (i := 85) (by decide +kernel))
theorem tw_2_66 : Cond.fieldLink RX0 16 "SecondLife$Chances" "means" "LSecondLife$Memo;" ∈ lw_tbl := in_t2 (List.mem_of_getElem? (i := 66) (by decide +kernel))
theorem tw_1_239 : Cond.fieldLinkNest RX0 79 "SecondLife$Ways" "stamp" "I" "SecondLife" ∈ lw_tbl := in_t1 (List.mem_of_getElem? (i := 239) (by decide +kernel))
theorem tw_2_65 : Cond.fieldLink RX0 33 "SecondLife$Chances" "plans" "LSecondLife$Courses;" ∈ lw_tbl := in_t2 (List.mem_of_getElem? (i := 65) (by decide +kernel))
theorem tw_2_28 : Cond.methodLink RX1 3 Lib.objectInit ∈ lw_tbl := in_t2 (List.mem_of_getElem? (i := 28) (by decide +kernel))
theorem tw_2_29 : Cond.classLink RX1 9 RX3 ∈ lw_tbl := in_t2 (List.mem_of_getElem? (i := 29) (by decide +kernel))
theorem tw_2_44 : Cond.fieldLink RX1 16 "SecondLife$Courses" "bests" "LSecondLife$Memo;" ∈ lw_tbl := in_t2 (List.mem_of_getElem? (i := 44) (by decide +kernel))
theorem tw_2_43 : Cond.fieldLink RX1 29 "SecondLife$Courses" "ways" "LSecondLife$Ways;" ∈ lw_tbl := in_t2 (List.mem_of_getElem? (i := 43) (by decide +kernel))
theorem tw_1_238 : Cond.fieldLinkNest RX1 41 "SecondLife$Ways" "stamp" "I" "SecondLife" ∈ lw_tbl := in_t1 (List.mem_of_getElem? (i := 238) (by decide +kernel))
theorem tw_4_199 : Cond.constantLong RX1 51 (16) ∈ lw_tbl := in_t4 (List.mem_of_getElem? (i := 199) (by decide +kernel))
theorem tw_4_198 : Cond.code yX1_scoreIn cX1_scoreIn 2 (some .int) ∈ lw_tbl := in_t4 (List.mem_of_getElem? (i := 198) (by decide +kernel))
theorem tw_1_9 : Cond.initialized RX1 ∈ lw_tbl := in_t1 (List.mem_of_getElem? (i := 9) (by decide +kernel))
theorem tw_4_197 : Cond.static yX1_scoreIn ∈ lw_tbl := in_t4 (List.mem_of_getElem? (i := 197) (by decide +kernel))
theorem tw_4_238 : Cond.code yX1_doingIn cX1_doingIn 2 (some .int) ∈ lw_tbl := in_t4 (List.mem_of_getElem? (i := 238) (by decide +kernel))
theorem tw_4_237 : Cond.static yX1_doingIn ∈ lw_tbl := in_t4 (List.mem_of_getElem? (i := 237) (by decide +kernel))
theorem tw_1_232 : Cond.fieldLinkNest RX1 92 "SecondLife$Ways" "town" "LSecondLife$Town;" "SecondLife" ∈ lw_tbl := in_t1 (List.mem_of_getElem? (i := 232) (by decide +kernel))
theorem tw_1_58 : Cond.fieldLinkNest RX1 111 "SecondLife$Town" "trades" "I" "SecondLife" ∈ lw_tbl := in_t1 (List.mem_of_getElem? (i := 58) (by decide +kernel))
theorem tw_5_24 : Cond.code yX1_choicesIn cX1_choicesIn 5 (some .long) ∈ lw_tbl := in_t5 (List.mem_of_getElem? (i := 24) (by decide +kernel))
theorem tw_5_23 : Cond.instanceMethod yX1_choicesIn ∈ lw_tbl := in_t5 (List.mem_of_getElem? (i := 23) (by decide +kernel))
theorem tw_2_45 : Cond.fieldLink RX1 22 "SecondLife$Courses" "reached" "[I" ∈ lw_tbl := in_t2 (List.mem_of_getElem? (i := 45) (by decide +kernel))
theorem tw_2_46 : Cond.fieldLink RX1 26 "SecondLife$Courses" "doings" "[I" ∈ lw_tbl := in_t2 (List.mem_of_getElem? (i := 46) (by decide +kernel))
theorem tw_1_205 : Cond.methodLink RX2 3 Lib.objectInit ∈ lw_tbl := in_t1 (List.mem_of_getElem? (i := 205) (by decide +kernel))
theorem tw_1_207 : Cond.fieldLink RX2 9 "SecondLife$Deeds" "why" "I" ∈ lw_tbl := in_t1 (List.mem_of_getElem? (i := 207) (by decide +kernel))
theorem tw_1_209 : Cond.fieldLink RX2 15 "SecondLife$Deeds" "drawn" "I" ∈ lw_tbl := in_t1 (List.mem_of_getElem? (i := 209) (by decide +kernel))
theorem tw_1_206 : Cond.fieldLink RX2 18 "SecondLife$Deeds" "reckoner" "LSecondLife$Reckoner;" ∈ lw_tbl := in_t1 (List.mem_of_getElem? (i := 206) (by decide +kernel))
theorem tw_1_204 : Cond.code yX2_init cX2_init 2 none ∈ lw_tbl := in_t1 (List.mem_of_getElem? (i := 204) (by decide +kernel))
theorem tw_1_7 : Cond.initialized RX2 ∈ lw_tbl := in_t1 (List.mem_of_getElem? (i := 7) (by decide +kernel))
theorem tw_1_203 : Cond.instanceMethod yX2_init ∈ lw_tbl := in_t1 (List.mem_of_getElem? (i := 203) (by decide +kernel))
theorem tw_4_116 : Cond.constantLong RX2 86 (1000) ∈ lw_tbl := in_t4 (List.mem_of_getElem? (i := 116) (by decide +kernel))
theorem tw_4_117 : Cond.constantLong RX2 88 (1999) ∈ lw_tbl := in_t4 (List.mem_of_getElem? (i := 117) (by decide +kernel))
theorem tw_4_110 : Cond.constantLong RX2 70 (100) ∈ lw_tbl := in_t4 (List.mem_of_getElem? (i := 110) (by decide +kernel))
theorem tw_2_90 : Cond.fieldLinkNest RX2 94 "SecondLife$Tray" "size" "I" "SecondLife" ∈ lw_tbl := in_t2 (List.mem_of_getElem? (i := 90) (by decide +kernel))
theorem tw_4_148 : Cond.constant RX2 115 (1103515245) ∈ lw_tbl := in_t4 (List.mem_of_getElem? (i := 148) (by decide +kernel))
theorem tw_4_147 : Cond.code yX2_nextDrawn cX2_nextDrawn 1 (some .int) ∈ lw_tbl := in_t4 (List.mem_of_getElem? (i := 147) (by decide +kernel))
theorem tw_4_146 : Cond.instanceMethod yX2_nextDrawn ∈ lw_tbl := in_t4 (List.mem_of_getElem? (i := 146) (by decide +kernel))
theorem tw_2_34 : Cond.methodLink RX3 5 Lib.objectInit ∈ lw_tbl := in_t2 (List.mem_of_getElem? (i := 34) (by decide +kernel))
theorem tw_4_174 : Cond.constantLong RX3 21 (-1) ∈ lw_tbl := in_t4 (List.mem_of_getElem? (i := 174) (by decide +kernel))
theorem tw_2_38 : Cond.fieldLink RX3 17 "SecondLife$Memo" "cells" "[J" ∈ lw_tbl := in_t2 (List.mem_of_getElem? (i := 38) (by decide +kernel))
theorem tw_4_175 : Cond.constant RX3 23 (65536) ∈ lw_tbl := in_t4 (List.mem_of_getElem? (i := 175) (by decide +kernel))
theorem tw_4_176 : Cond.constantLong RX3 24 (281474976710655) ∈ lw_tbl := in_t4 (List.mem_of_getElem? (i := 176) (by decide +kernel))
theorem tw_4_173 : Cond.code yX3_find cX3_find 5 (some .long) ∈ lw_tbl := in_t4 (List.mem_of_getElem? (i := 173) (by decide +kernel))
theorem tw_4_172 : Cond.instanceMethod yX3_find ∈ lw_tbl := in_t4 (List.mem_of_getElem? (i := 172) (by decide +kernel))
theorem tw_4_218 : Cond.code yX3_keep cX3_keep 5 none ∈ lw_tbl := in_t4 (List.mem_of_getElem? (i := 218) (by decide +kernel))
theorem tw_4_217 : Cond.instanceMethod yX3_keep ∈ lw_tbl := in_t4 (List.mem_of_getElem? (i := 217) (by decide +kernel))
theorem tw_1_172 : Cond.fieldLink RX4 11 "SecondLife$Past" "kept" "[LSecondLife$People;" ∈ lw_tbl := in_t1 (List.mem_of_getElem? (i := 172) (by decide +kernel))
theorem tw_1_169 : Cond.classLink RX4 9 RX5 ∈ lw_tbl := in_t1 (List.mem_of_getElem? (i := 169) (by decide +kernel))
theorem tw_1_145 : Cond.instantiable RX5 3 ∈ lw_tbl := in_t1 (List.mem_of_getElem? (i := 145) (by decide +kernel))
theorem tw_1_4 : Cond.initialized RX5 ∈ lw_tbl := in_t1 (List.mem_of_getElem? (i := 4) (by decide +kernel))
theorem tw_1_173 : Cond.fieldLink RX4 15 "SecondLife$Past" "next" "I" ∈ lw_tbl := in_t1 (List.mem_of_getElem? (i := 173) (by decide +kernel))
theorem tw_1_174 : Cond.fieldLink RX4 19 "SecondLife$Past" "size" "I" ∈ lw_tbl := in_t1 (List.mem_of_getElem? (i := 174) (by decide +kernel))
theorem tw_3_201 : Cond.code yX4_forget cX4_forget 1 none ∈ lw_tbl := in_t3 (List.mem_of_getElem? (i := 201) (by decide +kernel))
theorem tw_1_5 : Cond.initialized RX4 ∈ lw_tbl := in_t1 (List.mem_of_getElem? (i := 5) (by decide +kernel))
theorem tw_3_200 : Cond.instanceMethod yX4_forget ∈ lw_tbl := in_t3 (List.mem_of_getElem? (i := 200) (by decide +kernel))
theorem tw_1_149 : Cond.methodLink RX5 3 Lib.objectInit ∈ lw_tbl := in_t1 (List.mem_of_getElem? (i := 149) (by decide +kernel))
theorem tw_1_150 : Cond.fieldLink RX5 11 "SecondLife$People" "parts" "[I" ∈ lw_tbl := in_t1 (List.mem_of_getElem? (i := 150) (by decide +kernel))
theorem tw_1_151 : Cond.fieldLink RX5 15 "SecondLife$People" "size" "I" ∈ lw_tbl := in_t1 (List.mem_of_getElem? (i := 151) (by decide +kernel))
theorem tw_1_153 : Cond.fieldLink RX5 19 "SecondLife$People" "cash" "I" ∈ lw_tbl := in_t1 (List.mem_of_getElem? (i := 153) (by decide +kernel))
theorem tw_1_148 : Cond.code yX5_init cX5_init 1 none ∈ lw_tbl := in_t1 (List.mem_of_getElem? (i := 148) (by decide +kernel))
theorem tw_1_147 : Cond.instanceMethod yX5_init ∈ lw_tbl := in_t1 (List.mem_of_getElem? (i := 147) (by decide +kernel))
theorem tw_4_29 : Cond.methodLink RX5 43 arraycopyName ∈ lw_tbl := in_t4 (List.mem_of_getElem? (i := 29) (by decide +kernel))
theorem tw_3_178 : Cond.native arraycopyName ∈ lw_tbl := in_t3 (List.mem_of_getElem? (i := 178) (by decide +kernel))
theorem tw_3_177 : Cond.static arraycopyName ∈ lw_tbl := in_t3 (List.mem_of_getElem? (i := 177) (by decide +kernel))
theorem tw_1_21 : Cond.initialized "java/lang/System" ∈ lw_tbl := in_t1 (List.mem_of_getElem? (i := 21) (by decide +kernel))
theorem tw_4_28 : Cond.code yX5_copy cX5_copy 2 none ∈ lw_tbl := in_t4 (List.mem_of_getElem? (i := 28) (by decide +kernel))
theorem tw_4_27 : Cond.instanceMethod yX5_copy ∈ lw_tbl := in_t4 (List.mem_of_getElem? (i := 27) (by decide +kernel))
theorem tw_3_213 : Cond.code yX5_has cX5_has 2 (some .boolean) ∈ lw_tbl := in_t3 (List.mem_of_getElem? (i := 213) (by decide +kernel))
theorem tw_3_212 : Cond.instanceMethod yX5_has ∈ lw_tbl := in_t3 (List.mem_of_getElem? (i := 212) (by decide +kernel))
theorem tw_3_217 : Cond.code yX5_part cX5_part 4 (some .int) ∈ lw_tbl := in_t3 (List.mem_of_getElem? (i := 217) (by decide +kernel))
theorem tw_3_216 : Cond.instanceMethod yX5_part ∈ lw_tbl := in_t3 (List.mem_of_getElem? (i := 216) (by decide +kernel))
theorem tw_3_189 : Cond.code yX5_put cX5_put 5 none ∈ lw_tbl := in_t3 (List.mem_of_getElem? (i := 189) (by decide +kernel))
theorem tw_3_188 : Cond.instanceMethod yX5_put ∈ lw_tbl := in_t3 (List.mem_of_getElem? (i := 188) (by decide +kernel))
theorem tw_4_123 : Cond.methodLink RX5 49 yX5_part ∈ lw_tbl := in_t4 (List.mem_of_getElem? (i := 123) (by decide +kernel))
theorem tw_4_122 : Cond.code yX5_wealth cX5_wealth 3 (some .int) ∈ lw_tbl := in_t4 (List.mem_of_getElem? (i := 122) (by decide +kernel))
theorem tw_4_121 : Cond.instanceMethod yX5_wealth ∈ lw_tbl := in_t4 (List.mem_of_getElem? (i := 121) (by decide +kernel))
theorem tw_4_127 : Cond.code yX5_drawn cX5_drawn 3 (some .int) ∈ lw_tbl := in_t4 (List.mem_of_getElem? (i := 127) (by decide +kernel))
theorem tw_4_126 : Cond.instanceMethod yX5_drawn ∈ lw_tbl := in_t4 (List.mem_of_getElem? (i := 126) (by decide +kernel))
theorem tw_6_32 : Cond.code yX5_pledged cX5_pledged 3 (some .int) ∈ lw_tbl := in_t6 (List.mem_of_getElem? (i := 32) (by decide +kernel))
theorem tw_6_31 : Cond.instanceMethod yX5_pledged ∈ lw_tbl := in_t6 (List.mem_of_getElem? (i := 31) (by decide +kernel))
theorem tw_5_180 : Cond.code yX5_everybody cX5_everybody 1 (some .int) ∈ lw_tbl := in_t5 (List.mem_of_getElem? (i := 180) (by decide +kernel))
theorem tw_5_179 : Cond.instanceMethod yX5_everybody ∈ lw_tbl := in_t5 (List.mem_of_getElem? (i := 179) (by decide +kernel))
theorem tw_5_177 : Cond.methodLink RX5 53 yX5_everybody ∈ lw_tbl := in_t5 (List.mem_of_getElem? (i := 177) (by decide +kernel))
theorem tw_5_176 : Cond.code yX5_isSet cX5_isSet 2 (some .boolean) ∈ lw_tbl := in_t5 (List.mem_of_getElem? (i := 176) (by decide +kernel))
theorem tw_5_175 : Cond.instanceMethod yX5_isSet ∈ lw_tbl := in_t5 (List.mem_of_getElem? (i := 175) (by decide +kernel))
theorem tw_1_36 : Cond.methodLink RX6 3 Lib.objectInit ∈ lw_tbl := in_t1 (List.mem_of_getElem? (i := 36) (by decide +kernel))
theorem tw_1_103 : Cond.fieldLink RX6 9 "SecondLife$Reader" "fault" "I" ∈ lw_tbl := in_t1 (List.mem_of_getElem? (i := 103) (by decide +kernel))
theorem tw_1_105 : Cond.fieldLink RX6 15 "SecondLife$Reader" "place" "I" ∈ lw_tbl := in_t1 (List.mem_of_getElem? (i := 105) (by decide +kernel))
theorem tw_1_101 : Cond.arrayClass .byte ∈ lw_tbl := in_t1 (List.mem_of_getElem? (i := 101) (by decide +kernel))
theorem tw_1_107 : Cond.fieldLink RX6 18 "SecondLife$Reader" "text" "[B" ∈ lw_tbl := in_t1 (List.mem_of_getElem? (i := 107) (by decide +kernel))
theorem tw_1_108 : Cond.fieldLink RX6 22 "SecondLife$Reader" "length" "I" ∈ lw_tbl := in_t1 (List.mem_of_getElem? (i := 108) (by decide +kernel))
theorem tw_1_109 : Cond.fieldLink RX6 25 "SecondLife$Reader" "begin" "I" ∈ lw_tbl := in_t1 (List.mem_of_getElem? (i := 109) (by decide +kernel))
theorem tw_1_110 : Cond.fieldLink RX6 28 "SecondLife$Reader" "stop" "I" ∈ lw_tbl := in_t1 (List.mem_of_getElem? (i := 110) (by decide +kernel))
theorem tw_1_111 : Cond.fieldLink RX6 31 "SecondLife$Reader" "kind" "I" ∈ lw_tbl := in_t1 (List.mem_of_getElem? (i := 111) (by decide +kernel))
theorem tw_1_112 : Cond.fieldLink RX6 34 "SecondLife$Reader" "number" "I" ∈ lw_tbl := in_t1 (List.mem_of_getElem? (i := 112) (by decide +kernel))
theorem tw_1_37 : Cond.classLink RX6 37 RX8 ∈ lw_tbl := in_t1 (List.mem_of_getElem? (i := 37) (by decide +kernel))
theorem tw_1_38 : Cond.instantiable RX8 10 ∈ lw_tbl := in_t1 (List.mem_of_getElem? (i := 38) (by decide +kernel))
theorem tw_1_3 : Cond.initialized RX8 ∈ lw_tbl := in_t1 (List.mem_of_getElem? (i := 3) (by decide +kernel))
theorem tw_1_113 : Cond.fieldLink RX6 40 "SecondLife$Reader" "told" "LSecondLife$Town;" ∈ lw_tbl := in_t1 (List.mem_of_getElem? (i := 113) (by decide +kernel))
theorem tw_1_71 : Cond.fieldLinkNest RX6 114 "SecondLife$Town" "lines" "I" "SecondLife" ∈ lw_tbl := in_t1 (List.mem_of_getElem? (i := 71) (by decide +kernel))
theorem tw_1_116 : Cond.fieldLink RX6 52 "SecondLife$Reader" "lawLength" "I" ∈ lw_tbl := in_t1 (List.mem_of_getElem? (i := 116) (by decide +kernel))
theorem tw_1_115 : Cond.fieldLink RX6 48 "SecondLife$Reader" "law" "[I" ∈ lw_tbl := in_t1 (List.mem_of_getElem? (i := 115) (by decide +kernel))
theorem tw_3_121 : Cond.code yX6_emit cX6_emit 2 none ∈ lw_tbl := in_t3 (List.mem_of_getElem? (i := 121) (by decide +kernel))
theorem tw_1_2 : Cond.initialized RX6 ∈ lw_tbl := in_t1 (List.mem_of_getElem? (i := 2) (by decide +kernel))
theorem tw_3_120 : Cond.instanceMethod yX6_emit ∈ lw_tbl := in_t3 (List.mem_of_getElem? (i := 120) (by decide +kernel))
theorem tw_3_70 : Cond.code yX6_wrong cX6_wrong 2 (some .boolean) ∈ lw_tbl := in_t3 (List.mem_of_getElem? (i := 70) (by decide +kernel))
theorem tw_3_69 : Cond.instanceMethod yX6_wrong ∈ lw_tbl := in_t3 (List.mem_of_getElem? (i := 69) (by decide +kernel))
theorem tw_2_178 : Cond.code yX6_byteAt cX6_byteAt 2 (some .int) ∈ lw_tbl := in_t2 (List.mem_of_getElem? (i := 178) (by decide +kernel))
theorem tw_2_177 : Cond.instanceMethod yX6_byteAt ∈ lw_tbl := in_t2 (List.mem_of_getElem? (i := 177) (by decide +kernel))
theorem tw_2_181 : Cond.code yX6_isBlank cX6_isBlank 1 (some .boolean) ∈ lw_tbl := in_t2 (List.mem_of_getElem? (i := 181) (by decide +kernel))
theorem tw_2_180 : Cond.static yX6_isBlank ∈ lw_tbl := in_t2 (List.mem_of_getElem? (i := 180) (by decide +kernel))
theorem tw_2_184 : Cond.code yX6_isLetter cX6_isLetter 1 (some .boolean) ∈ lw_tbl := in_t2 (List.mem_of_getElem? (i := 184) (by decide +kernel))
theorem tw_2_183 : Cond.static yX6_isLetter ∈ lw_tbl := in_t2 (List.mem_of_getElem? (i := 183) (by decide +kernel))
theorem tw_2_187 : Cond.code yX6_isDigit cX6_isDigit 1 (some .boolean) ∈ lw_tbl := in_t2 (List.mem_of_getElem? (i := 187) (by decide +kernel))
theorem tw_2_186 : Cond.static yX6_isDigit ∈ lw_tbl := in_t2 (List.mem_of_getElem? (i := 186) (by decide +kernel))
theorem tw_1_191 : Cond.methodLink RX7 3 Lib.objectInit ∈ lw_tbl := in_t1 (List.mem_of_getElem? (i := 191) (by decide +kernel))
theorem tw_1_192 : Cond.fieldLink RX7 11 "SecondLife$Reckoner" "facts" "[I" ∈ lw_tbl := in_t1 (List.mem_of_getElem? (i := 192) (by decide +kernel))
theorem tw_1_194 : Cond.fieldLink RX7 15 "SecondLife$Reckoner" "heap" "[I" ∈ lw_tbl := in_t1 (List.mem_of_getElem? (i := 194) (by decide +kernel))
theorem tw_1_190 : Cond.code yX7_init cX7_init 1 none ∈ lw_tbl := in_t1 (List.mem_of_getElem? (i := 190) (by decide +kernel))
theorem tw_1_6 : Cond.initialized RX7 ∈ lw_tbl := in_t1 (List.mem_of_getElem? (i := 6) (by decide +kernel))
theorem tw_1_189 : Cond.instanceMethod yX7_init ∈ lw_tbl := in_t1 (List.mem_of_getElem? (i := 189) (by decide +kernel))
theorem tw_3_230 : Cond.methodLinkNest RX7 20 yX5_part "SecondLife" ∈ lw_tbl := in_t3 (List.mem_of_getElem? (i := 230) (by decide +kernel))
theorem tw_3_229 : Cond.code yX7_about cX7_about 3 none ∈ lw_tbl := in_t3 (List.mem_of_getElem? (i := 229) (by decide +kernel))
theorem tw_3_228 : Cond.instanceMethod yX7_about ∈ lw_tbl := in_t3 (List.mem_of_getElem? (i := 228) (by decide +kernel))
theorem tw_1_75 : Cond.fieldLinkNest RX7 24 "SecondLife$Town" "worthLaw" "[I" "SecondLife" ∈ lw_tbl := in_t1 (List.mem_of_getElem? (i := 75) (by decide +kernel))
theorem tw_1_78 : Cond.fieldLinkNest RX7 37 "SecondLife$Town" "growsLaw" "[I" "SecondLife" ∈ lw_tbl := in_t1 (List.mem_of_getElem? (i := 78) (by decide +kernel))
theorem tw_4_6 : Cond.constantLong RX7 51 (1000000) ∈ lw_tbl := in_t4 (List.mem_of_getElem? (i := 6) (by decide +kernel))
theorem tw_4_8 : Cond.constantLong RX7 54 (-1000000) ∈ lw_tbl := in_t4 (List.mem_of_getElem? (i := 8) (by decide +kernel))
theorem tw_4_9 : Cond.constant RX7 56 (-1000000) ∈ lw_tbl := in_t4 (List.mem_of_getElem? (i := 9) (by decide +kernel))
theorem tw_4_7 : Cond.constant RX7 53 (1000000) ∈ lw_tbl := in_t4 (List.mem_of_getElem? (i := 7) (by decide +kernel))
theorem tw_4_5 : Cond.code yX7_joined cX7_joined 5 (some .int) ∈ lw_tbl := in_t4 (List.mem_of_getElem? (i := 5) (by decide +kernel))
theorem tw_4_4 : Cond.static yX7_joined ∈ lw_tbl := in_t4 (List.mem_of_getElem? (i := 4) (by decide +kernel))
theorem tw_4_2 : Cond.code yX7_factAt cX7_factAt 2 (some .int) ∈ lw_tbl := in_t4 (List.mem_of_getElem? (i := 2) (by decide +kernel))
theorem tw_4_1 : Cond.instanceMethod yX7_factAt ∈ lw_tbl := in_t4 (List.mem_of_getElem? (i := 1) (by decide +kernel))
theorem tw_1_42 : Cond.methodLink RX8 3 Lib.objectInit ∈ lw_tbl := in_t1 (List.mem_of_getElem? (i := 42) (by decide +kernel))
theorem tw_1_47 : Cond.fieldLink RX8 9 "SecondLife$Town" "years" "I" ∈ lw_tbl := in_t1 (List.mem_of_getElem? (i := 47) (by decide +kernel))
theorem tw_1_55 : Cond.fieldLink RX8 15 "SecondLife$Town" "trades" "I" ∈ lw_tbl := in_t1 (List.mem_of_getElem? (i := 55) (by decide +kernel))
theorem tw_1_60 : Cond.fieldLink RX8 18 "SecondLife$Town" "size" "I" ∈ lw_tbl := in_t1 (List.mem_of_getElem? (i := 60) (by decide +kernel))
theorem tw_1_63 : Cond.fieldLink RX8 21 "SecondLife$Town" "cash" "I" ∈ lw_tbl := in_t1 (List.mem_of_getElem? (i := 63) (by decide +kernel))
theorem tw_1_66 : Cond.fieldLink RX8 24 "SecondLife$Town" "dies" "I" ∈ lw_tbl := in_t1 (List.mem_of_getElem? (i := 66) (by decide +kernel))
theorem tw_1_69 : Cond.fieldLink RX8 27 "SecondLife$Town" "lines" "I" ∈ lw_tbl := in_t1 (List.mem_of_getElem? (i := 69) (by decide +kernel))
theorem tw_1_72 : Cond.fieldLink RX8 30 "SecondLife$Town" "talents" "[I" ∈ lw_tbl := in_t1 (List.mem_of_getElem? (i := 72) (by decide +kernel))
theorem tw_1_73 : Cond.fieldLink RX8 34 "SecondLife$Town" "fears" "[I" ∈ lw_tbl := in_t1 (List.mem_of_getElem? (i := 73) (by decide +kernel))
theorem tw_1_43 : Cond.fieldLink RX8 37 "SecondLife$Town" "ALWAYS_ONE" "[I" ∈ lw_tbl := in_t1 (List.mem_of_getElem? (i := 43) (by decide +kernel))
theorem tw_1_74 : Cond.fieldLink RX8 40 "SecondLife$Town" "worthLaw" "[I" ∈ lw_tbl := in_t1 (List.mem_of_getElem? (i := 74) (by decide +kernel))
theorem tw_1_45 : Cond.fieldLink RX8 43 "SecondLife$Town" "ALWAYS_ZERO" "[I" ∈ lw_tbl := in_t1 (List.mem_of_getElem? (i := 45) (by decide +kernel))
theorem tw_1_77 : Cond.fieldLink RX8 46 "SecondLife$Town" "growsLaw" "[I" ∈ lw_tbl := in_t1 (List.mem_of_getElem? (i := 77) (by decide +kernel))
theorem tw_1_41 : Cond.code yX8_init cX8_init 1 none ∈ lw_tbl := in_t1 (List.mem_of_getElem? (i := 41) (by decide +kernel))
theorem tw_1_40 : Cond.instanceMethod yX8_init ∈ lw_tbl := in_t1 (List.mem_of_getElem? (i := 40) (by decide +kernel))
theorem tw_3_225 : Cond.code yX8_hasTrade cX8_hasTrade 3 (some .boolean) ∈ lw_tbl := in_t3 (List.mem_of_getElem? (i := 225) (by decide +kernel))
theorem tw_3_224 : Cond.instanceMethod yX8_hasTrade ∈ lw_tbl := in_t3 (List.mem_of_getElem? (i := 224) (by decide +kernel))
theorem tw_3_193 : Cond.code yX8_talentOf cX8_talentOf 2 (some .int) ∈ lw_tbl := in_t3 (List.mem_of_getElem? (i := 193) (by decide +kernel))
theorem tw_3_192 : Cond.instanceMethod yX8_talentOf ∈ lw_tbl := in_t3 (List.mem_of_getElem? (i := 192) (by decide +kernel))
theorem tw_3_197 : Cond.code yX8_fearOf cX8_fearOf 2 (some .int) ∈ lw_tbl := in_t3 (List.mem_of_getElem? (i := 197) (by decide +kernel))
theorem tw_3_196 : Cond.instanceMethod yX8_fearOf ∈ lw_tbl := in_t3 (List.mem_of_getElem? (i := 196) (by decide +kernel))
theorem tw_3_96 : Cond.code yX8_addPerson cX8_addPerson 3 none ∈ lw_tbl := in_t3 (List.mem_of_getElem? (i := 96) (by decide +kernel))
theorem tw_3_95 : Cond.instanceMethod yX8_addPerson ∈ lw_tbl := in_t3 (List.mem_of_getElem? (i := 95) (by decide +kernel))
theorem tw_2_84 : Cond.methodLink RX9 1 Lib.objectInit ∈ lw_tbl := in_t2 (List.mem_of_getElem? (i := 84) (by decide +kernel))
theorem tw_2_85 : Cond.fieldLink RX9 9 "SecondLife$Tray" "row" "[J" ∈ lw_tbl := in_t2 (List.mem_of_getElem? (i := 85) (by decide +kernel))
theorem tw_2_86 : Cond.fieldLink RX9 13 "SecondLife$Tray" "there" "Z" ∈ lw_tbl := in_t2 (List.mem_of_getElem? (i := 86) (by decide +kernel))
theorem tw_2_88 : Cond.fieldLink RX9 17 "SecondLife$Tray" "sort" "I" ∈ lw_tbl := in_t2 (List.mem_of_getElem? (i := 88) (by decide +kernel))
theorem tw_2_89 : Cond.fieldLink RX9 21 "SecondLife$Tray" "size" "I" ∈ lw_tbl := in_t2 (List.mem_of_getElem? (i := 89) (by decide +kernel))
theorem tw_2_83 : Cond.code yX9_init cX9_init 1 none ∈ lw_tbl := in_t2 (List.mem_of_getElem? (i := 83) (by decide +kernel))
theorem tw_2_82 : Cond.instanceMethod yX9_init ∈ lw_tbl := in_t2 (List.mem_of_getElem? (i := 82) (by decide +kernel))
theorem tw_4_102 : Cond.code yX9_number cX9_number 2 (some .long) ∈ lw_tbl := in_t4 (List.mem_of_getElem? (i := 102) (by decide +kernel))
theorem tw_4_101 : Cond.instanceMethod yX9_number ∈ lw_tbl := in_t4 (List.mem_of_getElem? (i := 101) (by decide +kernel))
theorem tw_6_7 : Cond.code yX9_cut cX9_cut 3 (some .long) ∈ lw_tbl := in_t6 (List.mem_of_getElem? (i := 7) (by decide +kernel))
theorem tw_6_6 : Cond.instanceMethod yX9_cut ∈ lw_tbl := in_t6 (List.mem_of_getElem? (i := 6) (by decide +kernel))
theorem tw_1_222 : Cond.methodLink RX10 5 Lib.objectInit ∈ lw_tbl := in_t1 (List.mem_of_getElem? (i := 222) (by decide +kernel))
theorem tw_1_223 : Cond.classLink RX10 11 RX3 ∈ lw_tbl := in_t1 (List.mem_of_getElem? (i := 223) (by decide +kernel))
theorem tw_1_224 : Cond.arrayOver (.object RX3) ∈ lw_tbl := in_t1 (List.mem_of_getElem? (i := 224) (by decide +kernel))
theorem tw_1_228 : Cond.fieldLink RX10 13 "SecondLife$Ways" "worths" "[LSecondLife$Memo;" ∈ lw_tbl := in_t1 (List.mem_of_getElem? (i := 228) (by decide +kernel))
theorem tw_1_229 : Cond.fieldLink RX10 17 "SecondLife$Ways" "grownIn" "[I" ∈ lw_tbl := in_t1 (List.mem_of_getElem? (i := 229) (by decide +kernel))
theorem tw_1_225 : Cond.classLink RX10 21 RX8 ∈ lw_tbl := in_t1 (List.mem_of_getElem? (i := 225) (by decide +kernel))
theorem tw_1_226 : Cond.methodLinkNest RX10 23 yX8_init "SecondLife" ∈ lw_tbl := in_t1 (List.mem_of_getElem? (i := 226) (by decide +kernel))
theorem tw_1_230 : Cond.fieldLink RX10 24 "SecondLife$Ways" "town" "LSecondLife$Town;" ∈ lw_tbl := in_t1 (List.mem_of_getElem? (i := 230) (by decide +kernel))
theorem tw_1_233 : Cond.fieldLink RX10 28 "SecondLife$Ways" "townStamp" "I" ∈ lw_tbl := in_t1 (List.mem_of_getElem? (i := 233) (by decide +kernel))
theorem tw_1_234 : Cond.fieldLink RX10 32 "SecondLife$Ways" "talent" "I" ∈ lw_tbl := in_t1 (List.mem_of_getElem? (i := 234) (by decide +kernel))
theorem tw_1_235 : Cond.fieldLink RX10 35 "SecondLife$Ways" "mayDraw" "Z" ∈ lw_tbl := in_t1 (List.mem_of_getElem? (i := 235) (by decide +kernel))
theorem tw_1_237 : Cond.fieldLink RX10 39 "SecondLife$Ways" "stamp" "I" ∈ lw_tbl := in_t1 (List.mem_of_getElem? (i := 237) (by decide +kernel))
theorem tw_2_0 : Cond.fieldLink RX10 42 "SecondLife$Ways" "start" "I" ∈ lw_tbl := in_t2 (List.mem_of_getElem? (i := 0) (by decide +kernel))
theorem tw_1_227 : Cond.fieldLink RX10 45 "SecondLife$Ways" "reckoner" "LSecondLife$Reckoner;" ∈ lw_tbl := in_t1 (List.mem_of_getElem? (i := 227) (by decide +kernel))
theorem tw_1_221 : Cond.code yX10_init cX10_init 2 none ∈ lw_tbl := in_t1 (List.mem_of_getElem? (i := 221) (by decide +kernel))
theorem tw_1_8 : Cond.initialized RX10 ∈ lw_tbl := in_t1 (List.mem_of_getElem? (i := 8) (by decide +kernel))
theorem tw_1_220 : Cond.instanceMethod yX10_init ∈ lw_tbl := in_t1 (List.mem_of_getElem? (i := 220) (by decide +kernel))
theorem tw_1_193 : Cond.fieldLinkNest RX10 59 "SecondLife$Reckoner" "facts" "[I" "SecondLife" ∈ lw_tbl := in_t1 (List.mem_of_getElem? (i := 193) (by decide +kernel))
theorem tw_4_157 : Cond.methodLinkNest RX10 51 yX5_part "SecondLife" ∈ lw_tbl := in_t4 (List.mem_of_getElem? (i := 157) (by decide +kernel))
theorem tw_4_160 : Cond.code yX10_standOf cX10_standOf 5 (some .int) ∈ lw_tbl := in_t4 (List.mem_of_getElem? (i := 160) (by decide +kernel))
theorem tw_4_159 : Cond.static yX10_standOf ∈ lw_tbl := in_t4 (List.mem_of_getElem? (i := 159) (by decide +kernel))
theorem tw_4_213 : Cond.code yX10_lifeOf cX10_lifeOf 1 (some .int) ∈ lw_tbl := in_t4 (List.mem_of_getElem? (i := 213) (by decide +kernel))
theorem tw_4_212 : Cond.static yX10_lifeOf ∈ lw_tbl := in_t4 (List.mem_of_getElem? (i := 212) (by decide +kernel))
theorem tw_4_184 : Cond.code yX10_yearOf cX10_yearOf 1 (some .int) ∈ lw_tbl := in_t4 (List.mem_of_getElem? (i := 184) (by decide +kernel))
theorem tw_4_183 : Cond.static yX10_yearOf ∈ lw_tbl := in_t4 (List.mem_of_getElem? (i := 183) (by decide +kernel))
theorem tw_4_191 : Cond.code yX10_lastOf cX10_lastOf 2 (some .int) ∈ lw_tbl := in_t4 (List.mem_of_getElem? (i := 191) (by decide +kernel))
theorem tw_4_190 : Cond.static yX10_lastOf ∈ lw_tbl := in_t4 (List.mem_of_getElem? (i := 190) (by decide +kernel))
theorem tw_4_194 : Cond.code yX10_streakOf cX10_streakOf 2 (some .int) ∈ lw_tbl := in_t4 (List.mem_of_getElem? (i := 194) (by decide +kernel))
theorem tw_4_193 : Cond.static yX10_streakOf ∈ lw_tbl := in_t4 (List.mem_of_getElem? (i := 193) (by decide +kernel))
theorem tw_4_182 : Cond.methodLink RX10 68 yX10_yearOf ∈ lw_tbl := in_t4 (List.mem_of_getElem? (i := 182) (by decide +kernel))
theorem tw_1_53 : Cond.fieldLinkNest RX10 72 "SecondLife$Town" "years" "I" "SecondLife" ∈ lw_tbl := in_t1 (List.mem_of_getElem? (i := 53) (by decide +kernel))
theorem tw_1_57 : Cond.fieldLinkNest RX10 75 "SecondLife$Town" "trades" "I" "SecondLife" ∈ lw_tbl := in_t1 (List.mem_of_getElem? (i := 57) (by decide +kernel))
theorem tw_4_181 : Cond.code yX10_openTrades cX10_openTrades 2 (some .int) ∈ lw_tbl := in_t4 (List.mem_of_getElem? (i := 181) (by decide +kernel))
theorem tw_4_180 : Cond.instanceMethod yX10_openTrades ∈ lw_tbl := in_t4 (List.mem_of_getElem? (i := 180) (by decide +kernel))
theorem tw_4_211 : Cond.methodLink RX10 89 yX10_lifeOf ∈ lw_tbl := in_t4 (List.mem_of_getElem? (i := 211) (by decide +kernel))
theorem tw_4_226 : Cond.code yX10_grownAt cX10_grownAt 2 (some .int) ∈ lw_tbl := in_t4 (List.mem_of_getElem? (i := 226) (by decide +kernel))
theorem tw_4_225 : Cond.instanceMethod yX10_grownAt ∈ lw_tbl := in_t4 (List.mem_of_getElem? (i := 225) (by decide +kernel))
theorem tw_4_205 : Cond.methodLinkNest RX10 98 yX3_find "SecondLife" ∈ lw_tbl := in_t4 (List.mem_of_getElem? (i := 205) (by decide +kernel))
theorem tw_4_206 : Cond.constantLong RX10 102 (-1) ∈ lw_tbl := in_t4 (List.mem_of_getElem? (i := 206) (by decide +kernel))
theorem tw_4_189 : Cond.methodLink RX10 78 yX10_lastOf ∈ lw_tbl := in_t4 (List.mem_of_getElem? (i := 189) (by decide +kernel))
theorem tw_4_192 : Cond.methodLink RX10 81 yX10_streakOf ∈ lw_tbl := in_t4 (List.mem_of_getElem? (i := 192) (by decide +kernel))
theorem tw_4_210 : Cond.code yX10_turnTo cX10_turnTo 4 none ∈ lw_tbl := in_t4 (List.mem_of_getElem? (i := 210) (by decide +kernel))
theorem tw_4_209 : Cond.instanceMethod yX10_turnTo ∈ lw_tbl := in_t4 (List.mem_of_getElem? (i := 209) (by decide +kernel))
theorem tw_5_192 : Cond.constant RJ6 265 (1431655765) ∈ lw_tbl := in_t5 (List.mem_of_getElem? (i := 192) (by decide +kernel))
theorem tw_5_193 : Cond.constant RJ6 266 (858993459) ∈ lw_tbl := in_t5 (List.mem_of_getElem? (i := 193) (by decide +kernel))
theorem tw_5_194 : Cond.constant RJ6 267 (252645135) ∈ lw_tbl := in_t5 (List.mem_of_getElem? (i := 194) (by decide +kernel))
theorem tw_5_191 : Cond.code yJ6_bitCount_0f7a4 cJ6_bitCount_0f7a4 1 (some .int) ∈ lw_tbl := in_t5 (List.mem_of_getElem? (i := 191) (by decide +kernel))
theorem tw_1_22 : Cond.initialized RJ6 ∈ lw_tbl := in_t1 (List.mem_of_getElem? (i := 22) (by decide +kernel))
theorem tw_5_190 : Cond.static yJ6_bitCount_0f7a4 ∈ lw_tbl := in_t5 (List.mem_of_getElem? (i := 190) (by decide +kernel))
theorem tw_4_86 : Cond.code yJ9_floorMod_7cf53 cJ9_floorMod_7cf53 3 (some .int) ∈ lw_tbl := in_t4 (List.mem_of_getElem? (i := 86) (by decide +kernel))
theorem tw_1_11 : Cond.initialized RJ9 ∈ lw_tbl := in_t1 (List.mem_of_getElem? (i := 11) (by decide +kernel))
theorem tw_4_85 : Cond.static yJ9_floorMod_7cf53 ∈ lw_tbl := in_t4 (List.mem_of_getElem? (i := 85) (by decide +kernel))
theorem tw_2_37 : Cond.code yJ9_max_7cf53 cJ9_max_7cf53 2 (some .int) ∈ lw_tbl := in_t2 (List.mem_of_getElem? (i := 37) (by decide +kernel))
theorem tw_2_36 : Cond.static yJ9_max_7cf53 ∈ lw_tbl := in_t2 (List.mem_of_getElem? (i := 36) (by decide +kernel))
theorem tw_5_78 : Cond.code yJ9_max_f86c9 cJ9_max_f86c9 4 (some .long) ∈ lw_tbl := in_t5 (List.mem_of_getElem? (i := 78) (by decide +kernel))
theorem tw_5_77 : Cond.static yJ9_max_f86c9 ∈ lw_tbl := in_t5 (List.mem_of_getElem? (i := 77) (by decide +kernel))
theorem tw_2_220 : Cond.code yJ9_min_7cf53 cJ9_min_7cf53 2 (some .int) ∈ lw_tbl := in_t2 (List.mem_of_getElem? (i := 220) (by decide +kernel))
theorem tw_2_219 : Cond.static yJ9_min_7cf53 ∈ lw_tbl := in_t2 (List.mem_of_getElem? (i := 219) (by decide +kernel))
theorem tw_8_212 : Cond.fieldLink RJ0 9 "java/lang/String" "value" "[B" ∈ lw_tbl := in_t8 (List.mem_of_getElem? (i := 212) (by decide +kernel))
theorem tw_2_201 : Cond.fieldLink RJ0 38 "java/lang/String" "COMPACT_STRINGS" "Z" ∈ lw_tbl := in_t2 (List.mem_of_getElem? (i := 201) (by decide +kernel))
theorem tw_8_211 : Cond.fieldLink RJ0 15 "java/lang/String" "coder" "B" ∈ lw_tbl := in_t8 (List.mem_of_getElem? (i := 211) (by decide +kernel))
theorem tw_2_210 : Cond.code yJ0_coder_7d493 cJ0_coder_7d493 1 (some .byte) ∈ lw_tbl := in_t2 (List.mem_of_getElem? (i := 210) (by decide +kernel))
theorem tw_1_15 : Cond.initialized RJ0 ∈ lw_tbl := in_t1 (List.mem_of_getElem? (i := 15) (by decide +kernel))
theorem tw_2_208 : Cond.instanceMethod yJ0_coder_7d493 ∈ lw_tbl := in_t2 (List.mem_of_getElem? (i := 208) (by decide +kernel))
theorem tw_2_209 : Cond.selects RJ0 yJ0_coder_7d493 yJ0_coder_7d493 ∈ lw_tbl := in_t2 (List.mem_of_getElem? (i := 209) (by decide +kernel))
theorem tw_2_200 : Cond.code yJ0_isLatin1_aae02 cJ0_isLatin1_aae02 1 (some .boolean) ∈ lw_tbl := in_t2 (List.mem_of_getElem? (i := 200) (by decide +kernel))
theorem tw_2_198 : Cond.instanceMethod yJ0_isLatin1_aae02 ∈ lw_tbl := in_t2 (List.mem_of_getElem? (i := 198) (by decide +kernel))
theorem tw_2_199 : Cond.selects RJ0 yJ0_isLatin1_aae02 yJ0_isLatin1_aae02 ∈ lw_tbl := in_t2 (List.mem_of_getElem? (i := 199) (by decide +kernel))
theorem tw_3_2 : Cond.fieldLink RJ0 1053 "jdk/internal/util/Preconditions" "SIOOBE_FORMATTER" "Ljava/util/function/BiFunction;" ∈ lw_tbl := in_t3 (List.mem_of_getElem? (i := 2) (by decide +kernel))
theorem tw_2_216 : Cond.code yJ1_canEncode_9a6ad cJ1_canEncode_9a6ad 1 (some .boolean) ∈ lw_tbl := in_t2 (List.mem_of_getElem? (i := 216) (by decide +kernel))
theorem tw_1_16 : Cond.initialized RJ1 ∈ lw_tbl := in_t1 (List.mem_of_getElem? (i := 16) (by decide +kernel))
theorem tw_2_215 : Cond.static yJ1_canEncode_9a6ad ∈ lw_tbl := in_t2 (List.mem_of_getElem? (i := 215) (by decide +kernel))
theorem tw_2_214 : Cond.methodLink RJ1 88 yJ1_canEncode_9a6ad ∈ lw_tbl := in_t2 (List.mem_of_getElem? (i := 214) (by decide +kernel))
theorem tw_2_217 : Cond.methodLink RJ1 92 yJ9_max_7cf53 ∈ lw_tbl := in_t2 (List.mem_of_getElem? (i := 217) (by decide +kernel))
theorem tw_2_218 : Cond.methodLink RJ1 38 yJ9_min_7cf53 ∈ lw_tbl := in_t2 (List.mem_of_getElem? (i := 218) (by decide +kernel))
theorem tw_2_223 : Cond.code yJ1_indexOfChar_4cfef cJ1_indexOfChar_4cfef 6 (some .int) ∈ lw_tbl := in_t2 (List.mem_of_getElem? (i := 223) (by decide +kernel))
theorem tw_2_222 : Cond.static yJ1_indexOfChar_4cfef ∈ lw_tbl := in_t2 (List.mem_of_getElem? (i := 222) (by decide +kernel))
theorem tw_5_235 : Cond.code yJ7_fill_d0a16 cJ7_fill_d0a16 5 none ∈ lw_tbl := in_t5 (List.mem_of_getElem? (i := 235) (by decide +kernel))
theorem tw_1_20 : Cond.initialized RJ7 ∈ lw_tbl := in_t1 (List.mem_of_getElem? (i := 20) (by decide +kernel))
theorem tw_5_234 : Cond.static yJ7_fill_d0a16 ∈ lw_tbl := in_t5 (List.mem_of_getElem? (i := 234) (by decide +kernel))
theorem tw_3_185 : Cond.code yJ7_fill_53178 cJ7_fill_53178 4 none ∈ lw_tbl := in_t3 (List.mem_of_getElem? (i := 185) (by decide +kernel))
theorem tw_3_184 : Cond.static yJ7_fill_53178 ∈ lw_tbl := in_t3 (List.mem_of_getElem? (i := 184) (by decide +kernel))
theorem tw_3_175 : Cond.methodLink RJ7 304 yJ9_min_7cf53 ∈ lw_tbl := in_t3 (List.mem_of_getElem? (i := 175) (by decide +kernel))
theorem tw_3_176 : Cond.methodLink RJ7 150 arraycopyName ∈ lw_tbl := in_t3 (List.mem_of_getElem? (i := 176) (by decide +kernel))
theorem tw_3_167 : Cond.code yJ7_copyOf_59c91 cJ7_copyOf_59c91 3 (some (.array .int)) ∈ lw_tbl := in_t3 (List.mem_of_getElem? (i := 167) (by decide +kernel))
theorem tw_3_166 : Cond.static yJ7_copyOf_59c91 ∈ lw_tbl := in_t3 (List.mem_of_getElem? (i := 166) (by decide +kernel))
theorem tw_3_59 : Cond.code yJ3_checkIndex_8e157 cJ3_checkIndex_8e157 3 (some .int) ∈ lw_tbl := in_t3 (List.mem_of_getElem? (i := 59) (by decide +kernel))
theorem tw_1_18 : Cond.initialized RJ3 ∈ lw_tbl := in_t1 (List.mem_of_getElem? (i := 18) (by decide +kernel))
theorem tw_3_58 : Cond.static yJ3_checkIndex_8e157 ∈ lw_tbl := in_t3 (List.mem_of_getElem? (i := 58) (by decide +kernel))
theorem tw_2_81 : Cond.methodLinkNest RX11 107 yX9_init "SecondLife" ∈ lw_tbl := in_t2 (List.mem_of_getElem? (i := 81) (by decide +kernel))
theorem tw_2_110 : Cond.fieldLink RX11 52 "SecondLife" "imagePeople" "[LSecondLife$People;" ∈ lw_tbl := in_t2 (List.mem_of_getElem? (i := 110) (by decide +kernel))
theorem tw_1_144 : Cond.classLink RX11 31 RX5 ∈ lw_tbl := in_t1 (List.mem_of_getElem? (i := 144) (by decide +kernel))
theorem tw_1_146 : Cond.methodLinkNest RX11 33 yX5_init "SecondLife" ∈ lw_tbl := in_t1 (List.mem_of_getElem? (i := 146) (by decide +kernel))
theorem tw_1_28 : Cond.methodLink RX11 1 Lib.objectInit ∈ lw_tbl := in_t1 (List.mem_of_getElem? (i := 28) (by decide +kernel))
theorem tw_1_31 : Cond.classLink RX11 17 RX6 ∈ lw_tbl := in_t1 (List.mem_of_getElem? (i := 31) (by decide +kernel))
theorem tw_1_32 : Cond.instantiable RX6 12 ∈ lw_tbl := in_t1 (List.mem_of_getElem? (i := 32) (by decide +kernel))
theorem tw_2_159 : Cond.methodLink RX11 112 yX11_tapeWord ∈ lw_tbl := in_t2 (List.mem_of_getElem? (i := 159) (by decide +kernel))
theorem tw_2_155 : Cond.methodLink RX11 108 yX11_refused ∈ lw_tbl := in_t2 (List.mem_of_getElem? (i := 155) (by decide +kernel))
theorem tw_2_154 : Cond.code yX11_feed cX11_feed 6 (some .int) ∈ lw_tbl := in_t2 (List.mem_of_getElem? (i := 154) (by decide +kernel))
theorem tw_2_152 : Cond.instanceMethod yX11_feed ∈ lw_tbl := in_t2 (List.mem_of_getElem? (i := 152) (by decide +kernel))
theorem tw_2_153 : Cond.selects RX11 yX11_feed yX11_feed ∈ lw_tbl := in_t2 (List.mem_of_getElem? (i := 153) (by decide +kernel))
theorem tw_3_210 : Cond.methodLinkNest RX11 136 yX5_has "SecondLife" ∈ lw_tbl := in_t3 (List.mem_of_getElem? (i := 210) (by decide +kernel))
theorem tw_3_214 : Cond.methodLinkNest RX11 140 yX5_part "SecondLife" ∈ lw_tbl := in_t3 (List.mem_of_getElem? (i := 214) (by decide +kernel))
theorem tw_3_209 : Cond.code yX11_person cX11_person 3 (some .int) ∈ lw_tbl := in_t3 (List.mem_of_getElem? (i := 209) (by decide +kernel))
theorem tw_3_207 : Cond.instanceMethod yX11_person ∈ lw_tbl := in_t3 (List.mem_of_getElem? (i := 207) (by decide +kernel))
theorem tw_3_208 : Cond.selects RX11 yX11_person yX11_person ∈ lw_tbl := in_t3 (List.mem_of_getElem? (i := 208) (by decide +kernel))
theorem tw_3_222 : Cond.methodLinkNest RX11 144 yX8_hasTrade "SecondLife" ∈ lw_tbl := in_t3 (List.mem_of_getElem? (i := 222) (by decide +kernel))
theorem tw_2_112 : Cond.fieldLink RX11 65 "SecondLife" "reckoner" "LSecondLife$Reckoner;" ∈ lw_tbl := in_t2 (List.mem_of_getElem? (i := 112) (by decide +kernel))
theorem tw_3_226 : Cond.methodLinkNest RX11 151 yX7_about "SecondLife" ∈ lw_tbl := in_t3 (List.mem_of_getElem? (i := 226) (by decide +kernel))
theorem tw_4_25 : Cond.methodLinkNest RX11 163 yX5_copy "SecondLife" ∈ lw_tbl := in_t4 (List.mem_of_getElem? (i := 25) (by decide +kernel))
theorem tw_2_113 : Cond.fieldLink RX11 74 "SecondLife" "deeds" "LSecondLife$Deeds;" ∈ lw_tbl := in_t2 (List.mem_of_getElem? (i := 113) (by decide +kernel))
theorem tw_4_91 : Cond.methodLink RX11 200 yX11_trayAt ∈ lw_tbl := in_t4 (List.mem_of_getElem? (i := 91) (by decide +kernel))
theorem tw_2_87 : Cond.fieldLinkNest RX11 204 "SecondLife$Tray" "there" "Z" "SecondLife" ∈ lw_tbl := in_t2 (List.mem_of_getElem? (i := 87) (by decide +kernel))
theorem tw_2_114 : Cond.fieldLink RX11 81 "SecondLife" "ways" "LSecondLife$Ways;" ∈ lw_tbl := in_t2 (List.mem_of_getElem? (i := 114) (by decide +kernel))
theorem tw_5_173 : Cond.methodLinkNest RX11 285 yX5_isSet "SecondLife" ∈ lw_tbl := in_t5 (List.mem_of_getElem? (i := 173) (by decide +kernel))
theorem tw_5_207 : Cond.methodLinkNest RX11 294 yX5_everybody "SecondLife" ∈ lw_tbl := in_t5 (List.mem_of_getElem? (i := 207) (by decide +kernel))
theorem tw_5_208 : Cond.methodLink RX11 297 yJ6_bitCount_0f7a4 ∈ lw_tbl := in_t5 (List.mem_of_getElem? (i := 208) (by decide +kernel))
theorem tw_2_109 : Cond.fieldLink RX11 48 "SecondLife" "imageTowns" "[LSecondLife$Town;" ∈ lw_tbl := in_t2 (List.mem_of_getElem? (i := 109) (by decide +kernel))
theorem tw_6_20 : Cond.code yX11_image cX11_image 3 (some .int) ∈ lw_tbl := in_t6 (List.mem_of_getElem? (i := 20) (by decide +kernel))
theorem tw_6_18 : Cond.instanceMethod yX11_image ∈ lw_tbl := in_t6 (List.mem_of_getElem? (i := 18) (by decide +kernel))
theorem tw_6_19 : Cond.selects RX11 yX11_image yX11_image ∈ lw_tbl := in_t6 (List.mem_of_getElem? (i := 19) (by decide +kernel))
theorem tw_3_198 : Cond.methodLinkNest RX11 127 yX4_forget "SecondLife" ∈ lw_tbl := in_t3 (List.mem_of_getElem? (i := 198) (by decide +kernel))
theorem tw_6_24 : Cond.code yX11_restore cX11_restore 4 (some .int) ∈ lw_tbl := in_t6 (List.mem_of_getElem? (i := 24) (by decide +kernel))
theorem tw_6_22 : Cond.instanceMethod yX11_restore ∈ lw_tbl := in_t6 (List.mem_of_getElem? (i := 22) (by decide +kernel))
theorem tw_6_23 : Cond.selects RX11 yX11_restore yX11_restore ∈ lw_tbl := in_t6 (List.mem_of_getElem? (i := 23) (by decide +kernel))
theorem tw_4_119 : Cond.methodLinkNest RX11 216 yX5_wealth "SecondLife" ∈ lw_tbl := in_t4 (List.mem_of_getElem? (i := 119) (by decide +kernel))
theorem tw_4_124 : Cond.methodLinkNest RX11 220 yX5_drawn "SecondLife" ∈ lw_tbl := in_t4 (List.mem_of_getElem? (i := 124) (by decide +kernel))
theorem tw_6_29 : Cond.methodLinkNest RX11 320 yX5_pledged "SecondLife" ∈ lw_tbl := in_t6 (List.mem_of_getElem? (i := 29) (by decide +kernel))
theorem tw_1_175 : Cond.fieldLinkNest RX11 197 "SecondLife$Past" "size" "I" "SecondLife" ∈ lw_tbl := in_t1 (List.mem_of_getElem? (i := 175) (by decide +kernel))
theorem tw_1_70 : Cond.fieldLinkNest RX11 130 "SecondLife$Town" "lines" "I" "SecondLife" ∈ lw_tbl := in_t1 (List.mem_of_getElem? (i := 70) (by decide +kernel))
theorem tw_6_28 : Cond.code yX11_count cX11_count 2 (some .int) ∈ lw_tbl := in_t6 (List.mem_of_getElem? (i := 28) (by decide +kernel))
theorem tw_6_26 : Cond.instanceMethod yX11_count ∈ lw_tbl := in_t6 (List.mem_of_getElem? (i := 26) (by decide +kernel))
theorem tw_6_27 : Cond.selects RX11 yX11_count yX11_count ∈ lw_tbl := in_t6 (List.mem_of_getElem? (i := 27) (by decide +kernel))
theorem tw_5_154 : Cond.methodLinkNest RX11 312 yX9_number "SecondLife" ∈ lw_tbl := in_t5 (List.mem_of_getElem? (i := 154) (by decide +kernel))
theorem tw_5_153 : Cond.code yX11_livedFault cX11_livedFault 5 (some .int) ∈ lw_tbl := in_t5 (List.mem_of_getElem? (i := 153) (by decide +kernel))
theorem tw_5_152 : Cond.instanceMethod yX11_livedFault ∈ lw_tbl := in_t5 (List.mem_of_getElem? (i := 152) (by decide +kernel))
theorem tw_4_75 : Cond.methodLinkNest RX11 189 yX5_put "SecondLife" ∈ lw_tbl := in_t4 (List.mem_of_getElem? (i := 75) (by decide +kernel))
theorem tw_6_40 : Cond.methodLink RX12 77 yX12_plain ∈ lw_tbl := in_t6 (List.mem_of_getElem? (i := 40) (by decide +kernel))
theorem tw_6_37 : Cond.code yX12_init cX12_init 1 none ∈ lw_tbl := in_t6 (List.mem_of_getElem? (i := 37) (by decide +kernel))
theorem tw_6_36 : Cond.instanceMethod yX12_init ∈ lw_tbl := in_t6 (List.mem_of_getElem? (i := 36) (by decide +kernel))
theorem tw_5_57 : Cond.methodLinkNest RX0 45 yX10_yearOf "SecondLife" ∈ lw_tbl := in_t5 (List.mem_of_getElem? (i := 57) (by decide +kernel))
theorem tw_2_67 : Cond.fieldLink RX0 22 "SecondLife$Chances" "hopesAt" "[I" ∈ lw_tbl := in_t2 (List.mem_of_getElem? (i := 67) (by decide +kernel))
theorem tw_5_128 : Cond.methodLinkNest RX0 41 yX10_streakOf "SecondLife" ∈ lw_tbl := in_t5 (List.mem_of_getElem? (i := 128) (by decide +kernel))
theorem tw_5_56 : Cond.methodLinkNest RX0 48 yX10_lifeOf "SecondLife" ∈ lw_tbl := in_t5 (List.mem_of_getElem? (i := 56) (by decide +kernel))
theorem tw_5_127 : Cond.code yX0_layOutHopes cX0_layOutHopes 4 (some .int) ∈ lw_tbl := in_t5 (List.mem_of_getElem? (i := 127) (by decide +kernel))
theorem tw_5_126 : Cond.instanceMethod yX0_layOutHopes ∈ lw_tbl := in_t5 (List.mem_of_getElem? (i := 126) (by decide +kernel))
theorem tw_5_55 : Cond.code yX0_tenthsAt cX0_tenthsAt 3 (some .int) ∈ lw_tbl := in_t5 (List.mem_of_getElem? (i := 55) (by decide +kernel))
theorem tw_5_54 : Cond.instanceMethod yX0_tenthsAt ∈ lw_tbl := in_t5 (List.mem_of_getElem? (i := 54) (by decide +kernel))
theorem tw_5_52 : Cond.methodLink RX0 68 yX0_tenthsAt ∈ lw_tbl := in_t5 (List.mem_of_getElem? (i := 52) (by decide +kernel))
theorem tw_5_64 : Cond.methodLink RX0 71 yX0_tens ∈ lw_tbl := in_t5 (List.mem_of_getElem? (i := 64) (by decide +kernel))
theorem tw_5_84 : Cond.methodLink RX0 75 yX0_commonDivisor ∈ lw_tbl := in_t5 (List.mem_of_getElem? (i := 84) (by decide +kernel))
theorem tw_5_83 : Cond.code yX0_fraction cX0_fraction 8 (some .long) ∈ lw_tbl := in_t5 (List.mem_of_getElem? (i := 83) (by decide +kernel))
theorem tw_5_82 : Cond.instanceMethod yX0_fraction ∈ lw_tbl := in_t5 (List.mem_of_getElem? (i := 82) (by decide +kernel))
theorem tw_5_79 : Cond.methodLinkNest RX0 102 yX3_keep "SecondLife" ∈ lw_tbl := in_t5 (List.mem_of_getElem? (i := 79) (by decide +kernel))
theorem tw_5_73 : Cond.code yX0_meanByYear cX0_meanByYear 7 (some .long) ∈ lw_tbl := in_t5 (List.mem_of_getElem? (i := 73) (by decide +kernel))
theorem tw_5_72 : Cond.instanceMethod yX0_meanByYear ∈ lw_tbl := in_t5 (List.mem_of_getElem? (i := 72) (by decide +kernel))
theorem tw_5_70 : Cond.methodLink RX0 94 yX0_meanByYear ∈ lw_tbl := in_t5 (List.mem_of_getElem? (i := 70) (by decide +kernel))
theorem tw_5_76 : Cond.methodLink RX0 97 yJ9_max_f86c9 ∈ lw_tbl := in_t5 (List.mem_of_getElem? (i := 76) (by decide +kernel))
theorem tw_5_50 : Cond.methodLinkNest RX0 82 yX3_find "SecondLife" ∈ lw_tbl := in_t5 (List.mem_of_getElem? (i := 50) (by decide +kernel))
theorem tw_5_51 : Cond.constantLong RX0 86 (-1) ∈ lw_tbl := in_t5 (List.mem_of_getElem? (i := 51) (by decide +kernel))
theorem tw_5_61 : Cond.code yX0_meanByDrawing cX0_meanByDrawing 4 (some .long) ∈ lw_tbl := in_t5 (List.mem_of_getElem? (i := 61) (by decide +kernel))
theorem tw_5_60 : Cond.instanceMethod yX0_meanByDrawing ∈ lw_tbl := in_t5 (List.mem_of_getElem? (i := 60) (by decide +kernel))
theorem tw_5_58 : Cond.methodLink RX0 88 yX0_meanByDrawing ∈ lw_tbl := in_t5 (List.mem_of_getElem? (i := 58) (by decide +kernel))
theorem tw_5_69 : Cond.methodLinkNest RX0 91 yX10_openTrades "SecondLife" ∈ lw_tbl := in_t5 (List.mem_of_getElem? (i := 69) (by decide +kernel))
theorem tw_1_68 : Cond.fieldLinkNest RX0 106 "SecondLife$Town" "dies" "I" "SecondLife" ∈ lw_tbl := in_t1 (List.mem_of_getElem? (i := 68) (by decide +kernel))
theorem tw_5_136 : Cond.code yX0_hopeByYear cX0_hopeByYear 7 (some .long) ∈ lw_tbl := in_t5 (List.mem_of_getElem? (i := 136) (by decide +kernel))
theorem tw_5_135 : Cond.instanceMethod yX0_hopeByYear ∈ lw_tbl := in_t5 (List.mem_of_getElem? (i := 135) (by decide +kernel))
theorem tw_5_133 : Cond.methodLink RX0 141 yX0_hopeByYear ∈ lw_tbl := in_t5 (List.mem_of_getElem? (i := 133) (by decide +kernel))
theorem tw_4_170 : Cond.methodLinkNest RX1 45 yX3_find "SecondLife" ∈ lw_tbl := in_t4 (List.mem_of_getElem? (i := 170) (by decide +kernel))
theorem tw_4_177 : Cond.constantLong RX1 49 (-1) ∈ lw_tbl := in_t4 (List.mem_of_getElem? (i := 177) (by decide +kernel))
theorem tw_4_196 : Cond.methodLink RX1 37 yX1_scoreIn ∈ lw_tbl := in_t4 (List.mem_of_getElem? (i := 196) (by decide +kernel))
theorem tw_5_119 : Cond.code yX1_knownMost cX1_knownMost 4 (some .int) ∈ lw_tbl := in_t5 (List.mem_of_getElem? (i := 119) (by decide +kernel))
theorem tw_5_118 : Cond.instanceMethod yX1_knownMost ∈ lw_tbl := in_t5 (List.mem_of_getElem? (i := 118) (by decide +kernel))
theorem tw_4_227 : Cond.methodLinkNest RX1 67 yX3_keep "SecondLife" ∈ lw_tbl := in_t4 (List.mem_of_getElem? (i := 227) (by decide +kernel))
theorem tw_5_25 : Cond.methodLinkNest RX1 114 yX10_grownAt "SecondLife" ∈ lw_tbl := in_t5 (List.mem_of_getElem? (i := 25) (by decide +kernel))
theorem tw_5_21 : Cond.methodLink RX1 108 yX1_choicesIn ∈ lw_tbl := in_t5 (List.mem_of_getElem? (i := 21) (by decide +kernel))
theorem tw_2_2 : Cond.fieldLinkNest RX1 71 "SecondLife$Ways" "start" "I" "SecondLife" ∈ lw_tbl := in_t2 (List.mem_of_getElem? (i := 2) (by decide +kernel))
theorem tw_5_11 : Cond.methodLinkNest RX1 80 yX10_yearOf "SecondLife" ∈ lw_tbl := in_t5 (List.mem_of_getElem? (i := 11) (by decide +kernel))
theorem tw_1_54 : Cond.fieldLinkNest RX1 96 "SecondLife$Town" "years" "I" "SecondLife" ∈ lw_tbl := in_t1 (List.mem_of_getElem? (i := 54) (by decide +kernel))
theorem tw_5_20 : Cond.methodLinkNest RX1 101 yX10_lifeOf "SecondLife" ∈ lw_tbl := in_t5 (List.mem_of_getElem? (i := 20) (by decide +kernel))
theorem tw_1_236 : Cond.fieldLinkNest RX1 104 "SecondLife$Ways" "mayDraw" "Z" "SecondLife" ∈ lw_tbl := in_t1 (List.mem_of_getElem? (i := 236) (by decide +kernel))
theorem tw_5_19 : Cond.code yX1_howMany cX1_howMany 6 (some .long) ∈ lw_tbl := in_t5 (List.mem_of_getElem? (i := 19) (by decide +kernel))
theorem tw_5_18 : Cond.instanceMethod yX1_howMany ∈ lw_tbl := in_t5 (List.mem_of_getElem? (i := 18) (by decide +kernel))
theorem tw_5_40 : Cond.methodLink RX1 133 yJ9_max_7cf53 ∈ lw_tbl := in_t5 (List.mem_of_getElem? (i := 40) (by decide +kernel))
theorem tw_5_39 : Cond.code yX1_reach cX1_reach 4 none ∈ lw_tbl := in_t5 (List.mem_of_getElem? (i := 39) (by decide +kernel))
theorem tw_5_38 : Cond.instanceMethod yX1_reach ∈ lw_tbl := in_t5 (List.mem_of_getElem? (i := 38) (by decide +kernel))
theorem tw_4_39 : Cond.methodLinkNest RX2 51 yX5_put "SecondLife" ∈ lw_tbl := in_t4 (List.mem_of_getElem? (i := 39) (by decide +kernel))
theorem tw_4_36 : Cond.methodLinkNest RX2 34 yX5_part "SecondLife" ∈ lw_tbl := in_t4 (List.mem_of_getElem? (i := 36) (by decide +kernel))
theorem tw_4_34 : Cond.methodLinkNest RX2 22 yX5_has "SecondLife" ∈ lw_tbl := in_t4 (List.mem_of_getElem? (i := 34) (by decide +kernel))
theorem tw_4_35 : Cond.methodLinkNest RX2 28 yX8_hasTrade "SecondLife" ∈ lw_tbl := in_t4 (List.mem_of_getElem? (i := 35) (by decide +kernel))
theorem tw_1_48 : Cond.fieldLinkNest RX2 38 "SecondLife$Town" "years" "I" "SecondLife" ∈ lw_tbl := in_t1 (List.mem_of_getElem? (i := 48) (by decide +kernel))
theorem tw_4_37 : Cond.methodLinkNest RX2 41 yX7_about "SecondLife" ∈ lw_tbl := in_t4 (List.mem_of_getElem? (i := 37) (by decide +kernel))
theorem tw_1_154 : Cond.fieldLinkNest RX2 59 "SecondLife$People" "cash" "I" "SecondLife" ∈ lw_tbl := in_t1 (List.mem_of_getElem? (i := 154) (by decide +kernel))
theorem tw_4_62 : Cond.code yX2_pledges cX2_pledges 4 (some .int) ∈ lw_tbl := in_t4 (List.mem_of_getElem? (i := 62) (by decide +kernel))
theorem tw_4_61 : Cond.instanceMethod yX2_pledges ∈ lw_tbl := in_t4 (List.mem_of_getElem? (i := 61) (by decide +kernel))
theorem tw_4_70 : Cond.code yX2_redeems cX2_redeems 4 (some .int) ∈ lw_tbl := in_t4 (List.mem_of_getElem? (i := 70) (by decide +kernel))
theorem tw_4_69 : Cond.instanceMethod yX2_redeems ∈ lw_tbl := in_t4 (List.mem_of_getElem? (i := 69) (by decide +kernel))
theorem tw_4_118 : Cond.methodLink RX2 90 yX2_pledges ∈ lw_tbl := in_t4 (List.mem_of_getElem? (i := 118) (by decide +kernel))
theorem tw_4_113 : Cond.constantLong RX2 78 (110) ∈ lw_tbl := in_t4 (List.mem_of_getElem? (i := 113) (by decide +kernel))
theorem tw_4_114 : Cond.constantLong RX2 80 (119) ∈ lw_tbl := in_t4 (List.mem_of_getElem? (i := 114) (by decide +kernel))
theorem tw_4_115 : Cond.methodLink RX2 82 yX2_redeems ∈ lw_tbl := in_t4 (List.mem_of_getElem? (i := 115) (by decide +kernel))
theorem tw_4_111 : Cond.constantLong RX2 72 (109) ∈ lw_tbl := in_t4 (List.mem_of_getElem? (i := 111) (by decide +kernel))
theorem tw_4_99 : Cond.methodLinkNest RX2 99 yX9_number "SecondLife" ∈ lw_tbl := in_t4 (List.mem_of_getElem? (i := 99) (by decide +kernel))
theorem tw_4_144 : Cond.methodLink RX2 111 yX2_nextDrawn ∈ lw_tbl := in_t4 (List.mem_of_getElem? (i := 144) (by decide +kernel))
theorem tw_2_35 : Cond.methodLink RX3 11 yJ9_max_7cf53 ∈ lw_tbl := in_t2 (List.mem_of_getElem? (i := 35) (by decide +kernel))
theorem tw_2_33 : Cond.code yX3_init cX3_init 2 none ∈ lw_tbl := in_t2 (List.mem_of_getElem? (i := 33) (by decide +kernel))
theorem tw_2_32 : Cond.instanceMethod yX3_init ∈ lw_tbl := in_t2 (List.mem_of_getElem? (i := 32) (by decide +kernel))
theorem tw_1_171 : Cond.methodLinkNest RX4 22 yX5_init "SecondLife" ∈ lw_tbl := in_t1 (List.mem_of_getElem? (i := 171) (by decide +kernel))
theorem tw_1_168 : Cond.methodLink RX4 1 Lib.objectInit ∈ lw_tbl := in_t1 (List.mem_of_getElem? (i := 168) (by decide +kernel))
theorem tw_1_170 : Cond.arrayOver (.object RX5) ∈ lw_tbl := in_t1 (List.mem_of_getElem? (i := 170) (by decide +kernel))
theorem tw_1_167 : Cond.code yX4_init cX4_init 2 none ∈ lw_tbl := in_t1 (List.mem_of_getElem? (i := 167) (by decide +kernel))
theorem tw_1_166 : Cond.instanceMethod yX4_init ∈ lw_tbl := in_t1 (List.mem_of_getElem? (i := 166) (by decide +kernel))
theorem tw_4_44 : Cond.methodLinkNest RX4 23 yX5_copy "SecondLife" ∈ lw_tbl := in_t4 (List.mem_of_getElem? (i := 44) (by decide +kernel))
theorem tw_4_45 : Cond.methodLink RX4 27 yJ9_min_7cf53 ∈ lw_tbl := in_t4 (List.mem_of_getElem? (i := 45) (by decide +kernel))
theorem tw_4_43 : Cond.code yX4_keep cX4_keep 3 none ∈ lw_tbl := in_t4 (List.mem_of_getElem? (i := 43) (by decide +kernel))
theorem tw_4_42 : Cond.instanceMethod yX4_keep ∈ lw_tbl := in_t4 (List.mem_of_getElem? (i := 42) (by decide +kernel))
theorem tw_4_84 : Cond.methodLink RX4 33 yJ9_floorMod_7cf53 ∈ lw_tbl := in_t4 (List.mem_of_getElem? (i := 84) (by decide +kernel))
theorem tw_4_83 : Cond.code yX4_bringBack cX4_bringBack 5 (some .boolean) ∈ lw_tbl := in_t4 (List.mem_of_getElem? (i := 83) (by decide +kernel))
theorem tw_4_82 : Cond.instanceMethod yX4_bringBack ∈ lw_tbl := in_t4 (List.mem_of_getElem? (i := 82) (by decide +kernel))
theorem tw_3_186 : Cond.methodLink RX5 32 yX5_put ∈ lw_tbl := in_t3 (List.mem_of_getElem? (i := 186) (by decide +kernel))
theorem tw_3_190 : Cond.methodLinkNest RX5 36 yX8_talentOf "SecondLife" ∈ lw_tbl := in_t3 (List.mem_of_getElem? (i := 190) (by decide +kernel))
theorem tw_3_194 : Cond.methodLinkNest RX5 40 yX8_fearOf "SecondLife" ∈ lw_tbl := in_t3 (List.mem_of_getElem? (i := 194) (by decide +kernel))
theorem tw_3_183 : Cond.methodLink RX5 22 yJ7_fill_53178 ∈ lw_tbl := in_t3 (List.mem_of_getElem? (i := 183) (by decide +kernel))
theorem tw_1_61 : Cond.fieldLinkNest RX5 28 "SecondLife$Town" "size" "I" "SecondLife" ∈ lw_tbl := in_t1 (List.mem_of_getElem? (i := 61) (by decide +kernel))
theorem tw_1_64 : Cond.fieldLinkNest RX5 31 "SecondLife$Town" "cash" "I" "SecondLife" ∈ lw_tbl := in_t1 (List.mem_of_getElem? (i := 64) (by decide +kernel))
theorem tw_3_182 : Cond.code yX5_settle cX5_settle 3 none ∈ lw_tbl := in_t3 (List.mem_of_getElem? (i := 182) (by decide +kernel))
theorem tw_3_181 : Cond.instanceMethod yX5_settle ∈ lw_tbl := in_t3 (List.mem_of_getElem? (i := 181) (by decide +kernel))
theorem tw_5_189 : Cond.methodLink RX5 57 yJ6_bitCount_0f7a4 ∈ lw_tbl := in_t5 (List.mem_of_getElem? (i := 189) (by decide +kernel))
theorem tw_5_188 : Cond.code yX5_joining cX5_joining 6 (some .int) ∈ lw_tbl := in_t5 (List.mem_of_getElem? (i := 188) (by decide +kernel))
theorem tw_5_187 : Cond.instanceMethod yX5_joining ∈ lw_tbl := in_t5 (List.mem_of_getElem? (i := 187) (by decide +kernel))
theorem tw_5_185 : Cond.methodLink RX5 62 yX5_joining ∈ lw_tbl := in_t5 (List.mem_of_getElem? (i := 185) (by decide +kernel))
theorem tw_5_184 : Cond.code yX5_runOf cX5_runOf 6 (some .int) ∈ lw_tbl := in_t5 (List.mem_of_getElem? (i := 184) (by decide +kernel))
theorem tw_5_183 : Cond.instanceMethod yX5_runOf ∈ lw_tbl := in_t5 (List.mem_of_getElem? (i := 183) (by decide +kernel))
theorem tw_5_202 : Cond.code yX5_roundsOf cX5_roundsOf 5 (some .int) ∈ lw_tbl := in_t5 (List.mem_of_getElem? (i := 202) (by decide +kernel))
theorem tw_5_201 : Cond.instanceMethod yX5_roundsOf ∈ lw_tbl := in_t5 (List.mem_of_getElem? (i := 201) (by decide +kernel))
theorem tw_5_220 : Cond.code yX5_atRest cX5_atRest 6 (some .boolean) ∈ lw_tbl := in_t5 (List.mem_of_getElem? (i := 220) (by decide +kernel))
theorem tw_5_219 : Cond.instanceMethod yX5_atRest ∈ lw_tbl := in_t5 (List.mem_of_getElem? (i := 219) (by decide +kernel))
theorem tw_1_39 : Cond.methodLinkNest RX6 39 yX8_init "SecondLife" ∈ lw_tbl := in_t1 (List.mem_of_getElem? (i := 39) (by decide +kernel))
theorem tw_1_114 : Cond.fieldLink RX6 44 "SecondLife$Reader" "lawOfWorth" "Z" ∈ lw_tbl := in_t1 (List.mem_of_getElem? (i := 114) (by decide +kernel))
theorem tw_1_35 : Cond.code yX6_init cX6_init 1 none ∈ lw_tbl := in_t1 (List.mem_of_getElem? (i := 35) (by decide +kernel))
theorem tw_1_34 : Cond.instanceMethod yX6_init ∈ lw_tbl := in_t1 (List.mem_of_getElem? (i := 34) (by decide +kernel))
theorem tw_3_93 : Cond.methodLinkNest RX6 126 yX8_addPerson "SecondLife" ∈ lw_tbl := in_t3 (List.mem_of_getElem? (i := 93) (by decide +kernel))
theorem tw_3_67 : Cond.methodLink RX6 110 yX6_wrong ∈ lw_tbl := in_t3 (List.mem_of_getElem? (i := 67) (by decide +kernel))
theorem tw_2_175 : Cond.methodLink RX6 225 yX6_byteAt ∈ lw_tbl := in_t2 (List.mem_of_getElem? (i := 175) (by decide +kernel))
theorem tw_2_185 : Cond.methodLink RX6 239 yX6_isDigit ∈ lw_tbl := in_t2 (List.mem_of_getElem? (i := 185) (by decide +kernel))
theorem tw_2_182 : Cond.methodLink RX6 236 yX6_isLetter ∈ lw_tbl := in_t2 (List.mem_of_getElem? (i := 182) (by decide +kernel))
theorem tw_3_239 : Cond.methodLink RX7 44 yX7_factAt ∈ lw_tbl := in_t3 (List.mem_of_getElem? (i := 239) (by decide +kernel))
theorem tw_4_3 : Cond.methodLink RX7 48 yX7_joined ∈ lw_tbl := in_t4 (List.mem_of_getElem? (i := 3) (by decide +kernel))
theorem tw_3_238 : Cond.code yX7_tell cX7_tell 5 (some .int) ∈ lw_tbl := in_t3 (List.mem_of_getElem? (i := 238) (by decide +kernel))
theorem tw_3_237 : Cond.instanceMethod yX7_tell ∈ lw_tbl := in_t3 (List.mem_of_getElem? (i := 237) (by decide +kernel))
theorem tw_5_233 : Cond.methodLink RX9 24 yJ7_fill_d0a16 ∈ lw_tbl := in_t5 (List.mem_of_getElem? (i := 233) (by decide +kernel))
theorem tw_5_232 : Cond.code yX9_make cX9_make 3 none ∈ lw_tbl := in_t5 (List.mem_of_getElem? (i := 232) (by decide +kernel))
theorem tw_5_231 : Cond.instanceMethod yX9_make ∈ lw_tbl := in_t5 (List.mem_of_getElem? (i := 231) (by decide +kernel))
theorem tw_6_4 : Cond.methodLink RX9 30 yX9_cut ∈ lw_tbl := in_t6 (List.mem_of_getElem? (i := 4) (by decide +kernel))
theorem tw_6_3 : Cond.code yX9_put cX9_put 4 none ∈ lw_tbl := in_t6 (List.mem_of_getElem? (i := 3) (by decide +kernel))
theorem tw_6_2 : Cond.instanceMethod yX9_put ∈ lw_tbl := in_t6 (List.mem_of_getElem? (i := 2) (by decide +kernel))
theorem tw_4_195 : Cond.methodLink RX10 84 yJ9_min_7cf53 ∈ lw_tbl := in_t4 (List.mem_of_getElem? (i := 195) (by decide +kernel))
theorem tw_4_188 : Cond.code yX10_afterYear cX10_afterYear 5 (some .int) ∈ lw_tbl := in_t4 (List.mem_of_getElem? (i := 188) (by decide +kernel))
theorem tw_4_187 : Cond.instanceMethod yX10_afterYear ∈ lw_tbl := in_t4 (List.mem_of_getElem? (i := 187) (by decide +kernel))
theorem tw_4_223 : Cond.methodLink RX10 92 yX10_grownAt ∈ lw_tbl := in_t4 (List.mem_of_getElem? (i := 223) (by decide +kernel))
theorem tw_4_222 : Cond.code yX10_afterDrawing cX10_afterDrawing 3 (some .int) ∈ lw_tbl := in_t4 (List.mem_of_getElem? (i := 222) (by decide +kernel))
theorem tw_4_221 : Cond.instanceMethod yX10_afterDrawing ∈ lw_tbl := in_t4 (List.mem_of_getElem? (i := 221) (by decide +kernel))
theorem tw_4_207 : Cond.methodLink RX10 104 yX10_turnTo ∈ lw_tbl := in_t4 (List.mem_of_getElem? (i := 207) (by decide +kernel))
theorem tw_2_207 : Cond.methodLink RJ0 335 yJ0_coder_7d493 ∈ lw_tbl := in_t2 (List.mem_of_getElem? (i := 207) (by decide +kernel))
theorem tw_2_206 : Cond.code yJ0_length_8abf5 cJ0_length_8abf5 1 (some .int) ∈ lw_tbl := in_t2 (List.mem_of_getElem? (i := 206) (by decide +kernel))
theorem tw_2_204 : Cond.instanceMethod yJ0_length_8abf5 ∈ lw_tbl := in_t2 (List.mem_of_getElem? (i := 204) (by decide +kernel))
theorem tw_2_205 : Cond.selects RJ0 yJ0_length_8abf5 yJ0_length_8abf5 ∈ lw_tbl := in_t2 (List.mem_of_getElem? (i := 205) (by decide +kernel))
theorem tw_2_197 : Cond.methodLink RJ0 492 yJ0_isLatin1_aae02 ∈ lw_tbl := in_t2 (List.mem_of_getElem? (i := 197) (by decide +kernel))
theorem tw_2_203 : Cond.methodLink RJ0 505 yJ0_length_8abf5 ∈ lw_tbl := in_t2 (List.mem_of_getElem? (i := 203) (by decide +kernel))
theorem tw_3_57 : Cond.methodLink RJ0 1059 yJ3_checkIndex_8e157 ∈ lw_tbl := in_t3 (List.mem_of_getElem? (i := 57) (by decide +kernel))
theorem tw_3_56 : Cond.code yJ0_checkIndex_df160 cJ0_checkIndex_df160 2 none ∈ lw_tbl := in_t3 (List.mem_of_getElem? (i := 56) (by decide +kernel))
theorem tw_3_55 : Cond.static yJ0_checkIndex_df160 ∈ lw_tbl := in_t3 (List.mem_of_getElem? (i := 55) (by decide +kernel))
theorem tw_3_54 : Cond.methodLink RJ1 9 yJ0_checkIndex_df160 ∈ lw_tbl := in_t3 (List.mem_of_getElem? (i := 54) (by decide +kernel))
theorem tw_3_53 : Cond.code yJ1_charAt_3b067 cJ1_charAt_3b067 2 (some .char) ∈ lw_tbl := in_t3 (List.mem_of_getElem? (i := 53) (by decide +kernel))
theorem tw_3_52 : Cond.static yJ1_charAt_3b067 ∈ lw_tbl := in_t3 (List.mem_of_getElem? (i := 52) (by decide +kernel))
theorem tw_2_221 : Cond.methodLink RJ1 95 yJ1_indexOfChar_4cfef ∈ lw_tbl := in_t2 (List.mem_of_getElem? (i := 221) (by decide +kernel))
theorem tw_2_213 : Cond.code yJ1_indexOf_4cfef cJ1_indexOf_4cfef 4 (some .int) ∈ lw_tbl := in_t2 (List.mem_of_getElem? (i := 213) (by decide +kernel))
theorem tw_2_212 : Cond.static yJ1_indexOf_4cfef ∈ lw_tbl := in_t2 (List.mem_of_getElem? (i := 212) (by decide +kernel))
theorem tw_1_33 : Cond.methodLinkNest RX11 19 yX6_init "SecondLife" ∈ lw_tbl := in_t1 (List.mem_of_getElem? (i := 33) (by decide +kernel))
theorem tw_1_142 : Cond.classLink RX11 24 RX8 ∈ lw_tbl := in_t1 (List.mem_of_getElem? (i := 142) (by decide +kernel))
theorem tw_1_143 : Cond.methodLinkNest RX11 26 yX8_init "SecondLife" ∈ lw_tbl := in_t1 (List.mem_of_getElem? (i := 143) (by decide +kernel))
theorem tw_1_163 : Cond.classLink RX11 41 RX4 ∈ lw_tbl := in_t1 (List.mem_of_getElem? (i := 163) (by decide +kernel))
theorem tw_1_164 : Cond.instantiable RX4 3 ∈ lw_tbl := in_t1 (List.mem_of_getElem? (i := 164) (by decide +kernel))
theorem tw_1_165 : Cond.methodLinkNest RX11 43 yX4_init "SecondLife" ∈ lw_tbl := in_t1 (List.mem_of_getElem? (i := 165) (by decide +kernel))
theorem tw_1_183 : Cond.arrayOver (.object RX8) ∈ lw_tbl := in_t1 (List.mem_of_getElem? (i := 183) (by decide +kernel))
theorem tw_1_185 : Cond.arrayOver (.object RX9) ∈ lw_tbl := in_t1 (List.mem_of_getElem? (i := 185) (by decide +kernel))
theorem tw_1_186 : Cond.classLink RX11 62 RX7 ∈ lw_tbl := in_t1 (List.mem_of_getElem? (i := 186) (by decide +kernel))
theorem tw_1_187 : Cond.instantiable RX7 2 ∈ lw_tbl := in_t1 (List.mem_of_getElem? (i := 187) (by decide +kernel))
theorem tw_1_188 : Cond.methodLinkNest RX11 64 yX7_init "SecondLife" ∈ lw_tbl := in_t1 (List.mem_of_getElem? (i := 188) (by decide +kernel))
theorem tw_1_200 : Cond.classLink RX11 69 RX2 ∈ lw_tbl := in_t1 (List.mem_of_getElem? (i := 200) (by decide +kernel))
theorem tw_1_201 : Cond.instantiable RX2 3 ∈ lw_tbl := in_t1 (List.mem_of_getElem? (i := 201) (by decide +kernel))
theorem tw_1_202 : Cond.methodLinkNest RX11 71 yX2_init "SecondLife" ∈ lw_tbl := in_t1 (List.mem_of_getElem? (i := 202) (by decide +kernel))
theorem tw_1_217 : Cond.classLink RX11 78 RX10 ∈ lw_tbl := in_t1 (List.mem_of_getElem? (i := 217) (by decide +kernel))
theorem tw_1_218 : Cond.instantiable RX10 9 ∈ lw_tbl := in_t1 (List.mem_of_getElem? (i := 218) (by decide +kernel))
theorem tw_1_219 : Cond.methodLinkNest RX11 80 yX10_init "SecondLife" ∈ lw_tbl := in_t1 (List.mem_of_getElem? (i := 219) (by decide +kernel))
theorem tw_2_23 : Cond.classLink RX11 85 RX1 ∈ lw_tbl := in_t2 (List.mem_of_getElem? (i := 23) (by decide +kernel))
theorem tw_2_24 : Cond.instantiable RX1 4 ∈ lw_tbl := in_t2 (List.mem_of_getElem? (i := 24) (by decide +kernel))
theorem tw_4_59 : Cond.methodLinkNest RX11 178 yX2_pledges "SecondLife" ∈ lw_tbl := in_t4 (List.mem_of_getElem? (i := 59) (by decide +kernel))
theorem tw_4_40 : Cond.methodLinkNest RX11 171 yX4_keep "SecondLife" ∈ lw_tbl := in_t4 (List.mem_of_getElem? (i := 40) (by decide +kernel))
theorem tw_4_58 : Cond.code yX11_pledge cX11_pledge 4 (some .int) ∈ lw_tbl := in_t4 (List.mem_of_getElem? (i := 58) (by decide +kernel))
theorem tw_4_56 : Cond.instanceMethod yX11_pledge ∈ lw_tbl := in_t4 (List.mem_of_getElem? (i := 56) (by decide +kernel))
theorem tw_4_57 : Cond.selects RX11 yX11_pledge yX11_pledge ∈ lw_tbl := in_t4 (List.mem_of_getElem? (i := 57) (by decide +kernel))
theorem tw_4_67 : Cond.methodLinkNest RX11 185 yX2_redeems "SecondLife" ∈ lw_tbl := in_t4 (List.mem_of_getElem? (i := 67) (by decide +kernel))
theorem tw_4_66 : Cond.code yX11_redeem cX11_redeem 3 (some .int) ∈ lw_tbl := in_t4 (List.mem_of_getElem? (i := 66) (by decide +kernel))
theorem tw_4_64 : Cond.instanceMethod yX11_redeem ∈ lw_tbl := in_t4 (List.mem_of_getElem? (i := 64) (by decide +kernel))
theorem tw_4_65 : Cond.selects RX11 yX11_redeem yX11_redeem ∈ lw_tbl := in_t4 (List.mem_of_getElem? (i := 65) (by decide +kernel))
theorem tw_4_74 : Cond.code yX11_talent cX11_talent 4 (some .int) ∈ lw_tbl := in_t4 (List.mem_of_getElem? (i := 74) (by decide +kernel))
theorem tw_4_72 : Cond.instanceMethod yX11_talent ∈ lw_tbl := in_t4 (List.mem_of_getElem? (i := 72) (by decide +kernel))
theorem tw_4_73 : Cond.selects RX11 yX11_talent yX11_talent ∈ lw_tbl := in_t4 (List.mem_of_getElem? (i := 73) (by decide +kernel))
theorem tw_4_80 : Cond.methodLinkNest RX11 193 yX4_bringBack "SecondLife" ∈ lw_tbl := in_t4 (List.mem_of_getElem? (i := 80) (by decide +kernel))
theorem tw_4_79 : Cond.code yX11_undo cX11_undo 2 (some .int) ∈ lw_tbl := in_t4 (List.mem_of_getElem? (i := 79) (by decide +kernel))
theorem tw_4_77 : Cond.instanceMethod yX11_undo ∈ lw_tbl := in_t4 (List.mem_of_getElem? (i := 77) (by decide +kernel))
theorem tw_4_78 : Cond.selects RX11 yX11_undo yX11_undo ∈ lw_tbl := in_t4 (List.mem_of_getElem? (i := 78) (by decide +kernel))
theorem tw_5_150 : Cond.methodLink RX11 271 yX11_livedFault ∈ lw_tbl := in_t5 (List.mem_of_getElem? (i := 150) (by decide +kernel))
theorem tw_5_181 : Cond.methodLinkNest RX11 288 yX5_runOf "SecondLife" ∈ lw_tbl := in_t5 (List.mem_of_getElem? (i := 181) (by decide +kernel))
theorem tw_5_172 : Cond.code yX11_run cX11_run 2 (some .int) ∈ lw_tbl := in_t5 (List.mem_of_getElem? (i := 172) (by decide +kernel))
theorem tw_5_170 : Cond.instanceMethod yX11_run ∈ lw_tbl := in_t5 (List.mem_of_getElem? (i := 170) (by decide +kernel))
theorem tw_5_171 : Cond.selects RX11 yX11_run yX11_run ∈ lw_tbl := in_t5 (List.mem_of_getElem? (i := 171) (by decide +kernel))
theorem tw_5_199 : Cond.methodLinkNest RX11 291 yX5_roundsOf "SecondLife" ∈ lw_tbl := in_t5 (List.mem_of_getElem? (i := 199) (by decide +kernel))
theorem tw_5_198 : Cond.code yX11_rounds cX11_rounds 2 (some .int) ∈ lw_tbl := in_t5 (List.mem_of_getElem? (i := 198) (by decide +kernel))
theorem tw_5_196 : Cond.instanceMethod yX11_rounds ∈ lw_tbl := in_t5 (List.mem_of_getElem? (i := 196) (by decide +kernel))
theorem tw_5_197 : Cond.selects RX11 yX11_rounds yX11_rounds ∈ lw_tbl := in_t5 (List.mem_of_getElem? (i := 197) (by decide +kernel))
theorem tw_5_206 : Cond.code yX11_spark cX11_spark 6 (some .int) ∈ lw_tbl := in_t5 (List.mem_of_getElem? (i := 206) (by decide +kernel))
theorem tw_5_204 : Cond.instanceMethod yX11_spark ∈ lw_tbl := in_t5 (List.mem_of_getElem? (i := 204) (by decide +kernel))
theorem tw_5_205 : Cond.selects RX11 yX11_spark yX11_spark ∈ lw_tbl := in_t5 (List.mem_of_getElem? (i := 205) (by decide +kernel))
theorem tw_5_212 : Cond.code yX11_calm cX11_calm 7 (some .int) ∈ lw_tbl := in_t5 (List.mem_of_getElem? (i := 212) (by decide +kernel))
theorem tw_5_210 : Cond.instanceMethod yX11_calm ∈ lw_tbl := in_t5 (List.mem_of_getElem? (i := 210) (by decide +kernel))
theorem tw_5_211 : Cond.selects RX11 yX11_calm yX11_calm ∈ lw_tbl := in_t5 (List.mem_of_getElem? (i := 211) (by decide +kernel))
theorem tw_5_217 : Cond.methodLinkNest RX11 302 yX5_atRest "SecondLife" ∈ lw_tbl := in_t5 (List.mem_of_getElem? (i := 217) (by decide +kernel))
theorem tw_5_216 : Cond.code yX11_rests cX11_rests 3 (some .int) ∈ lw_tbl := in_t5 (List.mem_of_getElem? (i := 216) (by decide +kernel))
theorem tw_5_214 : Cond.instanceMethod yX11_rests ∈ lw_tbl := in_t5 (List.mem_of_getElem? (i := 214) (by decide +kernel))
theorem tw_5_215 : Cond.selects RX11 yX11_rests yX11_rests ∈ lw_tbl := in_t5 (List.mem_of_getElem? (i := 215) (by decide +kernel))
theorem tw_5_224 : Cond.code yX11_rest cX11_rest 4 (some .int) ∈ lw_tbl := in_t5 (List.mem_of_getElem? (i := 224) (by decide +kernel))
theorem tw_5_222 : Cond.instanceMethod yX11_rest ∈ lw_tbl := in_t5 (List.mem_of_getElem? (i := 222) (by decide +kernel))
theorem tw_5_223 : Cond.selects RX11 yX11_rest yX11_rest ∈ lw_tbl := in_t5 (List.mem_of_getElem? (i := 223) (by decide +kernel))
theorem tw_5_229 : Cond.methodLinkNest RX11 305 yX9_make "SecondLife" ∈ lw_tbl := in_t5 (List.mem_of_getElem? (i := 229) (by decide +kernel))
theorem tw_5_228 : Cond.code yX11_numbers cX11_numbers 5 (some .int) ∈ lw_tbl := in_t5 (List.mem_of_getElem? (i := 228) (by decide +kernel))
theorem tw_5_226 : Cond.instanceMethod yX11_numbers ∈ lw_tbl := in_t5 (List.mem_of_getElem? (i := 226) (by decide +kernel))
theorem tw_5_227 : Cond.selects RX11 yX11_numbers yX11_numbers ∈ lw_tbl := in_t5 (List.mem_of_getElem? (i := 227) (by decide +kernel))
theorem tw_6_0 : Cond.methodLinkNest RX11 309 yX9_put "SecondLife" ∈ lw_tbl := in_t6 (List.mem_of_getElem? (i := 0) (by decide +kernel))
theorem tw_5_239 : Cond.code yX11_write cX11_write 6 (some .long) ∈ lw_tbl := in_t5 (List.mem_of_getElem? (i := 239) (by decide +kernel))
theorem tw_5_237 : Cond.instanceMethod yX11_write ∈ lw_tbl := in_t5 (List.mem_of_getElem? (i := 237) (by decide +kernel))
theorem tw_5_238 : Cond.selects RX11 yX11_write yX11_write ∈ lw_tbl := in_t5 (List.mem_of_getElem? (i := 238) (by decide +kernel))
theorem tw_6_182 : Cond.methodLink RX12 90 yJ0_length_8abf5 ∈ lw_tbl := in_t6 (List.mem_of_getElem? (i := 182) (by decide +kernel))
theorem tw_6_170 : Cond.methodLink RX12 106 yX12_see ∈ lw_tbl := in_t6 (List.mem_of_getElem? (i := 170) (by decide +kernel))
theorem tw_2_63 : Cond.methodLinkNest RX0 13 yX3_init "SecondLife" ∈ lw_tbl := in_t2 (List.mem_of_getElem? (i := 63) (by decide +kernel))
theorem tw_2_60 : Cond.code yX0_init cX0_init 3 none ∈ lw_tbl := in_t2 (List.mem_of_getElem? (i := 60) (by decide +kernel))
theorem tw_2_59 : Cond.instanceMethod yX0_init ∈ lw_tbl := in_t2 (List.mem_of_getElem? (i := 59) (by decide +kernel))
theorem tw_5_124 : Cond.methodLink RX0 37 yX0_layOutHopes ∈ lw_tbl := in_t5 (List.mem_of_getElem? (i := 124) (by decide +kernel))
theorem tw_5_123 : Cond.code yX0_keptHopes cX0_keptHopes 1 (some (.object "SecondLife$Memo")) ∈ lw_tbl := in_t5 (List.mem_of_getElem? (i := 123) (by decide +kernel))
theorem tw_5_122 : Cond.instanceMethod yX0_keptHopes ∈ lw_tbl := in_t5 (List.mem_of_getElem? (i := 122) (by decide +kernel))
theorem tw_5_62 : Cond.methodLinkNest RX0 119 yX10_afterDrawing "SecondLife" ∈ lw_tbl := in_t5 (List.mem_of_getElem? (i := 62) (by decide +kernel))
theorem tw_5_116 : Cond.methodLinkNest RX0 130 yX1_knownMost "SecondLife" ∈ lw_tbl := in_t5 (List.mem_of_getElem? (i := 116) (by decide +kernel))
theorem tw_5_120 : Cond.methodLink RX0 133 yX0_keptHopes ∈ lw_tbl := in_t5 (List.mem_of_getElem? (i := 120) (by decide +kernel))
theorem tw_5_132 : Cond.code yX0_hopeByDrawing cX0_hopeByDrawing 5 (some .long) ∈ lw_tbl := in_t5 (List.mem_of_getElem? (i := 132) (by decide +kernel))
theorem tw_5_131 : Cond.instanceMethod yX0_hopeByDrawing ∈ lw_tbl := in_t5 (List.mem_of_getElem? (i := 131) (by decide +kernel))
theorem tw_5_129 : Cond.methodLink RX0 137 yX0_hopeByDrawing ∈ lw_tbl := in_t5 (List.mem_of_getElem? (i := 129) (by decide +kernel))
theorem tw_5_75 : Cond.methodLinkNest RX0 113 yX10_afterYear "SecondLife" ∈ lw_tbl := in_t5 (List.mem_of_getElem? (i := 75) (by decide +kernel))
theorem tw_2_31 : Cond.methodLinkNest RX1 13 yX3_init "SecondLife" ∈ lw_tbl := in_t2 (List.mem_of_getElem? (i := 31) (by decide +kernel))
theorem tw_2_27 : Cond.code yX1_init cX1_init 2 none ∈ lw_tbl := in_t2 (List.mem_of_getElem? (i := 27) (by decide +kernel))
theorem tw_2_26 : Cond.instanceMethod yX1_init ∈ lw_tbl := in_t2 (List.mem_of_getElem? (i := 26) (by decide +kernel))
theorem tw_4_219 : Cond.methodLinkNest RX1 64 yX10_afterDrawing "SecondLife" ∈ lw_tbl := in_t4 (List.mem_of_getElem? (i := 219) (by decide +kernel))
theorem tw_4_169 : Cond.code yX1_bestFrom cX1_bestFrom 11 (some .long) ∈ lw_tbl := in_t4 (List.mem_of_getElem? (i := 169) (by decide +kernel))
theorem tw_4_168 : Cond.instanceMethod yX1_bestFrom ∈ lw_tbl := in_t4 (List.mem_of_getElem? (i := 168) (by decide +kernel))
theorem tw_4_166 : Cond.methodLink RX1 33 yX1_bestFrom ∈ lw_tbl := in_t4 (List.mem_of_getElem? (i := 166) (by decide +kernel))
theorem tw_4_185 : Cond.methodLinkNest RX1 57 yX10_afterYear "SecondLife" ∈ lw_tbl := in_t4 (List.mem_of_getElem? (i := 185) (by decide +kernel))
theorem tw_5_2 : Cond.code yX1_after cX1_after 3 (some .int) ∈ lw_tbl := in_t5 (List.mem_of_getElem? (i := 2) (by decide +kernel))
theorem tw_5_1 : Cond.instanceMethod yX1_after ∈ lw_tbl := in_t5 (List.mem_of_getElem? (i := 1) (by decide +kernel))
theorem tw_6_16 : Cond.methodLinkNest RX1 88 yX9_put "SecondLife" ∈ lw_tbl := in_t6 (List.mem_of_getElem? (i := 16) (by decide +kernel))
theorem tw_4_239 : Cond.methodLink RX1 77 yX1_after ∈ lw_tbl := in_t4 (List.mem_of_getElem? (i := 239) (by decide +kernel))
theorem tw_2_91 : Cond.fieldLinkNest RX1 83 "SecondLife$Tray" "size" "I" "SecondLife" ∈ lw_tbl := in_t2 (List.mem_of_getElem? (i := 91) (by decide +kernel))
theorem tw_5_36 : Cond.methodLink RX1 124 yX1_reach ∈ lw_tbl := in_t5 (List.mem_of_getElem? (i := 36) (by decide +kernel))
theorem tw_3_46 : Cond.methodLink RX6 221 yJ0_length_8abf5 ∈ lw_tbl := in_t3 (List.mem_of_getElem? (i := 46) (by decide +kernel))
theorem tw_3_235 : Cond.methodLink RX7 29 yX7_tell ∈ lw_tbl := in_t3 (List.mem_of_getElem? (i := 235) (by decide +kernel))
theorem tw_4_10 : Cond.methodLinkNest RX7 33 yX11_within "SecondLife" ∈ lw_tbl := in_t4 (List.mem_of_getElem? (i := 10) (by decide +kernel))
theorem tw_3_234 : Cond.code yX7_worthOf cX7_worthOf 3 (some .int) ∈ lw_tbl := in_t3 (List.mem_of_getElem? (i := 234) (by decide +kernel))
theorem tw_3_233 : Cond.instanceMethod yX7_worthOf ∈ lw_tbl := in_t3 (List.mem_of_getElem? (i := 233) (by decide +kernel))
theorem tw_1_50 : Cond.fieldLinkNest RX7 40 "SecondLife$Town" "years" "I" "SecondLife" ∈ lw_tbl := in_t1 (List.mem_of_getElem? (i := 50) (by decide +kernel))
theorem tw_4_20 : Cond.code yX7_grownOf cX7_grownOf 2 (some .int) ∈ lw_tbl := in_t4 (List.mem_of_getElem? (i := 20) (by decide +kernel))
theorem tw_4_19 : Cond.instanceMethod yX7_grownOf ∈ lw_tbl := in_t4 (List.mem_of_getElem? (i := 19) (by decide +kernel))
theorem tw_4_161 : Cond.methodLinkNest RX10 64 yX7_grownOf "SecondLife" ∈ lw_tbl := in_t4 (List.mem_of_getElem? (i := 161) (by decide +kernel))
theorem tw_4_158 : Cond.methodLink RX10 55 yX10_standOf ∈ lw_tbl := in_t4 (List.mem_of_getElem? (i := 158) (by decide +kernel))
theorem tw_4_156 : Cond.code yX10_about cX10_about 7 none ∈ lw_tbl := in_t4 (List.mem_of_getElem? (i := 156) (by decide +kernel))
theorem tw_4_155 : Cond.instanceMethod yX10_about ∈ lw_tbl := in_t4 (List.mem_of_getElem? (i := 155) (by decide +kernel))
theorem tw_4_214 : Cond.methodLinkNest RX10 107 yX7_worthOf "SecondLife" ∈ lw_tbl := in_t4 (List.mem_of_getElem? (i := 214) (by decide +kernel))
theorem tw_4_215 : Cond.methodLinkNest RX10 111 yX3_keep "SecondLife" ∈ lw_tbl := in_t4 (List.mem_of_getElem? (i := 215) (by decide +kernel))
theorem tw_4_204 : Cond.methodLinkNest RX10 95 yX3_init "SecondLife" ∈ lw_tbl := in_t4 (List.mem_of_getElem? (i := 204) (by decide +kernel))
theorem tw_4_203 : Cond.code yX10_worthOf cX10_worthOf 7 (some .int) ∈ lw_tbl := in_t4 (List.mem_of_getElem? (i := 203) (by decide +kernel))
theorem tw_4_202 : Cond.instanceMethod yX10_worthOf ∈ lw_tbl := in_t4 (List.mem_of_getElem? (i := 202) (by decide +kernel))
theorem tw_3_51 : Cond.methodLink RJ0 495 yJ1_charAt_3b067 ∈ lw_tbl := in_t3 (List.mem_of_getElem? (i := 51) (by decide +kernel))
theorem tw_3_50 : Cond.code yJ0_charAt_5068e cJ0_charAt_5068e 2 (some .char) ∈ lw_tbl := in_t3 (List.mem_of_getElem? (i := 50) (by decide +kernel))
theorem tw_3_48 : Cond.instanceMethod yJ0_charAt_5068e ∈ lw_tbl := in_t3 (List.mem_of_getElem? (i := 48) (by decide +kernel))
theorem tw_3_49 : Cond.selects RJ0 yJ0_charAt_5068e yJ0_charAt_5068e ∈ lw_tbl := in_t3 (List.mem_of_getElem? (i := 49) (by decide +kernel))
theorem tw_2_211 : Cond.methodLink RJ0 637 yJ1_indexOf_4cfef ∈ lw_tbl := in_t2 (List.mem_of_getElem? (i := 211) (by decide +kernel))
theorem tw_2_196 : Cond.code yJ0_indexOf_7cf53 cJ0_indexOf_7cf53 3 (some .int) ∈ lw_tbl := in_t2 (List.mem_of_getElem? (i := 196) (by decide +kernel))
theorem tw_2_194 : Cond.instanceMethod yJ0_indexOf_7cf53 ∈ lw_tbl := in_t2 (List.mem_of_getElem? (i := 194) (by decide +kernel))
theorem tw_2_195 : Cond.selects RJ0 yJ0_indexOf_7cf53 yJ0_indexOf_7cf53 ∈ lw_tbl := in_t2 (List.mem_of_getElem? (i := 195) (by decide +kernel))
theorem tw_2_25 : Cond.methodLinkNest RX11 87 yX1_init "SecondLife" ∈ lw_tbl := in_t2 (List.mem_of_getElem? (i := 25) (by decide +kernel))
theorem tw_2_115 : Cond.fieldLink RX11 90 "SecondLife" "plans" "LSecondLife$Courses;" ∈ lw_tbl := in_t2 (List.mem_of_getElem? (i := 115) (by decide +kernel))
theorem tw_2_56 : Cond.classLink RX11 94 RX0 ∈ lw_tbl := in_t2 (List.mem_of_getElem? (i := 56) (by decide +kernel))
theorem tw_2_57 : Cond.instantiable RX0 5 ∈ lw_tbl := in_t2 (List.mem_of_getElem? (i := 57) (by decide +kernel))
theorem tw_2_58 : Cond.methodLinkNest RX11 96 yX0_init "SecondLife" ∈ lw_tbl := in_t2 (List.mem_of_getElem? (i := 58) (by decide +kernel))
theorem tw_2_116 : Cond.fieldLink RX11 99 "SecondLife" "chances" "LSecondLife$Chances;" ∈ lw_tbl := in_t2 (List.mem_of_getElem? (i := 116) (by decide +kernel))
theorem tw_2_117 : Cond.fieldLink RX11 103 "SecondLife" "alike" "[I" ∈ lw_tbl := in_t2 (List.mem_of_getElem? (i := 117) (by decide +kernel))
theorem tw_1_27 : Cond.code yX11_init cX11_init 2 none ∈ lw_tbl := in_t1 (List.mem_of_getElem? (i := 27) (by decide +kernel))
theorem tw_1_26 : Cond.instanceMethod yX11_init ∈ lw_tbl := in_t1 (List.mem_of_getElem? (i := 26) (by decide +kernel))
theorem tw_3_231 : Cond.methodLinkNest RX11 155 yX7_worthOf "SecondLife" ∈ lw_tbl := in_t3 (List.mem_of_getElem? (i := 231) (by decide +kernel))
theorem tw_3_221 : Cond.code yX11_worth cX11_worth 3 (some .int) ∈ lw_tbl := in_t3 (List.mem_of_getElem? (i := 221) (by decide +kernel))
theorem tw_3_219 : Cond.instanceMethod yX11_worth ∈ lw_tbl := in_t3 (List.mem_of_getElem? (i := 219) (by decide +kernel))
theorem tw_3_220 : Cond.selects RX11 yX11_worth yX11_worth ∈ lw_tbl := in_t3 (List.mem_of_getElem? (i := 220) (by decide +kernel))
theorem tw_4_17 : Cond.methodLinkNest RX11 159 yX7_grownOf "SecondLife" ∈ lw_tbl := in_t4 (List.mem_of_getElem? (i := 17) (by decide +kernel))
theorem tw_4_16 : Cond.code yX11_grown cX11_grown 2 (some .int) ∈ lw_tbl := in_t4 (List.mem_of_getElem? (i := 16) (by decide +kernel))
theorem tw_4_14 : Cond.instanceMethod yX11_grown ∈ lw_tbl := in_t4 (List.mem_of_getElem? (i := 14) (by decide +kernel))
theorem tw_4_15 : Cond.selects RX11 yX11_grown yX11_grown ∈ lw_tbl := in_t4 (List.mem_of_getElem? (i := 15) (by decide +kernel))
theorem tw_4_153 : Cond.methodLinkNest RX11 227 yX10_about "SecondLife" ∈ lw_tbl := in_t4 (List.mem_of_getElem? (i := 153) (by decide +kernel))
theorem tw_2_3 : Cond.fieldLinkNest RX11 230 "SecondLife$Ways" "start" "I" "SecondLife" ∈ lw_tbl := in_t2 (List.mem_of_getElem? (i := 3) (by decide +kernel))
theorem tw_5_16 : Cond.methodLinkNest RX11 242 yX1_howMany "SecondLife" ∈ lw_tbl := in_t5 (List.mem_of_getElem? (i := 16) (by decide +kernel))
theorem tw_5_15 : Cond.code yX11_courses cX11_courses 2 (some .long) ∈ lw_tbl := in_t5 (List.mem_of_getElem? (i := 15) (by decide +kernel))
theorem tw_5_13 : Cond.instanceMethod yX11_courses ∈ lw_tbl := in_t5 (List.mem_of_getElem? (i := 13) (by decide +kernel))
theorem tw_5_14 : Cond.selects RX11 yX11_courses yX11_courses ∈ lw_tbl := in_t5 (List.mem_of_getElem? (i := 14) (by decide +kernel))
theorem tw_5_168 : Cond.methodLink RX11 330 yJ9_max_7cf53 ∈ lw_tbl := in_t5 (List.mem_of_getElem? (i := 168) (by decide +kernel))
theorem tw_5_167 : Cond.methodLink RX11 324 yJ7_fill_53178 ∈ lw_tbl := in_t5 (List.mem_of_getElem? (i := 167) (by decide +kernel))
theorem tw_5_166 : Cond.code yX11_mostAlike cX11_mostAlike 7 (some .int) ∈ lw_tbl := in_t5 (List.mem_of_getElem? (i := 166) (by decide +kernel))
theorem tw_5_165 : Cond.instanceMethod yX11_mostAlike ∈ lw_tbl := in_t5 (List.mem_of_getElem? (i := 165) (by decide +kernel))
theorem tw_6_183 : Cond.methodLink RX12 96 yJ0_charAt_5068e ∈ lw_tbl := in_t6 (List.mem_of_getElem? (i := 183) (by decide +kernel))
theorem tw_6_50 : Cond.fieldLink RX12 103 "SecondLifeModel" "behind" "I" ∈ lw_tbl := in_t6 (List.mem_of_getElem? (i := 50) (by decide +kernel))
theorem tw_6_180 : Cond.code yX12_keyAt cX12_keyAt 4 (some .int) ∈ lw_tbl := in_t6 (List.mem_of_getElem? (i := 180) (by decide +kernel))
theorem tw_6_179 : Cond.instanceMethod yX12_keyAt ∈ lw_tbl := in_t6 (List.mem_of_getElem? (i := 179) (by decide +kernel))
theorem tw_6_184 : Cond.methodLink RX12 120 yX12_isDigit ∈ lw_tbl := in_t6 (List.mem_of_getElem? (i := 184) (by decide +kernel))
theorem tw_6_174 : Cond.methodLink RX12 113 yX12_isSmall ∈ lw_tbl := in_t6 (List.mem_of_getElem? (i := 174) (by decide +kernel))
theorem tw_6_177 : Cond.methodLink RX12 117 yX12_keyAt ∈ lw_tbl := in_t6 (List.mem_of_getElem? (i := 177) (by decide +kernel))
theorem tw_6_169 : Cond.code yX12_next cX12_next 2 none ∈ lw_tbl := in_t6 (List.mem_of_getElem? (i := 169) (by decide +kernel))
theorem tw_6_168 : Cond.instanceMethod yX12_next ∈ lw_tbl := in_t6 (List.mem_of_getElem? (i := 168) (by decide +kernel))
theorem tw_6_166 : Cond.methodLink RX12 137 yX12_next ∈ lw_tbl := in_t6 (List.mem_of_getElem? (i := 166) (by decide +kernel))
theorem tw_6_191 : Cond.code yX12_eats cX12_eats 2 (some .boolean) ∈ lw_tbl := in_t6 (List.mem_of_getElem? (i := 191) (by decide +kernel))
theorem tw_6_190 : Cond.instanceMethod yX12_eats ∈ lw_tbl := in_t6 (List.mem_of_getElem? (i := 190) (by decide +kernel))
theorem tw_6_203 : Cond.code yX12_takes cX12_takes 4 (some .int) ∈ lw_tbl := in_t6 (List.mem_of_getElem? (i := 203) (by decide +kernel))
theorem tw_6_202 : Cond.instanceMethod yX12_takes ∈ lw_tbl := in_t6 (List.mem_of_getElem? (i := 202) (by decide +kernel))
theorem tw_7_9 : Cond.code yX12_goesIn cX12_goesIn 2 (some .boolean) ∈ lw_tbl := in_t7 (List.mem_of_getElem? (i := 9) (by decide +kernel))
theorem tw_7_8 : Cond.instanceMethod yX12_goesIn ∈ lw_tbl := in_t7 (List.mem_of_getElem? (i := 8) (by decide +kernel))
theorem tw_7_6 : Cond.methodLink RX12 161 yX12_goesIn ∈ lw_tbl := in_t7 (List.mem_of_getElem? (i := 6) (by decide +kernel))
theorem tw_6_227 : Cond.code yX12_readSum cX12_readSum 3 none ∈ lw_tbl := in_t6 (List.mem_of_getElem? (i := 227) (by decide +kernel))
theorem tw_6_226 : Cond.instanceMethod yX12_readSum ∈ lw_tbl := in_t6 (List.mem_of_getElem? (i := 226) (by decide +kernel))
theorem tw_6_224 : Cond.methodLink RX12 164 yX12_readSum ∈ lw_tbl := in_t6 (List.mem_of_getElem? (i := 224) (by decide +kernel))
theorem tw_6_188 : Cond.methodLink RX12 167 yX12_eats ∈ lw_tbl := in_t6 (List.mem_of_getElem? (i := 188) (by decide +kernel))
theorem tw_7_0 : Cond.methodLink RX12 158 yX12_wordOf ∈ lw_tbl := in_t7 (List.mem_of_getElem? (i := 0) (by decide +kernel))
theorem tw_6_236 : Cond.methodLink RX12 155 yX12_codes ∈ lw_tbl := in_t6 (List.mem_of_getElem? (i := 236) (by decide +kernel))
theorem tw_7_17 : Cond.code yX12_readTruth cX12_readTruth 2 none ∈ lw_tbl := in_t7 (List.mem_of_getElem? (i := 17) (by decide +kernel))
theorem tw_7_16 : Cond.instanceMethod yX12_readTruth ∈ lw_tbl := in_t7 (List.mem_of_getElem? (i := 16) (by decide +kernel))
theorem tw_7_14 : Cond.methodLink RX12 173 yX12_readTruth ∈ lw_tbl := in_t7 (List.mem_of_getElem? (i := 14) (by decide +kernel))
theorem tw_6_235 : Cond.code yX12_readAtom cX12_readAtom 2 none ∈ lw_tbl := in_t6 (List.mem_of_getElem? (i := 235) (by decide +kernel))
theorem tw_6_234 : Cond.instanceMethod yX12_readAtom ∈ lw_tbl := in_t6 (List.mem_of_getElem? (i := 234) (by decide +kernel))
theorem tw_6_232 : Cond.methodLink RX12 176 yX12_readAtom ∈ lw_tbl := in_t6 (List.mem_of_getElem? (i := 232) (by decide +kernel))
theorem tw_6_231 : Cond.code yX12_readTerm cX12_readTerm 2 none ∈ lw_tbl := in_t6 (List.mem_of_getElem? (i := 231) (by decide +kernel))
theorem tw_6_230 : Cond.instanceMethod yX12_readTerm ∈ lw_tbl := in_t6 (List.mem_of_getElem? (i := 230) (by decide +kernel))
theorem tw_6_228 : Cond.methodLink RX12 179 yX12_readTerm ∈ lw_tbl := in_t6 (List.mem_of_getElem? (i := 228) (by decide +kernel))
theorem tw_7_25 : Cond.code yX12_readUnit cX12_readUnit 3 none ∈ lw_tbl := in_t7 (List.mem_of_getElem? (i := 25) (by decide +kernel))
theorem tw_7_24 : Cond.instanceMethod yX12_readUnit ∈ lw_tbl := in_t7 (List.mem_of_getElem? (i := 24) (by decide +kernel))
theorem tw_7_22 : Cond.methodLink RX12 182 yX12_readUnit ∈ lw_tbl := in_t7 (List.mem_of_getElem? (i := 22) (by decide +kernel))
theorem tw_7_21 : Cond.code yX12_readBoth cX12_readBoth 2 none ∈ lw_tbl := in_t7 (List.mem_of_getElem? (i := 21) (by decide +kernel))
theorem tw_7_20 : Cond.instanceMethod yX12_readBoth ∈ lw_tbl := in_t7 (List.mem_of_getElem? (i := 20) (by decide +kernel))
theorem tw_7_18 : Cond.methodLink RX12 185 yX12_readBoth ∈ lw_tbl := in_t7 (List.mem_of_getElem? (i := 18) (by decide +kernel))
theorem tw_6_200 : Cond.methodLink RX12 188 yX12_takes ∈ lw_tbl := in_t6 (List.mem_of_getElem? (i := 200) (by decide +kernel))
theorem tw_6_219 : Cond.code yX12_readFlag cX12_readFlag 2 (some .boolean) ∈ lw_tbl := in_t6 (List.mem_of_getElem? (i := 219) (by decide +kernel))
theorem tw_6_218 : Cond.instanceMethod yX12_readFlag ∈ lw_tbl := in_t6 (List.mem_of_getElem? (i := 218) (by decide +kernel))
theorem tw_6_216 : Cond.methodLink RX12 192 yX12_readFlag ∈ lw_tbl := in_t6 (List.mem_of_getElem? (i := 216) (by decide +kernel))
theorem tw_6_215 : Cond.code yX12_readPerson cX12_readPerson 2 none ∈ lw_tbl := in_t6 (List.mem_of_getElem? (i := 215) (by decide +kernel))
theorem tw_6_214 : Cond.instanceMethod yX12_readPerson ∈ lw_tbl := in_t6 (List.mem_of_getElem? (i := 214) (by decide +kernel))
theorem tw_6_223 : Cond.code yX12_readLaw cX12_readLaw 3 none ∈ lw_tbl := in_t6 (List.mem_of_getElem? (i := 223) (by decide +kernel))
theorem tw_6_222 : Cond.instanceMethod yX12_readLaw ∈ lw_tbl := in_t6 (List.mem_of_getElem? (i := 222) (by decide +kernel))
theorem tw_6_220 : Cond.methodLink RX12 198 yX12_readLaw ∈ lw_tbl := in_t6 (List.mem_of_getElem? (i := 220) (by decide +kernel))
theorem tw_6_212 : Cond.methodLink RX12 195 yX12_readPerson ∈ lw_tbl := in_t6 (List.mem_of_getElem? (i := 212) (by decide +kernel))
theorem tw_6_211 : Cond.code yX12_readLine cX12_readLine 1 none ∈ lw_tbl := in_t6 (List.mem_of_getElem? (i := 211) (by decide +kernel))
theorem tw_6_210 : Cond.instanceMethod yX12_readLine ∈ lw_tbl := in_t6 (List.mem_of_getElem? (i := 210) (by decide +kernel))
theorem tw_6_207 : Cond.code yX12_ends cX12_ends 1 none ∈ lw_tbl := in_t6 (List.mem_of_getElem? (i := 207) (by decide +kernel))
theorem tw_6_206 : Cond.instanceMethod yX12_ends ∈ lw_tbl := in_t6 (List.mem_of_getElem? (i := 206) (by decide +kernel))
theorem tw_6_208 : Cond.methodLink RX12 205 yX12_readLine ∈ lw_tbl := in_t6 (List.mem_of_getElem? (i := 208) (by decide +kernel))
theorem tw_6_204 : Cond.methodLink RX12 202 yX12_ends ∈ lw_tbl := in_t6 (List.mem_of_getElem? (i := 204) (by decide +kernel))
theorem tw_6_161 : Cond.code yX12_town cX12_town 3 (some .int) ∈ lw_tbl := in_t6 (List.mem_of_getElem? (i := 161) (by decide +kernel))
theorem tw_6_159 : Cond.instanceMethod yX12_town ∈ lw_tbl := in_t6 (List.mem_of_getElem? (i := 159) (by decide +kernel))
theorem tw_6_160 : Cond.selects RX12 yX12_town yX12_town ∈ lw_tbl := in_t6 (List.mem_of_getElem? (i := 160) (by decide +kernel))
theorem tw_5_74 : Cond.methodLinkNest RX0 109 yX10_worthOf "SecondLife" ∈ lw_tbl := in_t5 (List.mem_of_getElem? (i := 74) (by decide +kernel))
theorem tw_5_49 : Cond.code yX0_meanFrom cX0_meanFrom 8 (some .long) ∈ lw_tbl := in_t5 (List.mem_of_getElem? (i := 49) (by decide +kernel))
theorem tw_5_48 : Cond.instanceMethod yX0_meanFrom ∈ lw_tbl := in_t5 (List.mem_of_getElem? (i := 48) (by decide +kernel))
theorem tw_5_63 : Cond.methodLink RX0 116 yX0_meanFrom ∈ lw_tbl := in_t5 (List.mem_of_getElem? (i := 63) (by decide +kernel))
theorem tw_5_94 : Cond.code yX0_meanDoing cX0_meanDoing 6 (some .int) ∈ lw_tbl := in_t5 (List.mem_of_getElem? (i := 94) (by decide +kernel))
theorem tw_5_93 : Cond.instanceMethod yX0_meanDoing ∈ lw_tbl := in_t5 (List.mem_of_getElem? (i := 93) (by decide +kernel))
theorem tw_5_102 : Cond.code yX0_drawingIsBest cX0_drawingIsBest 2 (some .boolean) ∈ lw_tbl := in_t5 (List.mem_of_getElem? (i := 102) (by decide +kernel))
theorem tw_5_101 : Cond.instanceMethod yX0_drawingIsBest ∈ lw_tbl := in_t5 (List.mem_of_getElem? (i := 101) (by decide +kernel))
theorem tw_5_115 : Cond.code yX0_hopeFrom cX0_hopeFrom 11 (some .long) ∈ lw_tbl := in_t5 (List.mem_of_getElem? (i := 115) (by decide +kernel))
theorem tw_5_114 : Cond.instanceMethod yX0_hopeFrom ∈ lw_tbl := in_t5 (List.mem_of_getElem? (i := 114) (by decide +kernel))
theorem tw_5_112 : Cond.methodLink RX0 127 yX0_hopeFrom ∈ lw_tbl := in_t5 (List.mem_of_getElem? (i := 112) (by decide +kernel))
theorem tw_4_200 : Cond.methodLinkNest RX1 61 yX10_worthOf "SecondLife" ∈ lw_tbl := in_t4 (List.mem_of_getElem? (i := 200) (by decide +kernel))
theorem tw_4_178 : Cond.methodLinkNest RX1 53 yX10_openTrades "SecondLife" ∈ lw_tbl := in_t4 (List.mem_of_getElem? (i := 178) (by decide +kernel))
theorem tw_4_236 : Cond.methodLink RX1 74 yX1_doingIn ∈ lw_tbl := in_t4 (List.mem_of_getElem? (i := 236) (by decide +kernel))
theorem tw_4_235 : Cond.code yX1_doingAt cX1_doingAt 5 (some .int) ∈ lw_tbl := in_t4 (List.mem_of_getElem? (i := 235) (by decide +kernel))
theorem tw_4_234 : Cond.instanceMethod yX1_doingAt ∈ lw_tbl := in_t4 (List.mem_of_getElem? (i := 234) (by decide +kernel))
theorem tw_5_10 : Cond.code yX1_drawingYear cX1_drawingYear 4 (some .int) ∈ lw_tbl := in_t5 (List.mem_of_getElem? (i := 10) (by decide +kernel))
theorem tw_5_9 : Cond.instanceMethod yX1_drawingYear ∈ lw_tbl := in_t5 (List.mem_of_getElem? (i := 9) (by decide +kernel))
theorem tw_6_15 : Cond.code yX1_listInto cX1_listInto 7 (some .int) ∈ lw_tbl := in_t6 (List.mem_of_getElem? (i := 15) (by decide +kernel))
theorem tw_6_14 : Cond.instanceMethod yX1_listInto ∈ lw_tbl := in_t6 (List.mem_of_getElem? (i := 14) (by decide +kernel))
theorem tw_5_34 : Cond.constant RX1 117 (-1000000) ∈ lw_tbl := in_t5 (List.mem_of_getElem? (i := 34) (by decide +kernel))
theorem tw_5_41 : Cond.methodLink RX1 128 yJ9_min_7cf53 ∈ lw_tbl := in_t5 (List.mem_of_getElem? (i := 41) (by decide +kernel))
theorem tw_5_35 : Cond.methodLink RX1 118 yJ7_fill_53178 ∈ lw_tbl := in_t5 (List.mem_of_getElem? (i := 35) (by decide +kernel))
theorem tw_5_33 : Cond.code yX1_fewestFor cX1_fewestFor 9 (some .int) ∈ lw_tbl := in_t5 (List.mem_of_getElem? (i := 33) (by decide +kernel))
theorem tw_5_32 : Cond.instanceMethod yX1_fewestFor ∈ lw_tbl := in_t5 (List.mem_of_getElem? (i := 32) (by decide +kernel))
theorem tw_4_38 : Cond.methodLinkNest RX2 47 yX7_worthOf "SecondLife" ∈ lw_tbl := in_t4 (List.mem_of_getElem? (i := 38) (by decide +kernel))
theorem tw_4_33 : Cond.code yX2_lives cX2_lives 10 (some .int) ∈ lw_tbl := in_t4 (List.mem_of_getElem? (i := 33) (by decide +kernel))
theorem tw_4_32 : Cond.instanceMethod yX2_lives ∈ lw_tbl := in_t4 (List.mem_of_getElem? (i := 32) (by decide +kernel))
theorem tw_4_54 : Cond.methodLinkNest RX2 55 yX7_grownOf "SecondLife" ∈ lw_tbl := in_t4 (List.mem_of_getElem? (i := 54) (by decide +kernel))
theorem tw_4_53 : Cond.code yX2_draws cX2_draws 5 (some .int) ∈ lw_tbl := in_t4 (List.mem_of_getElem? (i := 53) (by decide +kernel))
theorem tw_4_52 : Cond.instanceMethod yX2_draws ∈ lw_tbl := in_t4 (List.mem_of_getElem? (i := 52) (by decide +kernel))
theorem tw_4_112 : Cond.methodLink RX2 74 yX2_draws ∈ lw_tbl := in_t4 (List.mem_of_getElem? (i := 112) (by decide +kernel))
theorem tw_4_107 : Cond.constantLong RX2 62 (99) ∈ lw_tbl := in_t4 (List.mem_of_getElem? (i := 107) (by decide +kernel))
theorem tw_4_108 : Cond.constantLong RX2 64 (10) ∈ lw_tbl := in_t4 (List.mem_of_getElem? (i := 108) (by decide +kernel))
theorem tw_4_109 : Cond.methodLink RX2 66 yX2_lives ∈ lw_tbl := in_t4 (List.mem_of_getElem? (i := 109) (by decide +kernel))
theorem tw_4_106 : Cond.code yX2_doTold cX2_doTold 5 (some .int) ∈ lw_tbl := in_t4 (List.mem_of_getElem? (i := 106) (by decide +kernel))
theorem tw_4_105 : Cond.instanceMethod yX2_doTold ∈ lw_tbl := in_t4 (List.mem_of_getElem? (i := 105) (by decide +kernel))
theorem tw_4_103 : Cond.methodLink RX2 103 yX2_doTold ∈ lw_tbl := in_t4 (List.mem_of_getElem? (i := 103) (by decide +kernel))
theorem tw_4_98 : Cond.code yX2_doAll cX2_doAll 5 (some .int) ∈ lw_tbl := in_t4 (List.mem_of_getElem? (i := 98) (by decide +kernel))
theorem tw_4_97 : Cond.instanceMethod yX2_doAll ∈ lw_tbl := in_t4 (List.mem_of_getElem? (i := 97) (by decide +kernel))
theorem tw_4_143 : Cond.code yX2_doDrawn cX2_doDrawn 5 (some .int) ∈ lw_tbl := in_t4 (List.mem_of_getElem? (i := 143) (by decide +kernel))
theorem tw_4_142 : Cond.instanceMethod yX2_doDrawn ∈ lw_tbl := in_t4 (List.mem_of_getElem? (i := 142) (by decide +kernel))
theorem tw_3_47 : Cond.methodLink RX6 229 yJ0_charAt_5068e ∈ lw_tbl := in_t3 (List.mem_of_getElem? (i := 47) (by decide +kernel))
theorem tw_3_45 : Cond.code yX6_is cX6_is 3 (some .boolean) ∈ lw_tbl := in_t3 (List.mem_of_getElem? (i := 45) (by decide +kernel))
theorem tw_3_44 : Cond.instanceMethod yX6_is ∈ lw_tbl := in_t3 (List.mem_of_getElem? (i := 44) (by decide +kernel))
theorem tw_2_193 : Cond.methodLink RJ0 633 yJ0_indexOf_7cf53 ∈ lw_tbl := in_t2 (List.mem_of_getElem? (i := 193) (by decide +kernel))
theorem tw_2_192 : Cond.code yJ0_indexOf_0f7a4 cJ0_indexOf_0f7a4 2 (some .int) ∈ lw_tbl := in_t2 (List.mem_of_getElem? (i := 192) (by decide +kernel))
theorem tw_2_190 : Cond.instanceMethod yJ0_indexOf_0f7a4 ∈ lw_tbl := in_t2 (List.mem_of_getElem? (i := 190) (by decide +kernel))
theorem tw_2_191 : Cond.selects RJ0 yJ0_indexOf_0f7a4 yJ0_indexOf_0f7a4 ∈ lw_tbl := in_t2 (List.mem_of_getElem? (i := 191) (by decide +kernel))
theorem tw_4_30 : Cond.methodLinkNest RX11 167 yX2_lives "SecondLife" ∈ lw_tbl := in_t4 (List.mem_of_getElem? (i := 30) (by decide +kernel))
theorem tw_4_24 : Cond.code yX11_live cX11_live 4 (some .int) ∈ lw_tbl := in_t4 (List.mem_of_getElem? (i := 24) (by decide +kernel))
theorem tw_4_22 : Cond.instanceMethod yX11_live ∈ lw_tbl := in_t4 (List.mem_of_getElem? (i := 22) (by decide +kernel))
theorem tw_4_23 : Cond.selects RX11 yX11_live yX11_live ∈ lw_tbl := in_t4 (List.mem_of_getElem? (i := 23) (by decide +kernel))
theorem tw_4_50 : Cond.methodLinkNest RX11 174 yX2_draws "SecondLife" ∈ lw_tbl := in_t4 (List.mem_of_getElem? (i := 50) (by decide +kernel))
theorem tw_4_49 : Cond.code yX11_draw cX11_draw 3 (some .int) ∈ lw_tbl := in_t4 (List.mem_of_getElem? (i := 49) (by decide +kernel))
theorem tw_4_47 : Cond.instanceMethod yX11_draw ∈ lw_tbl := in_t4 (List.mem_of_getElem? (i := 47) (by decide +kernel))
theorem tw_4_48 : Cond.selects RX11 yX11_draw yX11_draw ∈ lw_tbl := in_t4 (List.mem_of_getElem? (i := 48) (by decide +kernel))
theorem tw_4_95 : Cond.methodLinkNest RX11 208 yX2_doAll "SecondLife" ∈ lw_tbl := in_t4 (List.mem_of_getElem? (i := 95) (by decide +kernel))
theorem tw_1_208 : Cond.fieldLinkNest RX11 213 "SecondLife$Deeds" "why" "I" "SecondLife" ∈ lw_tbl := in_t1 (List.mem_of_getElem? (i := 208) (by decide +kernel))
theorem tw_4_90 : Cond.code yX11_judge cX11_judge 5 (some .int) ∈ lw_tbl := in_t4 (List.mem_of_getElem? (i := 90) (by decide +kernel))
theorem tw_4_88 : Cond.instanceMethod yX11_judge ∈ lw_tbl := in_t4 (List.mem_of_getElem? (i := 88) (by decide +kernel))
theorem tw_4_89 : Cond.selects RX11 yX11_judge yX11_judge ∈ lw_tbl := in_t4 (List.mem_of_getElem? (i := 89) (by decide +kernel))
theorem tw_4_131 : Cond.code yX11_perform cX11_perform 4 (some .int) ∈ lw_tbl := in_t4 (List.mem_of_getElem? (i := 131) (by decide +kernel))
theorem tw_4_129 : Cond.instanceMethod yX11_perform ∈ lw_tbl := in_t4 (List.mem_of_getElem? (i := 129) (by decide +kernel))
theorem tw_4_130 : Cond.selects RX11 yX11_perform yX11_perform ∈ lw_tbl := in_t4 (List.mem_of_getElem? (i := 130) (by decide +kernel))
theorem tw_4_232 : Cond.methodLinkNest RX11 236 yX1_doingAt "SecondLife" ∈ lw_tbl := in_t4 (List.mem_of_getElem? (i := 232) (by decide +kernel))
theorem tw_4_231 : Cond.code yX11_course cX11_course 3 (some .int) ∈ lw_tbl := in_t4 (List.mem_of_getElem? (i := 231) (by decide +kernel))
theorem tw_4_229 : Cond.instanceMethod yX11_course ∈ lw_tbl := in_t4 (List.mem_of_getElem? (i := 229) (by decide +kernel))
theorem tw_4_230 : Cond.selects RX11 yX11_course yX11_course ∈ lw_tbl := in_t4 (List.mem_of_getElem? (i := 230) (by decide +kernel))
theorem tw_5_7 : Cond.methodLinkNest RX11 239 yX1_drawingYear "SecondLife" ∈ lw_tbl := in_t5 (List.mem_of_getElem? (i := 7) (by decide +kernel))
theorem tw_5_6 : Cond.code yX11_drawsAt cX11_drawsAt 2 (some .int) ∈ lw_tbl := in_t5 (List.mem_of_getElem? (i := 6) (by decide +kernel))
theorem tw_5_4 : Cond.instanceMethod yX11_drawsAt ∈ lw_tbl := in_t5 (List.mem_of_getElem? (i := 4) (by decide +kernel))
theorem tw_5_5 : Cond.selects RX11 yX11_drawsAt yX11_drawsAt ∈ lw_tbl := in_t5 (List.mem_of_getElem? (i := 5) (by decide +kernel))
theorem tw_5_30 : Cond.methodLinkNest RX11 246 yX1_fewestFor "SecondLife" ∈ lw_tbl := in_t5 (List.mem_of_getElem? (i := 30) (by decide +kernel))
theorem tw_5_29 : Cond.code yX11_soonest cX11_soonest 3 (some .int) ∈ lw_tbl := in_t5 (List.mem_of_getElem? (i := 29) (by decide +kernel))
theorem tw_5_27 : Cond.instanceMethod yX11_soonest ∈ lw_tbl := in_t5 (List.mem_of_getElem? (i := 27) (by decide +kernel))
theorem tw_5_28 : Cond.selects RX11 yX11_soonest yX11_soonest ∈ lw_tbl := in_t5 (List.mem_of_getElem? (i := 28) (by decide +kernel))
theorem tw_5_46 : Cond.methodLinkNest RX11 250 yX0_meanFrom "SecondLife" ∈ lw_tbl := in_t5 (List.mem_of_getElem? (i := 46) (by decide +kernel))
theorem tw_5_80 : Cond.methodLinkNest RX11 254 yX0_fraction "SecondLife" ∈ lw_tbl := in_t5 (List.mem_of_getElem? (i := 80) (by decide +kernel))
theorem tw_5_45 : Cond.code yX11_mean cX11_mean 3 (some .long) ∈ lw_tbl := in_t5 (List.mem_of_getElem? (i := 45) (by decide +kernel))
theorem tw_5_43 : Cond.instanceMethod yX11_mean ∈ lw_tbl := in_t5 (List.mem_of_getElem? (i := 43) (by decide +kernel))
theorem tw_5_44 : Cond.selects RX11 yX11_mean yX11_mean ∈ lw_tbl := in_t5 (List.mem_of_getElem? (i := 44) (by decide +kernel))
theorem tw_5_91 : Cond.methodLinkNest RX11 258 yX0_meanDoing "SecondLife" ∈ lw_tbl := in_t5 (List.mem_of_getElem? (i := 91) (by decide +kernel))
theorem tw_5_90 : Cond.code yX11_choice cX11_choice 2 (some .int) ∈ lw_tbl := in_t5 (List.mem_of_getElem? (i := 90) (by decide +kernel))
theorem tw_5_88 : Cond.instanceMethod yX11_choice ∈ lw_tbl := in_t5 (List.mem_of_getElem? (i := 88) (by decide +kernel))
theorem tw_5_89 : Cond.selects RX11 yX11_choice yX11_choice ∈ lw_tbl := in_t5 (List.mem_of_getElem? (i := 89) (by decide +kernel))
theorem tw_5_99 : Cond.methodLinkNest RX11 261 yX0_drawingIsBest "SecondLife" ∈ lw_tbl := in_t5 (List.mem_of_getElem? (i := 99) (by decide +kernel))
theorem tw_5_98 : Cond.code yX11_drawing cX11_drawing 2 (some .int) ∈ lw_tbl := in_t5 (List.mem_of_getElem? (i := 98) (by decide +kernel))
theorem tw_5_96 : Cond.instanceMethod yX11_drawing ∈ lw_tbl := in_t5 (List.mem_of_getElem? (i := 96) (by decide +kernel))
theorem tw_5_97 : Cond.selects RX11 yX11_drawing yX11_drawing ∈ lw_tbl := in_t5 (List.mem_of_getElem? (i := 97) (by decide +kernel))
theorem tw_5_163 : Cond.methodLink RX11 281 yX11_mostAlike ∈ lw_tbl := in_t5 (List.mem_of_getElem? (i := 163) (by decide +kernel))
theorem tw_6_12 : Cond.methodLinkNest RX11 315 yX1_listInto "SecondLife" ∈ lw_tbl := in_t6 (List.mem_of_getElem? (i := 12) (by decide +kernel))
theorem tw_6_11 : Cond.code yX11_lists cX11_lists 4 (some .int) ∈ lw_tbl := in_t6 (List.mem_of_getElem? (i := 11) (by decide +kernel))
theorem tw_6_9 : Cond.instanceMethod yX11_lists ∈ lw_tbl := in_t6 (List.mem_of_getElem? (i := 9) (by decide +kernel))
theorem tw_6_10 : Cond.selects RX11 yX11_lists yX11_lists ∈ lw_tbl := in_t6 (List.mem_of_getElem? (i := 10) (by decide +kernel))
theorem tw_5_158 : Cond.code yX11_fittingTalents cX11_fittingTalents 7 (some .int) ∈ lw_tbl := in_t5 (List.mem_of_getElem? (i := 158) (by decide +kernel))
theorem tw_5_157 : Cond.instanceMethod yX11_fittingTalents ∈ lw_tbl := in_t5 (List.mem_of_getElem? (i := 157) (by decide +kernel))
theorem tw_5_111 : Cond.methodLinkNest RX0 122 yX1_bestFrom "SecondLife" ∈ lw_tbl := in_t5 (List.mem_of_getElem? (i := 111) (by decide +kernel))
theorem tw_5_110 : Cond.code yX0_hopeNow cX0_hopeNow 2 (some .long) ∈ lw_tbl := in_t5 (List.mem_of_getElem? (i := 110) (by decide +kernel))
theorem tw_5_109 : Cond.instanceMethod yX0_hopeNow ∈ lw_tbl := in_t5 (List.mem_of_getElem? (i := 109) (by decide +kernel))
theorem tw_5_145 : Cond.methodLink RX0 144 yX0_hopeNow ∈ lw_tbl := in_t5 (List.mem_of_getElem? (i := 145) (by decide +kernel))
theorem tw_5_144 : Cond.code yX0_hopeDoing cX0_hopeDoing 7 (some .int) ∈ lw_tbl := in_t5 (List.mem_of_getElem? (i := 144) (by decide +kernel))
theorem tw_5_143 : Cond.instanceMethod yX0_hopeDoing ∈ lw_tbl := in_t5 (List.mem_of_getElem? (i := 143) (by decide +kernel))
theorem tw_4_165 : Cond.code yX1_mostFrom cX1_mostFrom 2 (some .int) ∈ lw_tbl := in_t4 (List.mem_of_getElem? (i := 165) (by decide +kernel))
theorem tw_4_164 : Cond.instanceMethod yX1_mostFrom ∈ lw_tbl := in_t4 (List.mem_of_getElem? (i := 164) (by decide +kernel))
theorem tw_4_140 : Cond.methodLink RX2 107 yX2_doDrawn ∈ lw_tbl := in_t4 (List.mem_of_getElem? (i := 140) (by decide +kernel))
theorem tw_4_139 : Cond.code yX2_doSeason cX2_doSeason 7 (some .int) ∈ lw_tbl := in_t4 (List.mem_of_getElem? (i := 139) (by decide +kernel))
theorem tw_4_138 : Cond.instanceMethod yX2_doSeason ∈ lw_tbl := in_t4 (List.mem_of_getElem? (i := 138) (by decide +kernel))
theorem tw_3_42 : Cond.methodLink RX6 88 yX6_is ∈ lw_tbl := in_t3 (List.mem_of_getElem? (i := 42) (by decide +kernel))
theorem tw_3_155 : Cond.code yX6_factTold cX6_factTold 1 (some .int) ∈ lw_tbl := in_t3 (List.mem_of_getElem? (i := 155) (by decide +kernel))
theorem tw_3_154 : Cond.instanceMethod yX6_factTold ∈ lw_tbl := in_t3 (List.mem_of_getElem? (i := 154) (by decide +kernel))
theorem tw_2_189 : Cond.methodLink RX6 244 yJ0_indexOf_0f7a4 ∈ lw_tbl := in_t2 (List.mem_of_getElem? (i := 189) (by decide +kernel))
theorem tw_2_179 : Cond.methodLink RX6 233 yX6_isBlank ∈ lw_tbl := in_t2 (List.mem_of_getElem? (i := 179) (by decide +kernel))
theorem tw_2_174 : Cond.code yX6_next cX6_next 2 none ∈ lw_tbl := in_t2 (List.mem_of_getElem? (i := 174) (by decide +kernel))
theorem tw_2_173 : Cond.instanceMethod yX6_next ∈ lw_tbl := in_t2 (List.mem_of_getElem? (i := 173) (by decide +kernel))
theorem tw_4_136 : Cond.methodLinkNest RX11 223 yX2_doSeason "SecondLife" ∈ lw_tbl := in_t4 (List.mem_of_getElem? (i := 136) (by decide +kernel))
theorem tw_4_135 : Cond.code yX11_season cX11_season 4 (some .int) ∈ lw_tbl := in_t4 (List.mem_of_getElem? (i := 135) (by decide +kernel))
theorem tw_4_133 : Cond.instanceMethod yX11_season ∈ lw_tbl := in_t4 (List.mem_of_getElem? (i := 133) (by decide +kernel))
theorem tw_4_134 : Cond.selects RX11 yX11_season yX11_season ∈ lw_tbl := in_t4 (List.mem_of_getElem? (i := 134) (by decide +kernel))
theorem tw_4_162 : Cond.methodLinkNest RX11 233 yX1_mostFrom "SecondLife" ∈ lw_tbl := in_t4 (List.mem_of_getElem? (i := 162) (by decide +kernel))
theorem tw_4_152 : Cond.code yX11_best cX11_best 2 (some .int) ∈ lw_tbl := in_t4 (List.mem_of_getElem? (i := 152) (by decide +kernel))
theorem tw_4_150 : Cond.instanceMethod yX11_best ∈ lw_tbl := in_t4 (List.mem_of_getElem? (i := 150) (by decide +kernel))
theorem tw_4_151 : Cond.selects RX11 yX11_best yX11_best ∈ lw_tbl := in_t4 (List.mem_of_getElem? (i := 151) (by decide +kernel))
theorem tw_5_107 : Cond.methodLinkNest RX11 265 yX0_hopeNow "SecondLife" ∈ lw_tbl := in_t5 (List.mem_of_getElem? (i := 107) (by decide +kernel))
theorem tw_5_106 : Cond.code yX11_hope cX11_hope 4 (some .long) ∈ lw_tbl := in_t5 (List.mem_of_getElem? (i := 106) (by decide +kernel))
theorem tw_5_104 : Cond.instanceMethod yX11_hope ∈ lw_tbl := in_t5 (List.mem_of_getElem? (i := 104) (by decide +kernel))
theorem tw_5_105 : Cond.selects RX11 yX11_hope yX11_hope ∈ lw_tbl := in_t5 (List.mem_of_getElem? (i := 105) (by decide +kernel))
theorem tw_5_141 : Cond.methodLinkNest RX11 268 yX0_hopeDoing "SecondLife" ∈ lw_tbl := in_t5 (List.mem_of_getElem? (i := 141) (by decide +kernel))
theorem tw_5_140 : Cond.code yX11_hoping cX11_hoping 3 (some .int) ∈ lw_tbl := in_t5 (List.mem_of_getElem? (i := 140) (by decide +kernel))
theorem tw_5_138 : Cond.instanceMethod yX11_hoping ∈ lw_tbl := in_t5 (List.mem_of_getElem? (i := 138) (by decide +kernel))
theorem tw_5_139 : Cond.selects RX11 yX11_hoping yX11_hoping ∈ lw_tbl := in_t5 (List.mem_of_getElem? (i := 139) (by decide +kernel))
theorem tw_5_155 : Cond.methodLink RX11 274 yX11_fittingTalents ∈ lw_tbl := in_t5 (List.mem_of_getElem? (i := 155) (by decide +kernel))
theorem tw_5_149 : Cond.code yX11_talents cX11_talents 5 (some .int) ∈ lw_tbl := in_t5 (List.mem_of_getElem? (i := 149) (by decide +kernel))
theorem tw_5_147 : Cond.instanceMethod yX11_talents ∈ lw_tbl := in_t5 (List.mem_of_getElem? (i := 147) (by decide +kernel))
theorem tw_5_148 : Cond.selects RX11 yX11_talents yX11_talents ∈ lw_tbl := in_t5 (List.mem_of_getElem? (i := 148) (by decide +kernel))
theorem tw_5_162 : Cond.code yX11_attempt cX11_attempt 10 (some .int) ∈ lw_tbl := in_t5 (List.mem_of_getElem? (i := 162) (by decide +kernel))
theorem tw_5_160 : Cond.instanceMethod yX11_attempt ∈ lw_tbl := in_t5 (List.mem_of_getElem? (i := 160) (by decide +kernel))
theorem tw_5_161 : Cond.selects RX11 yX11_attempt yX11_attempt ∈ lw_tbl := in_t5 (List.mem_of_getElem? (i := 161) (by decide +kernel))
theorem tw_2_171 : Cond.methodLink RX6 55 yX6_next ∈ lw_tbl := in_t2 (List.mem_of_getElem? (i := 171) (by decide +kernel))
theorem tw_3_113 : Cond.code yX6_readTerm cX6_readTerm 4 (some .boolean) ∈ lw_tbl := in_t3 (List.mem_of_getElem? (i := 113) (by decide +kernel))
theorem tw_3_112 : Cond.instanceMethod yX6_readTerm ∈ lw_tbl := in_t3 (List.mem_of_getElem? (i := 112) (by decide +kernel))
theorem tw_3_110 : Cond.methodLink RX6 147 yX6_readTerm ∈ lw_tbl := in_t3 (List.mem_of_getElem? (i := 110) (by decide +kernel))
theorem tw_3_118 : Cond.methodLink RX6 156 yX6_emit ∈ lw_tbl := in_t3 (List.mem_of_getElem? (i := 118) (by decide +kernel))
theorem tw_3_117 : Cond.code yX6_readAtom cX6_readAtom 3 (some .boolean) ∈ lw_tbl := in_t3 (List.mem_of_getElem? (i := 117) (by decide +kernel))
theorem tw_3_116 : Cond.instanceMethod yX6_readAtom ∈ lw_tbl := in_t3 (List.mem_of_getElem? (i := 116) (by decide +kernel))
theorem tw_3_114 : Cond.methodLink RX6 160 yX6_readAtom ∈ lw_tbl := in_t3 (List.mem_of_getElem? (i := 114) (by decide +kernel))
theorem tw_3_152 : Cond.methodLink RX6 183 yX6_factTold ∈ lw_tbl := in_t3 (List.mem_of_getElem? (i := 152) (by decide +kernel))
theorem tw_3_126 : Cond.code yX6_deeper cX6_deeper 2 (some .boolean) ∈ lw_tbl := in_t3 (List.mem_of_getElem? (i := 126) (by decide +kernel))
theorem tw_3_125 : Cond.instanceMethod yX6_deeper ∈ lw_tbl := in_t3 (List.mem_of_getElem? (i := 125) (by decide +kernel))
theorem tw_3_41 : Cond.code yX6_take cX6_take 2 (some .boolean) ∈ lw_tbl := in_t3 (List.mem_of_getElem? (i := 41) (by decide +kernel))
theorem tw_3_40 : Cond.instanceMethod yX6_take ∈ lw_tbl := in_t3 (List.mem_of_getElem? (i := 40) (by decide +kernel))
theorem tw_3_75 : Cond.code yX6_takeNumber cX6_takeNumber 4 (some .int) ∈ lw_tbl := in_t3 (List.mem_of_getElem? (i := 75) (by decide +kernel))
theorem tw_3_74 : Cond.instanceMethod yX6_takeNumber ∈ lw_tbl := in_t3 (List.mem_of_getElem? (i := 74) (by decide +kernel))
theorem tw_3_38 : Cond.methodLink RX6 67 yX6_take ∈ lw_tbl := in_t3 (List.mem_of_getElem? (i := 38) (by decide +kernel))
theorem tw_3_72 : Cond.methodLink RX6 73 yX6_takeNumber ∈ lw_tbl := in_t3 (List.mem_of_getElem? (i := 72) (by decide +kernel))
theorem tw_1_49 : Cond.fieldLinkNest RX6 77 "SecondLife$Town" "years" "I" "SecondLife" ∈ lw_tbl := in_t1 (List.mem_of_getElem? (i := 49) (by decide +kernel))
theorem tw_1_56 : Cond.fieldLinkNest RX6 81 "SecondLife$Town" "trades" "I" "SecondLife" ∈ lw_tbl := in_t1 (List.mem_of_getElem? (i := 56) (by decide +kernel))
theorem tw_3_80 : Cond.code yX6_endLine cX6_endLine 1 (some .boolean) ∈ lw_tbl := in_t3 (List.mem_of_getElem? (i := 80) (by decide +kernel))
theorem tw_3_79 : Cond.instanceMethod yX6_endLine ∈ lw_tbl := in_t3 (List.mem_of_getElem? (i := 79) (by decide +kernel))
theorem tw_1_62 : Cond.fieldLinkNest RX6 119 "SecondLife$Town" "size" "I" "SecondLife" ∈ lw_tbl := in_t1 (List.mem_of_getElem? (i := 62) (by decide +kernel))
theorem tw_3_90 : Cond.code yX6_readPerson cX6_readPerson 6 (some .boolean) ∈ lw_tbl := in_t3 (List.mem_of_getElem? (i := 90) (by decide +kernel))
theorem tw_3_89 : Cond.instanceMethod yX6_readPerson ∈ lw_tbl := in_t3 (List.mem_of_getElem? (i := 89) (by decide +kernel))
theorem tw_3_123 : Cond.methodLink RX6 167 yX6_deeper ∈ lw_tbl := in_t3 (List.mem_of_getElem? (i := 123) (by decide +kernel))
theorem tw_3_132 : Cond.code yX6_readTruth cX6_readTruth 4 (some .boolean) ∈ lw_tbl := in_t3 (List.mem_of_getElem? (i := 132) (by decide +kernel))
theorem tw_3_131 : Cond.instanceMethod yX6_readTruth ∈ lw_tbl := in_t3 (List.mem_of_getElem? (i := 131) (by decide +kernel))
theorem tw_3_129 : Cond.methodLink RX6 174 yX6_readTruth ∈ lw_tbl := in_t3 (List.mem_of_getElem? (i := 129) (by decide +kernel))
theorem tw_3_109 : Cond.code yX6_readSum cX6_readSum 5 (some .boolean) ∈ lw_tbl := in_t3 (List.mem_of_getElem? (i := 109) (by decide +kernel))
theorem tw_3_108 : Cond.instanceMethod yX6_readSum ∈ lw_tbl := in_t3 (List.mem_of_getElem? (i := 108) (by decide +kernel))
theorem tw_3_106 : Cond.methodLink RX6 132 yX6_readSum ∈ lw_tbl := in_t3 (List.mem_of_getElem? (i := 106) (by decide +kernel))
theorem tw_3_136 : Cond.code yX6_readBoth cX6_readBoth 4 (some .boolean) ∈ lw_tbl := in_t3 (List.mem_of_getElem? (i := 136) (by decide +kernel))
theorem tw_3_135 : Cond.instanceMethod yX6_readBoth ∈ lw_tbl := in_t3 (List.mem_of_getElem? (i := 135) (by decide +kernel))
theorem tw_3_133 : Cond.methodLink RX6 199 yX6_readBoth ∈ lw_tbl := in_t3 (List.mem_of_getElem? (i := 133) (by decide +kernel))
theorem tw_3_140 : Cond.code yX6_readUnit cX6_readUnit 4 (some .boolean) ∈ lw_tbl := in_t3 (List.mem_of_getElem? (i := 140) (by decide +kernel))
theorem tw_3_139 : Cond.instanceMethod yX6_readUnit ∈ lw_tbl := in_t3 (List.mem_of_getElem? (i := 139) (by decide +kernel))
theorem tw_3_137 : Cond.methodLink RX6 204 yX6_readUnit ∈ lw_tbl := in_t3 (List.mem_of_getElem? (i := 137) (by decide +kernel))
theorem tw_3_77 : Cond.methodLink RX6 83 yX6_endLine ∈ lw_tbl := in_t3 (List.mem_of_getElem? (i := 77) (by decide +kernel))
theorem tw_3_36 : Cond.code yX6_readHead cX6_readHead 1 (some .boolean) ∈ lw_tbl := in_t3 (List.mem_of_getElem? (i := 36) (by decide +kernel))
theorem tw_3_35 : Cond.instanceMethod yX6_readHead ∈ lw_tbl := in_t3 (List.mem_of_getElem? (i := 35) (by decide +kernel))
theorem tw_3_165 : Cond.methodLink RX6 135 yJ7_copyOf_59c91 ∈ lw_tbl := in_t3 (List.mem_of_getElem? (i := 165) (by decide +kernel))
theorem tw_1_79 : Cond.fieldLinkNest RX6 144 "SecondLife$Town" "growsLaw" "[I" "SecondLife" ∈ lw_tbl := in_t1 (List.mem_of_getElem? (i := 79) (by decide +kernel))
theorem tw_1_76 : Cond.fieldLinkNest RX6 141 "SecondLife$Town" "worthLaw" "[I" "SecondLife" ∈ lw_tbl := in_t1 (List.mem_of_getElem? (i := 76) (by decide +kernel))
theorem tw_3_104 : Cond.code yX6_readLaw cX6_readLaw 3 (some .boolean) ∈ lw_tbl := in_t3 (List.mem_of_getElem? (i := 104) (by decide +kernel))
theorem tw_3_103 : Cond.instanceMethod yX6_readLaw ∈ lw_tbl := in_t3 (List.mem_of_getElem? (i := 103) (by decide +kernel))
theorem tw_3_101 : Cond.methodLink RX6 106 yX6_readLaw ∈ lw_tbl := in_t3 (List.mem_of_getElem? (i := 101) (by decide +kernel))
theorem tw_1_67 : Cond.fieldLinkNest RX6 100 "SecondLife$Town" "dies" "I" "SecondLife" ∈ lw_tbl := in_t1 (List.mem_of_getElem? (i := 67) (by decide +kernel))
theorem tw_1_65 : Cond.fieldLinkNest RX6 96 "SecondLife$Town" "cash" "I" "SecondLife" ∈ lw_tbl := in_t1 (List.mem_of_getElem? (i := 65) (by decide +kernel))
theorem tw_3_87 : Cond.methodLink RX6 91 yX6_readPerson ∈ lw_tbl := in_t3 (List.mem_of_getElem? (i := 87) (by decide +kernel))
theorem tw_3_85 : Cond.code yX6_readLine cX6_readLine 1 (some .boolean) ∈ lw_tbl := in_t3 (List.mem_of_getElem? (i := 85) (by decide +kernel))
theorem tw_3_84 : Cond.instanceMethod yX6_readLine ∈ lw_tbl := in_t3 (List.mem_of_getElem? (i := 84) (by decide +kernel))
theorem tw_3_82 : Cond.methodLink RX6 62 yX6_readLine ∈ lw_tbl := in_t3 (List.mem_of_getElem? (i := 82) (by decide +kernel))
theorem tw_3_33 : Cond.methodLink RX6 58 yX6_readHead ∈ lw_tbl := in_t3 (List.mem_of_getElem? (i := 33) (by decide +kernel))
theorem tw_2_170 : Cond.code yX6_read cX6_read 5 (some (.object "SecondLife$Town")) ∈ lw_tbl := in_t2 (List.mem_of_getElem? (i := 170) (by decide +kernel))
theorem tw_2_169 : Cond.instanceMethod yX6_read ∈ lw_tbl := in_t2 (List.mem_of_getElem? (i := 169) (by decide +kernel))
theorem tw_2_167 : Cond.methodLinkNest RX11 116 yX6_read "SecondLife" ∈ lw_tbl := in_t2 (List.mem_of_getElem? (i := 167) (by decide +kernel))
theorem tw_3_179 : Cond.methodLinkNest RX11 123 yX5_settle "SecondLife" ∈ lw_tbl := in_t3 (List.mem_of_getElem? (i := 179) (by decide +kernel))
theorem tw_2_166 : Cond.code yX11_town cX11_town 3 (some .int) ∈ lw_tbl := in_t2 (List.mem_of_getElem? (i := 166) (by decide +kernel))
theorem tw_2_164 : Cond.instanceMethod yX11_town ∈ lw_tbl := in_t2 (List.mem_of_getElem? (i := 164) (by decide +kernel))
theorem tw_2_165 : Cond.selects RX11 yX11_town yX11_town ∈ lw_tbl := in_t2 (List.mem_of_getElem? (i := 165) (by decide +kernel))
theorem my_X11_fault : My yX11_fault cX11_fault 2 (some .int) 1 := ⟨tw_3_205, tw_1_1, by decide +kernel, by decide +kernel, by decide +kernel⟩
theorem mv_X11_fault : MyV yX11_fault := ⟨tw_3_203, tw_3_204⟩
theorem my_X11_refused : My yX11_refused cX11_refused 1 (some .int) 1 := ⟨tw_2_157, tw_1_1, by decide +kernel, by decide +kernel, by decide +kernel⟩
theorem mv_X11_refused : Cond.static yX11_refused ∈ lw_tbl := tw_2_156
theorem my_X11_tapeWord : My yX11_tapeWord cX11_tapeWord 3 none 1 := ⟨tw_2_162, tw_1_1, by decide +kernel, by decide +kernel, by decide +kernel⟩
theorem mv_X11_tapeWord : MyV yX11_tapeWord := ⟨tw_2_161, List.mem_append_left _ (List.mem_map.mpr ⟨(yX11_tapeWord, 16), (List.mem_append_left _ (List.mem_of_getElem? (i := 0) (by decide +kernel))), rfl⟩)⟩
theorem my_X11_trayAt : My yX11_trayAt cX11_trayAt 2 (some (.object "SecondLife$Tray")) 1 := ⟨tw_4_94, tw_1_1, by decide +kernel, by decide +kernel, by decide +kernel⟩
theorem mv_X11_trayAt : MyV yX11_trayAt := ⟨tw_4_93, List.mem_append_left _ (List.mem_map.mpr ⟨(yX11_trayAt, 16), (List.mem_append_right _ (List.mem_append_right _ (List.mem_append_left _ (List.mem_of_getElem? (i := 11) (by decide +kernel))))), rfl⟩)⟩
theorem my_X11_within : My yX11_within cX11_within 3 (some .int) 3 := ⟨tw_4_12, tw_1_1, by decide +kernel, by decide +kernel, by decide +kernel⟩
theorem mv_X11_within : Cond.static yX11_within ∈ lw_tbl := tw_4_11
theorem my_X12_within : My yX12_within cX12_within 6 (some .boolean) 3 := ⟨tw_6_164, tw_1_14, by decide +kernel, by decide +kernel, by decide +kernel⟩
theorem mv_X12_within : Cond.static yX12_within ∈ lw_tbl := tw_6_163
theorem my_X12_plain : My yX12_plain cX12_plain 2 none 1 := ⟨tw_6_42, tw_1_14, by decide +kernel, by decide +kernel, by decide +kernel⟩
theorem mv_X12_plain : Cond.static yX12_plain ∈ lw_tbl := tw_6_41
theorem my_X12_feed : My yX12_feed cX12_feed 8 (some .int) 5 := ⟨tw_6_156, tw_1_14, by decide +kernel, by decide +kernel, by decide +kernel⟩
theorem mv_X12_feed : MyV yX12_feed := ⟨tw_6_154, tw_6_155⟩
theorem my_X12_see : My yX12_see cX12_see 2 (some .int) 1 := ⟨tw_6_173, tw_1_14, by decide +kernel, by decide +kernel, by decide +kernel⟩
theorem mv_X12_see : MyV yX12_see := ⟨tw_6_172, List.mem_append_left _ (List.mem_map.mpr ⟨(yX12_see, 36), (List.mem_append_right _ (List.mem_append_right _ (List.mem_append_right _ (List.mem_append_right _ (List.mem_append_right _ (List.mem_append_right _ (List.mem_append_left _ (List.mem_of_getElem? (i := 4) (by decide +kernel))))))))), rfl⟩)⟩
theorem my_X12_isSmall : My yX12_isSmall cX12_isSmall 1 (some .boolean) 1 := ⟨tw_6_176, tw_1_14, by decide +kernel, by decide +kernel, by decide +kernel⟩
theorem mv_X12_isSmall : Cond.static yX12_isSmall ∈ lw_tbl := tw_6_175
theorem my_X12_isDigit : My yX12_isDigit cX12_isDigit 1 (some .boolean) 1 := ⟨tw_6_186, tw_1_14, by decide +kernel, by decide +kernel, by decide +kernel⟩
theorem mv_X12_isDigit : Cond.static yX12_isDigit ∈ lw_tbl := tw_6_185
theorem my_X12_fails : My yX12_fails cX12_fails 2 none 1 := ⟨tw_6_199, tw_1_14, by decide +kernel, by decide +kernel, by decide +kernel⟩
theorem mv_X12_fails : MyV yX12_fails := ⟨tw_6_198, List.mem_append_left _ (List.mem_map.mpr ⟨(yX12_fails, 36), (List.mem_append_right _ (List.mem_append_right _ (List.mem_append_right _ (List.mem_append_right _ (List.mem_append_right _ (List.mem_append_right _ (List.mem_append_left _ (List.mem_of_getElem? (i := 8) (by decide +kernel))))))))), rfl⟩)⟩
theorem my_X12_is : My yX12_is cX12_is 2 (some .boolean) 1 := ⟨tw_6_195, tw_1_14, by decide +kernel, by decide +kernel, by decide +kernel⟩
theorem mv_X12_is : MyV yX12_is := ⟨tw_6_194, List.mem_append_left _ (List.mem_map.mpr ⟨(yX12_is, 36), (List.mem_append_right _ (List.mem_append_right _ (List.mem_append_right _ (List.mem_append_right _ (List.mem_append_right _ (List.mem_append_right _ (List.mem_append_left _ (List.mem_of_getElem? (i := 7) (by decide +kernel))))))))), rfl⟩)⟩
theorem my_X12_isIn : My yX12_isIn cX12_isIn 3 (some .boolean) 2 := ⟨tw_8_133, tw_1_14, by decide +kernel, by decide +kernel, by decide +kernel⟩
theorem mv_X12_isIn : Cond.static yX12_isIn ∈ lw_tbl := tw_8_132
theorem my_X12_wordOf : My yX12_wordOf cX12_wordOf 2 (some .int) 1 := ⟨tw_7_3, tw_1_14, by decide +kernel, by decide +kernel, by decide +kernel⟩
theorem mv_X12_wordOf : MyV yX12_wordOf := ⟨tw_7_2, List.mem_append_left _ (List.mem_map.mpr ⟨(yX12_wordOf, 36), (List.mem_append_right _ (List.mem_append_right _ (List.mem_append_right _ (List.mem_append_right _ (List.mem_append_right _ (List.mem_append_right _ (List.mem_append_right _ (List.mem_append_left _ (List.mem_of_getElem? (i := 3) (by decide +kernel)))))))))), rfl⟩)⟩
theorem my_X12_codes : My yX12_codes cX12_codes 2 none 1 := ⟨tw_6_239, tw_1_14, by decide +kernel, by decide +kernel, by decide +kernel⟩
theorem mv_X12_codes : MyV yX12_codes := ⟨tw_6_238, List.mem_append_left _ (List.mem_map.mpr ⟨(yX12_codes, 36), (List.mem_append_right _ (List.mem_append_right _ (List.mem_append_right _ (List.mem_append_right _ (List.mem_append_right _ (List.mem_append_right _ (List.mem_append_right _ (List.mem_append_left _ (List.mem_of_getElem? (i := 2) (by decide +kernel)))))))))), rfl⟩)⟩
theorem my_X12_readIf : My yX12_readIf cX12_readIf 2 none 1 := ⟨tw_7_13, tw_1_14, by decide +kernel, by decide +kernel, by decide +kernel⟩
theorem mv_X12_readIf : MyV yX12_readIf := ⟨tw_7_12, List.mem_append_left _ (List.mem_map.mpr ⟨(yX12_readIf, 36), (List.mem_append_right _ (List.mem_append_right _ (List.mem_append_right _ (List.mem_append_right _ (List.mem_append_right _ (List.mem_append_right _ (List.mem_append_right _ (List.mem_append_left _ (List.mem_of_getElem? (i := 5) (by decide +kernel)))))))))), rfl⟩)⟩
theorem my_X12_fault : My yX12_fault cX12_fault 2 (some .int) 1 := ⟨tw_7_30, tw_1_14, by decide +kernel, by decide +kernel, by decide +kernel⟩
theorem mv_X12_fault : MyV yX12_fault := ⟨tw_7_28, tw_7_29⟩
theorem my_X12_isPerson : My yX12_isPerson cX12_isPerson 3 (some .boolean) 1 := ⟨tw_7_38, tw_1_14, by decide +kernel, by decide +kernel, by decide +kernel⟩
theorem mv_X12_isPerson : MyV yX12_isPerson := ⟨tw_7_37, List.mem_append_left _ (List.mem_map.mpr ⟨(yX12_isPerson, 36), (List.mem_append_right _ (List.mem_append_right _ (List.mem_append_right _ (List.mem_append_right _ (List.mem_append_right _ (List.mem_append_right _ (List.mem_append_right _ (List.mem_append_left _ (List.mem_of_getElem? (i := 9) (by decide +kernel)))))))))), rfl⟩)⟩
theorem my_X12_isTrade : My yX12_isTrade cX12_isTrade 3 (some .boolean) 1 := ⟨tw_7_47, tw_1_14, by decide +kernel, by decide +kernel, by decide +kernel⟩
theorem mv_X12_isTrade : MyV yX12_isTrade := ⟨tw_7_46, List.mem_append_left _ (List.mem_map.mpr ⟨(yX12_isTrade, 36), (List.mem_append_right _ (List.mem_append_right _ (List.mem_append_right _ (List.mem_append_right _ (List.mem_append_right _ (List.mem_append_right _ (List.mem_append_right _ (List.mem_append_left _ (List.mem_of_getElem? (i := 10) (by decide +kernel)))))))))), rfl⟩)⟩
theorem my_X12_bitsOf : My yX12_bitsOf cX12_bitsOf 3 (some .int) 1 := ⟨tw_8_152, tw_1_14, by decide +kernel, by decide +kernel, by decide +kernel⟩
theorem mv_X12_bitsOf : Cond.static yX12_bitsOf ∈ lw_tbl := tw_8_151
theorem my_X12_between : My yX12_between cX12_between 5 (some .int) 3 := ⟨tw_7_84, tw_1_14, by decide +kernel, by decide +kernel, by decide +kernel⟩
theorem mv_X12_between : Cond.static yX12_between ∈ lw_tbl := tw_7_83
theorem my_X12_reckons : My yX12_reckons cX12_reckons 5 (some .int) 1 := ⟨tw_7_81, tw_1_14, by decide +kernel, by decide +kernel, by decide +kernel⟩
theorem mv_X12_reckons : MyV yX12_reckons := ⟨tw_7_80, List.mem_append_left _ (List.mem_map.mpr ⟨(yX12_reckons, 36), (List.mem_append_right _ (List.mem_append_right _ (List.mem_append_right _ (List.mem_append_right _ (List.mem_append_right _ (List.mem_append_right _ (List.mem_append_right _ (List.mem_append_left _ (List.mem_of_getElem? (i := 14) (by decide +kernel)))))))))), rfl⟩)⟩
theorem my_X12_standOf : My yX12_standOf cX12_standOf 5 (some .int) 5 := ⟨tw_7_54, tw_1_14, by decide +kernel, by decide +kernel, by decide +kernel⟩
theorem mv_X12_standOf : Cond.static yX12_standOf ∈ lw_tbl := tw_7_53
theorem my_X12_lifeOf : My yX12_lifeOf cX12_lifeOf 1 (some .int) 1 := ⟨tw_7_74, tw_1_14, by decide +kernel, by decide +kernel, by decide +kernel⟩
theorem mv_X12_lifeOf : Cond.static yX12_lifeOf ∈ lw_tbl := tw_7_73
theorem my_X12_oldOf : My yX12_oldOf cX12_oldOf 1 (some .int) 1 := ⟨tw_7_77, tw_1_14, by decide +kernel, by decide +kernel, by decide +kernel⟩
theorem mv_X12_oldOf : Cond.static yX12_oldOf ∈ lw_tbl := tw_7_76
theorem my_X12_yearOf : My yX12_yearOf cX12_yearOf 1 (some .int) 1 := ⟨tw_7_61, tw_1_14, by decide +kernel, by decide +kernel, by decide +kernel⟩
theorem mv_X12_yearOf : Cond.static yX12_yearOf ∈ lw_tbl := tw_7_60
theorem my_X12_lastOf : My yX12_lastOf cX12_lastOf 2 (some .int) 1 := ⟨tw_7_68, tw_1_14, by decide +kernel, by decide +kernel, by decide +kernel⟩
theorem mv_X12_lastOf : Cond.static yX12_lastOf ∈ lw_tbl := tw_7_67
theorem my_X12_streakOf : My yX12_streakOf cX12_streakOf 1 (some .int) 1 := ⟨tw_7_71, tw_1_14, by decide +kernel, by decide +kernel, by decide +kernel⟩
theorem mv_X12_streakOf : Cond.static yX12_streakOf ∈ lw_tbl := tw_7_70
theorem my_X12_standNow : My yX12_standNow cX12_standNow 2 (some .int) 1 := ⟨tw_7_51, tw_1_14, by decide +kernel, by decide +kernel, by decide +kernel⟩
theorem mv_X12_standNow : MyV yX12_standNow := ⟨tw_7_50, List.mem_append_left _ (List.mem_map.mpr ⟨(yX12_standNow, 36), (List.mem_append_right _ (List.mem_append_right _ (List.mem_append_right _ (List.mem_append_right _ (List.mem_append_right _ (List.mem_append_right _ (List.mem_append_right _ (List.mem_append_left _ (List.mem_of_getElem? (i := 11) (by decide +kernel)))))))))), rfl⟩)⟩
theorem my_X12_worthOf : My yX12_worthOf cX12_worthOf 5 (some .int) 3 := ⟨tw_7_65, tw_1_14, by decide +kernel, by decide +kernel, by decide +kernel⟩
theorem mv_X12_worthOf : MyV yX12_worthOf := ⟨tw_7_64, List.mem_append_left _ (List.mem_map.mpr ⟨(yX12_worthOf, 36), (List.mem_append_right _ (List.mem_append_right _ (List.mem_append_right _ (List.mem_append_right _ (List.mem_append_right _ (List.mem_append_right _ (List.mem_append_right _ (List.mem_append_left _ (List.mem_of_getElem? (i := 13) (by decide +kernel)))))))))), rfl⟩)⟩
theorem my_X12_grownTo : My yX12_grownTo cX12_grownTo 4 (some .int) 2 := ⟨tw_7_94, tw_1_14, by decide +kernel, by decide +kernel, by decide +kernel⟩
theorem mv_X12_grownTo : MyV yX12_grownTo := ⟨tw_7_93, List.mem_append_left _ (List.mem_map.mpr ⟨(yX12_grownTo, 36), (List.mem_append_right _ (List.mem_append_right _ (List.mem_append_right _ (List.mem_append_right _ (List.mem_append_right _ (List.mem_append_right _ (List.mem_append_right _ (List.mem_append_left _ (List.mem_of_getElem? (i := 15) (by decide +kernel)))))))))), rfl⟩)⟩
theorem my_X12_isOver : My yX12_isOver cX12_isOver 2 (some .boolean) 1 := ⟨tw_7_58, tw_1_14, by decide +kernel, by decide +kernel, by decide +kernel⟩
theorem mv_X12_isOver : MyV yX12_isOver := ⟨tw_7_57, List.mem_append_left _ (List.mem_map.mpr ⟨(yX12_isOver, 36), (List.mem_append_right _ (List.mem_append_right _ (List.mem_append_right _ (List.mem_append_right _ (List.mem_append_right _ (List.mem_append_right _ (List.mem_append_right _ (List.mem_append_left _ (List.mem_of_getElem? (i := 12) (by decide +kernel)))))))))), rfl⟩)⟩
theorem my_X12_livedTo : My yX12_livedTo cX12_livedTo 2 (some .int) 2 := ⟨tw_7_114, tw_1_14, by decide +kernel, by decide +kernel, by decide +kernel⟩
theorem mv_X12_livedTo : Cond.static yX12_livedTo ∈ lw_tbl := tw_7_113
theorem my_X12_drawnTo : My yX12_drawnTo cX12_drawnTo 3 (some .int) 2 := ⟨tw_7_138, tw_1_14, by decide +kernel, by decide +kernel, by decide +kernel⟩
theorem mv_X12_drawnTo : MyV yX12_drawnTo := ⟨tw_7_137, List.mem_append_left _ (List.mem_map.mpr ⟨(yX12_drawnTo, 36), (List.mem_append_right _ (List.mem_append_right _ (List.mem_append_right _ (List.mem_append_right _ (List.mem_append_right _ (List.mem_append_right _ (List.mem_append_right _ (List.mem_append_right _ (List.mem_append_left _ (List.mem_of_getElem? (i := 7) (by decide +kernel))))))))))), rfl⟩)⟩
theorem my_X12_person : My yX12_person cX12_person 3 (some .int) 2 := ⟨tw_7_34, tw_1_14, by decide +kernel, by decide +kernel, by decide +kernel⟩
theorem mv_X12_person : MyV yX12_person := ⟨tw_7_32, tw_7_33⟩
theorem my_X12_worth : My yX12_worth cX12_worth 3 (some .int) 2 := ⟨tw_7_43, tw_1_14, by decide +kernel, by decide +kernel, by decide +kernel⟩
theorem mv_X12_worth : MyV yX12_worth := ⟨tw_7_41, tw_7_42⟩
theorem my_X12_grown : My yX12_grown cX12_grown 2 (some .int) 1 := ⟨tw_7_90, tw_1_14, by decide +kernel, by decide +kernel, by decide +kernel⟩
theorem mv_X12_grown : MyV yX12_grown := ⟨tw_7_88, tw_7_89⟩
theorem my_X12_keeps : My yX12_keeps cX12_keeps 2 none 0 := ⟨tw_7_107, tw_1_14, by decide +kernel, by decide +kernel, by decide +kernel⟩
theorem mv_X12_keeps : MyV yX12_keeps := ⟨tw_7_106, List.mem_append_left _ (List.mem_map.mpr ⟨(yX12_keeps, 36), (List.mem_append_right _ (List.mem_append_right _ (List.mem_append_right _ (List.mem_append_right _ (List.mem_append_right _ (List.mem_append_right _ (List.mem_append_right _ (List.mem_append_right _ (List.mem_append_left _ (List.mem_of_getElem? (i := 1) (by decide +kernel))))))))))), rfl⟩)⟩
theorem my_X12_isAgain : My yX12_isAgain cX12_isAgain 2 none 0 := ⟨tw_7_210, tw_1_14, by decide +kernel, by decide +kernel, by decide +kernel⟩
theorem mv_X12_isAgain : MyV yX12_isAgain := ⟨tw_7_209, List.mem_append_left _ (List.mem_map.mpr ⟨(yX12_isAgain, 36), (List.mem_append_right _ (List.mem_append_right _ (List.mem_append_right _ (List.mem_append_right _ (List.mem_append_right _ (List.mem_append_right _ (List.mem_append_right _ (List.mem_append_right _ (List.mem_append_right _ (List.mem_append_left _ (List.mem_of_getElem? (i := 1) (by decide +kernel)))))))))))), rfl⟩)⟩
theorem my_X12_notes : My yX12_notes cX12_notes 2 none 0 := ⟨tw_7_122, tw_1_14, by decide +kernel, by decide +kernel, by decide +kernel⟩
theorem mv_X12_notes : MyV yX12_notes := ⟨tw_7_121, List.mem_append_left _ (List.mem_map.mpr ⟨(yX12_notes, 36), (List.mem_append_right _ (List.mem_append_right _ (List.mem_append_right _ (List.mem_append_right _ (List.mem_append_right _ (List.mem_append_right _ (List.mem_append_right _ (List.mem_append_right _ (List.mem_append_left _ (List.mem_of_getElem? (i := 4) (by decide +kernel))))))))))), rfl⟩)⟩
theorem my_X12_whyLive : My yX12_whyLive cX12_whyLive 5 (some .int) 2 := ⟨tw_7_102, tw_1_14, by decide +kernel, by decide +kernel, by decide +kernel⟩
theorem mv_X12_whyLive : MyV yX12_whyLive := ⟨tw_7_101, List.mem_append_left _ (List.mem_map.mpr ⟨(yX12_whyLive, 36), (List.mem_append_right _ (List.mem_append_right _ (List.mem_append_right _ (List.mem_append_right _ (List.mem_append_right _ (List.mem_append_right _ (List.mem_append_right _ (List.mem_append_right _ (List.mem_append_left _ (List.mem_of_getElem? (i := 0) (by decide +kernel))))))))))), rfl⟩)⟩
theorem my_X12_whyDraw : My yX12_whyDraw cX12_whyDraw 3 (some .int) 1 := ⟨tw_7_130, tw_1_14, by decide +kernel, by decide +kernel, by decide +kernel⟩
theorem mv_X12_whyDraw : MyV yX12_whyDraw := ⟨tw_7_129, List.mem_append_left _ (List.mem_map.mpr ⟨(yX12_whyDraw, 36), (List.mem_append_right _ (List.mem_append_right _ (List.mem_append_right _ (List.mem_append_right _ (List.mem_append_right _ (List.mem_append_right _ (List.mem_append_right _ (List.mem_append_right _ (List.mem_append_left _ (List.mem_of_getElem? (i := 5) (by decide +kernel))))))))))), rfl⟩)⟩
theorem my_X12_whyPledge : My yX12_whyPledge cX12_whyPledge 6 (some .int) 2 := ⟨tw_7_146, tw_1_14, by decide +kernel, by decide +kernel, by decide +kernel⟩
theorem mv_X12_whyPledge : MyV yX12_whyPledge := ⟨tw_7_145, List.mem_append_left _ (List.mem_map.mpr ⟨(yX12_whyPledge, 36), (List.mem_append_right _ (List.mem_append_right _ (List.mem_append_right _ (List.mem_append_right _ (List.mem_append_right _ (List.mem_append_right _ (List.mem_append_right _ (List.mem_append_right _ (List.mem_append_left _ (List.mem_of_getElem? (i := 8) (by decide +kernel))))))))))), rfl⟩)⟩
theorem my_X12_whyRedeem : My yX12_whyRedeem cX12_whyRedeem 3 (some .int) 1 := ⟨tw_7_159, tw_1_14, by decide +kernel, by decide +kernel, by decide +kernel⟩
theorem mv_X12_whyRedeem : MyV yX12_whyRedeem := ⟨tw_7_158, List.mem_append_left _ (List.mem_map.mpr ⟨(yX12_whyRedeem, 36), (List.mem_append_right _ (List.mem_append_right _ (List.mem_append_right _ (List.mem_append_right _ (List.mem_append_right _ (List.mem_append_right _ (List.mem_append_right _ (List.mem_append_right _ (List.mem_append_left _ (List.mem_of_getElem? (i := 10) (by decide +kernel))))))))))), rfl⟩)⟩
theorem my_X12_stands : My yX12_stands cX12_stands 3 none 2 := ⟨tw_7_118, tw_1_14, by decide +kernel, by decide +kernel, by decide +kernel⟩
theorem mv_X12_stands : MyV yX12_stands := ⟨tw_7_117, List.mem_append_left _ (List.mem_map.mpr ⟨(yX12_stands, 36), (List.mem_append_right _ (List.mem_append_right _ (List.mem_append_right _ (List.mem_append_right _ (List.mem_append_right _ (List.mem_append_right _ (List.mem_append_right _ (List.mem_append_right _ (List.mem_append_left _ (List.mem_of_getElem? (i := 3) (by decide +kernel))))))))))), rfl⟩)⟩
theorem my_X12_lives : My yX12_lives cX12_lives 5 (some .int) 2 := ⟨tw_7_111, tw_1_14, by decide +kernel, by decide +kernel, by decide +kernel⟩
theorem mv_X12_lives : MyV yX12_lives := ⟨tw_7_110, List.mem_append_left _ (List.mem_map.mpr ⟨(yX12_lives, 36), (List.mem_append_right _ (List.mem_append_right _ (List.mem_append_right _ (List.mem_append_right _ (List.mem_append_right _ (List.mem_append_right _ (List.mem_append_right _ (List.mem_append_right _ (List.mem_append_left _ (List.mem_of_getElem? (i := 2) (by decide +kernel))))))))))), rfl⟩)⟩
theorem my_X12_drawsIt : My yX12_drawsIt cX12_drawsIt 2 none 1 := ⟨tw_7_134, tw_1_14, by decide +kernel, by decide +kernel, by decide +kernel⟩
theorem mv_X12_drawsIt : MyV yX12_drawsIt := ⟨tw_7_133, List.mem_append_left _ (List.mem_map.mpr ⟨(yX12_drawsIt, 36), (List.mem_append_right _ (List.mem_append_right _ (List.mem_append_right _ (List.mem_append_right _ (List.mem_append_right _ (List.mem_append_right _ (List.mem_append_right _ (List.mem_append_right _ (List.mem_append_left _ (List.mem_of_getElem? (i := 6) (by decide +kernel))))))))))), rfl⟩)⟩
theorem my_X12_goes : My yX12_goes cX12_goes 3 none 2 := ⟨tw_7_151, tw_1_14, by decide +kernel, by decide +kernel, by decide +kernel⟩
theorem mv_X12_goes : MyV yX12_goes := ⟨tw_7_150, List.mem_append_left _ (List.mem_map.mpr ⟨(yX12_goes, 36), (List.mem_append_right _ (List.mem_append_right _ (List.mem_append_right _ (List.mem_append_right _ (List.mem_append_right _ (List.mem_append_right _ (List.mem_append_right _ (List.mem_append_right _ (List.mem_append_left _ (List.mem_of_getElem? (i := 9) (by decide +kernel))))))))))), rfl⟩)⟩
theorem my_X12_live : My yX12_live cX12_live 5 (some .int) 2 := ⟨tw_7_98, tw_1_14, by decide +kernel, by decide +kernel, by decide +kernel⟩
theorem mv_X12_live : MyV yX12_live := ⟨tw_7_96, tw_7_97⟩
theorem my_X12_draw : My yX12_draw cX12_draw 3 (some .int) 1 := ⟨tw_7_126, tw_1_14, by decide +kernel, by decide +kernel, by decide +kernel⟩
theorem mv_X12_draw : MyV yX12_draw := ⟨tw_7_124, tw_7_125⟩
theorem my_X12_pledge : My yX12_pledge cX12_pledge 4 (some .int) 2 := ⟨tw_7_142, tw_1_14, by decide +kernel, by decide +kernel, by decide +kernel⟩
theorem mv_X12_pledge : MyV yX12_pledge := ⟨tw_7_140, tw_7_141⟩
theorem my_X12_redeem : My yX12_redeem cX12_redeem 3 (some .int) 1 := ⟨tw_7_155, tw_1_14, by decide +kernel, by decide +kernel, by decide +kernel⟩
theorem mv_X12_redeem : MyV yX12_redeem := ⟨tw_7_153, tw_7_154⟩
theorem my_X12_talent : My yX12_talent cX12_talent 3 (some .int) 2 := ⟨tw_7_163, tw_1_14, by decide +kernel, by decide +kernel, by decide +kernel⟩
theorem mv_X12_talent : MyV yX12_talent := ⟨tw_7_161, tw_7_162⟩
theorem my_X12_undo : My yX12_undo cX12_undo 3 (some .int) 1 := ⟨tw_7_169, tw_1_14, by decide +kernel, by decide +kernel, by decide +kernel⟩
theorem mv_X12_undo : MyV yX12_undo := ⟨tw_7_167, tw_7_168⟩
theorem my_X12_whyNot : My yX12_whyNot cX12_whyNot 3 (some .int) 1 := ⟨tw_7_188, tw_1_14, by decide +kernel, by decide +kernel, by decide +kernel⟩
theorem mv_X12_whyNot : MyV yX12_whyNot := ⟨tw_7_187, List.mem_append_left _ (List.mem_map.mpr ⟨(yX12_whyNot, 36), (List.mem_append_right _ (List.mem_append_right _ (List.mem_append_right _ (List.mem_append_right _ (List.mem_append_right _ (List.mem_append_right _ (List.mem_append_right _ (List.mem_append_right _ (List.mem_append_left _ (List.mem_of_getElem? (i := 13) (by decide +kernel))))))))))), rfl⟩)⟩
theorem my_X12_does : My yX12_does cX12_does 2 none 1 := ⟨tw_7_198, tw_1_14, by decide +kernel, by decide +kernel, by decide +kernel⟩
theorem mv_X12_does : MyV yX12_does := ⟨tw_7_197, List.mem_append_left _ (List.mem_map.mpr ⟨(yX12_does, 36), (List.mem_append_right _ (List.mem_append_right _ (List.mem_append_right _ (List.mem_append_right _ (List.mem_append_right _ (List.mem_append_right _ (List.mem_append_right _ (List.mem_append_right _ (List.mem_append_left _ (List.mem_of_getElem? (i := 14) (by decide +kernel))))))))))), rfl⟩)⟩
theorem my_X12_tells : My yX12_tells cX12_tells 3 (some .int) 1 := ⟨tw_7_184, tw_1_14, by decide +kernel, by decide +kernel, by decide +kernel⟩
theorem mv_X12_tells : MyV yX12_tells := ⟨tw_7_183, List.mem_append_left _ (List.mem_map.mpr ⟨(yX12_tells, 36), (List.mem_append_right _ (List.mem_append_right _ (List.mem_append_right _ (List.mem_append_right _ (List.mem_append_right _ (List.mem_append_right _ (List.mem_append_right _ (List.mem_append_right _ (List.mem_append_left _ (List.mem_of_getElem? (i := 12) (by decide +kernel))))))))))), rfl⟩)⟩
theorem my_X12_noTray : My yX12_noTray cX12_noTray 2 (some .int) 1 := ⟨tw_7_179, tw_1_14, by decide +kernel, by decide +kernel, by decide +kernel⟩
theorem mv_X12_noTray : MyV yX12_noTray := ⟨tw_7_178, List.mem_append_left _ (List.mem_map.mpr ⟨(yX12_noTray, 36), (List.mem_append_right _ (List.mem_append_right _ (List.mem_append_right _ (List.mem_append_right _ (List.mem_append_right _ (List.mem_append_right _ (List.mem_append_right _ (List.mem_append_right _ (List.mem_append_left _ (List.mem_of_getElem? (i := 11) (by decide +kernel))))))))))), rfl⟩)⟩
theorem my_X12_hasAll : My yX12_hasAll cX12_hasAll 3 (some .int) 0 := ⟨tw_7_202, tw_1_14, by decide +kernel, by decide +kernel, by decide +kernel⟩
theorem mv_X12_hasAll : MyV yX12_hasAll := ⟨tw_7_201, List.mem_append_left _ (List.mem_map.mpr ⟨(yX12_hasAll, 36), (List.mem_append_right _ (List.mem_append_right _ (List.mem_append_right _ (List.mem_append_right _ (List.mem_append_right _ (List.mem_append_right _ (List.mem_append_right _ (List.mem_append_right _ (List.mem_append_left _ (List.mem_of_getElem? (i := 15) (by decide +kernel))))))))))), rfl⟩)⟩
theorem my_X12_inSecond : My yX12_inSecond cX12_inSecond 3 (some .int) 0 := ⟨tw_7_206, tw_1_14, by decide +kernel, by decide +kernel, by decide +kernel⟩
theorem mv_X12_inSecond : MyV yX12_inSecond := ⟨tw_7_205, List.mem_append_left _ (List.mem_map.mpr ⟨(yX12_inSecond, 36), (List.mem_append_right _ (List.mem_append_right _ (List.mem_append_right _ (List.mem_append_right _ (List.mem_append_right _ (List.mem_append_right _ (List.mem_append_right _ (List.mem_append_right _ (List.mem_append_right _ (List.mem_append_left _ (List.mem_of_getElem? (i := 0) (by decide +kernel)))))))))))), rfl⟩)⟩
theorem my_X12_judge : My yX12_judge cX12_judge 7 (some .int) 2 := ⟨tw_7_174, tw_1_14, by decide +kernel, by decide +kernel, by decide +kernel⟩
theorem mv_X12_judge : MyV yX12_judge := ⟨tw_7_172, tw_7_173⟩
theorem my_X12_perform : My yX12_perform cX12_perform 4 (some .int) 1 := ⟨tw_7_214, tw_1_14, by decide +kernel, by decide +kernel, by decide +kernel⟩
theorem mv_X12_perform : MyV yX12_perform := ⟨tw_7_212, tw_7_213⟩
theorem my_X12_lot : My yX12_lot cX12_lot 2 (some .int) 1 := ⟨tw_7_227, tw_1_14, by decide +kernel, by decide +kernel, by decide +kernel⟩
theorem mv_X12_lot : MyV yX12_lot := ⟨tw_7_226, List.mem_append_left _ (List.mem_map.mpr ⟨(yX12_lot, 36), (List.mem_append_right _ (List.mem_append_right _ (List.mem_append_right _ (List.mem_append_right _ (List.mem_append_right _ (List.mem_append_right _ (List.mem_append_right _ (List.mem_append_right _ (List.mem_append_right _ (List.mem_append_left _ (List.mem_of_getElem? (i := 3) (by decide +kernel)))))))))))), rfl⟩)⟩
theorem my_X12_drawn : My yX12_drawn cX12_drawn 3 (some .int) 0 := ⟨tw_7_223, tw_1_14, by decide +kernel, by decide +kernel, by decide +kernel⟩
theorem mv_X12_drawn : MyV yX12_drawn := ⟨tw_7_222, List.mem_append_left _ (List.mem_map.mpr ⟨(yX12_drawn, 36), (List.mem_append_right _ (List.mem_append_right _ (List.mem_append_right _ (List.mem_append_right _ (List.mem_append_right _ (List.mem_append_right _ (List.mem_append_right _ (List.mem_append_right _ (List.mem_append_right _ (List.mem_append_left _ (List.mem_of_getElem? (i := 2) (by decide +kernel)))))))))))), rfl⟩)⟩
theorem my_X12_season : My yX12_season cX12_season 6 (some .int) 2 := ⟨tw_7_218, tw_1_14, by decide +kernel, by decide +kernel, by decide +kernel⟩
theorem mv_X12_season : MyV yX12_season := ⟨tw_7_216, tw_7_217⟩
theorem my_X12_begins : My yX12_begins cX12_begins 3 none 1 := ⟨tw_7_236, tw_1_14, by decide +kernel, by decide +kernel, by decide +kernel⟩
theorem mv_X12_begins : MyV yX12_begins := ⟨tw_7_235, List.mem_append_left _ (List.mem_map.mpr ⟨(yX12_begins, 36), (List.mem_append_right _ (List.mem_append_right _ (List.mem_append_right _ (List.mem_append_right _ (List.mem_append_right _ (List.mem_append_right _ (List.mem_append_right _ (List.mem_append_right _ (List.mem_append_right _ (List.mem_append_left _ (List.mem_of_getElem? (i := 4) (by decide +kernel)))))))))))), rfl⟩)⟩
theorem my_X12_canDraw : My yX12_canDraw cX12_canDraw 2 (some .boolean) 1 := ⟨tw_8_4, tw_1_14, by decide +kernel, by decide +kernel, by decide +kernel⟩
theorem mv_X12_canDraw : MyV yX12_canDraw := ⟨tw_8_3, List.mem_append_left _ (List.mem_map.mpr ⟨(yX12_canDraw, 36), (List.mem_append_right _ (List.mem_append_right _ (List.mem_append_right _ (List.mem_append_right _ (List.mem_append_right _ (List.mem_append_right _ (List.mem_append_right _ (List.mem_append_right _ (List.mem_append_right _ (List.mem_append_left _ (List.mem_of_getElem? (i := 6) (by decide +kernel)))))))))))), rfl⟩)⟩
theorem my_X12_laysBest : My yX12_laysBest cX12_laysBest 7 none 1 := ⟨tw_8_0, tw_1_14, by decide +kernel, by decide +kernel, by decide +kernel⟩
theorem mv_X12_laysBest : MyV yX12_laysBest := ⟨tw_7_239, List.mem_append_left _ (List.mem_map.mpr ⟨(yX12_laysBest, 36), (List.mem_append_right _ (List.mem_append_right _ (List.mem_append_right _ (List.mem_append_right _ (List.mem_append_right _ (List.mem_append_right _ (List.mem_append_right _ (List.mem_append_right _ (List.mem_append_right _ (List.mem_append_left _ (List.mem_of_getElem? (i := 5) (by decide +kernel)))))))))))), rfl⟩)⟩
theorem my_X12_nextBest : My yX12_nextBest cX12_nextBest 4 (some .int) 1 := ⟨tw_8_16, tw_1_14, by decide +kernel, by decide +kernel, by decide +kernel⟩
theorem mv_X12_nextBest : MyV yX12_nextBest := ⟨tw_8_15, List.mem_append_left _ (List.mem_map.mpr ⟨(yX12_nextBest, 36), (List.mem_append_right _ (List.mem_append_right _ (List.mem_append_right _ (List.mem_append_right _ (List.mem_append_right _ (List.mem_append_right _ (List.mem_append_right _ (List.mem_append_right _ (List.mem_append_right _ (List.mem_append_left _ (List.mem_of_getElem? (i := 8) (by decide +kernel)))))))))))), rfl⟩)⟩
theorem my_X12_doneTo : My yX12_doneTo cX12_doneTo 3 (some .int) 2 := ⟨tw_8_20, tw_1_14, by decide +kernel, by decide +kernel, by decide +kernel⟩
theorem mv_X12_doneTo : MyV yX12_doneTo := ⟨tw_8_19, List.mem_append_left _ (List.mem_map.mpr ⟨(yX12_doneTo, 36), (List.mem_append_right _ (List.mem_append_right _ (List.mem_append_right _ (List.mem_append_right _ (List.mem_append_right _ (List.mem_append_right _ (List.mem_append_right _ (List.mem_append_right _ (List.mem_append_right _ (List.mem_append_left _ (List.mem_of_getElem? (i := 9) (by decide +kernel)))))))))))), rfl⟩)⟩
theorem my_X12_best : My yX12_best cX12_best 2 (some .int) 1 := ⟨tw_7_232, tw_1_14, by decide +kernel, by decide +kernel, by decide +kernel⟩
theorem mv_X12_best : MyV yX12_best := ⟨tw_7_230, tw_7_231⟩
theorem my_X12_courseAt : My yX12_courseAt cX12_courseAt 5 (some .int) 2 := ⟨tw_8_12, tw_1_14, by decide +kernel, by decide +kernel, by decide +kernel⟩
theorem mv_X12_courseAt : MyV yX12_courseAt := ⟨tw_8_11, List.mem_append_left _ (List.mem_map.mpr ⟨(yX12_courseAt, 36), (List.mem_append_right _ (List.mem_append_right _ (List.mem_append_right _ (List.mem_append_right _ (List.mem_append_right _ (List.mem_append_right _ (List.mem_append_right _ (List.mem_append_right _ (List.mem_append_right _ (List.mem_append_left _ (List.mem_of_getElem? (i := 7) (by decide +kernel)))))))))))), rfl⟩)⟩
theorem my_X12_course : My yX12_course cX12_course 3 (some .int) 2 := ⟨tw_8_8, tw_1_14, by decide +kernel, by decide +kernel, by decide +kernel⟩
theorem mv_X12_course : MyV yX12_course := ⟨tw_8_6, tw_8_7⟩
theorem my_X12_drawsAt : My yX12_drawsAt cX12_drawsAt 3 (some .int) 1 := ⟨tw_8_24, tw_1_14, by decide +kernel, by decide +kernel, by decide +kernel⟩
theorem mv_X12_drawsAt : MyV yX12_drawsAt := ⟨tw_8_22, tw_8_23⟩
theorem my_X12_coursesFrom : My yX12_coursesFrom cX12_coursesFrom 5 (some .long) 1 := ⟨tw_8_33, tw_1_14, by decide +kernel, by decide +kernel, by decide +kernel⟩
theorem mv_X12_coursesFrom : MyV yX12_coursesFrom := ⟨tw_8_32, List.mem_append_left _ (List.mem_map.mpr ⟨(yX12_coursesFrom, 36), (List.mem_append_right _ (List.mem_append_right _ (List.mem_append_right _ (List.mem_append_right _ (List.mem_append_right _ (List.mem_append_right _ (List.mem_append_right _ (List.mem_append_right _ (List.mem_append_right _ (List.mem_append_left _ (List.mem_of_getElem? (i := 10) (by decide +kernel)))))))))))), rfl⟩)⟩
theorem my_X12_courses : My yX12_courses cX12_courses 2 (some .long) 1 := ⟨tw_8_28, tw_1_14, by decide +kernel, by decide +kernel, by decide +kernel⟩
theorem mv_X12_courses : MyV yX12_courses := ⟨tw_8_26, tw_8_27⟩
theorem my_X12_better : My yX12_better cX12_better 3 none 2 := ⟨tw_8_46, tw_1_14, by decide +kernel, by decide +kernel, by decide +kernel⟩
theorem mv_X12_better : MyV yX12_better := ⟨tw_8_45, List.mem_append_left _ (List.mem_map.mpr ⟨(yX12_better, 36), (List.mem_append_right _ (List.mem_append_right _ (List.mem_append_right _ (List.mem_append_right _ (List.mem_append_right _ (List.mem_append_right _ (List.mem_append_right _ (List.mem_append_right _ (List.mem_append_right _ (List.mem_append_left _ (List.mem_of_getElem? (i := 12) (by decide +kernel)))))))))))), rfl⟩)⟩
theorem my_X12_goesOn : My yX12_goesOn cX12_goesOn 3 (some .int) 0 := ⟨tw_8_42, tw_1_14, by decide +kernel, by decide +kernel, by decide +kernel⟩
theorem mv_X12_goesOn : MyV yX12_goesOn := ⟨tw_8_41, List.mem_append_left _ (List.mem_map.mpr ⟨(yX12_goesOn, 36), (List.mem_append_right _ (List.mem_append_right _ (List.mem_append_right _ (List.mem_append_right _ (List.mem_append_right _ (List.mem_append_right _ (List.mem_append_right _ (List.mem_append_right _ (List.mem_append_right _ (List.mem_append_left _ (List.mem_of_getElem? (i := 11) (by decide +kernel)))))))))))), rfl⟩)⟩
theorem my_X12_soonest : My yX12_soonest cX12_soonest 5 (some .int) 2 := ⟨tw_8_37, tw_1_14, by decide +kernel, by decide +kernel, by decide +kernel⟩
theorem mv_X12_soonest : MyV yX12_soonest := ⟨tw_8_35, tw_8_36⟩
theorem my_X12_meanFrom : My yX12_meanFrom cX12_meanFrom 7 (some .long) 1 := ⟨tw_8_54, tw_1_14, by decide +kernel, by decide +kernel, by decide +kernel⟩
theorem mv_X12_meanFrom : MyV yX12_meanFrom := ⟨tw_8_53, List.mem_append_left _ (List.mem_map.mpr ⟨(yX12_meanFrom, 36), (List.mem_append_right _ (List.mem_append_right _ (List.mem_append_right _ (List.mem_append_right _ (List.mem_append_right _ (List.mem_append_right _ (List.mem_append_right _ (List.mem_append_right _ (List.mem_append_right _ (List.mem_append_left _ (List.mem_of_getElem? (i := 13) (by decide +kernel)))))))))))), rfl⟩)⟩
theorem my_X12_drawnMean : My yX12_drawnMean cX12_drawnMean 2 (some .long) 1 := ⟨tw_8_58, tw_1_14, by decide +kernel, by decide +kernel, by decide +kernel⟩
theorem mv_X12_drawnMean : MyV yX12_drawnMean := ⟨tw_8_57, List.mem_append_left _ (List.mem_map.mpr ⟨(yX12_drawnMean, 36), (List.mem_append_right _ (List.mem_append_right _ (List.mem_append_right _ (List.mem_append_right _ (List.mem_append_right _ (List.mem_append_right _ (List.mem_append_right _ (List.mem_append_right _ (List.mem_append_right _ (List.mem_append_left _ (List.mem_of_getElem? (i := 14) (by decide +kernel)))))))))))), rfl⟩)⟩
theorem my_X12_livedMean : My yX12_livedMean cX12_livedMean 3 (some .long) 2 := ⟨tw_8_62, tw_1_14, by decide +kernel, by decide +kernel, by decide +kernel⟩
theorem mv_X12_livedMean : MyV yX12_livedMean := ⟨tw_8_61, List.mem_append_left _ (List.mem_map.mpr ⟨(yX12_livedMean, 36), (List.mem_append_right _ (List.mem_append_right _ (List.mem_append_right _ (List.mem_append_right _ (List.mem_append_right _ (List.mem_append_right _ (List.mem_append_right _ (List.mem_append_right _ (List.mem_append_right _ (List.mem_append_left _ (List.mem_of_getElem? (i := 15) (by decide +kernel)))))))))))), rfl⟩)⟩
theorem my_X12_common : My yX12_common cX12_common 4 (some .long) 2 := ⟨tw_8_69, tw_1_14, by decide +kernel, by decide +kernel, by decide +kernel⟩
theorem mv_X12_common : Cond.static yX12_common ∈ lw_tbl := tw_8_68
theorem my_X12_part : My yX12_part cX12_part 3 (some .long) 2 := ⟨tw_8_66, tw_1_14, by decide +kernel, by decide +kernel, by decide +kernel⟩
theorem mv_X12_part : Cond.static yX12_part ∈ lw_tbl := tw_8_65
theorem my_X12_mean : My yX12_mean cX12_mean 3 (some .long) 2 := ⟨tw_8_50, tw_1_14, by decide +kernel, by decide +kernel, by decide +kernel⟩
theorem mv_X12_mean : MyV yX12_mean := ⟨tw_8_48, tw_8_49⟩
theorem my_X12_choice : My yX12_choice cX12_choice 6 (some .int) 1 := ⟨tw_8_73, tw_1_14, by decide +kernel, by decide +kernel, by decide +kernel⟩
theorem mv_X12_choice : MyV yX12_choice := ⟨tw_8_71, tw_8_72⟩
theorem my_X12_drawing : My yX12_drawing cX12_drawing 3 (some .int) 1 := ⟨tw_8_77, tw_1_14, by decide +kernel, by decide +kernel, by decide +kernel⟩
theorem mv_X12_drawing : MyV yX12_drawing := ⟨tw_8_75, tw_8_76⟩
theorem my_X12_yearsLeft : My yX12_yearsLeft cX12_yearsLeft 2 (some .int) 1 := ⟨tw_8_96, tw_1_14, by decide +kernel, by decide +kernel, by decide +kernel⟩
theorem mv_X12_yearsLeft : MyV yX12_yearsLeft := ⟨tw_8_95, List.mem_append_left _ (List.mem_map.mpr ⟨(yX12_yearsLeft, 36), (List.mem_append_right _ (List.mem_append_right _ (List.mem_append_right _ (List.mem_append_right _ (List.mem_append_right _ (List.mem_append_right _ (List.mem_append_right _ (List.mem_append_right _ (List.mem_append_right _ (List.mem_append_right _ (List.mem_of_getElem? (i := 2) (by decide +kernel)))))))))))), rfl⟩)⟩
theorem my_X12_hopeFrom : My yX12_hopeFrom cX12_hopeFrom 9 (some .long) 2 := ⟨tw_8_92, tw_1_14, by decide +kernel, by decide +kernel, by decide +kernel⟩
theorem mv_X12_hopeFrom : MyV yX12_hopeFrom := ⟨tw_8_91, List.mem_append_left _ (List.mem_map.mpr ⟨(yX12_hopeFrom, 36), (List.mem_append_right _ (List.mem_append_right _ (List.mem_append_right _ (List.mem_append_right _ (List.mem_append_right _ (List.mem_append_right _ (List.mem_append_right _ (List.mem_append_right _ (List.mem_append_right _ (List.mem_append_right _ (List.mem_of_getElem? (i := 1) (by decide +kernel)))))))))))), rfl⟩)⟩
theorem my_X12_drawnHope : My yX12_drawnHope cX12_drawnHope 3 (some .long) 2 := ⟨tw_8_100, tw_1_14, by decide +kernel, by decide +kernel, by decide +kernel⟩
theorem mv_X12_drawnHope : MyV yX12_drawnHope := ⟨tw_8_99, List.mem_append_left _ (List.mem_map.mpr ⟨(yX12_drawnHope, 36), (List.mem_append_right _ (List.mem_append_right _ (List.mem_append_right _ (List.mem_append_right _ (List.mem_append_right _ (List.mem_append_right _ (List.mem_append_right _ (List.mem_append_right _ (List.mem_append_right _ (List.mem_append_right _ (List.mem_of_getElem? (i := 3) (by decide +kernel)))))))))))), rfl⟩)⟩
theorem my_X12_livedHope : My yX12_livedHope cX12_livedHope 4 (some .long) 3 := ⟨tw_8_104, tw_1_14, by decide +kernel, by decide +kernel, by decide +kernel⟩
theorem mv_X12_livedHope : MyV yX12_livedHope := ⟨tw_8_103, List.mem_append_left _ (List.mem_map.mpr ⟨(yX12_livedHope, 36), (List.mem_append_right _ (List.mem_append_right _ (List.mem_append_right _ (List.mem_append_right _ (List.mem_append_right _ (List.mem_append_right _ (List.mem_append_right _ (List.mem_append_right _ (List.mem_append_right _ (List.mem_append_right _ (List.mem_of_getElem? (i := 4) (by decide +kernel)))))))))))), rfl⟩)⟩
theorem my_X12_beginsHope : My yX12_beginsHope cX12_beginsHope 3 none 1 := ⟨tw_8_87, tw_1_14, by decide +kernel, by decide +kernel, by decide +kernel⟩
theorem mv_X12_beginsHope : MyV yX12_beginsHope := ⟨tw_8_86, List.mem_append_left _ (List.mem_map.mpr ⟨(yX12_beginsHope, 36), (List.mem_append_right _ (List.mem_append_right _ (List.mem_append_right _ (List.mem_append_right _ (List.mem_append_right _ (List.mem_append_right _ (List.mem_append_right _ (List.mem_append_right _ (List.mem_append_right _ (List.mem_append_right _ (List.mem_of_getElem? (i := 0) (by decide +kernel)))))))))))), rfl⟩)⟩
theorem my_X12_hope : My yX12_hope cX12_hope 4 (some .long) 3 := ⟨tw_8_81, tw_1_14, by decide +kernel, by decide +kernel, by decide +kernel⟩
theorem mv_X12_hope : MyV yX12_hope := ⟨tw_8_79, tw_8_80⟩
theorem my_X12_hoping : My yX12_hoping cX12_hoping 7 (some .int) 2 := ⟨tw_8_108, tw_1_14, by decide +kernel, by decide +kernel, by decide +kernel⟩
theorem mv_X12_hoping : MyV yX12_hoping := ⟨tw_8_106, tw_8_107⟩
theorem my_X12_noLived : My yX12_noLived cX12_noLived 5 (some .int) 2 := ⟨tw_8_116, tw_1_14, by decide +kernel, by decide +kernel, by decide +kernel⟩
theorem mv_X12_noLived : MyV yX12_noLived := ⟨tw_8_115, List.mem_append_left _ (List.mem_map.mpr ⟨(yX12_noLived, 36), (List.mem_append_right _ (List.mem_append_right _ (List.mem_append_right _ (List.mem_append_right _ (List.mem_append_right _ (List.mem_append_right _ (List.mem_append_right _ (List.mem_append_right _ (List.mem_append_right _ (List.mem_append_right _ (List.mem_of_getElem? (i := 5) (by decide +kernel)))))))))))), rfl⟩)⟩
theorem my_X12_talentsOf : My yX12_talentsOf cX12_talentsOf 10 (some .int) 3 := ⟨tw_8_122, tw_1_14, by decide +kernel, by decide +kernel, by decide +kernel⟩
theorem mv_X12_talentsOf : MyV yX12_talentsOf := ⟨tw_8_121, List.mem_append_left _ (List.mem_map.mpr ⟨(yX12_talentsOf, 36), (List.mem_append_right _ (List.mem_append_right _ (List.mem_append_right _ (List.mem_append_right _ (List.mem_append_right _ (List.mem_append_right _ (List.mem_append_right _ (List.mem_append_right _ (List.mem_append_right _ (List.mem_append_right _ (List.mem_of_getElem? (i := 6) (by decide +kernel)))))))))))), rfl⟩)⟩
theorem my_X12_talents : My yX12_talents cX12_talents 5 (some .int) 3 := ⟨tw_8_112, tw_1_14, by decide +kernel, by decide +kernel, by decide +kernel⟩
theorem mv_X12_talents : MyV yX12_talents := ⟨tw_8_110, tw_8_111⟩
theorem my_X12_mostOften : My yX12_mostOften cX12_mostOften 7 (some .int) 3 := ⟨tw_8_130, tw_1_14, by decide +kernel, by decide +kernel, by decide +kernel⟩
theorem mv_X12_mostOften : MyV yX12_mostOften := ⟨tw_8_129, List.mem_append_left _ (List.mem_map.mpr ⟨(yX12_mostOften, 36), (List.mem_append_right _ (List.mem_append_right _ (List.mem_append_right _ (List.mem_append_right _ (List.mem_append_right _ (List.mem_append_right _ (List.mem_append_right _ (List.mem_append_right _ (List.mem_append_right _ (List.mem_append_right _ (List.mem_of_getElem? (i := 7) (by decide +kernel)))))))))))), rfl⟩)⟩
theorem my_X12_attempt : My yX12_attempt cX12_attempt 10 (some .int) 3 := ⟨tw_8_126, tw_1_14, by decide +kernel, by decide +kernel, by decide +kernel⟩
theorem mv_X12_attempt : MyV yX12_attempt := ⟨tw_8_124, tw_8_125⟩
theorem my_X12_isSet : My yX12_isSet cX12_isSet 2 (some .boolean) 1 := ⟨tw_8_141, tw_1_14, by decide +kernel, by decide +kernel, by decide +kernel⟩
theorem mv_X12_isSet : MyV yX12_isSet := ⟨tw_8_140, List.mem_append_left _ (List.mem_map.mpr ⟨(yX12_isSet, 36), (List.mem_append_right _ (List.mem_append_right _ (List.mem_append_right _ (List.mem_append_right _ (List.mem_append_right _ (List.mem_append_right _ (List.mem_append_right _ (List.mem_append_right _ (List.mem_append_right _ (List.mem_append_right _ (List.mem_of_getElem? (i := 8) (by decide +kernel)))))))))))), rfl⟩)⟩
theorem my_X12_joins : My yX12_joins cX12_joins 5 (some .int) 2 := ⟨tw_8_149, tw_1_14, by decide +kernel, by decide +kernel, by decide +kernel⟩
theorem mv_X12_joins : MyV yX12_joins := ⟨tw_8_148, List.mem_append_left _ (List.mem_map.mpr ⟨(yX12_joins, 36), (List.mem_append_right _ (List.mem_append_right _ (List.mem_append_right _ (List.mem_append_right _ (List.mem_append_right _ (List.mem_append_right _ (List.mem_append_right _ (List.mem_append_right _ (List.mem_append_right _ (List.mem_append_right _ (List.mem_of_getElem? (i := 10) (by decide +kernel)))))))))))), rfl⟩)⟩
theorem my_X12_runOf : My yX12_runOf cX12_runOf 4 (some .int) 2 := ⟨tw_8_145, tw_1_14, by decide +kernel, by decide +kernel, by decide +kernel⟩
theorem mv_X12_runOf : MyV yX12_runOf := ⟨tw_8_144, List.mem_append_left _ (List.mem_map.mpr ⟨(yX12_runOf, 36), (List.mem_append_right _ (List.mem_append_right _ (List.mem_append_right _ (List.mem_append_right _ (List.mem_append_right _ (List.mem_append_right _ (List.mem_append_right _ (List.mem_append_right _ (List.mem_append_right _ (List.mem_append_right _ (List.mem_of_getElem? (i := 9) (by decide +kernel)))))))))))), rfl⟩)⟩
theorem my_X12_run : My yX12_run cX12_run 2 (some .int) 1 := ⟨tw_8_137, tw_1_14, by decide +kernel, by decide +kernel, by decide +kernel⟩
theorem mv_X12_run : MyV yX12_run := ⟨tw_8_135, tw_8_136⟩
theorem my_X12_rounds : My yX12_rounds cX12_rounds 2 (some .int) 1 := ⟨tw_8_156, tw_1_14, by decide +kernel, by decide +kernel, by decide +kernel⟩
theorem mv_X12_rounds : MyV yX12_rounds := ⟨tw_8_154, tw_8_155⟩
theorem my_X12_spark : My yX12_spark cX12_spark 4 (some .int) 1 := ⟨tw_8_160, tw_1_14, by decide +kernel, by decide +kernel, by decide +kernel⟩
theorem mv_X12_spark : MyV yX12_spark := ⟨tw_8_158, tw_8_159⟩
theorem my_X12_calm : My yX12_calm cX12_calm 5 (some .int) 2 := ⟨tw_8_165, tw_1_14, by decide +kernel, by decide +kernel, by decide +kernel⟩
theorem mv_X12_calm : MyV yX12_calm := ⟨tw_8_163, tw_8_164⟩
theorem my_X12_isRest : My yX12_isRest cX12_isRest 4 (some .boolean) 1 := ⟨tw_8_173, tw_1_14, by decide +kernel, by decide +kernel, by decide +kernel⟩
theorem mv_X12_isRest : MyV yX12_isRest := ⟨tw_8_172, List.mem_append_left _ (List.mem_map.mpr ⟨(yX12_isRest, 36), (List.mem_append_right _ (List.mem_append_right _ (List.mem_append_right _ (List.mem_append_right _ (List.mem_append_right _ (List.mem_append_right _ (List.mem_append_right _ (List.mem_append_right _ (List.mem_append_right _ (List.mem_append_right _ (List.mem_of_getElem? (i := 11) (by decide +kernel)))))))))))), rfl⟩)⟩
theorem my_X12_rests : My yX12_rests cX12_rests 3 (some .int) 0 := ⟨tw_8_169, tw_1_14, by decide +kernel, by decide +kernel, by decide +kernel⟩
theorem mv_X12_rests : MyV yX12_rests := ⟨tw_8_167, tw_8_168⟩
theorem my_X12_rest : My yX12_rest cX12_rest 4 (some .int) 1 := ⟨tw_8_177, tw_1_14, by decide +kernel, by decide +kernel, by decide +kernel⟩
theorem mv_X12_rest : MyV yX12_rest := ⟨tw_8_175, tw_8_176⟩
theorem my_X12_cut : My yX12_cut cX12_cut 3 (some .long) 2 := ⟨tw_8_189, tw_1_14, by decide +kernel, by decide +kernel, by decide +kernel⟩
theorem mv_X12_cut : Cond.static yX12_cut ∈ lw_tbl := tw_8_188
theorem my_X12_numbers : My yX12_numbers cX12_numbers 5 (some .int) 3 := ⟨tw_8_181, tw_1_14, by decide +kernel, by decide +kernel, by decide +kernel⟩
theorem mv_X12_numbers : MyV yX12_numbers := ⟨tw_8_179, tw_8_180⟩
theorem my_X12_write : My yX12_write cX12_write 6 (some .long) 3 := ⟨tw_8_185, tw_1_14, by decide +kernel, by decide +kernel, by decide +kernel⟩
theorem mv_X12_write : MyV yX12_write := ⟨tw_8_183, tw_8_184⟩
theorem my_X12_lists : My yX12_lists cX12_lists 6 (some .int) 2 := ⟨tw_8_193, tw_1_14, by decide +kernel, by decide +kernel, by decide +kernel⟩
theorem mv_X12_lists : MyV yX12_lists := ⟨tw_8_191, tw_8_192⟩
theorem my_X12_image : My yX12_image cX12_image 3 (some .int) 1 := ⟨tw_8_197, tw_1_14, by decide +kernel, by decide +kernel, by decide +kernel⟩
theorem mv_X12_image : MyV yX12_image := ⟨tw_8_195, tw_8_196⟩
theorem my_X12_restore : My yX12_restore cX12_restore 3 (some .int) 1 := ⟨tw_8_201, tw_1_14, by decide +kernel, by decide +kernel, by decide +kernel⟩
theorem mv_X12_restore : MyV yX12_restore := ⟨tw_8_199, tw_8_200⟩
theorem my_X12_pledgedSet : My yX12_pledgedSet cX12_pledgedSet 3 (some .int) 0 := ⟨tw_8_209, tw_1_14, by decide +kernel, by decide +kernel, by decide +kernel⟩
theorem mv_X12_pledgedSet : MyV yX12_pledgedSet := ⟨tw_8_208, List.mem_append_left _ (List.mem_map.mpr ⟨(yX12_pledgedSet, 36), (List.mem_append_right _ (List.mem_append_right _ (List.mem_append_right _ (List.mem_append_right _ (List.mem_append_right _ (List.mem_append_right _ (List.mem_append_right _ (List.mem_append_right _ (List.mem_append_right _ (List.mem_append_right _ (List.mem_of_getElem? (i := 12) (by decide +kernel)))))))))))), rfl⟩)⟩
theorem my_X12_count : My yX12_count cX12_count 2 (some .int) 1 := ⟨tw_8_205, tw_1_14, by decide +kernel, by decide +kernel, by decide +kernel⟩
theorem mv_X12_count : MyV yX12_count := ⟨tw_8_203, tw_8_204⟩
theorem my_X0_tens : My yX0_tens cX0_tens 1 (some .long) 1 := ⟨tw_5_66, tw_1_12, by decide +kernel, by decide +kernel, by decide +kernel⟩
theorem mv_X0_tens : Cond.static yX0_tens ∈ lw_tbl := tw_5_65
theorem my_X0_commonDivisor : My yX0_commonDivisor cX0_commonDivisor 11 (some .long) 2 := ⟨tw_5_86, tw_1_12, by decide +kernel, by decide +kernel, by decide +kernel⟩
theorem mv_X0_commonDivisor : Cond.static yX0_commonDivisor ∈ lw_tbl := tw_5_85
theorem my_X1_scoreIn : My yX1_scoreIn cX1_scoreIn 2 (some .int) 1 := ⟨tw_4_198, tw_1_9, by decide +kernel, by decide +kernel, by decide +kernel⟩
theorem mv_X1_scoreIn : Cond.static yX1_scoreIn ∈ lw_tbl := tw_4_197
theorem my_X1_doingIn : My yX1_doingIn cX1_doingIn 2 (some .int) 1 := ⟨tw_4_238, tw_1_9, by decide +kernel, by decide +kernel, by decide +kernel⟩
theorem mv_X1_doingIn : Cond.static yX1_doingIn ∈ lw_tbl := tw_4_237
theorem my_X1_choicesIn : My yX1_choicesIn cX1_choicesIn 5 (some .long) 1 := ⟨tw_5_24, tw_1_9, by decide +kernel, by decide +kernel, by decide +kernel⟩
theorem mv_X1_choicesIn : MyV yX1_choicesIn := ⟨tw_5_23, List.mem_append_left _ (List.mem_map.mpr ⟨(yX1_choicesIn, 4), (List.mem_append_right _ (List.mem_append_right _ (List.mem_append_right _ (List.mem_append_right _ (List.mem_append_left _ (List.mem_of_getElem? (i := 3) (by decide +kernel))))))), rfl⟩)⟩
theorem my_X2_init : My yX2_init cX2_init 2 none 1 := ⟨tw_1_204, tw_1_7, by decide +kernel, by decide +kernel, by decide +kernel⟩
theorem mv_X2_init : Cond.instanceMethod yX2_init ∈ lw_tbl := tw_1_203
theorem my_X2_nextDrawn : My yX2_nextDrawn cX2_nextDrawn 1 (some .int) 0 := ⟨tw_4_147, tw_1_7, by decide +kernel, by decide +kernel, by decide +kernel⟩
theorem mv_X2_nextDrawn : MyV yX2_nextDrawn := ⟨tw_4_146, List.mem_append_left _ (List.mem_map.mpr ⟨(yX2_nextDrawn, 3), (List.mem_append_right _ (List.mem_append_right _ (List.mem_append_right _ (List.mem_append_left _ (List.mem_of_getElem? (i := 3) (by decide +kernel)))))), rfl⟩)⟩
theorem my_X3_find : My yX3_find cX3_find 5 (some .long) 2 := ⟨tw_4_173, tw_1_10, by decide +kernel, by decide +kernel, by decide +kernel⟩
theorem mv_X3_find : MyV yX3_find := ⟨tw_4_172, List.mem_append_left _ (List.mem_map.mpr ⟨(yX3_find, 1), (List.mem_append_right _ (List.mem_append_right _ (List.mem_append_right _ (List.mem_append_left _ (List.mem_of_getElem? (i := 7) (by decide +kernel)))))), rfl⟩)⟩
theorem my_X3_keep : My yX3_keep cX3_keep 5 none 3 := ⟨tw_4_218, tw_1_10, by decide +kernel, by decide +kernel, by decide +kernel⟩
theorem mv_X3_keep : MyV yX3_keep := ⟨tw_4_217, List.mem_append_left _ (List.mem_map.mpr ⟨(yX3_keep, 1), (List.mem_append_right _ (List.mem_append_right _ (List.mem_append_right _ (List.mem_append_left _ (List.mem_of_getElem? (i := 12) (by decide +kernel)))))), rfl⟩)⟩
theorem my_X4_forget : My yX4_forget cX4_forget 1 none 0 := ⟨tw_3_201, tw_1_5, by decide +kernel, by decide +kernel, by decide +kernel⟩
theorem mv_X4_forget : MyV yX4_forget := ⟨tw_3_200, List.mem_append_left _ (List.mem_map.mpr ⟨(yX4_forget, 3), (List.mem_append_right _ (List.mem_append_left _ (List.mem_of_getElem? (i := 11) (by decide +kernel)))), rfl⟩)⟩
theorem my_X5_init : My yX5_init cX5_init 1 none 0 := ⟨tw_1_148, tw_1_4, by decide +kernel, by decide +kernel, by decide +kernel⟩
theorem mv_X5_init : Cond.instanceMethod yX5_init ∈ lw_tbl := tw_1_147
theorem my_X5_copy : My yX5_copy cX5_copy 2 none 1 := ⟨tw_4_28, tw_1_4, by decide +kernel, by decide +kernel, by decide +kernel⟩
theorem mv_X5_copy : MyV yX5_copy := ⟨tw_4_27, List.mem_append_left _ (List.mem_map.mpr ⟨(yX5_copy, 3), (List.mem_append_right _ (List.mem_append_right _ (List.mem_append_left _ (List.mem_of_getElem? (i := 4) (by decide +kernel))))), rfl⟩)⟩
theorem my_X5_has : My yX5_has cX5_has 2 (some .boolean) 1 := ⟨tw_3_213, tw_1_4, by decide +kernel, by decide +kernel, by decide +kernel⟩
theorem mv_X5_has : MyV yX5_has := ⟨tw_3_212, List.mem_append_left _ (List.mem_map.mpr ⟨(yX5_has, 3), (List.mem_append_right _ (List.mem_append_left _ (List.mem_of_getElem? (i := 12) (by decide +kernel)))), rfl⟩)⟩
theorem my_X5_part : My yX5_part cX5_part 4 (some .int) 2 := ⟨tw_3_217, tw_1_4, by decide +kernel, by decide +kernel, by decide +kernel⟩
theorem mv_X5_part : MyV yX5_part := ⟨tw_3_216, List.mem_append_left _ (List.mem_map.mpr ⟨(yX5_part, 3), (List.mem_append_right _ (List.mem_append_left _ (List.mem_of_getElem? (i := 13) (by decide +kernel)))), rfl⟩)⟩
theorem my_X5_put : My yX5_put cX5_put 5 none 3 := ⟨tw_3_189, tw_1_4, by decide +kernel, by decide +kernel, by decide +kernel⟩
theorem mv_X5_put : MyV yX5_put := ⟨tw_3_188, List.mem_append_left _ (List.mem_map.mpr ⟨(yX5_put, 3), (List.mem_append_right _ (List.mem_append_left _ (List.mem_of_getElem? (i := 8) (by decide +kernel)))), rfl⟩)⟩
theorem my_X5_wealth : My yX5_wealth cX5_wealth 3 (some .int) 0 := ⟨tw_4_122, tw_1_4, by decide +kernel, by decide +kernel, by decide +kernel⟩
theorem mv_X5_wealth : MyV yX5_wealth := ⟨tw_4_121, List.mem_append_left _ (List.mem_map.mpr ⟨(yX5_wealth, 3), (List.mem_append_right _ (List.mem_append_right _ (List.mem_append_left _ (List.mem_of_getElem? (i := 15) (by decide +kernel))))), rfl⟩)⟩
theorem my_X5_drawn : My yX5_drawn cX5_drawn 3 (some .int) 0 := ⟨tw_4_127, tw_1_4, by decide +kernel, by decide +kernel, by decide +kernel⟩
theorem mv_X5_drawn : MyV yX5_drawn := ⟨tw_4_126, List.mem_append_left _ (List.mem_map.mpr ⟨(yX5_drawn, 3), (List.mem_append_right _ (List.mem_append_right _ (List.mem_append_right _ (List.mem_append_left _ (List.mem_of_getElem? (i := 0) (by decide +kernel)))))), rfl⟩)⟩
theorem my_X5_pledged : My yX5_pledged cX5_pledged 3 (some .int) 0 := ⟨tw_6_32, tw_1_4, by decide +kernel, by decide +kernel, by decide +kernel⟩
theorem mv_X5_pledged : MyV yX5_pledged := ⟨tw_6_31, List.mem_append_left _ (List.mem_map.mpr ⟨(yX5_pledged, 3), (List.mem_append_right _ (List.mem_append_right _ (List.mem_append_right _ (List.mem_append_right _ (List.mem_append_right _ (List.mem_append_right _ (List.mem_append_left _ (List.mem_of_getElem? (i := 2) (by decide +kernel))))))))), rfl⟩)⟩
theorem my_X5_everybody : My yX5_everybody cX5_everybody 1 (some .int) 0 := ⟨tw_5_180, tw_1_4, by decide +kernel, by decide +kernel, by decide +kernel⟩
theorem mv_X5_everybody : MyV yX5_everybody := ⟨tw_5_179, List.mem_append_left _ (List.mem_map.mpr ⟨(yX5_everybody, 3), (List.mem_append_right _ (List.mem_append_right _ (List.mem_append_right _ (List.mem_append_right _ (List.mem_append_right _ (List.mem_append_left _ (List.mem_of_getElem? (i := 9) (by decide +kernel)))))))), rfl⟩)⟩
theorem my_X5_isSet : My yX5_isSet cX5_isSet 2 (some .boolean) 1 := ⟨tw_5_176, tw_1_4, by decide +kernel, by decide +kernel, by decide +kernel⟩
theorem mv_X5_isSet : MyV yX5_isSet := ⟨tw_5_175, List.mem_append_left _ (List.mem_map.mpr ⟨(yX5_isSet, 3), (List.mem_append_right _ (List.mem_append_right _ (List.mem_append_right _ (List.mem_append_right _ (List.mem_append_right _ (List.mem_append_left _ (List.mem_of_getElem? (i := 8) (by decide +kernel)))))))), rfl⟩)⟩
theorem my_X6_emit : My yX6_emit cX6_emit 2 none 1 := ⟨tw_3_121, tw_1_2, by decide +kernel, by decide +kernel, by decide +kernel⟩
theorem mv_X6_emit : MyV yX6_emit := ⟨tw_3_120, List.mem_append_left _ (List.mem_map.mpr ⟨(yX6_emit, 12), (List.mem_append_right _ (List.mem_append_left _ (List.mem_of_getElem? (i := 1) (by decide +kernel)))), rfl⟩)⟩
theorem my_X6_wrong : My yX6_wrong cX6_wrong 2 (some .boolean) 1 := ⟨tw_3_70, tw_1_2, by decide +kernel, by decide +kernel, by decide +kernel⟩
theorem mv_X6_wrong : MyV yX6_wrong := ⟨tw_3_69, List.mem_append_left _ (List.mem_map.mpr ⟨(yX6_wrong, 12), (List.mem_append_left _ (List.mem_of_getElem? (i := 7) (by decide +kernel))), rfl⟩)⟩
theorem my_X6_byteAt : My yX6_byteAt cX6_byteAt 2 (some .int) 1 := ⟨tw_2_178, tw_1_2, by decide +kernel, by decide +kernel, by decide +kernel⟩
theorem mv_X6_byteAt : MyV yX6_byteAt := ⟨tw_2_177, List.mem_append_left _ (List.mem_map.mpr ⟨(yX6_byteAt, 12), (List.mem_append_left _ (List.mem_of_getElem? (i := 3) (by decide +kernel))), rfl⟩)⟩
theorem my_X6_isBlank : My yX6_isBlank cX6_isBlank 1 (some .boolean) 1 := ⟨tw_2_181, tw_1_2, by decide +kernel, by decide +kernel, by decide +kernel⟩
theorem mv_X6_isBlank : Cond.static yX6_isBlank ∈ lw_tbl := tw_2_180
theorem my_X6_isLetter : My yX6_isLetter cX6_isLetter 1 (some .boolean) 1 := ⟨tw_2_184, tw_1_2, by decide +kernel, by decide +kernel, by decide +kernel⟩
theorem mv_X6_isLetter : Cond.static yX6_isLetter ∈ lw_tbl := tw_2_183
theorem my_X6_isDigit : My yX6_isDigit cX6_isDigit 1 (some .boolean) 1 := ⟨tw_2_187, tw_1_2, by decide +kernel, by decide +kernel, by decide +kernel⟩
theorem mv_X6_isDigit : Cond.static yX6_isDigit ∈ lw_tbl := tw_2_186
theorem my_X7_init : My yX7_init cX7_init 1 none 0 := ⟨tw_1_190, tw_1_6, by decide +kernel, by decide +kernel, by decide +kernel⟩
theorem mv_X7_init : Cond.instanceMethod yX7_init ∈ lw_tbl := tw_1_189
theorem my_X7_about : My yX7_about cX7_about 3 none 2 := ⟨tw_3_229, tw_1_6, by decide +kernel, by decide +kernel, by decide +kernel⟩
theorem mv_X7_about : MyV yX7_about := ⟨tw_3_228, List.mem_append_left _ (List.mem_map.mpr ⟨(yX7_about, 2), (List.mem_append_right _ (List.mem_append_left _ (List.mem_of_getElem? (i := 15) (by decide +kernel)))), rfl⟩)⟩
theorem my_X7_joined : My yX7_joined cX7_joined 5 (some .int) 3 := ⟨tw_4_5, tw_1_6, by decide +kernel, by decide +kernel, by decide +kernel⟩
theorem mv_X7_joined : Cond.static yX7_joined ∈ lw_tbl := tw_4_4
theorem my_X7_factAt : My yX7_factAt cX7_factAt 2 (some .int) 1 := ⟨tw_4_2, tw_1_6, by decide +kernel, by decide +kernel, by decide +kernel⟩
theorem mv_X7_factAt : MyV yX7_factAt := ⟨tw_4_1, List.mem_append_left _ (List.mem_map.mpr ⟨(yX7_factAt, 2), (List.mem_append_right _ (List.mem_append_right _ (List.mem_append_left _ (List.mem_of_getElem? (i := 2) (by decide +kernel))))), rfl⟩)⟩
theorem my_X8_init : My yX8_init cX8_init 1 none 0 := ⟨tw_1_41, tw_1_3, by decide +kernel, by decide +kernel, by decide +kernel⟩
theorem mv_X8_init : Cond.instanceMethod yX8_init ∈ lw_tbl := tw_1_40
theorem my_X8_hasTrade : My yX8_hasTrade cX8_hasTrade 3 (some .boolean) 1 := ⟨tw_3_225, tw_1_3, by decide +kernel, by decide +kernel, by decide +kernel⟩
theorem mv_X8_hasTrade : MyV yX8_hasTrade := ⟨tw_3_224, List.mem_append_left _ (List.mem_map.mpr ⟨(yX8_hasTrade, 10), (List.mem_append_right _ (List.mem_append_left _ (List.mem_of_getElem? (i := 14) (by decide +kernel)))), rfl⟩)⟩
theorem my_X8_talentOf : My yX8_talentOf cX8_talentOf 2 (some .int) 1 := ⟨tw_3_193, tw_1_3, by decide +kernel, by decide +kernel, by decide +kernel⟩
theorem mv_X8_talentOf : MyV yX8_talentOf := ⟨tw_3_192, List.mem_append_left _ (List.mem_map.mpr ⟨(yX8_talentOf, 10), (List.mem_append_right _ (List.mem_append_left _ (List.mem_of_getElem? (i := 9) (by decide +kernel)))), rfl⟩)⟩
theorem my_X8_fearOf : My yX8_fearOf cX8_fearOf 2 (some .int) 1 := ⟨tw_3_197, tw_1_3, by decide +kernel, by decide +kernel, by decide +kernel⟩
theorem mv_X8_fearOf : MyV yX8_fearOf := ⟨tw_3_196, List.mem_append_left _ (List.mem_map.mpr ⟨(yX8_fearOf, 10), (List.mem_append_right _ (List.mem_append_left _ (List.mem_of_getElem? (i := 10) (by decide +kernel)))), rfl⟩)⟩
theorem my_X8_addPerson : My yX8_addPerson cX8_addPerson 3 none 2 := ⟨tw_3_96, tw_1_3, by decide +kernel, by decide +kernel, by decide +kernel⟩
theorem mv_X8_addPerson : MyV yX8_addPerson := ⟨tw_3_95, List.mem_append_left _ (List.mem_map.mpr ⟨(yX8_addPerson, 10), (List.mem_append_left _ (List.mem_of_getElem? (i := 12) (by decide +kernel))), rfl⟩)⟩
theorem my_X9_init : My yX9_init cX9_init 1 none 0 := ⟨tw_2_83, tw_1_13, by decide +kernel, by decide +kernel, by decide +kernel⟩
theorem mv_X9_init : Cond.instanceMethod yX9_init ∈ lw_tbl := tw_2_82
theorem my_X9_number : My yX9_number cX9_number 2 (some .long) 1 := ⟨tw_4_102, tw_1_13, by decide +kernel, by decide +kernel, by decide +kernel⟩
theorem mv_X9_number : MyV yX9_number := ⟨tw_4_101, List.mem_append_left _ (List.mem_map.mpr ⟨(yX9_number, 4), (List.mem_append_right _ (List.mem_append_right _ (List.mem_append_left _ (List.mem_of_getElem? (i := 13) (by decide +kernel))))), rfl⟩)⟩
theorem my_X9_cut : My yX9_cut cX9_cut 3 (some .long) 1 := ⟨tw_6_7, tw_1_13, by decide +kernel, by decide +kernel, by decide +kernel⟩
theorem mv_X9_cut : MyV yX9_cut := ⟨tw_6_6, List.mem_append_left _ (List.mem_map.mpr ⟨(yX9_cut, 4), (List.mem_append_right _ (List.mem_append_right _ (List.mem_append_right _ (List.mem_append_right _ (List.mem_append_right _ (List.mem_append_right _ (List.mem_append_left _ (List.mem_of_getElem? (i := 0) (by decide +kernel))))))))), rfl⟩)⟩
theorem my_X10_init : My yX10_init cX10_init 2 none 1 := ⟨tw_1_221, tw_1_8, by decide +kernel, by decide +kernel, by decide +kernel⟩
theorem mv_X10_init : Cond.instanceMethod yX10_init ∈ lw_tbl := tw_1_220
theorem my_X10_standOf : My yX10_standOf cX10_standOf 5 (some .int) 2 := ⟨tw_4_160, tw_1_8, by decide +kernel, by decide +kernel, by decide +kernel⟩
theorem mv_X10_standOf : Cond.static yX10_standOf ∈ lw_tbl := tw_4_159
theorem my_X10_lifeOf : My yX10_lifeOf cX10_lifeOf 1 (some .int) 1 := ⟨tw_4_213, tw_1_8, by decide +kernel, by decide +kernel, by decide +kernel⟩
theorem mv_X10_lifeOf : Cond.static yX10_lifeOf ∈ lw_tbl := tw_4_212
theorem my_X10_yearOf : My yX10_yearOf cX10_yearOf 1 (some .int) 1 := ⟨tw_4_184, tw_1_8, by decide +kernel, by decide +kernel, by decide +kernel⟩
theorem mv_X10_yearOf : Cond.static yX10_yearOf ∈ lw_tbl := tw_4_183
theorem my_X10_lastOf : My yX10_lastOf cX10_lastOf 2 (some .int) 1 := ⟨tw_4_191, tw_1_8, by decide +kernel, by decide +kernel, by decide +kernel⟩
theorem mv_X10_lastOf : Cond.static yX10_lastOf ∈ lw_tbl := tw_4_190
theorem my_X10_streakOf : My yX10_streakOf cX10_streakOf 2 (some .int) 1 := ⟨tw_4_194, tw_1_8, by decide +kernel, by decide +kernel, by decide +kernel⟩
theorem mv_X10_streakOf : Cond.static yX10_streakOf ∈ lw_tbl := tw_4_193
theorem my_X10_openTrades : My yX10_openTrades cX10_openTrades 2 (some .int) 1 := ⟨tw_4_181, tw_1_8, by decide +kernel, by decide +kernel, by decide +kernel⟩
theorem mv_X10_openTrades : MyV yX10_openTrades := ⟨tw_4_180, List.mem_append_left _ (List.mem_map.mpr ⟨(yX10_openTrades, 9), (List.mem_append_right _ (List.mem_append_right _ (List.mem_append_right _ (List.mem_append_left _ (List.mem_of_getElem? (i := 8) (by decide +kernel)))))), rfl⟩)⟩
theorem my_X10_grownAt : My yX10_grownAt cX10_grownAt 2 (some .int) 1 := ⟨tw_4_226, tw_1_8, by decide +kernel, by decide +kernel, by decide +kernel⟩
theorem mv_X10_grownAt : MyV yX10_grownAt := ⟨tw_4_225, List.mem_append_left _ (List.mem_map.mpr ⟨(yX10_grownAt, 9), (List.mem_append_right _ (List.mem_append_right _ (List.mem_append_right _ (List.mem_append_left _ (List.mem_of_getElem? (i := 14) (by decide +kernel)))))), rfl⟩)⟩
theorem my_X10_turnTo : My yX10_turnTo cX10_turnTo 4 none 1 := ⟨tw_4_210, tw_1_8, by decide +kernel, by decide +kernel, by decide +kernel⟩
theorem mv_X10_turnTo : MyV yX10_turnTo := ⟨tw_4_209, List.mem_append_left _ (List.mem_map.mpr ⟨(yX10_turnTo, 9), (List.mem_append_right _ (List.mem_append_right _ (List.mem_append_right _ (List.mem_append_left _ (List.mem_of_getElem? (i := 11) (by decide +kernel)))))), rfl⟩)⟩
theorem my_J6_bitCount_0f7a4 : My yJ6_bitCount_0f7a4 cJ6_bitCount_0f7a4 1 (some .int) 1 := ⟨tw_5_191, tw_1_22, by decide +kernel, by decide +kernel, by decide +kernel⟩
theorem mv_J6_bitCount_0f7a4 : Cond.static yJ6_bitCount_0f7a4 ∈ lw_tbl := tw_5_190
theorem my_J9_floorMod_7cf53 : My yJ9_floorMod_7cf53 cJ9_floorMod_7cf53 3 (some .int) 2 := ⟨tw_4_86, tw_1_11, by decide +kernel, by decide +kernel, by decide +kernel⟩
theorem mv_J9_floorMod_7cf53 : Cond.static yJ9_floorMod_7cf53 ∈ lw_tbl := tw_4_85
theorem my_J9_max_7cf53 : My yJ9_max_7cf53 cJ9_max_7cf53 2 (some .int) 2 := ⟨tw_2_37, tw_1_11, by decide +kernel, by decide +kernel, by decide +kernel⟩
theorem mv_J9_max_7cf53 : Cond.static yJ9_max_7cf53 ∈ lw_tbl := tw_2_36
theorem my_J9_max_f86c9 : My yJ9_max_f86c9 cJ9_max_f86c9 4 (some .long) 2 := ⟨tw_5_78, tw_1_11, by decide +kernel, by decide +kernel, by decide +kernel⟩
theorem mv_J9_max_f86c9 : Cond.static yJ9_max_f86c9 ∈ lw_tbl := tw_5_77
theorem my_J9_min_7cf53 : My yJ9_min_7cf53 cJ9_min_7cf53 2 (some .int) 2 := ⟨tw_2_220, tw_1_11, by decide +kernel, by decide +kernel, by decide +kernel⟩
theorem mv_J9_min_7cf53 : Cond.static yJ9_min_7cf53 ∈ lw_tbl := tw_2_219
theorem my_J0_coder_7d493 : My yJ0_coder_7d493 cJ0_coder_7d493 1 (some .byte) 0 := ⟨tw_2_210, tw_1_15, by decide +kernel, by decide +kernel, by decide +kernel⟩
theorem mv_J0_coder_7d493 : MyV yJ0_coder_7d493 := ⟨tw_2_208, tw_2_209⟩
theorem my_J0_isLatin1_aae02 : My yJ0_isLatin1_aae02 cJ0_isLatin1_aae02 1 (some .boolean) 0 := ⟨tw_2_200, tw_1_15, by decide +kernel, by decide +kernel, by decide +kernel⟩
theorem mv_J0_isLatin1_aae02 : MyV yJ0_isLatin1_aae02 := ⟨tw_2_198, tw_2_199⟩
theorem my_J1_canEncode_9a6ad : My yJ1_canEncode_9a6ad cJ1_canEncode_9a6ad 1 (some .boolean) 1 := ⟨tw_2_216, tw_1_16, by decide +kernel, by decide +kernel, by decide +kernel⟩
theorem mv_J1_canEncode_9a6ad : Cond.static yJ1_canEncode_9a6ad ∈ lw_tbl := tw_2_215
theorem my_J1_indexOfChar_4cfef : My yJ1_indexOfChar_4cfef cJ1_indexOfChar_4cfef 6 (some .int) 4 := ⟨tw_2_223, tw_1_16, by decide +kernel, by decide +kernel, by decide +kernel⟩
theorem mv_J1_indexOfChar_4cfef : Cond.static yJ1_indexOfChar_4cfef ∈ lw_tbl := tw_2_222
theorem my_J7_fill_d0a16 : My yJ7_fill_d0a16 cJ7_fill_d0a16 5 none 2 := ⟨tw_5_235, tw_1_20, by decide +kernel, by decide +kernel, by decide +kernel⟩
theorem mv_J7_fill_d0a16 : Cond.static yJ7_fill_d0a16 ∈ lw_tbl := tw_5_234
theorem my_J7_fill_53178 : My yJ7_fill_53178 cJ7_fill_53178 4 none 2 := ⟨tw_3_185, tw_1_20, by decide +kernel, by decide +kernel, by decide +kernel⟩
theorem mv_J7_fill_53178 : Cond.static yJ7_fill_53178 ∈ lw_tbl := tw_3_184
theorem my_J7_copyOf_59c91 : My yJ7_copyOf_59c91 cJ7_copyOf_59c91 3 (some (.array .int)) 2 := ⟨tw_3_167, tw_1_20, by decide +kernel, by decide +kernel, by decide +kernel⟩
theorem mv_J7_copyOf_59c91 : Cond.static yJ7_copyOf_59c91 ∈ lw_tbl := tw_3_166
theorem my_J3_checkIndex_8e157 : My yJ3_checkIndex_8e157 cJ3_checkIndex_8e157 3 (some .int) 3 := ⟨tw_3_59, tw_1_18, by decide +kernel, by decide +kernel, by decide +kernel⟩
theorem mv_J3_checkIndex_8e157 : Cond.static yJ3_checkIndex_8e157 ∈ lw_tbl := tw_3_58
theorem my_X11_feed : My yX11_feed cX11_feed 6 (some .int) 5 := ⟨tw_2_154, tw_1_1, by decide +kernel, by decide +kernel, by decide +kernel⟩
theorem mv_X11_feed : MyV yX11_feed := ⟨tw_2_152, tw_2_153⟩
theorem my_X11_person : My yX11_person cX11_person 3 (some .int) 2 := ⟨tw_3_209, tw_1_1, by decide +kernel, by decide +kernel, by decide +kernel⟩
theorem mv_X11_person : MyV yX11_person := ⟨tw_3_207, tw_3_208⟩
theorem my_X11_image : My yX11_image cX11_image 3 (some .int) 1 := ⟨tw_6_20, tw_1_1, by decide +kernel, by decide +kernel, by decide +kernel⟩
theorem mv_X11_image : MyV yX11_image := ⟨tw_6_18, tw_6_19⟩
theorem my_X11_restore : My yX11_restore cX11_restore 4 (some .int) 1 := ⟨tw_6_24, tw_1_1, by decide +kernel, by decide +kernel, by decide +kernel⟩
theorem mv_X11_restore : MyV yX11_restore := ⟨tw_6_22, tw_6_23⟩
theorem my_X11_count : My yX11_count cX11_count 2 (some .int) 1 := ⟨tw_6_28, tw_1_1, by decide +kernel, by decide +kernel, by decide +kernel⟩
theorem mv_X11_count : MyV yX11_count := ⟨tw_6_26, tw_6_27⟩
theorem my_X11_livedFault : My yX11_livedFault cX11_livedFault 5 (some .int) 2 := ⟨tw_5_153, tw_1_1, by decide +kernel, by decide +kernel, by decide +kernel⟩
theorem mv_X11_livedFault : MyV yX11_livedFault := ⟨tw_5_152, List.mem_append_left _ (List.mem_map.mpr ⟨(yX11_livedFault, 16), (List.mem_append_right _ (List.mem_append_right _ (List.mem_append_right _ (List.mem_append_right _ (List.mem_append_right _ (List.mem_append_left _ (List.mem_of_getElem? (i := 5) (by decide +kernel)))))))), rfl⟩)⟩
theorem my_X12_init : My yX12_init cX12_init 1 none 0 := ⟨tw_6_37, tw_1_14, by decide +kernel, by decide +kernel, by decide +kernel⟩
theorem mv_X12_init : Cond.instanceMethod yX12_init ∈ lw_tbl := tw_6_36
theorem my_X0_layOutHopes : My yX0_layOutHopes cX0_layOutHopes 4 (some .int) 0 := ⟨tw_5_127, tw_1_12, by decide +kernel, by decide +kernel, by decide +kernel⟩
theorem mv_X0_layOutHopes : MyV yX0_layOutHopes := ⟨tw_5_126, List.mem_append_left _ (List.mem_map.mpr ⟨(yX0_layOutHopes, 5), (List.mem_append_right _ (List.mem_append_right _ (List.mem_append_right _ (List.mem_append_right _ (List.mem_append_right _ (List.mem_append_left _ (List.mem_of_getElem? (i := 1) (by decide +kernel)))))))), rfl⟩)⟩
theorem my_X0_tenthsAt : My yX0_tenthsAt cX0_tenthsAt 3 (some .int) 1 := ⟨tw_5_55, tw_1_12, by decide +kernel, by decide +kernel, by decide +kernel⟩
theorem mv_X0_tenthsAt : MyV yX0_tenthsAt := ⟨tw_5_54, List.mem_append_left _ (List.mem_map.mpr ⟨(yX0_tenthsAt, 5), (List.mem_append_right _ (List.mem_append_right _ (List.mem_append_right _ (List.mem_append_right _ (List.mem_append_left _ (List.mem_of_getElem? (i := 7) (by decide +kernel))))))), rfl⟩)⟩
theorem my_X0_fraction : My yX0_fraction cX0_fraction 8 (some .long) 2 := ⟨tw_5_83, tw_1_12, by decide +kernel, by decide +kernel, by decide +kernel⟩
theorem mv_X0_fraction : MyV yX0_fraction := ⟨tw_5_82, List.mem_append_left _ (List.mem_map.mpr ⟨(yX0_fraction, 5), (List.mem_append_right _ (List.mem_append_right _ (List.mem_append_right _ (List.mem_append_right _ (List.mem_append_left _ (List.mem_of_getElem? (i := 10) (by decide +kernel))))))), rfl⟩)⟩
theorem my_X0_meanByYear : My yX0_meanByYear cX0_meanByYear 7 (some .long) 2 := ⟨tw_5_73, tw_1_12, by decide +kernel, by decide +kernel, by decide +kernel⟩
theorem mv_X0_meanByYear : MyV yX0_meanByYear := ⟨tw_5_72, List.mem_append_left _ (List.mem_map.mpr ⟨(yX0_meanByYear, 5), (List.mem_append_right _ (List.mem_append_right _ (List.mem_append_right _ (List.mem_append_right _ (List.mem_append_left _ (List.mem_of_getElem? (i := 9) (by decide +kernel))))))), rfl⟩)⟩
theorem my_X0_meanByDrawing : My yX0_meanByDrawing cX0_meanByDrawing 4 (some .long) 2 := ⟨tw_5_61, tw_1_12, by decide +kernel, by decide +kernel, by decide +kernel⟩
theorem mv_X0_meanByDrawing : MyV yX0_meanByDrawing := ⟨tw_5_60, List.mem_append_left _ (List.mem_map.mpr ⟨(yX0_meanByDrawing, 5), (List.mem_append_right _ (List.mem_append_right _ (List.mem_append_right _ (List.mem_append_right _ (List.mem_append_left _ (List.mem_of_getElem? (i := 8) (by decide +kernel))))))), rfl⟩)⟩
theorem my_X0_hopeByYear : My yX0_hopeByYear cX0_hopeByYear 7 (some .long) 3 := ⟨tw_5_136, tw_1_12, by decide +kernel, by decide +kernel, by decide +kernel⟩
theorem mv_X0_hopeByYear : MyV yX0_hopeByYear := ⟨tw_5_135, List.mem_append_left _ (List.mem_map.mpr ⟨(yX0_hopeByYear, 5), (List.mem_append_right _ (List.mem_append_right _ (List.mem_append_right _ (List.mem_append_right _ (List.mem_append_right _ (List.mem_append_left _ (List.mem_of_getElem? (i := 3) (by decide +kernel)))))))), rfl⟩)⟩
theorem my_X1_knownMost : My yX1_knownMost cX1_knownMost 4 (some .int) 1 := ⟨tw_5_119, tw_1_9, by decide +kernel, by decide +kernel, by decide +kernel⟩
theorem mv_X1_knownMost : MyV yX1_knownMost := ⟨tw_5_118, List.mem_append_left _ (List.mem_map.mpr ⟨(yX1_knownMost, 4), (List.mem_append_right _ (List.mem_append_right _ (List.mem_append_right _ (List.mem_append_right _ (List.mem_append_left _ (List.mem_of_getElem? (i := 15) (by decide +kernel))))))), rfl⟩)⟩
theorem my_X1_howMany : My yX1_howMany cX1_howMany 6 (some .long) 0 := ⟨tw_5_19, tw_1_9, by decide +kernel, by decide +kernel, by decide +kernel⟩
theorem mv_X1_howMany : MyV yX1_howMany := ⟨tw_5_18, List.mem_append_left _ (List.mem_map.mpr ⟨(yX1_howMany, 4), (List.mem_append_right _ (List.mem_append_right _ (List.mem_append_right _ (List.mem_append_right _ (List.mem_append_left _ (List.mem_of_getElem? (i := 2) (by decide +kernel))))))), rfl⟩)⟩
theorem my_X1_reach : My yX1_reach cX1_reach 4 none 3 := ⟨tw_5_39, tw_1_9, by decide +kernel, by decide +kernel, by decide +kernel⟩
theorem mv_X1_reach : MyV yX1_reach := ⟨tw_5_38, List.mem_append_left _ (List.mem_map.mpr ⟨(yX1_reach, 4), (List.mem_append_right _ (List.mem_append_right _ (List.mem_append_right _ (List.mem_append_right _ (List.mem_append_left _ (List.mem_of_getElem? (i := 5) (by decide +kernel))))))), rfl⟩)⟩
theorem my_X2_pledges : My yX2_pledges cX2_pledges 4 (some .int) 3 := ⟨tw_4_62, tw_1_7, by decide +kernel, by decide +kernel, by decide +kernel⟩
theorem mv_X2_pledges : MyV yX2_pledges := ⟨tw_4_61, List.mem_append_left _ (List.mem_map.mpr ⟨(yX2_pledges, 3), (List.mem_append_right _ (List.mem_append_right _ (List.mem_append_left _ (List.mem_of_getElem? (i := 8) (by decide +kernel))))), rfl⟩)⟩
theorem my_X2_redeems : My yX2_redeems cX2_redeems 4 (some .int) 2 := ⟨tw_4_70, tw_1_7, by decide +kernel, by decide +kernel, by decide +kernel⟩
theorem mv_X2_redeems : MyV yX2_redeems := ⟨tw_4_69, List.mem_append_left _ (List.mem_map.mpr ⟨(yX2_redeems, 3), (List.mem_append_right _ (List.mem_append_right _ (List.mem_append_left _ (List.mem_of_getElem? (i := 9) (by decide +kernel))))), rfl⟩)⟩
theorem my_X3_init : My yX3_init cX3_init 2 none 1 := ⟨tw_2_33, tw_1_10, by decide +kernel, by decide +kernel, by decide +kernel⟩
theorem mv_X3_init : Cond.instanceMethod yX3_init ∈ lw_tbl := tw_2_32
theorem my_X4_init : My yX4_init cX4_init 2 none 0 := ⟨tw_1_167, tw_1_5, by decide +kernel, by decide +kernel, by decide +kernel⟩
theorem mv_X4_init : Cond.instanceMethod yX4_init ∈ lw_tbl := tw_1_166
theorem my_X4_keep : My yX4_keep cX4_keep 3 none 1 := ⟨tw_4_43, tw_1_5, by decide +kernel, by decide +kernel, by decide +kernel⟩
theorem mv_X4_keep : MyV yX4_keep := ⟨tw_4_42, List.mem_append_left _ (List.mem_map.mpr ⟨(yX4_keep, 3), (List.mem_append_right _ (List.mem_append_right _ (List.mem_append_left _ (List.mem_of_getElem? (i := 6) (by decide +kernel))))), rfl⟩)⟩
theorem my_X4_bringBack : My yX4_bringBack cX4_bringBack 5 (some .boolean) 2 := ⟨tw_4_83, tw_1_5, by decide +kernel, by decide +kernel, by decide +kernel⟩
theorem mv_X4_bringBack : MyV yX4_bringBack := ⟨tw_4_82, List.mem_append_left _ (List.mem_map.mpr ⟨(yX4_bringBack, 3), (List.mem_append_right _ (List.mem_append_right _ (List.mem_append_left _ (List.mem_of_getElem? (i := 10) (by decide +kernel))))), rfl⟩)⟩
theorem my_X5_settle : My yX5_settle cX5_settle 3 none 1 := ⟨tw_3_182, tw_1_4, by decide +kernel, by decide +kernel, by decide +kernel⟩
theorem mv_X5_settle : MyV yX5_settle := ⟨tw_3_181, List.mem_append_left _ (List.mem_map.mpr ⟨(yX5_settle, 3), (List.mem_append_right _ (List.mem_append_left _ (List.mem_of_getElem? (i := 7) (by decide +kernel)))), rfl⟩)⟩
theorem my_X5_joining : My yX5_joining cX5_joining 6 (some .int) 2 := ⟨tw_5_188, tw_1_4, by decide +kernel, by decide +kernel, by decide +kernel⟩
theorem mv_X5_joining : MyV yX5_joining := ⟨tw_5_187, List.mem_append_left _ (List.mem_map.mpr ⟨(yX5_joining, 3), (List.mem_append_right _ (List.mem_append_right _ (List.mem_append_right _ (List.mem_append_right _ (List.mem_append_right _ (List.mem_append_left _ (List.mem_of_getElem? (i := 11) (by decide +kernel)))))))), rfl⟩)⟩
theorem my_X5_runOf : My yX5_runOf cX5_runOf 6 (some .int) 2 := ⟨tw_5_184, tw_1_4, by decide +kernel, by decide +kernel, by decide +kernel⟩
theorem mv_X5_runOf : MyV yX5_runOf := ⟨tw_5_183, List.mem_append_left _ (List.mem_map.mpr ⟨(yX5_runOf, 3), (List.mem_append_right _ (List.mem_append_right _ (List.mem_append_right _ (List.mem_append_right _ (List.mem_append_right _ (List.mem_append_left _ (List.mem_of_getElem? (i := 10) (by decide +kernel)))))))), rfl⟩)⟩
theorem my_X5_roundsOf : My yX5_roundsOf cX5_roundsOf 5 (some .int) 1 := ⟨tw_5_202, tw_1_4, by decide +kernel, by decide +kernel, by decide +kernel⟩
theorem mv_X5_roundsOf : MyV yX5_roundsOf := ⟨tw_5_201, List.mem_append_left _ (List.mem_map.mpr ⟨(yX5_roundsOf, 3), (List.mem_append_right _ (List.mem_append_right _ (List.mem_append_right _ (List.mem_append_right _ (List.mem_append_right _ (List.mem_append_left _ (List.mem_of_getElem? (i := 12) (by decide +kernel)))))))), rfl⟩)⟩
theorem my_X5_atRest : My yX5_atRest cX5_atRest 6 (some .boolean) 1 := ⟨tw_5_220, tw_1_4, by decide +kernel, by decide +kernel, by decide +kernel⟩
theorem mv_X5_atRest : MyV yX5_atRest := ⟨tw_5_219, List.mem_append_left _ (List.mem_map.mpr ⟨(yX5_atRest, 3), (List.mem_append_right _ (List.mem_append_right _ (List.mem_append_right _ (List.mem_append_right _ (List.mem_append_right _ (List.mem_append_left _ (List.mem_of_getElem? (i := 13) (by decide +kernel)))))))), rfl⟩)⟩
theorem my_X6_init : My yX6_init cX6_init 1 none 0 := ⟨tw_1_35, tw_1_2, by decide +kernel, by decide +kernel, by decide +kernel⟩
theorem mv_X6_init : Cond.instanceMethod yX6_init ∈ lw_tbl := tw_1_34
theorem my_X7_tell : My yX7_tell cX7_tell 5 (some .int) 1 := ⟨tw_3_238, tw_1_6, by decide +kernel, by decide +kernel, by decide +kernel⟩
theorem mv_X7_tell : MyV yX7_tell := ⟨tw_3_237, List.mem_append_left _ (List.mem_map.mpr ⟨(yX7_tell, 2), (List.mem_append_right _ (List.mem_append_right _ (List.mem_append_left _ (List.mem_of_getElem? (i := 1) (by decide +kernel))))), rfl⟩)⟩
theorem my_X9_make : My yX9_make cX9_make 3 none 2 := ⟨tw_5_232, tw_1_13, by decide +kernel, by decide +kernel, by decide +kernel⟩
theorem mv_X9_make : MyV yX9_make := ⟨tw_5_231, List.mem_append_left _ (List.mem_map.mpr ⟨(yX9_make, 4), (List.mem_append_right _ (List.mem_append_right _ (List.mem_append_right _ (List.mem_append_right _ (List.mem_append_right _ (List.mem_append_left _ (List.mem_of_getElem? (i := 14) (by decide +kernel)))))))), rfl⟩)⟩
theorem my_X9_put : My yX9_put cX9_put 4 none 2 := ⟨tw_6_3, tw_1_13, by decide +kernel, by decide +kernel, by decide +kernel⟩
theorem mv_X9_put : MyV yX9_put := ⟨tw_6_2, List.mem_append_left _ (List.mem_map.mpr ⟨(yX9_put, 4), (List.mem_append_right _ (List.mem_append_right _ (List.mem_append_right _ (List.mem_append_right _ (List.mem_append_right _ (List.mem_append_left _ (List.mem_of_getElem? (i := 15) (by decide +kernel)))))))), rfl⟩)⟩
theorem my_X10_afterYear : My yX10_afterYear cX10_afterYear 5 (some .int) 2 := ⟨tw_4_188, tw_1_8, by decide +kernel, by decide +kernel, by decide +kernel⟩
theorem mv_X10_afterYear : MyV yX10_afterYear := ⟨tw_4_187, List.mem_append_left _ (List.mem_map.mpr ⟨(yX10_afterYear, 9), (List.mem_append_right _ (List.mem_append_right _ (List.mem_append_right _ (List.mem_append_left _ (List.mem_of_getElem? (i := 9) (by decide +kernel)))))), rfl⟩)⟩
theorem my_X10_afterDrawing : My yX10_afterDrawing cX10_afterDrawing 3 (some .int) 1 := ⟨tw_4_222, tw_1_8, by decide +kernel, by decide +kernel, by decide +kernel⟩
theorem mv_X10_afterDrawing : MyV yX10_afterDrawing := ⟨tw_4_221, List.mem_append_left _ (List.mem_map.mpr ⟨(yX10_afterDrawing, 9), (List.mem_append_right _ (List.mem_append_right _ (List.mem_append_right _ (List.mem_append_left _ (List.mem_of_getElem? (i := 13) (by decide +kernel)))))), rfl⟩)⟩
theorem my_J0_length_8abf5 : My yJ0_length_8abf5 cJ0_length_8abf5 1 (some .int) 0 := ⟨tw_2_206, tw_1_15, by decide +kernel, by decide +kernel, by decide +kernel⟩
theorem mv_J0_length_8abf5 : MyV yJ0_length_8abf5 := ⟨tw_2_204, tw_2_205⟩
theorem my_J0_checkIndex_df160 : My yJ0_checkIndex_df160 cJ0_checkIndex_df160 2 none 2 := ⟨tw_3_56, tw_1_15, by decide +kernel, by decide +kernel, by decide +kernel⟩
theorem mv_J0_checkIndex_df160 : Cond.static yJ0_checkIndex_df160 ∈ lw_tbl := tw_3_55
theorem my_J1_charAt_3b067 : My yJ1_charAt_3b067 cJ1_charAt_3b067 2 (some .char) 2 := ⟨tw_3_53, tw_1_16, by decide +kernel, by decide +kernel, by decide +kernel⟩
theorem mv_J1_charAt_3b067 : Cond.static yJ1_charAt_3b067 ∈ lw_tbl := tw_3_52
theorem my_J1_indexOf_4cfef : My yJ1_indexOf_4cfef cJ1_indexOf_4cfef 4 (some .int) 4 := ⟨tw_2_213, tw_1_16, by decide +kernel, by decide +kernel, by decide +kernel⟩
theorem mv_J1_indexOf_4cfef : Cond.static yJ1_indexOf_4cfef ∈ lw_tbl := tw_2_212
theorem my_X11_pledge : My yX11_pledge cX11_pledge 4 (some .int) 2 := ⟨tw_4_58, tw_1_1, by decide +kernel, by decide +kernel, by decide +kernel⟩
theorem mv_X11_pledge : MyV yX11_pledge := ⟨tw_4_56, tw_4_57⟩
theorem my_X11_redeem : My yX11_redeem cX11_redeem 3 (some .int) 1 := ⟨tw_4_66, tw_1_1, by decide +kernel, by decide +kernel, by decide +kernel⟩
theorem mv_X11_redeem : MyV yX11_redeem := ⟨tw_4_64, tw_4_65⟩
theorem my_X11_talent : My yX11_talent cX11_talent 4 (some .int) 2 := ⟨tw_4_74, tw_1_1, by decide +kernel, by decide +kernel, by decide +kernel⟩
theorem mv_X11_talent : MyV yX11_talent := ⟨tw_4_72, tw_4_73⟩
theorem my_X11_undo : My yX11_undo cX11_undo 2 (some .int) 1 := ⟨tw_4_79, tw_1_1, by decide +kernel, by decide +kernel, by decide +kernel⟩
theorem mv_X11_undo : MyV yX11_undo := ⟨tw_4_77, tw_4_78⟩
theorem my_X11_run : My yX11_run cX11_run 2 (some .int) 1 := ⟨tw_5_172, tw_1_1, by decide +kernel, by decide +kernel, by decide +kernel⟩
theorem mv_X11_run : MyV yX11_run := ⟨tw_5_170, tw_5_171⟩
theorem my_X11_rounds : My yX11_rounds cX11_rounds 2 (some .int) 1 := ⟨tw_5_198, tw_1_1, by decide +kernel, by decide +kernel, by decide +kernel⟩
theorem mv_X11_rounds : MyV yX11_rounds := ⟨tw_5_196, tw_5_197⟩
theorem my_X11_spark : My yX11_spark cX11_spark 6 (some .int) 1 := ⟨tw_5_206, tw_1_1, by decide +kernel, by decide +kernel, by decide +kernel⟩
theorem mv_X11_spark : MyV yX11_spark := ⟨tw_5_204, tw_5_205⟩
theorem my_X11_calm : My yX11_calm cX11_calm 7 (some .int) 2 := ⟨tw_5_212, tw_1_1, by decide +kernel, by decide +kernel, by decide +kernel⟩
theorem mv_X11_calm : MyV yX11_calm := ⟨tw_5_210, tw_5_211⟩
theorem my_X11_rests : My yX11_rests cX11_rests 3 (some .int) 0 := ⟨tw_5_216, tw_1_1, by decide +kernel, by decide +kernel, by decide +kernel⟩
theorem mv_X11_rests : MyV yX11_rests := ⟨tw_5_214, tw_5_215⟩
theorem my_X11_rest : My yX11_rest cX11_rest 4 (some .int) 1 := ⟨tw_5_224, tw_1_1, by decide +kernel, by decide +kernel, by decide +kernel⟩
theorem mv_X11_rest : MyV yX11_rest := ⟨tw_5_222, tw_5_223⟩
theorem my_X11_numbers : My yX11_numbers cX11_numbers 5 (some .int) 3 := ⟨tw_5_228, tw_1_1, by decide +kernel, by decide +kernel, by decide +kernel⟩
theorem mv_X11_numbers : MyV yX11_numbers := ⟨tw_5_226, tw_5_227⟩
theorem my_X11_write : My yX11_write cX11_write 6 (some .long) 3 := ⟨tw_5_239, tw_1_1, by decide +kernel, by decide +kernel, by decide +kernel⟩
theorem mv_X11_write : MyV yX11_write := ⟨tw_5_237, tw_5_238⟩
theorem my_X0_init : My yX0_init cX0_init 3 none 2 := ⟨tw_2_60, tw_1_12, by decide +kernel, by decide +kernel, by decide +kernel⟩
theorem mv_X0_init : Cond.instanceMethod yX0_init ∈ lw_tbl := tw_2_59
theorem my_X0_keptHopes : My yX0_keptHopes cX0_keptHopes 1 (some (.object "SecondLife$Memo")) 0 := ⟨tw_5_123, tw_1_12, by decide +kernel, by decide +kernel, by decide +kernel⟩
theorem mv_X0_keptHopes : MyV yX0_keptHopes := ⟨tw_5_122, List.mem_append_left _ (List.mem_map.mpr ⟨(yX0_keptHopes, 5), (List.mem_append_right _ (List.mem_append_right _ (List.mem_append_right _ (List.mem_append_right _ (List.mem_append_right _ (List.mem_append_left _ (List.mem_of_getElem? (i := 0) (by decide +kernel)))))))), rfl⟩)⟩
theorem my_X0_hopeByDrawing : My yX0_hopeByDrawing cX0_hopeByDrawing 5 (some .long) 3 := ⟨tw_5_132, tw_1_12, by decide +kernel, by decide +kernel, by decide +kernel⟩
theorem mv_X0_hopeByDrawing : MyV yX0_hopeByDrawing := ⟨tw_5_131, List.mem_append_left _ (List.mem_map.mpr ⟨(yX0_hopeByDrawing, 5), (List.mem_append_right _ (List.mem_append_right _ (List.mem_append_right _ (List.mem_append_right _ (List.mem_append_right _ (List.mem_append_left _ (List.mem_of_getElem? (i := 2) (by decide +kernel)))))))), rfl⟩)⟩
theorem my_X1_init : My yX1_init cX1_init 2 none 1 := ⟨tw_2_27, tw_1_9, by decide +kernel, by decide +kernel, by decide +kernel⟩
theorem mv_X1_init : Cond.instanceMethod yX1_init ∈ lw_tbl := tw_2_26
theorem my_X1_bestFrom : My yX1_bestFrom cX1_bestFrom 11 (some .long) 1 := ⟨tw_4_169, tw_1_9, by decide +kernel, by decide +kernel, by decide +kernel⟩
theorem mv_X1_bestFrom : MyV yX1_bestFrom := ⟨tw_4_168, List.mem_append_left _ (List.mem_map.mpr ⟨(yX1_bestFrom, 4), (List.mem_append_right _ (List.mem_append_right _ (List.mem_append_right _ (List.mem_append_left _ (List.mem_of_getElem? (i := 6) (by decide +kernel)))))), rfl⟩)⟩
theorem my_X1_after : My yX1_after cX1_after 3 (some .int) 2 := ⟨tw_5_2, tw_1_9, by decide +kernel, by decide +kernel, by decide +kernel⟩
theorem mv_X1_after : MyV yX1_after := ⟨tw_5_1, List.mem_append_left _ (List.mem_map.mpr ⟨(yX1_after, 4), (List.mem_append_right _ (List.mem_append_right _ (List.mem_append_right _ (List.mem_append_right _ (List.mem_append_left _ (List.mem_of_getElem? (i := 0) (by decide +kernel))))))), rfl⟩)⟩
theorem my_X7_worthOf : My yX7_worthOf cX7_worthOf 3 (some .int) 2 := ⟨tw_3_234, tw_1_6, by decide +kernel, by decide +kernel, by decide +kernel⟩
theorem mv_X7_worthOf : MyV yX7_worthOf := ⟨tw_3_233, List.mem_append_left _ (List.mem_map.mpr ⟨(yX7_worthOf, 2), (List.mem_append_right _ (List.mem_append_right _ (List.mem_append_left _ (List.mem_of_getElem? (i := 0) (by decide +kernel))))), rfl⟩)⟩
theorem my_X7_grownOf : My yX7_grownOf cX7_grownOf 2 (some .int) 1 := ⟨tw_4_20, tw_1_6, by decide +kernel, by decide +kernel, by decide +kernel⟩
theorem mv_X7_grownOf : MyV yX7_grownOf := ⟨tw_4_19, List.mem_append_left _ (List.mem_map.mpr ⟨(yX7_grownOf, 2), (List.mem_append_right _ (List.mem_append_right _ (List.mem_append_left _ (List.mem_of_getElem? (i := 3) (by decide +kernel))))), rfl⟩)⟩
theorem my_X10_about : My yX10_about cX10_about 7 none 3 := ⟨tw_4_156, tw_1_8, by decide +kernel, by decide +kernel, by decide +kernel⟩
theorem mv_X10_about : MyV yX10_about := ⟨tw_4_155, List.mem_append_left _ (List.mem_map.mpr ⟨(yX10_about, 9), (List.mem_append_right _ (List.mem_append_right _ (List.mem_append_right _ (List.mem_append_left _ (List.mem_of_getElem? (i := 4) (by decide +kernel)))))), rfl⟩)⟩
theorem my_X10_worthOf : My yX10_worthOf cX10_worthOf 7 (some .int) 2 := ⟨tw_4_203, tw_1_8, by decide +kernel, by decide +kernel, by decide +kernel⟩
theorem mv_X10_worthOf : MyV yX10_worthOf := ⟨tw_4_202, List.mem_append_left _ (List.mem_map.mpr ⟨(yX10_worthOf, 9), (List.mem_append_right _ (List.mem_append_right _ (List.mem_append_right _ (List.mem_append_left _ (List.mem_of_getElem? (i := 10) (by decide +kernel)))))), rfl⟩)⟩
theorem my_J0_charAt_5068e : My yJ0_charAt_5068e cJ0_charAt_5068e 2 (some .char) 1 := ⟨tw_3_50, tw_1_15, by decide +kernel, by decide +kernel, by decide +kernel⟩
theorem mv_J0_charAt_5068e : MyV yJ0_charAt_5068e := ⟨tw_3_48, tw_3_49⟩
theorem my_J0_indexOf_7cf53 : My yJ0_indexOf_7cf53 cJ0_indexOf_7cf53 3 (some .int) 2 := ⟨tw_2_196, tw_1_15, by decide +kernel, by decide +kernel, by decide +kernel⟩
theorem mv_J0_indexOf_7cf53 : MyV yJ0_indexOf_7cf53 := ⟨tw_2_194, tw_2_195⟩
theorem my_X11_init : My yX11_init cX11_init 2 none 0 := ⟨tw_1_27, tw_1_1, by decide +kernel, by decide +kernel, by decide +kernel⟩
theorem mv_X11_init : Cond.instanceMethod yX11_init ∈ lw_tbl := tw_1_26
theorem my_X11_worth : My yX11_worth cX11_worth 3 (some .int) 2 := ⟨tw_3_221, tw_1_1, by decide +kernel, by decide +kernel, by decide +kernel⟩
theorem mv_X11_worth : MyV yX11_worth := ⟨tw_3_219, tw_3_220⟩
theorem my_X11_grown : My yX11_grown cX11_grown 2 (some .int) 1 := ⟨tw_4_16, tw_1_1, by decide +kernel, by decide +kernel, by decide +kernel⟩
theorem mv_X11_grown : MyV yX11_grown := ⟨tw_4_14, tw_4_15⟩
theorem my_X11_courses : My yX11_courses cX11_courses 2 (some .long) 1 := ⟨tw_5_15, tw_1_1, by decide +kernel, by decide +kernel, by decide +kernel⟩
theorem mv_X11_courses : MyV yX11_courses := ⟨tw_5_13, tw_5_14⟩
theorem my_X11_mostAlike : My yX11_mostAlike cX11_mostAlike 7 (some .int) 3 := ⟨tw_5_166, tw_1_1, by decide +kernel, by decide +kernel, by decide +kernel⟩
theorem mv_X11_mostAlike : MyV yX11_mostAlike := ⟨tw_5_165, List.mem_append_left _ (List.mem_map.mpr ⟨(yX11_mostAlike, 16), (List.mem_append_right _ (List.mem_append_right _ (List.mem_append_right _ (List.mem_append_right _ (List.mem_append_right _ (List.mem_append_left _ (List.mem_of_getElem? (i := 7) (by decide +kernel)))))))), rfl⟩)⟩
theorem my_X12_keyAt : My yX12_keyAt cX12_keyAt 4 (some .int) 0 := ⟨tw_6_180, tw_1_14, by decide +kernel, by decide +kernel, by decide +kernel⟩
theorem mv_X12_keyAt : MyV yX12_keyAt := ⟨tw_6_179, List.mem_append_left _ (List.mem_map.mpr ⟨(yX12_keyAt, 36), (List.mem_append_right _ (List.mem_append_right _ (List.mem_append_right _ (List.mem_append_right _ (List.mem_append_right _ (List.mem_append_right _ (List.mem_append_left _ (List.mem_of_getElem? (i := 5) (by decide +kernel))))))))), rfl⟩)⟩
theorem my_X12_next : My yX12_next cX12_next 2 none 0 := ⟨tw_6_169, tw_1_14, by decide +kernel, by decide +kernel, by decide +kernel⟩
theorem mv_X12_next : MyV yX12_next := ⟨tw_6_168, List.mem_append_left _ (List.mem_map.mpr ⟨(yX12_next, 36), (List.mem_append_right _ (List.mem_append_right _ (List.mem_append_right _ (List.mem_append_right _ (List.mem_append_right _ (List.mem_append_right _ (List.mem_append_left _ (List.mem_of_getElem? (i := 3) (by decide +kernel))))))))), rfl⟩)⟩
theorem my_X12_eats : My yX12_eats cX12_eats 2 (some .boolean) 1 := ⟨tw_6_191, tw_1_14, by decide +kernel, by decide +kernel, by decide +kernel⟩
theorem mv_X12_eats : MyV yX12_eats := ⟨tw_6_190, List.mem_append_left _ (List.mem_map.mpr ⟨(yX12_eats, 36), (List.mem_append_right _ (List.mem_append_right _ (List.mem_append_right _ (List.mem_append_right _ (List.mem_append_right _ (List.mem_append_right _ (List.mem_append_left _ (List.mem_of_getElem? (i := 6) (by decide +kernel))))))))), rfl⟩)⟩
theorem my_X12_takes : My yX12_takes cX12_takes 4 (some .int) 2 := ⟨tw_6_203, tw_1_14, by decide +kernel, by decide +kernel, by decide +kernel⟩
theorem mv_X12_takes : MyV yX12_takes := ⟨tw_6_202, List.mem_append_left _ (List.mem_map.mpr ⟨(yX12_takes, 36), (List.mem_append_right _ (List.mem_append_right _ (List.mem_append_right _ (List.mem_append_right _ (List.mem_append_right _ (List.mem_append_right _ (List.mem_append_left _ (List.mem_of_getElem? (i := 9) (by decide +kernel))))))))), rfl⟩)⟩
theorem my_X12_goesIn : My yX12_goesIn cX12_goesIn 2 (some .boolean) 1 := ⟨tw_7_9, tw_1_14, by decide +kernel, by decide +kernel, by decide +kernel⟩
theorem mv_X12_goesIn : MyV yX12_goesIn := ⟨tw_7_8, List.mem_append_left _ (List.mem_map.mpr ⟨(yX12_goesIn, 36), (List.mem_append_right _ (List.mem_append_right _ (List.mem_append_right _ (List.mem_append_right _ (List.mem_append_right _ (List.mem_append_right _ (List.mem_append_right _ (List.mem_append_left _ (List.mem_of_getElem? (i := 4) (by decide +kernel)))))))))), rfl⟩)⟩
theorem my_X12_readSum : My yX12_readSum cX12_readSum 3 none 1 := ⟨tw_6_227, tw_1_14, by decide +kernel, by decide +kernel, by decide +kernel⟩
theorem mv_X12_readSum : MyV yX12_readSum := ⟨tw_6_226, List.mem_append_left _ (List.mem_map.mpr ⟨(yX12_readSum, 36), (List.mem_append_right _ (List.mem_append_right _ (List.mem_append_right _ (List.mem_append_right _ (List.mem_append_right _ (List.mem_append_right _ (List.mem_append_left _ (List.mem_of_getElem? (i := 15) (by decide +kernel))))))))), rfl⟩)⟩
theorem my_X12_readTruth : My yX12_readTruth cX12_readTruth 2 none 1 := ⟨tw_7_17, tw_1_14, by decide +kernel, by decide +kernel, by decide +kernel⟩
theorem mv_X12_readTruth : MyV yX12_readTruth := ⟨tw_7_16, List.mem_append_left _ (List.mem_map.mpr ⟨(yX12_readTruth, 36), (List.mem_append_right _ (List.mem_append_right _ (List.mem_append_right _ (List.mem_append_right _ (List.mem_append_right _ (List.mem_append_right _ (List.mem_append_right _ (List.mem_append_left _ (List.mem_of_getElem? (i := 6) (by decide +kernel)))))))))), rfl⟩)⟩
theorem my_X12_readAtom : My yX12_readAtom cX12_readAtom 2 none 1 := ⟨tw_6_235, tw_1_14, by decide +kernel, by decide +kernel, by decide +kernel⟩
theorem mv_X12_readAtom : MyV yX12_readAtom := ⟨tw_6_234, List.mem_append_left _ (List.mem_map.mpr ⟨(yX12_readAtom, 36), (List.mem_append_right _ (List.mem_append_right _ (List.mem_append_right _ (List.mem_append_right _ (List.mem_append_right _ (List.mem_append_right _ (List.mem_append_right _ (List.mem_append_left _ (List.mem_of_getElem? (i := 1) (by decide +kernel)))))))))), rfl⟩)⟩
theorem my_X12_readTerm : My yX12_readTerm cX12_readTerm 2 none 1 := ⟨tw_6_231, tw_1_14, by decide +kernel, by decide +kernel, by decide +kernel⟩
theorem mv_X12_readTerm : MyV yX12_readTerm := ⟨tw_6_230, List.mem_append_left _ (List.mem_map.mpr ⟨(yX12_readTerm, 36), (List.mem_append_right _ (List.mem_append_right _ (List.mem_append_right _ (List.mem_append_right _ (List.mem_append_right _ (List.mem_append_right _ (List.mem_append_right _ (List.mem_append_left _ (List.mem_of_getElem? (i := 0) (by decide +kernel)))))))))), rfl⟩)⟩
theorem my_X12_readUnit : My yX12_readUnit cX12_readUnit 3 none 1 := ⟨tw_7_25, tw_1_14, by decide +kernel, by decide +kernel, by decide +kernel⟩
theorem mv_X12_readUnit : MyV yX12_readUnit := ⟨tw_7_24, List.mem_append_left _ (List.mem_map.mpr ⟨(yX12_readUnit, 36), (List.mem_append_right _ (List.mem_append_right _ (List.mem_append_right _ (List.mem_append_right _ (List.mem_append_right _ (List.mem_append_right _ (List.mem_append_right _ (List.mem_append_left _ (List.mem_of_getElem? (i := 8) (by decide +kernel)))))))))), rfl⟩)⟩
theorem my_X12_readBoth : My yX12_readBoth cX12_readBoth 2 none 1 := ⟨tw_7_21, tw_1_14, by decide +kernel, by decide +kernel, by decide +kernel⟩
theorem mv_X12_readBoth : MyV yX12_readBoth := ⟨tw_7_20, List.mem_append_left _ (List.mem_map.mpr ⟨(yX12_readBoth, 36), (List.mem_append_right _ (List.mem_append_right _ (List.mem_append_right _ (List.mem_append_right _ (List.mem_append_right _ (List.mem_append_right _ (List.mem_append_right _ (List.mem_append_left _ (List.mem_of_getElem? (i := 7) (by decide +kernel)))))))))), rfl⟩)⟩
theorem my_X12_readFlag : My yX12_readFlag cX12_readFlag 2 (some .boolean) 1 := ⟨tw_6_219, tw_1_14, by decide +kernel, by decide +kernel, by decide +kernel⟩
theorem mv_X12_readFlag : MyV yX12_readFlag := ⟨tw_6_218, List.mem_append_left _ (List.mem_map.mpr ⟨(yX12_readFlag, 36), (List.mem_append_right _ (List.mem_append_right _ (List.mem_append_right _ (List.mem_append_right _ (List.mem_append_right _ (List.mem_append_right _ (List.mem_append_left _ (List.mem_of_getElem? (i := 13) (by decide +kernel))))))))), rfl⟩)⟩
theorem my_X12_readPerson : My yX12_readPerson cX12_readPerson 2 none 0 := ⟨tw_6_215, tw_1_14, by decide +kernel, by decide +kernel, by decide +kernel⟩
theorem mv_X12_readPerson : MyV yX12_readPerson := ⟨tw_6_214, List.mem_append_left _ (List.mem_map.mpr ⟨(yX12_readPerson, 36), (List.mem_append_right _ (List.mem_append_right _ (List.mem_append_right _ (List.mem_append_right _ (List.mem_append_right _ (List.mem_append_right _ (List.mem_append_left _ (List.mem_of_getElem? (i := 12) (by decide +kernel))))))))), rfl⟩)⟩
theorem my_X12_readLaw : My yX12_readLaw cX12_readLaw 3 none 1 := ⟨tw_6_223, tw_1_14, by decide +kernel, by decide +kernel, by decide +kernel⟩
theorem mv_X12_readLaw : MyV yX12_readLaw := ⟨tw_6_222, List.mem_append_left _ (List.mem_map.mpr ⟨(yX12_readLaw, 36), (List.mem_append_right _ (List.mem_append_right _ (List.mem_append_right _ (List.mem_append_right _ (List.mem_append_right _ (List.mem_append_right _ (List.mem_append_left _ (List.mem_of_getElem? (i := 14) (by decide +kernel))))))))), rfl⟩)⟩
theorem my_X12_readLine : My yX12_readLine cX12_readLine 1 none 0 := ⟨tw_6_211, tw_1_14, by decide +kernel, by decide +kernel, by decide +kernel⟩
theorem mv_X12_readLine : MyV yX12_readLine := ⟨tw_6_210, List.mem_append_left _ (List.mem_map.mpr ⟨(yX12_readLine, 36), (List.mem_append_right _ (List.mem_append_right _ (List.mem_append_right _ (List.mem_append_right _ (List.mem_append_right _ (List.mem_append_right _ (List.mem_append_left _ (List.mem_of_getElem? (i := 11) (by decide +kernel))))))))), rfl⟩)⟩
theorem my_X12_ends : My yX12_ends cX12_ends 1 none 0 := ⟨tw_6_207, tw_1_14, by decide +kernel, by decide +kernel, by decide +kernel⟩
theorem mv_X12_ends : MyV yX12_ends := ⟨tw_6_206, List.mem_append_left _ (List.mem_map.mpr ⟨(yX12_ends, 36), (List.mem_append_right _ (List.mem_append_right _ (List.mem_append_right _ (List.mem_append_right _ (List.mem_append_right _ (List.mem_append_right _ (List.mem_append_left _ (List.mem_of_getElem? (i := 10) (by decide +kernel))))))))), rfl⟩)⟩
theorem my_X12_town : My yX12_town cX12_town 3 (some .int) 1 := ⟨tw_6_161, tw_1_14, by decide +kernel, by decide +kernel, by decide +kernel⟩
theorem mv_X12_town : MyV yX12_town := ⟨tw_6_159, tw_6_160⟩
theorem my_X0_meanFrom : My yX0_meanFrom cX0_meanFrom 8 (some .long) 1 := ⟨tw_5_49, tw_1_12, by decide +kernel, by decide +kernel, by decide +kernel⟩
theorem mv_X0_meanFrom : MyV yX0_meanFrom := ⟨tw_5_48, List.mem_append_left _ (List.mem_map.mpr ⟨(yX0_meanFrom, 5), (List.mem_append_right _ (List.mem_append_right _ (List.mem_append_right _ (List.mem_append_right _ (List.mem_append_left _ (List.mem_of_getElem? (i := 6) (by decide +kernel))))))), rfl⟩)⟩
theorem my_X0_meanDoing : My yX0_meanDoing cX0_meanDoing 6 (some .int) 0 := ⟨tw_5_94, tw_1_12, by decide +kernel, by decide +kernel, by decide +kernel⟩
theorem mv_X0_meanDoing : MyV yX0_meanDoing := ⟨tw_5_93, List.mem_append_left _ (List.mem_map.mpr ⟨(yX0_meanDoing, 5), (List.mem_append_right _ (List.mem_append_right _ (List.mem_append_right _ (List.mem_append_right _ (List.mem_append_left _ (List.mem_of_getElem? (i := 11) (by decide +kernel))))))), rfl⟩)⟩
theorem my_X0_drawingIsBest : My yX0_drawingIsBest cX0_drawingIsBest 2 (some .boolean) 0 := ⟨tw_5_102, tw_1_12, by decide +kernel, by decide +kernel, by decide +kernel⟩
theorem mv_X0_drawingIsBest : MyV yX0_drawingIsBest := ⟨tw_5_101, List.mem_append_left _ (List.mem_map.mpr ⟨(yX0_drawingIsBest, 5), (List.mem_append_right _ (List.mem_append_right _ (List.mem_append_right _ (List.mem_append_right _ (List.mem_append_left _ (List.mem_of_getElem? (i := 12) (by decide +kernel))))))), rfl⟩)⟩
theorem my_X0_hopeFrom : My yX0_hopeFrom cX0_hopeFrom 11 (some .long) 2 := ⟨tw_5_115, tw_1_12, by decide +kernel, by decide +kernel, by decide +kernel⟩
theorem mv_X0_hopeFrom : MyV yX0_hopeFrom := ⟨tw_5_114, List.mem_append_left _ (List.mem_map.mpr ⟨(yX0_hopeFrom, 5), (List.mem_append_right _ (List.mem_append_right _ (List.mem_append_right _ (List.mem_append_right _ (List.mem_append_left _ (List.mem_of_getElem? (i := 14) (by decide +kernel))))))), rfl⟩)⟩
theorem my_X1_doingAt : My yX1_doingAt cX1_doingAt 5 (some .int) 1 := ⟨tw_4_235, tw_1_9, by decide +kernel, by decide +kernel, by decide +kernel⟩
theorem mv_X1_doingAt : MyV yX1_doingAt := ⟨tw_4_234, List.mem_append_left _ (List.mem_map.mpr ⟨(yX1_doingAt, 4), (List.mem_append_right _ (List.mem_append_right _ (List.mem_append_right _ (List.mem_append_left _ (List.mem_of_getElem? (i := 15) (by decide +kernel)))))), rfl⟩)⟩
theorem my_X1_drawingYear : My yX1_drawingYear cX1_drawingYear 4 (some .int) 0 := ⟨tw_5_10, tw_1_9, by decide +kernel, by decide +kernel, by decide +kernel⟩
theorem mv_X1_drawingYear : MyV yX1_drawingYear := ⟨tw_5_9, List.mem_append_left _ (List.mem_map.mpr ⟨(yX1_drawingYear, 4), (List.mem_append_right _ (List.mem_append_right _ (List.mem_append_right _ (List.mem_append_right _ (List.mem_append_left _ (List.mem_of_getElem? (i := 1) (by decide +kernel))))))), rfl⟩)⟩
theorem my_X1_listInto : My yX1_listInto cX1_listInto 7 (some .int) 2 := ⟨tw_6_15, tw_1_9, by decide +kernel, by decide +kernel, by decide +kernel⟩
theorem mv_X1_listInto : MyV yX1_listInto := ⟨tw_6_14, List.mem_append_left _ (List.mem_map.mpr ⟨(yX1_listInto, 4), (List.mem_append_right _ (List.mem_append_right _ (List.mem_append_right _ (List.mem_append_right _ (List.mem_append_right _ (List.mem_append_right _ (List.mem_append_left _ (List.mem_of_getElem? (i := 1) (by decide +kernel))))))))), rfl⟩)⟩
theorem my_X1_fewestFor : My yX1_fewestFor cX1_fewestFor 9 (some .int) 1 := ⟨tw_5_33, tw_1_9, by decide +kernel, by decide +kernel, by decide +kernel⟩
theorem mv_X1_fewestFor : MyV yX1_fewestFor := ⟨tw_5_32, List.mem_append_left _ (List.mem_map.mpr ⟨(yX1_fewestFor, 4), (List.mem_append_right _ (List.mem_append_right _ (List.mem_append_right _ (List.mem_append_right _ (List.mem_append_left _ (List.mem_of_getElem? (i := 4) (by decide +kernel))))))), rfl⟩)⟩
theorem my_X2_lives : My yX2_lives cX2_lives 10 (some .int) 4 := ⟨tw_4_33, tw_1_7, by decide +kernel, by decide +kernel, by decide +kernel⟩
theorem mv_X2_lives : MyV yX2_lives := ⟨tw_4_32, List.mem_append_left _ (List.mem_map.mpr ⟨(yX2_lives, 3), (List.mem_append_right _ (List.mem_append_right _ (List.mem_append_left _ (List.mem_of_getElem? (i := 5) (by decide +kernel))))), rfl⟩)⟩
theorem my_X2_draws : My yX2_draws cX2_draws 5 (some .int) 3 := ⟨tw_4_53, tw_1_7, by decide +kernel, by decide +kernel, by decide +kernel⟩
theorem mv_X2_draws : MyV yX2_draws := ⟨tw_4_52, List.mem_append_left _ (List.mem_map.mpr ⟨(yX2_draws, 3), (List.mem_append_right _ (List.mem_append_right _ (List.mem_append_left _ (List.mem_of_getElem? (i := 7) (by decide +kernel))))), rfl⟩)⟩
theorem my_X2_doTold : My yX2_doTold cX2_doTold 5 (some .int) 3 := ⟨tw_4_106, tw_1_7, by decide +kernel, by decide +kernel, by decide +kernel⟩
theorem mv_X2_doTold : MyV yX2_doTold := ⟨tw_4_105, List.mem_append_left _ (List.mem_map.mpr ⟨(yX2_doTold, 3), (List.mem_append_right _ (List.mem_append_right _ (List.mem_append_left _ (List.mem_of_getElem? (i := 14) (by decide +kernel))))), rfl⟩)⟩
theorem my_X2_doAll : My yX2_doAll cX2_doAll 5 (some .int) 3 := ⟨tw_4_98, tw_1_7, by decide +kernel, by decide +kernel, by decide +kernel⟩
theorem mv_X2_doAll : MyV yX2_doAll := ⟨tw_4_97, List.mem_append_left _ (List.mem_map.mpr ⟨(yX2_doAll, 3), (List.mem_append_right _ (List.mem_append_right _ (List.mem_append_left _ (List.mem_of_getElem? (i := 12) (by decide +kernel))))), rfl⟩)⟩
theorem my_X2_doDrawn : My yX2_doDrawn cX2_doDrawn 5 (some .int) 2 := ⟨tw_4_143, tw_1_7, by decide +kernel, by decide +kernel, by decide +kernel⟩
theorem mv_X2_doDrawn : MyV yX2_doDrawn := ⟨tw_4_142, List.mem_append_left _ (List.mem_map.mpr ⟨(yX2_doDrawn, 3), (List.mem_append_right _ (List.mem_append_right _ (List.mem_append_right _ (List.mem_append_left _ (List.mem_of_getElem? (i := 2) (by decide +kernel)))))), rfl⟩)⟩
theorem my_X6_is : My yX6_is cX6_is 3 (some .boolean) 1 := ⟨tw_3_45, tw_1_2, by decide +kernel, by decide +kernel, by decide +kernel⟩
theorem mv_X6_is : MyV yX6_is := ⟨tw_3_44, List.mem_append_left _ (List.mem_map.mpr ⟨(yX6_is, 12), (List.mem_append_left _ (List.mem_of_getElem? (i := 6) (by decide +kernel))), rfl⟩)⟩
theorem my_J0_indexOf_0f7a4 : My yJ0_indexOf_0f7a4 cJ0_indexOf_0f7a4 2 (some .int) 1 := ⟨tw_2_192, tw_1_15, by decide +kernel, by decide +kernel, by decide +kernel⟩
theorem mv_J0_indexOf_0f7a4 : MyV yJ0_indexOf_0f7a4 := ⟨tw_2_190, tw_2_191⟩
theorem my_X11_live : My yX11_live cX11_live 4 (some .int) 2 := ⟨tw_4_24, tw_1_1, by decide +kernel, by decide +kernel, by decide +kernel⟩
theorem mv_X11_live : MyV yX11_live := ⟨tw_4_22, tw_4_23⟩
theorem my_X11_draw : My yX11_draw cX11_draw 3 (some .int) 1 := ⟨tw_4_49, tw_1_1, by decide +kernel, by decide +kernel, by decide +kernel⟩
theorem mv_X11_draw : MyV yX11_draw := ⟨tw_4_47, tw_4_48⟩
theorem my_X11_judge : My yX11_judge cX11_judge 5 (some .int) 2 := ⟨tw_4_90, tw_1_1, by decide +kernel, by decide +kernel, by decide +kernel⟩
theorem mv_X11_judge : MyV yX11_judge := ⟨tw_4_88, tw_4_89⟩
theorem my_X11_perform : My yX11_perform cX11_perform 4 (some .int) 1 := ⟨tw_4_131, tw_1_1, by decide +kernel, by decide +kernel, by decide +kernel⟩
theorem mv_X11_perform : MyV yX11_perform := ⟨tw_4_129, tw_4_130⟩
theorem my_X11_course : My yX11_course cX11_course 3 (some .int) 2 := ⟨tw_4_231, tw_1_1, by decide +kernel, by decide +kernel, by decide +kernel⟩
theorem mv_X11_course : MyV yX11_course := ⟨tw_4_229, tw_4_230⟩
theorem my_X11_drawsAt : My yX11_drawsAt cX11_drawsAt 2 (some .int) 1 := ⟨tw_5_6, tw_1_1, by decide +kernel, by decide +kernel, by decide +kernel⟩
theorem mv_X11_drawsAt : MyV yX11_drawsAt := ⟨tw_5_4, tw_5_5⟩
theorem my_X11_soonest : My yX11_soonest cX11_soonest 3 (some .int) 2 := ⟨tw_5_29, tw_1_1, by decide +kernel, by decide +kernel, by decide +kernel⟩
theorem mv_X11_soonest : MyV yX11_soonest := ⟨tw_5_27, tw_5_28⟩
theorem my_X11_mean : My yX11_mean cX11_mean 3 (some .long) 2 := ⟨tw_5_45, tw_1_1, by decide +kernel, by decide +kernel, by decide +kernel⟩
theorem mv_X11_mean : MyV yX11_mean := ⟨tw_5_43, tw_5_44⟩
theorem my_X11_choice : My yX11_choice cX11_choice 2 (some .int) 1 := ⟨tw_5_90, tw_1_1, by decide +kernel, by decide +kernel, by decide +kernel⟩
theorem mv_X11_choice : MyV yX11_choice := ⟨tw_5_88, tw_5_89⟩
theorem my_X11_drawing : My yX11_drawing cX11_drawing 2 (some .int) 1 := ⟨tw_5_98, tw_1_1, by decide +kernel, by decide +kernel, by decide +kernel⟩
theorem mv_X11_drawing : MyV yX11_drawing := ⟨tw_5_96, tw_5_97⟩
theorem my_X11_lists : My yX11_lists cX11_lists 4 (some .int) 2 := ⟨tw_6_11, tw_1_1, by decide +kernel, by decide +kernel, by decide +kernel⟩
theorem mv_X11_lists : MyV yX11_lists := ⟨tw_6_9, tw_6_10⟩
theorem my_X11_fittingTalents : My yX11_fittingTalents cX11_fittingTalents 7 (some .int) 3 := ⟨tw_5_158, tw_1_1, by decide +kernel, by decide +kernel, by decide +kernel⟩
theorem mv_X11_fittingTalents : MyV yX11_fittingTalents := ⟨tw_5_157, List.mem_append_left _ (List.mem_map.mpr ⟨(yX11_fittingTalents, 16), (List.mem_append_right _ (List.mem_append_right _ (List.mem_append_right _ (List.mem_append_right _ (List.mem_append_right _ (List.mem_append_left _ (List.mem_of_getElem? (i := 6) (by decide +kernel)))))))), rfl⟩)⟩
theorem my_X0_hopeNow : My yX0_hopeNow cX0_hopeNow 2 (some .long) 1 := ⟨tw_5_110, tw_1_12, by decide +kernel, by decide +kernel, by decide +kernel⟩
theorem mv_X0_hopeNow : MyV yX0_hopeNow := ⟨tw_5_109, List.mem_append_left _ (List.mem_map.mpr ⟨(yX0_hopeNow, 5), (List.mem_append_right _ (List.mem_append_right _ (List.mem_append_right _ (List.mem_append_right _ (List.mem_append_left _ (List.mem_of_getElem? (i := 13) (by decide +kernel))))))), rfl⟩)⟩
theorem my_X0_hopeDoing : My yX0_hopeDoing cX0_hopeDoing 7 (some .int) 1 := ⟨tw_5_144, tw_1_12, by decide +kernel, by decide +kernel, by decide +kernel⟩
theorem mv_X0_hopeDoing : MyV yX0_hopeDoing := ⟨tw_5_143, List.mem_append_left _ (List.mem_map.mpr ⟨(yX0_hopeDoing, 5), (List.mem_append_right _ (List.mem_append_right _ (List.mem_append_right _ (List.mem_append_right _ (List.mem_append_right _ (List.mem_append_left _ (List.mem_of_getElem? (i := 4) (by decide +kernel)))))))), rfl⟩)⟩
theorem my_X1_mostFrom : My yX1_mostFrom cX1_mostFrom 2 (some .int) 1 := ⟨tw_4_165, tw_1_9, by decide +kernel, by decide +kernel, by decide +kernel⟩
theorem mv_X1_mostFrom : MyV yX1_mostFrom := ⟨tw_4_164, List.mem_append_left _ (List.mem_map.mpr ⟨(yX1_mostFrom, 4), (List.mem_append_right _ (List.mem_append_right _ (List.mem_append_right _ (List.mem_append_left _ (List.mem_of_getElem? (i := 5) (by decide +kernel)))))), rfl⟩)⟩
theorem my_X2_doSeason : My yX2_doSeason cX2_doSeason 7 (some .int) 4 := ⟨tw_4_139, tw_1_7, by decide +kernel, by decide +kernel, by decide +kernel⟩
theorem mv_X2_doSeason : MyV yX2_doSeason := ⟨tw_4_138, List.mem_append_left _ (List.mem_map.mpr ⟨(yX2_doSeason, 3), (List.mem_append_right _ (List.mem_append_right _ (List.mem_append_right _ (List.mem_append_left _ (List.mem_of_getElem? (i := 1) (by decide +kernel)))))), rfl⟩)⟩
theorem my_X6_factTold : My yX6_factTold cX6_factTold 1 (some .int) 0 := ⟨tw_3_155, tw_1_2, by decide +kernel, by decide +kernel, by decide +kernel⟩
theorem mv_X6_factTold : MyV yX6_factTold := ⟨tw_3_154, List.mem_append_left _ (List.mem_map.mpr ⟨(yX6_factTold, 12), (List.mem_append_right _ (List.mem_append_left _ (List.mem_of_getElem? (i := 6) (by decide +kernel)))), rfl⟩)⟩
theorem my_X6_next : My yX6_next cX6_next 2 none 0 := ⟨tw_2_174, tw_1_2, by decide +kernel, by decide +kernel, by decide +kernel⟩
theorem mv_X6_next : MyV yX6_next := ⟨tw_2_173, List.mem_append_left _ (List.mem_map.mpr ⟨(yX6_next, 12), (List.mem_append_left _ (List.mem_of_getElem? (i := 2) (by decide +kernel))), rfl⟩)⟩
theorem my_X11_season : My yX11_season cX11_season 4 (some .int) 2 := ⟨tw_4_135, tw_1_1, by decide +kernel, by decide +kernel, by decide +kernel⟩
theorem mv_X11_season : MyV yX11_season := ⟨tw_4_133, tw_4_134⟩
theorem my_X11_best : My yX11_best cX11_best 2 (some .int) 1 := ⟨tw_4_152, tw_1_1, by decide +kernel, by decide +kernel, by decide +kernel⟩
theorem mv_X11_best : MyV yX11_best := ⟨tw_4_150, tw_4_151⟩
theorem my_X11_hope : My yX11_hope cX11_hope 4 (some .long) 3 := ⟨tw_5_106, tw_1_1, by decide +kernel, by decide +kernel, by decide +kernel⟩
theorem mv_X11_hope : MyV yX11_hope := ⟨tw_5_104, tw_5_105⟩
theorem my_X11_hoping : My yX11_hoping cX11_hoping 3 (some .int) 2 := ⟨tw_5_140, tw_1_1, by decide +kernel, by decide +kernel, by decide +kernel⟩
theorem mv_X11_hoping : MyV yX11_hoping := ⟨tw_5_138, tw_5_139⟩
theorem my_X11_talents : My yX11_talents cX11_talents 5 (some .int) 3 := ⟨tw_5_149, tw_1_1, by decide +kernel, by decide +kernel, by decide +kernel⟩
theorem mv_X11_talents : MyV yX11_talents := ⟨tw_5_147, tw_5_148⟩
theorem my_X11_attempt : My yX11_attempt cX11_attempt 10 (some .int) 3 := ⟨tw_5_162, tw_1_1, by decide +kernel, by decide +kernel, by decide +kernel⟩
theorem mv_X11_attempt : MyV yX11_attempt := ⟨tw_5_160, tw_5_161⟩
theorem my_X6_readTerm : My yX6_readTerm cX6_readTerm 4 (some .boolean) 1 := ⟨tw_3_113, tw_1_2, by decide +kernel, by decide +kernel, by decide +kernel⟩
theorem mv_X6_readTerm : MyV yX6_readTerm := ⟨tw_3_112, List.mem_append_left _ (List.mem_map.mpr ⟨(yX6_readTerm, 12), (List.mem_append_left _ (List.mem_of_getElem? (i := 15) (by decide +kernel))), rfl⟩)⟩
theorem my_X6_readAtom : My yX6_readAtom cX6_readAtom 3 (some .boolean) 1 := ⟨tw_3_117, tw_1_2, by decide +kernel, by decide +kernel, by decide +kernel⟩
theorem mv_X6_readAtom : MyV yX6_readAtom := ⟨tw_3_116, List.mem_append_left _ (List.mem_map.mpr ⟨(yX6_readAtom, 12), (List.mem_append_right _ (List.mem_append_left _ (List.mem_of_getElem? (i := 0) (by decide +kernel)))), rfl⟩)⟩
theorem my_X6_deeper : My yX6_deeper cX6_deeper 2 (some .boolean) 1 := ⟨tw_3_126, tw_1_2, by decide +kernel, by decide +kernel, by decide +kernel⟩
theorem mv_X6_deeper : MyV yX6_deeper := ⟨tw_3_125, List.mem_append_left _ (List.mem_map.mpr ⟨(yX6_deeper, 12), (List.mem_append_right _ (List.mem_append_left _ (List.mem_of_getElem? (i := 2) (by decide +kernel)))), rfl⟩)⟩
theorem my_X6_take : My yX6_take cX6_take 2 (some .boolean) 1 := ⟨tw_3_41, tw_1_2, by decide +kernel, by decide +kernel, by decide +kernel⟩
theorem mv_X6_take : MyV yX6_take := ⟨tw_3_40, List.mem_append_left _ (List.mem_map.mpr ⟨(yX6_take, 12), (List.mem_append_left _ (List.mem_of_getElem? (i := 5) (by decide +kernel))), rfl⟩)⟩
theorem my_X6_takeNumber : My yX6_takeNumber cX6_takeNumber 4 (some .int) 2 := ⟨tw_3_75, tw_1_2, by decide +kernel, by decide +kernel, by decide +kernel⟩
theorem mv_X6_takeNumber : MyV yX6_takeNumber := ⟨tw_3_74, List.mem_append_left _ (List.mem_map.mpr ⟨(yX6_takeNumber, 12), (List.mem_append_left _ (List.mem_of_getElem? (i := 8) (by decide +kernel))), rfl⟩)⟩
theorem my_X6_endLine : My yX6_endLine cX6_endLine 1 (some .boolean) 0 := ⟨tw_3_80, tw_1_2, by decide +kernel, by decide +kernel, by decide +kernel⟩
theorem mv_X6_endLine : MyV yX6_endLine := ⟨tw_3_79, List.mem_append_left _ (List.mem_map.mpr ⟨(yX6_endLine, 12), (List.mem_append_left _ (List.mem_of_getElem? (i := 9) (by decide +kernel))), rfl⟩)⟩
theorem my_X6_readPerson : My yX6_readPerson cX6_readPerson 6 (some .boolean) 0 := ⟨tw_3_90, tw_1_2, by decide +kernel, by decide +kernel, by decide +kernel⟩
theorem mv_X6_readPerson : MyV yX6_readPerson := ⟨tw_3_89, List.mem_append_left _ (List.mem_map.mpr ⟨(yX6_readPerson, 12), (List.mem_append_left _ (List.mem_of_getElem? (i := 11) (by decide +kernel))), rfl⟩)⟩
theorem my_X6_readTruth : My yX6_readTruth cX6_readTruth 4 (some .boolean) 1 := ⟨tw_3_132, tw_1_2, by decide +kernel, by decide +kernel, by decide +kernel⟩
theorem mv_X6_readTruth : MyV yX6_readTruth := ⟨tw_3_131, List.mem_append_left _ (List.mem_map.mpr ⟨(yX6_readTruth, 12), (List.mem_append_right _ (List.mem_append_left _ (List.mem_of_getElem? (i := 3) (by decide +kernel)))), rfl⟩)⟩
theorem my_X6_readSum : My yX6_readSum cX6_readSum 5 (some .boolean) 1 := ⟨tw_3_109, tw_1_2, by decide +kernel, by decide +kernel, by decide +kernel⟩
theorem mv_X6_readSum : MyV yX6_readSum := ⟨tw_3_108, List.mem_append_left _ (List.mem_map.mpr ⟨(yX6_readSum, 12), (List.mem_append_left _ (List.mem_of_getElem? (i := 14) (by decide +kernel))), rfl⟩)⟩
theorem my_X6_readBoth : My yX6_readBoth cX6_readBoth 4 (some .boolean) 1 := ⟨tw_3_136, tw_1_2, by decide +kernel, by decide +kernel, by decide +kernel⟩
theorem mv_X6_readBoth : MyV yX6_readBoth := ⟨tw_3_135, List.mem_append_left _ (List.mem_map.mpr ⟨(yX6_readBoth, 12), (List.mem_append_right _ (List.mem_append_left _ (List.mem_of_getElem? (i := 4) (by decide +kernel)))), rfl⟩)⟩
theorem my_X6_readUnit : My yX6_readUnit cX6_readUnit 4 (some .boolean) 1 := ⟨tw_3_140, tw_1_2, by decide +kernel, by decide +kernel, by decide +kernel⟩
theorem mv_X6_readUnit : MyV yX6_readUnit := ⟨tw_3_139, List.mem_append_left _ (List.mem_map.mpr ⟨(yX6_readUnit, 12), (List.mem_append_right _ (List.mem_append_left _ (List.mem_of_getElem? (i := 5) (by decide +kernel)))), rfl⟩)⟩
theorem my_X6_readHead : My yX6_readHead cX6_readHead 1 (some .boolean) 0 := ⟨tw_3_36, tw_1_2, by decide +kernel, by decide +kernel, by decide +kernel⟩
theorem mv_X6_readHead : MyV yX6_readHead := ⟨tw_3_35, List.mem_append_left _ (List.mem_map.mpr ⟨(yX6_readHead, 12), (List.mem_append_left _ (List.mem_of_getElem? (i := 4) (by decide +kernel))), rfl⟩)⟩
theorem my_X6_readLaw : My yX6_readLaw cX6_readLaw 3 (some .boolean) 1 := ⟨tw_3_104, tw_1_2, by decide +kernel, by decide +kernel, by decide +kernel⟩
theorem mv_X6_readLaw : MyV yX6_readLaw := ⟨tw_3_103, List.mem_append_left _ (List.mem_map.mpr ⟨(yX6_readLaw, 12), (List.mem_append_left _ (List.mem_of_getElem? (i := 13) (by decide +kernel))), rfl⟩)⟩
theorem my_X6_readLine : My yX6_readLine cX6_readLine 1 (some .boolean) 0 := ⟨tw_3_85, tw_1_2, by decide +kernel, by decide +kernel, by decide +kernel⟩
theorem mv_X6_readLine : MyV yX6_readLine := ⟨tw_3_84, List.mem_append_left _ (List.mem_map.mpr ⟨(yX6_readLine, 12), (List.mem_append_left _ (List.mem_of_getElem? (i := 10) (by decide +kernel))), rfl⟩)⟩
theorem my_X6_read : My yX6_read cX6_read 5 (some (.object "SecondLife$Town")) 2 := ⟨tw_2_170, tw_1_2, by decide +kernel, by decide +kernel, by decide +kernel⟩
theorem mv_X6_read : MyV yX6_read := ⟨tw_2_169, List.mem_append_left _ (List.mem_map.mpr ⟨(yX6_read, 12), (List.mem_append_left _ (List.mem_of_getElem? (i := 1) (by decide +kernel))), rfl⟩)⟩
theorem my_X11_town : My yX11_town cX11_town 3 (some .int) 1 := ⟨tw_2_166, tw_1_1, by decide +kernel, by decide +kernel, by decide +kernel⟩
theorem mv_X11_town : MyV yX11_town := ⟨tw_2_164, tw_2_165⟩
theorem fd_0_0 : vwCl[0]? = some (RX0, TX0, 5) ∧ 0 < 13 ∧ 0 < 5 ∧ 0 < nf 0 ∧ rb 0 0 = true := ⟨rfl, by decide, by decide, by decide, rfl⟩
theorem fd_0_1 : vwCl[0]? = some (RX0, TX0, 5) ∧ 0 < 13 ∧ 1 < 5 ∧ 1 < nf 0 ∧ rb 0 1 = true := ⟨rfl, by decide, by decide, by decide, rfl⟩
theorem fd_0_2 : vwCl[0]? = some (RX0, TX0, 5) ∧ 0 < 13 ∧ 2 < 5 ∧ 2 < nf 0 ∧ rb 0 2 = true := ⟨rfl, by decide, by decide, by decide, rfl⟩
theorem fd_0_3 : vwCl[0]? = some (RX0, TX0, 5) ∧ 0 < 13 ∧ 3 < 5 ∧ 3 < nf 0 ∧ rb 0 3 = true := ⟨rfl, by decide, by decide, by decide, rfl⟩
theorem fd_0_4 : vwCl[0]? = some (RX0, TX0, 5) ∧ 0 < 13 ∧ 4 < 5 ∧ 4 < nf 0 ∧ rb 0 4 = true := ⟨rfl, by decide, by decide, by decide, rfl⟩
theorem fd_1_0 : vwCl[1]? = some (RX1, TX1, 4) ∧ 1 < 13 ∧ 0 < 4 ∧ 0 < nf 1 ∧ rb 1 0 = true := ⟨rfl, by decide, by decide, by decide, rfl⟩
theorem fd_1_1 : vwCl[1]? = some (RX1, TX1, 4) ∧ 1 < 13 ∧ 1 < 4 ∧ 1 < nf 1 ∧ rb 1 1 = true := ⟨rfl, by decide, by decide, by decide, rfl⟩
theorem fd_1_2 : vwCl[1]? = some (RX1, TX1, 4) ∧ 1 < 13 ∧ 2 < 4 ∧ 2 < nf 1 ∧ rb 1 2 = true := ⟨rfl, by decide, by decide, by decide, rfl⟩
theorem fd_1_3 : vwCl[1]? = some (RX1, TX1, 4) ∧ 1 < 13 ∧ 3 < 4 ∧ 3 < nf 1 ∧ rb 1 3 = true := ⟨rfl, by decide, by decide, by decide, rfl⟩
theorem fd_2_0 : vwCl[2]? = some (RX2, TX2, 3) ∧ 2 < 13 ∧ 0 < 3 ∧ 0 < nf 2 ∧ rb 2 0 = true := ⟨rfl, by decide, by decide, by decide, rfl⟩
theorem fd_2_1 : vwCl[2]? = some (RX2, TX2, 3) ∧ 2 < 13 ∧ 1 < 3 ∧ 1 < nf 2 ∧ rb 2 1 = false := ⟨rfl, by decide, by decide, by decide, rfl⟩
theorem fd_2_2 : vwCl[2]? = some (RX2, TX2, 3) ∧ 2 < 13 ∧ 2 < 3 ∧ 2 < nf 2 ∧ rb 2 2 = false := ⟨rfl, by decide, by decide, by decide, rfl⟩
theorem fd_3_0 : vwCl[3]? = some (RX3, TX3, 1) ∧ 3 < 13 ∧ 0 < 1 ∧ 0 < nf 3 ∧ rb 3 0 = true := ⟨rfl, by decide, by decide, by decide, rfl⟩
theorem fd_4_0 : vwCl[4]? = some (RX4, TX4, 3) ∧ 4 < 13 ∧ 0 < 3 ∧ 0 < nf 4 ∧ rb 4 0 = true := ⟨rfl, by decide, by decide, by decide, rfl⟩
theorem fd_4_1 : vwCl[4]? = some (RX4, TX4, 3) ∧ 4 < 13 ∧ 1 < 3 ∧ 1 < nf 4 ∧ rb 4 1 = false := ⟨rfl, by decide, by decide, by decide, rfl⟩
theorem fd_4_2 : vwCl[4]? = some (RX4, TX4, 3) ∧ 4 < 13 ∧ 2 < 3 ∧ 2 < nf 4 ∧ rb 4 2 = false := ⟨rfl, by decide, by decide, by decide, rfl⟩
theorem fd_5_0 : vwCl[5]? = some (RX5, TX5, 3) ∧ 5 < 13 ∧ 0 < 3 ∧ 0 < nf 5 ∧ rb 5 0 = true := ⟨rfl, by decide, by decide, by decide, rfl⟩
theorem fd_5_1 : vwCl[5]? = some (RX5, TX5, 3) ∧ 5 < 13 ∧ 1 < 3 ∧ 1 < nf 5 ∧ rb 5 1 = false := ⟨rfl, by decide, by decide, by decide, rfl⟩
theorem fd_5_2 : vwCl[5]? = some (RX5, TX5, 3) ∧ 5 < 13 ∧ 2 < 3 ∧ 2 < nf 5 ∧ rb 5 2 = false := ⟨rfl, by decide, by decide, by decide, rfl⟩
theorem fd_6_0 : vwCl[6]? = some (RX6, TX6, 12) ∧ 6 < 13 ∧ 0 < 12 ∧ 0 < nf 6 ∧ rb 6 0 = false := ⟨rfl, by decide, by decide, by decide, rfl⟩
theorem fd_6_1 : vwCl[6]? = some (RX6, TX6, 12) ∧ 6 < 13 ∧ 1 < 12 ∧ 1 < nf 6 ∧ rb 6 1 = false := ⟨rfl, by decide, by decide, by decide, rfl⟩
theorem fd_6_2 : vwCl[6]? = some (RX6, TX6, 12) ∧ 6 < 13 ∧ 2 < 12 ∧ 2 < nf 6 ∧ rb 6 2 = true := ⟨rfl, by decide, by decide, by decide, rfl⟩
theorem fd_6_3 : vwCl[6]? = some (RX6, TX6, 12) ∧ 6 < 13 ∧ 3 < 12 ∧ 3 < nf 6 ∧ rb 6 3 = false := ⟨rfl, by decide, by decide, by decide, rfl⟩
theorem fd_6_4 : vwCl[6]? = some (RX6, TX6, 12) ∧ 6 < 13 ∧ 4 < 12 ∧ 4 < nf 6 ∧ rb 6 4 = false := ⟨rfl, by decide, by decide, by decide, rfl⟩
theorem fd_6_5 : vwCl[6]? = some (RX6, TX6, 12) ∧ 6 < 13 ∧ 5 < 12 ∧ 5 < nf 6 ∧ rb 6 5 = false := ⟨rfl, by decide, by decide, by decide, rfl⟩
theorem fd_6_6 : vwCl[6]? = some (RX6, TX6, 12) ∧ 6 < 13 ∧ 6 < 12 ∧ 6 < nf 6 ∧ rb 6 6 = false := ⟨rfl, by decide, by decide, by decide, rfl⟩
theorem fd_6_7 : vwCl[6]? = some (RX6, TX6, 12) ∧ 6 < 13 ∧ 7 < 12 ∧ 7 < nf 6 ∧ rb 6 7 = false := ⟨rfl, by decide, by decide, by decide, rfl⟩
theorem fd_6_8 : vwCl[6]? = some (RX6, TX6, 12) ∧ 6 < 13 ∧ 8 < 12 ∧ 8 < nf 6 ∧ rb 6 8 = true := ⟨rfl, by decide, by decide, by decide, rfl⟩
theorem fd_6_9 : vwCl[6]? = some (RX6, TX6, 12) ∧ 6 < 13 ∧ 9 < 12 ∧ 9 < nf 6 ∧ rb 6 9 = false := ⟨rfl, by decide, by decide, by decide, rfl⟩
theorem fd_6_10 : vwCl[6]? = some (RX6, TX6, 12) ∧ 6 < 13 ∧ 10 < 12 ∧ 10 < nf 6 ∧ rb 6 10 = true := ⟨rfl, by decide, by decide, by decide, rfl⟩
theorem fd_6_11 : vwCl[6]? = some (RX6, TX6, 12) ∧ 6 < 13 ∧ 11 < 12 ∧ 11 < nf 6 ∧ rb 6 11 = false := ⟨rfl, by decide, by decide, by decide, rfl⟩
theorem fd_7_0 : vwCl[7]? = some (RX7, TX7, 2) ∧ 7 < 13 ∧ 0 < 2 ∧ 0 < nf 7 ∧ rb 7 0 = true := ⟨rfl, by decide, by decide, by decide, rfl⟩
theorem fd_7_1 : vwCl[7]? = some (RX7, TX7, 2) ∧ 7 < 13 ∧ 1 < 2 ∧ 1 < nf 7 ∧ rb 7 1 = true := ⟨rfl, by decide, by decide, by decide, rfl⟩
theorem fd_8_0 : vwCl[8]? = some (RX8, TX8, 10) ∧ 8 < 13 ∧ 0 < 10 ∧ 0 < nf 8 ∧ rb 8 0 = false := ⟨rfl, by decide, by decide, by decide, rfl⟩
theorem fd_8_1 : vwCl[8]? = some (RX8, TX8, 10) ∧ 8 < 13 ∧ 1 < 10 ∧ 1 < nf 8 ∧ rb 8 1 = false := ⟨rfl, by decide, by decide, by decide, rfl⟩
theorem fd_8_2 : vwCl[8]? = some (RX8, TX8, 10) ∧ 8 < 13 ∧ 2 < 10 ∧ 2 < nf 8 ∧ rb 8 2 = false := ⟨rfl, by decide, by decide, by decide, rfl⟩
theorem fd_8_3 : vwCl[8]? = some (RX8, TX8, 10) ∧ 8 < 13 ∧ 3 < 10 ∧ 3 < nf 8 ∧ rb 8 3 = false := ⟨rfl, by decide, by decide, by decide, rfl⟩
theorem fd_8_4 : vwCl[8]? = some (RX8, TX8, 10) ∧ 8 < 13 ∧ 4 < 10 ∧ 4 < nf 8 ∧ rb 8 4 = false := ⟨rfl, by decide, by decide, by decide, rfl⟩
theorem fd_8_5 : vwCl[8]? = some (RX8, TX8, 10) ∧ 8 < 13 ∧ 5 < 10 ∧ 5 < nf 8 ∧ rb 8 5 = false := ⟨rfl, by decide, by decide, by decide, rfl⟩
theorem fd_8_6 : vwCl[8]? = some (RX8, TX8, 10) ∧ 8 < 13 ∧ 6 < 10 ∧ 6 < nf 8 ∧ rb 8 6 = true := ⟨rfl, by decide, by decide, by decide, rfl⟩
theorem fd_8_7 : vwCl[8]? = some (RX8, TX8, 10) ∧ 8 < 13 ∧ 7 < 10 ∧ 7 < nf 8 ∧ rb 8 7 = true := ⟨rfl, by decide, by decide, by decide, rfl⟩
theorem fd_8_8 : vwCl[8]? = some (RX8, TX8, 10) ∧ 8 < 13 ∧ 8 < 10 ∧ 8 < nf 8 ∧ rb 8 8 = true := ⟨rfl, by decide, by decide, by decide, rfl⟩
theorem fd_8_9 : vwCl[8]? = some (RX8, TX8, 10) ∧ 8 < 13 ∧ 9 < 10 ∧ 9 < nf 8 ∧ rb 8 9 = true := ⟨rfl, by decide, by decide, by decide, rfl⟩
theorem fd_9_0 : vwCl[9]? = some (RX9, TX9, 4) ∧ 9 < 13 ∧ 0 < 4 ∧ 0 < nf 9 ∧ rb 9 0 = true := ⟨rfl, by decide, by decide, by decide, rfl⟩
theorem fd_9_1 : vwCl[9]? = some (RX9, TX9, 4) ∧ 9 < 13 ∧ 1 < 4 ∧ 1 < nf 9 ∧ rb 9 1 = false := ⟨rfl, by decide, by decide, by decide, rfl⟩
theorem fd_9_2 : vwCl[9]? = some (RX9, TX9, 4) ∧ 9 < 13 ∧ 2 < 4 ∧ 2 < nf 9 ∧ rb 9 2 = false := ⟨rfl, by decide, by decide, by decide, rfl⟩
theorem fd_9_3 : vwCl[9]? = some (RX9, TX9, 4) ∧ 9 < 13 ∧ 3 < 4 ∧ 3 < nf 9 ∧ rb 9 3 = false := ⟨rfl, by decide, by decide, by decide, rfl⟩
theorem fd_10_0 : vwCl[10]? = some (RX10, TX10, 9) ∧ 10 < 13 ∧ 0 < 9 ∧ 0 < nf 10 ∧ rb 10 0 = true := ⟨rfl, by decide, by decide, by decide, rfl⟩
theorem fd_10_1 : vwCl[10]? = some (RX10, TX10, 9) ∧ 10 < 13 ∧ 1 < 9 ∧ 1 < nf 10 ∧ rb 10 1 = true := ⟨rfl, by decide, by decide, by decide, rfl⟩
theorem fd_10_2 : vwCl[10]? = some (RX10, TX10, 9) ∧ 10 < 13 ∧ 2 < 9 ∧ 2 < nf 10 ∧ rb 10 2 = true := ⟨rfl, by decide, by decide, by decide, rfl⟩
theorem fd_10_3 : vwCl[10]? = some (RX10, TX10, 9) ∧ 10 < 13 ∧ 3 < 9 ∧ 3 < nf 10 ∧ rb 10 3 = true := ⟨rfl, by decide, by decide, by decide, rfl⟩
theorem fd_10_4 : vwCl[10]? = some (RX10, TX10, 9) ∧ 10 < 13 ∧ 4 < 9 ∧ 4 < nf 10 ∧ rb 10 4 = false := ⟨rfl, by decide, by decide, by decide, rfl⟩
theorem fd_10_5 : vwCl[10]? = some (RX10, TX10, 9) ∧ 10 < 13 ∧ 5 < 9 ∧ 5 < nf 10 ∧ rb 10 5 = false := ⟨rfl, by decide, by decide, by decide, rfl⟩
theorem fd_10_6 : vwCl[10]? = some (RX10, TX10, 9) ∧ 10 < 13 ∧ 6 < 9 ∧ 6 < nf 10 ∧ rb 10 6 = false := ⟨rfl, by decide, by decide, by decide, rfl⟩
theorem fd_10_7 : vwCl[10]? = some (RX10, TX10, 9) ∧ 10 < 13 ∧ 7 < 9 ∧ 7 < nf 10 ∧ rb 10 7 = false := ⟨rfl, by decide, by decide, by decide, rfl⟩
theorem fd_10_8 : vwCl[10]? = some (RX10, TX10, 9) ∧ 10 < 13 ∧ 8 < 9 ∧ 8 < nf 10 ∧ rb 10 8 = false := ⟨rfl, by decide, by decide, by decide, rfl⟩
theorem fd_11_0 : vwCl[11]? = some (RX11, TX11, 16) ∧ 11 < 13 ∧ 0 < 16 ∧ 0 < nf 11 ∧ rb 11 0 = true := ⟨rfl, by decide, by decide, by decide, rfl⟩
theorem fd_11_1 : vwCl[11]? = some (RX11, TX11, 16) ∧ 11 < 13 ∧ 1 < 16 ∧ 1 < nf 11 ∧ rb 11 1 = false := ⟨rfl, by decide, by decide, by decide, rfl⟩
theorem fd_11_2 : vwCl[11]? = some (RX11, TX11, 16) ∧ 11 < 13 ∧ 2 < 16 ∧ 2 < nf 11 ∧ rb 11 2 = true := ⟨rfl, by decide, by decide, by decide, rfl⟩
theorem fd_11_3 : vwCl[11]? = some (RX11, TX11, 16) ∧ 11 < 13 ∧ 3 < 16 ∧ 3 < nf 11 ∧ rb 11 3 = true := ⟨rfl, by decide, by decide, by decide, rfl⟩
theorem fd_11_4 : vwCl[11]? = some (RX11, TX11, 16) ∧ 11 < 13 ∧ 4 < 16 ∧ 4 < nf 11 ∧ rb 11 4 = true := ⟨rfl, by decide, by decide, by decide, rfl⟩
theorem fd_11_5 : vwCl[11]? = some (RX11, TX11, 16) ∧ 11 < 13 ∧ 5 < 16 ∧ 5 < nf 11 ∧ rb 11 5 = true := ⟨rfl, by decide, by decide, by decide, rfl⟩
theorem fd_11_6 : vwCl[11]? = some (RX11, TX11, 16) ∧ 11 < 13 ∧ 6 < 16 ∧ 6 < nf 11 ∧ rb 11 6 = true := ⟨rfl, by decide, by decide, by decide, rfl⟩
theorem fd_11_7 : vwCl[11]? = some (RX11, TX11, 16) ∧ 11 < 13 ∧ 7 < 16 ∧ 7 < nf 11 ∧ rb 11 7 = true := ⟨rfl, by decide, by decide, by decide, rfl⟩
theorem fd_11_8 : vwCl[11]? = some (RX11, TX11, 16) ∧ 11 < 13 ∧ 8 < 16 ∧ 8 < nf 11 ∧ rb 11 8 = true := ⟨rfl, by decide, by decide, by decide, rfl⟩
theorem fd_11_9 : vwCl[11]? = some (RX11, TX11, 16) ∧ 11 < 13 ∧ 9 < 16 ∧ 9 < nf 11 ∧ rb 11 9 = true := ⟨rfl, by decide, by decide, by decide, rfl⟩
theorem fd_11_10 : vwCl[11]? = some (RX11, TX11, 16) ∧ 11 < 13 ∧ 10 < 16 ∧ 10 < nf 11 ∧ rb 11 10 = true := ⟨rfl, by decide, by decide, by decide, rfl⟩
theorem fd_11_11 : vwCl[11]? = some (RX11, TX11, 16) ∧ 11 < 13 ∧ 11 < 16 ∧ 11 < nf 11 ∧ rb 11 11 = true := ⟨rfl, by decide, by decide, by decide, rfl⟩
theorem fd_11_12 : vwCl[11]? = some (RX11, TX11, 16) ∧ 11 < 13 ∧ 12 < 16 ∧ 12 < nf 11 ∧ rb 11 12 = true := ⟨rfl, by decide, by decide, by decide, rfl⟩
theorem fd_11_13 : vwCl[11]? = some (RX11, TX11, 16) ∧ 11 < 13 ∧ 13 < 16 ∧ 13 < nf 11 ∧ rb 11 13 = true := ⟨rfl, by decide, by decide, by decide, rfl⟩
theorem fd_11_14 : vwCl[11]? = some (RX11, TX11, 16) ∧ 11 < 13 ∧ 14 < 16 ∧ 14 < nf 11 ∧ rb 11 14 = true := ⟨rfl, by decide, by decide, by decide, rfl⟩
theorem fd_11_15 : vwCl[11]? = some (RX11, TX11, 16) ∧ 11 < 13 ∧ 15 < 16 ∧ 15 < nf 11 ∧ rb 11 15 = true := ⟨rfl, by decide, by decide, by decide, rfl⟩
theorem fd_12_0 : vwCl[12]? = some (RX12, TX12, 36) ∧ 12 < 13 ∧ 0 < 36 ∧ 0 < nf 12 ∧ rb 12 0 = false := ⟨rfl, by decide, by decide, by decide, rfl⟩
theorem fd_12_1 : vwCl[12]? = some (RX12, TX12, 36) ∧ 12 < 13 ∧ 1 < 36 ∧ 1 < nf 12 ∧ rb 12 1 = true := ⟨rfl, by decide, by decide, by decide, rfl⟩
theorem fd_12_2 : vwCl[12]? = some (RX12, TX12, 36) ∧ 12 < 13 ∧ 2 < 36 ∧ 2 < nf 12 ∧ rb 12 2 = true := ⟨rfl, by decide, by decide, by decide, rfl⟩
theorem fd_12_3 : vwCl[12]? = some (RX12, TX12, 36) ∧ 12 < 13 ∧ 3 < 36 ∧ 3 < nf 12 ∧ rb 12 3 = true := ⟨rfl, by decide, by decide, by decide, rfl⟩
theorem fd_12_4 : vwCl[12]? = some (RX12, TX12, 36) ∧ 12 < 13 ∧ 4 < 36 ∧ 4 < nf 12 ∧ rb 12 4 = true := ⟨rfl, by decide, by decide, by decide, rfl⟩
theorem fd_12_5 : vwCl[12]? = some (RX12, TX12, 36) ∧ 12 < 13 ∧ 5 < 36 ∧ 5 < nf 12 ∧ rb 12 5 = false := ⟨rfl, by decide, by decide, by decide, rfl⟩
theorem fd_12_6 : vwCl[12]? = some (RX12, TX12, 36) ∧ 12 < 13 ∧ 6 < 36 ∧ 6 < nf 12 ∧ rb 12 6 = false := ⟨rfl, by decide, by decide, by decide, rfl⟩
theorem fd_12_7 : vwCl[12]? = some (RX12, TX12, 36) ∧ 12 < 13 ∧ 7 < 36 ∧ 7 < nf 12 ∧ rb 12 7 = false := ⟨rfl, by decide, by decide, by decide, rfl⟩
theorem fd_12_8 : vwCl[12]? = some (RX12, TX12, 36) ∧ 12 < 13 ∧ 8 < 36 ∧ 8 < nf 12 ∧ rb 12 8 = false := ⟨rfl, by decide, by decide, by decide, rfl⟩
theorem fd_12_9 : vwCl[12]? = some (RX12, TX12, 36) ∧ 12 < 13 ∧ 9 < 36 ∧ 9 < nf 12 ∧ rb 12 9 = false := ⟨rfl, by decide, by decide, by decide, rfl⟩
theorem fd_12_10 : vwCl[12]? = some (RX12, TX12, 36) ∧ 12 < 13 ∧ 10 < 36 ∧ 10 < nf 12 ∧ rb 12 10 = false := ⟨rfl, by decide, by decide, by decide, rfl⟩
theorem fd_12_11 : vwCl[12]? = some (RX12, TX12, 36) ∧ 12 < 13 ∧ 11 < 36 ∧ 11 < nf 12 ∧ rb 12 11 = false := ⟨rfl, by decide, by decide, by decide, rfl⟩
theorem fd_12_12 : vwCl[12]? = some (RX12, TX12, 36) ∧ 12 < 13 ∧ 12 < 36 ∧ 12 < nf 12 ∧ rb 12 12 = false := ⟨rfl, by decide, by decide, by decide, rfl⟩
theorem fd_12_13 : vwCl[12]? = some (RX12, TX12, 36) ∧ 12 < 13 ∧ 13 < 36 ∧ 13 < nf 12 ∧ rb 12 13 = false := ⟨rfl, by decide, by decide, by decide, rfl⟩
theorem fd_12_14 : vwCl[12]? = some (RX12, TX12, 36) ∧ 12 < 13 ∧ 14 < 36 ∧ 14 < nf 12 ∧ rb 12 14 = false := ⟨rfl, by decide, by decide, by decide, rfl⟩
theorem fd_12_15 : vwCl[12]? = some (RX12, TX12, 36) ∧ 12 < 13 ∧ 15 < 36 ∧ 15 < nf 12 ∧ rb 12 15 = false := ⟨rfl, by decide, by decide, by decide, rfl⟩
theorem fd_12_16 : vwCl[12]? = some (RX12, TX12, 36) ∧ 12 < 13 ∧ 16 < 36 ∧ 16 < nf 12 ∧ rb 12 16 = true := ⟨rfl, by decide, by decide, by decide, rfl⟩
theorem fd_12_17 : vwCl[12]? = some (RX12, TX12, 36) ∧ 12 < 13 ∧ 17 < 36 ∧ 17 < nf 12 ∧ rb 12 17 = true := ⟨rfl, by decide, by decide, by decide, rfl⟩
theorem fd_12_18 : vwCl[12]? = some (RX12, TX12, 36) ∧ 12 < 13 ∧ 18 < 36 ∧ 18 < nf 12 ∧ rb 12 18 = true := ⟨rfl, by decide, by decide, by decide, rfl⟩
theorem fd_12_19 : vwCl[12]? = some (RX12, TX12, 36) ∧ 12 < 13 ∧ 19 < 36 ∧ 19 < nf 12 ∧ rb 12 19 = false := ⟨rfl, by decide, by decide, by decide, rfl⟩
theorem fd_12_20 : vwCl[12]? = some (RX12, TX12, 36) ∧ 12 < 13 ∧ 20 < 36 ∧ 20 < nf 12 ∧ rb 12 20 = false := ⟨rfl, by decide, by decide, by decide, rfl⟩
theorem fd_12_21 : vwCl[12]? = some (RX12, TX12, 36) ∧ 12 < 13 ∧ 21 < 36 ∧ 21 < nf 12 ∧ rb 12 21 = true := ⟨rfl, by decide, by decide, by decide, rfl⟩
theorem fd_12_22 : vwCl[12]? = some (RX12, TX12, 36) ∧ 12 < 13 ∧ 22 < 36 ∧ 22 < nf 12 ∧ rb 12 22 = true := ⟨rfl, by decide, by decide, by decide, rfl⟩
theorem fd_12_23 : vwCl[12]? = some (RX12, TX12, 36) ∧ 12 < 13 ∧ 23 < 36 ∧ 23 < nf 12 ∧ rb 12 23 = true := ⟨rfl, by decide, by decide, by decide, rfl⟩
theorem fd_12_24 : vwCl[12]? = some (RX12, TX12, 36) ∧ 12 < 13 ∧ 24 < 36 ∧ 24 < nf 12 ∧ rb 12 24 = true := ⟨rfl, by decide, by decide, by decide, rfl⟩
theorem fd_12_25 : vwCl[12]? = some (RX12, TX12, 36) ∧ 12 < 13 ∧ 25 < 36 ∧ 25 < nf 12 ∧ rb 12 25 = false := ⟨rfl, by decide, by decide, by decide, rfl⟩
theorem fd_12_26 : vwCl[12]? = some (RX12, TX12, 36) ∧ 12 < 13 ∧ 26 < 36 ∧ 26 < nf 12 ∧ rb 12 26 = false := ⟨rfl, by decide, by decide, by decide, rfl⟩
theorem fd_12_27 : vwCl[12]? = some (RX12, TX12, 36) ∧ 12 < 13 ∧ 27 < 36 ∧ 27 < nf 12 ∧ rb 12 27 = true := ⟨rfl, by decide, by decide, by decide, rfl⟩
theorem fd_12_28 : vwCl[12]? = some (RX12, TX12, 36) ∧ 12 < 13 ∧ 28 < 36 ∧ 28 < nf 12 ∧ rb 12 28 = true := ⟨rfl, by decide, by decide, by decide, rfl⟩
theorem fd_12_29 : vwCl[12]? = some (RX12, TX12, 36) ∧ 12 < 13 ∧ 29 < 36 ∧ 29 < nf 12 ∧ rb 12 29 = true := ⟨rfl, by decide, by decide, by decide, rfl⟩
theorem fd_12_30 : vwCl[12]? = some (RX12, TX12, 36) ∧ 12 < 13 ∧ 30 < 36 ∧ 30 < nf 12 ∧ rb 12 30 = true := ⟨rfl, by decide, by decide, by decide, rfl⟩
theorem fd_12_31 : vwCl[12]? = some (RX12, TX12, 36) ∧ 12 < 13 ∧ 31 < 36 ∧ 31 < nf 12 ∧ rb 12 31 = true := ⟨rfl, by decide, by decide, by decide, rfl⟩
theorem fd_12_32 : vwCl[12]? = some (RX12, TX12, 36) ∧ 12 < 13 ∧ 32 < 36 ∧ 32 < nf 12 ∧ rb 12 32 = false := ⟨rfl, by decide, by decide, by decide, rfl⟩
theorem fd_12_33 : vwCl[12]? = some (RX12, TX12, 36) ∧ 12 < 13 ∧ 33 < 36 ∧ 33 < nf 12 ∧ rb 12 33 = true := ⟨rfl, by decide, by decide, by decide, rfl⟩
theorem fd_12_34 : vwCl[12]? = some (RX12, TX12, 36) ∧ 12 < 13 ∧ 34 < 36 ∧ 34 < nf 12 ∧ rb 12 34 = true := ⟨rfl, by decide, by decide, by decide, rfl⟩
theorem fd_12_35 : vwCl[12]? = some (RX12, TX12, 36) ∧ 12 < 13 ∧ 35 < 36 ∧ 35 < nf 12 ∧ rb 12 35 = true := ⟨rfl, by decide, by decide, by decide, rfl⟩
theorem dfX0 : ∀ j, j < 5 → defaultValue (tyX0 j) = if rb 0 j then Value.null else .int 0 := by
  intro j hj
  match j, hj with
  | 0, _ => rfl
  | 1, _ => rfl
  | 2, _ => rfl
  | 3, _ => rfl
  | 4, _ => rfl
  | k + 5, hj => omega
theorem dfX1 : ∀ j, j < 4 → defaultValue (tyX1 j) = if rb 1 j then Value.null else .int 0 := by
  intro j hj
  match j, hj with
  | 0, _ => rfl
  | 1, _ => rfl
  | 2, _ => rfl
  | 3, _ => rfl
  | k + 4, hj => omega
theorem dfX2 : ∀ j, j < 3 → defaultValue (tyX2 j) = if rb 2 j then Value.null else .int 0 := by
  intro j hj
  match j, hj with
  | 0, _ => rfl
  | 1, _ => rfl
  | 2, _ => rfl
  | k + 3, hj => omega
theorem dfX3 : ∀ j, j < 1 → defaultValue (tyX3 j) = if rb 3 j then Value.null else .int 0 := by
  intro j hj
  match j, hj with
  | 0, _ => rfl
  | k + 1, hj => omega
theorem dfX4 : ∀ j, j < 3 → defaultValue (tyX4 j) = if rb 4 j then Value.null else .int 0 := by
  intro j hj
  match j, hj with
  | 0, _ => rfl
  | 1, _ => rfl
  | 2, _ => rfl
  | k + 3, hj => omega
theorem dfX5 : ∀ j, j < 3 → defaultValue (tyX5 j) = if rb 5 j then Value.null else .int 0 := by
  intro j hj
  match j, hj with
  | 0, _ => rfl
  | 1, _ => rfl
  | 2, _ => rfl
  | k + 3, hj => omega
theorem dfX6 : ∀ j, j < 12 → defaultValue (tyX6 j) = if rb 6 j then Value.null else .int 0 := by
  intro j hj
  match j, hj with
  | 0, _ => rfl
  | 1, _ => rfl
  | 2, _ => rfl
  | 3, _ => rfl
  | 4, _ => rfl
  | 5, _ => rfl
  | 6, _ => rfl
  | 7, _ => rfl
  | 8, _ => rfl
  | 9, _ => rfl
  | 10, _ => rfl
  | 11, _ => rfl
  | k + 12, hj => omega
theorem dfX7 : ∀ j, j < 2 → defaultValue (tyX7 j) = if rb 7 j then Value.null else .int 0 := by
  intro j hj
  match j, hj with
  | 0, _ => rfl
  | 1, _ => rfl
  | k + 2, hj => omega
theorem dfX8 : ∀ j, j < 10 → defaultValue (tyX8 j) = if rb 8 j then Value.null else .int 0 := by
  intro j hj
  match j, hj with
  | 0, _ => rfl
  | 1, _ => rfl
  | 2, _ => rfl
  | 3, _ => rfl
  | 4, _ => rfl
  | 5, _ => rfl
  | 6, _ => rfl
  | 7, _ => rfl
  | 8, _ => rfl
  | 9, _ => rfl
  | k + 10, hj => omega
theorem dfX9 : ∀ j, j < 4 → defaultValue (tyX9 j) = if rb 9 j then Value.null else .int 0 := by
  intro j hj
  match j, hj with
  | 0, _ => rfl
  | 1, _ => rfl
  | 2, _ => rfl
  | 3, _ => rfl
  | k + 4, hj => omega
theorem dfX10 : ∀ j, j < 9 → defaultValue (tyX10 j) = if rb 10 j then Value.null else .int 0 := by
  intro j hj
  match j, hj with
  | 0, _ => rfl
  | 1, _ => rfl
  | 2, _ => rfl
  | 3, _ => rfl
  | 4, _ => rfl
  | 5, _ => rfl
  | 6, _ => rfl
  | 7, _ => rfl
  | 8, _ => rfl
  | k + 9, hj => omega
theorem dfX11 : ∀ j, j < 16 → defaultValue (tyX11 j) = if rb 11 j then Value.null else .int 0 := by
  intro j hj
  match j, hj with
  | 0, _ => rfl
  | 1, _ => rfl
  | 2, _ => rfl
  | 3, _ => rfl
  | 4, _ => rfl
  | 5, _ => rfl
  | 6, _ => rfl
  | 7, _ => rfl
  | 8, _ => rfl
  | 9, _ => rfl
  | 10, _ => rfl
  | 11, _ => rfl
  | 12, _ => rfl
  | 13, _ => rfl
  | 14, _ => rfl
  | 15, _ => rfl
  | k + 16, hj => omega
theorem dfX12 : ∀ j, j < 36 → defaultValue (tyX12 j) = if rb 12 j then Value.null else .int 0 := by
  intro j hj
  match j, hj with
  | 0, _ => rfl
  | 1, _ => rfl
  | 2, _ => rfl
  | 3, _ => rfl
  | 4, _ => rfl
  | 5, _ => rfl
  | 6, _ => rfl
  | 7, _ => rfl
  | 8, _ => rfl
  | 9, _ => rfl
  | 10, _ => rfl
  | 11, _ => rfl
  | 12, _ => rfl
  | 13, _ => rfl
  | 14, _ => rfl
  | 15, _ => rfl
  | 16, _ => rfl
  | 17, _ => rfl
  | 18, _ => rfl
  | 19, _ => rfl
  | 20, _ => rfl
  | 21, _ => rfl
  | 22, _ => rfl
  | 23, _ => rfl
  | 24, _ => rfl
  | 25, _ => rfl
  | 26, _ => rfl
  | 27, _ => rfl
  | 28, _ => rfl
  | 29, _ => rfl
  | 30, _ => rfl
  | 31, _ => rfl
  | 32, _ => rfl
  | 33, _ => rfl
  | 34, _ => rfl
  | 35, _ => rfl
  | k + 36, hj => omega
theorem cfn_13 (E : Ev) (z : Sh) (h : Hp) : ∀ N, cf E (z.al 13 N N) (h.nw z.sz) z.sz = .inl (E.cy 13, N, .inl (fun _ => 0)) := fun N => by rw [cf_i (al_K z 13 N N) (by decide) (by decide) (by decide), al_N, nw_I]
theorem arn_13 : ∀ (N : Nat) (cA : ClassId), vp_cell cA (N, .inl (fun _ => 0)) = arrV cA N (fun _ => defaultValue .byte) := fun _ _ => rfl
theorem cfn_14 (E : Ev) (z : Sh) (h : Hp) : ∀ N, cf E (z.al 14 N N) (h.nw z.sz) z.sz = .inl (E.cy 14, N, .inl (fun _ => 0)) := fun N => by rw [cf_i (al_K z 14 N N) (by decide) (by decide) (by decide), al_N, nw_I]
theorem arn_14 : ∀ (N : Nat) (cA : ClassId), vp_cell cA (N, .inl (fun _ => 0)) = arrV cA N (fun _ => defaultValue .int) := fun _ _ => rfl
theorem cfn_15 (E : Ev) (z : Sh) (h : Hp) : ∀ N, cf E (z.al 15 N N) (h.nw z.sz) z.sz = .inl (E.cy 15, N, .inr (.inl (fun _ => 0))) := fun N => by rw [cf_j (al_K z 15 N N), al_N, nw_J]
theorem arn_15 : ∀ (N : Nat) (cA : ClassId), vp_cell cA (N, .inr (.inl (fun _ => 0))) = arrV cA N (fun _ => defaultValue .long) := fun _ _ => rfl
theorem cfn_16 (E : Ev) (z : Sh) (h : Hp) : ∀ N, cf E (z.al 16 N N) (h.nw z.sz) z.sz = .inl (E.cy 16, N, .inl (fun _ => 0)) := fun N => by rw [cf_i (al_K z 16 N N) (by decide) (by decide) (by decide), al_N, nw_I]
theorem arn_16 : ∀ (N : Nat) (cA : ClassId), vp_cell cA (N, .inl (fun _ => 0)) = arrV cA N (fun _ => defaultValue .boolean) := fun _ _ => rfl
def ckK (z : Sh) (a ci : Nat) : Option Unit := if z.K a = ci then some () else none
theorem so3 {α β γ : Type} {a a2 : α} {b b2 : β} {c c2 : γ} (h : some (a, b, c) = some (a2, b2, c2)) : a2 = a ∧ b2 = b ∧ c2 = c := by
  cases h
  exact ⟨rfl, rfl, rfl⟩
