def gLs : List (String × Nat × String × Nat) := [(R_W, 51, "<e v=\"1\"><b>", 0), (R_W, 73, "<\x72", 1), (R_W, 75, "h", 2), (R_W, 153, "=\"", 3), (R_W, 81, "/>", 4), (R_W, 92, "<p", 5), (R_W, 94, "<a", 6), (R_W, 96, "<t", 7), (R_W, 98, "id", 8), (R_W, 100, "n", 9), (R_W, 105, "o", 10), (R_W, 147, "&lt;", 11), (R_W, 149, "&gt;", 12), (R_W, 151, "&amp;", 13), (R_W, 131, "<n/>", 14), (R_W, 133, "<i>", 15), (R_W, 141, "</i>", 16), (R_W, 118, "</p>", 17), (R_W, 120, "</a>", 18), (R_W, 122, "</t>", 19), (R_W, 64, "</b></e>", 20), (R_F, 105, "&lt;", 21), (R_F, 111, "&gt;", 22), (R_F, 113, "&amp;", 23), (R_F, 115, "&quot;", 24)]
def gTx : List (List Nat) := [[60, 101, 32, 118, 61, 34, 49, 34, 62, 60, 98, 62], [60, 114], [104], [61, 34], [47, 62], [60, 112], [60, 97], [60, 116], [105, 100], [110], [111], [38, 108, 116, 59], [38, 103, 116, 59], [38, 97, 109, 112, 59], [60, 110, 47, 62], [60, 105, 62], [60, 47, 105, 62], [60, 47, 112, 62], [60, 47, 97, 62], [60, 47, 116, 62], [60, 47, 98, 62, 60, 47, 101, 62], [38, 108, 116, 59], [38, 103, 116, 59], [38, 97, 109, 112, 59], [38, 113, 117, 111, 116, 59]]
theorem tb_0 : Cond.fieldLink R_Q 38 "java/lang/String" "COMPACT_STRINGS" "Z" ∈ gTb := gm2 (List.mem_of_getElem? (i := 214) rfl) rfl
theorem tb_1 : Cond.fieldLink R_Q 15 "java/lang/String" "coder" "B" ∈ gTb := gm5 (List.mem_of_getElem? (i := 159) rfl) rfl
theorem tb_2 : Cond.fieldLink R_Q 9 "java/lang/String" "value" "[B" ∈ gTb := gm5 (List.mem_of_getElem? (i := 158) rfl) rfl
theorem tb_3 : Cond.methodLink R_Q 335 y_Q_coder ∈ gTb := gm2 (List.mem_of_getElem? (i := 210) rfl) rfl
theorem tb_4 : Cond.instanceMethod y_Q_coder ∈ gTb := gm2 (List.mem_of_getElem? (i := 211) rfl) rfl
theorem tb_5 : Cond.selects R_Q y_Q_coder y_Q_coder ∈ gTb := gm2 (List.mem_of_getElem? (i := 212) rfl) rfl
theorem tb_6 : Cond.initialized R_Q ∈ gTb := gm1 (List.mem_of_getElem? (i := 12) rfl) rfl
theorem tb_7 : Cond.fieldLink R_Q 1053 "jdk/internal/util/Preconditions" "SIOOBE_FORMATTER" "Ljava/util/function/BiFunction;" ∈ gTb := gm2 (List.mem_of_getElem? (i := 230) rfl) rfl
theorem tb_8 : Cond.initialized R_Z ∈ gTb := gm1 (List.mem_of_getElem? (i := 14) rfl) rfl
theorem tb_9 : Cond.methodLink R_Q 1059 y_Z_checkIndex ∈ gTb := gm2 (List.mem_of_getElem? (i := 232) rfl) rfl
theorem tb_10 : Cond.static y_Z_checkIndex ∈ gTb := gm2 (List.mem_of_getElem? (i := 233) rfl) rfl
theorem tb_11 : Cond.methodLink R_Y 9 y_Q_checkIndex ∈ gTb := gm2 (List.mem_of_getElem? (i := 227) rfl) rfl
theorem tb_12 : Cond.static y_Q_checkIndex ∈ gTb := gm2 (List.mem_of_getElem? (i := 228) rfl) rfl
theorem tb_13 : Cond.methodLink R_Q 492 y_Q_isLatin1 ∈ gTb := gm2 (List.mem_of_getElem? (i := 220) rfl) rfl
theorem tb_14 : Cond.instanceMethod y_Q_isLatin1 ∈ gTb := gm2 (List.mem_of_getElem? (i := 221) rfl) rfl
theorem tb_15 : Cond.selects R_Q y_Q_isLatin1 y_Q_isLatin1 ∈ gTb := gm2 (List.mem_of_getElem? (i := 222) rfl) rfl
theorem tb_16 : Cond.initialized R_Y ∈ gTb := gm1 (List.mem_of_getElem? (i := 13) rfl) rfl
theorem tb_17 : Cond.methodLink R_Q 495 y_Y_charAt ∈ gTb := gm2 (List.mem_of_getElem? (i := 224) rfl) rfl
theorem tb_18 : Cond.static y_Y_charAt ∈ gTb := gm2 (List.mem_of_getElem? (i := 225) rfl) rfl
theorem tb_19 : Cond.fieldLink R_E 46 "GraphPages$Elements" "count" "I" ∈ gTb := gm1 (List.mem_of_getElem? (i := 151) rfl) rfl
theorem tb_20 : Cond.fieldLink R_E 50 "GraphPages$Elements" "attributeCount" "I" ∈ gTb := gm1 (List.mem_of_getElem? (i := 170) rfl) rfl
theorem tb_21 : Cond.fieldLink R_E 53 "GraphPages$Elements" "textCount" "I" ∈ gTb := gm1 (List.mem_of_getElem? (i := 177) rfl) rfl
theorem tb_22 : Cond.fieldLink R_E 11 "GraphPages$Elements" "names" "[I" ∈ gTb := gm1 (List.mem_of_getElem? (i := 154) rfl) rfl
theorem tb_23 : Cond.fieldLink R_E 15 "GraphPages$Elements" "parents" "[I" ∈ gTb := gm1 (List.mem_of_getElem? (i := 157) rfl) rfl
theorem tb_24 : Cond.fieldLink R_E 18 "GraphPages$Elements" "children" "[I" ∈ gTb := gm1 (List.mem_of_getElem? (i := 160) rfl) rfl
theorem tb_25 : Cond.fieldLink R_E 21 "GraphPages$Elements" "attributeStarts" "[I" ∈ gTb := gm1 (List.mem_of_getElem? (i := 162) rfl) rfl
theorem tb_26 : Cond.fieldLink R_E 24 "GraphPages$Elements" "attributeCounts" "[I" ∈ gTb := gm1 (List.mem_of_getElem? (i := 164) rfl) rfl
theorem tb_27 : Cond.fieldLink R_E 27 "GraphPages$Elements" "textStarts" "[I" ∈ gTb := gm1 (List.mem_of_getElem? (i := 166) rfl) rfl
theorem tb_28 : Cond.fieldLink R_E 30 "GraphPages$Elements" "textCounts" "[I" ∈ gTb := gm1 (List.mem_of_getElem? (i := 168) rfl) rfl
theorem tb_29 : Cond.fieldLink R_E 33 "GraphPages$Elements" "attributeNames" "[I" ∈ gTb := gm1 (List.mem_of_getElem? (i := 171) rfl) rfl
theorem tb_30 : Cond.fieldLink R_E 36 "GraphPages$Elements" "valueStarts" "[I" ∈ gTb := gm1 (List.mem_of_getElem? (i := 173) rfl) rfl
theorem tb_31 : Cond.fieldLink R_E 39 "GraphPages$Elements" "valueCounts" "[I" ∈ gTb := gm1 (List.mem_of_getElem? (i := 175) rfl) rfl
theorem tb_32 : Cond.fieldLink R_E 42 "GraphPages$Elements" "text" "[C" ∈ gTb := gm1 (List.mem_of_getElem? (i := 178) rfl) rfl
theorem tb_33 : Cond.fieldLink R_P 15 "GraphPages$Page" "end" "I" ∈ gTb := gm1 (List.mem_of_getElem? (i := 67) rfl) rfl
theorem tb_34 : Cond.fieldLink R_P 9 "GraphPages$Page" "characters" "[C" ∈ gTb := gm1 (List.mem_of_getElem? (i := 71) rfl) rfl
theorem tb_35 : Cond.methodLink R_F 46 y_P_codeAt ∈ gTb := gm3 (List.mem_of_getElem? (i := 96) rfl) rfl
theorem tb_36 : Cond.instanceMethod y_P_codeAt ∈ gTb := gm3 (List.mem_of_getElem? (i := 97) rfl) rfl
theorem tb_37 : Cond.selects R_P y_P_codeAt y_P_codeAt ∈ gTb := gm3 (List.mem_of_getElem? (i := 98) rfl) rfl
theorem tb_38 : Cond.initialized R_P ∈ gTb := gm1 (List.mem_of_getElem? (i := 3) rfl) rfl
theorem tb_39 : Cond.initialized R_O ∈ gTb := gm1 (List.mem_of_getElem? (i := 1) rfl) rfl
theorem tb_40 : Cond.static y_O_isLetter ∈ gTb := gm3 (List.mem_of_getElem? (i := 109) rfl) rfl
theorem tb_41 : Cond.fieldLink R_F 9 "GraphPages$FormReader" "page" "LGraphPages$Page;" ∈ gTb := gm1 (List.mem_of_getElem? (i := 215) rfl) rfl
theorem tb_42 : Cond.fieldLink R_F 24 "GraphPages$FormReader" "place" "I" ∈ gTb := gm1 (List.mem_of_getElem? (i := 217) rfl) rfl
theorem tb_43 : Cond.fieldLink R_F 34 "GraphPages$Page" "end" "I" ∈ gTb := gm1 (List.mem_of_getElem? (i := 69) rfl) rfl
theorem tb_44 : Cond.methodLink R_F 66 y_F_readName ∈ gTb := gm3 (List.mem_of_getElem? (i := 104) rfl) rfl
theorem tb_45 : Cond.instanceMethod y_F_readName ∈ gTb := gm3 (List.mem_of_getElem? (i := 106) rfl) rfl
theorem tb_46 : Cond.selects R_F y_F_readName y_F_readName ∈ gTb := gmS (by decide +kernel) rfl
theorem tb_47 : Cond.initialized R_F ∈ gTb := gm1 (List.mem_of_getElem? (i := 8) rfl) rfl
theorem tb_48 : Cond.methodLink R_F 87 y_E_findAttribute ∈ gTb := gm3 (List.mem_of_getElem? (i := 123) rfl) rfl
theorem tb_49 : Cond.instanceMethod y_E_findAttribute ∈ gTb := gm3 (List.mem_of_getElem? (i := 124) rfl) rfl
theorem tb_50 : Cond.selects R_E y_E_findAttribute y_E_findAttribute ∈ gTb := gm3 (List.mem_of_getElem? (i := 125) rfl) rfl
theorem tb_51 : Cond.initialized R_E ∈ gTb := gm1 (List.mem_of_getElem? (i := 7) rfl) rfl
theorem tb_52 : Cond.methodLink R_F 83 y_F_skip ∈ gTb := gm3 (List.mem_of_getElem? (i := 127) rfl) rfl
theorem tb_53 : Cond.instanceMethod y_F_skip ∈ gTb := gm3 (List.mem_of_getElem? (i := 129) rfl) rfl
theorem tb_54 : Cond.selects R_F y_F_skip y_F_skip ∈ gTb := gmS (by decide +kernel) rfl
theorem tb_55 : Cond.methodLink R_F 91 y_F_mayStandInValue ∈ gTb := gm3 (List.mem_of_getElem? (i := 131) rfl) rfl
theorem tb_56 : Cond.static y_F_mayStandInValue ∈ gTb := gm3 (List.mem_of_getElem? (i := 132) rfl) rfl
theorem tb_57 : Cond.methodLink R_F 94 y_E_addAttribute ∈ gTb := gm3 (List.mem_of_getElem? (i := 134) rfl) rfl
theorem tb_58 : Cond.instanceMethod y_E_addAttribute ∈ gTb := gm3 (List.mem_of_getElem? (i := 135) rfl) rfl
theorem tb_59 : Cond.selects R_E y_E_addAttribute y_E_addAttribute ∈ gTb := gm3 (List.mem_of_getElem? (i := 136) rfl) rfl
theorem tb_60 : Cond.fieldLink R_F 15 "GraphPages$FormReader" "elements" "LGraphPages$Elements;" ∈ gTb := gm1 (List.mem_of_getElem? (i := 216) rfl) rfl
theorem tb_61 : Cond.methodLink R_F 70 y_E_addElement ∈ gTb := gm3 (List.mem_of_getElem? (i := 111) rfl) rfl
theorem tb_62 : Cond.instanceMethod y_E_addElement ∈ gTb := gm3 (List.mem_of_getElem? (i := 112) rfl) rfl
theorem tb_63 : Cond.selects R_E y_E_addElement y_E_addElement ∈ gTb := gm3 (List.mem_of_getElem? (i := 113) rfl) rfl
theorem tb_64 : Cond.methodLink R_F 73 y_F_skipSpaces ∈ gTb := gm3 (List.mem_of_getElem? (i := 115) rfl) rfl
theorem tb_65 : Cond.instanceMethod y_F_skipSpaces ∈ gTb := gm3 (List.mem_of_getElem? (i := 117) rfl) rfl
theorem tb_66 : Cond.selects R_F y_F_skipSpaces y_F_skipSpaces ∈ gTb := gmS (by decide +kernel) rfl
theorem tb_67 : Cond.methodLink R_F 80 y_F_readAttribute ∈ gTb := gm3 (List.mem_of_getElem? (i := 119) rfl) rfl
theorem tb_68 : Cond.instanceMethod y_F_readAttribute ∈ gTb := gm3 (List.mem_of_getElem? (i := 121) rfl) rfl
theorem tb_69 : Cond.selects R_F y_F_readAttribute y_F_readAttribute ∈ gTb := gmS (by decide +kernel) rfl
theorem tb_70 : Cond.fieldLink R_F 31 "GraphPages$FormReader" "depth" "I" ∈ gTb := gm1 (List.mem_of_getElem? (i := 219) rfl) rfl
theorem tb_71 : Cond.fieldLink R_F 28 "GraphPages$FormReader" "open" "I" ∈ gTb := gm1 (List.mem_of_getElem? (i := 218) rfl) rfl
theorem tb_72 : Cond.fieldLink R_F 43 "GraphPages$Elements" "count" "I" ∈ gTb := gm1 (List.mem_of_getElem? (i := 152) rfl) rfl
theorem tb_73 : Cond.fieldLink R_F 98 "GraphPages$Elements" "names" "[I" ∈ gTb := gm1 (List.mem_of_getElem? (i := 156) rfl) rfl
theorem tb_74 : Cond.fieldLink R_F 102 "GraphPages$Elements" "parents" "[I" ∈ gTb := gm1 (List.mem_of_getElem? (i := 159) rfl) rfl
theorem tb_75 : Cond.static y_O_isDigit ∈ gTb := gm3 (List.mem_of_getElem? (i := 147) rfl) rfl
theorem tb_76 : Cond.static y_O_isPrintable ∈ gTb := gm2 (List.mem_of_getElem? (i := 76) rfl) rfl
theorem tb_77 : Cond.methodLink R_F 62 y_E_addText ∈ gTb := gm3 (List.mem_of_getElem? (i := 150) rfl) rfl
theorem tb_78 : Cond.instanceMethod y_E_addText ∈ gTb := gm3 (List.mem_of_getElem? (i := 151) rfl) rfl
theorem tb_79 : Cond.selects R_E y_E_addText y_E_addText ∈ gTb := gm3 (List.mem_of_getElem? (i := 152) rfl) rfl
theorem tb_80 : Cond.methodLink R_P 19 y_Q_length ∈ gTb := gm3 (List.mem_of_getElem? (i := 167) rfl) rfl
theorem tb_81 : Cond.instanceMethod y_Q_length ∈ gTb := gm2 (List.mem_of_getElem? (i := 207) rfl) rfl
theorem tb_82 : Cond.selects R_Q y_Q_length y_Q_length ∈ gTb := gm2 (List.mem_of_getElem? (i := 208) rfl) rfl
theorem tb_83 : Cond.methodLink R_P 25 y_P_codeAt ∈ gTb := gm3 (List.mem_of_getElem? (i := 168) rfl) rfl
theorem tb_84 : Cond.methodLink R_P 29 y_Q_charAt ∈ gTb := gm3 (List.mem_of_getElem? (i := 169) rfl) rfl
theorem tb_85 : Cond.instanceMethod y_Q_charAt ∈ gTb := gm2 (List.mem_of_getElem? (i := 217) rfl) rfl
theorem tb_86 : Cond.selects R_Q y_Q_charAt y_Q_charAt ∈ gTb := gm2 (List.mem_of_getElem? (i := 218) rfl) rfl
theorem tb_87 : Cond.methodLink R_F 117 y_P_showsAt ∈ gTb := gm3 (List.mem_of_getElem? (i := 163) rfl) rfl
theorem tb_88 : Cond.instanceMethod y_P_showsAt ∈ gTb := gm3 (List.mem_of_getElem? (i := 164) rfl) rfl
theorem tb_89 : Cond.selects R_P y_P_showsAt y_P_showsAt ∈ gTb := gm3 (List.mem_of_getElem? (i := 165) rfl) rfl
theorem tb_90 : Cond.methodLink R_F 121 y_Q_length ∈ gTb := gm3 (List.mem_of_getElem? (i := 170) rfl) rfl
theorem tb_91 : Cond.methodLink R_F 107 y_F_readEntityOf ∈ gTb := gm3 (List.mem_of_getElem? (i := 159) rfl) rfl
theorem tb_92 : Cond.instanceMethod y_F_readEntityOf ∈ gTb := gm3 (List.mem_of_getElem? (i := 161) rfl) rfl
theorem tb_93 : Cond.selects R_F y_F_readEntityOf y_F_readEntityOf ∈ gTb := gmS (by decide +kernel) rfl
theorem tb_94 : Cond.methodLink R_F 59 y_F_readEntity ∈ gTb := gm3 (List.mem_of_getElem? (i := 154) rfl) rfl
theorem tb_95 : Cond.instanceMethod y_F_readEntity ∈ gTb := gm3 (List.mem_of_getElem? (i := 156) rfl) rfl
theorem tb_96 : Cond.selects R_F y_F_readEntity y_F_readEntity ∈ gTb := gmS (by decide +kernel) rfl
theorem tb_97 : Cond.methodLink R_F 56 y_F_readCode ∈ gTb := gm3 (List.mem_of_getElem? (i := 142) rfl) rfl
theorem tb_98 : Cond.instanceMethod y_F_readCode ∈ gTb := gm3 (List.mem_of_getElem? (i := 144) rfl) rfl
theorem tb_99 : Cond.selects R_F y_F_readCode y_F_readCode ∈ gTb := gmS (by decide +kernel) rfl
theorem tb_100 : Cond.methodLink R_F 50 y_F_readStart ∈ gTb := gm3 (List.mem_of_getElem? (i := 100) rfl) rfl
theorem tb_101 : Cond.instanceMethod y_F_readStart ∈ gTb := gm3 (List.mem_of_getElem? (i := 102) rfl) rfl
theorem tb_102 : Cond.selects R_F y_F_readStart y_F_readStart ∈ gTb := gmS (by decide +kernel) rfl
theorem tb_103 : Cond.methodLink R_F 53 y_F_readEnd ∈ gTb := gm3 (List.mem_of_getElem? (i := 138) rfl) rfl
theorem tb_104 : Cond.instanceMethod y_F_readEnd ∈ gTb := gm3 (List.mem_of_getElem? (i := 140) rfl) rfl
theorem tb_105 : Cond.selects R_F y_F_readEnd y_F_readEnd ∈ gTb := gmS (by decide +kernel) rfl
theorem tb_106 : Cond.methodLink R_F 19 y_E_removeAll ∈ gTb := gm3 (List.mem_of_getElem? (i := 88) rfl) rfl
theorem tb_107 : Cond.instanceMethod y_E_removeAll ∈ gTb := gm3 (List.mem_of_getElem? (i := 89) rfl) rfl
theorem tb_108 : Cond.selects R_E y_E_removeAll y_E_removeAll ∈ gTb := gm3 (List.mem_of_getElem? (i := 90) rfl) rfl
theorem tb_109 : Cond.methodLink R_F 39 y_F_readPiece ∈ gTb := gm3 (List.mem_of_getElem? (i := 92) rfl) rfl
theorem tb_110 : Cond.instanceMethod y_F_readPiece ∈ gTb := gm3 (List.mem_of_getElem? (i := 94) rfl) rfl
theorem tb_111 : Cond.selects R_F y_F_readPiece y_F_readPiece ∈ gTb := gmS (by decide +kernel) rfl
theorem tb_112 : Cond.fieldLink R_G 28 "GraphPages$Graph" "count" "I" ∈ gTb := gm1 (List.mem_of_getElem? (i := 32) rfl) rfl
theorem tb_113 : Cond.methodLink R_G 32 y_G_has ∈ gTb := gm2 (List.mem_of_getElem? (i := 71) rfl) rfl
theorem tb_114 : Cond.instanceMethod y_G_has ∈ gTb := gm2 (List.mem_of_getElem? (i := 72) rfl) rfl
theorem tb_115 : Cond.selects R_G y_G_has y_G_has ∈ gTb := gm2 (List.mem_of_getElem? (i := 73) rfl) rfl
theorem tb_116 : Cond.initialized R_G ∈ gTb := gm1 (List.mem_of_getElem? (i := 2) rfl) rfl
theorem tb_117 : Cond.fieldLink R_G 9 "GraphPages$Graph" "kinds" "[I" ∈ gTb := gm1 (List.mem_of_getElem? (i := 34) rfl) rfl
theorem tb_118 : Cond.fieldLink R_G 15 "GraphPages$Graph" "sizes" "[I" ∈ gTb := gm1 (List.mem_of_getElem? (i := 38) rfl) rfl
theorem tb_119 : Cond.fieldLink R_G 18 "GraphPages$Graph" "contents" "[I" ∈ gTb := gm1 (List.mem_of_getElem? (i := 43) rfl) rfl
theorem tb_120 : Cond.fieldLink R_G 21 "GraphPages$Graph" "values" "[I" ∈ gTb := gm1 (List.mem_of_getElem? (i := 44) rfl) rfl
theorem tb_121 : Cond.methodLink R_G 40 y_G_setSlot ∈ gTb := gm2 (List.mem_of_getElem? (i := 59) rfl) rfl
theorem tb_122 : Cond.instanceMethod y_G_setSlot ∈ gTb := gm2 (List.mem_of_getElem? (i := 60) rfl) rfl
theorem tb_123 : Cond.selects R_G y_G_setSlot y_G_setSlot ∈ gTb := gm2 (List.mem_of_getElem? (i := 61) rfl) rfl
theorem tb_124 : Cond.methodLink R_G 36 y_G_lay ∈ gTb := gm2 (List.mem_of_getElem? (i := 55) rfl) rfl
theorem tb_125 : Cond.instanceMethod y_G_lay ∈ gTb := gm2 (List.mem_of_getElem? (i := 56) rfl) rfl
theorem tb_126 : Cond.selects R_G y_G_lay y_G_lay ∈ gTb := gm2 (List.mem_of_getElem? (i := 57) rfl) rfl
theorem tb_127 : Cond.fieldLink R_G 24 "GraphPages$Graph" "characters" "[C" ∈ gTb := gm1 (List.mem_of_getElem? (i := 45) rfl) rfl
theorem tb_128 : Cond.methodLink R_H 120 y_E_findAttribute ∈ gTb := gm3 (List.mem_of_getElem? (i := 182) rfl) rfl
theorem tb_129 : Cond.methodLink R_H 182 y_P_codeAt ∈ gTb := gm3 (List.mem_of_getElem? (i := 183) rfl) rfl
theorem tb_130 : Cond.fieldLink R_H 32 "GraphPages$GraphReader" "elements" "LGraphPages$Elements;" ∈ gTb := gm1 (List.mem_of_getElem? (i := 238) rfl) rfl
theorem tb_131 : Cond.fieldLink R_H 176 "GraphPages$Elements" "valueCounts" "[I" ∈ gTb := gm1 (List.mem_of_getElem? (i := 176) rfl) rfl
theorem tb_132 : Cond.fieldLink R_H 28 "GraphPages$GraphReader" "page" "LGraphPages$Page;" ∈ gTb := gm1 (List.mem_of_getElem? (i := 237) rfl) rfl
theorem tb_133 : Cond.fieldLink R_H 179 "GraphPages$Elements" "valueStarts" "[I" ∈ gTb := gm1 (List.mem_of_getElem? (i := 174) rfl) rfl
theorem tb_134 : Cond.methodLink R_H 43 y_H_isOne ∈ gTb := gm3 (List.mem_of_getElem? (i := 178) rfl) rfl
theorem tb_135 : Cond.instanceMethod y_H_isOne ∈ gTb := gm3 (List.mem_of_getElem? (i := 180) rfl) rfl
theorem tb_136 : Cond.selects R_H y_H_isOne y_H_isOne ∈ gTb := gmS (by decide +kernel) rfl
theorem tb_137 : Cond.initialized R_H ∈ gTb := gm1 (List.mem_of_getElem? (i := 9) rfl) rfl
theorem tb_138 : Cond.fieldLink R_H 40 "GraphPages$Elements" "names" "[I" ∈ gTb := gm1 (List.mem_of_getElem? (i := 155) rfl) rfl
theorem tb_139 : Cond.methodLink R_H 132 y_H_countOf ∈ gTb := gm3 (List.mem_of_getElem? (i := 192) rfl) rfl
theorem tb_140 : Cond.instanceMethod y_H_countOf ∈ gTb := gm3 (List.mem_of_getElem? (i := 194) rfl) rfl
theorem tb_141 : Cond.selects R_H y_H_countOf y_H_countOf ∈ gTb := gmS (by decide +kernel) rfl
theorem tb_142 : Cond.methodLink R_H 54 y_H_countIn ∈ gTb := gm3 (List.mem_of_getElem? (i := 188) rfl) rfl
theorem tb_143 : Cond.instanceMethod y_H_countIn ∈ gTb := gm3 (List.mem_of_getElem? (i := 190) rfl) rfl
theorem tb_144 : Cond.selects R_H y_H_countIn y_H_countIn ∈ gTb := gmS (by decide +kernel) rfl
theorem tb_145 : Cond.methodLink R_H 58 y_H_isUnderstood ∈ gTb := gm3 (List.mem_of_getElem? (i := 197) rfl) rfl
theorem tb_146 : Cond.static y_H_isUnderstood ∈ gTb := gm3 (List.mem_of_getElem? (i := 198) rfl) rfl
theorem tb_147 : Cond.fieldLink R_H 47 "GraphPages$Elements" "count" "I" ∈ gTb := gm1 (List.mem_of_getElem? (i := 153) rfl) rfl
theorem tb_148 : Cond.fieldLink R_H 51 "GraphPages$Elements" "parents" "[I" ∈ gTb := gm1 (List.mem_of_getElem? (i := 158) rfl) rfl
theorem tb_149 : Cond.fieldLink R_H 96 "GraphPages$Elements" "attributeCounts" "[I" ∈ gTb := gm1 (List.mem_of_getElem? (i := 165) rfl) rfl
theorem tb_150 : Cond.fieldLink R_H 99 "GraphPages$Elements" "textCounts" "[I" ∈ gTb := gm1 (List.mem_of_getElem? (i := 169) rfl) rfl
theorem tb_151 : Cond.fieldLink R_H 102 "GraphPages$Elements" "children" "[I" ∈ gTb := gm1 (List.mem_of_getElem? (i := 161) rfl) rfl
theorem tb_152 : Cond.methodLink R_H 135 y_H_isObject ∈ gTb := gm3 (List.mem_of_getElem? (i := 225) rfl) rfl
theorem tb_153 : Cond.instanceMethod y_H_isObject ∈ gTb := gm3 (List.mem_of_getElem? (i := 227) rfl) rfl
theorem tb_154 : Cond.selects R_H y_H_isObject y_H_isObject ∈ gTb := gmS (by decide +kernel) rfl
theorem tb_155 : Cond.methodLink R_H 129 y_H_mayBear ∈ gTb := gm3 (List.mem_of_getElem? (i := 221) rfl) rfl
theorem tb_156 : Cond.instanceMethod y_H_mayBear ∈ gTb := gm3 (List.mem_of_getElem? (i := 223) rfl) rfl
theorem tb_157 : Cond.selects R_H y_H_mayBear y_H_mayBear ∈ gTb := gmS (by decide +kernel) rfl
theorem tb_158 : Cond.fieldLink R_H 123 "GraphPages$Elements" "attributeStarts" "[I" ∈ gTb := gm1 (List.mem_of_getElem? (i := 163) rfl) rfl
theorem tb_159 : Cond.fieldLink R_H 126 "GraphPages$Elements" "attributeNames" "[I" ∈ gTb := gm1 (List.mem_of_getElem? (i := 172) rfl) rfl
theorem tb_160 : Cond.fieldLink R_H 158 "GraphPages$Elements" "textStarts" "[I" ∈ gTb := gm1 (List.mem_of_getElem? (i := 167) rfl) rfl
theorem tb_161 : Cond.fieldLink R_H 154 "GraphPages$Elements" "text" "[C" ∈ gTb := gm1 (List.mem_of_getElem? (i := 179) rfl) rfl
theorem tb_162 : Cond.constantLong R_H 118 1099511627776 ∈ gTb := gm4 (List.mem_of_getElem? (i := 1) rfl) rfl
theorem tb_163 : Cond.constantLong R_H 190 10 ∈ gTb := gm4 (List.mem_of_getElem? (i := 2) rfl) rfl
theorem tb_164 : Cond.constantLong R_H 192 48 ∈ gTb := gm4 (List.mem_of_getElem? (i := 3) rfl) rfl
theorem tb_165 : Cond.methodLink R_H 105 y_H_hasSoundAttributes ∈ gTb := gm3 (List.mem_of_getElem? (i := 217) rfl) rfl
theorem tb_166 : Cond.instanceMethod y_H_hasSoundAttributes ∈ gTb := gm3 (List.mem_of_getElem? (i := 219) rfl) rfl
theorem tb_167 : Cond.selects R_H y_H_hasSoundAttributes y_H_hasSoundAttributes ∈ gTb := gmS (by decide +kernel) rfl
theorem tb_168 : Cond.methodLink R_H 108 y_H_hasSoundSize ∈ gTb := gm3 (List.mem_of_getElem? (i := 229) rfl) rfl
theorem tb_169 : Cond.instanceMethod y_H_hasSoundSize ∈ gTb := gm3 (List.mem_of_getElem? (i := 231) rfl) rfl
theorem tb_170 : Cond.selects R_H y_H_hasSoundSize y_H_hasSoundSize ∈ gTb := gmS (by decide +kernel) rfl
theorem tb_171 : Cond.methodLink R_H 114 y_H_numberIn ∈ gTb := gm3 (List.mem_of_getElem? (i := 237) rfl) rfl
theorem tb_172 : Cond.instanceMethod y_H_numberIn ∈ gTb := gm3 (List.mem_of_getElem? (i := 239) rfl) rfl
theorem tb_173 : Cond.selects R_H y_H_numberIn y_H_numberIn ∈ gTb := gmS (by decide +kernel) rfl
theorem tb_174 : Cond.methodLink R_H 111 y_E_isEmpty ∈ gTb := gm3 (List.mem_of_getElem? (i := 233) rfl) rfl
theorem tb_175 : Cond.instanceMethod y_E_isEmpty ∈ gTb := gm3 (List.mem_of_getElem? (i := 234) rfl) rfl
theorem tb_176 : Cond.selects R_E y_E_isEmpty y_E_isEmpty ∈ gTb := gm3 (List.mem_of_getElem? (i := 235) rfl) rfl
theorem tb_177 : Cond.methodLink R_H 150 y_G_lay ∈ gTb := gm4 (List.mem_of_getElem? (i := 15) rfl) rfl
theorem tb_178 : Cond.methodLink R_H 161 y_G_addCharacter ∈ gTb := gm4 (List.mem_of_getElem? (i := 16) rfl) rfl
theorem tb_179 : Cond.instanceMethod y_G_addCharacter ∈ gTb := gm2 (List.mem_of_getElem? (i := 79) rfl) rfl
theorem tb_180 : Cond.selects R_G y_G_addCharacter y_G_addCharacter ∈ gTb := gm2 (List.mem_of_getElem? (i := 80) rfl) rfl
theorem tb_181 : Cond.fieldLink R_H 22 "GraphPages$GraphReader" "nextSlots" "[I" ∈ gTb := gm2 (List.mem_of_getElem? (i := 2) rfl) rfl
theorem tb_182 : Cond.methodLink R_H 145 y_N_max ∈ gTb := gm4 (List.mem_of_getElem? (i := 12) rfl) rfl
theorem tb_183 : Cond.static y_N_max ∈ gTb := gm4 (List.mem_of_getElem? (i := 13) rfl) rfl
theorem tb_184 : Cond.initialized R_N ∈ gTb := gm1 (List.mem_of_getElem? (i := 16) rfl) rfl
theorem tb_185 : Cond.fieldLink R_H 25 "GraphPages$GraphReader" "takenSlots" "[I" ∈ gTb := gm2 (List.mem_of_getElem? (i := 3) rfl) rfl
theorem tb_186 : Cond.fieldLink R_H 36 "GraphPages$GraphReader" "graph" "LGraphPages$Graph;" ∈ gTb := gm1 (List.mem_of_getElem? (i := 239) rfl) rfl
theorem tb_187 : Cond.fieldLink R_H 19 "GraphPages$GraphReader" "objectsOfIds" "[I" ∈ gTb := gm2 (List.mem_of_getElem? (i := 1) rfl) rfl
theorem tb_188 : Cond.fieldLink R_H 15 "GraphPages$GraphReader" "objectsOfElements" "[I" ∈ gTb := gm2 (List.mem_of_getElem? (i := 0) rfl) rfl
theorem tb_189 : Cond.methodLink R_H 138 y_H_layObject ∈ gTb := gm4 (List.mem_of_getElem? (i := 8) rfl) rfl
theorem tb_190 : Cond.instanceMethod y_H_layObject ∈ gTb := gm4 (List.mem_of_getElem? (i := 10) rfl) rfl
theorem tb_191 : Cond.selects R_H y_H_layObject y_H_layObject ∈ gTb := gmS (by decide +kernel) rfl
theorem tb_192 : Cond.methodLink R_H 142 y_H_keepId ∈ gTb := gm4 (List.mem_of_getElem? (i := 17) rfl) rfl
theorem tb_193 : Cond.instanceMethod y_H_keepId ∈ gTb := gm4 (List.mem_of_getElem? (i := 19) rfl) rfl
theorem tb_194 : Cond.selects R_H y_H_keepId y_H_keepId ∈ gTb := gmS (by decide +kernel) rfl
theorem tb_195 : Cond.fieldLink R_H 79 "GraphPages$GraphReader" "count" "I" ∈ gTb := gm2 (List.mem_of_getElem? (i := 4) rfl) rfl
theorem tb_196 : Cond.methodLink R_H 92 y_H_referredBy ∈ gTb := gm4 (List.mem_of_getElem? (i := 25) rfl) rfl
theorem tb_197 : Cond.instanceMethod y_H_referredBy ∈ gTb := gm4 (List.mem_of_getElem? (i := 27) rfl) rfl
theorem tb_198 : Cond.selects R_H y_H_referredBy y_H_referredBy ∈ gTb := gmS (by decide +kernel) rfl
theorem tb_199 : Cond.methodLink R_H 172 y_G_setSlot ∈ gTb := gm4 (List.mem_of_getElem? (i := 37) rfl) rfl
theorem tb_200 : Cond.methodLink R_H 168 y_H_holdElement ∈ gTb := gm4 (List.mem_of_getElem? (i := 33) rfl) rfl
theorem tb_201 : Cond.instanceMethod y_H_holdElement ∈ gTb := gm4 (List.mem_of_getElem? (i := 35) rfl) rfl
theorem tb_202 : Cond.selects R_H y_H_holdElement y_H_holdElement ∈ gTb := gmS (by decide +kernel) rfl
theorem tb_203 : Cond.fieldLink R_H 165 "GraphPages$Graph" "sizes" "[I" ∈ gTb := gm1 (List.mem_of_getElem? (i := 42) rfl) rfl
theorem tb_204 : Cond.methodLink R_H 62 y_H_findBody ∈ gTb := gm3 (List.mem_of_getElem? (i := 204) rfl) rfl
theorem tb_205 : Cond.instanceMethod y_H_findBody ∈ gTb := gm3 (List.mem_of_getElem? (i := 206) rfl) rfl
theorem tb_206 : Cond.selects R_H y_H_findBody y_H_findBody ∈ gTb := gmS (by decide +kernel) rfl
theorem tb_207 : Cond.methodLink R_H 66 y_H_isSoundBody ∈ gTb := gm3 (List.mem_of_getElem? (i := 208) rfl) rfl
theorem tb_208 : Cond.instanceMethod y_H_isSoundBody ∈ gTb := gm3 (List.mem_of_getElem? (i := 210) rfl) rfl
theorem tb_209 : Cond.selects R_H y_H_isSoundBody y_H_isSoundBody ∈ gTb := gmS (by decide +kernel) rfl
theorem tb_210 : Cond.methodLink R_H 80 y_H_isSound ∈ gTb := gm3 (List.mem_of_getElem? (i := 213) rfl) rfl
theorem tb_211 : Cond.instanceMethod y_H_isSound ∈ gTb := gm3 (List.mem_of_getElem? (i := 215) rfl) rfl
theorem tb_212 : Cond.selects R_H y_H_isSound y_H_isSound ∈ gTb := gmS (by decide +kernel) rfl
theorem tb_213 : Cond.methodLink R_H 83 y_H_numberObject ∈ gTb := gm4 (List.mem_of_getElem? (i := 4) rfl) rfl
theorem tb_214 : Cond.instanceMethod y_H_numberObject ∈ gTb := gm4 (List.mem_of_getElem? (i := 6) rfl) rfl
theorem tb_215 : Cond.selects R_H y_H_numberObject y_H_numberObject ∈ gTb := gmS (by decide +kernel) rfl
theorem tb_216 : Cond.methodLink R_H 89 y_H_fillSlot ∈ gTb := gm4 (List.mem_of_getElem? (i := 29) rfl) rfl
theorem tb_217 : Cond.instanceMethod y_H_fillSlot ∈ gTb := gm4 (List.mem_of_getElem? (i := 31) rfl) rfl
theorem tb_218 : Cond.selects R_H y_H_fillSlot y_H_fillSlot ∈ gTb := gmS (by decide +kernel) rfl
theorem tb_219 : Cond.methodLink R_H 86 y_H_mayStandInBody ∈ gTb := gm4 (List.mem_of_getElem? (i := 21) rfl) rfl
theorem tb_220 : Cond.instanceMethod y_H_mayStandInBody ∈ gTb := gm4 (List.mem_of_getElem? (i := 23) rfl) rfl
theorem tb_221 : Cond.selects R_H y_H_mayStandInBody y_H_mayStandInBody ∈ gTb := gmS (by decide +kernel) rfl
theorem tb_222 : Cond.initialized R_J ∈ gTb := gm1 (List.mem_of_getElem? (i := 11) rfl) rfl
theorem tb_223 : Cond.methodLink R_H 70 y_J_fill ∈ gTb := gm3 (List.mem_of_getElem? (i := 212) rfl) rfl
theorem tb_224 : Cond.static y_J_fill ∈ gTb := gm2 (List.mem_of_getElem? (i := 137) rfl) rfl
theorem tb_225 : Cond.fieldLink R_H 76 "GraphPages$Graph" "count" "I" ∈ gTb := gm1 (List.mem_of_getElem? (i := 33) rfl) rfl
theorem tb_226 : Cond.fieldLink R_A 9 "GraphPages$Matching" "partners" "[I" ∈ gTb := gm1 (List.mem_of_getElem? (i := 105) rfl) rfl
theorem tb_227 : Cond.fieldLink R_A 15 "GraphPages$Matching" "partnersBack" "[I" ∈ gTb := gm1 (List.mem_of_getElem? (i := 106) rfl) rfl
theorem tb_228 : Cond.fieldLink R_A 18 "GraphPages$Matching" "order" "[I" ∈ gTb := gm1 (List.mem_of_getElem? (i := 107) rfl) rfl
theorem tb_229 : Cond.fieldLink R_A 31 "GraphPages$Matching" "count" "I" ∈ gTb := gm1 (List.mem_of_getElem? (i := 108) rfl) rfl
theorem tb_230 : Cond.methodLink R_A 60 y_G_characterOf ∈ gTb := gm2 (List.mem_of_getElem? (i := 152) rfl) rfl
theorem tb_231 : Cond.instanceMethod y_G_characterOf ∈ gTb := gm2 (List.mem_of_getElem? (i := 125) rfl) rfl
theorem tb_232 : Cond.selects R_G y_G_characterOf y_G_characterOf ∈ gTb := gm2 (List.mem_of_getElem? (i := 126) rfl) rfl
theorem tb_233 : Cond.fieldLink R_A 21 "GraphPages$Matching" "graph" "LGraphPages$Graph;" ∈ gTb := gm1 (List.mem_of_getElem? (i := 104) rfl) rfl
theorem tb_234 : Cond.fieldLink R_A 47 "GraphPages$Graph" "sizes" "[I" ∈ gTb := gm1 (List.mem_of_getElem? (i := 39) rfl) rfl
theorem tb_235 : Cond.methodLink R_A 68 y_G_contentOf ∈ gTb := gm2 (List.mem_of_getElem? (i := 161) rfl) rfl
theorem tb_236 : Cond.instanceMethod y_G_contentOf ∈ gTb := gm2 (List.mem_of_getElem? (i := 113) rfl) rfl
theorem tb_237 : Cond.selects R_G y_G_contentOf y_G_contentOf ∈ gTb := gm2 (List.mem_of_getElem? (i := 114) rfl) rfl
theorem tb_238 : Cond.methodLink R_A 72 y_G_valueOf ∈ gTb := gm2 (List.mem_of_getElem? (i := 162) rfl) rfl
theorem tb_239 : Cond.instanceMethod y_G_valueOf ∈ gTb := gm2 (List.mem_of_getElem? (i := 121) rfl) rfl
theorem tb_240 : Cond.selects R_G y_G_valueOf y_G_valueOf ∈ gTb := gm2 (List.mem_of_getElem? (i := 122) rfl) rfl
theorem tb_241 : Cond.methodLink R_A 35 y_A_match ∈ gTb := gm2 (List.mem_of_getElem? (i := 139) rfl) rfl
theorem tb_242 : Cond.instanceMethod y_A_match ∈ gTb := gm2 (List.mem_of_getElem? (i := 141) rfl) rfl
theorem tb_243 : Cond.selects R_A y_A_match y_A_match ∈ gTb := gmS (by decide +kernel) rfl
theorem tb_244 : Cond.initialized R_A ∈ gTb := gm1 (List.mem_of_getElem? (i := 5) rfl) rfl
theorem tb_245 : Cond.methodLink R_A 64 y_A_haveSameSlot ∈ gTb := gm2 (List.mem_of_getElem? (i := 157) rfl) rfl
theorem tb_246 : Cond.instanceMethod y_A_haveSameSlot ∈ gTb := gm2 (List.mem_of_getElem? (i := 159) rfl) rfl
theorem tb_247 : Cond.selects R_A y_A_haveSameSlot y_A_haveSameSlot ∈ gTb := gmS (by decide +kernel) rfl
theorem tb_248 : Cond.methodLink R_A 50 y_G_isText ∈ gTb := gm2 (List.mem_of_getElem? (i := 147) rfl) rfl
theorem tb_249 : Cond.instanceMethod y_G_isText ∈ gTb := gm2 (List.mem_of_getElem? (i := 68) rfl) rfl
theorem tb_250 : Cond.selects R_G y_G_isText y_G_isText ∈ gTb := gm2 (List.mem_of_getElem? (i := 69) rfl) rfl
theorem tb_251 : Cond.methodLink R_A 57 y_A_haveSameSlots ∈ gTb := gm2 (List.mem_of_getElem? (i := 153) rfl) rfl
theorem tb_252 : Cond.instanceMethod y_A_haveSameSlots ∈ gTb := gm2 (List.mem_of_getElem? (i := 155) rfl) rfl
theorem tb_253 : Cond.selects R_A y_A_haveSameSlots y_A_haveSameSlots ∈ gTb := gmS (by decide +kernel) rfl
theorem tb_254 : Cond.methodLink R_A 54 y_A_haveSameCharacters ∈ gTb := gm2 (List.mem_of_getElem? (i := 148) rfl) rfl
theorem tb_255 : Cond.instanceMethod y_A_haveSameCharacters ∈ gTb := gm2 (List.mem_of_getElem? (i := 150) rfl) rfl
theorem tb_256 : Cond.selects R_A y_A_haveSameCharacters y_A_haveSameCharacters ∈ gTb := gmS (by decide +kernel) rfl
theorem tb_257 : Cond.fieldLink R_A 42 "GraphPages$Graph" "kinds" "[I" ∈ gTb := gm1 (List.mem_of_getElem? (i := 35) rfl) rfl
theorem tb_258 : Cond.methodLink R_A 39 y_A_haveSameInside ∈ gTb := gm2 (List.mem_of_getElem? (i := 143) rfl) rfl
theorem tb_259 : Cond.instanceMethod y_A_haveSameInside ∈ gTb := gm2 (List.mem_of_getElem? (i := 145) rfl) rfl
theorem tb_260 : Cond.selects R_A y_A_haveSameInside y_A_haveSameInside ∈ gTb := gmS (by decide +kernel) rfl
theorem tb_261 : Cond.methodLink R_A 25 y_J_fill ∈ gTb := gm2 (List.mem_of_getElem? (i := 136) rfl) rfl
theorem tb_262 : Cond.fieldLink R_R 9 "GraphPages$Reach" "references" "[I" ∈ gTb := gm1 (List.mem_of_getElem? (i := 85) rfl) rfl
theorem tb_263 : Cond.fieldLink R_R 15 "GraphPages$Reach" "order" "[I" ∈ gTb := gm1 (List.mem_of_getElem? (i := 86) rfl) rfl
theorem tb_264 : Cond.fieldLink R_R 28 "GraphPages$Reach" "count" "I" ∈ gTb := gm1 (List.mem_of_getElem? (i := 87) rfl) rfl
theorem tb_265 : Cond.methodLink R_R 39 y_G_hasSlot ∈ gTb := gm2 (List.mem_of_getElem? (i := 180) rfl) rfl
theorem tb_266 : Cond.instanceMethod y_G_hasSlot ∈ gTb := gm2 (List.mem_of_getElem? (i := 87) rfl) rfl
theorem tb_267 : Cond.selects R_G y_G_hasSlot y_G_hasSlot ∈ gTb := gm2 (List.mem_of_getElem? (i := 88) rfl) rfl
theorem tb_268 : Cond.methodLink R_R 45 y_G_contentOf ∈ gTb := gm2 (List.mem_of_getElem? (i := 181) rfl) rfl
theorem tb_269 : Cond.methodLink R_R 49 y_G_valueOf ∈ gTb := gm2 (List.mem_of_getElem? (i := 182) rfl) rfl
theorem tb_270 : Cond.methodLink R_R 32 y_R_refer ∈ gTb := gm2 (List.mem_of_getElem? (i := 172) rfl) rfl
theorem tb_271 : Cond.instanceMethod y_R_refer ∈ gTb := gm2 (List.mem_of_getElem? (i := 174) rfl) rfl
theorem tb_272 : Cond.selects R_R y_R_refer y_R_refer ∈ gTb := gmS (by decide +kernel) rfl
theorem tb_273 : Cond.initialized R_R ∈ gTb := gm1 (List.mem_of_getElem? (i := 4) rfl) rfl
theorem tb_274 : Cond.fieldLink R_R 18 "GraphPages$Reach" "graph" "LGraphPages$Graph;" ∈ gTb := gm1 (List.mem_of_getElem? (i := 84) rfl) rfl
theorem tb_275 : Cond.methodLink R_R 36 y_R_followSlots ∈ gTb := gm2 (List.mem_of_getElem? (i := 176) rfl) rfl
theorem tb_276 : Cond.instanceMethod y_R_followSlots ∈ gTb := gm2 (List.mem_of_getElem? (i := 178) rfl) rfl
theorem tb_277 : Cond.selects R_R y_R_followSlots y_R_followSlots ∈ gTb := gmS (by decide +kernel) rfl
theorem tb_278 : Cond.methodLink R_R 22 y_J_fill ∈ gTb := gm2 (List.mem_of_getElem? (i := 171) rfl) rfl
theorem tb_279 : Cond.methodLink R_R 52 y_R_isShared ∈ gTb := gm2 (List.mem_of_getElem? (i := 187) rfl) rfl
theorem tb_280 : Cond.instanceMethod y_R_isShared ∈ gTb := gm2 (List.mem_of_getElem? (i := 188) rfl) rfl
theorem tb_281 : Cond.selects R_R y_R_isShared y_R_isShared ∈ gTb := gm2 (List.mem_of_getElem? (i := 189) rfl) rfl
theorem tb_282 : Cond.methodLink R_W 157 y_Q_length ∈ gTb := gm2 (List.mem_of_getElem? (i := 206) rfl) rfl
theorem tb_283 : Cond.methodLink R_W 163 y_Q_charAt ∈ gTb := gm2 (List.mem_of_getElem? (i := 216) rfl) rfl
theorem tb_284 : Cond.methodLink R_W 107 y_P_append ∈ gTb := gm3 (List.mem_of_getElem? (i := 14) rfl) rfl
theorem tb_285 : Cond.instanceMethod y_P_append ∈ gTb := gm3 (List.mem_of_getElem? (i := 15) rfl) rfl
theorem tb_286 : Cond.selects R_P y_P_append y_P_append ∈ gTb := gm3 (List.mem_of_getElem? (i := 16) rfl) rfl
theorem tb_287 : Cond.fieldLink R_W 26 "GraphPages$Writer" "page" "LGraphPages$Page;" ∈ gTb := gm1 (List.mem_of_getElem? (i := 128) rfl) rfl
theorem tb_288 : Cond.fieldLink R_W 9 "GraphPages$Writer" "ids" "[I" ∈ gTb := gm1 (List.mem_of_getElem? (i := 129) rfl) rfl
theorem tb_289 : Cond.fieldLink R_W 15 "GraphPages$Writer" "order" "[I" ∈ gTb := gm1 (List.mem_of_getElem? (i := 130) rfl) rfl
theorem tb_290 : Cond.fieldLink R_W 42 "GraphPages$Writer" "count" "I" ∈ gTb := gm1 (List.mem_of_getElem? (i := 131) rfl) rfl
theorem tb_291 : Cond.constantLong R_W 155 10 ∈ gTb := gm3 (List.mem_of_getElem? (i := 38) rfl) rfl
theorem tb_292 : Cond.methodLink R_W 53 y_W_writeRow ∈ gTb := gm2 (List.mem_of_getElem? (i := 202) rfl) rfl
theorem tb_293 : Cond.instanceMethod y_W_writeRow ∈ gTb := gm2 (List.mem_of_getElem? (i := 204) rfl) rfl
theorem tb_294 : Cond.selects R_W y_W_writeRow y_W_writeRow ∈ gTb := gmS (by decide +kernel) rfl
theorem tb_295 : Cond.initialized R_W ∈ gTb := gm1 (List.mem_of_getElem? (i := 6) rfl) rfl
theorem tb_296 : Cond.methodLink R_W 138 y_W_writeNumber ∈ gTb := gm3 (List.mem_of_getElem? (i := 34) rfl) rfl
theorem tb_297 : Cond.instanceMethod y_W_writeNumber ∈ gTb := gm3 (List.mem_of_getElem? (i := 36) rfl) rfl
theorem tb_298 : Cond.selects R_W y_W_writeNumber y_W_writeNumber ∈ gTb := gmS (by decide +kernel) rfl
theorem tb_299 : Cond.methodLink R_W 124 y_G_contentOf ∈ gTb := gm3 (List.mem_of_getElem? (i := 48) rfl) rfl
theorem tb_300 : Cond.fieldLink R_W 18 "GraphPages$Writer" "graph" "LGraphPages$Graph;" ∈ gTb := gm1 (List.mem_of_getElem? (i := 126) rfl) rfl
theorem tb_301 : Cond.fieldLink R_W 83 "GraphPages$Graph" "kinds" "[I" ∈ gTb := gm1 (List.mem_of_getElem? (i := 36) rfl) rfl
theorem tb_302 : Cond.fieldLink R_W 102 "GraphPages$Graph" "sizes" "[I" ∈ gTb := gm1 (List.mem_of_getElem? (i := 40) rfl) rfl
theorem tb_303 : Cond.methodLink R_W 143 y_G_characterOf ∈ gTb := gm3 (List.mem_of_getElem? (i := 59) rfl) rfl
theorem tb_304 : Cond.methodLink R_W 128 y_W_behindLastWrittenSlot ∈ gTb := gm3 (List.mem_of_getElem? (i := 67) rfl) rfl
theorem tb_305 : Cond.instanceMethod y_W_behindLastWrittenSlot ∈ gTb := gm3 (List.mem_of_getElem? (i := 69) rfl) rfl
theorem tb_306 : Cond.selects R_W y_W_behindLastWrittenSlot y_W_behindLastWrittenSlot ∈ gTb := gmS (by decide +kernel) rfl
theorem tb_307 : Cond.methodLink R_W 135 y_G_valueOf ∈ gTb := gm3 (List.mem_of_getElem? (i := 73) rfl) rfl
theorem tb_308 : Cond.methodLink R_W 57 y_W_writeReference ∈ gTb := gm3 (List.mem_of_getElem? (i := 18) rfl) rfl
theorem tb_309 : Cond.instanceMethod y_W_writeReference ∈ gTb := gm3 (List.mem_of_getElem? (i := 20) rfl) rfl
theorem tb_310 : Cond.selects R_W y_W_writeReference y_W_writeReference ∈ gTb := gmS (by decide +kernel) rfl
theorem tb_311 : Cond.methodLink R_W 88 y_W_firstWrittenSlot ∈ gTb := gm3 (List.mem_of_getElem? (i := 44) rfl) rfl
theorem tb_312 : Cond.instanceMethod y_W_firstWrittenSlot ∈ gTb := gm3 (List.mem_of_getElem? (i := 46) rfl) rfl
theorem tb_313 : Cond.selects R_W y_W_firstWrittenSlot y_W_firstWrittenSlot ∈ gTb := gmS (by decide +kernel) rfl
theorem tb_314 : Cond.methodLink R_W 77 y_W_writeAttribute ∈ gTb := gm3 (List.mem_of_getElem? (i := 29) rfl) rfl
theorem tb_315 : Cond.instanceMethod y_W_writeAttribute ∈ gTb := gm3 (List.mem_of_getElem? (i := 31) rfl) rfl
theorem tb_316 : Cond.selects R_W y_W_writeAttribute y_W_writeAttribute ∈ gTb := gmS (by decide +kernel) rfl
theorem tb_317 : Cond.methodLink R_W 114 y_W_writeSlots ∈ gTb := gm3 (List.mem_of_getElem? (i := 63) rfl) rfl
theorem tb_318 : Cond.instanceMethod y_W_writeSlots ∈ gTb := gm3 (List.mem_of_getElem? (i := 65) rfl) rfl
theorem tb_319 : Cond.selects R_W y_W_writeSlots y_W_writeSlots ∈ gTb := gmS (by decide +kernel) rfl
theorem tb_320 : Cond.methodLink R_W 111 y_W_writeCharacters ∈ gTb := gm3 (List.mem_of_getElem? (i := 55) rfl) rfl
theorem tb_321 : Cond.instanceMethod y_W_writeCharacters ∈ gTb := gm3 (List.mem_of_getElem? (i := 57) rfl) rfl
theorem tb_322 : Cond.selects R_W y_W_writeCharacters y_W_writeCharacters ∈ gTb := gmS (by decide +kernel) rfl
theorem tb_323 : Cond.methodLink R_W 66 y_R_isShared ∈ gTb := gm3 (List.mem_of_getElem? (i := 22) rfl) rfl
theorem tb_324 : Cond.methodLink R_W 61 y_W_writeElement ∈ gTb := gm3 (List.mem_of_getElem? (i := 40) rfl) rfl
theorem tb_325 : Cond.instanceMethod y_W_writeElement ∈ gTb := gm3 (List.mem_of_getElem? (i := 42) rfl) rfl
theorem tb_326 : Cond.selects R_W y_W_writeElement y_W_writeElement ∈ gTb := gmS (by decide +kernel) rfl
theorem tb_327 : Cond.methodLink R_W 70 y_W_giveId ∈ gTb := gm3 (List.mem_of_getElem? (i := 23) rfl) rfl
theorem tb_328 : Cond.instanceMethod y_W_giveId ∈ gTb := gm3 (List.mem_of_getElem? (i := 25) rfl) rfl
theorem tb_329 : Cond.selects R_W y_W_giveId y_W_giveId ∈ gTb := gmS (by decide +kernel) rfl
theorem tb_330 : Cond.fieldLink R_W 22 "GraphPages$Writer" "reach" "LGraphPages$Reach;" ∈ gTb := gm1 (List.mem_of_getElem? (i := 127) rfl) rfl
theorem tb_331 : Cond.methodLink R_W 30 y_R_startFrom ∈ gTb := gm2 (List.mem_of_getElem? (i := 199) rfl) rfl
theorem tb_332 : Cond.instanceMethod y_R_startFrom ∈ gTb := gm2 (List.mem_of_getElem? (i := 168) rfl) rfl
theorem tb_333 : Cond.selects R_R y_R_startFrom y_R_startFrom ∈ gTb := gm2 (List.mem_of_getElem? (i := 169) rfl) rfl
theorem tb_334 : Cond.methodLink R_W 36 y_J_fill ∈ gTb := gm2 (List.mem_of_getElem? (i := 200) rfl) rfl
theorem tb_335 : Cond.fieldLink R_W 46 "GraphPages$Page" "end" "I" ∈ gTb := gm1 (List.mem_of_getElem? (i := 68) rfl) rfl
theorem tb_336 : Cond.methodLink R_O 77 y_G_add ∈ gTb := gm2 (List.mem_of_getElem? (i := 51) rfl) rfl
theorem tb_337 : Cond.instanceMethod y_G_add ∈ gTb := gm2 (List.mem_of_getElem? (i := 52) rfl) rfl
theorem tb_338 : Cond.selects R_G y_G_add y_G_add ∈ gTb := gm2 (List.mem_of_getElem? (i := 53) rfl) rfl
theorem tb_339 : Cond.fieldLink R_O 10 "GraphPages" "graph" "LGraphPages$Graph;" ∈ gTb := gm2 (List.mem_of_getElem? (i := 22) rfl) rfl
theorem tb_340 : Cond.fieldLink R_O 73 "GraphPages$Graph" "count" "I" ∈ gTb := gm1 (List.mem_of_getElem? (i := 31) rfl) rfl
theorem tb_341 : Cond.methodLink R_O 81 y_G_isText ∈ gTb := gm2 (List.mem_of_getElem? (i := 67) rfl) rfl
theorem tb_342 : Cond.methodLink R_O 85 y_O_isPrintable ∈ gTb := gm2 (List.mem_of_getElem? (i := 75) rfl) rfl
theorem tb_343 : Cond.methodLink R_O 88 y_G_addCharacter ∈ gTb := gm2 (List.mem_of_getElem? (i := 78) rfl) rfl
theorem tb_344 : Cond.methodLink R_O 92 y_G_hasSlot ∈ gTb := gm2 (List.mem_of_getElem? (i := 86) rfl) rfl
theorem tb_345 : Cond.methodLink R_O 96 y_G_setSlot ∈ gTb := gm2 (List.mem_of_getElem? (i := 90) rfl) rfl
theorem tb_346 : Cond.methodLink R_O 100 y_G_has ∈ gTb := gm2 (List.mem_of_getElem? (i := 95) rfl) rfl
theorem tb_347 : Cond.fieldLink R_O 103 "GraphPages$Graph" "kinds" "[I" ∈ gTb := gm1 (List.mem_of_getElem? (i := 37) rfl) rfl
theorem tb_348 : Cond.fieldLink R_O 107 "GraphPages$Graph" "sizes" "[I" ∈ gTb := gm1 (List.mem_of_getElem? (i := 41) rfl) rfl
theorem tb_349 : Cond.methodLink R_O 110 y_G_contentOf ∈ gTb := gm2 (List.mem_of_getElem? (i := 112) rfl) rfl
theorem tb_350 : Cond.methodLink R_O 116 y_G_characterOf ∈ gTb := gm2 (List.mem_of_getElem? (i := 124) rfl) rfl
theorem tb_351 : Cond.methodLink R_O 113 y_G_valueOf ∈ gTb := gm2 (List.mem_of_getElem? (i := 120) rfl) rfl
theorem tb_352 : Cond.methodLink R_O 120 y_A_exists ∈ gTb := gm2 (List.mem_of_getElem? (i := 132) rfl) rfl
theorem tb_353 : Cond.instanceMethod y_A_exists ∈ gTb := gm2 (List.mem_of_getElem? (i := 133) rfl) rfl
theorem tb_354 : Cond.selects R_A y_A_exists y_A_exists ∈ gTb := gm2 (List.mem_of_getElem? (i := 134) rfl) rfl
theorem tb_355 : Cond.fieldLink R_O 39 "GraphPages" "matching" "LGraphPages$Matching;" ∈ gTb := gm2 (List.mem_of_getElem? (i := 26) rfl) rfl
theorem tb_356 : Cond.methodLink R_O 123 y_R_startFrom ∈ gTb := gm2 (List.mem_of_getElem? (i := 167) rfl) rfl
theorem tb_357 : Cond.methodLink R_O 127 y_R_countShared ∈ gTb := gm2 (List.mem_of_getElem? (i := 183) rfl) rfl
theorem tb_358 : Cond.instanceMethod y_R_countShared ∈ gTb := gm2 (List.mem_of_getElem? (i := 184) rfl) rfl
theorem tb_359 : Cond.selects R_R y_R_countShared y_R_countShared ∈ gTb := gm2 (List.mem_of_getElem? (i := 185) rfl) rfl
theorem tb_360 : Cond.fieldLink R_O 32 "GraphPages" "reach" "LGraphPages$Reach;" ∈ gTb := gm2 (List.mem_of_getElem? (i := 25) rfl) rfl
theorem tb_361 : Cond.methodLink R_O 131 y_W_writeFrom ∈ gTb := gm2 (List.mem_of_getElem? (i := 195) rfl) rfl
theorem tb_362 : Cond.instanceMethod y_W_writeFrom ∈ gTb := gm2 (List.mem_of_getElem? (i := 196) rfl) rfl
theorem tb_363 : Cond.selects R_W y_W_writeFrom y_W_writeFrom ∈ gTb := gm2 (List.mem_of_getElem? (i := 197) rfl) rfl
theorem tb_364 : Cond.fieldLink R_O 48 "GraphPages" "writer" "LGraphPages$Writer;" ∈ gTb := gm2 (List.mem_of_getElem? (i := 27) rfl) rfl
theorem tb_365 : Cond.fieldLink R_O 19 "GraphPages" "page" "LGraphPages$Page;" ∈ gTb := gm2 (List.mem_of_getElem? (i := 23) rfl) rfl
theorem tb_366 : Cond.fieldLink R_O 134 "GraphPages$Page" "end" "I" ∈ gTb := gm1 (List.mem_of_getElem? (i := 70) rfl) rfl
theorem tb_367 : Cond.methodLink R_O 137 y_F_isWellFormed ∈ gTb := gm3 (List.mem_of_getElem? (i := 84) rfl) rfl
theorem tb_368 : Cond.instanceMethod y_F_isWellFormed ∈ gTb := gm3 (List.mem_of_getElem? (i := 85) rfl) rfl
theorem tb_369 : Cond.selects R_F y_F_isWellFormed y_F_isWellFormed ∈ gTb := gm3 (List.mem_of_getElem? (i := 86) rfl) rfl
theorem tb_370 : Cond.methodLink R_O 141 y_H_knowsVersion ∈ gTb := gm3 (List.mem_of_getElem? (i := 174) rfl) rfl
theorem tb_371 : Cond.instanceMethod y_H_knowsVersion ∈ gTb := gm3 (List.mem_of_getElem? (i := 175) rfl) rfl
theorem tb_372 : Cond.selects R_H y_H_knowsVersion y_H_knowsVersion ∈ gTb := gm3 (List.mem_of_getElem? (i := 176) rfl) rfl
theorem tb_373 : Cond.methodLink R_O 144 y_H_understandsHeaders ∈ gTb := gm3 (List.mem_of_getElem? (i := 184) rfl) rfl
theorem tb_374 : Cond.instanceMethod y_H_understandsHeaders ∈ gTb := gm3 (List.mem_of_getElem? (i := 185) rfl) rfl
theorem tb_375 : Cond.selects R_H y_H_understandsHeaders y_H_understandsHeaders ∈ gTb := gm3 (List.mem_of_getElem? (i := 186) rfl) rfl
theorem tb_376 : Cond.methodLink R_O 148 y_H_readGraph ∈ gTb := gm3 (List.mem_of_getElem? (i := 200) rfl) rfl
theorem tb_377 : Cond.instanceMethod y_H_readGraph ∈ gTb := gm3 (List.mem_of_getElem? (i := 201) rfl) rfl
theorem tb_378 : Cond.selects R_H y_H_readGraph y_H_readGraph ∈ gTb := gm3 (List.mem_of_getElem? (i := 202) rfl) rfl
theorem tb_379 : Cond.fieldLink R_O 60 "GraphPages" "formReader" "LGraphPages$FormReader;" ∈ gTb := gm2 (List.mem_of_getElem? (i := 28) rfl) rfl
theorem tb_380 : Cond.fieldLink R_O 69 "GraphPages" "graphReader" "LGraphPages$GraphReader;" ∈ gTb := gm2 (List.mem_of_getElem? (i := 29) rfl) rfl
theorem tb_381 : Cond.fieldLink R_O 23 "GraphPages" "understood" "[Z" ∈ gTb := gm2 (List.mem_of_getElem? (i := 24) rfl) rfl
theorem tb_382 : Cond.methodLink R_O 151 y_P_codeAt ∈ gTb := gm4 (List.mem_of_getElem? (i := 54) rfl) rfl
theorem tb_383 : Cond.methodLink R_O 155 y_P_append ∈ gTb := gm4 (List.mem_of_getElem? (i := 59) rfl) rfl
theorem tb_384 : Cond.fieldLink R_O 159 "GraphPages$Page" "characters" "[C" ∈ gTb := gm1 (List.mem_of_getElem? (i := 72) rfl) rfl
theorem tb_385 : Cond.fieldLink R_M 87 "GraphPagesModel" "count" "I" ∈ gTb := gm4 (List.mem_of_getElem? (i := 74) rfl) rfl
theorem tb_386 : Cond.fieldLink R_M 7 "GraphPagesModel" "sort" "[I" ∈ gTb := gm4 (List.mem_of_getElem? (i := 75) rfl) rfl
theorem tb_387 : Cond.fieldLink R_M 13 "GraphPagesModel" "room" "[I" ∈ gTb := gm4 (List.mem_of_getElem? (i := 76) rfl) rfl
theorem tb_388 : Cond.fieldLink R_M 16 "GraphPagesModel" "what" "[I" ∈ gTb := gm4 (List.mem_of_getElem? (i := 77) rfl) rfl
theorem tb_389 : Cond.methodLink R_M 91 y_M_object ∈ gTb := gm4 (List.mem_of_getElem? (i := 188) rfl) rfl
theorem tb_390 : Cond.instanceMethod y_M_object ∈ gTb := gm4 (List.mem_of_getElem? (i := 190) rfl) rfl
theorem tb_391 : Cond.selects R_M y_M_object y_M_object ∈ gTb := gmS (by decide +kernel) rfl
theorem tb_392 : Cond.initialized R_M ∈ gTb := gm1 (List.mem_of_getElem? (i := 10) rfl) rfl
theorem tb_393 : Cond.fieldLink R_M 22 "GraphPagesModel" "letters" "[I" ∈ gTb := gm4 (List.mem_of_getElem? (i := 79) rfl) rfl
theorem tb_394 : Cond.methodLink R_M 95 y_M_slotThere ∈ gTb := gm4 (List.mem_of_getElem? (i := 196) rfl) rfl
theorem tb_395 : Cond.instanceMethod y_M_slotThere ∈ gTb := gm4 (List.mem_of_getElem? (i := 198) rfl) rfl
theorem tb_396 : Cond.selects R_M y_M_slotThere y_M_slotThere ∈ gTb := gmS (by decide +kernel) rfl
theorem tb_397 : Cond.fieldLink R_M 19 "GraphPagesModel" "cell" "[I" ∈ gTb := gm4 (List.mem_of_getElem? (i := 78) rfl) rfl
theorem tb_398 : Cond.methodLink R_M 99 y_M_sameOutside ∈ gTb := gm4 (List.mem_of_getElem? (i := 232) rfl) rfl
theorem tb_399 : Cond.instanceMethod y_M_sameOutside ∈ gTb := gm4 (List.mem_of_getElem? (i := 234) rfl) rfl
theorem tb_400 : Cond.selects R_M y_M_sameOutside y_M_sameOutside ∈ gTb := gmS (by decide +kernel) rfl
theorem tb_401 : Cond.fieldLink R_M 81 "GraphPagesModel" "pair" "[I" ∈ gTb := gm4 (List.mem_of_getElem? (i := 107) rfl) rfl
theorem tb_402 : Cond.fieldLink R_M 84 "GraphPagesModel" "back" "[I" ∈ gTb := gm4 (List.mem_of_getElem? (i := 108) rfl) rfl
theorem tb_403 : Cond.methodLink R_M 102 y_M_holds ∈ gTb := gm5 (List.mem_of_getElem? (i := 4) rfl) rfl
theorem tb_404 : Cond.instanceMethod y_M_holds ∈ gTb := gm4 (List.mem_of_getElem? (i := 217) rfl) rfl
theorem tb_405 : Cond.selects R_M y_M_holds y_M_holds ∈ gTb := gm4 (List.mem_of_getElem? (i := 218) rfl) rfl
theorem tb_406 : Cond.fieldLink R_M 66 "GraphPagesModel" "reached" "[Z" ∈ gTb := gm4 (List.mem_of_getElem? (i := 100) rfl) rfl
theorem tb_407 : Cond.fieldLink R_M 69 "GraphPagesModel" "refs" "[I" ∈ gTb := gm4 (List.mem_of_getElem? (i := 101) rfl) rfl
theorem tb_408 : Cond.fieldLink R_M 72 "GraphPagesModel" "id" "[I" ∈ gTb := gm4 (List.mem_of_getElem? (i := 102) rfl) rfl
theorem tb_409 : Cond.methodLink R_M 106 y_M_mark ∈ gTb := gm5 (List.mem_of_getElem? (i := 0) rfl) rfl
theorem tb_410 : Cond.instanceMethod y_M_mark ∈ gTb := gm5 (List.mem_of_getElem? (i := 2) rfl) rfl
theorem tb_411 : Cond.selects R_M y_M_mark y_M_mark ∈ gTb := gmS (by decide +kernel) rfl
theorem tb_412 : Cond.fieldLink R_M 29 "GraphPagesModel" "page" "[C" ∈ gTb := gm4 (List.mem_of_getElem? (i := 82) rfl) rfl
theorem tb_413 : Cond.fieldLink R_M 110 "GraphPagesModel" "used" "I" ∈ gTb := gm4 (List.mem_of_getElem? (i := 81) rfl) rfl
theorem tb_414 : Cond.methodLink R_M 113 y_M_out ∈ gTb := gm5 (List.mem_of_getElem? (i := 9) rfl) rfl
theorem tb_415 : Cond.instanceMethod y_M_out ∈ gTb := gm5 (List.mem_of_getElem? (i := 11) rfl) rfl
theorem tb_416 : Cond.selects R_M y_M_out y_M_out ∈ gTb := gmS (by decide +kernel) rfl
theorem tb_417 : Cond.constantLong R_M 117 10 ∈ gTb := gm5 (List.mem_of_getElem? (i := 29) rfl) rfl
theorem tb_418 : Cond.constantLong R_M 119 48 ∈ gTb := gm5 (List.mem_of_getElem? (i := 30) rfl) rfl
theorem tb_419 : Cond.methodLink R_M 121 y_M_number ∈ gTb := gm5 (List.mem_of_getElem? (i := 25) rfl) rfl
theorem tb_420 : Cond.instanceMethod y_M_number ∈ gTb := gm5 (List.mem_of_getElem? (i := 27) rfl) rfl
theorem tb_421 : Cond.selects R_M y_M_number y_M_number ∈ gTb := gmS (by decide +kernel) rfl
theorem tb_422 : Cond.methodLink R_M 131 y_M_attribute ∈ gTb := gm5 (List.mem_of_getElem? (i := 21) rfl) rfl
theorem tb_423 : Cond.instanceMethod y_M_attribute ∈ gTb := gm5 (List.mem_of_getElem? (i := 23) rfl) rfl
theorem tb_424 : Cond.selects R_M y_M_attribute y_M_attribute ∈ gTb := gmS (by decide +kernel) rfl
theorem tb_425 : Cond.methodLink R_M 135 y_M_character ∈ gTb := gm5 (List.mem_of_getElem? (i := 31) rfl) rfl
theorem tb_426 : Cond.instanceMethod y_M_character ∈ gTb := gm5 (List.mem_of_getElem? (i := 33) rfl) rfl
theorem tb_427 : Cond.selects R_M y_M_character y_M_character ∈ gTb := gmS (by decide +kernel) rfl
theorem tb_428 : Cond.fieldLink R_M 78 "GraphPagesModel" "pile" "[I" ∈ gTb := gm4 (List.mem_of_getElem? (i := 105) rfl) rfl
theorem tb_429 : Cond.fieldLink R_M 138 "GraphPagesModel" "piled" "I" ∈ gTb := gm4 (List.mem_of_getElem? (i := 106) rfl) rfl
theorem tb_430 : Cond.methodLink R_M 125 y_M_element ∈ gTb := gm5 (List.mem_of_getElem? (i := 17) rfl) rfl
theorem tb_431 : Cond.instanceMethod y_M_element ∈ gTb := gm5 (List.mem_of_getElem? (i := 19) rfl) rfl
theorem tb_432 : Cond.selects R_M y_M_element y_M_element ∈ gTb := gmS (by decide +kernel) rfl
theorem tb_433 : Cond.fieldLink R_M 128 "GraphPagesModel" "given" "I" ∈ gTb := gm4 (List.mem_of_getElem? (i := 104) rfl) rfl
theorem tb_434 : Cond.fieldLink R_M 75 "GraphPagesModel" "order" "[I" ∈ gTb := gm4 (List.mem_of_getElem? (i := 103) rfl) rfl
theorem tb_435 : Cond.methodLink R_M 141 y_M_reference ∈ gTb := gm5 (List.mem_of_getElem? (i := 13) rfl) rfl
theorem tb_436 : Cond.instanceMethod y_M_reference ∈ gTb := gm5 (List.mem_of_getElem? (i := 15) rfl) rfl
theorem tb_437 : Cond.selects R_M y_M_reference y_M_reference ∈ gTb := gmS (by decide +kernel) rfl
theorem tb_438 : Cond.methodLink R_M 144 y_M_work ∈ gTb := gm5 (List.mem_of_getElem? (i := 35) rfl) rfl
theorem tb_439 : Cond.instanceMethod y_M_work ∈ gTb := gm5 (List.mem_of_getElem? (i := 37) rfl) rfl
theorem tb_440 : Cond.selects R_M y_M_work y_M_work ∈ gTb := gmS (by decide +kernel) rfl
theorem tb_441 : Cond.methodLink R_M 147 y_M_charOr0 ∈ gTb := gm5 (List.mem_of_getElem? (i := 71) rfl) rfl
theorem tb_442 : Cond.instanceMethod y_M_charOr0 ∈ gTb := gm5 (List.mem_of_getElem? (i := 73) rfl) rfl
theorem tb_443 : Cond.selects R_M y_M_charOr0 y_M_charOr0 ∈ gTb := gmS (by decide +kernel) rfl
theorem tb_444 : Cond.fieldLink R_M 151 "GraphPagesModel" "nameEnd" "I" ∈ gTb := gm4 (List.mem_of_getElem? (i := 99) rfl) rfl
theorem tb_445 : Cond.methodLink R_M 179 y_M_nameAt ∈ gTb := gm5 (List.mem_of_getElem? (i := 79) rfl) rfl
theorem tb_446 : Cond.instanceMethod y_M_nameAt ∈ gTb := gm5 (List.mem_of_getElem? (i := 81) rfl) rfl
theorem tb_447 : Cond.selects R_M y_M_nameAt y_M_nameAt ∈ gTb := gmS (by decide +kernel) rfl
theorem tb_448 : Cond.fieldLink R_M 157 "GraphPagesModel" "open" "I" ∈ gTb := gm4 (List.mem_of_getElem? (i := 97) rfl) rfl
theorem tb_449 : Cond.fieldLink R_M 154 "GraphPagesModel" "at" "I" ∈ gTb := gm4 (List.mem_of_getElem? (i := 96) rfl) rfl
theorem tb_450 : Cond.fieldLink R_M 33 "GraphPagesModel" "name" "[I" ∈ gTb := gm4 (List.mem_of_getElem? (i := 84) rfl) rfl
theorem tb_451 : Cond.fieldLink R_M 36 "GraphPagesModel" "parent" "[I" ∈ gTb := gm4 (List.mem_of_getElem? (i := 85) rfl) rfl
theorem tb_452 : Cond.fieldLink R_M 160 "GraphPagesModel" "depth" "I" ∈ gTb := gm4 (List.mem_of_getElem? (i := 98) rfl) rfl
theorem tb_453 : Cond.fieldLink R_M 42 "GraphPagesModel" "attrCount" "[I" ∈ gTb := gm4 (List.mem_of_getElem? (i := 87) rfl) rfl
theorem tb_454 : Cond.fieldLink R_M 57 "GraphPagesModel" "attrName" "[I" ∈ gTb := gm4 (List.mem_of_getElem? (i := 93) rfl) rfl
theorem tb_455 : Cond.fieldLink R_M 39 "GraphPagesModel" "firstAttr" "[I" ∈ gTb := gm4 (List.mem_of_getElem? (i := 86) rfl) rfl
theorem tb_456 : Cond.methodLink R_M 185 y_M_attr ∈ gTb := gm5 (List.mem_of_getElem? (i := 91) rfl) rfl
theorem tb_457 : Cond.instanceMethod y_M_attr ∈ gTb := gm5 (List.mem_of_getElem? (i := 93) rfl) rfl
theorem tb_458 : Cond.selects R_M y_M_attr y_M_attr ∈ gTb := gmS (by decide +kernel) rfl
theorem tb_459 : Cond.fieldLink R_M 166 "GraphPagesModel" "attrs" "I" ∈ gTb := gm4 (List.mem_of_getElem? (i := 92) rfl) rfl
theorem tb_460 : Cond.fieldLink R_M 60 "GraphPagesModel" "attrFrom" "[I" ∈ gTb := gm4 (List.mem_of_getElem? (i := 94) rfl) rfl
theorem tb_461 : Cond.fieldLink R_M 63 "GraphPagesModel" "attrTo" "[I" ∈ gTb := gm4 (List.mem_of_getElem? (i := 95) rfl) rfl
theorem tb_462 : Cond.methodLink R_M 182 y_M_attributeAt ∈ gTb := gm5 (List.mem_of_getElem? (i := 87) rfl) rfl
theorem tb_463 : Cond.instanceMethod y_M_attributeAt ∈ gTb := gm5 (List.mem_of_getElem? (i := 89) rfl) rfl
theorem tb_464 : Cond.selects R_M y_M_attributeAt y_M_attributeAt ∈ gTb := gmS (by decide +kernel) rfl
theorem tb_465 : Cond.fieldLink R_M 163 "GraphPagesModel" "elements" "I" ∈ gTb := gm4 (List.mem_of_getElem? (i := 83) rfl) rfl
theorem tb_466 : Cond.fieldLink R_M 45 "GraphPagesModel" "textLength" "[I" ∈ gTb := gm4 (List.mem_of_getElem? (i := 88) rfl) rfl
theorem tb_467 : Cond.fieldLink R_M 48 "GraphPagesModel" "text" "[C" ∈ gTb := gm4 (List.mem_of_getElem? (i := 89) rfl) rfl
theorem tb_468 : Cond.methodLink R_M 169 y_M_end ∈ gTb := gm5 (List.mem_of_getElem? (i := 75) rfl) rfl
theorem tb_469 : Cond.instanceMethod y_M_end ∈ gTb := gm5 (List.mem_of_getElem? (i := 77) rfl) rfl
theorem tb_470 : Cond.selects R_M y_M_end y_M_end ∈ gTb := gmS (by decide +kernel) rfl
theorem tb_471 : Cond.methodLink R_M 176 y_M_content ∈ gTb := gm5 (List.mem_of_getElem? (i := 95) rfl) rfl
theorem tb_472 : Cond.instanceMethod y_M_content ∈ gTb := gm5 (List.mem_of_getElem? (i := 97) rfl) rfl
theorem tb_473 : Cond.selects R_M y_M_content y_M_content ∈ gTb := gmS (by decide +kernel) rfl
theorem tb_474 : Cond.methodLink R_M 173 y_M_start ∈ gTb := gm5 (List.mem_of_getElem? (i := 83) rfl) rfl
theorem tb_475 : Cond.instanceMethod y_M_start ∈ gTb := gm5 (List.mem_of_getElem? (i := 85) rfl) rfl
theorem tb_476 : Cond.selects R_M y_M_start y_M_start ∈ gTb := gmS (by decide +kernel) rfl
theorem tb_477 : Cond.methodLink R_M 188 y_M_countOf ∈ gTb := gm5 (List.mem_of_getElem? (i := 111) rfl) rfl
theorem tb_478 : Cond.instanceMethod y_M_countOf ∈ gTb := gm5 (List.mem_of_getElem? (i := 113) rfl) rfl
theorem tb_479 : Cond.selects R_M y_M_countOf y_M_countOf ∈ gTb := gmS (by decide +kernel) rfl
theorem tb_480 : Cond.methodLink R_M 197 y_M_isOne ∈ gTb := gm5 (List.mem_of_getElem? (i := 99) rfl) rfl
theorem tb_481 : Cond.instanceMethod y_M_isOne ∈ gTb := gm5 (List.mem_of_getElem? (i := 101) rfl) rfl
theorem tb_482 : Cond.selects R_M y_M_isOne y_M_isOne ∈ gTb := gmS (by decide +kernel) rfl
theorem tb_483 : Cond.methodLink R_M 200 y_M_countIn ∈ gTb := gm5 (List.mem_of_getElem? (i := 107) rfl) rfl
theorem tb_484 : Cond.instanceMethod y_M_countIn ∈ gTb := gm5 (List.mem_of_getElem? (i := 109) rfl) rfl
theorem tb_485 : Cond.selects R_M y_M_countIn y_M_countIn ∈ gTb := gmS (by decide +kernel) rfl
theorem tb_486 : Cond.fieldLink R_M 25 "GraphPagesModel" "known" "[Z" ∈ gTb := gm4 (List.mem_of_getElem? (i := 80) rfl) rfl
theorem tb_487 : Cond.methodLink R_M 203 y_M_isObject ∈ gTb := gm5 (List.mem_of_getElem? (i := 119) rfl) rfl
theorem tb_488 : Cond.instanceMethod y_M_isObject ∈ gTb := gm5 (List.mem_of_getElem? (i := 121) rfl) rfl
theorem tb_489 : Cond.selects R_M y_M_isObject y_M_isObject ∈ gTb := gmS (by decide +kernel) rfl
theorem tb_490 : Cond.constantLong R_M 191 1099511627776 ∈ gTb := gm5 (List.mem_of_getElem? (i := 139) rfl) rfl
theorem tb_491 : Cond.constantLong R_M 193 (-2147483648) ∈ gTb := gm5 (List.mem_of_getElem? (i := 140) rfl) rfl
theorem tb_492 : Cond.constantLong R_M 195 2147483647 ∈ gTb := gm5 (List.mem_of_getElem? (i := 141) rfl) rfl
theorem tb_493 : Cond.methodLink R_M 206 y_M_mayStand ∈ gTb := gm5 (List.mem_of_getElem? (i := 131) rfl) rfl
theorem tb_494 : Cond.instanceMethod y_M_mayStand ∈ gTb := gm5 (List.mem_of_getElem? (i := 133) rfl) rfl
theorem tb_495 : Cond.selects R_M y_M_mayStand y_M_mayStand ∈ gTb := gmS (by decide +kernel) rfl
theorem tb_496 : Cond.methodLink R_M 209 y_M_numberOf ∈ gTb := gm5 (List.mem_of_getElem? (i := 135) rfl) rfl
theorem tb_497 : Cond.instanceMethod y_M_numberOf ∈ gTb := gm5 (List.mem_of_getElem? (i := 137) rfl) rfl
theorem tb_498 : Cond.selects R_M y_M_numberOf y_M_numberOf ∈ gTb := gmS (by decide +kernel) rfl
theorem tb_499 : Cond.fieldLink R_M 51 "GraphPagesModel" "slot" "[I" ∈ gTb := gm4 (List.mem_of_getElem? (i := 90) rfl) rfl
theorem tb_500 : Cond.methodLink R_M 213 y_M_fits ∈ gTb := gm5 (List.mem_of_getElem? (i := 127) rfl) rfl
theorem tb_501 : Cond.instanceMethod y_M_fits ∈ gTb := gm5 (List.mem_of_getElem? (i := 129) rfl) rfl
theorem tb_502 : Cond.selects R_M y_M_fits y_M_fits ∈ gTb := gmS (by decide +kernel) rfl
theorem tb_503 : Cond.methodLink R_M 216 y_M_slots ∈ gTb := gm5 (List.mem_of_getElem? (i := 142) rfl) rfl
theorem tb_504 : Cond.instanceMethod y_M_slots ∈ gTb := gm5 (List.mem_of_getElem? (i := 144) rfl) rfl
theorem tb_505 : Cond.selects R_M y_M_slots y_M_slots ∈ gTb := gmS (by decide +kernel) rfl
theorem tb_506 : Cond.methodLink R_M 219 y_M_withId ∈ gTb := gm5 (List.mem_of_getElem? (i := 146) rfl) rfl
theorem tb_507 : Cond.instanceMethod y_M_withId ∈ gTb := gm5 (List.mem_of_getElem? (i := 148) rfl) rfl
theorem tb_508 : Cond.selects R_M y_M_withId y_M_withId ∈ gTb := gmS (by decide +kernel) rfl
theorem tb_509 : Cond.methodLink R_M 223 y_M_wellFormed ∈ gTb := gm5 (List.mem_of_getElem? (i := 67) rfl) rfl
theorem tb_510 : Cond.instanceMethod y_M_wellFormed ∈ gTb := gm5 (List.mem_of_getElem? (i := 69) rfl) rfl
theorem tb_511 : Cond.selects R_M y_M_wellFormed y_M_wellFormed ∈ gTb := gmS (by decide +kernel) rfl
theorem tb_512 : Cond.methodLink R_M 226 y_M_must ∈ gTb := gm5 (List.mem_of_getElem? (i := 103) rfl) rfl
theorem tb_513 : Cond.instanceMethod y_M_must ∈ gTb := gm5 (List.mem_of_getElem? (i := 105) rfl) rfl
theorem tb_514 : Cond.selects R_M y_M_must y_M_must ∈ gTb := gmS (by decide +kernel) rfl
theorem tb_515 : Cond.methodLink R_M 229 y_M_body ∈ gTb := gm5 (List.mem_of_getElem? (i := 115) rfl) rfl
theorem tb_516 : Cond.instanceMethod y_M_body ∈ gTb := gm5 (List.mem_of_getElem? (i := 117) rfl) rfl
theorem tb_517 : Cond.selects R_M y_M_body y_M_body ∈ gTb := gmS (by decide +kernel) rfl
theorem tb_518 : Cond.methodLink R_M 233 y_M_lawful ∈ gTb := gm5 (List.mem_of_getElem? (i := 123) rfl) rfl
theorem tb_519 : Cond.instanceMethod y_M_lawful ∈ gTb := gm5 (List.mem_of_getElem? (i := 125) rfl) rfl
theorem tb_520 : Cond.selects R_M y_M_lawful y_M_lawful ∈ gTb := gmS (by decide +kernel) rfl
theorem tb_521 : Cond.methodLink R_M 236 y_M_make ∈ gTb := gm5 (List.mem_of_getElem? (i := 150) rfl) rfl
theorem tb_522 : Cond.instanceMethod y_M_make ∈ gTb := gm4 (List.mem_of_getElem? (i := 181) rfl) rfl
theorem tb_523 : Cond.selects R_M y_M_make y_M_make ∈ gTb := gm4 (List.mem_of_getElem? (i := 182) rfl) rfl
theorem tb_524 : Cond.methodLink R_M 239 y_M_type ∈ gTb := gm5 (List.mem_of_getElem? (i := 151) rfl) rfl
theorem tb_525 : Cond.instanceMethod y_M_type ∈ gTb := gm4 (List.mem_of_getElem? (i := 185) rfl) rfl
theorem tb_526 : Cond.selects R_M y_M_type y_M_type ∈ gTb := gm4 (List.mem_of_getElem? (i := 186) rfl) rfl
theorem tb_527 : Cond.methodLink R_M 247 y_M_target ∈ gTb := gm5 (List.mem_of_getElem? (i := 153) rfl) rfl
theorem tb_528 : Cond.instanceMethod y_M_target ∈ gTb := gm5 (List.mem_of_getElem? (i := 155) rfl) rfl
theorem tb_529 : Cond.selects R_M y_M_target y_M_target ∈ gTb := gmS (by decide +kernel) rfl
theorem tb_530 : Cond.methodLink R_M 250 y_M_link ∈ gTb := gm5 (List.mem_of_getElem? (i := 157) rfl) rfl
theorem tb_531 : Cond.instanceMethod y_M_link ∈ gTb := gm4 (List.mem_of_getElem? (i := 201) rfl) rfl
theorem tb_532 : Cond.selects R_M y_M_link y_M_link ∈ gTb := gm4 (List.mem_of_getElem? (i := 202) rfl) rfl
theorem tb_533 : Cond.methodLink R_M 243 y_M_put ∈ gTb := gm5 (List.mem_of_getElem? (i := 152) rfl) rfl
theorem tb_534 : Cond.instanceMethod y_M_put ∈ gTb := gm4 (List.mem_of_getElem? (i := 193) rfl) rfl
theorem tb_535 : Cond.selects R_M y_M_put y_M_put ∈ gTb := gm4 (List.mem_of_getElem? (i := 194) rfl) rfl
theorem tb_536 : Cond.fieldLink R_M 54 "GraphPagesModel" "made" "[I" ∈ gTb := gm4 (List.mem_of_getElem? (i := 91) rfl) rfl
theorem tb_537 : Cond.methodLink R_G 3 objectInit ∈ gTb := gm1 (List.mem_of_getElem? (i := 30) rfl) rfl
theorem tb_538 : Cond.instanceMethod objectInit ∈ gTb := gm1 (List.mem_of_getElem? (i := 23) rfl) rfl
theorem tb_539 : Cond.arrayClass .int ∈ gTb := gm1 (List.mem_of_getElem? (i := 59) rfl) rfl
theorem tb_540 : Cond.arrayClass .char ∈ gTb := gm1 (List.mem_of_getElem? (i := 60) rfl) rfl
theorem tb_541 : Cond.methodLink R_P 3 objectInit ∈ gTb := gm1 (List.mem_of_getElem? (i := 66) rfl) rfl
theorem tb_542 : Cond.methodLink R_R 3 objectInit ∈ gTb := gm1 (List.mem_of_getElem? (i := 83) rfl) rfl
theorem tb_543 : Cond.methodLink R_A 3 objectInit ∈ gTb := gm1 (List.mem_of_getElem? (i := 103) rfl) rfl
theorem tb_544 : Cond.methodLink R_W 3 objectInit ∈ gTb := gm1 (List.mem_of_getElem? (i := 125) rfl) rfl
theorem tb_545 : Cond.methodLink R_E 3 objectInit ∈ gTb := gm1 (List.mem_of_getElem? (i := 150) rfl) rfl
theorem tb_546 : Cond.methodLink R_F 3 objectInit ∈ gTb := gm1 (List.mem_of_getElem? (i := 214) rfl) rfl
theorem tb_547 : Cond.methodLink R_H 7 objectInit ∈ gTb := gm1 (List.mem_of_getElem? (i := 236) rfl) rfl
theorem tb_548 : Cond.methodLink R_O 1 objectInit ∈ gTb := gm1 (List.mem_of_getElem? (i := 22) rfl) rfl
theorem tb_549 : Cond.instanceMethod y_G_init ∈ gTb := gm1 (List.mem_of_getElem? (i := 28) rfl) rfl
theorem tb_550 : Cond.instanceMethod y_P_init ∈ gTb := gm1 (List.mem_of_getElem? (i := 64) rfl) rfl
theorem tb_551 : Cond.instanceMethod y_E_init ∈ gTb := gm1 (List.mem_of_getElem? (i := 148) rfl) rfl
theorem tb_552 : Cond.classLink R_O 7 R_G ∈ gTb := gm1 (List.mem_of_getElem? (i := 25) rfl) rfl
theorem tb_553 : Cond.instantiable R_G 6 ∈ gTb := gm1 (List.mem_of_getElem? (i := 26) rfl) rfl
theorem tb_554 : Cond.classLink R_O 16 R_P ∈ gTb := gm1 (List.mem_of_getElem? (i := 61) rfl) rfl
theorem tb_555 : Cond.instantiable R_P 2 ∈ gTb := gm1 (List.mem_of_getElem? (i := 62) rfl) rfl
theorem tb_556 : Cond.arrayClass .boolean ∈ gTb := gm1 (List.mem_of_getElem? (i := 97) rfl) rfl
theorem tb_557 : Cond.classLink R_O 27 R_R ∈ gTb := gm1 (List.mem_of_getElem? (i := 78) rfl) rfl
theorem tb_558 : Cond.instantiable R_R 4 ∈ gTb := gm1 (List.mem_of_getElem? (i := 79) rfl) rfl
theorem tb_559 : Cond.methodLink R_O 29 y_R_init ∈ gTb := gm1 (List.mem_of_getElem? (i := 80) rfl) rfl
theorem tb_560 : Cond.instanceMethod y_R_init ∈ gTb := gm1 (List.mem_of_getElem? (i := 81) rfl) rfl
theorem tb_561 : Cond.classLink R_O 36 R_A ∈ gTb := gm1 (List.mem_of_getElem? (i := 98) rfl) rfl
theorem tb_562 : Cond.instantiable R_A 5 ∈ gTb := gm1 (List.mem_of_getElem? (i := 99) rfl) rfl
theorem tb_563 : Cond.methodLink R_O 38 y_A_init ∈ gTb := gm1 (List.mem_of_getElem? (i := 100) rfl) rfl
theorem tb_564 : Cond.instanceMethod y_A_init ∈ gTb := gm1 (List.mem_of_getElem? (i := 101) rfl) rfl
theorem tb_565 : Cond.classLink R_O 43 R_W ∈ gTb := gm1 (List.mem_of_getElem? (i := 120) rfl) rfl
theorem tb_566 : Cond.instantiable R_W 6 ∈ gTb := gm1 (List.mem_of_getElem? (i := 121) rfl) rfl
theorem tb_567 : Cond.methodLink R_O 45 y_W_init ∈ gTb := gm1 (List.mem_of_getElem? (i := 122) rfl) rfl
theorem tb_568 : Cond.instanceMethod y_W_init ∈ gTb := gm1 (List.mem_of_getElem? (i := 123) rfl) rfl
theorem tb_569 : Cond.classLink R_O 52 R_E ∈ gTb := gm1 (List.mem_of_getElem? (i := 145) rfl) rfl
theorem tb_570 : Cond.instantiable R_E 14 ∈ gTb := gm1 (List.mem_of_getElem? (i := 146) rfl) rfl
theorem tb_571 : Cond.classLink R_O 55 R_F ∈ gTb := gm1 (List.mem_of_getElem? (i := 209) rfl) rfl
theorem tb_572 : Cond.instantiable R_F 5 ∈ gTb := gm1 (List.mem_of_getElem? (i := 210) rfl) rfl
theorem tb_573 : Cond.methodLink R_O 57 y_F_init ∈ gTb := gm1 (List.mem_of_getElem? (i := 211) rfl) rfl
theorem tb_574 : Cond.instanceMethod y_F_init ∈ gTb := gm1 (List.mem_of_getElem? (i := 212) rfl) rfl
theorem tb_575 : Cond.classLink R_O 64 R_H ∈ gTb := gm1 (List.mem_of_getElem? (i := 231) rfl) rfl
theorem tb_576 : Cond.instantiable R_H 8 ∈ gTb := gm1 (List.mem_of_getElem? (i := 232) rfl) rfl
theorem tb_577 : Cond.methodLink R_O 66 y_H_init ∈ gTb := gm1 (List.mem_of_getElem? (i := 233) rfl) rfl
theorem tb_578 : Cond.instanceMethod y_H_init ∈ gTb := gm1 (List.mem_of_getElem? (i := 234) rfl) rfl
theorem tb_579 : Cond.methodLink R_M 1 objectInit ∈ gTb := gm4 (List.mem_of_getElem? (i := 73) rfl) rfl
theorem tb_580 : Cond.methodLink R_L 13 y_O_make ∈ gTb := gm2 (List.mem_of_getElem? (i := 47) rfl) rfl
theorem tb_581 : Cond.instanceMethod y_O_make ∈ gTb := gm2 (List.mem_of_getElem? (i := 48) rfl) rfl
theorem tb_582 : Cond.selects R_O y_O_make y_O_make ∈ gTb := gm2 (List.mem_of_getElem? (i := 49) rfl) rfl
theorem tb_583 : Cond.methodLink R_L 17 y_M_make ∈ gTb := gm4 (List.mem_of_getElem? (i := 180) rfl) rfl
theorem tb_584 : Cond.methodLink R_L 18 y_O_type ∈ gTb := gm2 (List.mem_of_getElem? (i := 63) rfl) rfl
theorem tb_585 : Cond.instanceMethod y_O_type ∈ gTb := gm2 (List.mem_of_getElem? (i := 64) rfl) rfl
theorem tb_586 : Cond.selects R_O y_O_type y_O_type ∈ gTb := gm2 (List.mem_of_getElem? (i := 65) rfl) rfl
theorem tb_587 : Cond.methodLink R_L 22 y_M_type ∈ gTb := gm4 (List.mem_of_getElem? (i := 184) rfl) rfl
theorem tb_588 : Cond.methodLink R_L 23 y_O_put ∈ gTb := gm2 (List.mem_of_getElem? (i := 82) rfl) rfl
theorem tb_589 : Cond.instanceMethod y_O_put ∈ gTb := gm2 (List.mem_of_getElem? (i := 83) rfl) rfl
theorem tb_590 : Cond.selects R_O y_O_put y_O_put ∈ gTb := gm2 (List.mem_of_getElem? (i := 84) rfl) rfl
theorem tb_591 : Cond.methodLink R_L 27 y_M_put ∈ gTb := gm4 (List.mem_of_getElem? (i := 192) rfl) rfl
theorem tb_592 : Cond.methodLink R_L 28 y_O_link ∈ gTb := gm2 (List.mem_of_getElem? (i := 91) rfl) rfl
theorem tb_593 : Cond.instanceMethod y_O_link ∈ gTb := gm2 (List.mem_of_getElem? (i := 92) rfl) rfl
theorem tb_594 : Cond.selects R_O y_O_link y_O_link ∈ gTb := gm2 (List.mem_of_getElem? (i := 93) rfl) rfl
theorem tb_595 : Cond.methodLink R_L 31 y_M_link ∈ gTb := gm4 (List.mem_of_getElem? (i := 200) rfl) rfl
theorem tb_596 : Cond.methodLink R_L 32 y_O_objects ∈ gTb := gm2 (List.mem_of_getElem? (i := 96) rfl) rfl
theorem tb_597 : Cond.instanceMethod y_O_objects ∈ gTb := gm2 (List.mem_of_getElem? (i := 97) rfl) rfl
theorem tb_598 : Cond.selects R_O y_O_objects y_O_objects ∈ gTb := gm2 (List.mem_of_getElem? (i := 98) rfl) rfl
theorem tb_599 : Cond.methodLink R_L 36 y_M_objects ∈ gTb := gm4 (List.mem_of_getElem? (i := 204) rfl) rfl
theorem tb_600 : Cond.instanceMethod y_M_objects ∈ gTb := gm4 (List.mem_of_getElem? (i := 205) rfl) rfl
theorem tb_601 : Cond.selects R_M y_M_objects y_M_objects ∈ gTb := gm4 (List.mem_of_getElem? (i := 206) rfl) rfl
theorem tb_602 : Cond.methodLink R_L 37 y_O_kind ∈ gTb := gm2 (List.mem_of_getElem? (i := 100) rfl) rfl
theorem tb_603 : Cond.instanceMethod y_O_kind ∈ gTb := gm2 (List.mem_of_getElem? (i := 101) rfl) rfl
theorem tb_604 : Cond.selects R_O y_O_kind y_O_kind ∈ gTb := gm2 (List.mem_of_getElem? (i := 102) rfl) rfl
theorem tb_605 : Cond.methodLink R_L 41 y_M_kind ∈ gTb := gm4 (List.mem_of_getElem? (i := 208) rfl) rfl
theorem tb_606 : Cond.instanceMethod y_M_kind ∈ gTb := gm4 (List.mem_of_getElem? (i := 209) rfl) rfl
theorem tb_607 : Cond.selects R_M y_M_kind y_M_kind ∈ gTb := gm4 (List.mem_of_getElem? (i := 210) rfl) rfl
theorem tb_608 : Cond.methodLink R_L 42 y_O_size ∈ gTb := gm2 (List.mem_of_getElem? (i := 104) rfl) rfl
theorem tb_609 : Cond.instanceMethod y_O_size ∈ gTb := gm2 (List.mem_of_getElem? (i := 105) rfl) rfl
theorem tb_610 : Cond.selects R_O y_O_size y_O_size ∈ gTb := gm2 (List.mem_of_getElem? (i := 106) rfl) rfl
theorem tb_611 : Cond.methodLink R_L 45 y_M_size ∈ gTb := gm4 (List.mem_of_getElem? (i := 212) rfl) rfl
theorem tb_612 : Cond.instanceMethod y_M_size ∈ gTb := gm4 (List.mem_of_getElem? (i := 213) rfl) rfl
theorem tb_613 : Cond.selects R_M y_M_size y_M_size ∈ gTb := gm4 (List.mem_of_getElem? (i := 214) rfl) rfl
theorem tb_614 : Cond.methodLink R_L 46 y_O_holds ∈ gTb := gm2 (List.mem_of_getElem? (i := 108) rfl) rfl
theorem tb_615 : Cond.instanceMethod y_O_holds ∈ gTb := gm2 (List.mem_of_getElem? (i := 109) rfl) rfl
theorem tb_616 : Cond.selects R_O y_O_holds y_O_holds ∈ gTb := gm2 (List.mem_of_getElem? (i := 110) rfl) rfl
theorem tb_617 : Cond.methodLink R_L 49 y_M_holds ∈ gTb := gm4 (List.mem_of_getElem? (i := 216) rfl) rfl
theorem tb_618 : Cond.methodLink R_L 50 y_O_value ∈ gTb := gm2 (List.mem_of_getElem? (i := 116) rfl) rfl
theorem tb_619 : Cond.instanceMethod y_O_value ∈ gTb := gm2 (List.mem_of_getElem? (i := 117) rfl) rfl
theorem tb_620 : Cond.selects R_O y_O_value y_O_value ∈ gTb := gm2 (List.mem_of_getElem? (i := 118) rfl) rfl
theorem tb_621 : Cond.methodLink R_L 53 y_M_value ∈ gTb := gm4 (List.mem_of_getElem? (i := 220) rfl) rfl
theorem tb_622 : Cond.instanceMethod y_M_value ∈ gTb := gm4 (List.mem_of_getElem? (i := 221) rfl) rfl
theorem tb_623 : Cond.selects R_M y_M_value y_M_value ∈ gTb := gm4 (List.mem_of_getElem? (i := 222) rfl) rfl
theorem tb_624 : Cond.methodLink R_L 54 y_O_alike ∈ gTb := gm2 (List.mem_of_getElem? (i := 128) rfl) rfl
theorem tb_625 : Cond.instanceMethod y_O_alike ∈ gTb := gm2 (List.mem_of_getElem? (i := 129) rfl) rfl
theorem tb_626 : Cond.selects R_O y_O_alike y_O_alike ∈ gTb := gm2 (List.mem_of_getElem? (i := 130) rfl) rfl
theorem tb_627 : Cond.methodLink R_L 58 y_M_alike ∈ gTb := gm4 (List.mem_of_getElem? (i := 228) rfl) rfl
theorem tb_628 : Cond.instanceMethod y_M_alike ∈ gTb := gm4 (List.mem_of_getElem? (i := 229) rfl) rfl
theorem tb_629 : Cond.selects R_M y_M_alike y_M_alike ∈ gTb := gm4 (List.mem_of_getElem? (i := 230) rfl) rfl
theorem tb_630 : Cond.methodLink R_L 59 y_O_shared ∈ gTb := gm2 (List.mem_of_getElem? (i := 163) rfl) rfl
theorem tb_631 : Cond.instanceMethod y_O_shared ∈ gTb := gm2 (List.mem_of_getElem? (i := 164) rfl) rfl
theorem tb_632 : Cond.selects R_O y_O_shared y_O_shared ∈ gTb := gm2 (List.mem_of_getElem? (i := 165) rfl) rfl
theorem tb_633 : Cond.methodLink R_L 62 y_M_shared ∈ gTb := gm4 (List.mem_of_getElem? (i := 236) rfl) rfl
theorem tb_634 : Cond.instanceMethod y_M_shared ∈ gTb := gm4 (List.mem_of_getElem? (i := 237) rfl) rfl
theorem tb_635 : Cond.selects R_M y_M_shared y_M_shared ∈ gTb := gm4 (List.mem_of_getElem? (i := 238) rfl) rfl
theorem tb_636 : Cond.methodLink R_L 63 y_O_encode ∈ gTb := gm2 (List.mem_of_getElem? (i := 191) rfl) rfl
theorem tb_637 : Cond.instanceMethod y_O_encode ∈ gTb := gm2 (List.mem_of_getElem? (i := 192) rfl) rfl
theorem tb_638 : Cond.selects R_O y_O_encode y_O_encode ∈ gTb := gm2 (List.mem_of_getElem? (i := 193) rfl) rfl
theorem tb_639 : Cond.methodLink R_L 66 y_M_encode ∈ gTb := gm5 (List.mem_of_getElem? (i := 5) rfl) rfl
theorem tb_640 : Cond.instanceMethod y_M_encode ∈ gTb := gm5 (List.mem_of_getElem? (i := 6) rfl) rfl
theorem tb_641 : Cond.selects R_M y_M_encode y_M_encode ∈ gTb := gm5 (List.mem_of_getElem? (i := 7) rfl) rfl
theorem tb_642 : Cond.methodLink R_L 67 y_O_decode ∈ gTb := gm3 (List.mem_of_getElem? (i := 80) rfl) rfl
theorem tb_643 : Cond.instanceMethod y_O_decode ∈ gTb := gm3 (List.mem_of_getElem? (i := 81) rfl) rfl
theorem tb_644 : Cond.selects R_O y_O_decode y_O_decode ∈ gTb := gm3 (List.mem_of_getElem? (i := 82) rfl) rfl
theorem tb_645 : Cond.methodLink R_L 70 y_M_decode ∈ gTb := gm5 (List.mem_of_getElem? (i := 63) rfl) rfl
theorem tb_646 : Cond.instanceMethod y_M_decode ∈ gTb := gm5 (List.mem_of_getElem? (i := 64) rfl) rfl
theorem tb_647 : Cond.selects R_M y_M_decode y_M_decode ∈ gTb := gm5 (List.mem_of_getElem? (i := 65) rfl) rfl
theorem tb_648 : Cond.methodLink R_L 71 y_O_clear ∈ gTb := gm4 (List.mem_of_getElem? (i := 38) rfl) rfl
theorem tb_649 : Cond.instanceMethod y_O_clear ∈ gTb := gm4 (List.mem_of_getElem? (i := 39) rfl) rfl
theorem tb_650 : Cond.selects R_O y_O_clear y_O_clear ∈ gTb := gm4 (List.mem_of_getElem? (i := 40) rfl) rfl
theorem tb_651 : Cond.methodLink R_L 74 y_M_clear ∈ gTb := gm4 (List.mem_of_getElem? (i := 224) rfl) rfl
theorem tb_652 : Cond.instanceMethod y_M_clear ∈ gTb := gm4 (List.mem_of_getElem? (i := 225) rfl) rfl
theorem tb_653 : Cond.selects R_M y_M_clear y_M_clear ∈ gTb := gm4 (List.mem_of_getElem? (i := 226) rfl) rfl
theorem tb_654 : Cond.methodLink R_L 75 y_O_understand ∈ gTb := gm4 (List.mem_of_getElem? (i := 42) rfl) rfl
theorem tb_655 : Cond.instanceMethod y_O_understand ∈ gTb := gm4 (List.mem_of_getElem? (i := 43) rfl) rfl
theorem tb_656 : Cond.selects R_O y_O_understand y_O_understand ∈ gTb := gm4 (List.mem_of_getElem? (i := 44) rfl) rfl
theorem tb_657 : Cond.methodLink R_L 79 y_M_understand ∈ gTb := gm5 (List.mem_of_getElem? (i := 59) rfl) rfl
theorem tb_658 : Cond.instanceMethod y_M_understand ∈ gTb := gm5 (List.mem_of_getElem? (i := 60) rfl) rfl
theorem tb_659 : Cond.selects R_M y_M_understand y_M_understand ∈ gTb := gm5 (List.mem_of_getElem? (i := 61) rfl) rfl
theorem tb_660 : Cond.methodLink R_L 80 y_O_length ∈ gTb := gm4 (List.mem_of_getElem? (i := 46) rfl) rfl
theorem tb_661 : Cond.instanceMethod y_O_length ∈ gTb := gm4 (List.mem_of_getElem? (i := 47) rfl) rfl
theorem tb_662 : Cond.selects R_O y_O_length y_O_length ∈ gTb := gm4 (List.mem_of_getElem? (i := 48) rfl) rfl
theorem tb_663 : Cond.methodLink R_L 83 y_M_length ∈ gTb := gm5 (List.mem_of_getElem? (i := 39) rfl) rfl
theorem tb_664 : Cond.instanceMethod y_M_length ∈ gTb := gm5 (List.mem_of_getElem? (i := 40) rfl) rfl
theorem tb_665 : Cond.selects R_M y_M_length y_M_length ∈ gTb := gm5 (List.mem_of_getElem? (i := 41) rfl) rfl
theorem tb_666 : Cond.methodLink R_L 84 y_O_charAt ∈ gTb := gm4 (List.mem_of_getElem? (i := 50) rfl) rfl
theorem tb_667 : Cond.instanceMethod y_O_charAt ∈ gTb := gm4 (List.mem_of_getElem? (i := 51) rfl) rfl
theorem tb_668 : Cond.selects R_O y_O_charAt y_O_charAt ∈ gTb := gm4 (List.mem_of_getElem? (i := 52) rfl) rfl
theorem tb_669 : Cond.methodLink R_L 87 y_M_charAt ∈ gTb := gm5 (List.mem_of_getElem? (i := 43) rfl) rfl
theorem tb_670 : Cond.instanceMethod y_M_charAt ∈ gTb := gm5 (List.mem_of_getElem? (i := 44) rfl) rfl
theorem tb_671 : Cond.selects R_M y_M_charAt y_M_charAt ∈ gTb := gm5 (List.mem_of_getElem? (i := 45) rfl) rfl
theorem tb_672 : Cond.methodLink R_L 88 y_O_feed ∈ gTb := gm4 (List.mem_of_getElem? (i := 55) rfl) rfl
theorem tb_673 : Cond.instanceMethod y_O_feed ∈ gTb := gm4 (List.mem_of_getElem? (i := 56) rfl) rfl
theorem tb_674 : Cond.selects R_O y_O_feed y_O_feed ∈ gTb := gm4 (List.mem_of_getElem? (i := 57) rfl) rfl
theorem tb_675 : Cond.methodLink R_L 92 y_M_feed ∈ gTb := gm5 (List.mem_of_getElem? (i := 47) rfl) rfl
theorem tb_676 : Cond.instanceMethod y_M_feed ∈ gTb := gm5 (List.mem_of_getElem? (i := 48) rfl) rfl
theorem tb_677 : Cond.selects R_M y_M_feed y_M_feed ∈ gTb := gm5 (List.mem_of_getElem? (i := 49) rfl) rfl
theorem tb_678 : Cond.methodLink R_L 93 y_O_alter ∈ gTb := gm4 (List.mem_of_getElem? (i := 60) rfl) rfl
theorem tb_679 : Cond.instanceMethod y_O_alter ∈ gTb := gm4 (List.mem_of_getElem? (i := 61) rfl) rfl
theorem tb_680 : Cond.selects R_O y_O_alter y_O_alter ∈ gTb := gm4 (List.mem_of_getElem? (i := 62) rfl) rfl
theorem tb_681 : Cond.methodLink R_L 96 y_M_alter ∈ gTb := gm5 (List.mem_of_getElem? (i := 51) rfl) rfl
theorem tb_682 : Cond.instanceMethod y_M_alter ∈ gTb := gm5 (List.mem_of_getElem? (i := 52) rfl) rfl
theorem tb_683 : Cond.selects R_M y_M_alter y_M_alter ∈ gTb := gm5 (List.mem_of_getElem? (i := 53) rfl) rfl
theorem tb_684 : Cond.methodLink R_L 97 y_O_cut ∈ gTb := gm4 (List.mem_of_getElem? (i := 64) rfl) rfl
theorem tb_685 : Cond.instanceMethod y_O_cut ∈ gTb := gm4 (List.mem_of_getElem? (i := 65) rfl) rfl
theorem tb_686 : Cond.selects R_O y_O_cut y_O_cut ∈ gTb := gm4 (List.mem_of_getElem? (i := 66) rfl) rfl
theorem tb_687 : Cond.methodLink R_L 101 y_M_cut ∈ gTb := gm5 (List.mem_of_getElem? (i := 55) rfl) rfl
theorem tb_688 : Cond.instanceMethod y_M_cut ∈ gTb := gm5 (List.mem_of_getElem? (i := 56) rfl) rfl
theorem tb_689 : Cond.selects R_M y_M_cut y_M_cut ∈ gTb := gm5 (List.mem_of_getElem? (i := 57) rfl) rfl
theorem tb_690 : Cond.classLink R_L 7 R_O ∈ gTb := gm1 (List.mem_of_getElem? (i := 17) rfl) rfl
theorem tb_691 : Cond.instantiable R_O 8 ∈ gTb := gm1 (List.mem_of_getElem? (i := 18) rfl) rfl
theorem tb_692 : Cond.methodLink R_L 9 y_O_init ∈ gTb := gm1 (List.mem_of_getElem? (i := 19) rfl) rfl
theorem tb_693 : Cond.instanceMethod y_O_init ∈ gTb := gm1 (List.mem_of_getElem? (i := 20) rfl) rfl
theorem tb_694 : Cond.classLink R_L 10 R_M ∈ gTb := gm4 (List.mem_of_getElem? (i := 68) rfl) rfl
theorem tb_695 : Cond.instantiable R_M 35 ∈ gTb := gm4 (List.mem_of_getElem? (i := 69) rfl) rfl
theorem tb_696 : Cond.methodLink R_L 12 y_M_init ∈ gTb := gm4 (List.mem_of_getElem? (i := 70) rfl) rfl
theorem tb_697 : Cond.instanceMethod y_M_init ∈ gTb := gm4 (List.mem_of_getElem? (i := 71) rfl) rfl
