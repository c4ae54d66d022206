theorem tb_0 : Cond.fieldLink R_E 46 "GraphPages$Elements" "count" "I" ∈ gTb := gm1 (List.mem_of_getElem? (i := 151) rfl) rfl
theorem tb_1 : Cond.fieldLink R_E 50 "GraphPages$Elements" "attributeCount" "I" ∈ gTb := gm1 (List.mem_of_getElem? (i := 170) rfl) rfl
theorem tb_2 : Cond.fieldLink R_E 53 "GraphPages$Elements" "textCount" "I" ∈ gTb := gm1 (List.mem_of_getElem? (i := 177) rfl) rfl
theorem tb_3 : Cond.fieldLink R_P 15 "GraphPages$Page" "end" "I" ∈ gTb := gm1 (List.mem_of_getElem? (i := 67) rfl) rfl
theorem tb_4 : Cond.fieldLink R_P 9 "GraphPages$Page" "characters" "[C" ∈ gTb := gm1 (List.mem_of_getElem? (i := 71) rfl) rfl
theorem tb_5 : Cond.methodLink R_F 19 y_E_removeAll ∈ gTb := gm3 (List.mem_of_getElem? (i := 88) rfl) rfl
theorem tb_6 : Cond.instanceMethod y_E_removeAll ∈ gTb := gm3 (List.mem_of_getElem? (i := 89) rfl) rfl
theorem tb_7 : Cond.selects R_E y_E_removeAll y_E_removeAll ∈ gTb := gm3 (List.mem_of_getElem? (i := 90) rfl) rfl
theorem tb_8 : Cond.initialized R_E ∈ gTb := gm1 (List.mem_of_getElem? (i := 7) rfl) rfl
theorem tb_9 : Cond.fieldLink R_F 15 "GraphPages$FormReader" "elements" "LGraphPages$Elements;" ∈ gTb := gm1 (List.mem_of_getElem? (i := 216) rfl) rfl
theorem tb_10 : Cond.fieldLink R_F 24 "GraphPages$FormReader" "place" "I" ∈ gTb := gm1 (List.mem_of_getElem? (i := 217) rfl) rfl
theorem tb_11 : Cond.fieldLink R_F 28 "GraphPages$FormReader" "open" "I" ∈ gTb := gm1 (List.mem_of_getElem? (i := 218) rfl) rfl
theorem tb_12 : Cond.fieldLink R_F 31 "GraphPages$FormReader" "depth" "I" ∈ gTb := gm1 (List.mem_of_getElem? (i := 219) rfl) rfl
theorem tb_13 : Cond.fieldLink R_F 9 "GraphPages$FormReader" "page" "LGraphPages$Page;" ∈ gTb := gm1 (List.mem_of_getElem? (i := 215) rfl) rfl
theorem tb_14 : Cond.fieldLink R_F 34 "GraphPages$Page" "end" "I" ∈ gTb := gm1 (List.mem_of_getElem? (i := 69) rfl) rfl
theorem tb_15 : Cond.fieldLink R_F 43 "GraphPages$Elements" "count" "I" ∈ gTb := gm1 (List.mem_of_getElem? (i := 152) rfl) rfl
theorem tb_16 : Cond.fieldLink R_G 28 "GraphPages$Graph" "count" "I" ∈ gTb := gm1 (List.mem_of_getElem? (i := 32) rfl) rfl
theorem tb_17 : Cond.methodLink R_G 32 y_G_has ∈ gTb := gm2 (List.mem_of_getElem? (i := 71) rfl) rfl
theorem tb_18 : Cond.instanceMethod y_G_has ∈ gTb := gm2 (List.mem_of_getElem? (i := 72) rfl) rfl
theorem tb_19 : Cond.selects R_G y_G_has y_G_has ∈ gTb := gm2 (List.mem_of_getElem? (i := 73) rfl) rfl
theorem tb_20 : Cond.initialized R_G ∈ gTb := gm1 (List.mem_of_getElem? (i := 2) rfl) rfl
theorem tb_21 : Cond.fieldLink R_G 9 "GraphPages$Graph" "kinds" "[I" ∈ gTb := gm1 (List.mem_of_getElem? (i := 34) rfl) rfl
theorem tb_22 : Cond.fieldLink R_G 15 "GraphPages$Graph" "sizes" "[I" ∈ gTb := gm1 (List.mem_of_getElem? (i := 38) rfl) rfl
theorem tb_23 : Cond.fieldLink R_G 18 "GraphPages$Graph" "contents" "[I" ∈ gTb := gm1 (List.mem_of_getElem? (i := 43) rfl) rfl
theorem tb_24 : Cond.fieldLink R_G 21 "GraphPages$Graph" "values" "[I" ∈ gTb := gm1 (List.mem_of_getElem? (i := 44) rfl) rfl
theorem tb_25 : Cond.methodLink R_G 40 y_G_setSlot ∈ gTb := gm2 (List.mem_of_getElem? (i := 59) rfl) rfl
theorem tb_26 : Cond.instanceMethod y_G_setSlot ∈ gTb := gm2 (List.mem_of_getElem? (i := 60) rfl) rfl
theorem tb_27 : Cond.selects R_G y_G_setSlot y_G_setSlot ∈ gTb := gm2 (List.mem_of_getElem? (i := 61) rfl) rfl
theorem tb_28 : Cond.methodLink R_G 36 y_G_lay ∈ gTb := gm2 (List.mem_of_getElem? (i := 55) rfl) rfl
theorem tb_29 : Cond.instanceMethod y_G_lay ∈ gTb := gm2 (List.mem_of_getElem? (i := 56) rfl) rfl
theorem tb_30 : Cond.selects R_G y_G_lay y_G_lay ∈ gTb := gm2 (List.mem_of_getElem? (i := 57) rfl) rfl
theorem tb_31 : Cond.fieldLink R_G 24 "GraphPages$Graph" "characters" "[C" ∈ gTb := gm1 (List.mem_of_getElem? (i := 45) rfl) rfl
theorem tb_32 : Cond.methodLink R_O 77 y_G_add ∈ gTb := gm2 (List.mem_of_getElem? (i := 51) rfl) rfl
theorem tb_33 : Cond.instanceMethod y_G_add ∈ gTb := gm2 (List.mem_of_getElem? (i := 52) rfl) rfl
theorem tb_34 : Cond.selects R_G y_G_add y_G_add ∈ gTb := gm2 (List.mem_of_getElem? (i := 53) rfl) rfl
theorem tb_35 : Cond.fieldLink R_O 10 "GraphPages" "graph" "LGraphPages$Graph;" ∈ gTb := gm2 (List.mem_of_getElem? (i := 22) rfl) rfl
theorem tb_36 : Cond.fieldLink R_O 73 "GraphPages$Graph" "count" "I" ∈ gTb := gm1 (List.mem_of_getElem? (i := 31) rfl) rfl
theorem tb_37 : Cond.methodLink R_O 81 y_G_isText ∈ gTb := gm2 (List.mem_of_getElem? (i := 67) rfl) rfl
theorem tb_38 : Cond.instanceMethod y_G_isText ∈ gTb := gm2 (List.mem_of_getElem? (i := 68) rfl) rfl
theorem tb_39 : Cond.selects R_G y_G_isText y_G_isText ∈ gTb := gm2 (List.mem_of_getElem? (i := 69) rfl) rfl
theorem tb_40 : Cond.methodLink R_O 85 y_O_isPrintable ∈ gTb := gm2 (List.mem_of_getElem? (i := 75) rfl) rfl
theorem tb_41 : Cond.static y_O_isPrintable ∈ gTb := gm2 (List.mem_of_getElem? (i := 76) rfl) rfl
theorem tb_42 : Cond.initialized R_O ∈ gTb := gm1 (List.mem_of_getElem? (i := 1) rfl) rfl
theorem tb_43 : Cond.methodLink R_O 88 y_G_addCharacter ∈ gTb := gm2 (List.mem_of_getElem? (i := 78) rfl) rfl
theorem tb_44 : Cond.instanceMethod y_G_addCharacter ∈ gTb := gm2 (List.mem_of_getElem? (i := 79) rfl) rfl
theorem tb_45 : Cond.selects R_G y_G_addCharacter y_G_addCharacter ∈ gTb := gm2 (List.mem_of_getElem? (i := 80) rfl) rfl
theorem tb_46 : Cond.methodLink R_O 92 y_G_hasSlot ∈ gTb := gm2 (List.mem_of_getElem? (i := 86) rfl) rfl
theorem tb_47 : Cond.instanceMethod y_G_hasSlot ∈ gTb := gm2 (List.mem_of_getElem? (i := 87) rfl) rfl
theorem tb_48 : Cond.selects R_G y_G_hasSlot y_G_hasSlot ∈ gTb := gm2 (List.mem_of_getElem? (i := 88) rfl) rfl
theorem tb_49 : Cond.methodLink R_O 96 y_G_setSlot ∈ gTb := gm2 (List.mem_of_getElem? (i := 90) rfl) rfl
theorem tb_50 : Cond.methodLink R_O 100 y_G_has ∈ gTb := gm2 (List.mem_of_getElem? (i := 95) rfl) rfl
theorem tb_51 : Cond.fieldLink R_O 103 "GraphPages$Graph" "kinds" "[I" ∈ gTb := gm1 (List.mem_of_getElem? (i := 37) rfl) rfl
theorem tb_52 : Cond.fieldLink R_O 107 "GraphPages$Graph" "sizes" "[I" ∈ gTb := gm1 (List.mem_of_getElem? (i := 41) rfl) rfl
theorem tb_53 : Cond.methodLink R_O 110 y_G_contentOf ∈ gTb := gm2 (List.mem_of_getElem? (i := 112) rfl) rfl
theorem tb_54 : Cond.instanceMethod y_G_contentOf ∈ gTb := gm2 (List.mem_of_getElem? (i := 113) rfl) rfl
theorem tb_55 : Cond.selects R_G y_G_contentOf y_G_contentOf ∈ gTb := gm2 (List.mem_of_getElem? (i := 114) rfl) rfl
theorem tb_56 : Cond.methodLink R_O 116 y_G_characterOf ∈ gTb := gm2 (List.mem_of_getElem? (i := 124) rfl) rfl
theorem tb_57 : Cond.instanceMethod y_G_characterOf ∈ gTb := gm2 (List.mem_of_getElem? (i := 125) rfl) rfl
theorem tb_58 : Cond.selects R_G y_G_characterOf y_G_characterOf ∈ gTb := gm2 (List.mem_of_getElem? (i := 126) rfl) rfl
theorem tb_59 : Cond.methodLink R_O 113 y_G_valueOf ∈ gTb := gm2 (List.mem_of_getElem? (i := 120) rfl) rfl
theorem tb_60 : Cond.instanceMethod y_G_valueOf ∈ gTb := gm2 (List.mem_of_getElem? (i := 121) rfl) rfl
theorem tb_61 : Cond.selects R_G y_G_valueOf y_G_valueOf ∈ gTb := gm2 (List.mem_of_getElem? (i := 122) rfl) rfl
theorem tb_62 : Cond.fieldLink R_O 39 "GraphPages" "matching" "LGraphPages$Matching;" ∈ gTb := gm2 (List.mem_of_getElem? (i := 26) rfl) rfl
theorem tb_63 : Cond.fieldLink R_O 32 "GraphPages" "reach" "LGraphPages$Reach;" ∈ gTb := gm2 (List.mem_of_getElem? (i := 25) rfl) rfl
theorem tb_64 : Cond.fieldLink R_O 48 "GraphPages" "writer" "LGraphPages$Writer;" ∈ gTb := gm2 (List.mem_of_getElem? (i := 27) rfl) rfl
theorem tb_65 : Cond.methodLink R_O 137 y_F_isWellFormed ∈ gTb := gm3 (List.mem_of_getElem? (i := 84) rfl) rfl
theorem tb_66 : Cond.instanceMethod y_F_isWellFormed ∈ gTb := gm3 (List.mem_of_getElem? (i := 85) rfl) rfl
theorem tb_67 : Cond.selects R_F y_F_isWellFormed y_F_isWellFormed ∈ gTb := gm3 (List.mem_of_getElem? (i := 86) rfl) rfl
theorem tb_68 : Cond.initialized R_F ∈ gTb := gm1 (List.mem_of_getElem? (i := 8) rfl) rfl
theorem tb_69 : Cond.fieldLink R_O 60 "GraphPages" "formReader" "LGraphPages$FormReader;" ∈ gTb := gm2 (List.mem_of_getElem? (i := 28) rfl) rfl
theorem tb_70 : Cond.fieldLink R_O 69 "GraphPages" "graphReader" "LGraphPages$GraphReader;" ∈ gTb := gm2 (List.mem_of_getElem? (i := 29) rfl) rfl
theorem tb_71 : Cond.fieldLink R_O 23 "GraphPages" "understood" "[Z" ∈ gTb := gm2 (List.mem_of_getElem? (i := 24) rfl) rfl
theorem tb_72 : Cond.fieldLink R_O 19 "GraphPages" "page" "LGraphPages$Page;" ∈ gTb := gm2 (List.mem_of_getElem? (i := 23) rfl) rfl
theorem tb_73 : Cond.fieldLink R_O 134 "GraphPages$Page" "end" "I" ∈ gTb := gm1 (List.mem_of_getElem? (i := 70) rfl) rfl
theorem tb_74 : Cond.methodLink R_O 151 y_P_codeAt ∈ gTb := gm4 (List.mem_of_getElem? (i := 54) rfl) rfl
theorem tb_75 : Cond.instanceMethod y_P_codeAt ∈ gTb := gm3 (List.mem_of_getElem? (i := 97) rfl) rfl
theorem tb_76 : Cond.selects R_P y_P_codeAt y_P_codeAt ∈ gTb := gm3 (List.mem_of_getElem? (i := 98) rfl) rfl
theorem tb_77 : Cond.initialized R_P ∈ gTb := gm1 (List.mem_of_getElem? (i := 3) rfl) rfl
theorem tb_78 : Cond.methodLink R_O 155 y_P_append ∈ gTb := gm4 (List.mem_of_getElem? (i := 59) rfl) rfl
theorem tb_79 : Cond.instanceMethod y_P_append ∈ gTb := gm3 (List.mem_of_getElem? (i := 15) rfl) rfl
theorem tb_80 : Cond.selects R_P y_P_append y_P_append ∈ gTb := gm3 (List.mem_of_getElem? (i := 16) rfl) rfl
theorem tb_81 : Cond.fieldLink R_O 159 "GraphPages$Page" "characters" "[C" ∈ gTb := gm1 (List.mem_of_getElem? (i := 72) rfl) rfl
theorem tb_82 : Cond.fieldLink R_M 87 "GraphPagesModel" "count" "I" ∈ gTb := gm4 (List.mem_of_getElem? (i := 74) rfl) rfl
theorem tb_83 : Cond.fieldLink R_M 7 "GraphPagesModel" "sort" "[I" ∈ gTb := gm4 (List.mem_of_getElem? (i := 75) rfl) rfl
theorem tb_84 : Cond.fieldLink R_M 13 "GraphPagesModel" "room" "[I" ∈ gTb := gm4 (List.mem_of_getElem? (i := 76) rfl) rfl
theorem tb_85 : Cond.fieldLink R_M 16 "GraphPagesModel" "what" "[I" ∈ gTb := gm4 (List.mem_of_getElem? (i := 77) rfl) rfl
theorem tb_86 : Cond.methodLink R_M 91 y_M_object ∈ gTb := gm4 (List.mem_of_getElem? (i := 188) rfl) rfl
theorem tb_87 : Cond.instanceMethod y_M_object ∈ gTb := gm4 (List.mem_of_getElem? (i := 190) rfl) rfl
theorem tb_88 : Cond.selects R_M y_M_object y_M_object ∈ gTb := gmS (by decide +kernel) rfl
theorem tb_89 : Cond.initialized R_M ∈ gTb := gm1 (List.mem_of_getElem? (i := 10) rfl) rfl
theorem tb_90 : Cond.fieldLink R_M 22 "GraphPagesModel" "letters" "[I" ∈ gTb := gm4 (List.mem_of_getElem? (i := 79) rfl) rfl
theorem tb_91 : Cond.methodLink R_M 95 y_M_slotThere ∈ gTb := gm4 (List.mem_of_getElem? (i := 196) rfl) rfl
theorem tb_92 : Cond.instanceMethod y_M_slotThere ∈ gTb := gm4 (List.mem_of_getElem? (i := 198) rfl) rfl
theorem tb_93 : Cond.selects R_M y_M_slotThere y_M_slotThere ∈ gTb := gmS (by decide +kernel) rfl
theorem tb_94 : Cond.fieldLink R_M 19 "GraphPagesModel" "cell" "[I" ∈ gTb := gm4 (List.mem_of_getElem? (i := 78) rfl) rfl
theorem tb_95 : Cond.fieldLink R_M 81 "GraphPagesModel" "pair" "[I" ∈ gTb := gm4 (List.mem_of_getElem? (i := 107) rfl) rfl
theorem tb_96 : Cond.fieldLink R_M 84 "GraphPagesModel" "back" "[I" ∈ gTb := gm4 (List.mem_of_getElem? (i := 108) rfl) rfl
theorem tb_97 : Cond.fieldLink R_M 69 "GraphPagesModel" "refs" "[I" ∈ gTb := gm4 (List.mem_of_getElem? (i := 101) rfl) rfl
theorem tb_98 : Cond.fieldLink R_M 128 "GraphPagesModel" "given" "I" ∈ gTb := gm4 (List.mem_of_getElem? (i := 104) rfl) rfl
theorem tb_99 : Cond.fieldLink R_M 75 "GraphPagesModel" "order" "[I" ∈ gTb := gm4 (List.mem_of_getElem? (i := 103) rfl) rfl
theorem tb_100 : Cond.fieldLink R_M 154 "GraphPagesModel" "at" "I" ∈ gTb := gm4 (List.mem_of_getElem? (i := 96) rfl) rfl
theorem tb_101 : Cond.fieldLink R_M 157 "GraphPagesModel" "open" "I" ∈ gTb := gm4 (List.mem_of_getElem? (i := 97) rfl) rfl
theorem tb_102 : Cond.fieldLink R_M 160 "GraphPagesModel" "depth" "I" ∈ gTb := gm4 (List.mem_of_getElem? (i := 98) rfl) rfl
theorem tb_103 : Cond.fieldLink R_M 163 "GraphPagesModel" "elements" "I" ∈ gTb := gm4 (List.mem_of_getElem? (i := 83) rfl) rfl
theorem tb_104 : Cond.fieldLink R_M 166 "GraphPagesModel" "attrs" "I" ∈ gTb := gm4 (List.mem_of_getElem? (i := 92) rfl) rfl
theorem tb_105 : Cond.fieldLink R_M 110 "GraphPagesModel" "used" "I" ∈ gTb := gm4 (List.mem_of_getElem? (i := 81) rfl) rfl
theorem tb_106 : Cond.fieldLink R_M 29 "GraphPagesModel" "page" "[C" ∈ gTb := gm4 (List.mem_of_getElem? (i := 82) rfl) rfl
theorem tb_107 : Cond.methodLink R_M 223 y_M_wellFormed ∈ gTb := gm5 (List.mem_of_getElem? (i := 67) rfl) rfl
theorem tb_108 : Cond.instanceMethod y_M_wellFormed ∈ gTb := gm5 (List.mem_of_getElem? (i := 69) rfl) rfl
theorem tb_109 : Cond.selects R_M y_M_wellFormed y_M_wellFormed ∈ gTb := gmS (by decide +kernel) rfl
theorem tb_110 : Cond.methodLink R_M 236 y_M_make ∈ gTb := gm5 (List.mem_of_getElem? (i := 150) rfl) rfl
theorem tb_111 : Cond.instanceMethod y_M_make ∈ gTb := gm4 (List.mem_of_getElem? (i := 181) rfl) rfl
theorem tb_112 : Cond.selects R_M y_M_make y_M_make ∈ gTb := gm4 (List.mem_of_getElem? (i := 182) rfl) rfl
theorem tb_113 : Cond.methodLink R_M 239 y_M_type ∈ gTb := gm5 (List.mem_of_getElem? (i := 151) rfl) rfl
theorem tb_114 : Cond.instanceMethod y_M_type ∈ gTb := gm4 (List.mem_of_getElem? (i := 185) rfl) rfl
theorem tb_115 : Cond.selects R_M y_M_type y_M_type ∈ gTb := gm4 (List.mem_of_getElem? (i := 186) rfl) rfl
theorem tb_116 : Cond.fieldLink R_M 33 "GraphPagesModel" "name" "[I" ∈ gTb := gm4 (List.mem_of_getElem? (i := 84) rfl) rfl
theorem tb_117 : Cond.fieldLink R_M 45 "GraphPagesModel" "textLength" "[I" ∈ gTb := gm4 (List.mem_of_getElem? (i := 88) rfl) rfl
theorem tb_118 : Cond.fieldLink R_M 54 "GraphPagesModel" "made" "[I" ∈ gTb := gm4 (List.mem_of_getElem? (i := 91) rfl) rfl
theorem tb_119 : Cond.fieldLink R_M 48 "GraphPagesModel" "text" "[C" ∈ gTb := gm4 (List.mem_of_getElem? (i := 89) rfl) rfl
theorem tb_120 : Cond.fieldLink R_M 36 "GraphPagesModel" "parent" "[I" ∈ gTb := gm4 (List.mem_of_getElem? (i := 85) rfl) rfl
theorem tb_121 : Cond.fieldLink R_M 51 "GraphPagesModel" "slot" "[I" ∈ gTb := gm4 (List.mem_of_getElem? (i := 90) rfl) rfl
theorem tb_122 : Cond.fieldLink R_M 25 "GraphPagesModel" "known" "[Z" ∈ gTb := gm4 (List.mem_of_getElem? (i := 80) rfl) rfl
theorem tb_123 : Cond.methodLink R_G 3 objectInit ∈ gTb := gm1 (List.mem_of_getElem? (i := 30) rfl) rfl
theorem tb_124 : Cond.instanceMethod objectInit ∈ gTb := gm1 (List.mem_of_getElem? (i := 23) rfl) rfl
theorem tb_125 : Cond.arrayClass .int ∈ gTb := gm1 (List.mem_of_getElem? (i := 59) rfl) rfl
theorem tb_126 : Cond.arrayClass .char ∈ gTb := gm1 (List.mem_of_getElem? (i := 60) rfl) rfl
theorem tb_127 : Cond.methodLink R_P 3 objectInit ∈ gTb := gm1 (List.mem_of_getElem? (i := 66) rfl) rfl
theorem tb_128 : Cond.methodLink R_R 3 objectInit ∈ gTb := gm1 (List.mem_of_getElem? (i := 83) rfl) rfl
theorem tb_129 : Cond.fieldLink R_R 9 "GraphPages$Reach" "references" "[I" ∈ gTb := gm1 (List.mem_of_getElem? (i := 85) rfl) rfl
theorem tb_130 : Cond.fieldLink R_R 15 "GraphPages$Reach" "order" "[I" ∈ gTb := gm1 (List.mem_of_getElem? (i := 86) rfl) rfl
theorem tb_131 : Cond.fieldLink R_R 18 "GraphPages$Reach" "graph" "LGraphPages$Graph;" ∈ gTb := gm1 (List.mem_of_getElem? (i := 84) rfl) rfl
theorem tb_132 : Cond.methodLink R_A 3 objectInit ∈ gTb := gm1 (List.mem_of_getElem? (i := 103) rfl) rfl
theorem tb_133 : Cond.fieldLink R_A 9 "GraphPages$Matching" "partners" "[I" ∈ gTb := gm1 (List.mem_of_getElem? (i := 105) rfl) rfl
theorem tb_134 : Cond.fieldLink R_A 15 "GraphPages$Matching" "partnersBack" "[I" ∈ gTb := gm1 (List.mem_of_getElem? (i := 106) rfl) rfl
theorem tb_135 : Cond.fieldLink R_A 18 "GraphPages$Matching" "order" "[I" ∈ gTb := gm1 (List.mem_of_getElem? (i := 107) rfl) rfl
theorem tb_136 : Cond.fieldLink R_A 21 "GraphPages$Matching" "graph" "LGraphPages$Graph;" ∈ gTb := gm1 (List.mem_of_getElem? (i := 104) rfl) rfl
theorem tb_137 : Cond.methodLink R_W 3 objectInit ∈ gTb := gm1 (List.mem_of_getElem? (i := 125) rfl) rfl
theorem tb_138 : Cond.fieldLink R_W 9 "GraphPages$Writer" "ids" "[I" ∈ gTb := gm1 (List.mem_of_getElem? (i := 129) rfl) rfl
theorem tb_139 : Cond.fieldLink R_W 15 "GraphPages$Writer" "order" "[I" ∈ gTb := gm1 (List.mem_of_getElem? (i := 130) rfl) rfl
theorem tb_140 : Cond.fieldLink R_W 18 "GraphPages$Writer" "graph" "LGraphPages$Graph;" ∈ gTb := gm1 (List.mem_of_getElem? (i := 126) rfl) rfl
theorem tb_141 : Cond.fieldLink R_W 22 "GraphPages$Writer" "reach" "LGraphPages$Reach;" ∈ gTb := gm1 (List.mem_of_getElem? (i := 127) rfl) rfl
theorem tb_142 : Cond.fieldLink R_W 26 "GraphPages$Writer" "page" "LGraphPages$Page;" ∈ gTb := gm1 (List.mem_of_getElem? (i := 128) rfl) rfl
theorem tb_143 : Cond.methodLink R_E 3 objectInit ∈ gTb := gm1 (List.mem_of_getElem? (i := 150) rfl) rfl
theorem tb_144 : Cond.fieldLink R_E 11 "GraphPages$Elements" "names" "[I" ∈ gTb := gm1 (List.mem_of_getElem? (i := 154) rfl) rfl
theorem tb_145 : Cond.fieldLink R_E 15 "GraphPages$Elements" "parents" "[I" ∈ gTb := gm1 (List.mem_of_getElem? (i := 157) rfl) rfl
theorem tb_146 : Cond.fieldLink R_E 18 "GraphPages$Elements" "children" "[I" ∈ gTb := gm1 (List.mem_of_getElem? (i := 160) rfl) rfl
theorem tb_147 : Cond.fieldLink R_E 21 "GraphPages$Elements" "attributeStarts" "[I" ∈ gTb := gm1 (List.mem_of_getElem? (i := 162) rfl) rfl
theorem tb_148 : Cond.fieldLink R_E 24 "GraphPages$Elements" "attributeCounts" "[I" ∈ gTb := gm1 (List.mem_of_getElem? (i := 164) rfl) rfl
theorem tb_149 : Cond.fieldLink R_E 27 "GraphPages$Elements" "textStarts" "[I" ∈ gTb := gm1 (List.mem_of_getElem? (i := 166) rfl) rfl
theorem tb_150 : Cond.fieldLink R_E 30 "GraphPages$Elements" "textCounts" "[I" ∈ gTb := gm1 (List.mem_of_getElem? (i := 168) rfl) rfl
theorem tb_151 : Cond.fieldLink R_E 33 "GraphPages$Elements" "attributeNames" "[I" ∈ gTb := gm1 (List.mem_of_getElem? (i := 171) rfl) rfl
theorem tb_152 : Cond.fieldLink R_E 36 "GraphPages$Elements" "valueStarts" "[I" ∈ gTb := gm1 (List.mem_of_getElem? (i := 173) rfl) rfl
theorem tb_153 : Cond.fieldLink R_E 39 "GraphPages$Elements" "valueCounts" "[I" ∈ gTb := gm1 (List.mem_of_getElem? (i := 175) rfl) rfl
theorem tb_154 : Cond.fieldLink R_E 42 "GraphPages$Elements" "text" "[C" ∈ gTb := gm1 (List.mem_of_getElem? (i := 178) rfl) rfl
theorem tb_155 : Cond.methodLink R_F 3 objectInit ∈ gTb := gm1 (List.mem_of_getElem? (i := 214) rfl) rfl
theorem tb_156 : Cond.methodLink R_H 7 objectInit ∈ gTb := gm1 (List.mem_of_getElem? (i := 236) rfl) rfl
theorem tb_157 : Cond.fieldLink R_H 15 "GraphPages$GraphReader" "objectsOfElements" "[I" ∈ gTb := gm2 (List.mem_of_getElem? (i := 0) rfl) rfl
theorem tb_158 : Cond.fieldLink R_H 19 "GraphPages$GraphReader" "objectsOfIds" "[I" ∈ gTb := gm2 (List.mem_of_getElem? (i := 1) rfl) rfl
theorem tb_159 : Cond.fieldLink R_H 22 "GraphPages$GraphReader" "nextSlots" "[I" ∈ gTb := gm2 (List.mem_of_getElem? (i := 2) rfl) rfl
theorem tb_160 : Cond.fieldLink R_H 25 "GraphPages$GraphReader" "takenSlots" "[I" ∈ gTb := gm2 (List.mem_of_getElem? (i := 3) rfl) rfl
theorem tb_161 : Cond.fieldLink R_H 28 "GraphPages$GraphReader" "page" "LGraphPages$Page;" ∈ gTb := gm1 (List.mem_of_getElem? (i := 237) rfl) rfl
theorem tb_162 : Cond.fieldLink R_H 32 "GraphPages$GraphReader" "elements" "LGraphPages$Elements;" ∈ gTb := gm1 (List.mem_of_getElem? (i := 238) rfl) rfl
theorem tb_163 : Cond.fieldLink R_H 36 "GraphPages$GraphReader" "graph" "LGraphPages$Graph;" ∈ gTb := gm1 (List.mem_of_getElem? (i := 239) rfl) rfl
theorem tb_164 : Cond.methodLink R_O 1 objectInit ∈ gTb := gm1 (List.mem_of_getElem? (i := 22) rfl) rfl
theorem tb_165 : Cond.instanceMethod y_G_init ∈ gTb := gm1 (List.mem_of_getElem? (i := 28) rfl) rfl
theorem tb_166 : Cond.instanceMethod y_P_init ∈ gTb := gm1 (List.mem_of_getElem? (i := 64) rfl) rfl
theorem tb_167 : Cond.instanceMethod y_E_init ∈ gTb := gm1 (List.mem_of_getElem? (i := 148) rfl) rfl
theorem tb_168 : Cond.classLink R_O 7 R_G ∈ gTb := gm1 (List.mem_of_getElem? (i := 25) rfl) rfl
theorem tb_169 : Cond.instantiable R_G 6 ∈ gTb := gm1 (List.mem_of_getElem? (i := 26) rfl) rfl
theorem tb_170 : Cond.classLink R_O 16 R_P ∈ gTb := gm1 (List.mem_of_getElem? (i := 61) rfl) rfl
theorem tb_171 : Cond.instantiable R_P 2 ∈ gTb := gm1 (List.mem_of_getElem? (i := 62) rfl) rfl
theorem tb_172 : Cond.arrayClass .boolean ∈ gTb := gm1 (List.mem_of_getElem? (i := 97) rfl) rfl
theorem tb_173 : Cond.classLink R_O 27 R_R ∈ gTb := gm1 (List.mem_of_getElem? (i := 78) rfl) rfl
theorem tb_174 : Cond.instantiable R_R 4 ∈ gTb := gm1 (List.mem_of_getElem? (i := 79) rfl) rfl
theorem tb_175 : Cond.initialized R_R ∈ gTb := gm1 (List.mem_of_getElem? (i := 4) rfl) rfl
theorem tb_176 : Cond.methodLink R_O 29 y_R_init ∈ gTb := gm1 (List.mem_of_getElem? (i := 80) rfl) rfl
theorem tb_177 : Cond.instanceMethod y_R_init ∈ gTb := gm1 (List.mem_of_getElem? (i := 81) rfl) rfl
theorem tb_178 : Cond.classLink R_O 36 R_A ∈ gTb := gm1 (List.mem_of_getElem? (i := 98) rfl) rfl
theorem tb_179 : Cond.instantiable R_A 5 ∈ gTb := gm1 (List.mem_of_getElem? (i := 99) rfl) rfl
theorem tb_180 : Cond.initialized R_A ∈ gTb := gm1 (List.mem_of_getElem? (i := 5) rfl) rfl
theorem tb_181 : Cond.methodLink R_O 38 y_A_init ∈ gTb := gm1 (List.mem_of_getElem? (i := 100) rfl) rfl
theorem tb_182 : Cond.instanceMethod y_A_init ∈ gTb := gm1 (List.mem_of_getElem? (i := 101) rfl) rfl
theorem tb_183 : Cond.classLink R_O 43 R_W ∈ gTb := gm1 (List.mem_of_getElem? (i := 120) rfl) rfl
theorem tb_184 : Cond.instantiable R_W 6 ∈ gTb := gm1 (List.mem_of_getElem? (i := 121) rfl) rfl
theorem tb_185 : Cond.initialized R_W ∈ gTb := gm1 (List.mem_of_getElem? (i := 6) rfl) rfl
theorem tb_186 : Cond.methodLink R_O 45 y_W_init ∈ gTb := gm1 (List.mem_of_getElem? (i := 122) rfl) rfl
theorem tb_187 : Cond.instanceMethod y_W_init ∈ gTb := gm1 (List.mem_of_getElem? (i := 123) rfl) rfl
theorem tb_188 : Cond.classLink R_O 52 R_E ∈ gTb := gm1 (List.mem_of_getElem? (i := 145) rfl) rfl
theorem tb_189 : Cond.instantiable R_E 14 ∈ gTb := gm1 (List.mem_of_getElem? (i := 146) rfl) rfl
theorem tb_190 : Cond.classLink R_O 55 R_F ∈ gTb := gm1 (List.mem_of_getElem? (i := 209) rfl) rfl
theorem tb_191 : Cond.instantiable R_F 5 ∈ gTb := gm1 (List.mem_of_getElem? (i := 210) rfl) rfl
theorem tb_192 : Cond.methodLink R_O 57 y_F_init ∈ gTb := gm1 (List.mem_of_getElem? (i := 211) rfl) rfl
theorem tb_193 : Cond.instanceMethod y_F_init ∈ gTb := gm1 (List.mem_of_getElem? (i := 212) rfl) rfl
theorem tb_194 : Cond.classLink R_O 64 R_H ∈ gTb := gm1 (List.mem_of_getElem? (i := 231) rfl) rfl
theorem tb_195 : Cond.instantiable R_H 8 ∈ gTb := gm1 (List.mem_of_getElem? (i := 232) rfl) rfl
theorem tb_196 : Cond.initialized R_H ∈ gTb := gm1 (List.mem_of_getElem? (i := 9) rfl) rfl
theorem tb_197 : Cond.methodLink R_O 66 y_H_init ∈ gTb := gm1 (List.mem_of_getElem? (i := 233) rfl) rfl
theorem tb_198 : Cond.instanceMethod y_H_init ∈ gTb := gm1 (List.mem_of_getElem? (i := 234) rfl) rfl
theorem tb_199 : Cond.methodLink R_M 1 objectInit ∈ gTb := gm4 (List.mem_of_getElem? (i := 73) rfl) rfl
theorem tb_200 : Cond.fieldLink R_M 39 "GraphPagesModel" "firstAttr" "[I" ∈ gTb := gm4 (List.mem_of_getElem? (i := 86) rfl) rfl
theorem tb_201 : Cond.fieldLink R_M 42 "GraphPagesModel" "attrCount" "[I" ∈ gTb := gm4 (List.mem_of_getElem? (i := 87) rfl) rfl
theorem tb_202 : Cond.fieldLink R_M 57 "GraphPagesModel" "attrName" "[I" ∈ gTb := gm4 (List.mem_of_getElem? (i := 93) rfl) rfl
theorem tb_203 : Cond.fieldLink R_M 60 "GraphPagesModel" "attrFrom" "[I" ∈ gTb := gm4 (List.mem_of_getElem? (i := 94) rfl) rfl
theorem tb_204 : Cond.fieldLink R_M 63 "GraphPagesModel" "attrTo" "[I" ∈ gTb := gm4 (List.mem_of_getElem? (i := 95) rfl) rfl
theorem tb_205 : Cond.fieldLink R_M 66 "GraphPagesModel" "reached" "[Z" ∈ gTb := gm4 (List.mem_of_getElem? (i := 100) rfl) rfl
theorem tb_206 : Cond.fieldLink R_M 72 "GraphPagesModel" "id" "[I" ∈ gTb := gm4 (List.mem_of_getElem? (i := 102) rfl) rfl
theorem tb_207 : Cond.fieldLink R_M 78 "GraphPagesModel" "pile" "[I" ∈ gTb := gm4 (List.mem_of_getElem? (i := 105) rfl) rfl
theorem tb_208 : Cond.methodLink R_L 13 y_O_make ∈ gTb := gm2 (List.mem_of_getElem? (i := 47) rfl) rfl
theorem tb_209 : Cond.instanceMethod y_O_make ∈ gTb := gm2 (List.mem_of_getElem? (i := 48) rfl) rfl
theorem tb_210 : Cond.selects R_O y_O_make y_O_make ∈ gTb := gm2 (List.mem_of_getElem? (i := 49) rfl) rfl
theorem tb_211 : Cond.methodLink R_L 17 y_M_make ∈ gTb := gm4 (List.mem_of_getElem? (i := 180) rfl) rfl
theorem tb_212 : Cond.methodLink R_L 18 y_O_type ∈ gTb := gm2 (List.mem_of_getElem? (i := 63) rfl) rfl
theorem tb_213 : Cond.instanceMethod y_O_type ∈ gTb := gm2 (List.mem_of_getElem? (i := 64) rfl) rfl
theorem tb_214 : Cond.selects R_O y_O_type y_O_type ∈ gTb := gm2 (List.mem_of_getElem? (i := 65) rfl) rfl
theorem tb_215 : Cond.methodLink R_L 22 y_M_type ∈ gTb := gm4 (List.mem_of_getElem? (i := 184) rfl) rfl
theorem tb_216 : Cond.methodLink R_L 23 y_O_put ∈ gTb := gm2 (List.mem_of_getElem? (i := 82) rfl) rfl
theorem tb_217 : Cond.instanceMethod y_O_put ∈ gTb := gm2 (List.mem_of_getElem? (i := 83) rfl) rfl
theorem tb_218 : Cond.selects R_O y_O_put y_O_put ∈ gTb := gm2 (List.mem_of_getElem? (i := 84) rfl) rfl
theorem tb_219 : Cond.methodLink R_L 27 y_M_put ∈ gTb := gm4 (List.mem_of_getElem? (i := 192) rfl) rfl
theorem tb_220 : Cond.instanceMethod y_M_put ∈ gTb := gm4 (List.mem_of_getElem? (i := 193) rfl) rfl
theorem tb_221 : Cond.selects R_M y_M_put y_M_put ∈ gTb := gm4 (List.mem_of_getElem? (i := 194) rfl) rfl
theorem tb_222 : Cond.methodLink R_L 28 y_O_link ∈ gTb := gm2 (List.mem_of_getElem? (i := 91) rfl) rfl
theorem tb_223 : Cond.instanceMethod y_O_link ∈ gTb := gm2 (List.mem_of_getElem? (i := 92) rfl) rfl
theorem tb_224 : Cond.selects R_O y_O_link y_O_link ∈ gTb := gm2 (List.mem_of_getElem? (i := 93) rfl) rfl
theorem tb_225 : Cond.methodLink R_L 31 y_M_link ∈ gTb := gm4 (List.mem_of_getElem? (i := 200) rfl) rfl
theorem tb_226 : Cond.instanceMethod y_M_link ∈ gTb := gm4 (List.mem_of_getElem? (i := 201) rfl) rfl
theorem tb_227 : Cond.selects R_M y_M_link y_M_link ∈ gTb := gm4 (List.mem_of_getElem? (i := 202) rfl) rfl
theorem tb_228 : Cond.methodLink R_L 32 y_O_objects ∈ gTb := gm2 (List.mem_of_getElem? (i := 96) rfl) rfl
theorem tb_229 : Cond.instanceMethod y_O_objects ∈ gTb := gm2 (List.mem_of_getElem? (i := 97) rfl) rfl
theorem tb_230 : Cond.selects R_O y_O_objects y_O_objects ∈ gTb := gm2 (List.mem_of_getElem? (i := 98) rfl) rfl
theorem tb_231 : Cond.methodLink R_L 36 y_M_objects ∈ gTb := gm4 (List.mem_of_getElem? (i := 204) rfl) rfl
theorem tb_232 : Cond.instanceMethod y_M_objects ∈ gTb := gm4 (List.mem_of_getElem? (i := 205) rfl) rfl
theorem tb_233 : Cond.selects R_M y_M_objects y_M_objects ∈ gTb := gm4 (List.mem_of_getElem? (i := 206) rfl) rfl
theorem tb_234 : Cond.methodLink R_L 37 y_O_kind ∈ gTb := gm2 (List.mem_of_getElem? (i := 100) rfl) rfl
theorem tb_235 : Cond.instanceMethod y_O_kind ∈ gTb := gm2 (List.mem_of_getElem? (i := 101) rfl) rfl
theorem tb_236 : Cond.selects R_O y_O_kind y_O_kind ∈ gTb := gm2 (List.mem_of_getElem? (i := 102) rfl) rfl
theorem tb_237 : Cond.methodLink R_L 41 y_M_kind ∈ gTb := gm4 (List.mem_of_getElem? (i := 208) rfl) rfl
theorem tb_238 : Cond.instanceMethod y_M_kind ∈ gTb := gm4 (List.mem_of_getElem? (i := 209) rfl) rfl
theorem tb_239 : Cond.selects R_M y_M_kind y_M_kind ∈ gTb := gm4 (List.mem_of_getElem? (i := 210) rfl) rfl
theorem tb_240 : Cond.methodLink R_L 42 y_O_size ∈ gTb := gm2 (List.mem_of_getElem? (i := 104) rfl) rfl
theorem tb_241 : Cond.instanceMethod y_O_size ∈ gTb := gm2 (List.mem_of_getElem? (i := 105) rfl) rfl
theorem tb_242 : Cond.selects R_O y_O_size y_O_size ∈ gTb := gm2 (List.mem_of_getElem? (i := 106) rfl) rfl
theorem tb_243 : Cond.methodLink R_L 45 y_M_size ∈ gTb := gm4 (List.mem_of_getElem? (i := 212) rfl) rfl
theorem tb_244 : Cond.instanceMethod y_M_size ∈ gTb := gm4 (List.mem_of_getElem? (i := 213) rfl) rfl
theorem tb_245 : Cond.selects R_M y_M_size y_M_size ∈ gTb := gm4 (List.mem_of_getElem? (i := 214) rfl) rfl
theorem tb_246 : Cond.methodLink R_L 46 y_O_holds ∈ gTb := gm2 (List.mem_of_getElem? (i := 108) rfl) rfl
theorem tb_247 : Cond.instanceMethod y_O_holds ∈ gTb := gm2 (List.mem_of_getElem? (i := 109) rfl) rfl
theorem tb_248 : Cond.selects R_O y_O_holds y_O_holds ∈ gTb := gm2 (List.mem_of_getElem? (i := 110) rfl) rfl
theorem tb_249 : Cond.methodLink R_L 49 y_M_holds ∈ gTb := gm4 (List.mem_of_getElem? (i := 216) rfl) rfl
theorem tb_250 : Cond.instanceMethod y_M_holds ∈ gTb := gm4 (List.mem_of_getElem? (i := 217) rfl) rfl
theorem tb_251 : Cond.selects R_M y_M_holds y_M_holds ∈ gTb := gm4 (List.mem_of_getElem? (i := 218) rfl) rfl
theorem tb_252 : Cond.methodLink R_L 50 y_O_value ∈ gTb := gm2 (List.mem_of_getElem? (i := 116) rfl) rfl
theorem tb_253 : Cond.instanceMethod y_O_value ∈ gTb := gm2 (List.mem_of_getElem? (i := 117) rfl) rfl
theorem tb_254 : Cond.selects R_O y_O_value y_O_value ∈ gTb := gm2 (List.mem_of_getElem? (i := 118) rfl) rfl
theorem tb_255 : Cond.methodLink R_L 53 y_M_value ∈ gTb := gm4 (List.mem_of_getElem? (i := 220) rfl) rfl
theorem tb_256 : Cond.instanceMethod y_M_value ∈ gTb := gm4 (List.mem_of_getElem? (i := 221) rfl) rfl
theorem tb_257 : Cond.selects R_M y_M_value y_M_value ∈ gTb := gm4 (List.mem_of_getElem? (i := 222) rfl) rfl
theorem tb_258 : Cond.methodLink R_L 54 y_O_alike ∈ gTb := gm2 (List.mem_of_getElem? (i := 128) rfl) rfl
theorem tb_259 : Cond.instanceMethod y_O_alike ∈ gTb := gm2 (List.mem_of_getElem? (i := 129) rfl) rfl
theorem tb_260 : Cond.selects R_O y_O_alike y_O_alike ∈ gTb := gm2 (List.mem_of_getElem? (i := 130) rfl) rfl
theorem tb_261 : Cond.methodLink R_L 58 y_M_alike ∈ gTb := gm4 (List.mem_of_getElem? (i := 228) rfl) rfl
theorem tb_262 : Cond.instanceMethod y_M_alike ∈ gTb := gm4 (List.mem_of_getElem? (i := 229) rfl) rfl
theorem tb_263 : Cond.selects R_M y_M_alike y_M_alike ∈ gTb := gm4 (List.mem_of_getElem? (i := 230) rfl) rfl
theorem tb_264 : Cond.methodLink R_L 59 y_O_shared ∈ gTb := gm2 (List.mem_of_getElem? (i := 163) rfl) rfl
theorem tb_265 : Cond.instanceMethod y_O_shared ∈ gTb := gm2 (List.mem_of_getElem? (i := 164) rfl) rfl
theorem tb_266 : Cond.selects R_O y_O_shared y_O_shared ∈ gTb := gm2 (List.mem_of_getElem? (i := 165) rfl) rfl
theorem tb_267 : Cond.methodLink R_L 62 y_M_shared ∈ gTb := gm4 (List.mem_of_getElem? (i := 236) rfl) rfl
theorem tb_268 : Cond.instanceMethod y_M_shared ∈ gTb := gm4 (List.mem_of_getElem? (i := 237) rfl) rfl
theorem tb_269 : Cond.selects R_M y_M_shared y_M_shared ∈ gTb := gm4 (List.mem_of_getElem? (i := 238) rfl) rfl
theorem tb_270 : Cond.methodLink R_L 63 y_O_encode ∈ gTb := gm2 (List.mem_of_getElem? (i := 191) rfl) rfl
theorem tb_271 : Cond.instanceMethod y_O_encode ∈ gTb := gm2 (List.mem_of_getElem? (i := 192) rfl) rfl
theorem tb_272 : Cond.selects R_O y_O_encode y_O_encode ∈ gTb := gm2 (List.mem_of_getElem? (i := 193) rfl) rfl
theorem tb_273 : Cond.methodLink R_L 66 y_M_encode ∈ gTb := gm5 (List.mem_of_getElem? (i := 5) rfl) rfl
theorem tb_274 : Cond.instanceMethod y_M_encode ∈ gTb := gm5 (List.mem_of_getElem? (i := 6) rfl) rfl
theorem tb_275 : Cond.selects R_M y_M_encode y_M_encode ∈ gTb := gm5 (List.mem_of_getElem? (i := 7) rfl) rfl
theorem tb_276 : Cond.methodLink R_L 67 y_O_decode ∈ gTb := gm3 (List.mem_of_getElem? (i := 80) rfl) rfl
theorem tb_277 : Cond.instanceMethod y_O_decode ∈ gTb := gm3 (List.mem_of_getElem? (i := 81) rfl) rfl
theorem tb_278 : Cond.selects R_O y_O_decode y_O_decode ∈ gTb := gm3 (List.mem_of_getElem? (i := 82) rfl) rfl
theorem tb_279 : Cond.methodLink R_L 70 y_M_decode ∈ gTb := gm5 (List.mem_of_getElem? (i := 63) rfl) rfl
theorem tb_280 : Cond.instanceMethod y_M_decode ∈ gTb := gm5 (List.mem_of_getElem? (i := 64) rfl) rfl
theorem tb_281 : Cond.selects R_M y_M_decode y_M_decode ∈ gTb := gm5 (List.mem_of_getElem? (i := 65) rfl) rfl
theorem tb_282 : Cond.methodLink R_L 71 y_O_clear ∈ gTb := gm4 (List.mem_of_getElem? (i := 38) rfl) rfl
theorem tb_283 : Cond.instanceMethod y_O_clear ∈ gTb := gm4 (List.mem_of_getElem? (i := 39) rfl) rfl
theorem tb_284 : Cond.selects R_O y_O_clear y_O_clear ∈ gTb := gm4 (List.mem_of_getElem? (i := 40) rfl) rfl
theorem tb_285 : Cond.methodLink R_L 74 y_M_clear ∈ gTb := gm4 (List.mem_of_getElem? (i := 224) rfl) rfl
theorem tb_286 : Cond.instanceMethod y_M_clear ∈ gTb := gm4 (List.mem_of_getElem? (i := 225) rfl) rfl
theorem tb_287 : Cond.selects R_M y_M_clear y_M_clear ∈ gTb := gm4 (List.mem_of_getElem? (i := 226) rfl) rfl
theorem tb_288 : Cond.methodLink R_L 75 y_O_understand ∈ gTb := gm4 (List.mem_of_getElem? (i := 42) rfl) rfl
theorem tb_289 : Cond.instanceMethod y_O_understand ∈ gTb := gm4 (List.mem_of_getElem? (i := 43) rfl) rfl
theorem tb_290 : Cond.selects R_O y_O_understand y_O_understand ∈ gTb := gm4 (List.mem_of_getElem? (i := 44) rfl) rfl
theorem tb_291 : Cond.methodLink R_L 79 y_M_understand ∈ gTb := gm5 (List.mem_of_getElem? (i := 59) rfl) rfl
theorem tb_292 : Cond.instanceMethod y_M_understand ∈ gTb := gm5 (List.mem_of_getElem? (i := 60) rfl) rfl
theorem tb_293 : Cond.selects R_M y_M_understand y_M_understand ∈ gTb := gm5 (List.mem_of_getElem? (i := 61) rfl) rfl
theorem tb_294 : Cond.methodLink R_L 80 y_O_length ∈ gTb := gm4 (List.mem_of_getElem? (i := 46) rfl) rfl
theorem tb_295 : Cond.instanceMethod y_O_length ∈ gTb := gm4 (List.mem_of_getElem? (i := 47) rfl) rfl
theorem tb_296 : Cond.selects R_O y_O_length y_O_length ∈ gTb := gm4 (List.mem_of_getElem? (i := 48) rfl) rfl
theorem tb_297 : Cond.methodLink R_L 83 y_M_length ∈ gTb := gm5 (List.mem_of_getElem? (i := 39) rfl) rfl
theorem tb_298 : Cond.instanceMethod y_M_length ∈ gTb := gm5 (List.mem_of_getElem? (i := 40) rfl) rfl
theorem tb_299 : Cond.selects R_M y_M_length y_M_length ∈ gTb := gm5 (List.mem_of_getElem? (i := 41) rfl) rfl
theorem tb_300 : Cond.methodLink R_L 84 y_O_charAt ∈ gTb := gm4 (List.mem_of_getElem? (i := 50) rfl) rfl
theorem tb_301 : Cond.instanceMethod y_O_charAt ∈ gTb := gm4 (List.mem_of_getElem? (i := 51) rfl) rfl
theorem tb_302 : Cond.selects R_O y_O_charAt y_O_charAt ∈ gTb := gm4 (List.mem_of_getElem? (i := 52) rfl) rfl
theorem tb_303 : Cond.methodLink R_L 87 y_M_charAt ∈ gTb := gm5 (List.mem_of_getElem? (i := 43) rfl) rfl
theorem tb_304 : Cond.instanceMethod y_M_charAt ∈ gTb := gm5 (List.mem_of_getElem? (i := 44) rfl) rfl
theorem tb_305 : Cond.selects R_M y_M_charAt y_M_charAt ∈ gTb := gm5 (List.mem_of_getElem? (i := 45) rfl) rfl
theorem tb_306 : Cond.methodLink R_L 88 y_O_feed ∈ gTb := gm4 (List.mem_of_getElem? (i := 55) rfl) rfl
theorem tb_307 : Cond.instanceMethod y_O_feed ∈ gTb := gm4 (List.mem_of_getElem? (i := 56) rfl) rfl
theorem tb_308 : Cond.selects R_O y_O_feed y_O_feed ∈ gTb := gm4 (List.mem_of_getElem? (i := 57) rfl) rfl
theorem tb_309 : Cond.methodLink R_L 92 y_M_feed ∈ gTb := gm5 (List.mem_of_getElem? (i := 47) rfl) rfl
theorem tb_310 : Cond.instanceMethod y_M_feed ∈ gTb := gm5 (List.mem_of_getElem? (i := 48) rfl) rfl
theorem tb_311 : Cond.selects R_M y_M_feed y_M_feed ∈ gTb := gm5 (List.mem_of_getElem? (i := 49) rfl) rfl
theorem tb_312 : Cond.methodLink R_L 93 y_O_alter ∈ gTb := gm4 (List.mem_of_getElem? (i := 60) rfl) rfl
theorem tb_313 : Cond.instanceMethod y_O_alter ∈ gTb := gm4 (List.mem_of_getElem? (i := 61) rfl) rfl
theorem tb_314 : Cond.selects R_O y_O_alter y_O_alter ∈ gTb := gm4 (List.mem_of_getElem? (i := 62) rfl) rfl
theorem tb_315 : Cond.methodLink R_L 96 y_M_alter ∈ gTb := gm5 (List.mem_of_getElem? (i := 51) rfl) rfl
theorem tb_316 : Cond.instanceMethod y_M_alter ∈ gTb := gm5 (List.mem_of_getElem? (i := 52) rfl) rfl
theorem tb_317 : Cond.selects R_M y_M_alter y_M_alter ∈ gTb := gm5 (List.mem_of_getElem? (i := 53) rfl) rfl
theorem tb_318 : Cond.methodLink R_L 97 y_O_cut ∈ gTb := gm4 (List.mem_of_getElem? (i := 64) rfl) rfl
theorem tb_319 : Cond.instanceMethod y_O_cut ∈ gTb := gm4 (List.mem_of_getElem? (i := 65) rfl) rfl
theorem tb_320 : Cond.selects R_O y_O_cut y_O_cut ∈ gTb := gm4 (List.mem_of_getElem? (i := 66) rfl) rfl
theorem tb_321 : Cond.methodLink R_L 101 y_M_cut ∈ gTb := gm5 (List.mem_of_getElem? (i := 55) rfl) rfl
theorem tb_322 : Cond.instanceMethod y_M_cut ∈ gTb := gm5 (List.mem_of_getElem? (i := 56) rfl) rfl
theorem tb_323 : Cond.selects R_M y_M_cut y_M_cut ∈ gTb := gm5 (List.mem_of_getElem? (i := 57) rfl) rfl
theorem tb_324 : Cond.classLink R_L 7 R_O ∈ gTb := gm1 (List.mem_of_getElem? (i := 17) rfl) rfl
theorem tb_325 : Cond.instantiable R_O 8 ∈ gTb := gm1 (List.mem_of_getElem? (i := 18) rfl) rfl
theorem tb_326 : Cond.methodLink R_L 9 y_O_init ∈ gTb := gm1 (List.mem_of_getElem? (i := 19) rfl) rfl
theorem tb_327 : Cond.instanceMethod y_O_init ∈ gTb := gm1 (List.mem_of_getElem? (i := 20) rfl) rfl
theorem tb_328 : Cond.classLink R_L 10 R_M ∈ gTb := gm4 (List.mem_of_getElem? (i := 68) rfl) rfl
theorem tb_329 : Cond.instantiable R_M 35 ∈ gTb := gm4 (List.mem_of_getElem? (i := 69) rfl) rfl
theorem tb_330 : Cond.methodLink R_L 12 y_M_init ∈ gTb := gm4 (List.mem_of_getElem? (i := 70) rfl) rfl
theorem tb_331 : Cond.instanceMethod y_M_init ∈ gTb := gm4 (List.mem_of_getElem? (i := 71) rfl) rfl
