theorem wfl2_0 : Cond.fieldLink RJ0 38 "java/lang/String" "COMPACT_STRINGS" "Z" ∈ tb := tb_in (tj_2 _ (List.mem_of_getElem? (i := 188) rfl)) rfl
theorem wfl2_1 : Cond.fieldLink RJ0 15 "java/lang/String" "coder" "B" ∈ tb := tb_in (tj_7 _ (List.mem_of_getElem? (i := 107) rfl)) rfl
theorem wfl2_2 : Cond.fieldLink RJ0 9 "java/lang/String" "value" "[B" ∈ tb := tb_in (tj_7 _ (List.mem_of_getElem? (i := 106) rfl)) rfl
theorem wml_3 : Cond.methodLink RJ0 335 yJ0_coder_7d493 ∈ tb := tb_in (tj_2 _ (List.mem_of_getElem? (i := 184) rfl)) rfl
theorem winst_4 : Cond.instanceMethod yJ0_coder_7d493 ∈ tb := tb_in (tj_2 _ (List.mem_of_getElem? (i := 185) rfl)) rfl
theorem wsel_5 : Cond.selects yJ0_coder_7d493.cls yJ0_coder_7d493 yJ0_coder_7d493 ∈ tb := tb_in (tj_2 _ (List.mem_of_getElem? (i := 186) rfl)) rfl
theorem wfl2_6 : Cond.fieldLink RJ0 1053 "jdk/internal/util/Preconditions" "SIOOBE_FORMATTER" "Ljava/util/function/BiFunction;" ∈ tb := tb_in (tj_2 _ (List.mem_of_getElem? (i := 204) rfl)) rfl
theorem wml_7 : Cond.methodLink RJ0 1059 yJ3_checkIndex_8e157 ∈ tb := tb_in (tj_2 _ (List.mem_of_getElem? (i := 206) rfl)) rfl
theorem wstat_8 : Cond.static yJ3_checkIndex_8e157 ∈ tb := tb_in (tj_2 _ (List.mem_of_getElem? (i := 207) rfl)) rfl
theorem wml_9 : Cond.methodLink RJ1 9 yJ0_checkIndex_df160 ∈ tb := tb_in (tj_2 _ (List.mem_of_getElem? (i := 201) rfl)) rfl
theorem wstat_10 : Cond.static yJ0_checkIndex_df160 ∈ tb := tb_in (tj_2 _ (List.mem_of_getElem? (i := 202) rfl)) rfl
theorem wml_11 : Cond.methodLink RJ0 492 yJ0_isLatin1_aae02 ∈ tb := tb_in (tj_2 _ (List.mem_of_getElem? (i := 194) rfl)) rfl
theorem winst_12 : Cond.instanceMethod yJ0_isLatin1_aae02 ∈ tb := tb_in (tj_2 _ (List.mem_of_getElem? (i := 195) rfl)) rfl
theorem wsel_13 : Cond.selects yJ0_isLatin1_aae02.cls yJ0_isLatin1_aae02 yJ0_isLatin1_aae02 ∈ tb := tb_in (tj_2 _ (List.mem_of_getElem? (i := 196) rfl)) rfl
theorem wml_14 : Cond.methodLink RJ0 495 yJ1_charAt_3b067 ∈ tb := tb_in (tj_2 _ (List.mem_of_getElem? (i := 198) rfl)) rfl
theorem wstat_15 : Cond.static yJ1_charAt_3b067 ∈ tb := tb_in (tj_2 _ (List.mem_of_getElem? (i := 199) rfl)) rfl
theorem wml_16 : Cond.methodLink RX11 1 objectInit ∈ tb := tb_in (tj_4 _ (List.mem_of_getElem? (i := 239) rfl)) rfl
theorem winst_17 : Cond.instanceMethod objectInit ∈ tb := tb_in (tj_1 _ (List.mem_of_getElem? (i := 26) rfl)) rfl
theorem wcode_18 : Cond.code objectInit ⟨#[0xb1]⟩ 1 none ∈ tb := tb_in (tj_1 _ (List.mem_of_getElem? (i := 27) rfl)) rfl
theorem warrc_19 : Cond.arrayClass .byte ∈ tb := tb_in (tj_1 _ (List.mem_of_getElem? (i := 81) rfl)) rfl
theorem wfl_20 : Cond.fieldLink RX11 7 (TX11 0).1 (TX11 0).2.1 (TX11 0).2.2.1 ∈ tb := tb_in (tj_5 _ (List.mem_of_getElem? (i := 0) rfl)) rfl
theorem warrc_21 : Cond.arrayClass .int ∈ tb := tb_in (tj_1 _ (List.mem_of_getElem? (i := 82) rfl)) rfl
theorem wfl_22 : Cond.fieldLink RX11 13 (TX11 3).1 (TX11 3).2.1 (TX11 3).2.2.1 ∈ tb := tb_in (tj_5 _ (List.mem_of_getElem? (i := 3) rfl)) rfl
theorem wfl_23 : Cond.fieldLink RX11 17 (TX11 4).1 (TX11 4).2.1 (TX11 4).2.2.1 ∈ tb := tb_in (tj_5 _ (List.mem_of_getElem? (i := 4) rfl)) rfl
theorem wfl_24 : Cond.fieldLink RX11 20 (TX11 5).1 (TX11 5).2.1 (TX11 5).2.2.1 ∈ tb := tb_in (tj_5 _ (List.mem_of_getElem? (i := 5) rfl)) rfl
theorem wfl_25 : Cond.fieldLink RX11 23 (TX11 6).1 (TX11 6).2.1 (TX11 6).2.2.1 ∈ tb := tb_in (tj_5 _ (List.mem_of_getElem? (i := 6) rfl)) rfl
theorem wfl_26 : Cond.fieldLink RX11 26 (TX11 7).1 (TX11 7).2.1 (TX11 7).2.2.1 ∈ tb := tb_in (tj_5 _ (List.mem_of_getElem? (i := 7) rfl)) rfl
theorem wfl_27 : Cond.fieldLink RX11 29 (TX11 15).1 (TX11 15).2.1 (TX11 15).2.2.1 ∈ tb := tb_in (tj_5 _ (List.mem_of_getElem? (i := 15) rfl)) rfl
theorem warrc_28 : Cond.arrayClass .long ∈ tb := tb_in (tj_1 _ (List.mem_of_getElem? (i := 226) rfl)) rfl
theorem wfl_29 : Cond.fieldLink RX11 32 (TX11 17).1 (TX11 17).2.1 (TX11 17).2.2.1 ∈ tb := tb_in (tj_5 _ (List.mem_of_getElem? (i := 17) rfl)) rfl
theorem wfl_30 : Cond.fieldLink RX11 36 (TX11 19).1 (TX11 19).2.1 (TX11 19).2.2.1 ∈ tb := tb_in (tj_5 _ (List.mem_of_getElem? (i := 19) rfl)) rfl
theorem wfl_31 : Cond.fieldLink RX11 39 (TX11 20).1 (TX11 20).2.1 (TX11 20).2.2.1 ∈ tb := tb_in (tj_5 _ (List.mem_of_getElem? (i := 20) rfl)) rfl
theorem wfl_32 : Cond.fieldLink RX11 42 (TX11 21).1 (TX11 21).2.1 (TX11 21).2.2.1 ∈ tb := tb_in (tj_5 _ (List.mem_of_getElem? (i := 21) rfl)) rfl
theorem wfl_33 : Cond.fieldLink RX11 46 (TX11 23).1 (TX11 23).2.1 (TX11 23).2.2.1 ∈ tb := tb_in (tj_5 _ (List.mem_of_getElem? (i := 23) rfl)) rfl
theorem wfl_34 : Cond.fieldLink RX11 49 (TX11 24).1 (TX11 24).2.1 (TX11 24).2.2.1 ∈ tb := tb_in (tj_5 _ (List.mem_of_getElem? (i := 24) rfl)) rfl
theorem wfl_35 : Cond.fieldLink RX11 52 (TX11 26).1 (TX11 26).2.1 (TX11 26).2.2.1 ∈ tb := tb_in (tj_5 _ (List.mem_of_getElem? (i := 26) rfl)) rfl
theorem wfl_36 : Cond.fieldLink RX11 55 (TX11 29).1 (TX11 29).2.1 (TX11 29).2.2.1 ∈ tb := tb_in (tj_5 _ (List.mem_of_getElem? (i := 29) rfl)) rfl
theorem wfl_37 : Cond.fieldLink RX11 58 (TX11 30).1 (TX11 30).2.1 (TX11 30).2.2.1 ∈ tb := tb_in (tj_5 _ (List.mem_of_getElem? (i := 30) rfl)) rfl
theorem wfl_38 : Cond.fieldLink RX11 61 (TX11 32).1 (TX11 32).2.1 (TX11 32).2.2.1 ∈ tb := tb_in (tj_5 _ (List.mem_of_getElem? (i := 32) rfl)) rfl
theorem wfl_39 : Cond.fieldLink RX11 64 (TX11 33).1 (TX11 33).2.1 (TX11 33).2.2.1 ∈ tb := tb_in (tj_5 _ (List.mem_of_getElem? (i := 33) rfl)) rfl
theorem wfl_40 : Cond.fieldLink RX11 67 (TX11 34).1 (TX11 34).2.1 (TX11 34).2.2.1 ∈ tb := tb_in (tj_5 _ (List.mem_of_getElem? (i := 34) rfl)) rfl
theorem warrc_41 : Cond.arrayClass .boolean ∈ tb := tb_in (tj_5 _ (List.mem_of_getElem? (i := 109) rfl)) rfl
theorem wfl_42 : Cond.fieldLink RX11 70 (TX11 35).1 (TX11 35).2.1 (TX11 35).2.2.1 ∈ tb := tb_in (tj_5 _ (List.mem_of_getElem? (i := 35) rfl)) rfl
theorem wfl_43 : Cond.fieldLink RX11 74 (TX11 1).1 (TX11 1).2.1 (TX11 1).2.2.1 ∈ tb := tb_in (tj_5 _ (List.mem_of_getElem? (i := 1) rfl)) rfl
theorem wml_44 : Cond.methodLink RX11 77 yX11_four ∈ tb := tb_in (tj_5 _ (List.mem_of_getElem? (i := 114) rfl)) rfl
theorem winst_45 : Cond.instanceMethod yX11_four ∈ tb := tb_in (tj_5 _ (List.mem_of_getElem? (i := 116) rfl)) rfl
theorem wsel_46 : Cond.selects yX11_four.cls yX11_four yX11_four ∈ tb := tb_in (sel_3 _ (List.mem_of_getElem? (i := 7) rfl)) rfl
theorem wfl_47 : Cond.fieldLink RX11 81 (TX11 9).1 (TX11 9).2.1 (TX11 9).2.2.1 ∈ tb := tb_in (tj_5 _ (List.mem_of_getElem? (i := 9) rfl)) rfl
theorem wfl_48 : Cond.fieldLink RX11 84 (TX11 8).1 (TX11 8).2.1 (TX11 8).2.2.1 ∈ tb := tb_in (tj_5 _ (List.mem_of_getElem? (i := 8) rfl)) rfl
theorem wml_49 : Cond.methodLink RX11 87 yX11_see ∈ tb := tb_in (tj_5 _ (List.mem_of_getElem? (i := 134) rfl)) rfl
theorem winst_50 : Cond.instanceMethod yX11_see ∈ tb := tb_in (tj_5 _ (List.mem_of_getElem? (i := 136) rfl)) rfl
theorem wsel_51 : Cond.selects yX11_see.cls yX11_see yX11_see ∈ tb := tb_in (sel_3 _ (List.mem_of_getElem? (i := 10) rfl)) rfl
theorem wml_52 : Cond.methodLink RX11 91 yX11_isLetter ∈ tb := tb_in (tj_5 _ (List.mem_of_getElem? (i := 147) rfl)) rfl
theorem winst_53 : Cond.instanceMethod yX11_isLetter ∈ tb := tb_in (tj_5 _ (List.mem_of_getElem? (i := 149) rfl)) rfl
theorem wsel_54 : Cond.selects yX11_isLetter.cls yX11_isLetter yX11_isLetter ∈ tb := tb_in (sel_3 _ (List.mem_of_getElem? (i := 13) rfl)) rfl
theorem wml_55 : Cond.methodLink RX11 95 yX11_isWord ∈ tb := tb_in (tj_5 _ (List.mem_of_getElem? (i := 143) rfl)) rfl
theorem winst_56 : Cond.instanceMethod yX11_isWord ∈ tb := tb_in (tj_5 _ (List.mem_of_getElem? (i := 145) rfl)) rfl
theorem wsel_57 : Cond.selects yX11_isWord.cls yX11_isWord yX11_isWord ∈ tb := tb_in (sel_3 _ (List.mem_of_getElem? (i := 12) rfl)) rfl
theorem wml_58 : Cond.methodLink RX11 99 yX11_passWord ∈ tb := tb_in (tj_5 _ (List.mem_of_getElem? (i := 168) rfl)) rfl
theorem winst_59 : Cond.instanceMethod yX11_passWord ∈ tb := tb_in (tj_5 _ (List.mem_of_getElem? (i := 170) rfl)) rfl
theorem wsel_60 : Cond.selects yX11_passWord.cls yX11_passWord yX11_passWord ∈ tb := tb_in (sel_4 _ (List.mem_of_getElem? (i := 1) rfl)) rfl
theorem wml_61 : Cond.methodLink RX11 102 yX11_isDigit ∈ tb := tb_in (tj_5 _ (List.mem_of_getElem? (i := 180) rfl)) rfl
theorem winst_62 : Cond.instanceMethod yX11_isDigit ∈ tb := tb_in (tj_5 _ (List.mem_of_getElem? (i := 182) rfl)) rfl
theorem wsel_63 : Cond.selects yX11_isDigit.cls yX11_isDigit yX11_isDigit ∈ tb := tb_in (sel_4 _ (List.mem_of_getElem? (i := 4) rfl)) rfl
theorem wml_64 : Cond.methodLink RX11 105 yX11_fails ∈ tb := tb_in (tj_5 _ (List.mem_of_getElem? (i := 156) rfl)) rfl
theorem winst_65 : Cond.instanceMethod yX11_fails ∈ tb := tb_in (tj_5 _ (List.mem_of_getElem? (i := 158) rfl)) rfl
theorem wsel_66 : Cond.selects yX11_fails.cls yX11_fails yX11_fails ∈ tb := tb_in (sel_3 _ (List.mem_of_getElem? (i := 14) rfl)) rfl
theorem wfl_67 : Cond.fieldLink RX11 109 (TX11 10).1 (TX11 10).2.1 (TX11 10).2.2.1 ∈ tb := tb_in (tj_5 _ (List.mem_of_getElem? (i := 10) rfl)) rfl
theorem wml_68 : Cond.methodLink RX11 112 yX11_in ∈ tb := tb_in (tj_5 _ (List.mem_of_getElem? (i := 184) rfl)) rfl
theorem wstat_69 : Cond.static yX11_in ∈ tb := tb_in (tj_5 _ (List.mem_of_getElem? (i := 185) rfl)) rfl
theorem wconl_70 : Cond.constantLong RX11 116 (123581014175598) ∈ tb := tb_in (tj_5 _ (List.mem_of_getElem? (i := 151) rfl)) rfl
theorem wconl_71 : Cond.constantLong RX11 118 (1752135026) ∈ tb := tb_in (tj_5 _ (List.mem_of_getElem? (i := 236) rfl)) rfl
theorem wconl_72 : Cond.constantLong RX11 120 (474214787188) ∈ tb := tb_in (tj_5 _ (List.mem_of_getElem? (i := 237) rfl)) rfl
theorem wconl_73 : Cond.constantLong RX11 122 (1852138852) ∈ tb := tb_in (tj_5 _ (List.mem_of_getElem? (i := 238) rfl)) rfl
theorem wconl_74 : Cond.constantLong RX11 124 (512970880104) ∈ tb := tb_in (tj_5 _ (List.mem_of_getElem? (i := 239) rfl)) rfl
theorem wconl_75 : Cond.constantLong RX11 126 (495739826292) ∈ tb := tb_in (tj_6 _ (List.mem_of_getElem? (i := 0) rfl)) rfl
theorem wconl_76 : Cond.constantLong RX11 128 (1818584692) ∈ tb := tb_in (tj_6 _ (List.mem_of_getElem? (i := 1) rfl)) rfl
theorem wconl_77 : Cond.constantLong RX11 130 (1668248436) ∈ tb := tb_in (tj_6 _ (List.mem_of_getElem? (i := 2) rfl)) rfl
theorem wconl_78 : Cond.constantLong RX11 132 (122545758368371) ∈ tb := tb_in (tj_6 _ (List.mem_of_getElem? (i := 3) rfl)) rfl
theorem wconl_79 : Cond.constantLong RX11 134 (107148367717744) ∈ tb := tb_in (tj_6 _ (List.mem_of_getElem? (i := 4) rfl)) rfl
theorem wconl_80 : Cond.constantLong RX11 136 (1870095716) ∈ tb := tb_in (tj_6 _ (List.mem_of_getElem? (i := 5) rfl)) rfl
theorem wconl_81 : Cond.constantLong RX11 138 (1684365940) ∈ tb := tb_in (tj_6 _ (List.mem_of_getElem? (i := 6) rfl)) rfl
theorem wconl_82 : Cond.constantLong RX11 140 (7305070) ∈ tb := tb_in (tj_6 _ (List.mem_of_getElem? (i := 7) rfl)) rfl
theorem wfl_83 : Cond.fieldLink RX11 142 (TX11 11).1 (TX11 11).2.1 (TX11 11).2.2.1 ∈ tb := tb_in (tj_5 _ (List.mem_of_getElem? (i := 11) rfl)) rfl
theorem wfl_84 : Cond.fieldLink RX11 145 (TX11 12).1 (TX11 12).2.1 (TX11 12).2.2.1 ∈ tb := tb_in (tj_5 _ (List.mem_of_getElem? (i := 12) rfl)) rfl
theorem wfl_85 : Cond.fieldLink RX11 148 (TX11 13).1 (TX11 13).2.1 (TX11 13).2.2.1 ∈ tb := tb_in (tj_5 _ (List.mem_of_getElem? (i := 13) rfl)) rfl
theorem wfl_86 : Cond.fieldLink RX11 151 (TX11 16).1 (TX11 16).2.1 (TX11 16).2.2.1 ∈ tb := tb_in (tj_5 _ (List.mem_of_getElem? (i := 16) rfl)) rfl
theorem wml_87 : Cond.methodLink RX11 154 yX11_strength ∈ tb := tb_in (tj_6 _ (List.mem_of_getElem? (i := 38) rfl)) rfl
theorem wstat_88 : Cond.static yX11_strength ∈ tb := tb_in (tj_6 _ (List.mem_of_getElem? (i := 39) rfl)) rfl
theorem wml_89 : Cond.methodLink RX11 158 yX11_puts ∈ tb := tb_in (tj_5 _ (List.mem_of_getElem? (i := 228) rfl)) rfl
theorem winst_90 : Cond.instanceMethod yX11_puts ∈ tb := tb_in (tj_5 _ (List.mem_of_getElem? (i := 230) rfl)) rfl
theorem wsel_91 : Cond.selects yX11_puts.cls yX11_puts yX11_puts ∈ tb := tb_in (sel_4 _ (List.mem_of_getElem? (i := 15) rfl)) rfl
theorem wml_92 : Cond.methodLink RX11 169 yX11_wordHere ∈ tb := tb_in (tj_5 _ (List.mem_of_getElem? (i := 232) rfl)) rfl
theorem winst_93 : Cond.instanceMethod yX11_wordHere ∈ tb := tb_in (tj_5 _ (List.mem_of_getElem? (i := 234) rfl)) rfl
theorem wsel_94 : Cond.selects yX11_wordHere.cls yX11_wordHere yX11_wordHere ∈ tb := tb_in (sel_5 _ (List.mem_of_getElem? (i := 0) rfl)) rfl
theorem wml_95 : Cond.methodLink RX11 166 yX11_makes ∈ tb := tb_in (tj_5 _ (List.mem_of_getElem? (i := 224) rfl)) rfl
theorem winst_96 : Cond.instanceMethod yX11_makes ∈ tb := tb_in (tj_5 _ (List.mem_of_getElem? (i := 226) rfl)) rfl
theorem wsel_97 : Cond.selects yX11_makes.cls yX11_makes yX11_makes ∈ tb := tb_in (sel_4 _ (List.mem_of_getElem? (i := 14) rfl)) rfl
theorem wcon_98 : Cond.constant RX11 162 (99999) ∈ tb := tb_in (tj_5 _ (List.mem_of_getElem? (i := 223) rfl)) rfl
theorem wml_99 : Cond.methodLink RX11 163 yX11_numberHere ∈ tb := tb_in (tj_5 _ (List.mem_of_getElem? (i := 176) rfl)) rfl
theorem winst_100 : Cond.instanceMethod yX11_numberHere ∈ tb := tb_in (tj_5 _ (List.mem_of_getElem? (i := 178) rfl)) rfl
theorem wsel_101 : Cond.selects yX11_numberHere.cls yX11_numberHere yX11_numberHere ∈ tb := tb_in (sel_4 _ (List.mem_of_getElem? (i := 3) rfl)) rfl
theorem wml_102 : Cond.methodLink RX11 172 yX11_value ∈ tb := tb_in (tj_5 _ (List.mem_of_getElem? (i := 219) rfl)) rfl
theorem winst_103 : Cond.instanceMethod yX11_value ∈ tb := tb_in (tj_5 _ (List.mem_of_getElem? (i := 221) rfl)) rfl
theorem wsel_104 : Cond.selects yX11_value.cls yX11_value yX11_value ∈ tb := tb_in (sel_4 _ (List.mem_of_getElem? (i := 13) rfl)) rfl
theorem wml_105 : Cond.methodLink RX11 176 yX11_term ∈ tb := tb_in (tj_5 _ (List.mem_of_getElem? (i := 215) rfl)) rfl
theorem winst_106 : Cond.instanceMethod yX11_term ∈ tb := tb_in (tj_5 _ (List.mem_of_getElem? (i := 217) rfl)) rfl
theorem wsel_107 : Cond.selects yX11_term.cls yX11_term yX11_term ∈ tb := tb_in (sel_4 _ (List.mem_of_getElem? (i := 12) rfl)) rfl
theorem wml_108 : Cond.methodLink RX11 179 yX11_sum ∈ tb := tb_in (tj_5 _ (List.mem_of_getElem? (i := 211) rfl)) rfl
theorem winst_109 : Cond.instanceMethod yX11_sum ∈ tb := tb_in (tj_5 _ (List.mem_of_getElem? (i := 213) rfl)) rfl
theorem wsel_110 : Cond.selects yX11_sum.cls yX11_sum yX11_sum ∈ tb := tb_in (sel_4 _ (List.mem_of_getElem? (i := 11) rfl)) rfl
theorem wml_111 : Cond.methodLink RX11 187 yX11_compare ∈ tb := tb_in (tj_6 _ (List.mem_of_getElem? (i := 26) rfl)) rfl
theorem winst_112 : Cond.instanceMethod yX11_compare ∈ tb := tb_in (tj_6 _ (List.mem_of_getElem? (i := 28) rfl)) rfl
theorem wsel_113 : Cond.selects yX11_compare.cls yX11_compare yX11_compare ∈ tb := tb_in (sel_5 _ (List.mem_of_getElem? (i := 5) rfl)) rfl
theorem wconl_114 : Cond.constantLong RX11 182 (7237492) ∈ tb := tb_in (tj_6 _ (List.mem_of_getElem? (i := 21) rfl)) rfl
theorem wml_115 : Cond.methodLink RX11 184 yX11_opens ∈ tb := tb_in (tj_6 _ (List.mem_of_getElem? (i := 22) rfl)) rfl
theorem winst_116 : Cond.instanceMethod yX11_opens ∈ tb := tb_in (tj_6 _ (List.mem_of_getElem? (i := 24) rfl)) rfl
theorem wsel_117 : Cond.selects yX11_opens.cls yX11_opens yX11_opens ∈ tb := tb_in (sel_5 _ (List.mem_of_getElem? (i := 4) rfl)) rfl
theorem wml_118 : Cond.methodLink RX11 190 yX11_settles ∈ tb := tb_in (tj_6 _ (List.mem_of_getElem? (i := 34) rfl)) rfl
theorem winst_119 : Cond.instanceMethod yX11_settles ∈ tb := tb_in (tj_6 _ (List.mem_of_getElem? (i := 36) rfl)) rfl
theorem wsel_120 : Cond.selects yX11_settles.cls yX11_settles yX11_settles ∈ tb := tb_in (sel_5 _ (List.mem_of_getElem? (i := 7) rfl)) rfl
theorem wml_121 : Cond.methodLink RX11 193 yX11_isInside ∈ tb := tb_in (tj_6 _ (List.mem_of_getElem? (i := 41) rfl)) rfl
theorem winst_122 : Cond.instanceMethod yX11_isInside ∈ tb := tb_in (tj_6 _ (List.mem_of_getElem? (i := 43) rfl)) rfl
theorem wsel_123 : Cond.selects yX11_isInside.cls yX11_isInside yX11_isInside ∈ tb := tb_in (sel_5 _ (List.mem_of_getElem? (i := 8) rfl)) rfl
theorem wml_124 : Cond.methodLink RX11 196 yX11_fact ∈ tb := tb_in (tj_6 _ (List.mem_of_getElem? (i := 17) rfl)) rfl
theorem winst_125 : Cond.instanceMethod yX11_fact ∈ tb := tb_in (tj_6 _ (List.mem_of_getElem? (i := 19) rfl)) rfl
theorem wsel_126 : Cond.selects yX11_fact.cls yX11_fact yX11_fact ∈ tb := tb_in (sel_5 _ (List.mem_of_getElem? (i := 3) rfl)) rfl
theorem wml_127 : Cond.methodLink RX11 199 yX11_closes ∈ tb := tb_in (tj_6 _ (List.mem_of_getElem? (i := 30) rfl)) rfl
theorem winst_128 : Cond.instanceMethod yX11_closes ∈ tb := tb_in (tj_6 _ (List.mem_of_getElem? (i := 32) rfl)) rfl
theorem wsel_129 : Cond.selects yX11_closes.cls yX11_closes yX11_closes ∈ tb := tb_in (sel_5 _ (List.mem_of_getElem? (i := 6) rfl)) rfl
theorem wconl_130 : Cond.constantLong RX11 202 (6385252) ∈ tb := tb_in (tj_6 _ (List.mem_of_getElem? (i := 45) rfl)) rfl
theorem wconl_131 : Cond.constantLong RX11 204 (28530) ∈ tb := tb_in (tj_6 _ (List.mem_of_getElem? (i := 46) rfl)) rfl
theorem wconl_132 : Cond.constantLong RX11 206 (26982) ∈ tb := tb_in (tj_6 _ (List.mem_of_getElem? (i := 8) rfl)) rfl
theorem wml_133 : Cond.methodLink RX11 208 yX11_takesWord ∈ tb := tb_in (tj_6 _ (List.mem_of_getElem? (i := 9) rfl)) rfl
theorem winst_134 : Cond.instanceMethod yX11_takesWord ∈ tb := tb_in (tj_6 _ (List.mem_of_getElem? (i := 11) rfl)) rfl
theorem wsel_135 : Cond.selects yX11_takesWord.cls yX11_takesWord yX11_takesWord ∈ tb := tb_in (sel_5 _ (List.mem_of_getElem? (i := 1) rfl)) rfl
theorem wml_136 : Cond.methodLink RX11 211 yX11_tested ∈ tb := tb_in (tj_6 _ (List.mem_of_getElem? (i := 13) rfl)) rfl
theorem winst_137 : Cond.instanceMethod yX11_tested ∈ tb := tb_in (tj_6 _ (List.mem_of_getElem? (i := 15) rfl)) rfl
theorem wsel_138 : Cond.selects yX11_tested.cls yX11_tested yX11_tested ∈ tb := tb_in (sel_5 _ (List.mem_of_getElem? (i := 2) rfl)) rfl
theorem wml_139 : Cond.methodLink RX11 214 yX11_cellHere ∈ tb := tb_in (tj_5 _ (List.mem_of_getElem? (i := 172) rfl)) rfl
theorem winst_140 : Cond.instanceMethod yX11_cellHere ∈ tb := tb_in (tj_5 _ (List.mem_of_getElem? (i := 174) rfl)) rfl
theorem wsel_141 : Cond.selects yX11_cellHere.cls yX11_cellHere yX11_cellHere ∈ tb := tb_in (sel_4 _ (List.mem_of_getElem? (i := 2) rfl)) rfl
theorem wml_142 : Cond.methodLink RX11 218 yX11_isSpanHere ∈ tb := tb_in (tj_5 _ (List.mem_of_getElem? (i := 195) rfl)) rfl
theorem winst_143 : Cond.instanceMethod yX11_isSpanHere ∈ tb := tb_in (tj_5 _ (List.mem_of_getElem? (i := 197) rfl)) rfl
theorem wsel_144 : Cond.selects yX11_isSpanHere.cls yX11_isSpanHere yX11_isSpanHere ∈ tb := tb_in (sel_4 _ (List.mem_of_getElem? (i := 7) rfl)) rfl
theorem wconl_145 : Cond.constantLong RX11 221 (126943972648308) ∈ tb := tb_in (tj_5 _ (List.mem_of_getElem? (i := 142) rfl)) rfl
theorem wconl_146 : Cond.constantLong RX11 229 (2003792491) ∈ tb := tb_in (tj_5 _ (List.mem_of_getElem? (i := 152) rfl)) rfl
theorem wconl_147 : Cond.constantLong RX11 234 (1818324336) ∈ tb := tb_in (tj_5 _ (List.mem_of_getElem? (i := 153) rfl)) rfl
theorem wml_148 : Cond.methodLink RX11 239 yX11_isLitHere ∈ tb := tb_in (tj_5 _ (List.mem_of_getElem? (i := 203) rfl)) rfl
theorem winst_149 : Cond.instanceMethod yX11_isLitHere ∈ tb := tb_in (tj_5 _ (List.mem_of_getElem? (i := 205) rfl)) rfl
theorem wsel_150 : Cond.selects yX11_isLitHere.cls yX11_isLitHere yX11_isLitHere ∈ tb := tb_in (sel_4 _ (List.mem_of_getElem? (i := 9) rfl)) rfl
theorem wml_151 : Cond.methodLink RX11 236 yX11_isLampHere ∈ tb := tb_in (tj_5 _ (List.mem_of_getElem? (i := 199) rfl)) rfl
theorem winst_152 : Cond.instanceMethod yX11_isLampHere ∈ tb := tb_in (tj_5 _ (List.mem_of_getElem? (i := 201) rfl)) rfl
theorem wsel_153 : Cond.selects yX11_isLampHere.cls yX11_isLampHere yX11_isLampHere ∈ tb := tb_in (sel_4 _ (List.mem_of_getElem? (i := 8) rfl)) rfl
theorem wml_154 : Cond.methodLink RX11 231 yX11_isWorkHere ∈ tb := tb_in (tj_5 _ (List.mem_of_getElem? (i := 191) rfl)) rfl
theorem winst_155 : Cond.instanceMethod yX11_isWorkHere ∈ tb := tb_in (tj_5 _ (List.mem_of_getElem? (i := 193) rfl)) rfl
theorem wsel_156 : Cond.selects yX11_isWorkHere.cls yX11_isWorkHere yX11_isWorkHere ∈ tb := tb_in (sel_4 _ (List.mem_of_getElem? (i := 6) rfl)) rfl
theorem wml_157 : Cond.methodLink RX11 226 yX11_isPersonHere ∈ tb := tb_in (tj_5 _ (List.mem_of_getElem? (i := 187) rfl)) rfl
theorem winst_158 : Cond.instanceMethod yX11_isPersonHere ∈ tb := tb_in (tj_5 _ (List.mem_of_getElem? (i := 189) rfl)) rfl
theorem wsel_159 : Cond.selects yX11_isPersonHere.cls yX11_isPersonHere yX11_isPersonHere ∈ tb := tb_in (sel_4 _ (List.mem_of_getElem? (i := 5) rfl)) rfl
theorem wml_160 : Cond.methodLink RX11 223 yX11_isStreetHere ∈ tb := tb_in (tj_5 _ (List.mem_of_getElem? (i := 164) rfl)) rfl
theorem winst_161 : Cond.instanceMethod yX11_isStreetHere ∈ tb := tb_in (tj_5 _ (List.mem_of_getElem? (i := 166) rfl)) rfl
theorem wsel_162 : Cond.selects yX11_isStreetHere.cls yX11_isStreetHere yX11_isStreetHere ∈ tb := tb_in (sel_4 _ (List.mem_of_getElem? (i := 0) rfl)) rfl
theorem wconl_163 : Cond.constantLong RX11 242 (7104884) ∈ tb := tb_in (tj_5 _ (List.mem_of_getElem? (i := 154) rfl)) rfl
theorem wconl_164 : Cond.constantLong RX11 247 (495739823472) ∈ tb := tb_in (tj_5 _ (List.mem_of_getElem? (i := 155) rfl)) rfl
theorem wml_165 : Cond.methodLink RX11 244 yX11_isStreetWord ∈ tb := tb_in (tj_5 _ (List.mem_of_getElem? (i := 138) rfl)) rfl
theorem winst_166 : Cond.instanceMethod yX11_isStreetWord ∈ tb := tb_in (tj_5 _ (List.mem_of_getElem? (i := 140) rfl)) rfl
theorem wsel_167 : Cond.selects yX11_isStreetWord.cls yX11_isStreetWord yX11_isStreetWord ∈ tb := tb_in (sel_3 _ (List.mem_of_getElem? (i := 11) rfl)) rfl
theorem wfl_168 : Cond.fieldLink RX11 249 (TX11 14).1 (TX11 14).2.1 (TX11 14).2.2.1 ∈ tb := tb_in (tj_5 _ (List.mem_of_getElem? (i := 14) rfl)) rfl
theorem wml_169 : Cond.methodLink RX11 255 yX11_isSleepHere ∈ tb := tb_in (tj_5 _ (List.mem_of_getElem? (i := 207) rfl)) rfl
theorem winst_170 : Cond.instanceMethod yX11_isSleepHere ∈ tb := tb_in (tj_5 _ (List.mem_of_getElem? (i := 209) rfl)) rfl
theorem wsel_171 : Cond.selects yX11_isSleepHere.cls yX11_isSleepHere yX11_isSleepHere ∈ tb := tb_in (sel_4 _ (List.mem_of_getElem? (i := 10) rfl)) rfl
theorem wml_172 : Cond.methodLink RX11 252 yX11_streetLineHere ∈ tb := tb_in (tj_5 _ (List.mem_of_getElem? (i := 160) rfl)) rfl
theorem winst_173 : Cond.instanceMethod yX11_streetLineHere ∈ tb := tb_in (tj_5 _ (List.mem_of_getElem? (i := 162) rfl)) rfl
theorem wsel_174 : Cond.selects yX11_streetLineHere.cls yX11_streetLineHere yX11_streetLineHere ∈ tb := tb_in (sel_3 _ (List.mem_of_getElem? (i := 15) rfl)) rfl
theorem wml_175 : Cond.methodLink RX11 258 yX11_clauseHere ∈ tb := tb_in (tj_5 _ (List.mem_of_getElem? (i := 130) rfl)) rfl
theorem winst_176 : Cond.instanceMethod yX11_clauseHere ∈ tb := tb_in (tj_5 _ (List.mem_of_getElem? (i := 132) rfl)) rfl
theorem wsel_177 : Cond.selects yX11_clauseHere.cls yX11_clauseHere yX11_clauseHere ∈ tb := tb_in (sel_3 _ (List.mem_of_getElem? (i := 9) rfl)) rfl
theorem wfl_178 : Cond.fieldLink RX11 261 (TX11 2).1 (TX11 2).2.1 (TX11 2).2.2.1 ∈ tb := tb_in (tj_5 _ (List.mem_of_getElem? (i := 2) rfl)) rfl
theorem wml_179 : Cond.methodLink RX11 264 yX11_readsAll ∈ tb := tb_in (tj_5 _ (List.mem_of_getElem? (i := 126) rfl)) rfl
theorem winst_180 : Cond.instanceMethod yX11_readsAll ∈ tb := tb_in (tj_5 _ (List.mem_of_getElem? (i := 128) rfl)) rfl
theorem wsel_181 : Cond.selects yX11_readsAll.cls yX11_readsAll yX11_readsAll ∈ tb := tb_in (sel_3 _ (List.mem_of_getElem? (i := 8) rfl)) rfl
theorem wfl_182 : Cond.fieldLink RX11 267 (TX11 25).1 (TX11 25).2.1 (TX11 25).2.2.1 ∈ tb := tb_in (tj_5 _ (List.mem_of_getElem? (i := 25) rfl)) rfl
theorem wfl_183 : Cond.fieldLink RX11 270 (TX11 18).1 (TX11 18).2.1 (TX11 18).2.2.1 ∈ tb := tb_in (tj_5 _ (List.mem_of_getElem? (i := 18) rfl)) rfl
theorem wml_184 : Cond.methodLink RX11 277 yX11_pop ∈ tb := tb_in (tj_6 _ (List.mem_of_getElem? (i := 160) rfl)) rfl
theorem winst_185 : Cond.instanceMethod yX11_pop ∈ tb := tb_in (tj_6 _ (List.mem_of_getElem? (i := 162) rfl)) rfl
theorem wsel_186 : Cond.selects yX11_pop.cls yX11_pop yX11_pop ∈ tb := tb_in (sel_6 _ (List.mem_of_getElem? (i := 14) rfl)) rfl
theorem wml_187 : Cond.methodLink RX11 281 yX11_one ∈ tb := tb_in (tj_6 _ (List.mem_of_getElem? (i := 164) rfl)) rfl
theorem wstat_188 : Cond.static yX11_one ∈ tb := tb_in (tj_6 _ (List.mem_of_getElem? (i := 165) rfl)) rfl
theorem wml_189 : Cond.methodLink RX11 273 yX11_push ∈ tb := tb_in (tj_6 _ (List.mem_of_getElem? (i := 156) rfl)) rfl
theorem winst_190 : Cond.instanceMethod yX11_push ∈ tb := tb_in (tj_6 _ (List.mem_of_getElem? (i := 158) rfl)) rfl
theorem wsel_191 : Cond.selects yX11_push.cls yX11_push yX11_push ∈ tb := tb_in (sel_6 _ (List.mem_of_getElem? (i := 13) rfl)) rfl
theorem wml_192 : Cond.methodLink RX11 285 yX11_isLitIn ∈ tb := tb_in (tj_6 _ (List.mem_of_getElem? (i := 89) rfl)) rfl
theorem winst_193 : Cond.instanceMethod yX11_isLitIn ∈ tb := tb_in (tj_6 _ (List.mem_of_getElem? (i := 91) rfl)) rfl
theorem wsel_194 : Cond.selects yX11_isLitIn.cls yX11_isLitIn yX11_isLitIn ∈ tb := tb_in (sel_5 _ (List.mem_of_getElem? (i := 15) rfl)) rfl
theorem wml_195 : Cond.methodLink RX11 288 yX11_burnsIn ∈ tb := tb_in (tj_6 _ (List.mem_of_getElem? (i := 85) rfl)) rfl
theorem winst_196 : Cond.instanceMethod yX11_burnsIn ∈ tb := tb_in (tj_6 _ (List.mem_of_getElem? (i := 87) rfl)) rfl
theorem wsel_197 : Cond.selects yX11_burnsIn.cls yX11_burnsIn yX11_burnsIn ∈ tb := tb_in (sel_5 _ (List.mem_of_getElem? (i := 14) rfl)) rfl
theorem wml_198 : Cond.methodLink RX11 291 yX11_costOf ∈ tb := tb_in (tj_6 _ (List.mem_of_getElem? (i := 133) rfl)) rfl
theorem winst_199 : Cond.instanceMethod yX11_costOf ∈ tb := tb_in (tj_6 _ (List.mem_of_getElem? (i := 135) rfl)) rfl
theorem wsel_200 : Cond.selects yX11_costOf.cls yX11_costOf yX11_costOf ∈ tb := tb_in (sel_6 _ (List.mem_of_getElem? (i := 8) rfl)) rfl
theorem wml_201 : Cond.methodLink RX11 294 yX11_personOf ∈ tb := tb_in (tj_6 _ (List.mem_of_getElem? (i := 68) rfl)) rfl
theorem winst_202 : Cond.instanceMethod yX11_personOf ∈ tb := tb_in (tj_6 _ (List.mem_of_getElem? (i := 70) rfl)) rfl
theorem wsel_203 : Cond.selects yX11_personOf.cls yX11_personOf yX11_personOf ∈ tb := tb_in (sel_5 _ (List.mem_of_getElem? (i := 11) rfl)) rfl
theorem wml_204 : Cond.methodLink RX11 298 yX11_worksIn ∈ tb := tb_in (tj_6 _ (List.mem_of_getElem? (i := 72) rfl)) rfl
theorem winst_205 : Cond.instanceMethod yX11_worksIn ∈ tb := tb_in (tj_6 _ (List.mem_of_getElem? (i := 74) rfl)) rfl
theorem wsel_206 : Cond.selects yX11_worksIn.cls yX11_worksIn yX11_worksIn ∈ tb := tb_in (sel_5 _ (List.mem_of_getElem? (i := 12) rfl)) rfl
theorem wml_207 : Cond.methodLink RX11 301 yX11_isRule ∈ tb := tb_in (tj_6 _ (List.mem_of_getElem? (i := 55) rfl)) rfl
theorem winst_208 : Cond.instanceMethod yX11_isRule ∈ tb := tb_in (tj_6 _ (List.mem_of_getElem? (i := 57) rfl)) rfl
theorem wsel_209 : Cond.selects yX11_isRule.cls yX11_isRule yX11_isRule ∈ tb := tb_in (sel_5 _ (List.mem_of_getElem? (i := 9) rfl)) rfl
theorem wml_210 : Cond.methodLink RX11 304 yX11_isPerson ∈ tb := tb_in (tj_6 _ (List.mem_of_getElem? (i := 63) rfl)) rfl
theorem winst_211 : Cond.instanceMethod yX11_isPerson ∈ tb := tb_in (tj_6 _ (List.mem_of_getElem? (i := 65) rfl)) rfl
theorem wsel_212 : Cond.selects yX11_isPerson.cls yX11_isPerson yX11_isPerson ∈ tb := tb_in (sel_5 _ (List.mem_of_getElem? (i := 10) rfl)) rfl
theorem wconl_213 : Cond.constantLong RX11 307 (5) ∈ tb := tb_in (tj_6 _ (List.mem_of_getElem? (i := 67) rfl)) rfl
theorem wml_214 : Cond.methodLink RX11 309 yX11_isLamp ∈ tb := tb_in (tj_6 _ (List.mem_of_getElem? (i := 80) rfl)) rfl
theorem winst_215 : Cond.instanceMethod yX11_isLamp ∈ tb := tb_in (tj_6 _ (List.mem_of_getElem? (i := 82) rfl)) rfl
theorem wsel_216 : Cond.selects yX11_isLamp.cls yX11_isLamp yX11_isLamp ∈ tb := tb_in (sel_5 _ (List.mem_of_getElem? (i := 13) rfl)) rfl
theorem wconl_217 : Cond.constantLong RX11 312 (2) ∈ tb := tb_in (tj_6 _ (List.mem_of_getElem? (i := 84) rfl)) rfl
theorem wml_218 : Cond.methodLink RX11 314 yX11_costIn ∈ tb := tb_in (tj_6 _ (List.mem_of_getElem? (i := 129) rfl)) rfl
theorem winst_219 : Cond.instanceMethod yX11_costIn ∈ tb := tb_in (tj_6 _ (List.mem_of_getElem? (i := 131) rfl)) rfl
theorem wsel_220 : Cond.selects yX11_costIn.cls yX11_costIn yX11_costIn ∈ tb := tb_in (sel_6 _ (List.mem_of_getElem? (i := 7) rfl)) rfl
theorem wml_221 : Cond.methodLink RX11 317 yX11_sleepers ∈ tb := tb_in (tj_6 _ (List.mem_of_getElem? (i := 137) rfl)) rfl
theorem winst_222 : Cond.instanceMethod yX11_sleepers ∈ tb := tb_in (tj_6 _ (List.mem_of_getElem? (i := 139) rfl)) rfl
theorem wsel_223 : Cond.selects yX11_sleepers.cls yX11_sleepers yX11_sleepers ∈ tb := tb_in (sel_6 _ (List.mem_of_getElem? (i := 9) rfl)) rfl
theorem wml_224 : Cond.methodLink RX11 320 yX11_bits ∈ tb := tb_in (tj_6 _ (List.mem_of_getElem? (i := 141) rfl)) rfl
theorem wstat_225 : Cond.static yX11_bits ∈ tb := tb_in (tj_6 _ (List.mem_of_getElem? (i := 142) rfl)) rfl
theorem wml_226 : Cond.methodLink RX11 323 yX11_ownCost ∈ tb := tb_in (tj_6 _ (List.mem_of_getElem? (i := 144) rfl)) rfl
theorem winst_227 : Cond.instanceMethod yX11_ownCost ∈ tb := tb_in (tj_6 _ (List.mem_of_getElem? (i := 146) rfl)) rfl
theorem wsel_228 : Cond.selects yX11_ownCost.cls yX11_ownCost yX11_ownCost ∈ tb := tb_in (sel_6 _ (List.mem_of_getElem? (i := 10) rfl)) rfl
theorem wml_229 : Cond.methodLink RX11 326 yX11_reckons ∈ tb := tb_in (tj_6 _ (List.mem_of_getElem? (i := 152) rfl)) rfl
theorem winst_230 : Cond.instanceMethod yX11_reckons ∈ tb := tb_in (tj_6 _ (List.mem_of_getElem? (i := 154) rfl)) rfl
theorem wsel_231 : Cond.selects yX11_reckons.cls yX11_reckons yX11_reckons ∈ tb := tb_in (sel_6 _ (List.mem_of_getElem? (i := 12) rfl)) rfl
theorem wml_232 : Cond.methodLink RX11 330 yX11_setsAsleep ∈ tb := tb_in (tj_6 _ (List.mem_of_getElem? (i := 117) rfl)) rfl
theorem winst_233 : Cond.instanceMethod yX11_setsAsleep ∈ tb := tb_in (tj_6 _ (List.mem_of_getElem? (i := 119) rfl)) rfl
theorem wsel_234 : Cond.selects yX11_setsAsleep.cls yX11_setsAsleep yX11_setsAsleep ∈ tb := tb_in (sel_6 _ (List.mem_of_getElem? (i := 4) rfl)) rfl
theorem wml_235 : Cond.methodLink RX11 334 yX11_words ∈ tb := tb_in (tj_6 _ (List.mem_of_getElem? (i := 125) rfl)) rfl
theorem winst_236 : Cond.instanceMethod yX11_words ∈ tb := tb_in (tj_6 _ (List.mem_of_getElem? (i := 127) rfl)) rfl
theorem wsel_237 : Cond.selects yX11_words.cls yX11_words yX11_words ∈ tb := tb_in (sel_6 _ (List.mem_of_getElem? (i := 6) rfl)) rfl
theorem wml_238 : Cond.methodLink RX11 337 yX11_summedBy ∈ tb := tb_in (tj_6 _ (List.mem_of_getElem? (i := 148) rfl)) rfl
theorem winst_239 : Cond.instanceMethod yX11_summedBy ∈ tb := tb_in (tj_6 _ (List.mem_of_getElem? (i := 150) rfl)) rfl
theorem wsel_240 : Cond.selects yX11_summedBy.cls yX11_summedBy yX11_summedBy ∈ tb := tb_in (sel_6 _ (List.mem_of_getElem? (i := 11) rfl)) rfl
theorem wml_241 : Cond.methodLink RX11 341 yX11_endsNight ∈ tb := tb_in (tj_6 _ (List.mem_of_getElem? (i := 171) rfl)) rfl
theorem winst_242 : Cond.instanceMethod yX11_endsNight ∈ tb := tb_in (tj_6 _ (List.mem_of_getElem? (i := 173) rfl)) rfl
theorem wsel_243 : Cond.selects yX11_endsNight.cls yX11_endsNight yX11_endsNight ∈ tb := tb_in (sel_7 _ (List.mem_of_getElem? (i := 0) rfl)) rfl
theorem wml_244 : Cond.methodLink RX11 344 yX11_wakesWorkers ∈ tb := tb_in (tj_6 _ (List.mem_of_getElem? (i := 113) rfl)) rfl
theorem winst_245 : Cond.instanceMethod yX11_wakesWorkers ∈ tb := tb_in (tj_6 _ (List.mem_of_getElem? (i := 115) rfl)) rfl
theorem wsel_246 : Cond.selects yX11_wakesWorkers.cls yX11_wakesWorkers yX11_wakesWorkers ∈ tb := tb_in (sel_6 _ (List.mem_of_getElem? (i := 3) rfl)) rfl
theorem wml_247 : Cond.methodLink RX11 347 yX11_sleepsByRule ∈ tb := tb_in (tj_6 _ (List.mem_of_getElem? (i := 121) rfl)) rfl
theorem winst_248 : Cond.instanceMethod yX11_sleepsByRule ∈ tb := tb_in (tj_6 _ (List.mem_of_getElem? (i := 123) rfl)) rfl
theorem wsel_249 : Cond.selects yX11_sleepsByRule.cls yX11_sleepsByRule yX11_sleepsByRule ∈ tb := tb_in (sel_6 _ (List.mem_of_getElem? (i := 5) rfl)) rfl
theorem wml_250 : Cond.methodLink RX11 350 yX11_shares ∈ tb := tb_in (tj_6 _ (List.mem_of_getElem? (i := 167) rfl)) rfl
theorem winst_251 : Cond.instanceMethod yX11_shares ∈ tb := tb_in (tj_6 _ (List.mem_of_getElem? (i := 169) rfl)) rfl
theorem wsel_252 : Cond.selects yX11_shares.cls yX11_shares yX11_shares ∈ tb := tb_in (sel_6 _ (List.mem_of_getElem? (i := 15) rfl)) rfl
theorem wml_253 : Cond.methodLink RX11 353 yX11_isStreet ∈ tb := tb_in (tj_6 _ (List.mem_of_getElem? (i := 101) rfl)) rfl
theorem winst_254 : Cond.instanceMethod yX11_isStreet ∈ tb := tb_in (tj_6 _ (List.mem_of_getElem? (i := 103) rfl)) rfl
theorem wsel_255 : Cond.selects yX11_isStreet.cls yX11_isStreet yX11_isStreet ∈ tb := tb_in (sel_6 _ (List.mem_of_getElem? (i := 0) rfl)) rfl
theorem wml_256 : Cond.methodLink RX11 356 yX11_keepsAct ∈ tb := tb_in (tj_6 _ (List.mem_of_getElem? (i := 105) rfl)) rfl
theorem winst_257 : Cond.instanceMethod yX11_keepsAct ∈ tb := tb_in (tj_6 _ (List.mem_of_getElem? (i := 107) rfl)) rfl
theorem wsel_258 : Cond.selects yX11_keepsAct.cls yX11_keepsAct yX11_keepsAct ∈ tb := tb_in (sel_6 _ (List.mem_of_getElem? (i := 1) rfl)) rfl
theorem wml_259 : Cond.methodLink RX11 359 yX11_passes ∈ tb := tb_in (tj_6 _ (List.mem_of_getElem? (i := 109) rfl)) rfl
theorem winst_260 : Cond.instanceMethod yX11_passes ∈ tb := tb_in (tj_6 _ (List.mem_of_getElem? (i := 111) rfl)) rfl
theorem wsel_261 : Cond.selects yX11_passes.cls yX11_passes yX11_passes ∈ tb := tb_in (sel_6 _ (List.mem_of_getElem? (i := 2) rfl)) rfl
theorem wml_262 : Cond.methodLink RX11 362 yX11_divisor ∈ tb := tb_in (tj_6 _ (List.mem_of_getElem? (i := 190) rfl)) rfl
theorem wstat_263 : Cond.static yX11_divisor ∈ tb := tb_in (tj_6 _ (List.mem_of_getElem? (i := 191) rfl)) rfl
theorem wml_264 : Cond.methodLink RX11 365 yX11_fraction ∈ tb := tb_in (tj_6 _ (List.mem_of_getElem? (i := 187) rfl)) rfl
theorem wstat_265 : Cond.static yX11_fraction ∈ tb := tb_in (tj_6 _ (List.mem_of_getElem? (i := 188) rfl)) rfl
theorem wconl_266 : Cond.constantLong RX11 369 (100) ∈ tb := tb_in (tj_6 _ (List.mem_of_getElem? (i := 197) rfl)) rfl
theorem wml_267 : Cond.methodLink RX11 371 yX11_keeps ∈ tb := tb_in (tj_6 _ (List.mem_of_getElem? (i := 198) rfl)) rfl
theorem winst_268 : Cond.instanceMethod yX11_keeps ∈ tb := tb_in (tj_6 _ (List.mem_of_getElem? (i := 200) rfl)) rfl
theorem wsel_269 : Cond.selects yX11_keeps.cls yX11_keeps yX11_keeps ∈ tb := tb_in (sel_7 _ (List.mem_of_getElem? (i := 1) rfl)) rfl
theorem wml_270 : Cond.methodLink RX11 374 yX11_laysBack ∈ tb := tb_in (tj_6 _ (List.mem_of_getElem? (i := 202) rfl)) rfl
theorem winst_271 : Cond.instanceMethod yX11_laysBack ∈ tb := tb_in (tj_6 _ (List.mem_of_getElem? (i := 204) rfl)) rfl
theorem wsel_272 : Cond.selects yX11_laysBack.cls yX11_laysBack yX11_laysBack ∈ tb := tb_in (sel_7 _ (List.mem_of_getElem? (i := 2) rfl)) rfl
theorem wml_273 : Cond.methodLink RX11 377 yX11_isOf ∈ tb := tb_in (tj_6 _ (List.mem_of_getElem? (i := 223) rfl)) rfl
theorem wstat_274 : Cond.static yX11_isOf ∈ tb := tb_in (tj_6 _ (List.mem_of_getElem? (i := 224) rfl)) rfl
theorem wfl_275 : Cond.fieldLink RX11 383 (TX11 27).1 (TX11 27).2.1 (TX11 27).2.2.1 ∈ tb := tb_in (tj_5 _ (List.mem_of_getElem? (i := 27) rfl)) rfl
theorem wfl_276 : Cond.fieldLink RX11 386 (TX11 28).1 (TX11 28).2.1 (TX11 28).2.2.1 ∈ tb := tb_in (tj_5 _ (List.mem_of_getElem? (i := 28) rfl)) rfl
theorem wml_277 : Cond.methodLink RX11 380 yX11_worksOne ∈ tb := tb_in (tj_6 _ (List.mem_of_getElem? (i := 219) rfl)) rfl
theorem winst_278 : Cond.instanceMethod yX11_worksOne ∈ tb := tb_in (tj_6 _ (List.mem_of_getElem? (i := 221) rfl)) rfl
theorem wsel_279 : Cond.selects yX11_worksOne.cls yX11_worksOne yX11_worksOne ∈ tb := tb_in (sel_7 _ (List.mem_of_getElem? (i := 5) rfl)) rfl
theorem wml_280 : Cond.methodLink RX11 389 yX11_findsCheap ∈ tb := tb_in (tj_6 _ (List.mem_of_getElem? (i := 215) rfl)) rfl
theorem winst_281 : Cond.instanceMethod yX11_findsCheap ∈ tb := tb_in (tj_6 _ (List.mem_of_getElem? (i := 217) rfl)) rfl
theorem wsel_282 : Cond.selects yX11_findsCheap.cls yX11_findsCheap yX11_findsCheap ∈ tb := tb_in (sel_7 _ (List.mem_of_getElem? (i := 4) rfl)) rfl
theorem wconl_283 : Cond.constantLong RX11 392 (10) ∈ tb := tb_in (tj_6 _ (List.mem_of_getElem? (i := 210) rfl)) rfl
theorem wml_284 : Cond.methodLink RX11 394 yX11_cheapest ∈ tb := tb_in (tj_6 _ (List.mem_of_getElem? (i := 211) rfl)) rfl
theorem winst_285 : Cond.instanceMethod yX11_cheapest ∈ tb := tb_in (tj_6 _ (List.mem_of_getElem? (i := 213) rfl)) rfl
theorem wsel_286 : Cond.selects yX11_cheapest.cls yX11_cheapest yX11_cheapest ∈ tb := tb_in (sel_7 _ (List.mem_of_getElem? (i := 3) rfl)) rfl
theorem wml_287 : Cond.methodLink RX11 397 yX11_idle ∈ tb := tb_in (tj_6 _ (List.mem_of_getElem? (i := 238) rfl)) rfl
theorem winst_288 : Cond.instanceMethod yX11_idle ∈ tb := tb_in (tj_7 _ (List.mem_of_getElem? (i := 0) rfl)) rfl
theorem wsel_289 : Cond.selects yX11_idle.cls yX11_idle yX11_idle ∈ tb := tb_in (sel_7 _ (List.mem_of_getElem? (i := 7) rfl)) rfl
theorem wml_290 : Cond.methodLink RX11 400 yX11_isRest ∈ tb := tb_in (tj_6 _ (List.mem_of_getElem? (i := 234) rfl)) rfl
theorem winst_291 : Cond.instanceMethod yX11_isRest ∈ tb := tb_in (tj_6 _ (List.mem_of_getElem? (i := 236) rfl)) rfl
theorem wsel_292 : Cond.selects yX11_isRest.cls yX11_isRest yX11_isRest ∈ tb := tb_in (sel_7 _ (List.mem_of_getElem? (i := 6) rfl)) rfl
theorem wml_293 : Cond.methodLink RX11 403 yX11_burning ∈ tb := tb_in (tj_7 _ (List.mem_of_getElem? (i := 6) rfl)) rfl
theorem winst_294 : Cond.instanceMethod yX11_burning ∈ tb := tb_in (tj_7 _ (List.mem_of_getElem? (i := 8) rfl)) rfl
theorem wsel_295 : Cond.selects yX11_burning.cls yX11_burning yX11_burning ∈ tb := tb_in (sel_7 _ (List.mem_of_getElem? (i := 8) rfl)) rfl
theorem wml_296 : Cond.methodLink RX11 406 yX11_isDarkEnough ∈ tb := tb_in (tj_7 _ (List.mem_of_getElem? (i := 10) rfl)) rfl
theorem winst_297 : Cond.instanceMethod yX11_isDarkEnough ∈ tb := tb_in (tj_7 _ (List.mem_of_getElem? (i := 12) rfl)) rfl
theorem wsel_298 : Cond.selects yX11_isDarkEnough.cls yX11_isDarkEnough yX11_isDarkEnough ∈ tb := tb_in (sel_7 _ (List.mem_of_getElem? (i := 9) rfl)) rfl
theorem wconl_299 : Cond.constantLong RX11 409 (300) ∈ tb := tb_in (tj_7 _ (List.mem_of_getElem? (i := 18) rfl)) rfl
theorem wml_300 : Cond.methodLink RX11 411 yX11_isFactSo ∈ tb := tb_in (tj_7 _ (List.mem_of_getElem? (i := 28) rfl)) rfl
theorem winst_301 : Cond.instanceMethod yX11_isFactSo ∈ tb := tb_in (tj_7 _ (List.mem_of_getElem? (i := 30) rfl)) rfl
theorem wsel_302 : Cond.selects yX11_isFactSo.cls yX11_isFactSo yX11_isFactSo ∈ tb := tb_in (sel_7 _ (List.mem_of_getElem? (i := 11) rfl)) rfl
theorem wconl_303 : Cond.constantLong RX11 414 (3) ∈ tb := tb_in (tj_7 _ (List.mem_of_getElem? (i := 23) rfl)) rfl
theorem wml_304 : Cond.methodLink RX11 416 yX11_fitsFacts ∈ tb := tb_in (tj_7 _ (List.mem_of_getElem? (i := 24) rfl)) rfl
theorem winst_305 : Cond.instanceMethod yX11_fitsFacts ∈ tb := tb_in (tj_7 _ (List.mem_of_getElem? (i := 26) rfl)) rfl
theorem wsel_306 : Cond.selects yX11_fitsFacts.cls yX11_fitsFacts yX11_fitsFacts ∈ tb := tb_in (sel_7 _ (List.mem_of_getElem? (i := 10) rfl)) rfl
theorem wml_307 : Cond.methodLink RX11 419 yX11_toldCost ∈ tb := tb_in (tj_7 _ (List.mem_of_getElem? (i := 48) rfl)) rfl
theorem winst_308 : Cond.instanceMethod yX11_toldCost ∈ tb := tb_in (tj_7 _ (List.mem_of_getElem? (i := 50) rfl)) rfl
theorem wsel_309 : Cond.selects yX11_toldCost.cls yX11_toldCost yX11_toldCost ∈ tb := tb_in (sel_7 _ (List.mem_of_getElem? (i := 13) rfl)) rfl
theorem wml_310 : Cond.methodLink RX11 422 yX11_leastOf ∈ tb := tb_in (tj_7 _ (List.mem_of_getElem? (i := 60) rfl)) rfl
theorem winst_311 : Cond.instanceMethod yX11_leastOf ∈ tb := tb_in (tj_7 _ (List.mem_of_getElem? (i := 62) rfl)) rfl
theorem wsel_312 : Cond.selects yX11_leastOf.cls yX11_leastOf yX11_leastOf ∈ tb := tb_in (sel_8 _ (List.mem_of_getElem? (i := 0) rfl)) rfl
theorem wml_313 : Cond.methodLink RX11 425 yX11_costBy ∈ tb := tb_in (tj_7 _ (List.mem_of_getElem? (i := 56) rfl)) rfl
theorem winst_314 : Cond.instanceMethod yX11_costBy ∈ tb := tb_in (tj_7 _ (List.mem_of_getElem? (i := 58) rfl)) rfl
theorem wsel_315 : Cond.selects yX11_costBy.cls yX11_costBy yX11_costBy ∈ tb := tb_in (sel_7 _ (List.mem_of_getElem? (i := 15) rfl)) rfl
theorem wconl_316 : Cond.constantLong RX11 429 (8) ∈ tb := tb_in (tj_7 _ (List.mem_of_getElem? (i := 40) rfl)) rfl
theorem wconl_317 : Cond.constantLong RX11 431 (99) ∈ tb := tb_in (tj_7 _ (List.mem_of_getElem? (i := 41) rfl)) rfl
theorem wconl_318 : Cond.constantLong RX11 433 (-1) ∈ tb := tb_in (tj_7 _ (List.mem_of_getElem? (i := 42) rfl)) rfl
theorem wconl_319 : Cond.constantLong RX11 435 (7) ∈ tb := tb_in (tj_7 _ (List.mem_of_getElem? (i := 43) rfl)) rfl
theorem wml_320 : Cond.methodLink RX11 437 yX11_fillsNight ∈ tb := tb_in (tj_7 _ (List.mem_of_getElem? (i := 44) rfl)) rfl
theorem winst_321 : Cond.instanceMethod yX11_fillsNight ∈ tb := tb_in (tj_7 _ (List.mem_of_getElem? (i := 46) rfl)) rfl
theorem wsel_322 : Cond.selects yX11_fillsNight.cls yX11_fillsNight yX11_fillsNight ∈ tb := tb_in (sel_7 _ (List.mem_of_getElem? (i := 12) rfl)) rfl
theorem wml_323 : Cond.methodLink RX11 440 yX11_fillsLeast ∈ tb := tb_in (tj_7 _ (List.mem_of_getElem? (i := 52) rfl)) rfl
theorem winst_324 : Cond.instanceMethod yX11_fillsLeast ∈ tb := tb_in (tj_7 _ (List.mem_of_getElem? (i := 54) rfl)) rfl
theorem wsel_325 : Cond.selects yX11_fillsLeast.cls yX11_fillsLeast yX11_fillsLeast ∈ tb := tb_in (sel_7 _ (List.mem_of_getElem? (i := 14) rfl)) rfl
theorem wcon_326 : Cond.constant RX11 445 (-1000000) ∈ tb := tb_in (tj_7 _ (List.mem_of_getElem? (i := 69) rfl)) rfl
theorem wconl_327 : Cond.constantLong RX11 443 (60) ∈ tb := tb_in (tj_7 _ (List.mem_of_getElem? (i := 68) rfl)) rfl
theorem wml_328 : Cond.methodLink RX11 446 yX11_owedHeld ∈ tb := tb_in (tj_7 _ (List.mem_of_getElem? (i := 74) rfl)) rfl
theorem winst_329 : Cond.instanceMethod yX11_owedHeld ∈ tb := tb_in (tj_7 _ (List.mem_of_getElem? (i := 76) rfl)) rfl
theorem wsel_330 : Cond.selects yX11_owedHeld.cls yX11_owedHeld yX11_owedHeld ∈ tb := tb_in (sel_8 _ (List.mem_of_getElem? (i := 1) rfl)) rfl
theorem wfl_331 : Cond.fieldLink RX11 449 (TX11 22).1 (TX11 22).2.1 (TX11 22).2.2.1 ∈ tb := tb_in (tj_5 _ (List.mem_of_getElem? (i := 22) rfl)) rfl
theorem wfl_332 : Cond.fieldLink RX11 452 (TX11 31).1 (TX11 31).2.1 (TX11 31).2.2.1 ∈ tb := tb_in (tj_5 _ (List.mem_of_getElem? (i := 31) rfl)) rfl
theorem wconl_333 : Cond.constantLong RX11 456 (1103515245) ∈ tb := tb_in (tj_7 _ (List.mem_of_getElem? (i := 90) rfl)) rfl
theorem wconl_334 : Cond.constantLong RX11 458 (12345) ∈ tb := tb_in (tj_7 _ (List.mem_of_getElem? (i := 91) rfl)) rfl
theorem wconl_335 : Cond.constantLong RX11 460 (2147483648) ∈ tb := tb_in (tj_7 _ (List.mem_of_getElem? (i := 92) rfl)) rfl
theorem wconl_336 : Cond.constantLong RX11 462 (65536) ∈ tb := tb_in (tj_7 _ (List.mem_of_getElem? (i := 93) rfl)) rfl
theorem wml_337 : Cond.methodLink RX11 464 yX11_draw ∈ tb := tb_in (tj_7 _ (List.mem_of_getElem? (i := 86) rfl)) rfl
theorem winst_338 : Cond.instanceMethod yX11_draw ∈ tb := tb_in (tj_7 _ (List.mem_of_getElem? (i := 88) rfl)) rfl
theorem wsel_339 : Cond.selects yX11_draw.cls yX11_draw yX11_draw ∈ tb := tb_in (sel_8 _ (List.mem_of_getElem? (i := 2) rfl)) rfl
theorem wml_340 : Cond.methodLink RX2 3 objectInit ∈ tb := tb_in (tj_1 _ (List.mem_of_getElem? (i := 188) rfl)) rfl
theorem wfl_341 : Cond.fieldLink RX2 9 (TX2 0).1 (TX2 0).2.1 (TX2 0).2.2.1 ∈ tb := tb_in (tj_1 _ (List.mem_of_getElem? (i := 189) rfl)) rfl
theorem wfl_342 : Cond.fieldLink RX2 15 (TX2 1).1 (TX2 1).2.1 (TX2 1).2.2.1 ∈ tb := tb_in (tj_1 _ (List.mem_of_getElem? (i := 192) rfl)) rfl
theorem wfl_343 : Cond.fieldLink RX2 18 (TX2 2).1 (TX2 2).2.1 (TX2 2).2.2.1 ∈ tb := tb_in (tj_1 _ (List.mem_of_getElem? (i := 195) rfl)) rfl
theorem wfl_344 : Cond.fieldLink RX2 21 (TX2 3).1 (TX2 3).2.1 (TX2 3).2.2.1 ∈ tb := tb_in (tj_1 _ (List.mem_of_getElem? (i := 198) rfl)) rfl
theorem wfl_345 : Cond.fieldLink RX2 24 (TX2 4).1 (TX2 4).2.1 (TX2 4).2.2.1 ∈ tb := tb_in (tj_1 _ (List.mem_of_getElem? (i := 199) rfl)) rfl
theorem wfl_346 : Cond.fieldLink RX2 27 (TX2 5).1 (TX2 5).2.1 (TX2 5).2.2.1 ∈ tb := tb_in (tj_1 _ (List.mem_of_getElem? (i := 200) rfl)) rfl
theorem wfl_347 : Cond.fieldLink RX2 31 (TX2 6).1 (TX2 6).2.1 (TX2 6).2.2.1 ∈ tb := tb_in (tj_1 _ (List.mem_of_getElem? (i := 203) rfl)) rfl
theorem wfl_348 : Cond.fieldLink RX2 34 (TX2 7).1 (TX2 7).2.1 (TX2 7).2.2.1 ∈ tb := tb_in (tj_1 _ (List.mem_of_getElem? (i := 206) rfl)) rfl
theorem wml_349 : Cond.methodLink RX0 1 objectInit ∈ tb := tb_in (tj_2 _ (List.mem_of_getElem? (i := 41) rfl)) rfl
theorem wclk_350 : Cond.classLink RX0 9 RX2 ∈ tb := tb_in (tj_2 _ (List.mem_of_getElem? (i := 42) rfl)) rfl
theorem wover_351 : Cond.arrayOver (.object RX2) ∈ lw_tbl := tj_2 _ (List.mem_of_getElem? (i := 43) rfl)
theorem wfl_352 : Cond.fieldLink RX0 11 (TX0 0).1 (TX0 0).2.1 (TX0 0).2.2.1 ∈ tb := tb_in (tj_2 _ (List.mem_of_getElem? (i := 45) rfl)) rfl
theorem wfl_353 : Cond.fieldLink RX0 15 (TX0 1).1 (TX0 1).2.1 (TX0 1).2.2.1 ∈ tb := tb_in (tj_2 _ (List.mem_of_getElem? (i := 46) rfl)) rfl
theorem wfl_354 : Cond.fieldLink RX0 19 (TX0 2).1 (TX0 2).2.1 (TX0 2).2.2.1 ∈ tb := tb_in (tj_2 _ (List.mem_of_getElem? (i := 47) rfl)) rfl
theorem winsta_355 : Cond.instantiable RX2 8 ∈ tb := tb_in (tj_1 _ (List.mem_of_getElem? (i := 184) rfl)) rfl
theorem wini_356 : Cond.initialized "SleepersPay$Moment" ∈ tb := tb_in (tj_1 _ (List.mem_of_getElem? (i := 7) rfl)) rfl
theorem wnest_357 : Cond.methodLinkNest RX0 22 yX2_init "SleepersPay" ∈ lw_tbl := tj_2 _ (List.mem_of_getElem? (i := 44) rfl)
theorem winst_358 : Cond.instanceMethod yX2_init ∈ tb := tb_in (tj_1 _ (List.mem_of_getElem? (i := 186) rfl)) rfl
theorem wml_359 : Cond.methodLink RX2 38 arraycopyName ∈ tb := tb_in (tj_3 _ (List.mem_of_getElem? (i := 205) rfl)) rfl
theorem wnative_360 : Cond.native arraycopyName ∈ tb := tb_in (tj_3 _ (List.mem_of_getElem? (i := 64) rfl)) rfl
theorem wstat_361 : Cond.static arraycopyName ∈ tb := tb_in (tj_3 _ (List.mem_of_getElem? (i := 63) rfl)) rfl
theorem wini_362 : Cond.initialized "java/lang/System" ∈ tb := tb_in (tj_1 _ (List.mem_of_getElem? (i := 17) rfl)) rfl
theorem wml_363 : Cond.methodLink RX0 23 yX2_copyOf ∈ tb := tb_in (tj_3 _ (List.mem_of_getElem? (i := 201) rfl)) rfl
theorem winst_364 : Cond.instanceMethod yX2_copyOf ∈ tb := tb_in (tj_3 _ (List.mem_of_getElem? (i := 202) rfl)) rfl
theorem wsel_365 : Cond.selects yX2_copyOf.cls yX2_copyOf yX2_copyOf ∈ tb := tb_in (tj_3 _ (List.mem_of_getElem? (i := 203) rfl)) rfl
theorem wml_366 : Cond.methodLink RX0 27 yJ9_min_7cf53 ∈ tb := tb_in (tj_3 _ (List.mem_of_getElem? (i := 206) rfl)) rfl
theorem wstat_367 : Cond.static yJ9_min_7cf53 ∈ tb := tb_in (tj_3 _ (List.mem_of_getElem? (i := 133) rfl)) rfl
theorem wml_368 : Cond.methodLink RX0 33 yJ9_floorMod_7cf53 ∈ tb := tb_in (tj_4 _ (List.mem_of_getElem? (i := 49) rfl)) rfl
theorem wstat_369 : Cond.static yJ9_floorMod_7cf53 ∈ tb := tb_in (tj_4 _ (List.mem_of_getElem? (i := 50) rfl)) rfl
theorem wml_370 : Cond.methodLink RX1 3 objectInit ∈ tb := tb_in (tj_1 _ (List.mem_of_getElem? (i := 232) rfl)) rfl
theorem wfl_371 : Cond.fieldLink RX1 9 (TX1 0).1 (TX1 0).2.1 (TX1 0).2.2.1 ∈ tb := tb_in (tj_1 _ (List.mem_of_getElem? (i := 233) rfl)) rfl
theorem wfl_372 : Cond.fieldLink RX1 15 (TX1 1).1 (TX1 1).2.1 (TX1 1).2.2.1 ∈ tb := tb_in (tj_1 _ (List.mem_of_getElem? (i := 234) rfl)) rfl
theorem wfl_373 : Cond.fieldLink RX1 18 (TX1 2).1 (TX1 2).2.1 (TX1 2).2.2.1 ∈ tb := tb_in (tj_1 _ (List.mem_of_getElem? (i := 235) rfl)) rfl
theorem wfl_374 : Cond.fieldLink RX1 21 (TX1 3).1 (TX1 3).2.1 (TX1 3).2.2.1 ∈ tb := tb_in (tj_1 _ (List.mem_of_getElem? (i := 236) rfl)) rfl
theorem wfl_375 : Cond.fieldLink RX1 24 (TX1 4).1 (TX1 4).2.1 (TX1 4).2.2.1 ∈ tb := tb_in (tj_1 _ (List.mem_of_getElem? (i := 237) rfl)) rfl
theorem wml_376 : Cond.methodLink RX1 28 arraycopyName ∈ tb := tb_in (tj_4 _ (List.mem_of_getElem? (i := 229) rfl)) rfl
theorem wcon_377 : Cond.constant RJ6 265 (1431655765) ∈ tb := tb_in (tj_3 _ (List.mem_of_getElem? (i := 237) rfl)) rfl
theorem wcon_378 : Cond.constant RJ6 266 (858993459) ∈ tb := tb_in (tj_3 _ (List.mem_of_getElem? (i := 238) rfl)) rfl
theorem wcon_379 : Cond.constant RJ6 267 (252645135) ∈ tb := tb_in (tj_3 _ (List.mem_of_getElem? (i := 239) rfl)) rfl
theorem wml_380 : Cond.methodLink RX1 38 yJ6_bitCount_0f7a4 ∈ tb := tb_in (tj_4 _ (List.mem_of_getElem? (i := 148) rfl)) rfl
theorem wstat_381 : Cond.static yJ6_bitCount_0f7a4 ∈ tb := tb_in (tj_3 _ (List.mem_of_getElem? (i := 235) rfl)) rfl
theorem wnest_382 : Cond.methodLinkNest RX1 44 yX10_bitOf "SleepersPay" ∈ lw_tbl := tj_4 _ (List.mem_of_getElem? (i := 149) rfl)
theorem wstat_383 : Cond.static yX10_bitOf ∈ tb := tb_in (tj_3 _ (List.mem_of_getElem? (i := 155) rfl)) rfl
theorem wml_384 : Cond.methodLink RX1 34 yX1_allows ∈ tb := tb_in (tj_4 _ (List.mem_of_getElem? (i := 144) rfl)) rfl
theorem winst_385 : Cond.instanceMethod yX1_allows ∈ tb := tb_in (tj_4 _ (List.mem_of_getElem? (i := 146) rfl)) rfl
theorem wsel_386 : Cond.selects yX1_allows.cls yX1_allows yX1_allows ∈ tb := tb_in (sel_3 _ (List.mem_of_getElem? (i := 2) rfl)) rfl
theorem wfl_387 : Cond.fieldLink RX2 44 (TX7 6).1 (TX7 6).2.1 (TX7 6).2.2.1 ∈ tb := tb_in (tj_1 _ (List.mem_of_getElem? (i := 132) rfl)) rfl
theorem wfl_388 : Cond.fieldLink RX7 27 (TX7 5).1 (TX7 5).2.1 (TX7 5).2.2.1 ∈ tb := tb_in (tj_1 _ (List.mem_of_getElem? (i := 130) rfl)) rfl
theorem wml_389 : Cond.methodLink RX2 49 yX7_litAt ∈ tb := tb_in (tj_3 _ (List.mem_of_getElem? (i := 181) rfl)) rfl
theorem winst_390 : Cond.instanceMethod yX7_litAt ∈ tb := tb_in (tj_3 _ (List.mem_of_getElem? (i := 182) rfl)) rfl
theorem wsel_391 : Cond.selects yX7_litAt.cls yX7_litAt yX7_litAt ∈ tb := tb_in (tj_3 _ (List.mem_of_getElem? (i := 183) rfl)) rfl
theorem wml_392 : Cond.methodLink RX2 53 yJ9_min_7cf53 ∈ tb := tb_in (tj_4 _ (List.mem_of_getElem? (i := 27) rfl)) rfl
theorem wfl_393 : Cond.fieldLink RX2 59 (TX7 7).1 (TX7 7).2.1 (TX7 7).2.2.1 ∈ tb := tb_in (tj_1 _ (List.mem_of_getElem? (i := 140) rfl)) rfl
theorem wfl_394 : Cond.fieldLink RX2 62 (TX7 0).1 (TX7 0).2.1 (TX7 0).2.2.1 ∈ tb := tb_in (tj_1 _ (List.mem_of_getElem? (i := 120) rfl)) rfl
theorem wml_395 : Cond.methodLink RX2 65 yJ9_max_7cf53 ∈ tb := tb_in (tj_4 _ (List.mem_of_getElem? (i := 28) rfl)) rfl
theorem wstat_396 : Cond.static yJ9_max_7cf53 ∈ tb := tb_in (tj_3 _ (List.mem_of_getElem? (i := 48) rfl)) rfl
theorem wml_397 : Cond.methodLink RX3 3 objectInit ∈ tb := tb_in (tj_2 _ (List.mem_of_getElem? (i := 61) rfl)) rfl
theorem wfl_398 : Cond.fieldLink RX3 11 (TX3 0).1 (TX3 0).2.1 (TX3 0).2.2.1 ∈ tb := tb_in (tj_2 _ (List.mem_of_getElem? (i := 62) rfl)) rfl
theorem wfl_399 : Cond.fieldLink RX3 15 (TX3 1).1 (TX3 1).2.1 (TX3 1).2.2.1 ∈ tb := tb_in (tj_2 _ (List.mem_of_getElem? (i := 63) rfl)) rfl
theorem wfl_400 : Cond.fieldLink RX3 19 (TX3 2).1 (TX3 2).2.1 (TX3 2).2.2.1 ∈ tb := tb_in (tj_2 _ (List.mem_of_getElem? (i := 64) rfl)) rfl
theorem wfl_401 : Cond.fieldLink RX3 22 (TX3 3).1 (TX3 3).2.1 (TX3 3).2.2.1 ∈ tb := tb_in (tj_2 _ (List.mem_of_getElem? (i := 65) rfl)) rfl
theorem wfl_402 : Cond.fieldLink RX7 24 (TX7 4).1 (TX7 4).2.1 (TX7 4).2.2.1 ∈ tb := tb_in (tj_1 _ (List.mem_of_getElem? (i := 129) rfl)) rfl
theorem wnest_403 : Cond.methodLinkNest RX7 52 yX10_bitOf "SleepersPay" ∈ lw_tbl := tj_3 _ (List.mem_of_getElem? (i := 233) rfl)
theorem wfl_404 : Cond.fieldLink RX7 21 (TX7 3).1 (TX7 3).2.1 (TX7 3).2.2.1 ∈ tb := tb_in (tj_1 _ (List.mem_of_getElem? (i := 127) rfl)) rfl
theorem wfl_405 : Cond.fieldLink RX7 40 (TX7 9).1 (TX7 9).2.1 (TX7 9).2.2.1 ∈ tb := tb_in (tj_1 _ (List.mem_of_getElem? (i := 144) rfl)) rfl
theorem wfl_406 : Cond.fieldLink RX7 18 (TX7 2).1 (TX7 2).2.1 (TX7 2).2.2.1 ∈ tb := tb_in (tj_1 _ (List.mem_of_getElem? (i := 125) rfl)) rfl
theorem wfl_407 : Cond.fieldLink RX3 26 (TX2 0).1 (TX2 0).2.1 (TX2 0).2.2.1 ∈ tb := tb_in (tj_1 _ (List.mem_of_getElem? (i := 190) rfl)) rfl
theorem wml_408 : Cond.methodLink RX3 57 yX2_burningAt ∈ tb := tb_in (tj_3 _ (List.mem_of_getElem? (i := 228) rfl)) rfl
theorem winst_409 : Cond.instanceMethod yX2_burningAt ∈ tb := tb_in (tj_3 _ (List.mem_of_getElem? (i := 178) rfl)) rfl
theorem wsel_410 : Cond.selects yX2_burningAt.cls yX2_burningAt yX2_burningAt ∈ tb := tb_in (tj_3 _ (List.mem_of_getElem? (i := 179) rfl)) rfl
theorem wfl_411 : Cond.fieldLink RX3 123 (TX2 1).1 (TX2 1).2.1 (TX2 1).2.2.1 ∈ tb := tb_in (tj_1 _ (List.mem_of_getElem? (i := 193) rfl)) rfl
theorem wfl_412 : Cond.fieldLink RX3 126 (TX7 0).1 (TX7 0).2.1 (TX7 0).2.2.1 ∈ tb := tb_in (tj_1 _ (List.mem_of_getElem? (i := 121) rfl)) rfl
theorem wfl_413 : Cond.fieldLink RX3 129 (TX7 1).1 (TX7 1).2.1 (TX7 1).2.2.1 ∈ tb := tb_in (tj_1 _ (List.mem_of_getElem? (i := 124) rfl)) rfl
theorem wfl_414 : Cond.fieldLink RX3 68 (TX2 5).1 (TX2 5).2.1 (TX2 5).2.2.1 ∈ tb := tb_in (tj_1 _ (List.mem_of_getElem? (i := 201) rfl)) rfl
theorem wfl_415 : Cond.fieldLink RX3 132 (TX7 6).1 (TX7 6).2.1 (TX7 6).2.2.1 ∈ tb := tb_in (tj_1 _ (List.mem_of_getElem? (i := 134) rfl)) rfl
theorem wml_416 : Cond.methodLink RX3 61 yX7_costOf ∈ tb := tb_in (tj_3 _ (List.mem_of_getElem? (i := 229) rfl)) rfl
theorem winst_417 : Cond.instanceMethod yX7_costOf ∈ tb := tb_in (tj_3 _ (List.mem_of_getElem? (i := 230) rfl)) rfl
theorem wsel_418 : Cond.selects yX7_costOf.cls yX7_costOf yX7_costOf ∈ tb := tb_in (tj_3 _ (List.mem_of_getElem? (i := 231) rfl)) rfl
theorem wfl_419 : Cond.fieldLink RX3 37 (TX2 2).1 (TX2 2).2.1 (TX2 2).2.2.1 ∈ tb := tb_in (tj_1 _ (List.mem_of_getElem? (i := 196) rfl)) rfl
theorem wml_420 : Cond.methodLink RX3 76 yJ6_bitCount_0f7a4 ∈ tb := tb_in (tj_3 _ (List.mem_of_getElem? (i := 234) rfl)) rfl
theorem wnest_421 : Cond.methodLinkNest RX3 43 yX10_bitOf "SleepersPay" ∈ lw_tbl := tj_3 _ (List.mem_of_getElem? (i := 216) rfl)
theorem wfl_422 : Cond.fieldLink RX3 91 (TX2 7).1 (TX2 7).2.1 (TX2 7).2.2.1 ∈ tb := tb_in (tj_1 _ (List.mem_of_getElem? (i := 207) rfl)) rfl
theorem wconl_423 : Cond.constantLong RX3 55 (60) ∈ tb := tb_in (tj_4 _ (List.mem_of_getElem? (i := 0) rfl)) rfl
theorem wfl_424 : Cond.fieldLink RX3 135 (TX2 6).1 (TX2 6).2.1 (TX2 6).2.2.1 ∈ tb := tb_in (tj_1 _ (List.mem_of_getElem? (i := 205) rfl)) rfl
theorem wml_425 : Cond.methodLink RX3 138 yX7_lampsOf ∈ tb := tb_in (tj_4 _ (List.mem_of_getElem? (i := 1) rfl)) rfl
theorem winst_426 : Cond.instanceMethod yX7_lampsOf ∈ tb := tb_in (tj_4 _ (List.mem_of_getElem? (i := 2) rfl)) rfl
theorem wsel_427 : Cond.selects yX7_lampsOf.cls yX7_lampsOf yX7_lampsOf ∈ tb := tb_in (tj_4 _ (List.mem_of_getElem? (i := 3) rfl)) rfl
theorem wfl_428 : Cond.fieldLink RX3 102 (TX4 0).1 (TX4 0).2.1 (TX4 0).2.2.1 ∈ tb := tb_in (tj_3 _ (List.mem_of_getElem? (i := 138) rfl)) rfl
theorem wml_429 : Cond.methodLink RX3 115 yX3_pop ∈ tb := tb_in (tj_4 _ (List.mem_of_getElem? (i := 5) rfl)) rfl
theorem winst_430 : Cond.instanceMethod yX3_pop ∈ tb := tb_in (tj_4 _ (List.mem_of_getElem? (i := 7) rfl)) rfl
theorem wsel_431 : Cond.selects yX3_pop.cls yX3_pop yX3_pop ∈ tb := tb_in (sel_2 _ (List.mem_of_getElem? (i := 7) rfl)) rfl
theorem wml_432 : Cond.methodLink RX3 119 yX4_combine ∈ tb := tb_in (tj_4 _ (List.mem_of_getElem? (i := 9) rfl)) rfl
theorem wstat_433 : Cond.static yX4_combine ∈ tb := tb_in (tj_4 _ (List.mem_of_getElem? (i := 10) rfl)) rfl
theorem wml_434 : Cond.methodLink RX3 107 yX3_push ∈ tb := tb_in (tj_3 _ (List.mem_of_getElem? (i := 221) rfl)) rfl
theorem winst_435 : Cond.instanceMethod yX3_push ∈ tb := tb_in (tj_3 _ (List.mem_of_getElem? (i := 223) rfl)) rfl
theorem wsel_436 : Cond.selects yX3_push.cls yX3_push yX3_push ∈ tb := tb_in (sel_2 _ (List.mem_of_getElem? (i := 6) rfl)) rfl
theorem wml_437 : Cond.methodLink RX3 111 yX3_valueOf ∈ tb := tb_in (tj_3 _ (List.mem_of_getElem? (i := 225) rfl)) rfl
theorem wstat_438 : Cond.static yX3_valueOf ∈ tb := tb_in (tj_3 _ (List.mem_of_getElem? (i := 226) rfl)) rfl
theorem wfl_439 : Cond.fieldLink RX3 40 (TX7 7).1 (TX7 7).2.1 (TX7 7).2.2.1 ∈ tb := tb_in (tj_1 _ (List.mem_of_getElem? (i := 137) rfl)) rfl
theorem wml_440 : Cond.methodLink RX3 94 yX3_shareAmong ∈ tb := tb_in (tj_4 _ (List.mem_of_getElem? (i := 19) rfl)) rfl
theorem winst_441 : Cond.instanceMethod yX3_shareAmong ∈ tb := tb_in (tj_4 _ (List.mem_of_getElem? (i := 21) rfl)) rfl
theorem wsel_442 : Cond.selects yX3_shareAmong.cls yX3_shareAmong yX3_shareAmong ∈ tb := tb_in (sel_2 _ (List.mem_of_getElem? (i := 9) rfl)) rfl
theorem wml_443 : Cond.methodLink RX3 31 yX7_workersAt ∈ tb := tb_in (tj_3 _ (List.mem_of_getElem? (i := 215) rfl)) rfl
theorem winst_444 : Cond.instanceMethod yX7_workersAt ∈ tb := tb_in (tj_3 _ (List.mem_of_getElem? (i := 162) rfl)) rfl
theorem wsel_445 : Cond.selects yX7_workersAt.cls yX7_workersAt yX7_workersAt ∈ tb := tb_in (tj_3 _ (List.mem_of_getElem? (i := 163) rfl)) rfl
theorem wml_446 : Cond.methodLink RX3 47 yX3_answer ∈ tb := tb_in (tj_3 _ (List.mem_of_getElem? (i := 217) rfl)) rfl
theorem winst_447 : Cond.instanceMethod yX3_answer ∈ tb := tb_in (tj_3 _ (List.mem_of_getElem? (i := 219) rfl)) rfl
theorem wsel_448 : Cond.selects yX3_answer.cls yX3_answer yX3_answer ∈ tb := tb_in (sel_2 _ (List.mem_of_getElem? (i := 5) rfl)) rfl
theorem wml_449 : Cond.methodLink RX3 64 yX3_share ∈ tb := tb_in (tj_4 _ (List.mem_of_getElem? (i := 15) rfl)) rfl
theorem winst_450 : Cond.instanceMethod yX3_share ∈ tb := tb_in (tj_4 _ (List.mem_of_getElem? (i := 17) rfl)) rfl
theorem wsel_451 : Cond.selects yX3_share.cls yX3_share yX3_share ∈ tb := tb_in (sel_2 _ (List.mem_of_getElem? (i := 8) rfl)) rfl
theorem wml_452 : Cond.methodLink RX3 72 yX2_goOn ∈ tb := tb_in (tj_4 _ (List.mem_of_getElem? (i := 23) rfl)) rfl
theorem winst_453 : Cond.instanceMethod yX2_goOn ∈ tb := tb_in (tj_4 _ (List.mem_of_getElem? (i := 24) rfl)) rfl
theorem wsel_454 : Cond.selects yX2_goOn.cls yX2_goOn yX2_goOn ∈ tb := tb_in (tj_4 _ (List.mem_of_getElem? (i := 25) rfl)) rfl
theorem wml_455 : Cond.methodLink RX3 51 yX3_setAsleep ∈ tb := tb_in (tj_4 _ (List.mem_of_getElem? (i := 12) rfl)) rfl
theorem wstat_456 : Cond.static yX3_setAsleep ∈ tb := tb_in (tj_4 _ (List.mem_of_getElem? (i := 13) rfl)) rfl
theorem wconl_457 : Cond.constantLong RX3 81 (1103515245) ∈ tb := tb_in (tj_4 _ (List.mem_of_getElem? (i := 206) rfl)) rfl
theorem wconl_458 : Cond.constantLong RX3 83 (12345) ∈ tb := tb_in (tj_4 _ (List.mem_of_getElem? (i := 207) rfl)) rfl
theorem wconl_459 : Cond.constantLong RX3 85 (2147483647) ∈ tb := tb_in (tj_4 _ (List.mem_of_getElem? (i := 208) rfl)) rfl
theorem wconl_460 : Cond.constantLong RX3 87 (65536) ∈ tb := tb_in (tj_4 _ (List.mem_of_getElem? (i := 209) rfl)) rfl
theorem wconl_461 : Cond.constantLong RX3 89 (100) ∈ tb := tb_in (tj_4 _ (List.mem_of_getElem? (i := 210) rfl)) rfl
theorem wfl_462 : Cond.fieldLink RX7 34 (TX7 7).1 (TX7 7).2.1 (TX7 7).2.2.1 ∈ tb := tb_in (tj_1 _ (List.mem_of_getElem? (i := 136) rfl)) rfl
theorem wml_463 : Cond.methodLink RX3 98 yX7_everyone ∈ tb := tb_in (tj_4 _ (List.mem_of_getElem? (i := 189) rfl)) rfl
theorem winst_464 : Cond.instanceMethod yX7_everyone ∈ tb := tb_in (tj_4 _ (List.mem_of_getElem? (i := 105) rfl)) rfl
theorem wsel_465 : Cond.selects yX7_everyone.cls yX7_everyone yX7_everyone ∈ tb := tb_in (tj_4 _ (List.mem_of_getElem? (i := 106) rfl)) rfl
theorem wml_466 : Cond.methodLink RX4 1 objectInit ∈ tb := tb_in (tj_3 _ (List.mem_of_getElem? (i := 131) rfl)) rfl
theorem wml_467 : Cond.methodLink RX4 7 yJ9_min_7cf53 ∈ tb := tb_in (tj_3 _ (List.mem_of_getElem? (i := 132) rfl)) rfl
theorem wml_468 : Cond.methodLink RX4 13 yJ9_max_7cf53 ∈ tb := tb_in (tj_3 _ (List.mem_of_getElem? (i := 135) rfl)) rfl
theorem wfl_469 : Cond.fieldLink RX4 16 (TX4 0).1 (TX4 0).2.1 (TX4 0).2.2.1 ∈ tb := tb_in (tj_3 _ (List.mem_of_getElem? (i := 137) rfl)) rfl
theorem wml_470 : Cond.methodLink RX4 22 arraycopyName ∈ tb := tb_in (tj_3 _ (List.mem_of_getElem? (i := 136) rfl)) rfl
theorem wml_471 : Cond.methodLink RX5 7 objectInit ∈ tb := tb_in (tj_1 _ (List.mem_of_getElem? (i := 98) rfl)) rfl
theorem wfl_472 : Cond.fieldLink RX5 13 (TX5 1).1 (TX5 1).2.1 (TX5 1).2.2.1 ∈ tb := tb_in (tj_1 _ (List.mem_of_getElem? (i := 100) rfl)) rfl
theorem wfl_473 : Cond.fieldLink RX5 17 (TX5 2).1 (TX5 2).2.1 (TX5 2).2.2.1 ∈ tb := tb_in (tj_1 _ (List.mem_of_getElem? (i := 101) rfl)) rfl
theorem wfl_474 : Cond.fieldLink RX5 21 (TX5 3).1 (TX5 3).2.1 (TX5 3).2.2.1 ∈ tb := tb_in (tj_1 _ (List.mem_of_getElem? (i := 102) rfl)) rfl
theorem wfl_475 : Cond.fieldLink RX5 24 (TX5 0).1 (TX5 0).2.1 (TX5 0).2.2.1 ∈ tb := tb_in (tj_1 _ (List.mem_of_getElem? (i := 99) rfl)) rfl
theorem wclk_476 : Cond.classLink RX5 28 RX4 ∈ tb := tb_in (tj_3 _ (List.mem_of_getElem? (i := 126) rfl)) rfl
theorem winsta_477 : Cond.instantiable RX4 1 ∈ tb := tb_in (tj_3 _ (List.mem_of_getElem? (i := 127) rfl)) rfl
theorem wini_478 : Cond.initialized "SleepersPay$Rule" ∈ tb := tb_in (tj_1 _ (List.mem_of_getElem? (i := 18) rfl)) rfl
theorem wml_479 : Cond.methodLink RX5 30 yX4_init ∈ tb := tb_in (tj_3 _ (List.mem_of_getElem? (i := 128) rfl)) rfl
theorem winst_480 : Cond.instanceMethod yX4_init ∈ tb := tb_in (tj_3 _ (List.mem_of_getElem? (i := 129) rfl)) rfl
theorem wfl_481 : Cond.fieldLink RX9 15 (TX9 1).1 (TX9 1).2.1 (TX9 1).2.2.1 ∈ tb := tb_in (tj_1 _ (List.mem_of_getElem? (i := 35) rfl)) rfl
theorem wfl_482 : Cond.fieldLink RX9 11 (TX9 0).1 (TX9 0).2.1 (TX9 0).2.2.1 ∈ tb := tb_in (tj_1 _ (List.mem_of_getElem? (i := 34) rfl)) rfl
theorem wfl_483 : Cond.fieldLink RX9 32 (TX9 6).1 (TX9 6).2.1 (TX9 6).2.2.1 ∈ tb := tb_in (tj_1 _ (List.mem_of_getElem? (i := 43) rfl)) rfl
theorem wfl_484 : Cond.fieldLink RX9 22 (TX9 3).1 (TX9 3).2.1 (TX9 3).2.2.1 ∈ tb := tb_in (tj_1 _ (List.mem_of_getElem? (i := 40) rfl)) rfl
theorem wfl_485 : Cond.fieldLink RX9 26 (TX9 4).1 (TX9 4).2.1 (TX9 4).2.2.1 ∈ tb := tb_in (tj_1 _ (List.mem_of_getElem? (i := 41) rfl)) rfl
theorem wfl_486 : Cond.fieldLink RX9 29 (TX9 5).1 (TX9 5).2.1 (TX9 5).2.2.1 ∈ tb := tb_in (tj_1 _ (List.mem_of_getElem? (i := 42) rfl)) rfl
theorem wml_487 : Cond.methodLink RX9 61 yX9_byteAt ∈ tb := tb_in (tj_2 _ (List.mem_of_getElem? (i := 153) rfl)) rfl
theorem winst_488 : Cond.instanceMethod yX9_byteAt ∈ tb := tb_in (tj_2 _ (List.mem_of_getElem? (i := 155) rfl)) rfl
theorem wsel_489 : Cond.selects yX9_byteAt.cls yX9_byteAt yX9_byteAt ∈ tb := tb_in (sel_1 _ (List.mem_of_getElem? (i := 1) rfl)) rfl
theorem wml_490 : Cond.methodLink RX9 64 yX9_isDigit ∈ tb := tb_in (tj_2 _ (List.mem_of_getElem? (i := 157) rfl)) rfl
theorem wstat_491 : Cond.static yX9_isDigit ∈ tb := tb_in (tj_2 _ (List.mem_of_getElem? (i := 158) rfl)) rfl
theorem wml_492 : Cond.methodLink RX9 54 yX9_add ∈ tb := tb_in (tj_2 _ (List.mem_of_getElem? (i := 164) rfl)) rfl
theorem winst_493 : Cond.instanceMethod yX9_add ∈ tb := tb_in (tj_2 _ (List.mem_of_getElem? (i := 166) rfl)) rfl
theorem wsel_494 : Cond.selects yX9_add.cls yX9_add yX9_add ∈ tb := tb_in (sel_1 _ (List.mem_of_getElem? (i := 3) rfl)) rfl
theorem wml_495 : Cond.methodLink RX9 83 yJ0_length_8abf5 ∈ tb := tb_in (tj_2 _ (List.mem_of_getElem? (i := 180) rfl)) rfl
theorem winst_496 : Cond.instanceMethod yJ0_length_8abf5 ∈ tb := tb_in (tj_2 _ (List.mem_of_getElem? (i := 181) rfl)) rfl
theorem wsel_497 : Cond.selects yJ0_length_8abf5.cls yJ0_length_8abf5 yJ0_length_8abf5 ∈ tb := tb_in (tj_2 _ (List.mem_of_getElem? (i := 182) rfl)) rfl
theorem wml_498 : Cond.methodLink RX9 88 yJ0_charAt_5068e ∈ tb := tb_in (tj_2 _ (List.mem_of_getElem? (i := 190) rfl)) rfl
theorem winst_499 : Cond.instanceMethod yJ0_charAt_5068e ∈ tb := tb_in (tj_2 _ (List.mem_of_getElem? (i := 191) rfl)) rfl
theorem wsel_500 : Cond.selects yJ0_charAt_5068e.cls yJ0_charAt_5068e yJ0_charAt_5068e ∈ tb := tb_in (tj_2 _ (List.mem_of_getElem? (i := 192) rfl)) rfl
theorem wml_501 : Cond.methodLink RX9 92 yX9_isSame ∈ tb := tb_in (tj_2 _ (List.mem_of_getElem? (i := 228) rfl)) rfl
theorem winst_502 : Cond.instanceMethod yX9_isSame ∈ tb := tb_in (tj_2 _ (List.mem_of_getElem? (i := 230) rfl)) rfl
theorem wsel_503 : Cond.selects yX9_isSame.cls yX9_isSame yX9_isSame ∈ tb := tb_in (sel_1 _ (List.mem_of_getElem? (i := 6) rfl)) rfl
theorem wml_504 : Cond.methodLink RX9 71 yX9_isSmall ∈ tb := tb_in (tj_2 _ (List.mem_of_getElem? (i := 168) rfl)) rfl
theorem wstat_505 : Cond.static yX9_isSmall ∈ tb := tb_in (tj_2 _ (List.mem_of_getElem? (i := 169) rfl)) rfl
theorem wml_506 : Cond.methodLink RX9 77 yX9_wordBetween ∈ tb := tb_in (tj_2 _ (List.mem_of_getElem? (i := 175) rfl)) rfl
theorem winst_507 : Cond.instanceMethod yX9_wordBetween ∈ tb := tb_in (tj_2 _ (List.mem_of_getElem? (i := 177) rfl)) rfl
theorem wsel_508 : Cond.selects yX9_wordBetween.cls yX9_wordBetween yX9_wordBetween ∈ tb := tb_in (sel_1 _ (List.mem_of_getElem? (i := 5) rfl)) rfl
theorem wml_509 : Cond.methodLink RX9 74 yX9_splitWord ∈ tb := tb_in (tj_2 _ (List.mem_of_getElem? (i := 171) rfl)) rfl
theorem winst_510 : Cond.instanceMethod yX9_splitWord ∈ tb := tb_in (tj_2 _ (List.mem_of_getElem? (i := 173) rfl)) rfl
theorem wsel_511 : Cond.selects yX9_splitWord.cls yX9_splitWord yX9_splitWord ∈ tb := tb_in (sel_1 _ (List.mem_of_getElem? (i := 4) rfl)) rfl
theorem wml_512 : Cond.methodLink RX9 68 yX9_splitNumber ∈ tb := tb_in (tj_2 _ (List.mem_of_getElem? (i := 160) rfl)) rfl
theorem winst_513 : Cond.instanceMethod yX9_splitNumber ∈ tb := tb_in (tj_2 _ (List.mem_of_getElem? (i := 162) rfl)) rfl
theorem wsel_514 : Cond.selects yX9_splitNumber.cls yX9_splitNumber yX9_splitNumber ∈ tb := tb_in (sel_1 _ (List.mem_of_getElem? (i := 2) rfl)) rfl
theorem wfl_515 : Cond.fieldLink RX9 35 (TX9 7).1 (TX9 7).2.1 (TX9 7).2.2.1 ∈ tb := tb_in (tj_1 _ (List.mem_of_getElem? (i := 44) rfl)) rfl
theorem wfl_516 : Cond.fieldLink RX9 38 (TX9 8).1 (TX9 8).2.1 (TX9 8).2.2.1 ∈ tb := tb_in (tj_1 _ (List.mem_of_getElem? (i := 45) rfl)) rfl
theorem wfl_517 : Cond.fieldLink RX9 41 (TX9 9).1 (TX9 9).2.1 (TX9 9).2.2.1 ∈ tb := tb_in (tj_1 _ (List.mem_of_getElem? (i := 48) rfl)) rfl
theorem wfl_518 : Cond.fieldLink RX9 44 (TX9 10).1 (TX9 10).2.1 (TX9 10).2.2.1 ∈ tb := tb_in (tj_1 _ (List.mem_of_getElem? (i := 51) rfl)) rfl
theorem wfl_519 : Cond.fieldLink RX9 47 (TX9 11).1 (TX9 11).2.1 (TX9 11).2.2.1 ∈ tb := tb_in (tj_1 _ (List.mem_of_getElem? (i := 54) rfl)) rfl
theorem wfl_520 : Cond.fieldLink RX9 19 (TX9 2).1 (TX9 2).2.1 (TX9 2).2.2.1 ∈ tb := tb_in (tj_1 _ (List.mem_of_getElem? (i := 37) rfl)) rfl
theorem wml_521 : Cond.methodLink RX9 50 yX9_splitAt ∈ tb := tb_in (tj_2 _ (List.mem_of_getElem? (i := 149) rfl)) rfl
theorem winst_522 : Cond.instanceMethod yX9_splitAt ∈ tb := tb_in (tj_2 _ (List.mem_of_getElem? (i := 151) rfl)) rfl
theorem wsel_523 : Cond.selects yX9_splitAt.cls yX9_splitAt yX9_splitAt ∈ tb := tb_in (sel_1 _ (List.mem_of_getElem? (i := 0) rfl)) rfl
theorem wml_524 : Cond.methodLink RX9 58 yX9_step ∈ tb := tb_in (tj_2 _ (List.mem_of_getElem? (i := 232) rfl)) rfl
theorem winst_525 : Cond.instanceMethod yX9_step ∈ tb := tb_in (tj_2 _ (List.mem_of_getElem? (i := 233) rfl)) rfl
theorem wsel_526 : Cond.selects yX9_step.cls yX9_step yX9_step ∈ tb := tb_in (tj_2 _ (List.mem_of_getElem? (i := 234) rfl)) rfl
theorem wfl_527 : Cond.fieldLink RX5 43 (TX9 8).1 (TX9 8).2.1 (TX9 8).2.2.1 ∈ tb := tb_in (tj_1 _ (List.mem_of_getElem? (i := 47) rfl)) rfl
theorem wfl_528 : Cond.fieldLink RX5 49 (TX9 10).1 (TX9 10).2.1 (TX9 10).2.2.1 ∈ tb := tb_in (tj_1 _ (List.mem_of_getElem? (i := 53) rfl)) rfl
theorem wml_529 : Cond.methodLink RX5 52 yX9_refuse ∈ tb := tb_in (tj_3 _ (List.mem_of_getElem? (i := 90) rfl)) rfl
theorem winst_530 : Cond.instanceMethod yX9_refuse ∈ tb := tb_in (tj_3 _ (List.mem_of_getElem? (i := 4) rfl)) rfl
theorem wsel_531 : Cond.selects yX9_refuse.cls yX9_refuse yX9_refuse ∈ tb := tb_in (tj_3 _ (List.mem_of_getElem? (i := 5) rfl)) rfl
theorem wfl_532 : Cond.fieldLink RX5 87 (TX9 9).1 (TX9 9).2.1 (TX9 9).2.2.1 ∈ tb := tb_in (tj_1 _ (List.mem_of_getElem? (i := 50) rfl)) rfl
theorem wml_533 : Cond.methodLink RX5 62 yX5_emit ∈ tb := tb_in (tj_3 _ (List.mem_of_getElem? (i := 100) rfl)) rfl
theorem winst_534 : Cond.instanceMethod yX5_emit ∈ tb := tb_in (tj_3 _ (List.mem_of_getElem? (i := 102) rfl)) rfl
theorem wsel_535 : Cond.selects yX5_emit.cls yX5_emit yX5_emit ∈ tb := tb_in (sel_1 _ (List.mem_of_getElem? (i := 15) rfl)) rfl
theorem wml_536 : Cond.methodLink RX5 55 yX9_step ∈ tb := tb_in (tj_3 _ (List.mem_of_getElem? (i := 91) rfl)) rfl
theorem wml_537 : Cond.methodLink RX5 78 yX5_readValue ∈ tb := tb_in (tj_3 _ (List.mem_of_getElem? (i := 96) rfl)) rfl
theorem winst_538 : Cond.instanceMethod yX5_readValue ∈ tb := tb_in (tj_3 _ (List.mem_of_getElem? (i := 98) rfl)) rfl
theorem wsel_539 : Cond.selects yX5_readValue.cls yX5_readValue yX5_readValue ∈ tb := tb_in (sel_1 _ (List.mem_of_getElem? (i := 14) rfl)) rfl
theorem wfl_540 : Cond.fieldLink RX5 71 (TX9 11).1 (TX9 11).2.1 (TX9 11).2.2.1 ∈ tb := tb_in (tj_1 _ (List.mem_of_getElem? (i := 55) rfl)) rfl
theorem wml_541 : Cond.methodLink RX5 81 yX5_factorOf ∈ tb := tb_in (tj_3 _ (List.mem_of_getElem? (i := 104) rfl)) rfl
theorem wstat_542 : Cond.static yX5_factorOf ∈ tb := tb_in (tj_3 _ (List.mem_of_getElem? (i := 105) rfl)) rfl
theorem wml_543 : Cond.methodLink RX5 84 yX5_summandOf ∈ tb := tb_in (tj_3 _ (List.mem_of_getElem? (i := 107) rfl)) rfl
theorem wstat_544 : Cond.static yX5_summandOf ∈ tb := tb_in (tj_3 _ (List.mem_of_getElem? (i := 108) rfl)) rfl
theorem wml_545 : Cond.methodLink RX9 96 yX9_refuse ∈ tb := tb_in (tj_3 _ (List.mem_of_getElem? (i := 19) rfl)) rfl
theorem wml_546 : Cond.methodLink RX5 58 yX5_readSum ∈ tb := tb_in (tj_3 _ (List.mem_of_getElem? (i := 92) rfl)) rfl
theorem winst_547 : Cond.instanceMethod yX5_readSum ∈ tb := tb_in (tj_3 _ (List.mem_of_getElem? (i := 94) rfl)) rfl
theorem wsel_548 : Cond.selects yX5_readSum.cls yX5_readSum yX5_readSum ∈ tb := tb_in (sel_1 _ (List.mem_of_getElem? (i := 13) rfl)) rfl
theorem wml_549 : Cond.methodLink RX5 74 yX5_comparisonOf ∈ tb := tb_in (tj_3 _ (List.mem_of_getElem? (i := 119) rfl)) rfl
theorem wstat_550 : Cond.static yX5_comparisonOf ∈ tb := tb_in (tj_3 _ (List.mem_of_getElem? (i := 120) rfl)) rfl
theorem wml_551 : Cond.methodLink RX5 65 yX5_readTest ∈ tb := tb_in (tj_3 _ (List.mem_of_getElem? (i := 110) rfl)) rfl
theorem winst_552 : Cond.instanceMethod yX5_readTest ∈ tb := tb_in (tj_3 _ (List.mem_of_getElem? (i := 112) rfl)) rfl
theorem wsel_553 : Cond.selects yX5_readTest.cls yX5_readTest yX5_readTest ∈ tb := tb_in (sel_2 _ (List.mem_of_getElem? (i := 0) rfl)) rfl
theorem wml_554 : Cond.methodLink RX5 46 yX9_takeSign ∈ tb := tb_in (tj_3 _ (List.mem_of_getElem? (i := 118) rfl)) rfl
theorem winst_555 : Cond.instanceMethod yX9_takeSign ∈ tb := tb_in (tj_3 _ (List.mem_of_getElem? (i := 55) rfl)) rfl
theorem wsel_556 : Cond.selects yX9_takeSign.cls yX9_takeSign yX9_takeSign ∈ tb := tb_in (tj_3 _ (List.mem_of_getElem? (i := 56) rfl)) rfl
theorem wml_557 : Cond.methodLink RX5 68 yX5_readFact ∈ tb := tb_in (tj_3 _ (List.mem_of_getElem? (i := 114) rfl)) rfl
theorem winst_558 : Cond.instanceMethod yX5_readFact ∈ tb := tb_in (tj_3 _ (List.mem_of_getElem? (i := 116) rfl)) rfl
theorem wsel_559 : Cond.selects yX5_readFact.cls yX5_readFact yX5_readFact ∈ tb := tb_in (sel_2 _ (List.mem_of_getElem? (i := 1) rfl)) rfl
theorem wml_560 : Cond.methodLink RX5 33 yX9_open ∈ tb := tb_in (tj_3 _ (List.mem_of_getElem? (i := 85) rfl)) rfl
theorem winst_561 : Cond.instanceMethod yX9_open ∈ tb := tb_in (tj_2 _ (List.mem_of_getElem? (i := 146) rfl)) rfl
theorem wsel_562 : Cond.selects yX9_open.cls yX9_open yX9_open ∈ tb := tb_in (tj_2 _ (List.mem_of_getElem? (i := 147) rfl)) rfl
theorem wfl_563 : Cond.fieldLink RX5 40 (TX9 2).1 (TX9 2).2.1 (TX9 2).2.2.1 ∈ tb := tb_in (tj_1 _ (List.mem_of_getElem? (i := 39) rfl)) rfl
theorem wml_564 : Cond.methodLink RX5 36 yX5_readClause ∈ tb := tb_in (tj_3 _ (List.mem_of_getElem? (i := 86) rfl)) rfl
theorem winst_565 : Cond.instanceMethod yX5_readClause ∈ tb := tb_in (tj_3 _ (List.mem_of_getElem? (i := 88) rfl)) rfl
theorem wsel_566 : Cond.selects yX5_readClause.cls yX5_readClause yX5_readClause ∈ tb := tb_in (sel_1 _ (List.mem_of_getElem? (i := 12) rfl)) rfl
theorem wml_567 : Cond.methodLink RX7 3 objectInit ∈ tb := tb_in (tj_1 _ (List.mem_of_getElem? (i := 117) rfl)) rfl
theorem wfl_568 : Cond.fieldLink RX7 9 (TX7 0).1 (TX7 0).2.1 (TX7 0).2.2.1 ∈ tb := tb_in (tj_1 _ (List.mem_of_getElem? (i := 118) rfl)) rfl
theorem wfl_569 : Cond.fieldLink RX7 15 (TX7 1).1 (TX7 1).2.1 (TX7 1).2.2.1 ∈ tb := tb_in (tj_1 _ (List.mem_of_getElem? (i := 122) rfl)) rfl
theorem wfl_570 : Cond.fieldLink RX7 30 (TX7 6).1 (TX7 6).2.1 (TX7 6).2.2.1 ∈ tb := tb_in (tj_1 _ (List.mem_of_getElem? (i := 131) rfl)) rfl
theorem wfl_571 : Cond.fieldLink RX7 37 (TX7 8).1 (TX7 8).2.1 (TX7 8).2.2.1 ∈ tb := tb_in (tj_1 _ (List.mem_of_getElem? (i := 141) rfl)) rfl
theorem wfl_572 : Cond.fieldLink RX7 43 (TX7 10).1 (TX7 10).2.1 (TX7 10).2.2.1 ∈ tb := tb_in (tj_1 _ (List.mem_of_getElem? (i := 147) rfl)) rfl
theorem wml_573 : Cond.methodLink RX6 3 objectInit ∈ tb := tb_in (tj_1 _ (List.mem_of_getElem? (i := 180) rfl)) rfl
theorem wclk_574 : Cond.classLink RX6 9 RX7 ∈ tb := tb_in (tj_1 _ (List.mem_of_getElem? (i := 181) rfl)) rfl
theorem winsta_575 : Cond.instantiable RX7 11 ∈ tb := tb_in (tj_1 _ (List.mem_of_getElem? (i := 113) rfl)) rfl
theorem wini_576 : Cond.initialized "SleepersPay$Street" ∈ tb := tb_in (tj_1 _ (List.mem_of_getElem? (i := 5) rfl)) rfl
theorem wnest_577 : Cond.methodLinkNest RX6 11 yX7_init "SleepersPay" ∈ lw_tbl := tj_1 _ (List.mem_of_getElem? (i := 182) rfl)
theorem winst_578 : Cond.instanceMethod yX7_init ∈ tb := tb_in (tj_1 _ (List.mem_of_getElem? (i := 115) rfl)) rfl
theorem wfl_579 : Cond.fieldLink RX6 12 (TX6 0).1 (TX6 0).2.1 (TX6 0).2.2.1 ∈ tb := tb_in (tj_2 _ (List.mem_of_getElem? (i := 10) rfl)) rfl
theorem wclk_580 : Cond.classLink RX6 18 RX2 ∈ tb := tb_in (tj_1 _ (List.mem_of_getElem? (i := 183) rfl)) rfl
theorem wnest_581 : Cond.methodLinkNest RX6 20 yX2_init "SleepersPay" ∈ lw_tbl := tj_1 _ (List.mem_of_getElem? (i := 185) rfl)
theorem wfl_582 : Cond.fieldLink RX6 21 (TX6 1).1 (TX6 1).2.1 (TX6 1).2.2.1 ∈ tb := tb_in (tj_2 _ (List.mem_of_getElem? (i := 12) rfl)) rfl
theorem wclk_583 : Cond.classLink RX6 25 RX1 ∈ tb := tb_in (tj_1 _ (List.mem_of_getElem? (i := 227) rfl)) rfl
theorem winsta_584 : Cond.instantiable RX1 5 ∈ tb := tb_in (tj_1 _ (List.mem_of_getElem? (i := 228) rfl)) rfl
theorem wini_585 : Cond.initialized "SleepersPay$Facts" ∈ tb := tb_in (tj_1 _ (List.mem_of_getElem? (i := 8) rfl)) rfl
theorem wnest_586 : Cond.methodLinkNest RX6 27 yX1_init "SleepersPay" ∈ lw_tbl := tj_1 _ (List.mem_of_getElem? (i := 229) rfl)
theorem winst_587 : Cond.instanceMethod yX1_init ∈ tb := tb_in (tj_1 _ (List.mem_of_getElem? (i := 230) rfl)) rfl
theorem wfl_588 : Cond.fieldLink RX6 28 (TX6 2).1 (TX6 2).2.1 (TX6 2).2.2.1 ∈ tb := tb_in (tj_2 _ (List.mem_of_getElem? (i := 14) rfl)) rfl
theorem wfl_589 : Cond.fieldLink RX6 32 (TX6 3).1 (TX6 3).2.1 (TX6 3).2.2.1 ∈ tb := tb_in (tj_2 _ (List.mem_of_getElem? (i := 16) rfl)) rfl
theorem wfl_590 : Cond.fieldLink RX6 36 (TX6 4).1 (TX6 4).2.1 (TX6 4).2.2.1 ∈ tb := tb_in (tj_2 _ (List.mem_of_getElem? (i := 18) rfl)) rfl
theorem wfl_591 : Cond.fieldLink RX6 39 (TX6 5).1 (TX6 5).2.1 (TX6 5).2.2.1 ∈ tb := tb_in (tj_2 _ (List.mem_of_getElem? (i := 20) rfl)) rfl
theorem wml_592 : Cond.methodLink RX7 46 arraycopyName ∈ tb := tb_in (tj_3 _ (List.mem_of_getElem? (i := 62) rfl)) rfl
theorem wml_593 : Cond.methodLink RX6 43 yX7_copyOf ∈ tb := tb_in (tj_4 _ (List.mem_of_getElem? (i := 223) rfl)) rfl
theorem winst_594 : Cond.instanceMethod yX7_copyOf ∈ tb := tb_in (tj_3 _ (List.mem_of_getElem? (i := 59) rfl)) rfl
theorem wsel_595 : Cond.selects yX7_copyOf.cls yX7_copyOf yX7_copyOf ∈ tb := tb_in (tj_3 _ (List.mem_of_getElem? (i := 60) rfl)) rfl
theorem wml_596 : Cond.methodLink RX6 47 yX2_copyOf ∈ tb := tb_in (tj_4 _ (List.mem_of_getElem? (i := 224) rfl)) rfl
theorem wml_597 : Cond.methodLink RX6 50 yX1_copyOf ∈ tb := tb_in (tj_4 _ (List.mem_of_getElem? (i := 225) rfl)) rfl
theorem winst_598 : Cond.instanceMethod yX1_copyOf ∈ tb := tb_in (tj_4 _ (List.mem_of_getElem? (i := 226) rfl)) rfl
theorem wsel_599 : Cond.selects yX1_copyOf.cls yX1_copyOf yX1_copyOf ∈ tb := tb_in (tj_4 _ (List.mem_of_getElem? (i := 227) rfl)) rfl
theorem wml_600 : Cond.methodLink RX7 60 yJ9_max_7cf53 ∈ tb := tb_in (tj_3 _ (List.mem_of_getElem? (i := 47) rfl)) rfl
theorem wml_601 : Cond.methodLink RX7 56 yX7_addSpan ∈ tb := tb_in (tj_3 _ (List.mem_of_getElem? (i := 44) rfl)) rfl
theorem wstat_602 : Cond.static yX7_addSpan ∈ tb := tb_in (tj_3 _ (List.mem_of_getElem? (i := 45) rfl)) rfl
theorem wml_603 : Cond.methodLink RX8 3 objectInit ∈ tb := tb_in (tj_1 _ (List.mem_of_getElem? (i := 88) rfl)) rfl
theorem wfl_604 : Cond.fieldLink RX8 9 (TX8 0).1 (TX8 0).2.1 (TX8 0).2.2.1 ∈ tb := tb_in (tj_1 _ (List.mem_of_getElem? (i := 89) rfl)) rfl
theorem wfl_605 : Cond.fieldLink RX8 68 (TX7 7).1 (TX7 7).2.1 (TX7 7).2.2.1 ∈ tb := tb_in (tj_1 _ (List.mem_of_getElem? (i := 139) rfl)) rfl
theorem wfl_606 : Cond.fieldLink RX8 71 (TX7 8).1 (TX7 8).2.1 (TX7 8).2.2.1 ∈ tb := tb_in (tj_1 _ (List.mem_of_getElem? (i := 142) rfl)) rfl
theorem wfl_607 : Cond.fieldLink RX8 74 (TX7 9).1 (TX7 9).2.1 (TX7 9).2.2.1 ∈ tb := tb_in (tj_1 _ (List.mem_of_getElem? (i := 145) rfl)) rfl
theorem wfl_608 : Cond.fieldLink RX8 77 (TX7 10).1 (TX7 10).2.1 (TX7 10).2.2.1 ∈ tb := tb_in (tj_1 _ (List.mem_of_getElem? (i := 148) rfl)) rfl
theorem wml_609 : Cond.methodLink RX8 80 yX9_takeNumber ∈ tb := tb_in (tj_3 _ (List.mem_of_getElem? (i := 15) rfl)) rfl
theorem winst_610 : Cond.instanceMethod yX9_takeNumber ∈ tb := tb_in (tj_3 _ (List.mem_of_getElem? (i := 16) rfl)) rfl
theorem wsel_611 : Cond.selects yX9_takeNumber.cls yX9_takeNumber yX9_takeNumber ∈ tb := tb_in (tj_3 _ (List.mem_of_getElem? (i := 17) rfl)) rfl
theorem wfl_612 : Cond.fieldLink RX8 84 (TX7 6).1 (TX7 6).2.1 (TX7 6).2.2.1 ∈ tb := tb_in (tj_1 _ (List.mem_of_getElem? (i := 133) rfl)) rfl
theorem wml_613 : Cond.methodLink RX8 87 yX7_addPerson ∈ tb := tb_in (tj_3 _ (List.mem_of_getElem? (i := 24) rfl)) rfl
theorem winst_614 : Cond.instanceMethod yX7_addPerson ∈ tb := tb_in (tj_3 _ (List.mem_of_getElem? (i := 25) rfl)) rfl
theorem wsel_615 : Cond.selects yX7_addPerson.cls yX7_addPerson yX7_addPerson ∈ tb := tb_in (tj_3 _ (List.mem_of_getElem? (i := 26) rfl)) rfl
theorem wfl_616 : Cond.fieldLink RX8 91 (TX9 9).1 (TX9 9).2.1 (TX9 9).2.2.1 ∈ tb := tb_in (tj_1 _ (List.mem_of_getElem? (i := 49) rfl)) rfl
theorem wml_617 : Cond.methodLink RX8 94 yX7_addLamp ∈ tb := tb_in (tj_3 _ (List.mem_of_getElem? (i := 32) rfl)) rfl
theorem winst_618 : Cond.instanceMethod yX7_addLamp ∈ tb := tb_in (tj_3 _ (List.mem_of_getElem? (i := 33) rfl)) rfl
theorem wsel_619 : Cond.selects yX7_addLamp.cls yX7_addLamp yX7_addLamp ∈ tb := tb_in (tj_3 _ (List.mem_of_getElem? (i := 34) rfl)) rfl
theorem wml_620 : Cond.methodLink RX8 101 yX7_addLit ∈ tb := tb_in (tj_3 _ (List.mem_of_getElem? (i := 50) rfl)) rfl
theorem winst_621 : Cond.instanceMethod yX7_addLit ∈ tb := tb_in (tj_3 _ (List.mem_of_getElem? (i := 51) rfl)) rfl
theorem wsel_622 : Cond.selects yX7_addLit.cls yX7_addLit yX7_addLit ∈ tb := tb_in (tj_3 _ (List.mem_of_getElem? (i := 52) rfl)) rfl
theorem wml_623 : Cond.methodLink RX8 97 yX7_addWork ∈ tb := tb_in (tj_3 _ (List.mem_of_getElem? (i := 40) rfl)) rfl
theorem winst_624 : Cond.instanceMethod yX7_addWork ∈ tb := tb_in (tj_3 _ (List.mem_of_getElem? (i := 41) rfl)) rfl
theorem wsel_625 : Cond.selects yX7_addWork.cls yX7_addWork yX7_addWork ∈ tb := tb_in (tj_3 _ (List.mem_of_getElem? (i := 42) rfl)) rfl
theorem wfl_626 : Cond.fieldLink RX8 40 (TX9 10).1 (TX9 10).2.1 (TX9 10).2.2.1 ∈ tb := tb_in (tj_1 _ (List.mem_of_getElem? (i := 52) rfl)) rfl
theorem wml_627 : Cond.methodLink RX8 43 yX8_isClause ∈ tb := tb_in (tj_3 _ (List.mem_of_getElem? (i := 0) rfl)) rfl
theorem wstat_628 : Cond.static yX8_isClause ∈ tb := tb_in (tj_3 _ (List.mem_of_getElem? (i := 1) rfl)) rfl
theorem wml_629 : Cond.methodLink RX8 46 yX9_refuse ∈ tb := tb_in (tj_3 _ (List.mem_of_getElem? (i := 3) rfl)) rfl
theorem wml_630 : Cond.methodLink RX8 49 yX8_isFull ∈ tb := tb_in (tj_3 _ (List.mem_of_getElem? (i := 7) rfl)) rfl
theorem wstat_631 : Cond.static yX8_isFull ∈ tb := tb_in (tj_3 _ (List.mem_of_getElem? (i := 8) rfl)) rfl
theorem wml_632 : Cond.methodLink RX8 52 yX9_step ∈ tb := tb_in (tj_3 _ (List.mem_of_getElem? (i := 10) rfl)) rfl
theorem wml_633 : Cond.methodLink RX8 59 yX8_readPerson ∈ tb := tb_in (tj_3 _ (List.mem_of_getElem? (i := 20) rfl)) rfl
theorem winst_634 : Cond.instanceMethod yX8_readPerson ∈ tb := tb_in (tj_3 _ (List.mem_of_getElem? (i := 22) rfl)) rfl
theorem wsel_635 : Cond.selects yX8_readPerson.cls yX8_readPerson yX8_readPerson ∈ tb := tb_in (sel_1 _ (List.mem_of_getElem? (i := 9) rfl)) rfl
theorem wml_636 : Cond.methodLink RX8 55 yX8_readHours ∈ tb := tb_in (tj_3 _ (List.mem_of_getElem? (i := 11) rfl)) rfl
theorem winst_637 : Cond.instanceMethod yX8_readHours ∈ tb := tb_in (tj_3 _ (List.mem_of_getElem? (i := 13) rfl)) rfl
theorem wsel_638 : Cond.selects yX8_readHours.cls yX8_readHours yX8_readHours ∈ tb := tb_in (sel_1 _ (List.mem_of_getElem? (i := 8) rfl)) rfl
theorem wml_639 : Cond.methodLink RX8 62 yX8_readLamp ∈ tb := tb_in (tj_3 _ (List.mem_of_getElem? (i := 28) rfl)) rfl
theorem winst_640 : Cond.instanceMethod yX8_readLamp ∈ tb := tb_in (tj_3 _ (List.mem_of_getElem? (i := 30) rfl)) rfl
theorem wsel_641 : Cond.selects yX8_readLamp.cls yX8_readLamp yX8_readLamp ∈ tb := tb_in (sel_1 _ (List.mem_of_getElem? (i := 10) rfl)) rfl
theorem wml_642 : Cond.methodLink RX8 65 yX8_readSpan ∈ tb := tb_in (tj_3 _ (List.mem_of_getElem? (i := 36) rfl)) rfl
theorem winst_643 : Cond.instanceMethod yX8_readSpan ∈ tb := tb_in (tj_3 _ (List.mem_of_getElem? (i := 38) rfl)) rfl
theorem wsel_644 : Cond.selects yX8_readSpan.cls yX8_readSpan yX8_readSpan ∈ tb := tb_in (sel_1 _ (List.mem_of_getElem? (i := 11) rfl)) rfl
theorem wml_645 : Cond.methodLink RX8 15 yX7_clear ∈ tb := tb_in (tj_2 _ (List.mem_of_getElem? (i := 141) rfl)) rfl
theorem winst_646 : Cond.instanceMethod yX7_clear ∈ tb := tb_in (tj_2 _ (List.mem_of_getElem? (i := 142) rfl)) rfl
theorem wsel_647 : Cond.selects yX7_clear.cls yX7_clear yX7_clear ∈ tb := tb_in (tj_2 _ (List.mem_of_getElem? (i := 143) rfl)) rfl
theorem wml_648 : Cond.methodLink RX8 20 yX9_open ∈ tb := tb_in (tj_2 _ (List.mem_of_getElem? (i := 145) rfl)) rfl
theorem wfl_649 : Cond.fieldLink RX8 29 (TX9 2).1 (TX9 2).2.1 (TX9 2).2.2.1 ∈ tb := tb_in (tj_1 _ (List.mem_of_getElem? (i := 38) rfl)) rfl
theorem wml_650 : Cond.methodLink RX8 25 yX8_readClause ∈ tb := tb_in (tj_2 _ (List.mem_of_getElem? (i := 236) rfl)) rfl
theorem winst_651 : Cond.instanceMethod yX8_readClause ∈ tb := tb_in (tj_2 _ (List.mem_of_getElem? (i := 238) rfl)) rfl
theorem wsel_652 : Cond.selects yX8_readClause.cls yX8_readClause yX8_readClause ∈ tb := tb_in (sel_1 _ (List.mem_of_getElem? (i := 7) rfl)) rfl
theorem wfl_653 : Cond.fieldLink RX8 33 (TX9 8).1 (TX9 8).2.1 (TX9 8).2.2.1 ∈ tb := tb_in (tj_1 _ (List.mem_of_getElem? (i := 46) rfl)) rfl
theorem wml_654 : Cond.methodLink RX8 36 yX9_takeSign ∈ tb := tb_in (tj_3 _ (List.mem_of_getElem? (i := 54) rfl)) rfl
theorem wml_655 : Cond.methodLink RX9 3 objectInit ∈ tb := tb_in (tj_1 _ (List.mem_of_getElem? (i := 33) rfl)) rfl
theorem wml_656 : Cond.methodLink RX10 3 objectInit ∈ tb := tb_in (tj_1 _ (List.mem_of_getElem? (i := 25) rfl)) rfl
theorem wclk_657 : Cond.classLink RX10 9 RX9 ∈ tb := tb_in (tj_1 _ (List.mem_of_getElem? (i := 28) rfl)) rfl
theorem winsta_658 : Cond.instantiable RX9 12 ∈ tb := tb_in (tj_1 _ (List.mem_of_getElem? (i := 29) rfl)) rfl
theorem wini_659 : Cond.initialized "SleepersPay$Text" ∈ tb := tb_in (tj_1 _ (List.mem_of_getElem? (i := 2) rfl)) rfl
theorem wnest_660 : Cond.methodLinkNest RX10 11 yX9_init "SleepersPay" ∈ lw_tbl := tj_1 _ (List.mem_of_getElem? (i := 30) rfl)
theorem winst_661 : Cond.instanceMethod yX9_init ∈ tb := tb_in (tj_1 _ (List.mem_of_getElem? (i := 31) rfl)) rfl
theorem wfl_662 : Cond.fieldLink RX10 12 (TX10 0).1 (TX10 0).2.1 (TX10 0).2.2.1 ∈ tb := tb_in (tj_2 _ (List.mem_of_getElem? (i := 77) rfl)) rfl
theorem wclk_663 : Cond.classLink RX10 16 RX8 ∈ tb := tb_in (tj_1 _ (List.mem_of_getElem? (i := 83) rfl)) rfl
theorem winsta_664 : Cond.instantiable RX8 1 ∈ tb := tb_in (tj_1 _ (List.mem_of_getElem? (i := 84) rfl)) rfl
theorem wini_665 : Cond.initialized "SleepersPay$StreetReader" ∈ tb := tb_in (tj_1 _ (List.mem_of_getElem? (i := 3) rfl)) rfl
theorem wml_666 : Cond.methodLink RX10 18 yX8_init ∈ tb := tb_in (tj_1 _ (List.mem_of_getElem? (i := 85) rfl)) rfl
theorem winst_667 : Cond.instanceMethod yX8_init ∈ tb := tb_in (tj_1 _ (List.mem_of_getElem? (i := 86) rfl)) rfl
theorem wfl_668 : Cond.fieldLink RX10 21 (TX10 1).1 (TX10 1).2.1 (TX10 1).2.2.1 ∈ tb := tb_in (tj_2 _ (List.mem_of_getElem? (i := 78) rfl)) rfl
theorem wclk_669 : Cond.classLink RX10 25 RX5 ∈ tb := tb_in (tj_1 _ (List.mem_of_getElem? (i := 93) rfl)) rfl
theorem winsta_670 : Cond.instantiable RX5 4 ∈ tb := tb_in (tj_1 _ (List.mem_of_getElem? (i := 94) rfl)) rfl
theorem wini_671 : Cond.initialized "SleepersPay$RuleReader" ∈ tb := tb_in (tj_1 _ (List.mem_of_getElem? (i := 4) rfl)) rfl
theorem wml_672 : Cond.methodLink RX10 27 yX5_init ∈ tb := tb_in (tj_1 _ (List.mem_of_getElem? (i := 95) rfl)) rfl
theorem winst_673 : Cond.instanceMethod yX5_init ∈ tb := tb_in (tj_1 _ (List.mem_of_getElem? (i := 96) rfl)) rfl
theorem wfl_674 : Cond.fieldLink RX10 28 (TX10 2).1 (TX10 2).2.1 (TX10 2).2.2.1 ∈ tb := tb_in (tj_2 _ (List.mem_of_getElem? (i := 79) rfl)) rfl
theorem wclk_675 : Cond.classLink RX10 32 RX7 ∈ tb := tb_in (tj_1 _ (List.mem_of_getElem? (i := 112) rfl)) rfl
theorem wnest_676 : Cond.methodLinkNest RX10 34 yX7_init "SleepersPay" ∈ lw_tbl := tj_1 _ (List.mem_of_getElem? (i := 114) rfl)
theorem wfl_677 : Cond.fieldLink RX10 35 (TX10 3).1 (TX10 3).2.1 (TX10 3).2.2.1 ∈ tb := tb_in (tj_2 _ (List.mem_of_getElem? (i := 80) rfl)) rfl
theorem wclk_678 : Cond.classLink RX10 39 RX4 ∈ tb := tb_in (tj_1 _ (List.mem_of_getElem? (i := 173) rfl)) rfl
theorem wover_679 : Cond.arrayOver (.object RX4) ∈ lw_tbl := tj_1 _ (List.mem_of_getElem? (i := 174) rfl)
theorem wfl_680 : Cond.fieldLink RX10 41 (TX10 4).1 (TX10 4).2.1 (TX10 4).2.2.1 ∈ tb := tb_in (tj_2 _ (List.mem_of_getElem? (i := 81) rfl)) rfl
theorem wfl_681 : Cond.fieldLink RX10 45 (TX10 5).1 (TX10 5).2.1 (TX10 5).2.2.1 ∈ tb := tb_in (tj_2 _ (List.mem_of_getElem? (i := 82) rfl)) rfl
theorem wclk_682 : Cond.classLink RX10 49 RX6 ∈ tb := tb_in (tj_1 _ (List.mem_of_getElem? (i := 175) rfl)) rfl
theorem winsta_683 : Cond.instantiable RX6 6 ∈ tb := tb_in (tj_1 _ (List.mem_of_getElem? (i := 176) rfl)) rfl
theorem wini_684 : Cond.initialized "SleepersPay$Scene" ∈ tb := tb_in (tj_1 _ (List.mem_of_getElem? (i := 6) rfl)) rfl
theorem wnest_685 : Cond.methodLinkNest RX10 51 yX6_init "SleepersPay" ∈ lw_tbl := tj_1 _ (List.mem_of_getElem? (i := 177) rfl)
theorem winst_686 : Cond.instanceMethod yX6_init ∈ tb := tb_in (tj_1 _ (List.mem_of_getElem? (i := 178) rfl)) rfl
theorem wfl_687 : Cond.fieldLink RX10 52 (TX10 6).1 (TX10 6).2.1 (TX10 6).2.2.1 ∈ tb := tb_in (tj_2 _ (List.mem_of_getElem? (i := 83) rfl)) rfl
theorem wover_688 : Cond.arrayOver (.object RX6) ∈ lw_tbl := tj_2 _ (List.mem_of_getElem? (i := 35) rfl)
theorem wfl_689 : Cond.fieldLink RX10 56 (TX10 7).1 (TX10 7).2.1 (TX10 7).2.2.1 ∈ tb := tb_in (tj_2 _ (List.mem_of_getElem? (i := 84) rfl)) rfl
theorem wclk_690 : Cond.classLink RX10 60 RX0 ∈ tb := tb_in (tj_2 _ (List.mem_of_getElem? (i := 36) rfl)) rfl
theorem winsta_691 : Cond.instantiable RX0 3 ∈ tb := tb_in (tj_2 _ (List.mem_of_getElem? (i := 37) rfl)) rfl
theorem wini_692 : Cond.initialized "SleepersPay$Acts" ∈ tb := tb_in (tj_1 _ (List.mem_of_getElem? (i := 9) rfl)) rfl
theorem wml_693 : Cond.methodLink RX10 62 yX0_init ∈ tb := tb_in (tj_2 _ (List.mem_of_getElem? (i := 38) rfl)) rfl
theorem winst_694 : Cond.instanceMethod yX0_init ∈ tb := tb_in (tj_2 _ (List.mem_of_getElem? (i := 39) rfl)) rfl
theorem wfl_695 : Cond.fieldLink RX10 63 (TX10 8).1 (TX10 8).2.1 (TX10 8).2.2.1 ∈ tb := tb_in (tj_2 _ (List.mem_of_getElem? (i := 85) rfl)) rfl
theorem wclk_696 : Cond.classLink RX10 67 RX3 ∈ tb := tb_in (tj_2 _ (List.mem_of_getElem? (i := 56) rfl)) rfl
theorem winsta_697 : Cond.instantiable RX3 4 ∈ tb := tb_in (tj_2 _ (List.mem_of_getElem? (i := 57) rfl)) rfl
theorem wini_698 : Cond.initialized "SleepersPay$Player" ∈ tb := tb_in (tj_1 _ (List.mem_of_getElem? (i := 10) rfl)) rfl
theorem wnest_699 : Cond.methodLinkNest RX10 69 yX3_init "SleepersPay" ∈ lw_tbl := tj_2 _ (List.mem_of_getElem? (i := 58) rfl)
theorem winst_700 : Cond.instanceMethod yX3_init ∈ tb := tb_in (tj_2 _ (List.mem_of_getElem? (i := 59) rfl)) rfl
theorem wfl_701 : Cond.fieldLink RX10 70 (TX10 9).1 (TX10 9).2.1 (TX10 9).2.2.1 ∈ tb := tb_in (tj_2 _ (List.mem_of_getElem? (i := 86) rfl)) rfl
theorem wclk_702 : Cond.classLink RX10 74 RX2 ∈ tb := tb_in (tj_2 _ (List.mem_of_getElem? (i := 75) rfl)) rfl
theorem wnest_703 : Cond.methodLinkNest RX10 76 yX2_init "SleepersPay" ∈ lw_tbl := tj_2 _ (List.mem_of_getElem? (i := 76) rfl)
theorem wfl_704 : Cond.fieldLink RX10 77 (TX10 10).1 (TX10 10).2.1 (TX10 10).2.2.1 ∈ tb := tb_in (tj_2 _ (List.mem_of_getElem? (i := 87) rfl)) rfl
theorem wfl_705 : Cond.fieldLink RX10 81 (TX10 11).1 (TX10 11).2.1 (TX10 11).2.2.1 ∈ tb := tb_in (tj_2 _ (List.mem_of_getElem? (i := 88) rfl)) rfl
theorem wfl_706 : Cond.fieldLink RX10 85 (TX10 12).1 (TX10 12).2.1 (TX10 12).2.2.1 ∈ tb := tb_in (tj_2 _ (List.mem_of_getElem? (i := 89) rfl)) rfl
theorem wml_707 : Cond.methodLink RX10 88 yX9_hasRoom ∈ tb := tb_in (tj_2 _ (List.mem_of_getElem? (i := 121) rfl)) rfl
theorem winst_708 : Cond.instanceMethod yX9_hasRoom ∈ tb := tb_in (tj_2 _ (List.mem_of_getElem? (i := 122) rfl)) rfl
theorem wsel_709 : Cond.selects yX9_hasRoom.cls yX9_hasRoom yX9_hasRoom ∈ tb := tb_in (tj_2 _ (List.mem_of_getElem? (i := 123) rfl)) rfl
theorem wml_710 : Cond.methodLink RX10 92 yX9_append ∈ tb := tb_in (tj_2 _ (List.mem_of_getElem? (i := 125) rfl)) rfl
theorem winst_711 : Cond.instanceMethod yX9_append ∈ tb := tb_in (tj_2 _ (List.mem_of_getElem? (i := 126) rfl)) rfl
theorem wsel_712 : Cond.selects yX9_append.cls yX9_append yX9_append ∈ tb := tb_in (tj_2 _ (List.mem_of_getElem? (i := 127) rfl)) rfl
theorem wfl_713 : Cond.fieldLink RX10 96 (TX9 1).1 (TX9 1).2.1 (TX9 1).2.2.1 ∈ tb := tb_in (tj_1 _ (List.mem_of_getElem? (i := 36) rfl)) rfl
theorem wml_714 : Cond.methodLink RX10 99 yX8_readInto ∈ tb := tb_in (tj_2 _ (List.mem_of_getElem? (i := 137) rfl)) rfl
theorem winst_715 : Cond.instanceMethod yX8_readInto ∈ tb := tb_in (tj_2 _ (List.mem_of_getElem? (i := 138) rfl)) rfl
theorem wsel_716 : Cond.selects yX8_readInto.cls yX8_readInto yX8_readInto ∈ tb := tb_in (tj_2 _ (List.mem_of_getElem? (i := 139) rfl)) rfl
theorem wfl_717 : Cond.fieldLink RX10 103 (TX6 0).1 (TX6 0).2.1 (TX6 0).2.2.1 ∈ tb := tb_in (tj_2 _ (List.mem_of_getElem? (i := 11) rfl)) rfl
theorem wml_718 : Cond.methodLink RX10 106 yX7_copyOf ∈ tb := tb_in (tj_3 _ (List.mem_of_getElem? (i := 58) rfl)) rfl
theorem wfl_719 : Cond.fieldLink RX10 110 (TX6 1).1 (TX6 1).2.1 (TX6 1).2.2.1 ∈ tb := tb_in (tj_2 _ (List.mem_of_getElem? (i := 13) rfl)) rfl
theorem wml_720 : Cond.methodLink RX10 113 yX2_clear ∈ tb := tb_in (tj_3 _ (List.mem_of_getElem? (i := 65) rfl)) rfl
theorem winst_721 : Cond.instanceMethod yX2_clear ∈ tb := tb_in (tj_3 _ (List.mem_of_getElem? (i := 66) rfl)) rfl
theorem wsel_722 : Cond.selects yX2_clear.cls yX2_clear yX2_clear ∈ tb := tb_in (tj_3 _ (List.mem_of_getElem? (i := 67) rfl)) rfl
theorem wfl_723 : Cond.fieldLink RX10 116 (TX6 2).1 (TX6 2).2.1 (TX6 2).2.2.1 ∈ tb := tb_in (tj_2 _ (List.mem_of_getElem? (i := 15) rfl)) rfl
theorem wml_724 : Cond.methodLink RX10 120 yX1_clear ∈ tb := tb_in (tj_3 _ (List.mem_of_getElem? (i := 69) rfl)) rfl
theorem winst_725 : Cond.instanceMethod yX1_clear ∈ tb := tb_in (tj_3 _ (List.mem_of_getElem? (i := 70) rfl)) rfl
theorem wsel_726 : Cond.selects yX1_clear.cls yX1_clear yX1_clear ∈ tb := tb_in (tj_3 _ (List.mem_of_getElem? (i := 71) rfl)) rfl
theorem wml_727 : Cond.methodLink RX10 123 yX0_clear ∈ tb := tb_in (tj_3 _ (List.mem_of_getElem? (i := 73) rfl)) rfl
theorem winst_728 : Cond.instanceMethod yX0_clear ∈ tb := tb_in (tj_3 _ (List.mem_of_getElem? (i := 74) rfl)) rfl
theorem wsel_729 : Cond.selects yX0_clear.cls yX0_clear yX0_clear ∈ tb := tb_in (tj_3 _ (List.mem_of_getElem? (i := 75) rfl)) rfl
theorem wfl_730 : Cond.fieldLink RX10 124 (TX7 7).1 (TX7 7).2.1 (TX7 7).2.2.1 ∈ tb := tb_in (tj_1 _ (List.mem_of_getElem? (i := 138) rfl)) rfl
theorem wml_731 : Cond.methodLink RX10 127 yX5_readText ∈ tb := tb_in (tj_3 _ (List.mem_of_getElem? (i := 81) rfl)) rfl
theorem winst_732 : Cond.instanceMethod yX5_readText ∈ tb := tb_in (tj_3 _ (List.mem_of_getElem? (i := 82) rfl)) rfl
theorem wsel_733 : Cond.selects yX5_readText.cls yX5_readText yX5_readText ∈ tb := tb_in (tj_3 _ (List.mem_of_getElem? (i := 83) rfl)) rfl
theorem wml_734 : Cond.methodLink RX10 131 yX5_made ∈ tb := tb_in (tj_3 _ (List.mem_of_getElem? (i := 122) rfl)) rfl
theorem winst_735 : Cond.instanceMethod yX5_made ∈ tb := tb_in (tj_3 _ (List.mem_of_getElem? (i := 123) rfl)) rfl
theorem wsel_736 : Cond.selects yX5_made.cls yX5_made yX5_made ∈ tb := tb_in (tj_3 _ (List.mem_of_getElem? (i := 124) rfl)) rfl
theorem wfl_737 : Cond.fieldLink RX10 135 (TX6 3).1 (TX6 3).2.1 (TX6 3).2.2.1 ∈ tb := tb_in (tj_2 _ (List.mem_of_getElem? (i := 17) rfl)) rfl
theorem wfl_738 : Cond.fieldLink RX10 308 (TX2 0).1 (TX2 0).2.1 (TX2 0).2.2.1 ∈ tb := tb_in (tj_1 _ (List.mem_of_getElem? (i := 191) rfl)) rfl
theorem wml_739 : Cond.methodLink RX10 321 yX7_workersAt ∈ tb := tb_in (tj_3 _ (List.mem_of_getElem? (i := 161) rfl)) rfl
theorem wml_740 : Cond.methodLink RX10 138 yX7_isPerson ∈ tb := tb_in (tj_3 _ (List.mem_of_getElem? (i := 150) rfl)) rfl
theorem winst_741 : Cond.instanceMethod yX7_isPerson ∈ tb := tb_in (tj_3 _ (List.mem_of_getElem? (i := 151) rfl)) rfl
theorem wsel_742 : Cond.selects yX7_isPerson.cls yX7_isPerson yX7_isPerson ∈ tb := tb_in (tj_3 _ (List.mem_of_getElem? (i := 152) rfl)) rfl
theorem wfl_743 : Cond.fieldLink RX10 141 (TX7 0).1 (TX7 0).2.1 (TX7 0).2.2.1 ∈ tb := tb_in (tj_1 _ (List.mem_of_getElem? (i := 119) rfl)) rfl
theorem wfl_744 : Cond.fieldLink RX10 144 (TX7 1).1 (TX7 1).2.1 (TX7 1).2.2.1 ∈ tb := tb_in (tj_1 _ (List.mem_of_getElem? (i := 123) rfl)) rfl
theorem wfl_745 : Cond.fieldLink RX10 147 (TX2 2).1 (TX2 2).2.1 (TX2 2).2.2.1 ∈ tb := tb_in (tj_1 _ (List.mem_of_getElem? (i := 197) rfl)) rfl
theorem wml_746 : Cond.methodLink RX10 150 yX10_bitOf ∈ tb := tb_in (tj_3 _ (List.mem_of_getElem? (i := 154) rfl)) rfl
theorem wfl_747 : Cond.fieldLink RX10 154 (TX2 5).1 (TX2 5).2.1 (TX2 5).2.2.1 ∈ tb := tb_in (tj_1 _ (List.mem_of_getElem? (i := 202) rfl)) rfl
theorem wfl_748 : Cond.fieldLink RX10 157 (TX2 6).1 (TX2 6).2.1 (TX2 6).2.2.1 ∈ tb := tb_in (tj_1 _ (List.mem_of_getElem? (i := 204) rfl)) rfl
theorem wml_749 : Cond.methodLink RX10 160 yX10_workersNow ∈ tb := tb_in (tj_3 _ (List.mem_of_getElem? (i := 157) rfl)) rfl
theorem winst_750 : Cond.instanceMethod yX10_workersNow ∈ tb := tb_in (tj_3 _ (List.mem_of_getElem? (i := 159) rfl)) rfl
theorem wsel_751 : Cond.selects yX10_workersNow.cls yX10_workersNow yX10_workersNow ∈ tb := tb_in (sel_2 _ (List.mem_of_getElem? (i := 2) rfl)) rfl
theorem wml_752 : Cond.methodLink RX10 324 yX2_burningAt ∈ tb := tb_in (tj_3 _ (List.mem_of_getElem? (i := 177) rfl)) rfl
theorem wml_753 : Cond.methodLink RX10 163 yX7_isLamp ∈ tb := tb_in (tj_3 _ (List.mem_of_getElem? (i := 169) rfl)) rfl
theorem winst_754 : Cond.instanceMethod yX7_isLamp ∈ tb := tb_in (tj_3 _ (List.mem_of_getElem? (i := 170) rfl)) rfl
theorem wsel_755 : Cond.selects yX7_isLamp.cls yX7_isLamp yX7_isLamp ∈ tb := tb_in (tj_3 _ (List.mem_of_getElem? (i := 171) rfl)) rfl
theorem wfl_756 : Cond.fieldLink RX10 166 (TX7 2).1 (TX7 2).2.1 (TX7 2).2.2.1 ∈ tb := tb_in (tj_1 _ (List.mem_of_getElem? (i := 126) rfl)) rfl
theorem wfl_757 : Cond.fieldLink RX10 169 (TX7 3).1 (TX7 3).2.1 (TX7 3).2.2.1 ∈ tb := tb_in (tj_1 _ (List.mem_of_getElem? (i := 128) rfl)) rfl
theorem wml_758 : Cond.methodLink RX10 172 yX10_burningNow ∈ tb := tb_in (tj_3 _ (List.mem_of_getElem? (i := 173) rfl)) rfl
theorem winst_759 : Cond.instanceMethod yX10_burningNow ∈ tb := tb_in (tj_3 _ (List.mem_of_getElem? (i := 175) rfl)) rfl
theorem wsel_760 : Cond.selects yX10_burningNow.cls yX10_burningNow yX10_burningNow ∈ tb := tb_in (sel_2 _ (List.mem_of_getElem? (i := 3) rfl)) rfl
theorem wml_761 : Cond.methodLink RX10 175 yX7_isTold ∈ tb := tb_in (tj_3 _ (List.mem_of_getElem? (i := 189) rfl)) rfl
theorem winst_762 : Cond.instanceMethod yX7_isTold ∈ tb := tb_in (tj_3 _ (List.mem_of_getElem? (i := 190) rfl)) rfl
theorem wsel_763 : Cond.selects yX7_isTold.cls yX7_isTold yX7_isTold ∈ tb := tb_in (tj_3 _ (List.mem_of_getElem? (i := 191) rfl)) rfl
theorem wml_764 : Cond.methodLink RX10 179 yX2_isLast ∈ tb := tb_in (tj_3 _ (List.mem_of_getElem? (i := 193) rfl)) rfl
theorem winst_765 : Cond.instanceMethod yX2_isLast ∈ tb := tb_in (tj_3 _ (List.mem_of_getElem? (i := 194) rfl)) rfl
theorem wsel_766 : Cond.selects yX2_isLast.cls yX2_isLast yX2_isLast ∈ tb := tb_in (tj_3 _ (List.mem_of_getElem? (i := 195) rfl)) rfl
theorem wml_767 : Cond.methodLink RX10 183 yX0_keep ∈ tb := tb_in (tj_3 _ (List.mem_of_getElem? (i := 197) rfl)) rfl
theorem winst_768 : Cond.instanceMethod yX0_keep ∈ tb := tb_in (tj_3 _ (List.mem_of_getElem? (i := 198) rfl)) rfl
theorem wsel_769 : Cond.selects yX0_keep.cls yX0_keep yX0_keep ∈ tb := tb_in (tj_3 _ (List.mem_of_getElem? (i := 199) rfl)) rfl
theorem wml_770 : Cond.methodLink RX10 187 yX10_ruleNow ∈ tb := tb_in (tj_3 _ (List.mem_of_getElem? (i := 207) rfl)) rfl
theorem winst_771 : Cond.instanceMethod yX10_ruleNow ∈ tb := tb_in (tj_3 _ (List.mem_of_getElem? (i := 209) rfl)) rfl
theorem wsel_772 : Cond.selects yX10_ruleNow.cls yX10_ruleNow yX10_ruleNow ∈ tb := tb_in (sel_2 _ (List.mem_of_getElem? (i := 4) rfl)) rfl
theorem wml_773 : Cond.methodLink RX10 190 yX3_play ∈ tb := tb_in (tj_3 _ (List.mem_of_getElem? (i := 211) rfl)) rfl
theorem winst_774 : Cond.instanceMethod yX3_play ∈ tb := tb_in (tj_3 _ (List.mem_of_getElem? (i := 212) rfl)) rfl
theorem wsel_775 : Cond.selects yX3_play.cls yX3_play yX3_play ∈ tb := tb_in (tj_3 _ (List.mem_of_getElem? (i := 213) rfl)) rfl
theorem wml_776 : Cond.methodLink RX10 194 yX2_setLamp ∈ tb := tb_in (tj_4 _ (List.mem_of_getElem? (i := 37) rfl)) rfl
theorem winst_777 : Cond.instanceMethod yX2_setLamp ∈ tb := tb_in (tj_4 _ (List.mem_of_getElem? (i := 38) rfl)) rfl
theorem wsel_778 : Cond.selects yX2_setLamp.cls yX2_setLamp yX2_setLamp ∈ tb := tb_in (tj_4 _ (List.mem_of_getElem? (i := 39) rfl)) rfl
theorem wml_779 : Cond.methodLink RX10 198 yX0_takeBack ∈ tb := tb_in (tj_4 _ (List.mem_of_getElem? (i := 45) rfl)) rfl
theorem winst_780 : Cond.instanceMethod yX0_takeBack ∈ tb := tb_in (tj_4 _ (List.mem_of_getElem? (i := 46) rfl)) rfl
theorem wsel_781 : Cond.selects yX0_takeBack.cls yX0_takeBack yX0_takeBack ∈ tb := tb_in (tj_4 _ (List.mem_of_getElem? (i := 47) rfl)) rfl
theorem wfl_782 : Cond.fieldLink RX10 202 (TX0 2).1 (TX0 2).2.1 (TX0 2).2.2.1 ∈ tb := tb_in (tj_2 _ (List.mem_of_getElem? (i := 48) rfl)) rfl
theorem wml_783 : Cond.methodLink RX10 328 yJ9_abs_067f4 ∈ tb := tb_in (tj_4 _ (List.mem_of_getElem? (i := 70) rfl)) rfl
theorem wstat_784 : Cond.static yJ9_abs_067f4 ∈ tb := tb_in (tj_4 _ (List.mem_of_getElem? (i := 71) rfl)) rfl
theorem wml_785 : Cond.methodLink RX10 205 yX10_isDebtor ∈ tb := tb_in (tj_4 _ (List.mem_of_getElem? (i := 56) rfl)) rfl
theorem winst_786 : Cond.instanceMethod yX10_isDebtor ∈ tb := tb_in (tj_4 _ (List.mem_of_getElem? (i := 58) rfl)) rfl
theorem wsel_787 : Cond.selects yX10_isDebtor.cls yX10_isDebtor yX10_isDebtor ∈ tb := tb_in (sel_2 _ (List.mem_of_getElem? (i := 10) rfl)) rfl
theorem wml_788 : Cond.methodLink RX10 208 yX10_isPart ∈ tb := tb_in (tj_4 _ (List.mem_of_getElem? (i := 60) rfl)) rfl
theorem wstat_789 : Cond.static yX10_isPart ∈ tb := tb_in (tj_4 _ (List.mem_of_getElem? (i := 61) rfl)) rfl
theorem wfl_790 : Cond.fieldLink RX10 211 (TX2 7).1 (TX2 7).2.1 (TX2 7).2.2.1 ∈ tb := tb_in (tj_1 _ (List.mem_of_getElem? (i := 208) rfl)) rfl
theorem wml_791 : Cond.methodLink RX10 215 yX10_debtorRow ∈ tb := tb_in (tj_4 _ (List.mem_of_getElem? (i := 63) rfl)) rfl
theorem wstat_792 : Cond.static yX10_debtorRow ∈ tb := tb_in (tj_4 _ (List.mem_of_getElem? (i := 64) rfl)) rfl
theorem wconl_793 : Cond.constantLong RX10 219 (60) ∈ tb := tb_in (tj_4 _ (List.mem_of_getElem? (i := 66) rfl)) rfl
theorem wml_794 : Cond.methodLink RX10 221 yX10_fraction ∈ tb := tb_in (tj_4 _ (List.mem_of_getElem? (i := 67) rfl)) rfl
theorem wstat_795 : Cond.static yX10_fraction ∈ tb := tb_in (tj_4 _ (List.mem_of_getElem? (i := 68) rfl)) rfl
theorem wml_796 : Cond.methodLink RX10 225 yX2_copyOf ∈ tb := tb_in (tj_4 _ (List.mem_of_getElem? (i := 77) rfl)) rfl
theorem wml_797 : Cond.methodLink RX10 227 yX10_playTrial ∈ tb := tb_in (tj_4 _ (List.mem_of_getElem? (i := 78) rfl)) rfl
theorem winst_798 : Cond.instanceMethod yX10_playTrial ∈ tb := tb_in (tj_4 _ (List.mem_of_getElem? (i := 80) rfl)) rfl
theorem wsel_799 : Cond.selects yX10_playTrial.cls yX10_playTrial yX10_playTrial ∈ tb := tb_in (sel_2 _ (List.mem_of_getElem? (i := 11) rfl)) rfl
theorem wml_800 : Cond.methodLink RX10 244 yJ6_bitCount_0f7a4 ∈ tb := tb_in (tj_4 _ (List.mem_of_getElem? (i := 91) rfl)) rfl
theorem wml_801 : Cond.methodLink RX10 332 yX10_cheapestHours ∈ tb := tb_in (tj_4 _ (List.mem_of_getElem? (i := 92) rfl)) rfl
theorem winst_802 : Cond.instanceMethod yX10_cheapestHours ∈ tb := tb_in (tj_4 _ (List.mem_of_getElem? (i := 94) rfl)) rfl
theorem wsel_803 : Cond.selects yX10_cheapestHours.cls yX10_cheapestHours yX10_cheapestHours ∈ tb := tb_in (sel_2 _ (List.mem_of_getElem? (i := 13) rfl)) rfl
theorem wml_804 : Cond.methodLink RX10 335 yX10_costOfHours ∈ tb := tb_in (tj_4 _ (List.mem_of_getElem? (i := 96) rfl)) rfl
theorem winst_805 : Cond.instanceMethod yX10_costOfHours ∈ tb := tb_in (tj_4 _ (List.mem_of_getElem? (i := 98) rfl)) rfl
theorem wsel_806 : Cond.selects yX10_costOfHours.cls yX10_costOfHours yX10_costOfHours ∈ tb := tb_in (sel_2 _ (List.mem_of_getElem? (i := 14) rfl)) rfl
theorem wml_807 : Cond.methodLink RX10 237 yX7_costOf ∈ tb := tb_in (tj_4 _ (List.mem_of_getElem? (i := 90) rfl)) rfl
theorem wfl_808 : Cond.fieldLink RX10 296 (TX7 6).1 (TX7 6).2.1 (TX7 6).2.2.1 ∈ tb := tb_in (tj_1 _ (List.mem_of_getElem? (i := 135) rfl)) rfl
theorem wml_809 : Cond.methodLink RX10 230 yX10_sleepTogether ∈ tb := tb_in (tj_4 _ (List.mem_of_getElem? (i := 86) rfl)) rfl
theorem winst_810 : Cond.instanceMethod yX10_sleepTogether ∈ tb := tb_in (tj_4 _ (List.mem_of_getElem? (i := 88) rfl)) rfl
theorem wsel_811 : Cond.selects yX10_sleepTogether.cls yX10_sleepTogether yX10_sleepTogether ∈ tb := tb_in (sel_2 _ (List.mem_of_getElem? (i := 12) rfl)) rfl
theorem wml_812 : Cond.methodLink RX10 234 yX7_everyone ∈ tb := tb_in (tj_4 _ (List.mem_of_getElem? (i := 104) rfl)) rfl
theorem wml_813 : Cond.methodLink RX10 240 yX10_isAtRest ∈ tb := tb_in (tj_4 _ (List.mem_of_getElem? (i := 108) rfl)) rfl
theorem winst_814 : Cond.instanceMethod yX10_isAtRest ∈ tb := tb_in (tj_4 _ (List.mem_of_getElem? (i := 110) rfl)) rfl
theorem wsel_815 : Cond.selects yX10_isAtRest.cls yX10_isAtRest yX10_isAtRest ∈ tb := tb_in (sel_2 _ (List.mem_of_getElem? (i := 15) rfl)) rfl
theorem wml_816 : Cond.methodLink RX10 249 yX10_allCouldSleep ∈ tb := tb_in (tj_4 _ (List.mem_of_getElem? (i := 116) rfl)) rfl
theorem winst_817 : Cond.instanceMethod yX10_allCouldSleep ∈ tb := tb_in (tj_4 _ (List.mem_of_getElem? (i := 118) rfl)) rfl
theorem wsel_818 : Cond.selects yX10_allCouldSleep.cls yX10_allCouldSleep yX10_allCouldSleep ∈ tb := tb_in (sel_3 _ (List.mem_of_getElem? (i := 0) rfl)) rfl
theorem wml_819 : Cond.methodLink RX10 252 yX10_isFact ∈ tb := tb_in (tj_4 _ (List.mem_of_getElem? (i := 128) rfl)) rfl
theorem winst_820 : Cond.instanceMethod yX10_isFact ∈ tb := tb_in (tj_4 _ (List.mem_of_getElem? (i := 130) rfl)) rfl
theorem wsel_821 : Cond.selects yX10_isFact.cls yX10_isFact yX10_isFact ∈ tb := tb_in (sel_3 _ (List.mem_of_getElem? (i := 1) rfl)) rfl
theorem wml_822 : Cond.methodLink RX10 256 yX1_add ∈ tb := tb_in (tj_4 _ (List.mem_of_getElem? (i := 132) rfl)) rfl
theorem winst_823 : Cond.instanceMethod yX1_add ∈ tb := tb_in (tj_4 _ (List.mem_of_getElem? (i := 133) rfl)) rfl
theorem wsel_824 : Cond.selects yX1_add.cls yX1_add yX1_add ∈ tb := tb_in (tj_4 _ (List.mem_of_getElem? (i := 134) rfl)) rfl
theorem wfl_825 : Cond.fieldLink RX10 259 (TX1 4).1 (TX1 4).2.1 (TX1 4).2.2.1 ∈ tb := tb_in (tj_1 _ (List.mem_of_getElem? (i := 238) rfl)) rfl
theorem wml_826 : Cond.methodLink RX10 260 yX1_allow ∈ tb := tb_in (tj_4 _ (List.mem_of_getElem? (i := 140) rfl)) rfl
theorem winst_827 : Cond.instanceMethod yX1_allow ∈ tb := tb_in (tj_4 _ (List.mem_of_getElem? (i := 141) rfl)) rfl
theorem wsel_828 : Cond.selects yX1_allow.cls yX1_allow yX1_allow ∈ tb := tb_in (tj_4 _ (List.mem_of_getElem? (i := 142) rfl)) rfl
theorem wml_829 : Cond.methodLink RX10 263 yX10_setsWith ∈ tb := tb_in (tj_4 _ (List.mem_of_getElem? (i := 150) rfl)) rfl
theorem winst_830 : Cond.instanceMethod yX10_setsWith ∈ tb := tb_in (tj_4 _ (List.mem_of_getElem? (i := 152) rfl)) rfl
theorem wsel_831 : Cond.selects yX10_setsWith.cls yX10_setsWith yX10_setsWith ∈ tb := tb_in (sel_3 _ (List.mem_of_getElem? (i := 3) rfl)) rfl
theorem wml_832 : Cond.methodLink RX10 266 yJ9_max_7cf53 ∈ tb := tb_in (tj_4 _ (List.mem_of_getElem? (i := 158) rfl)) rfl
theorem wml_833 : Cond.methodLink RX10 341 yJ9_min_7cf53 ∈ tb := tb_in (tj_4 _ (List.mem_of_getElem? (i := 168) rfl)) rfl
theorem wml_834 : Cond.methodLink RX10 338 yX7_litAt ∈ tb := tb_in (tj_4 _ (List.mem_of_getElem? (i := 167) rfl)) rfl
theorem wml_835 : Cond.methodLink RX10 274 yX10_evenCost ∈ tb := tb_in (tj_4 _ (List.mem_of_getElem? (i := 169) rfl)) rfl
theorem winst_836 : Cond.instanceMethod yX10_evenCost ∈ tb := tb_in (tj_4 _ (List.mem_of_getElem? (i := 171) rfl)) rfl
theorem wsel_837 : Cond.selects yX10_evenCost.cls yX10_evenCost yX10_evenCost ∈ tb := tb_in (sel_3 _ (List.mem_of_getElem? (i := 5) rfl)) rfl
theorem wml_838 : Cond.methodLink RX10 271 yX10_priceNight ∈ tb := tb_in (tj_4 _ (List.mem_of_getElem? (i := 163) rfl)) rfl
theorem winst_839 : Cond.instanceMethod yX10_priceNight ∈ tb := tb_in (tj_4 _ (List.mem_of_getElem? (i := 165) rfl)) rfl
theorem wsel_840 : Cond.selects yX10_priceNight.cls yX10_priceNight yX10_priceNight ∈ tb := tb_in (sel_3 _ (List.mem_of_getElem? (i := 4) rfl)) rfl
theorem wml_841 : Cond.methodLink RX10 277 yX10_sleepInNight ∈ tb := tb_in (tj_4 _ (List.mem_of_getElem? (i := 173) rfl)) rfl
theorem winst_842 : Cond.instanceMethod yX10_sleepInNight ∈ tb := tb_in (tj_4 _ (List.mem_of_getElem? (i := 175) rfl)) rfl
theorem wsel_843 : Cond.selects yX10_sleepInNight.cls yX10_sleepInNight yX10_sleepInNight ∈ tb := tb_in (sel_3 _ (List.mem_of_getElem? (i := 6) rfl)) rfl
theorem wcon_844 : Cond.constant RX10 284 (-1000000) ∈ tb := tb_in (tj_4 _ (List.mem_of_getElem? (i := 184) rfl)) rfl
theorem wml_845 : Cond.methodLink RX10 281 yX10_isSpan ∈ tb := tb_in (tj_4 _ (List.mem_of_getElem? (i := 181) rfl)) rfl
theorem wstat_846 : Cond.static yX10_isSpan ∈ tb := tb_in (tj_4 _ (List.mem_of_getElem? (i := 182) rfl)) rfl
theorem wml_847 : Cond.methodLink RX10 285 yX3_shareIfWakingPaid ∈ tb := tb_in (tj_4 _ (List.mem_of_getElem? (i := 185) rfl)) rfl
theorem winst_848 : Cond.instanceMethod yX3_shareIfWakingPaid ∈ tb := tb_in (tj_4 _ (List.mem_of_getElem? (i := 186) rfl)) rfl
theorem wsel_849 : Cond.selects yX3_shareIfWakingPaid.cls yX3_shareIfWakingPaid yX3_shareIfWakingPaid ∈ tb := tb_in (tj_4 _ (List.mem_of_getElem? (i := 187) rfl)) rfl
theorem wfl_850 : Cond.fieldLink RX10 289 (TX6 4).1 (TX6 4).2.1 (TX6 4).2.2.1 ∈ tb := tb_in (tj_2 _ (List.mem_of_getElem? (i := 19) rfl)) rfl
theorem wml_851 : Cond.methodLink RX10 292 yX3_draw ∈ tb := tb_in (tj_4 _ (List.mem_of_getElem? (i := 202) rfl)) rfl
theorem winst_852 : Cond.instanceMethod yX3_draw ∈ tb := tb_in (tj_4 _ (List.mem_of_getElem? (i := 203) rfl)) rfl
theorem wsel_853 : Cond.selects yX3_draw.cls yX3_draw yX3_draw ∈ tb := tb_in (tj_4 _ (List.mem_of_getElem? (i := 204) rfl)) rfl
theorem wfl_854 : Cond.fieldLink RX10 299 (TX7 8).1 (TX7 8).2.1 (TX7 8).2.2.1 ∈ tb := tb_in (tj_1 _ (List.mem_of_getElem? (i := 143) rfl)) rfl
theorem wfl_855 : Cond.fieldLink RX10 302 (TX7 9).1 (TX7 9).2.1 (TX7 9).2.2.1 ∈ tb := tb_in (tj_1 _ (List.mem_of_getElem? (i := 146) rfl)) rfl
theorem wfl_856 : Cond.fieldLink RX10 305 (TX7 10).1 (TX7 10).2.1 (TX7 10).2.2.1 ∈ tb := tb_in (tj_1 _ (List.mem_of_getElem? (i := 149) rfl)) rfl
theorem wfl_857 : Cond.fieldLink RX10 311 (TX2 1).1 (TX2 1).2.1 (TX2 1).2.2.1 ∈ tb := tb_in (tj_1 _ (List.mem_of_getElem? (i := 194) rfl)) rfl
theorem wml_858 : Cond.methodLink RX10 314 yX6_copyOf ∈ tb := tb_in (tj_4 _ (List.mem_of_getElem? (i := 219) rfl)) rfl
theorem winst_859 : Cond.instanceMethod yX6_copyOf ∈ tb := tb_in (tj_4 _ (List.mem_of_getElem? (i := 220) rfl)) rfl
theorem wsel_860 : Cond.selects yX6_copyOf.cls yX6_copyOf yX6_copyOf ∈ tb := tb_in (tj_4 _ (List.mem_of_getElem? (i := 221) rfl)) rfl
theorem wfl_861 : Cond.fieldLink RX10 317 (TX6 5).1 (TX6 5).2.1 (TX6 5).2.2.1 ∈ tb := tb_in (tj_2 _ (List.mem_of_getElem? (i := 21) rfl)) rfl
theorem wclk_862 : Cond.classLink RL 7 RX10 ∈ tb := tb_in (tj_1 _ (List.mem_of_getElem? (i := 20) rfl)) rfl
theorem winsta_863 : Cond.instantiable RX10 13 ∈ tb := tb_in (tj_1 _ (List.mem_of_getElem? (i := 21) rfl)) rfl
theorem wini_864 : Cond.initialized "SleepersPay" ∈ tb := tb_in (tj_1 _ (List.mem_of_getElem? (i := 1) rfl)) rfl
theorem wml_865 : Cond.methodLink RL 9 yX10_init ∈ tb := tb_in (tj_1 _ (List.mem_of_getElem? (i := 22) rfl)) rfl
theorem winst_866 : Cond.instanceMethod yX10_init ∈ tb := tb_in (tj_1 _ (List.mem_of_getElem? (i := 23) rfl)) rfl
theorem wclk_867 : Cond.classLink RL 10 RX11 ∈ tb := tb_in (tj_4 _ (List.mem_of_getElem? (i := 234) rfl)) rfl
theorem winsta_868 : Cond.instantiable RX11 36 ∈ tb := tb_in (tj_4 _ (List.mem_of_getElem? (i := 235) rfl)) rfl
theorem wini_869 : Cond.initialized "SleepersPayModel" ∈ tb := tb_in (tj_1 _ (List.mem_of_getElem? (i := 11) rfl)) rfl
theorem wml_870 : Cond.methodLink RL 12 yX11_init ∈ tb := tb_in (tj_4 _ (List.mem_of_getElem? (i := 236) rfl)) rfl
theorem winst_871 : Cond.instanceMethod yX11_init ∈ tb := tb_in (tj_4 _ (List.mem_of_getElem? (i := 237) rfl)) rfl
theorem wml_872 : Cond.methodLink RL 13 yX10_feed ∈ tb := tb_in (tj_2 _ (List.mem_of_getElem? (i := 117) rfl)) rfl
theorem winst_873 : Cond.instanceMethod yX10_feed ∈ tb := tb_in (tj_2 _ (List.mem_of_getElem? (i := 118) rfl)) rfl
theorem wsel_874 : Cond.selects yX10_feed.cls yX10_feed yX10_feed ∈ tb := tb_in (tj_2 _ (List.mem_of_getElem? (i := 119) rfl)) rfl
theorem wml_875 : Cond.methodLink RL 17 yX11_feed ∈ tb := tb_in (tj_5 _ (List.mem_of_getElem? (i := 110) rfl)) rfl
theorem winst_876 : Cond.instanceMethod yX11_feed ∈ tb := tb_in (tj_5 _ (List.mem_of_getElem? (i := 111) rfl)) rfl
theorem wsel_877 : Cond.selects yX11_feed.cls yX11_feed yX11_feed ∈ tb := tb_in (tj_5 _ (List.mem_of_getElem? (i := 112) rfl)) rfl
theorem wml_878 : Cond.methodLink RL 18 yX10_end ∈ tb := tb_in (tj_2 _ (List.mem_of_getElem? (i := 129) rfl)) rfl
theorem winst_879 : Cond.instanceMethod yX10_end ∈ tb := tb_in (tj_2 _ (List.mem_of_getElem? (i := 130) rfl)) rfl
theorem wsel_880 : Cond.selects yX10_end.cls yX10_end yX10_end ∈ tb := tb_in (tj_2 _ (List.mem_of_getElem? (i := 131) rfl)) rfl
theorem wml_881 : Cond.methodLink RL 22 yX11_end ∈ tb := tb_in (tj_5 _ (List.mem_of_getElem? (i := 118) rfl)) rfl
theorem winst_882 : Cond.instanceMethod yX11_end ∈ tb := tb_in (tj_5 _ (List.mem_of_getElem? (i := 119) rfl)) rfl
theorem wsel_883 : Cond.selects yX11_end.cls yX11_end yX11_end ∈ tb := tb_in (tj_5 _ (List.mem_of_getElem? (i := 120) rfl)) rfl
theorem wml_884 : Cond.methodLink RL 23 yX10_street ∈ tb := tb_in (tj_2 _ (List.mem_of_getElem? (i := 133) rfl)) rfl
theorem winst_885 : Cond.instanceMethod yX10_street ∈ tb := tb_in (tj_2 _ (List.mem_of_getElem? (i := 134) rfl)) rfl
theorem wsel_886 : Cond.selects yX10_street.cls yX10_street yX10_street ∈ tb := tb_in (tj_2 _ (List.mem_of_getElem? (i := 135) rfl)) rfl
theorem wml_887 : Cond.methodLink RL 27 yX11_street ∈ tb := tb_in (tj_6 _ (List.mem_of_getElem? (i := 47) rfl)) rfl
theorem winst_888 : Cond.instanceMethod yX11_street ∈ tb := tb_in (tj_6 _ (List.mem_of_getElem? (i := 48) rfl)) rfl
theorem wsel_889 : Cond.selects yX11_street.cls yX11_street yX11_street ∈ tb := tb_in (tj_6 _ (List.mem_of_getElem? (i := 49) rfl)) rfl
theorem wml_890 : Cond.methodLink RL 28 yX10_rule ∈ tb := tb_in (tj_3 _ (List.mem_of_getElem? (i := 77) rfl)) rfl
theorem winst_891 : Cond.instanceMethod yX10_rule ∈ tb := tb_in (tj_3 _ (List.mem_of_getElem? (i := 78) rfl)) rfl
theorem wsel_892 : Cond.selects yX10_rule.cls yX10_rule yX10_rule ∈ tb := tb_in (tj_3 _ (List.mem_of_getElem? (i := 79) rfl)) rfl
theorem wml_893 : Cond.methodLink RL 31 yX11_rule ∈ tb := tb_in (tj_5 _ (List.mem_of_getElem? (i := 122) rfl)) rfl
theorem winst_894 : Cond.instanceMethod yX11_rule ∈ tb := tb_in (tj_5 _ (List.mem_of_getElem? (i := 123) rfl)) rfl
theorem wsel_895 : Cond.selects yX11_rule.cls yX11_rule yX11_rule ∈ tb := tb_in (tj_5 _ (List.mem_of_getElem? (i := 124) rfl)) rfl
theorem wml_896 : Cond.methodLink RL 32 yX10_force ∈ tb := tb_in (tj_3 _ (List.mem_of_getElem? (i := 142) rfl)) rfl
theorem winst_897 : Cond.instanceMethod yX10_force ∈ tb := tb_in (tj_3 _ (List.mem_of_getElem? (i := 143) rfl)) rfl
theorem wsel_898 : Cond.selects yX10_force.cls yX10_force yX10_force ∈ tb := tb_in (tj_3 _ (List.mem_of_getElem? (i := 144) rfl)) rfl
theorem wml_899 : Cond.methodLink RL 35 yX11_force ∈ tb := tb_in (tj_6 _ (List.mem_of_getElem? (i := 51) rfl)) rfl
theorem winst_900 : Cond.instanceMethod yX11_force ∈ tb := tb_in (tj_6 _ (List.mem_of_getElem? (i := 52) rfl)) rfl
theorem wsel_901 : Cond.selects yX11_force.cls yX11_force yX11_force ∈ tb := tb_in (tj_6 _ (List.mem_of_getElem? (i := 53) rfl)) rfl
theorem wml_902 : Cond.methodLink RL 36 yX10_person ∈ tb := tb_in (tj_3 _ (List.mem_of_getElem? (i := 146) rfl)) rfl
theorem winst_903 : Cond.instanceMethod yX10_person ∈ tb := tb_in (tj_3 _ (List.mem_of_getElem? (i := 147) rfl)) rfl
theorem wsel_904 : Cond.selects yX10_person.cls yX10_person yX10_person ∈ tb := tb_in (tj_3 _ (List.mem_of_getElem? (i := 148) rfl)) rfl
theorem wml_905 : Cond.methodLink RL 40 yX11_person ∈ tb := tb_in (tj_6 _ (List.mem_of_getElem? (i := 59) rfl)) rfl
theorem winst_906 : Cond.instanceMethod yX11_person ∈ tb := tb_in (tj_6 _ (List.mem_of_getElem? (i := 60) rfl)) rfl
theorem wsel_907 : Cond.selects yX11_person.cls yX11_person yX11_person ∈ tb := tb_in (tj_6 _ (List.mem_of_getElem? (i := 61) rfl)) rfl
theorem wml_908 : Cond.methodLink RL 41 yX10_lamp ∈ tb := tb_in (tj_3 _ (List.mem_of_getElem? (i := 165) rfl)) rfl
theorem winst_909 : Cond.instanceMethod yX10_lamp ∈ tb := tb_in (tj_3 _ (List.mem_of_getElem? (i := 166) rfl)) rfl
theorem wsel_910 : Cond.selects yX10_lamp.cls yX10_lamp yX10_lamp ∈ tb := tb_in (tj_3 _ (List.mem_of_getElem? (i := 167) rfl)) rfl
theorem wml_911 : Cond.methodLink RL 44 yX11_lamp ∈ tb := tb_in (tj_6 _ (List.mem_of_getElem? (i := 76) rfl)) rfl
theorem winst_912 : Cond.instanceMethod yX11_lamp ∈ tb := tb_in (tj_6 _ (List.mem_of_getElem? (i := 77) rfl)) rfl
theorem wsel_913 : Cond.selects yX11_lamp.cls yX11_lamp yX11_lamp ∈ tb := tb_in (tj_6 _ (List.mem_of_getElem? (i := 78) rfl)) rfl
theorem wml_914 : Cond.methodLink RL 45 yX10_hour ∈ tb := tb_in (tj_3 _ (List.mem_of_getElem? (i := 185) rfl)) rfl
theorem winst_915 : Cond.instanceMethod yX10_hour ∈ tb := tb_in (tj_3 _ (List.mem_of_getElem? (i := 186) rfl)) rfl
theorem wsel_916 : Cond.selects yX10_hour.cls yX10_hour yX10_hour ∈ tb := tb_in (tj_3 _ (List.mem_of_getElem? (i := 187) rfl)) rfl
theorem wml_917 : Cond.methodLink RL 48 yX11_hour ∈ tb := tb_in (tj_6 _ (List.mem_of_getElem? (i := 97) rfl)) rfl
theorem winst_918 : Cond.instanceMethod yX11_hour ∈ tb := tb_in (tj_6 _ (List.mem_of_getElem? (i := 98) rfl)) rfl
theorem wsel_919 : Cond.selects yX11_hour.cls yX11_hour yX11_hour ∈ tb := tb_in (tj_6 _ (List.mem_of_getElem? (i := 99) rfl)) rfl
theorem wml_920 : Cond.methodLink RL 49 yX10_sleep ∈ tb := tb_in (tj_4 _ (List.mem_of_getElem? (i := 29) rfl)) rfl
theorem winst_921 : Cond.instanceMethod yX10_sleep ∈ tb := tb_in (tj_4 _ (List.mem_of_getElem? (i := 30) rfl)) rfl
theorem wsel_922 : Cond.selects yX10_sleep.cls yX10_sleep yX10_sleep ∈ tb := tb_in (tj_4 _ (List.mem_of_getElem? (i := 31) rfl)) rfl
theorem wml_923 : Cond.methodLink RL 53 yX11_sleep ∈ tb := tb_in (tj_6 _ (List.mem_of_getElem? (i := 175) rfl)) rfl
theorem winst_924 : Cond.instanceMethod yX11_sleep ∈ tb := tb_in (tj_6 _ (List.mem_of_getElem? (i := 176) rfl)) rfl
theorem wsel_925 : Cond.selects yX11_sleep.cls yX11_sleep yX11_sleep ∈ tb := tb_in (tj_6 _ (List.mem_of_getElem? (i := 177) rfl)) rfl
theorem wml_926 : Cond.methodLink RL 54 yX10_light ∈ tb := tb_in (tj_4 _ (List.mem_of_getElem? (i := 33) rfl)) rfl
theorem winst_927 : Cond.instanceMethod yX10_light ∈ tb := tb_in (tj_4 _ (List.mem_of_getElem? (i := 34) rfl)) rfl
theorem wsel_928 : Cond.selects yX10_light.cls yX10_light yX10_light ∈ tb := tb_in (tj_4 _ (List.mem_of_getElem? (i := 35) rfl)) rfl
theorem wml_929 : Cond.methodLink RL 57 yX11_light ∈ tb := tb_in (tj_6 _ (List.mem_of_getElem? (i := 179) rfl)) rfl
theorem winst_930 : Cond.instanceMethod yX11_light ∈ tb := tb_in (tj_6 _ (List.mem_of_getElem? (i := 180) rfl)) rfl
theorem wsel_931 : Cond.selects yX11_light.cls yX11_light yX11_light ∈ tb := tb_in (tj_6 _ (List.mem_of_getElem? (i := 181) rfl)) rfl
theorem wml_932 : Cond.methodLink RL 58 yX10_undo ∈ tb := tb_in (tj_4 _ (List.mem_of_getElem? (i := 41) rfl)) rfl
theorem winst_933 : Cond.instanceMethod yX10_undo ∈ tb := tb_in (tj_4 _ (List.mem_of_getElem? (i := 42) rfl)) rfl
theorem wsel_934 : Cond.selects yX10_undo.cls yX10_undo yX10_undo ∈ tb := tb_in (tj_4 _ (List.mem_of_getElem? (i := 43) rfl)) rfl
theorem wml_935 : Cond.methodLink RL 61 yX11_undo ∈ tb := tb_in (tj_6 _ (List.mem_of_getElem? (i := 93) rfl)) rfl
theorem winst_936 : Cond.instanceMethod yX11_undo ∈ tb := tb_in (tj_6 _ (List.mem_of_getElem? (i := 94) rfl)) rfl
theorem wsel_937 : Cond.selects yX11_undo.cls yX11_undo yX11_undo ∈ tb := tb_in (tj_6 _ (List.mem_of_getElem? (i := 95) rfl)) rfl
theorem wml_938 : Cond.methodLink RL 62 yX10_owed ∈ tb := tb_in (tj_4 _ (List.mem_of_getElem? (i := 52) rfl)) rfl
theorem winst_939 : Cond.instanceMethod yX10_owed ∈ tb := tb_in (tj_4 _ (List.mem_of_getElem? (i := 53) rfl)) rfl
theorem wsel_940 : Cond.selects yX10_owed.cls yX10_owed yX10_owed ∈ tb := tb_in (tj_4 _ (List.mem_of_getElem? (i := 54) rfl)) rfl
theorem wml_941 : Cond.methodLink RL 65 yX11_owed ∈ tb := tb_in (tj_6 _ (List.mem_of_getElem? (i := 183) rfl)) rfl
theorem winst_942 : Cond.instanceMethod yX11_owed ∈ tb := tb_in (tj_6 _ (List.mem_of_getElem? (i := 184) rfl)) rfl
theorem wsel_943 : Cond.selects yX11_owed.cls yX11_owed yX11_owed ∈ tb := tb_in (tj_6 _ (List.mem_of_getElem? (i := 185) rfl)) rfl
theorem wml_944 : Cond.methodLink RL 66 yX10_ahead ∈ tb := tb_in (tj_4 _ (List.mem_of_getElem? (i := 73) rfl)) rfl
theorem winst_945 : Cond.instanceMethod yX10_ahead ∈ tb := tb_in (tj_4 _ (List.mem_of_getElem? (i := 74) rfl)) rfl
theorem wsel_946 : Cond.selects yX10_ahead.cls yX10_ahead yX10_ahead ∈ tb := tb_in (tj_4 _ (List.mem_of_getElem? (i := 75) rfl)) rfl
theorem wml_947 : Cond.methodLink RL 70 yX11_ahead ∈ tb := tb_in (tj_6 _ (List.mem_of_getElem? (i := 193) rfl)) rfl
theorem winst_948 : Cond.instanceMethod yX11_ahead ∈ tb := tb_in (tj_6 _ (List.mem_of_getElem? (i := 194) rfl)) rfl
theorem wsel_949 : Cond.selects yX11_ahead.cls yX11_ahead yX11_ahead ∈ tb := tb_in (tj_6 _ (List.mem_of_getElem? (i := 195) rfl)) rfl
theorem wml_950 : Cond.methodLink RL 71 yX10_cheap ∈ tb := tb_in (tj_4 _ (List.mem_of_getElem? (i := 82) rfl)) rfl
theorem winst_951 : Cond.instanceMethod yX10_cheap ∈ tb := tb_in (tj_4 _ (List.mem_of_getElem? (i := 83) rfl)) rfl
theorem wsel_952 : Cond.selects yX10_cheap.cls yX10_cheap yX10_cheap ∈ tb := tb_in (tj_4 _ (List.mem_of_getElem? (i := 84) rfl)) rfl
theorem wml_953 : Cond.methodLink RL 74 yX11_cheap ∈ tb := tb_in (tj_6 _ (List.mem_of_getElem? (i := 206) rfl)) rfl
theorem winst_954 : Cond.instanceMethod yX11_cheap ∈ tb := tb_in (tj_6 _ (List.mem_of_getElem? (i := 207) rfl)) rfl
theorem wsel_955 : Cond.selects yX11_cheap.cls yX11_cheap yX11_cheap ∈ tb := tb_in (tj_6 _ (List.mem_of_getElem? (i := 208) rfl)) rfl
theorem wml_956 : Cond.methodLink RL 75 yX10_rest ∈ tb := tb_in (tj_4 _ (List.mem_of_getElem? (i := 100) rfl)) rfl
theorem winst_957 : Cond.instanceMethod yX10_rest ∈ tb := tb_in (tj_4 _ (List.mem_of_getElem? (i := 101) rfl)) rfl
theorem wsel_958 : Cond.selects yX10_rest.cls yX10_rest yX10_rest ∈ tb := tb_in (tj_4 _ (List.mem_of_getElem? (i := 102) rfl)) rfl
theorem wml_959 : Cond.methodLink RL 78 yX11_rest ∈ tb := tb_in (tj_6 _ (List.mem_of_getElem? (i := 230) rfl)) rfl
theorem winst_960 : Cond.instanceMethod yX11_rest ∈ tb := tb_in (tj_6 _ (List.mem_of_getElem? (i := 231) rfl)) rfl
theorem wsel_961 : Cond.selects yX11_rest.cls yX11_rest yX11_rest ∈ tb := tb_in (tj_6 _ (List.mem_of_getElem? (i := 232) rfl)) rfl
theorem wml_962 : Cond.methodLink RL 79 yX10_dark ∈ tb := tb_in (tj_4 _ (List.mem_of_getElem? (i := 112) rfl)) rfl
theorem winst_963 : Cond.instanceMethod yX10_dark ∈ tb := tb_in (tj_4 _ (List.mem_of_getElem? (i := 113) rfl)) rfl
theorem wsel_964 : Cond.selects yX10_dark.cls yX10_dark yX10_dark ∈ tb := tb_in (tj_4 _ (List.mem_of_getElem? (i := 114) rfl)) rfl
theorem wml_965 : Cond.methodLink RL 82 yX11_dark ∈ tb := tb_in (tj_7 _ (List.mem_of_getElem? (i := 2) rfl)) rfl
theorem winst_966 : Cond.instanceMethod yX11_dark ∈ tb := tb_in (tj_7 _ (List.mem_of_getElem? (i := 3) rfl)) rfl
theorem wsel_967 : Cond.selects yX11_dark.cls yX11_dark yX11_dark ∈ tb := tb_in (tj_7 _ (List.mem_of_getElem? (i := 4) rfl)) rfl
theorem wml_968 : Cond.methodLink RL 83 yX10_guild ∈ tb := tb_in (tj_4 _ (List.mem_of_getElem? (i := 120) rfl)) rfl
theorem winst_969 : Cond.instanceMethod yX10_guild ∈ tb := tb_in (tj_4 _ (List.mem_of_getElem? (i := 121) rfl)) rfl
theorem wsel_970 : Cond.selects yX10_guild.cls yX10_guild yX10_guild ∈ tb := tb_in (tj_4 _ (List.mem_of_getElem? (i := 122) rfl)) rfl
theorem wml_971 : Cond.methodLink RL 86 yX11_guild ∈ tb := tb_in (tj_6 _ (List.mem_of_getElem? (i := 226) rfl)) rfl
theorem winst_972 : Cond.instanceMethod yX11_guild ∈ tb := tb_in (tj_6 _ (List.mem_of_getElem? (i := 227) rfl)) rfl
theorem wsel_973 : Cond.selects yX11_guild.cls yX11_guild yX11_guild ∈ tb := tb_in (tj_6 _ (List.mem_of_getElem? (i := 228) rfl)) rfl
theorem wml_974 : Cond.methodLink RL 87 yX10_fact ∈ tb := tb_in (tj_4 _ (List.mem_of_getElem? (i := 124) rfl)) rfl
theorem winst_975 : Cond.instanceMethod yX10_fact ∈ tb := tb_in (tj_4 _ (List.mem_of_getElem? (i := 125) rfl)) rfl
theorem wsel_976 : Cond.selects yX10_fact.cls yX10_fact yX10_fact ∈ tb := tb_in (tj_4 _ (List.mem_of_getElem? (i := 126) rfl)) rfl
theorem wml_977 : Cond.methodLink RL 91 yX11_fact_ ∈ tb := tb_in (tj_7 _ (List.mem_of_getElem? (i := 14) rfl)) rfl
theorem winst_978 : Cond.instanceMethod yX11_fact_ ∈ tb := tb_in (tj_7 _ (List.mem_of_getElem? (i := 15) rfl)) rfl
theorem wsel_979 : Cond.selects yX11_fact_.cls yX11_fact_ yX11_fact_ ∈ tb := tb_in (tj_7 _ (List.mem_of_getElem? (i := 16) rfl)) rfl
theorem wml_980 : Cond.methodLink RL 92 yX10_slept ∈ tb := tb_in (tj_4 _ (List.mem_of_getElem? (i := 136) rfl)) rfl
theorem winst_981 : Cond.instanceMethod yX10_slept ∈ tb := tb_in (tj_4 _ (List.mem_of_getElem? (i := 137) rfl)) rfl
theorem wsel_982 : Cond.selects yX10_slept.cls yX10_slept yX10_slept ∈ tb := tb_in (tj_4 _ (List.mem_of_getElem? (i := 138) rfl)) rfl
theorem wml_983 : Cond.methodLink RL 95 yX11_slept ∈ tb := tb_in (tj_7 _ (List.mem_of_getElem? (i := 19) rfl)) rfl
theorem winst_984 : Cond.instanceMethod yX11_slept ∈ tb := tb_in (tj_7 _ (List.mem_of_getElem? (i := 20) rfl)) rfl
theorem wsel_985 : Cond.selects yX11_slept.cls yX11_slept yX11_slept ∈ tb := tb_in (tj_7 _ (List.mem_of_getElem? (i := 21) rfl)) rfl
theorem wml_986 : Cond.methodLink RL 96 yX10_ask ∈ tb := tb_in (tj_4 _ (List.mem_of_getElem? (i := 154) rfl)) rfl
theorem winst_987 : Cond.instanceMethod yX10_ask ∈ tb := tb_in (tj_4 _ (List.mem_of_getElem? (i := 155) rfl)) rfl
theorem wsel_988 : Cond.selects yX10_ask.cls yX10_ask yX10_ask ∈ tb := tb_in (tj_4 _ (List.mem_of_getElem? (i := 156) rfl)) rfl
theorem wml_989 : Cond.methodLink RL 99 yX11_ask ∈ tb := tb_in (tj_7 _ (List.mem_of_getElem? (i := 32) rfl)) rfl
theorem winst_990 : Cond.instanceMethod yX11_ask ∈ tb := tb_in (tj_7 _ (List.mem_of_getElem? (i := 33) rfl)) rfl
theorem wsel_991 : Cond.selects yX11_ask.cls yX11_ask yX11_ask ∈ tb := tb_in (tj_7 _ (List.mem_of_getElem? (i := 34) rfl)) rfl
theorem wml_992 : Cond.methodLink RL 100 yX10_nights ∈ tb := tb_in (tj_4 _ (List.mem_of_getElem? (i := 159) rfl)) rfl
theorem winst_993 : Cond.instanceMethod yX10_nights ∈ tb := tb_in (tj_4 _ (List.mem_of_getElem? (i := 160) rfl)) rfl
theorem wsel_994 : Cond.selects yX10_nights.cls yX10_nights yX10_nights ∈ tb := tb_in (tj_4 _ (List.mem_of_getElem? (i := 161) rfl)) rfl
theorem wml_995 : Cond.methodLink RL 103 yX11_nights ∈ tb := tb_in (tj_7 _ (List.mem_of_getElem? (i := 36) rfl)) rfl
theorem winst_996 : Cond.instanceMethod yX11_nights ∈ tb := tb_in (tj_7 _ (List.mem_of_getElem? (i := 37) rfl)) rfl
theorem wsel_997 : Cond.selects yX11_nights.cls yX11_nights yX11_nights ∈ tb := tb_in (tj_7 _ (List.mem_of_getElem? (i := 38) rfl)) rfl
theorem wml_998 : Cond.methodLink RL 104 yX10_turned ∈ tb := tb_in (tj_4 _ (List.mem_of_getElem? (i := 177) rfl)) rfl
theorem winst_999 : Cond.instanceMethod yX10_turned ∈ tb := tb_in (tj_4 _ (List.mem_of_getElem? (i := 178) rfl)) rfl
theorem wsel_1000 : Cond.selects yX10_turned.cls yX10_turned yX10_turned ∈ tb := tb_in (tj_4 _ (List.mem_of_getElem? (i := 179) rfl)) rfl
theorem wml_1001 : Cond.methodLink RL 107 yX11_turned ∈ tb := tb_in (tj_7 _ (List.mem_of_getElem? (i := 64) rfl)) rfl
theorem winst_1002 : Cond.instanceMethod yX11_turned ∈ tb := tb_in (tj_7 _ (List.mem_of_getElem? (i := 65) rfl)) rfl
theorem wsel_1003 : Cond.selects yX11_turned.cls yX11_turned yX11_turned ∈ tb := tb_in (tj_7 _ (List.mem_of_getElem? (i := 66) rfl)) rfl
theorem wml_1004 : Cond.methodLink RL 108 yX10_spite ∈ tb := tb_in (tj_4 _ (List.mem_of_getElem? (i := 190) rfl)) rfl
theorem winst_1005 : Cond.instanceMethod yX10_spite ∈ tb := tb_in (tj_4 _ (List.mem_of_getElem? (i := 191) rfl)) rfl
theorem wsel_1006 : Cond.selects yX10_spite.cls yX10_spite yX10_spite ∈ tb := tb_in (tj_4 _ (List.mem_of_getElem? (i := 192) rfl)) rfl
theorem wml_1007 : Cond.methodLink RL 111 yX11_spite ∈ tb := tb_in (tj_7 _ (List.mem_of_getElem? (i := 70) rfl)) rfl
theorem winst_1008 : Cond.instanceMethod yX11_spite ∈ tb := tb_in (tj_7 _ (List.mem_of_getElem? (i := 71) rfl)) rfl
theorem wsel_1009 : Cond.selects yX11_spite.cls yX11_spite yX11_spite ∈ tb := tb_in (tj_7 _ (List.mem_of_getElem? (i := 72) rfl)) rfl
theorem wml_1010 : Cond.methodLink RL 112 yX10_seed ∈ tb := tb_in (tj_4 _ (List.mem_of_getElem? (i := 194) rfl)) rfl
theorem winst_1011 : Cond.instanceMethod yX10_seed ∈ tb := tb_in (tj_4 _ (List.mem_of_getElem? (i := 195) rfl)) rfl
theorem wsel_1012 : Cond.selects yX10_seed.cls yX10_seed yX10_seed ∈ tb := tb_in (tj_4 _ (List.mem_of_getElem? (i := 196) rfl)) rfl
theorem wml_1013 : Cond.methodLink RL 115 yX11_seed ∈ tb := tb_in (tj_7 _ (List.mem_of_getElem? (i := 78) rfl)) rfl
theorem winst_1014 : Cond.instanceMethod yX11_seed ∈ tb := tb_in (tj_7 _ (List.mem_of_getElem? (i := 79) rfl)) rfl
theorem wsel_1015 : Cond.selects yX11_seed.cls yX11_seed yX11_seed ∈ tb := tb_in (tj_7 _ (List.mem_of_getElem? (i := 80) rfl)) rfl
theorem wml_1016 : Cond.methodLink RL 116 yX10_lives ∈ tb := tb_in (tj_4 _ (List.mem_of_getElem? (i := 198) rfl)) rfl
theorem winst_1017 : Cond.instanceMethod yX10_lives ∈ tb := tb_in (tj_4 _ (List.mem_of_getElem? (i := 199) rfl)) rfl
theorem wsel_1018 : Cond.selects yX10_lives.cls yX10_lives yX10_lives ∈ tb := tb_in (tj_4 _ (List.mem_of_getElem? (i := 200) rfl)) rfl
theorem wml_1019 : Cond.methodLink RL 119 yX11_lives ∈ tb := tb_in (tj_7 _ (List.mem_of_getElem? (i := 82) rfl)) rfl
theorem winst_1020 : Cond.instanceMethod yX11_lives ∈ tb := tb_in (tj_7 _ (List.mem_of_getElem? (i := 83) rfl)) rfl
theorem wsel_1021 : Cond.selects yX11_lives.cls yX11_lives yX11_lives ∈ tb := tb_in (tj_7 _ (List.mem_of_getElem? (i := 84) rfl)) rfl
theorem wml_1022 : Cond.methodLink RL 120 yX10_count ∈ tb := tb_in (tj_4 _ (List.mem_of_getElem? (i := 211) rfl)) rfl
theorem winst_1023 : Cond.instanceMethod yX10_count ∈ tb := tb_in (tj_4 _ (List.mem_of_getElem? (i := 212) rfl)) rfl
theorem wsel_1024 : Cond.selects yX10_count.cls yX10_count yX10_count ∈ tb := tb_in (tj_4 _ (List.mem_of_getElem? (i := 213) rfl)) rfl
theorem wml_1025 : Cond.methodLink RL 123 yX11_count ∈ tb := tb_in (tj_7 _ (List.mem_of_getElem? (i := 94) rfl)) rfl
theorem winst_1026 : Cond.instanceMethod yX11_count ∈ tb := tb_in (tj_7 _ (List.mem_of_getElem? (i := 95) rfl)) rfl
theorem wsel_1027 : Cond.selects yX11_count.cls yX11_count yX11_count ∈ tb := tb_in (tj_7 _ (List.mem_of_getElem? (i := 96) rfl)) rfl
theorem wml_1028 : Cond.methodLink RL 124 yX10_image ∈ tb := tb_in (tj_4 _ (List.mem_of_getElem? (i := 215) rfl)) rfl
theorem winst_1029 : Cond.instanceMethod yX10_image ∈ tb := tb_in (tj_4 _ (List.mem_of_getElem? (i := 216) rfl)) rfl
theorem wsel_1030 : Cond.selects yX10_image.cls yX10_image yX10_image ∈ tb := tb_in (tj_4 _ (List.mem_of_getElem? (i := 217) rfl)) rfl
theorem wml_1031 : Cond.methodLink RL 127 yX11_image ∈ tb := tb_in (tj_7 _ (List.mem_of_getElem? (i := 98) rfl)) rfl
theorem winst_1032 : Cond.instanceMethod yX11_image ∈ tb := tb_in (tj_7 _ (List.mem_of_getElem? (i := 99) rfl)) rfl
theorem wsel_1033 : Cond.selects yX11_image.cls yX11_image yX11_image ∈ tb := tb_in (tj_7 _ (List.mem_of_getElem? (i := 100) rfl)) rfl
theorem wml_1034 : Cond.methodLink RL 128 yX10_back ∈ tb := tb_in (tj_4 _ (List.mem_of_getElem? (i := 230) rfl)) rfl
theorem winst_1035 : Cond.instanceMethod yX10_back ∈ tb := tb_in (tj_4 _ (List.mem_of_getElem? (i := 231) rfl)) rfl
theorem wsel_1036 : Cond.selects yX10_back.cls yX10_back yX10_back ∈ tb := tb_in (tj_4 _ (List.mem_of_getElem? (i := 232) rfl)) rfl
theorem wml_1037 : Cond.methodLink RL 131 yX11_back ∈ tb := tb_in (tj_7 _ (List.mem_of_getElem? (i := 102) rfl)) rfl
theorem winst_1038 : Cond.instanceMethod yX11_back ∈ tb := tb_in (tj_7 _ (List.mem_of_getElem? (i := 103) rfl)) rfl
theorem wsel_1039 : Cond.selects yX11_back.cls yX11_back yX11_back ∈ tb := tb_in (tj_7 _ (List.mem_of_getElem? (i := 104) rfl)) rfl
theorem wcode_1040 : Cond.code yJ0_charAt_5068e cJ0_charAt_5068e 2 (some .char) ∈ tb := tb_in (tj_2 _ (List.mem_of_getElem? (i := 193) rfl)) rfl
theorem wini_1041 : Cond.initialized "java/lang/String" ∈ tb := tb_in (tj_1 _ (List.mem_of_getElem? (i := 12) rfl)) rfl
theorem wcode_1042 : Cond.code yJ0_checkIndex_df160 cJ0_checkIndex_df160 2 none ∈ tb := tb_in (tj_2 _ (List.mem_of_getElem? (i := 203) rfl)) rfl
theorem wcode_1043 : Cond.code yJ0_coder_7d493 cJ0_coder_7d493 1 (some .byte) ∈ tb := tb_in (tj_2 _ (List.mem_of_getElem? (i := 187) rfl)) rfl
theorem wcode_1044 : Cond.code yJ0_isLatin1_aae02 cJ0_isLatin1_aae02 1 (some .boolean) ∈ tb := tb_in (tj_2 _ (List.mem_of_getElem? (i := 197) rfl)) rfl
theorem wcode_1045 : Cond.code yJ0_length_8abf5 cJ0_length_8abf5 1 (some .int) ∈ tb := tb_in (tj_2 _ (List.mem_of_getElem? (i := 183) rfl)) rfl
theorem wcode_1046 : Cond.code yJ1_charAt_3b067 cJ1_charAt_3b067 2 (some .char) ∈ tb := tb_in (tj_2 _ (List.mem_of_getElem? (i := 200) rfl)) rfl
theorem wini_1047 : Cond.initialized "java/lang/StringLatin1" ∈ tb := tb_in (tj_1 _ (List.mem_of_getElem? (i := 13) rfl)) rfl
theorem wcode_1048 : Cond.code yJ3_checkIndex_8e157 cJ3_checkIndex_8e157 3 (some .int) ∈ tb := tb_in (tj_2 _ (List.mem_of_getElem? (i := 208) rfl)) rfl
theorem wini_1049 : Cond.initialized "jdk/internal/util/Preconditions" ∈ tb := tb_in (tj_1 _ (List.mem_of_getElem? (i := 14) rfl)) rfl
theorem wcode_1050 : Cond.code yJ6_bitCount_0f7a4 cJ6_bitCount_0f7a4 1 (some .int) ∈ tb := tb_in (tj_3 _ (List.mem_of_getElem? (i := 236) rfl)) rfl
theorem wini_1051 : Cond.initialized "java/lang/Integer" ∈ tb := tb_in (tj_1 _ (List.mem_of_getElem? (i := 19) rfl)) rfl
theorem wcode_1052 : Cond.code yJ9_abs_067f4 cJ9_abs_067f4 2 (some .long) ∈ tb := tb_in (tj_4 _ (List.mem_of_getElem? (i := 72) rfl)) rfl
theorem wini_1053 : Cond.initialized "java/lang/Math" ∈ tb := tb_in (tj_1 _ (List.mem_of_getElem? (i := 16) rfl)) rfl
theorem wcode_1054 : Cond.code yJ9_floorMod_7cf53 cJ9_floorMod_7cf53 3 (some .int) ∈ tb := tb_in (tj_4 _ (List.mem_of_getElem? (i := 51) rfl)) rfl
theorem wcode_1055 : Cond.code yJ9_max_7cf53 cJ9_max_7cf53 2 (some .int) ∈ tb := tb_in (tj_3 _ (List.mem_of_getElem? (i := 49) rfl)) rfl
theorem wcode_1056 : Cond.code yJ9_min_7cf53 cJ9_min_7cf53 2 (some .int) ∈ tb := tb_in (tj_3 _ (List.mem_of_getElem? (i := 134) rfl)) rfl
theorem wcode_1057 : Cond.code yX0_clear cX0_clear 1 none ∈ tb := tb_in (tj_3 _ (List.mem_of_getElem? (i := 76) rfl)) rfl
theorem wcode_1058 : Cond.code yX0_init cX0_init 2 none ∈ tb := tb_in (tj_2 _ (List.mem_of_getElem? (i := 40) rfl)) rfl
theorem wcode_1059 : Cond.code yX0_keep cX0_keep 2 none ∈ tb := tb_in (tj_3 _ (List.mem_of_getElem? (i := 200) rfl)) rfl
theorem wcode_1060 : Cond.code yX0_takeBack cX0_takeBack 2 (some .boolean) ∈ tb := tb_in (tj_4 _ (List.mem_of_getElem? (i := 48) rfl)) rfl
theorem wcode_1061 : Cond.code yX10_ahead cX10_ahead 4 (some .int) ∈ tb := tb_in (tj_4 _ (List.mem_of_getElem? (i := 76) rfl)) rfl
theorem wcode_1062 : Cond.code yX10_allCouldSleep cX10_allCouldSleep 6 (some .boolean) ∈ tb := tb_in (tj_4 _ (List.mem_of_getElem? (i := 119) rfl)) rfl
theorem wcode_1063 : Cond.code yX10_ask cX10_ask 8 (some .int) ∈ tb := tb_in (tj_4 _ (List.mem_of_getElem? (i := 157) rfl)) rfl
theorem wcode_1064 : Cond.code yX10_back cX10_back 2 (some .int) ∈ tb := tb_in (tj_4 _ (List.mem_of_getElem? (i := 233) rfl)) rfl
theorem wcode_1065 : Cond.code yX10_bitOf cX10_bitOf 2 (some .int) ∈ tb := tb_in (tj_3 _ (List.mem_of_getElem? (i := 156) rfl)) rfl
theorem wcode_1066 : Cond.code yX10_burningNow cX10_burningNow 1 (some .int) ∈ tb := tb_in (tj_3 _ (List.mem_of_getElem? (i := 176) rfl)) rfl
theorem wcode_1067 : Cond.code yX10_cheap cX10_cheap 4 (some .int) ∈ tb := tb_in (tj_4 _ (List.mem_of_getElem? (i := 85) rfl)) rfl
theorem wcode_1068 : Cond.code yX10_cheapestHours cX10_cheapestHours 8 (some .int) ∈ tb := tb_in (tj_4 _ (List.mem_of_getElem? (i := 95) rfl)) rfl
theorem wcode_1069 : Cond.code yX10_costOfHours cX10_costOfHours 4 (some .int) ∈ tb := tb_in (tj_4 _ (List.mem_of_getElem? (i := 99) rfl)) rfl
theorem wcode_1070 : Cond.code yX10_count cX10_count 2 (some .int) ∈ tb := tb_in (tj_4 _ (List.mem_of_getElem? (i := 214) rfl)) rfl
theorem wcode_1071 : Cond.code yX10_dark cX10_dark 6 (some .int) ∈ tb := tb_in (tj_4 _ (List.mem_of_getElem? (i := 115) rfl)) rfl
theorem wcode_1072 : Cond.code yX10_debtorRow cX10_debtorRow 1 (some .int) ∈ tb := tb_in (tj_4 _ (List.mem_of_getElem? (i := 65) rfl)) rfl
theorem wcode_1073 : Cond.code yX10_end cX10_end 2 (some .int) ∈ tb := tb_in (tj_2 _ (List.mem_of_getElem? (i := 132) rfl)) rfl
theorem wcode_1074 : Cond.code yX10_evenCost cX10_evenCost 6 (some .int) ∈ tb := tb_in (tj_4 _ (List.mem_of_getElem? (i := 172) rfl)) rfl
theorem wcode_1075 : Cond.code yX10_fact cX10_fact 5 (some .int) ∈ tb := tb_in (tj_4 _ (List.mem_of_getElem? (i := 127) rfl)) rfl
theorem wcode_1076 : Cond.code yX10_feed cX10_feed 6 (some .int) ∈ tb := tb_in (tj_2 _ (List.mem_of_getElem? (i := 120) rfl)) rfl
theorem wcode_1077 : Cond.code yX10_force cX10_force 3 (some .int) ∈ tb := tb_in (tj_3 _ (List.mem_of_getElem? (i := 145) rfl)) rfl
theorem wcode_1078 : Cond.code yX10_fraction cX10_fraction 12 (some .int) ∈ tb := tb_in (tj_4 _ (List.mem_of_getElem? (i := 69) rfl)) rfl
theorem wcode_1079 : Cond.code yX10_guild cX10_guild 4 (some .int) ∈ tb := tb_in (tj_4 _ (List.mem_of_getElem? (i := 123) rfl)) rfl
theorem wcode_1080 : Cond.code yX10_hour cX10_hour 1 (some .int) ∈ tb := tb_in (tj_3 _ (List.mem_of_getElem? (i := 188) rfl)) rfl
theorem wcode_1081 : Cond.code yX10_image cX10_image 2 (some .int) ∈ tb := tb_in (tj_4 _ (List.mem_of_getElem? (i := 218) rfl)) rfl
theorem wcode_1082 : Cond.code yX10_init cX10_init 2 none ∈ tb := tb_in (tj_1 _ (List.mem_of_getElem? (i := 24) rfl)) rfl
theorem wcode_1083 : Cond.code yX10_isAtRest cX10_isAtRest 7 (some .boolean) ∈ tb := tb_in (tj_4 _ (List.mem_of_getElem? (i := 111) rfl)) rfl
theorem wcode_1084 : Cond.code yX10_isDebtor cX10_isDebtor 2 (some .boolean) ∈ tb := tb_in (tj_4 _ (List.mem_of_getElem? (i := 59) rfl)) rfl
theorem wcode_1085 : Cond.code yX10_isFact cX10_isFact 5 (some .boolean) ∈ tb := tb_in (tj_4 _ (List.mem_of_getElem? (i := 131) rfl)) rfl
theorem wcode_1086 : Cond.code yX10_isPart cX10_isPart 1 (some .boolean) ∈ tb := tb_in (tj_4 _ (List.mem_of_getElem? (i := 62) rfl)) rfl
theorem wcode_1087 : Cond.code yX10_isSpan cX10_isSpan 1 (some .boolean) ∈ tb := tb_in (tj_4 _ (List.mem_of_getElem? (i := 183) rfl)) rfl
theorem wcode_1088 : Cond.code yX10_lamp cX10_lamp 3 (some .int) ∈ tb := tb_in (tj_3 _ (List.mem_of_getElem? (i := 168) rfl)) rfl
theorem wcode_1089 : Cond.code yX10_light cX10_light 4 (some .boolean) ∈ tb := tb_in (tj_4 _ (List.mem_of_getElem? (i := 36) rfl)) rfl
theorem wcode_1090 : Cond.code yX10_lives cX10_lives 11 (some .int) ∈ tb := tb_in (tj_4 _ (List.mem_of_getElem? (i := 201) rfl)) rfl
theorem wcode_1091 : Cond.code yX10_nights cX10_nights 7 (some .int) ∈ tb := tb_in (tj_4 _ (List.mem_of_getElem? (i := 162) rfl)) rfl
theorem wcode_1092 : Cond.code yX10_owed cX10_owed 3 (some .int) ∈ tb := tb_in (tj_4 _ (List.mem_of_getElem? (i := 55) rfl)) rfl
theorem wcode_1093 : Cond.code yX10_person cX10_person 3 (some .int) ∈ tb := tb_in (tj_3 _ (List.mem_of_getElem? (i := 149) rfl)) rfl
theorem wcode_1094 : Cond.code yX10_playTrial cX10_playTrial 3 none ∈ tb := tb_in (tj_4 _ (List.mem_of_getElem? (i := 81) rfl)) rfl
theorem wcode_1095 : Cond.code yX10_priceNight cX10_priceNight 6 (some .int) ∈ tb := tb_in (tj_4 _ (List.mem_of_getElem? (i := 166) rfl)) rfl
theorem wcode_1096 : Cond.code yX10_rest cX10_rest 8 (some .int) ∈ tb := tb_in (tj_4 _ (List.mem_of_getElem? (i := 103) rfl)) rfl
theorem wcode_1097 : Cond.code yX10_rule cX10_rule 2 (some .int) ∈ tb := tb_in (tj_3 _ (List.mem_of_getElem? (i := 80) rfl)) rfl
theorem wcode_1098 : Cond.code yX10_ruleNow cX10_ruleNow 2 (some (.object "SleepersPay$Rule")) ∈ tb := tb_in (tj_3 _ (List.mem_of_getElem? (i := 210) rfl)) rfl
theorem wcode_1099 : Cond.code yX10_seed cX10_seed 3 (some .int) ∈ tb := tb_in (tj_4 _ (List.mem_of_getElem? (i := 197) rfl)) rfl
theorem wcode_1100 : Cond.code yX10_setsWith cX10_setsWith 4 (some .int) ∈ tb := tb_in (tj_4 _ (List.mem_of_getElem? (i := 153) rfl)) rfl
theorem wcode_1101 : Cond.code yX10_sleep cX10_sleep 5 (some .boolean) ∈ tb := tb_in (tj_4 _ (List.mem_of_getElem? (i := 32) rfl)) rfl
theorem wcode_1102 : Cond.code yX10_sleepInNight cX10_sleepInNight 11 (some .int) ∈ tb := tb_in (tj_4 _ (List.mem_of_getElem? (i := 176) rfl)) rfl
theorem wcode_1103 : Cond.code yX10_sleepTogether cX10_sleepTogether 8 (some .int) ∈ tb := tb_in (tj_4 _ (List.mem_of_getElem? (i := 89) rfl)) rfl
theorem wcode_1104 : Cond.code yX10_slept cX10_slept 7 (some .int) ∈ tb := tb_in (tj_4 _ (List.mem_of_getElem? (i := 139) rfl)) rfl
theorem wcode_1105 : Cond.code yX10_spite cX10_spite 8 (some .int) ∈ tb := tb_in (tj_4 _ (List.mem_of_getElem? (i := 193) rfl)) rfl
theorem wcode_1106 : Cond.code yX10_street cX10_street 2 (some .int) ∈ tb := tb_in (tj_2 _ (List.mem_of_getElem? (i := 136) rfl)) rfl
theorem wcode_1107 : Cond.code yX10_turned cX10_turned 8 (some .int) ∈ tb := tb_in (tj_4 _ (List.mem_of_getElem? (i := 180) rfl)) rfl
theorem wcode_1108 : Cond.code yX10_undo cX10_undo 1 (some .int) ∈ tb := tb_in (tj_4 _ (List.mem_of_getElem? (i := 44) rfl)) rfl
theorem wcode_1109 : Cond.code yX10_workersNow cX10_workersNow 1 (some .int) ∈ tb := tb_in (tj_3 _ (List.mem_of_getElem? (i := 160) rfl)) rfl
theorem wcode_1110 : Cond.code yX11_ahead cX11_ahead 5 (some .int) ∈ tb := tb_in (tj_6 _ (List.mem_of_getElem? (i := 196) rfl)) rfl
theorem wcode_1111 : Cond.code yX11_ask cX11_ask 8 (some .int) ∈ tb := tb_in (tj_7 _ (List.mem_of_getElem? (i := 35) rfl)) rfl
theorem wcode_1112 : Cond.code yX11_back cX11_back 3 (some .int) ∈ tb := tb_in (tj_7 _ (List.mem_of_getElem? (i := 105) rfl)) rfl
theorem wcode_1113 : Cond.code yX11_bits cX11_bits 3 (some .int) ∈ tb := tb_in (tj_6 _ (List.mem_of_getElem? (i := 143) rfl)) rfl
theorem wcode_1114 : Cond.code yX11_burning cX11_burning 3 (some .int) ∈ tb := tb_in (tj_7 _ (List.mem_of_getElem? (i := 9) rfl)) rfl
theorem wcode_1115 : Cond.code yX11_burnsIn cX11_burnsIn 4 (some .boolean) ∈ tb := tb_in (tj_6 _ (List.mem_of_getElem? (i := 88) rfl)) rfl
theorem wcode_1116 : Cond.code yX11_cellHere cX11_cellHere 4 (some .boolean) ∈ tb := tb_in (tj_5 _ (List.mem_of_getElem? (i := 175) rfl)) rfl
theorem wcode_1117 : Cond.code yX11_cheap cX11_cheap 4 (some .int) ∈ tb := tb_in (tj_6 _ (List.mem_of_getElem? (i := 209) rfl)) rfl
theorem wcode_1118 : Cond.code yX11_cheapest cX11_cheapest 5 (some .int) ∈ tb := tb_in (tj_6 _ (List.mem_of_getElem? (i := 214) rfl)) rfl
theorem wcode_1119 : Cond.code yX11_clauseHere cX11_clauseHere 3 (some .boolean) ∈ tb := tb_in (tj_5 _ (List.mem_of_getElem? (i := 133) rfl)) rfl
theorem wcode_1120 : Cond.code yX11_closes cX11_closes 1 none ∈ tb := tb_in (tj_6 _ (List.mem_of_getElem? (i := 33) rfl)) rfl
theorem wcode_1121 : Cond.code yX11_compare cX11_compare 5 (some .boolean) ∈ tb := tb_in (tj_6 _ (List.mem_of_getElem? (i := 29) rfl)) rfl
theorem wcode_1122 : Cond.code yX11_costBy cX11_costBy 5 (some .int) ∈ tb := tb_in (tj_7 _ (List.mem_of_getElem? (i := 59) rfl)) rfl
theorem wcode_1123 : Cond.code yX11_costIn cX11_costIn 4 (some .int) ∈ tb := tb_in (tj_6 _ (List.mem_of_getElem? (i := 132) rfl)) rfl
theorem wcode_1124 : Cond.code yX11_costOf cX11_costOf 2 (some .int) ∈ tb := tb_in (tj_6 _ (List.mem_of_getElem? (i := 136) rfl)) rfl
theorem wcode_1125 : Cond.code yX11_count cX11_count 2 (some .int) ∈ tb := tb_in (tj_7 _ (List.mem_of_getElem? (i := 97) rfl)) rfl
theorem wcode_1126 : Cond.code yX11_dark cX11_dark 5 (some .int) ∈ tb := tb_in (tj_7 _ (List.mem_of_getElem? (i := 5) rfl)) rfl
theorem wcode_1127 : Cond.code yX11_divisor cX11_divisor 5 (some .int) ∈ tb := tb_in (tj_6 _ (List.mem_of_getElem? (i := 192) rfl)) rfl
theorem wcode_1128 : Cond.code yX11_draw cX11_draw 2 (some .int) ∈ tb := tb_in (tj_7 _ (List.mem_of_getElem? (i := 89) rfl)) rfl
theorem wcode_1129 : Cond.code yX11_end cX11_end 2 (some .int) ∈ tb := tb_in (tj_5 _ (List.mem_of_getElem? (i := 121) rfl)) rfl
theorem wcode_1130 : Cond.code yX11_endsNight cX11_endsNight 4 none ∈ tb := tb_in (tj_6 _ (List.mem_of_getElem? (i := 174) rfl)) rfl
theorem wcode_1131 : Cond.code yX11_fact cX11_fact 3 (some .boolean) ∈ tb := tb_in (tj_6 _ (List.mem_of_getElem? (i := 20) rfl)) rfl
theorem wcode_1132 : Cond.code yX11_fact_ cX11_fact_ 7 (some .int) ∈ tb := tb_in (tj_7 _ (List.mem_of_getElem? (i := 17) rfl)) rfl
theorem wcode_1133 : Cond.code yX11_fails cX11_fails 3 (some .boolean) ∈ tb := tb_in (tj_5 _ (List.mem_of_getElem? (i := 159) rfl)) rfl
theorem wcode_1134 : Cond.code yX11_feed cX11_feed 6 (some .int) ∈ tb := tb_in (tj_5 _ (List.mem_of_getElem? (i := 113) rfl)) rfl
theorem wcode_1135 : Cond.code yX11_fillsLeast cX11_fillsLeast 8 none ∈ tb := tb_in (tj_7 _ (List.mem_of_getElem? (i := 55) rfl)) rfl
theorem wcode_1136 : Cond.code yX11_fillsNight cX11_fillsNight 6 none ∈ tb := tb_in (tj_7 _ (List.mem_of_getElem? (i := 47) rfl)) rfl
theorem wcode_1137 : Cond.code yX11_findsCheap cX11_findsCheap 7 none ∈ tb := tb_in (tj_6 _ (List.mem_of_getElem? (i := 218) rfl)) rfl
theorem wcode_1138 : Cond.code yX11_fitsFacts cX11_fitsFacts 3 (some .boolean) ∈ tb := tb_in (tj_7 _ (List.mem_of_getElem? (i := 27) rfl)) rfl
theorem wcode_1139 : Cond.code yX11_force cX11_force 3 (some .int) ∈ tb := tb_in (tj_6 _ (List.mem_of_getElem? (i := 54) rfl)) rfl
theorem wcode_1140 : Cond.code yX11_four cX11_four 3 none ∈ tb := tb_in (tj_5 _ (List.mem_of_getElem? (i := 117) rfl)) rfl
theorem wcode_1141 : Cond.code yX11_fraction cX11_fraction 4 (some .int) ∈ tb := tb_in (tj_6 _ (List.mem_of_getElem? (i := 189) rfl)) rfl
theorem wcode_1142 : Cond.code yX11_guild cX11_guild 4 (some .int) ∈ tb := tb_in (tj_6 _ (List.mem_of_getElem? (i := 229) rfl)) rfl
theorem wcode_1143 : Cond.code yX11_hour cX11_hour 1 (some .int) ∈ tb := tb_in (tj_6 _ (List.mem_of_getElem? (i := 100) rfl)) rfl
theorem wcode_1144 : Cond.code yX11_idle cX11_idle 3 (some .int) ∈ tb := tb_in (tj_7 _ (List.mem_of_getElem? (i := 1) rfl)) rfl
theorem wcode_1145 : Cond.code yX11_image cX11_image 3 (some .int) ∈ tb := tb_in (tj_7 _ (List.mem_of_getElem? (i := 101) rfl)) rfl
theorem wcode_1146 : Cond.code yX11_in cX11_in 6 (some .boolean) ∈ tb := tb_in (tj_5 _ (List.mem_of_getElem? (i := 186) rfl)) rfl
theorem wcode_1147 : Cond.code yX11_init cX11_init 1 none ∈ tb := tb_in (tj_4 _ (List.mem_of_getElem? (i := 238) rfl)) rfl
theorem wcode_1148 : Cond.code yX11_isDarkEnough cX11_isDarkEnough 5 (some .boolean) ∈ tb := tb_in (tj_7 _ (List.mem_of_getElem? (i := 13) rfl)) rfl
theorem wcode_1149 : Cond.code yX11_isDigit cX11_isDigit 2 (some .boolean) ∈ tb := tb_in (tj_5 _ (List.mem_of_getElem? (i := 183) rfl)) rfl
theorem wcode_1150 : Cond.code yX11_isFactSo cX11_isFactSo 5 (some .boolean) ∈ tb := tb_in (tj_7 _ (List.mem_of_getElem? (i := 31) rfl)) rfl
theorem wcode_1151 : Cond.code yX11_isInside cX11_isInside 2 (some .boolean) ∈ tb := tb_in (tj_6 _ (List.mem_of_getElem? (i := 44) rfl)) rfl
theorem wcode_1152 : Cond.code yX11_isLamp cX11_isLamp 2 (some .boolean) ∈ tb := tb_in (tj_6 _ (List.mem_of_getElem? (i := 83) rfl)) rfl
theorem wcode_1153 : Cond.code yX11_isLampHere cX11_isLampHere 4 (some .boolean) ∈ tb := tb_in (tj_5 _ (List.mem_of_getElem? (i := 202) rfl)) rfl
theorem wcode_1154 : Cond.code yX11_isLetter cX11_isLetter 2 (some .boolean) ∈ tb := tb_in (tj_5 _ (List.mem_of_getElem? (i := 150) rfl)) rfl
theorem wcode_1155 : Cond.code yX11_isLitHere cX11_isLitHere 2 (some .boolean) ∈ tb := tb_in (tj_5 _ (List.mem_of_getElem? (i := 206) rfl)) rfl
theorem wcode_1156 : Cond.code yX11_isLitIn cX11_isLitIn 5 (some .boolean) ∈ tb := tb_in (tj_6 _ (List.mem_of_getElem? (i := 92) rfl)) rfl
theorem wcode_1157 : Cond.code yX11_isOf cX11_isOf 2 (some .boolean) ∈ tb := tb_in (tj_6 _ (List.mem_of_getElem? (i := 225) rfl)) rfl
theorem wcode_1158 : Cond.code yX11_isPerson cX11_isPerson 2 (some .boolean) ∈ tb := tb_in (tj_6 _ (List.mem_of_getElem? (i := 66) rfl)) rfl
theorem wcode_1159 : Cond.code yX11_isPersonHere cX11_isPersonHere 4 (some .boolean) ∈ tb := tb_in (tj_5 _ (List.mem_of_getElem? (i := 190) rfl)) rfl
theorem wcode_1160 : Cond.code yX11_isRest cX11_isRest 7 (some .boolean) ∈ tb := tb_in (tj_6 _ (List.mem_of_getElem? (i := 237) rfl)) rfl
theorem wcode_1161 : Cond.code yX11_isRule cX11_isRule 2 (some .boolean) ∈ tb := tb_in (tj_6 _ (List.mem_of_getElem? (i := 58) rfl)) rfl
theorem wcode_1162 : Cond.code yX11_isSleepHere cX11_isSleepHere 2 (some .boolean) ∈ tb := tb_in (tj_5 _ (List.mem_of_getElem? (i := 210) rfl)) rfl
theorem wcode_1163 : Cond.code yX11_isSpanHere cX11_isSpanHere 3 (some .boolean) ∈ tb := tb_in (tj_5 _ (List.mem_of_getElem? (i := 198) rfl)) rfl
theorem wcode_1164 : Cond.code yX11_isStreet cX11_isStreet 1 (some .boolean) ∈ tb := tb_in (tj_6 _ (List.mem_of_getElem? (i := 104) rfl)) rfl
theorem wcode_1165 : Cond.code yX11_isStreetHere cX11_isStreetHere 2 (some .boolean) ∈ tb := tb_in (tj_5 _ (List.mem_of_getElem? (i := 167) rfl)) rfl
theorem wcode_1166 : Cond.code yX11_isStreetWord cX11_isStreetWord 1 (some .boolean) ∈ tb := tb_in (tj_5 _ (List.mem_of_getElem? (i := 141) rfl)) rfl
theorem wcode_1167 : Cond.code yX11_isWord cX11_isWord 6 (some .boolean) ∈ tb := tb_in (tj_5 _ (List.mem_of_getElem? (i := 146) rfl)) rfl
theorem wcode_1168 : Cond.code yX11_isWorkHere cX11_isWorkHere 2 (some .boolean) ∈ tb := tb_in (tj_5 _ (List.mem_of_getElem? (i := 194) rfl)) rfl
theorem wcode_1169 : Cond.code yX11_keeps cX11_keeps 2 none ∈ tb := tb_in (tj_6 _ (List.mem_of_getElem? (i := 201) rfl)) rfl
theorem wcode_1170 : Cond.code yX11_keepsAct cX11_keepsAct 2 none ∈ tb := tb_in (tj_6 _ (List.mem_of_getElem? (i := 108) rfl)) rfl
theorem wcode_1171 : Cond.code yX11_lamp cX11_lamp 3 (some .int) ∈ tb := tb_in (tj_6 _ (List.mem_of_getElem? (i := 79) rfl)) rfl
theorem wcode_1172 : Cond.code yX11_laysBack cX11_laysBack 2 none ∈ tb := tb_in (tj_6 _ (List.mem_of_getElem? (i := 205) rfl)) rfl
theorem wcode_1173 : Cond.code yX11_leastOf cX11_leastOf 3 (some .int) ∈ tb := tb_in (tj_7 _ (List.mem_of_getElem? (i := 63) rfl)) rfl
theorem wcode_1174 : Cond.code yX11_light cX11_light 3 (some .boolean) ∈ tb := tb_in (tj_6 _ (List.mem_of_getElem? (i := 182) rfl)) rfl
theorem wcode_1175 : Cond.code yX11_lives cX11_lives 11 (some .int) ∈ tb := tb_in (tj_7 _ (List.mem_of_getElem? (i := 85) rfl)) rfl
theorem wcode_1176 : Cond.code yX11_makes cX11_makes 2 (some .boolean) ∈ tb := tb_in (tj_5 _ (List.mem_of_getElem? (i := 227) rfl)) rfl
theorem wcode_1177 : Cond.code yX11_nights cX11_nights 8 (some .int) ∈ tb := tb_in (tj_7 _ (List.mem_of_getElem? (i := 39) rfl)) rfl
theorem wcode_1178 : Cond.code yX11_numberHere cX11_numberHere 5 (some .boolean) ∈ tb := tb_in (tj_5 _ (List.mem_of_getElem? (i := 179) rfl)) rfl
theorem wcode_1179 : Cond.code yX11_one cX11_one 5 (some .long) ∈ tb := tb_in (tj_6 _ (List.mem_of_getElem? (i := 166) rfl)) rfl
theorem wcode_1180 : Cond.code yX11_opens cX11_opens 2 (some .boolean) ∈ tb := tb_in (tj_6 _ (List.mem_of_getElem? (i := 25) rfl)) rfl
theorem wcode_1181 : Cond.code yX11_owed cX11_owed 3 (some .int) ∈ tb := tb_in (tj_6 _ (List.mem_of_getElem? (i := 186) rfl)) rfl
theorem wcode_1182 : Cond.code yX11_owedHeld cX11_owedHeld 6 (some .int) ∈ tb := tb_in (tj_7 _ (List.mem_of_getElem? (i := 77) rfl)) rfl
theorem wcode_1183 : Cond.code yX11_ownCost cX11_ownCost 4 (some .int) ∈ tb := tb_in (tj_6 _ (List.mem_of_getElem? (i := 147) rfl)) rfl
theorem wcode_1184 : Cond.code yX11_passWord cX11_passWord 1 none ∈ tb := tb_in (tj_5 _ (List.mem_of_getElem? (i := 171) rfl)) rfl
theorem wcode_1185 : Cond.code yX11_passes cX11_passes 1 (some .int) ∈ tb := tb_in (tj_6 _ (List.mem_of_getElem? (i := 112) rfl)) rfl
theorem wcode_1186 : Cond.code yX11_person cX11_person 3 (some .int) ∈ tb := tb_in (tj_6 _ (List.mem_of_getElem? (i := 62) rfl)) rfl
theorem wcode_1187 : Cond.code yX11_personOf cX11_personOf 3 (some .int) ∈ tb := tb_in (tj_6 _ (List.mem_of_getElem? (i := 71) rfl)) rfl
theorem wcode_1188 : Cond.code yX11_pop cX11_pop 1 (some .long) ∈ tb := tb_in (tj_6 _ (List.mem_of_getElem? (i := 163) rfl)) rfl
theorem wcode_1189 : Cond.code yX11_push cX11_push 3 none ∈ tb := tb_in (tj_6 _ (List.mem_of_getElem? (i := 159) rfl)) rfl
theorem wcode_1190 : Cond.code yX11_puts cX11_puts 3 none ∈ tb := tb_in (tj_5 _ (List.mem_of_getElem? (i := 231) rfl)) rfl
theorem wcode_1191 : Cond.code yX11_readsAll cX11_readsAll 2 (some .boolean) ∈ tb := tb_in (tj_5 _ (List.mem_of_getElem? (i := 129) rfl)) rfl
theorem wcode_1192 : Cond.code yX11_reckons cX11_reckons 11 (some .long) ∈ tb := tb_in (tj_6 _ (List.mem_of_getElem? (i := 155) rfl)) rfl
theorem wcode_1193 : Cond.code yX11_rest cX11_rest 6 (some .int) ∈ tb := tb_in (tj_6 _ (List.mem_of_getElem? (i := 233) rfl)) rfl
theorem wcode_1194 : Cond.code yX11_rule cX11_rule 1 (some .int) ∈ tb := tb_in (tj_5 _ (List.mem_of_getElem? (i := 125) rfl)) rfl
theorem wcode_1195 : Cond.code yX11_see cX11_see 1 (some .int) ∈ tb := tb_in (tj_5 _ (List.mem_of_getElem? (i := 137) rfl)) rfl
theorem wcode_1196 : Cond.code yX11_seed cX11_seed 3 (some .int) ∈ tb := tb_in (tj_7 _ (List.mem_of_getElem? (i := 81) rfl)) rfl
theorem wcode_1197 : Cond.code yX11_setsAsleep cX11_setsAsleep 3 none ∈ tb := tb_in (tj_6 _ (List.mem_of_getElem? (i := 120) rfl)) rfl
theorem wcode_1198 : Cond.code yX11_settles cX11_settles 2 none ∈ tb := tb_in (tj_6 _ (List.mem_of_getElem? (i := 37) rfl)) rfl
theorem wcode_1199 : Cond.code yX11_shares cX11_shares 5 (some .int) ∈ tb := tb_in (tj_6 _ (List.mem_of_getElem? (i := 170) rfl)) rfl
theorem wcode_1200 : Cond.code yX11_sleep cX11_sleep 3 (some .boolean) ∈ tb := tb_in (tj_6 _ (List.mem_of_getElem? (i := 178) rfl)) rfl
theorem wcode_1201 : Cond.code yX11_sleepers cX11_sleepers 3 (some .int) ∈ tb := tb_in (tj_6 _ (List.mem_of_getElem? (i := 140) rfl)) rfl
theorem wcode_1202 : Cond.code yX11_sleepsByRule cX11_sleepsByRule 2 none ∈ tb := tb_in (tj_6 _ (List.mem_of_getElem? (i := 124) rfl)) rfl
theorem wcode_1203 : Cond.code yX11_slept cX11_slept 8 (some .int) ∈ tb := tb_in (tj_7 _ (List.mem_of_getElem? (i := 22) rfl)) rfl
theorem wcode_1204 : Cond.code yX11_spite cX11_spite 5 (some .int) ∈ tb := tb_in (tj_7 _ (List.mem_of_getElem? (i := 73) rfl)) rfl
theorem wcode_1205 : Cond.code yX11_street cX11_street 2 (some .int) ∈ tb := tb_in (tj_6 _ (List.mem_of_getElem? (i := 50) rfl)) rfl
theorem wcode_1206 : Cond.code yX11_streetLineHere cX11_streetLineHere 2 (some .boolean) ∈ tb := tb_in (tj_5 _ (List.mem_of_getElem? (i := 163) rfl)) rfl
theorem wcode_1207 : Cond.code yX11_strength cX11_strength 1 (some .int) ∈ tb := tb_in (tj_6 _ (List.mem_of_getElem? (i := 40) rfl)) rfl
theorem wcode_1208 : Cond.code yX11_sum cX11_sum 2 (some .boolean) ∈ tb := tb_in (tj_5 _ (List.mem_of_getElem? (i := 214) rfl)) rfl
theorem wcode_1209 : Cond.code yX11_summedBy cX11_summedBy 4 (some .long) ∈ tb := tb_in (tj_6 _ (List.mem_of_getElem? (i := 151) rfl)) rfl
theorem wcode_1210 : Cond.code yX11_takesWord cX11_takesWord 3 (some .boolean) ∈ tb := tb_in (tj_6 _ (List.mem_of_getElem? (i := 12) rfl)) rfl
theorem wcode_1211 : Cond.code yX11_term cX11_term 2 (some .boolean) ∈ tb := tb_in (tj_5 _ (List.mem_of_getElem? (i := 218) rfl)) rfl
theorem wcode_1212 : Cond.code yX11_tested cX11_tested 3 (some .boolean) ∈ tb := tb_in (tj_6 _ (List.mem_of_getElem? (i := 16) rfl)) rfl
theorem wcode_1213 : Cond.code yX11_toldCost cX11_toldCost 4 (some .int) ∈ tb := tb_in (tj_7 _ (List.mem_of_getElem? (i := 51) rfl)) rfl
theorem wcode_1214 : Cond.code yX11_turned cX11_turned 6 (some .int) ∈ tb := tb_in (tj_7 _ (List.mem_of_getElem? (i := 67) rfl)) rfl
theorem wcode_1215 : Cond.code yX11_undo cX11_undo 2 (some .int) ∈ tb := tb_in (tj_6 _ (List.mem_of_getElem? (i := 96) rfl)) rfl
theorem wcode_1216 : Cond.code yX11_value cX11_value 3 (some .boolean) ∈ tb := tb_in (tj_5 _ (List.mem_of_getElem? (i := 222) rfl)) rfl
theorem wcode_1217 : Cond.code yX11_wakesWorkers cX11_wakesWorkers 2 none ∈ tb := tb_in (tj_6 _ (List.mem_of_getElem? (i := 116) rfl)) rfl
theorem wcode_1218 : Cond.code yX11_wordHere cX11_wordHere 1 (some .int) ∈ tb := tb_in (tj_5 _ (List.mem_of_getElem? (i := 235) rfl)) rfl
theorem wcode_1219 : Cond.code yX11_words cX11_words 2 none ∈ tb := tb_in (tj_6 _ (List.mem_of_getElem? (i := 128) rfl)) rfl
theorem wcode_1220 : Cond.code yX11_worksIn cX11_worksIn 5 (some .boolean) ∈ tb := tb_in (tj_6 _ (List.mem_of_getElem? (i := 75) rfl)) rfl
theorem wcode_1221 : Cond.code yX11_worksOne cX11_worksOne 4 (some .boolean) ∈ tb := tb_in (tj_6 _ (List.mem_of_getElem? (i := 222) rfl)) rfl
theorem wcode_1222 : Cond.code yX1_add cX1_add 5 (some .boolean) ∈ tb := tb_in (tj_4 _ (List.mem_of_getElem? (i := 135) rfl)) rfl
theorem wcode_1223 : Cond.code yX1_allow cX1_allow 3 (some .boolean) ∈ tb := tb_in (tj_4 _ (List.mem_of_getElem? (i := 143) rfl)) rfl
theorem wcode_1224 : Cond.code yX1_allows cX1_allows 5 (some .boolean) ∈ tb := tb_in (tj_4 _ (List.mem_of_getElem? (i := 147) rfl)) rfl
theorem wcode_1225 : Cond.code yX1_clear cX1_clear 1 none ∈ tb := tb_in (tj_3 _ (List.mem_of_getElem? (i := 72) rfl)) rfl
theorem wcode_1226 : Cond.code yX1_copyOf cX1_copyOf 2 none ∈ tb := tb_in (tj_4 _ (List.mem_of_getElem? (i := 228) rfl)) rfl
theorem wcode_1227 : Cond.code yX1_init cX1_init 1 none ∈ tb := tb_in (tj_1 _ (List.mem_of_getElem? (i := 231) rfl)) rfl
theorem wcode_1228 : Cond.code yX2_burningAt cX2_burningAt 3 (some .int) ∈ tb := tb_in (tj_3 _ (List.mem_of_getElem? (i := 180) rfl)) rfl
theorem wcode_1229 : Cond.code yX2_clear cX2_clear 2 none ∈ tb := tb_in (tj_3 _ (List.mem_of_getElem? (i := 68) rfl)) rfl
theorem wcode_1230 : Cond.code yX2_copyOf cX2_copyOf 2 none ∈ tb := tb_in (tj_3 _ (List.mem_of_getElem? (i := 204) rfl)) rfl
theorem wcode_1231 : Cond.code yX2_goOn cX2_goOn 4 none ∈ tb := tb_in (tj_4 _ (List.mem_of_getElem? (i := 26) rfl)) rfl
theorem wcode_1232 : Cond.code yX2_init cX2_init 1 none ∈ tb := tb_in (tj_1 _ (List.mem_of_getElem? (i := 187) rfl)) rfl
theorem wcode_1233 : Cond.code yX2_isLast cX2_isLast 2 (some .boolean) ∈ tb := tb_in (tj_3 _ (List.mem_of_getElem? (i := 196) rfl)) rfl
theorem wcode_1234 : Cond.code yX2_setLamp cX2_setLamp 4 none ∈ tb := tb_in (tj_4 _ (List.mem_of_getElem? (i := 40) rfl)) rfl
theorem wcode_1235 : Cond.code yX3_answer cX3_answer 10 (some .long) ∈ tb := tb_in (tj_3 _ (List.mem_of_getElem? (i := 220) rfl)) rfl
theorem wcode_1236 : Cond.code yX3_draw cX3_draw 9 (some .int) ∈ tb := tb_in (tj_4 _ (List.mem_of_getElem? (i := 205) rfl)) rfl
theorem wcode_1237 : Cond.code yX3_init cX3_init 1 none ∈ tb := tb_in (tj_2 _ (List.mem_of_getElem? (i := 60) rfl)) rfl
theorem wcode_1238 : Cond.code yX3_play cX3_play 6 (some .int) ∈ tb := tb_in (tj_3 _ (List.mem_of_getElem? (i := 214) rfl)) rfl
theorem wcode_1239 : Cond.code yX3_pop cX3_pop 1 (some .long) ∈ tb := tb_in (tj_4 _ (List.mem_of_getElem? (i := 8) rfl)) rfl
theorem wcode_1240 : Cond.code yX3_push cX3_push 3 none ∈ tb := tb_in (tj_3 _ (List.mem_of_getElem? (i := 224) rfl)) rfl
theorem wcode_1241 : Cond.code yX3_setAsleep cX3_setAsleep 4 none ∈ tb := tb_in (tj_4 _ (List.mem_of_getElem? (i := 14) rfl)) rfl
theorem wcode_1242 : Cond.code yX3_share cX3_share 4 none ∈ tb := tb_in (tj_4 _ (List.mem_of_getElem? (i := 18) rfl)) rfl
theorem wcode_1243 : Cond.code yX3_shareAmong cX3_shareAmong 4 (some .long) ∈ tb := tb_in (tj_4 _ (List.mem_of_getElem? (i := 22) rfl)) rfl
theorem wcode_1244 : Cond.code yX3_shareIfWakingPaid cX3_shareIfWakingPaid 3 (some .long) ∈ tb := tb_in (tj_4 _ (List.mem_of_getElem? (i := 188) rfl)) rfl
theorem wcode_1245 : Cond.code yX3_valueOf cX3_valueOf 5 (some .long) ∈ tb := tb_in (tj_3 _ (List.mem_of_getElem? (i := 227) rfl)) rfl
theorem wcode_1246 : Cond.code yX4_combine cX4_combine 5 (some .long) ∈ tb := tb_in (tj_4 _ (List.mem_of_getElem? (i := 11) rfl)) rfl
theorem wcode_1247 : Cond.code yX4_init cX4_init 4 none ∈ tb := tb_in (tj_3 _ (List.mem_of_getElem? (i := 130) rfl)) rfl
theorem wcode_1248 : Cond.code yX5_comparisonOf cX5_comparisonOf 1 (some .int) ∈ tb := tb_in (tj_3 _ (List.mem_of_getElem? (i := 121) rfl)) rfl
theorem wcode_1249 : Cond.code yX5_emit cX5_emit 2 (some .boolean) ∈ tb := tb_in (tj_3 _ (List.mem_of_getElem? (i := 103) rfl)) rfl
theorem wcode_1250 : Cond.code yX5_factorOf cX5_factorOf 1 (some .int) ∈ tb := tb_in (tj_3 _ (List.mem_of_getElem? (i := 106) rfl)) rfl
theorem wcode_1251 : Cond.code yX5_init cX5_init 2 none ∈ tb := tb_in (tj_1 _ (List.mem_of_getElem? (i := 97) rfl)) rfl
theorem wcode_1252 : Cond.code yX5_made cX5_made 1 (some (.object "SleepersPay$Rule")) ∈ tb := tb_in (tj_3 _ (List.mem_of_getElem? (i := 125) rfl)) rfl
theorem wcode_1253 : Cond.code yX5_readClause cX5_readClause 2 (some .boolean) ∈ tb := tb_in (tj_3 _ (List.mem_of_getElem? (i := 89) rfl)) rfl
theorem wcode_1254 : Cond.code yX5_readFact cX5_readFact 4 (some .boolean) ∈ tb := tb_in (tj_3 _ (List.mem_of_getElem? (i := 117) rfl)) rfl
theorem wcode_1255 : Cond.code yX5_readSum cX5_readSum 4 (some .boolean) ∈ tb := tb_in (tj_3 _ (List.mem_of_getElem? (i := 95) rfl)) rfl
theorem wcode_1256 : Cond.code yX5_readTest cX5_readTest 5 (some .boolean) ∈ tb := tb_in (tj_3 _ (List.mem_of_getElem? (i := 113) rfl)) rfl
theorem wcode_1257 : Cond.code yX5_readText cX5_readText 2 (some .int) ∈ tb := tb_in (tj_3 _ (List.mem_of_getElem? (i := 84) rfl)) rfl
theorem wcode_1258 : Cond.code yX5_readValue cX5_readValue 3 (some .boolean) ∈ tb := tb_in (tj_3 _ (List.mem_of_getElem? (i := 99) rfl)) rfl
theorem wcode_1259 : Cond.code yX5_summandOf cX5_summandOf 1 (some .int) ∈ tb := tb_in (tj_3 _ (List.mem_of_getElem? (i := 109) rfl)) rfl
theorem wcode_1260 : Cond.code yX6_copyOf cX6_copyOf 2 none ∈ tb := tb_in (tj_4 _ (List.mem_of_getElem? (i := 222) rfl)) rfl
theorem wcode_1261 : Cond.code yX6_init cX6_init 1 none ∈ tb := tb_in (tj_1 _ (List.mem_of_getElem? (i := 179) rfl)) rfl
theorem wcode_1262 : Cond.code yX7_addLamp cX7_addLamp 3 none ∈ tb := tb_in (tj_3 _ (List.mem_of_getElem? (i := 35) rfl)) rfl
theorem wcode_1263 : Cond.code yX7_addLit cX7_addLit 4 none ∈ tb := tb_in (tj_3 _ (List.mem_of_getElem? (i := 53) rfl)) rfl
theorem wcode_1264 : Cond.code yX7_addPerson cX7_addPerson 3 none ∈ tb := tb_in (tj_3 _ (List.mem_of_getElem? (i := 27) rfl)) rfl
theorem wcode_1265 : Cond.code yX7_addSpan cX7_addSpan 5 none ∈ tb := tb_in (tj_3 _ (List.mem_of_getElem? (i := 46) rfl)) rfl
theorem wcode_1266 : Cond.code yX7_addWork cX7_addWork 4 none ∈ tb := tb_in (tj_3 _ (List.mem_of_getElem? (i := 43) rfl)) rfl
theorem wcode_1267 : Cond.code yX7_clear cX7_clear 2 none ∈ tb := tb_in (tj_2 _ (List.mem_of_getElem? (i := 144) rfl)) rfl
theorem wcode_1268 : Cond.code yX7_copyOf cX7_copyOf 2 none ∈ tb := tb_in (tj_3 _ (List.mem_of_getElem? (i := 61) rfl)) rfl
theorem wcode_1269 : Cond.code yX7_costOf cX7_costOf 4 (some .int) ∈ tb := tb_in (tj_3 _ (List.mem_of_getElem? (i := 232) rfl)) rfl
theorem wcode_1270 : Cond.code yX7_everyone cX7_everyone 1 (some .int) ∈ tb := tb_in (tj_4 _ (List.mem_of_getElem? (i := 107) rfl)) rfl
theorem wcode_1271 : Cond.code yX7_init cX7_init 1 none ∈ tb := tb_in (tj_1 _ (List.mem_of_getElem? (i := 116) rfl)) rfl
theorem wcode_1272 : Cond.code yX7_isLamp cX7_isLamp 2 (some .boolean) ∈ tb := tb_in (tj_3 _ (List.mem_of_getElem? (i := 172) rfl)) rfl
theorem wcode_1273 : Cond.code yX7_isPerson cX7_isPerson 2 (some .boolean) ∈ tb := tb_in (tj_3 _ (List.mem_of_getElem? (i := 153) rfl)) rfl
theorem wcode_1274 : Cond.code yX7_isTold cX7_isTold 1 (some .boolean) ∈ tb := tb_in (tj_3 _ (List.mem_of_getElem? (i := 192) rfl)) rfl
theorem wcode_1275 : Cond.code yX7_lampsOf cX7_lampsOf 4 (some .int) ∈ tb := tb_in (tj_4 _ (List.mem_of_getElem? (i := 4) rfl)) rfl
theorem wcode_1276 : Cond.code yX7_litAt cX7_litAt 2 (some .int) ∈ tb := tb_in (tj_3 _ (List.mem_of_getElem? (i := 184) rfl)) rfl
theorem wcode_1277 : Cond.code yX7_workersAt cX7_workersAt 2 (some .int) ∈ tb := tb_in (tj_3 _ (List.mem_of_getElem? (i := 164) rfl)) rfl
theorem wcode_1278 : Cond.code yX8_init cX8_init 2 none ∈ tb := tb_in (tj_1 _ (List.mem_of_getElem? (i := 87) rfl)) rfl
theorem wcode_1279 : Cond.code yX8_isClause cX8_isClause 1 (some .boolean) ∈ tb := tb_in (tj_3 _ (List.mem_of_getElem? (i := 2) rfl)) rfl
theorem wcode_1280 : Cond.code yX8_isFull cX8_isFull 2 (some .boolean) ∈ tb := tb_in (tj_3 _ (List.mem_of_getElem? (i := 9) rfl)) rfl
theorem wcode_1281 : Cond.code yX8_readClause cX8_readClause 5 (some .boolean) ∈ tb := tb_in (tj_2 _ (List.mem_of_getElem? (i := 239) rfl)) rfl
theorem wcode_1282 : Cond.code yX8_readHours cX8_readHours 3 (some .boolean) ∈ tb := tb_in (tj_3 _ (List.mem_of_getElem? (i := 14) rfl)) rfl
theorem wcode_1283 : Cond.code yX8_readInto cX8_readInto 3 (some .int) ∈ tb := tb_in (tj_2 _ (List.mem_of_getElem? (i := 140) rfl)) rfl
theorem wcode_1284 : Cond.code yX8_readLamp cX8_readLamp 5 (some .boolean) ∈ tb := tb_in (tj_3 _ (List.mem_of_getElem? (i := 31) rfl)) rfl
theorem wcode_1285 : Cond.code yX8_readPerson cX8_readPerson 4 (some .boolean) ∈ tb := tb_in (tj_3 _ (List.mem_of_getElem? (i := 23) rfl)) rfl
theorem wcode_1286 : Cond.code yX8_readSpan cX8_readSpan 7 (some .boolean) ∈ tb := tb_in (tj_3 _ (List.mem_of_getElem? (i := 39) rfl)) rfl
theorem wcode_1287 : Cond.code yX9_add cX9_add 4 none ∈ tb := tb_in (tj_2 _ (List.mem_of_getElem? (i := 167) rfl)) rfl
theorem wcode_1288 : Cond.code yX9_append cX9_append 3 none ∈ tb := tb_in (tj_2 _ (List.mem_of_getElem? (i := 128) rfl)) rfl
theorem wcode_1289 : Cond.code yX9_byteAt cX9_byteAt 2 (some .int) ∈ tb := tb_in (tj_2 _ (List.mem_of_getElem? (i := 156) rfl)) rfl
theorem wcode_1290 : Cond.code yX9_hasRoom cX9_hasRoom 2 (some .boolean) ∈ tb := tb_in (tj_2 _ (List.mem_of_getElem? (i := 124) rfl)) rfl
theorem wcode_1291 : Cond.code yX9_init cX9_init 1 none ∈ tb := tb_in (tj_1 _ (List.mem_of_getElem? (i := 32) rfl)) rfl
theorem wcode_1292 : Cond.code yX9_isDigit cX9_isDigit 1 (some .boolean) ∈ tb := tb_in (tj_2 _ (List.mem_of_getElem? (i := 159) rfl)) rfl
theorem wcode_1293 : Cond.code yX9_isSame cX9_isSame 5 (some .boolean) ∈ tb := tb_in (tj_2 _ (List.mem_of_getElem? (i := 231) rfl)) rfl
theorem wcode_1294 : Cond.code yX9_isSmall cX9_isSmall 1 (some .boolean) ∈ tb := tb_in (tj_2 _ (List.mem_of_getElem? (i := 170) rfl)) rfl
theorem wcode_1295 : Cond.code yX9_open cX9_open 3 none ∈ tb := tb_in (tj_2 _ (List.mem_of_getElem? (i := 148) rfl)) rfl
theorem wcode_1296 : Cond.code yX9_refuse cX9_refuse 3 (some .boolean) ∈ tb := tb_in (tj_3 _ (List.mem_of_getElem? (i := 6) rfl)) rfl
theorem wcode_1297 : Cond.code yX9_splitAt cX9_splitAt 4 (some .int) ∈ tb := tb_in (tj_2 _ (List.mem_of_getElem? (i := 152) rfl)) rfl
theorem wcode_1298 : Cond.code yX9_splitNumber cX9_splitNumber 4 (some .int) ∈ tb := tb_in (tj_2 _ (List.mem_of_getElem? (i := 163) rfl)) rfl
theorem wcode_1299 : Cond.code yX9_splitWord cX9_splitWord 3 (some .int) ∈ tb := tb_in (tj_2 _ (List.mem_of_getElem? (i := 174) rfl)) rfl
theorem wcode_1300 : Cond.code yX9_step cX9_step 2 none ∈ tb := tb_in (tj_2 _ (List.mem_of_getElem? (i := 235) rfl)) rfl
theorem wcode_1301 : Cond.code yX9_takeNumber cX9_takeNumber 4 (some .int) ∈ tb := tb_in (tj_3 _ (List.mem_of_getElem? (i := 18) rfl)) rfl
theorem wcode_1302 : Cond.code yX9_takeSign cX9_takeSign 2 (some .boolean) ∈ tb := tb_in (tj_3 _ (List.mem_of_getElem? (i := 57) rfl)) rfl
theorem wcode_1303 : Cond.code yX9_wordBetween cX9_wordBetween 6 (some .int) ∈ tb := tb_in (tj_2 _ (List.mem_of_getElem? (i := 178) rfl)) rfl
theorem mo_J0_charAt_5068e : MO yJ0_charAt_5068e cJ0_charAt_5068e 2 (some .char) 1 := ⟨wcode_1040, wini_1041, by decide +kernel⟩
theorem mo_J0_checkIndex_df160 : MO yJ0_checkIndex_df160 cJ0_checkIndex_df160 2 none 2 := ⟨wcode_1042, wini_1041, by decide +kernel⟩
theorem mo_J0_coder_7d493 : MO yJ0_coder_7d493 cJ0_coder_7d493 1 (some .byte) 0 := ⟨wcode_1043, wini_1041, by decide +kernel⟩
theorem mo_J0_isLatin1_aae02 : MO yJ0_isLatin1_aae02 cJ0_isLatin1_aae02 1 (some .boolean) 0 := ⟨wcode_1044, wini_1041, by decide +kernel⟩
theorem mo_J0_length_8abf5 : MO yJ0_length_8abf5 cJ0_length_8abf5 1 (some .int) 0 := ⟨wcode_1045, wini_1041, by decide +kernel⟩
theorem mo_J1_charAt_3b067 : MO yJ1_charAt_3b067 cJ1_charAt_3b067 2 (some .char) 2 := ⟨wcode_1046, wini_1047, by decide +kernel⟩
theorem mo_J3_checkIndex_8e157 : MO yJ3_checkIndex_8e157 cJ3_checkIndex_8e157 3 (some .int) 3 := ⟨wcode_1048, wini_1049, by decide +kernel⟩
theorem mo_J6_bitCount_0f7a4 : MO yJ6_bitCount_0f7a4 cJ6_bitCount_0f7a4 1 (some .int) 1 := ⟨wcode_1050, wini_1051, by decide +kernel⟩
theorem mo_J9_abs_067f4 : MO yJ9_abs_067f4 cJ9_abs_067f4 2 (some .long) 1 := ⟨wcode_1052, wini_1053, by decide +kernel⟩
theorem mo_J9_floorMod_7cf53 : MO yJ9_floorMod_7cf53 cJ9_floorMod_7cf53 3 (some .int) 2 := ⟨wcode_1054, wini_1053, by decide +kernel⟩
theorem mo_J9_max_7cf53 : MO yJ9_max_7cf53 cJ9_max_7cf53 2 (some .int) 2 := ⟨wcode_1055, wini_1053, by decide +kernel⟩
theorem mo_J9_min_7cf53 : MO yJ9_min_7cf53 cJ9_min_7cf53 2 (some .int) 2 := ⟨wcode_1056, wini_1053, by decide +kernel⟩
theorem mo_X0_clear : MO yX0_clear cX0_clear 1 none 0 := ⟨wcode_1057, wini_692, by decide +kernel⟩
theorem mo_X0_init : MO yX0_init cX0_init 2 none 0 := ⟨wcode_1058, wini_692, by decide +kernel⟩
theorem mo_X0_keep : MO yX0_keep cX0_keep 2 none 1 := ⟨wcode_1059, wini_692, by decide +kernel⟩
theorem mo_X0_takeBack : MO yX0_takeBack cX0_takeBack 2 (some .boolean) 1 := ⟨wcode_1060, wini_692, by decide +kernel⟩
theorem mo_X10_ahead : MO yX10_ahead cX10_ahead 4 (some .int) 3 := ⟨wcode_1061, wini_864, by decide +kernel⟩
theorem mo_X10_allCouldSleep : MO yX10_allCouldSleep cX10_allCouldSleep 6 (some .boolean) 1 := ⟨wcode_1062, wini_864, by decide +kernel⟩
theorem mo_X10_ask : MO yX10_ask cX10_ask 8 (some .int) 1 := ⟨wcode_1063, wini_864, by decide +kernel⟩
theorem mo_X10_back : MO yX10_back cX10_back 2 (some .int) 1 := ⟨wcode_1064, wini_864, by decide +kernel⟩
theorem mo_X10_bitOf : MO yX10_bitOf cX10_bitOf 2 (some .int) 2 := ⟨wcode_1065, wini_864, by decide +kernel⟩
theorem mo_X10_burningNow : MO yX10_burningNow cX10_burningNow 1 (some .int) 0 := ⟨wcode_1066, wini_864, by decide +kernel⟩
theorem mo_X10_cheap : MO yX10_cheap cX10_cheap 4 (some .int) 3 := ⟨wcode_1067, wini_864, by decide +kernel⟩
theorem mo_X10_cheapestHours : MO yX10_cheapestHours cX10_cheapestHours 8 (some .int) 2 := ⟨wcode_1068, wini_864, by decide +kernel⟩
theorem mo_X10_costOfHours : MO yX10_costOfHours cX10_costOfHours 4 (some .int) 1 := ⟨wcode_1069, wini_864, by decide +kernel⟩
theorem mo_X10_count : MO yX10_count cX10_count 2 (some .int) 1 := ⟨wcode_1070, wini_864, by decide +kernel⟩
theorem mo_X10_dark : MO yX10_dark cX10_dark 6 (some .int) 1 := ⟨wcode_1071, wini_864, by decide +kernel⟩
theorem mo_X10_debtorRow : MO yX10_debtorRow cX10_debtorRow 1 (some .int) 1 := ⟨wcode_1072, wini_864, by decide +kernel⟩
theorem mo_X10_end : MO yX10_end cX10_end 2 (some .int) 1 := ⟨wcode_1073, wini_864, by decide +kernel⟩
theorem mo_X10_evenCost : MO yX10_evenCost cX10_evenCost 6 (some .int) 2 := ⟨wcode_1074, wini_864, by decide +kernel⟩
theorem mo_X10_fact : MO yX10_fact cX10_fact 5 (some .int) 4 := ⟨wcode_1075, wini_864, by decide +kernel⟩
theorem mo_X10_feed : MO yX10_feed cX10_feed 6 (some .int) 5 := ⟨wcode_1076, wini_864, by decide +kernel⟩
theorem mo_X10_force : MO yX10_force cX10_force 3 (some .int) 1 := ⟨wcode_1077, wini_864, by decide +kernel⟩
theorem mo_X10_fraction : MO yX10_fraction cX10_fraction 12 (some .int) 3 := ⟨wcode_1078, wini_864, by decide +kernel⟩
theorem mo_X10_guild : MO yX10_guild cX10_guild 4 (some .int) 3 := ⟨wcode_1079, wini_864, by decide +kernel⟩
theorem mo_X10_hour : MO yX10_hour cX10_hour 1 (some .int) 0 := ⟨wcode_1080, wini_864, by decide +kernel⟩
theorem mo_X10_image : MO yX10_image cX10_image 2 (some .int) 1 := ⟨wcode_1081, wini_864, by decide +kernel⟩
theorem mo_X10_init : MO yX10_init cX10_init 2 none 0 := ⟨wcode_1082, wini_864, by decide +kernel⟩
theorem mo_X10_isAtRest : MO yX10_isAtRest cX10_isAtRest 7 (some .boolean) 3 := ⟨wcode_1083, wini_864, by decide +kernel⟩
theorem mo_X10_isDebtor : MO yX10_isDebtor cX10_isDebtor 2 (some .boolean) 1 := ⟨wcode_1084, wini_864, by decide +kernel⟩
theorem mo_X10_isFact : MO yX10_isFact cX10_isFact 5 (some .boolean) 4 := ⟨wcode_1085, wini_864, by decide +kernel⟩
theorem mo_X10_isPart : MO yX10_isPart cX10_isPart 1 (some .boolean) 1 := ⟨wcode_1086, wini_864, by decide +kernel⟩
theorem mo_X10_isSpan : MO yX10_isSpan cX10_isSpan 1 (some .boolean) 1 := ⟨wcode_1087, wini_864, by decide +kernel⟩
theorem mo_X10_lamp : MO yX10_lamp cX10_lamp 3 (some .int) 2 := ⟨wcode_1088, wini_864, by decide +kernel⟩
theorem mo_X10_light : MO yX10_light cX10_light 4 (some .boolean) 2 := ⟨wcode_1089, wini_864, by decide +kernel⟩
theorem mo_X10_lives : MO yX10_lives cX10_lives 11 (some .int) 4 := ⟨wcode_1090, wini_864, by decide +kernel⟩
theorem mo_X10_nights : MO yX10_nights cX10_nights 7 (some .int) 4 := ⟨wcode_1091, wini_864, by decide +kernel⟩
theorem mo_X10_owed : MO yX10_owed cX10_owed 3 (some .int) 2 := ⟨wcode_1092, wini_864, by decide +kernel⟩
theorem mo_X10_person : MO yX10_person cX10_person 3 (some .int) 2 := ⟨wcode_1093, wini_864, by decide +kernel⟩
theorem mo_X10_playTrial : MO yX10_playTrial cX10_playTrial 3 none 1 := ⟨wcode_1094, wini_864, by decide +kernel⟩
theorem mo_X10_priceNight : MO yX10_priceNight cX10_priceNight 6 (some .int) 1 := ⟨wcode_1095, wini_864, by decide +kernel⟩
theorem mo_X10_rest : MO yX10_rest cX10_rest 8 (some .int) 1 := ⟨wcode_1096, wini_864, by decide +kernel⟩
theorem mo_X10_rule : MO yX10_rule cX10_rule 2 (some .int) 0 := ⟨wcode_1097, wini_864, by decide +kernel⟩
theorem mo_X10_ruleNow : MO yX10_ruleNow cX10_ruleNow 2 (some (.object "SleepersPay$Rule")) 0 := ⟨wcode_1098, wini_864, by decide +kernel⟩
theorem mo_X10_seed : MO yX10_seed cX10_seed 3 (some .int) 1 := ⟨wcode_1099, wini_864, by decide +kernel⟩
theorem mo_X10_setsWith : MO yX10_setsWith cX10_setsWith 4 (some .int) 1 := ⟨wcode_1100, wini_864, by decide +kernel⟩
theorem mo_X10_sleep : MO yX10_sleep cX10_sleep 5 (some .boolean) 2 := ⟨wcode_1101, wini_864, by decide +kernel⟩
theorem mo_X10_sleepInNight : MO yX10_sleepInNight cX10_sleepInNight 11 (some .int) 4 := ⟨wcode_1102, wini_864, by decide +kernel⟩
theorem mo_X10_sleepTogether : MO yX10_sleepTogether cX10_sleepTogether 8 (some .int) 3 := ⟨wcode_1103, wini_864, by decide +kernel⟩
theorem mo_X10_slept : MO yX10_slept cX10_slept 7 (some .int) 1 := ⟨wcode_1104, wini_864, by decide +kernel⟩
theorem mo_X10_spite : MO yX10_spite cX10_spite 8 (some .int) 4 := ⟨wcode_1105, wini_864, by decide +kernel⟩
theorem mo_X10_street : MO yX10_street cX10_street 2 (some .int) 0 := ⟨wcode_1106, wini_864, by decide +kernel⟩
theorem mo_X10_turned : MO yX10_turned cX10_turned 8 (some .int) 3 := ⟨wcode_1107, wini_864, by decide +kernel⟩
theorem mo_X10_undo : MO yX10_undo cX10_undo 1 (some .int) 0 := ⟨wcode_1108, wini_864, by decide +kernel⟩
theorem mo_X10_workersNow : MO yX10_workersNow cX10_workersNow 1 (some .int) 0 := ⟨wcode_1109, wini_864, by decide +kernel⟩
theorem mo_X11_ahead : MO yX11_ahead cX11_ahead 5 (some .int) 3 := ⟨wcode_1110, wini_869, by decide +kernel⟩
theorem mo_X11_ask : MO yX11_ask cX11_ask 8 (some .int) 1 := ⟨wcode_1111, wini_869, by decide +kernel⟩
theorem mo_X11_back : MO yX11_back cX11_back 3 (some .int) 1 := ⟨wcode_1112, wini_869, by decide +kernel⟩
theorem mo_X11_bits : MO yX11_bits cX11_bits 3 (some .int) 1 := ⟨wcode_1113, wini_869, by decide +kernel⟩
theorem mo_X11_burning : MO yX11_burning cX11_burning 3 (some .int) 0 := ⟨wcode_1114, wini_869, by decide +kernel⟩
theorem mo_X11_burnsIn : MO yX11_burnsIn cX11_burnsIn 4 (some .boolean) 2 := ⟨wcode_1115, wini_869, by decide +kernel⟩
theorem mo_X11_cellHere : MO yX11_cellHere cX11_cellHere 4 (some .boolean) 3 := ⟨wcode_1116, wini_869, by decide +kernel⟩
theorem mo_X11_cheap : MO yX11_cheap cX11_cheap 4 (some .int) 3 := ⟨wcode_1117, wini_869, by decide +kernel⟩
theorem mo_X11_cheapest : MO yX11_cheapest cX11_cheapest 5 (some .int) 3 := ⟨wcode_1118, wini_869, by decide +kernel⟩
theorem mo_X11_clauseHere : MO yX11_clauseHere cX11_clauseHere 3 (some .boolean) 0 := ⟨wcode_1119, wini_869, by decide +kernel⟩
theorem mo_X11_closes : MO yX11_closes cX11_closes 1 none 0 := ⟨wcode_1120, wini_869, by decide +kernel⟩
theorem mo_X11_compare : MO yX11_compare cX11_compare 5 (some .boolean) 0 := ⟨wcode_1121, wini_869, by decide +kernel⟩
theorem mo_X11_costBy : MO yX11_costBy cX11_costBy 5 (some .int) 4 := ⟨wcode_1122, wini_869, by decide +kernel⟩
theorem mo_X11_costIn : MO yX11_costIn cX11_costIn 4 (some .int) 1 := ⟨wcode_1123, wini_869, by decide +kernel⟩
theorem mo_X11_costOf : MO yX11_costOf cX11_costOf 2 (some .int) 1 := ⟨wcode_1124, wini_869, by decide +kernel⟩
theorem mo_X11_count : MO yX11_count cX11_count 2 (some .int) 1 := ⟨wcode_1125, wini_869, by decide +kernel⟩
theorem mo_X11_dark : MO yX11_dark cX11_dark 5 (some .int) 1 := ⟨wcode_1126, wini_869, by decide +kernel⟩
theorem mo_X11_divisor : MO yX11_divisor cX11_divisor 5 (some .int) 2 := ⟨wcode_1127, wini_869, by decide +kernel⟩
theorem mo_X11_draw : MO yX11_draw cX11_draw 2 (some .int) 1 := ⟨wcode_1128, wini_869, by decide +kernel⟩
theorem mo_X11_end : MO yX11_end cX11_end 2 (some .int) 1 := ⟨wcode_1129, wini_869, by decide +kernel⟩
theorem mo_X11_endsNight : MO yX11_endsNight cX11_endsNight 4 none 0 := ⟨wcode_1130, wini_869, by decide +kernel⟩
theorem mo_X11_fact : MO yX11_fact cX11_fact 3 (some .boolean) 0 := ⟨wcode_1131, wini_869, by decide +kernel⟩
theorem mo_X11_fact_ : MO yX11_fact_ cX11_fact_ 7 (some .int) 4 := ⟨wcode_1132, wini_869, by decide +kernel⟩
theorem mo_X11_fails : MO yX11_fails cX11_fails 3 (some .boolean) 2 := ⟨wcode_1133, wini_869, by decide +kernel⟩
theorem mo_X11_feed : MO yX11_feed cX11_feed 6 (some .int) 5 := ⟨wcode_1134, wini_869, by decide +kernel⟩
theorem mo_X11_fillsLeast : MO yX11_fillsLeast cX11_fillsLeast 8 none 2 := ⟨wcode_1135, wini_869, by decide +kernel⟩
theorem mo_X11_fillsNight : MO yX11_fillsNight cX11_fillsNight 6 none 1 := ⟨wcode_1136, wini_869, by decide +kernel⟩
theorem mo_X11_findsCheap : MO yX11_findsCheap cX11_findsCheap 7 none 2 := ⟨wcode_1137, wini_869, by decide +kernel⟩
theorem mo_X11_fitsFacts : MO yX11_fitsFacts cX11_fitsFacts 3 (some .boolean) 1 := ⟨wcode_1138, wini_869, by decide +kernel⟩
theorem mo_X11_force : MO yX11_force cX11_force 3 (some .int) 1 := ⟨wcode_1139, wini_869, by decide +kernel⟩
theorem mo_X11_four : MO yX11_four cX11_four 3 none 1 := ⟨wcode_1140, wini_869, by decide +kernel⟩
theorem mo_X11_fraction : MO yX11_fraction cX11_fraction 4 (some .int) 3 := ⟨wcode_1141, wini_869, by decide +kernel⟩
theorem mo_X11_guild : MO yX11_guild cX11_guild 4 (some .int) 3 := ⟨wcode_1142, wini_869, by decide +kernel⟩
theorem mo_X11_hour : MO yX11_hour cX11_hour 1 (some .int) 0 := ⟨wcode_1143, wini_869, by decide +kernel⟩
theorem mo_X11_idle : MO yX11_idle cX11_idle 3 (some .int) 0 := ⟨wcode_1144, wini_869, by decide +kernel⟩
theorem mo_X11_image : MO yX11_image cX11_image 3 (some .int) 1 := ⟨wcode_1145, wini_869, by decide +kernel⟩
theorem mo_X11_in : MO yX11_in cX11_in 6 (some .boolean) 3 := ⟨wcode_1146, wini_869, by decide +kernel⟩
theorem mo_X11_init : MO yX11_init cX11_init 1 none 0 := ⟨wcode_1147, wini_869, by decide +kernel⟩
theorem mo_X11_isDarkEnough : MO yX11_isDarkEnough cX11_isDarkEnough 5 (some .boolean) 1 := ⟨wcode_1148, wini_869, by decide +kernel⟩
theorem mo_X11_isDigit : MO yX11_isDigit cX11_isDigit 2 (some .boolean) 1 := ⟨wcode_1149, wini_869, by decide +kernel⟩
theorem mo_X11_isFactSo : MO yX11_isFactSo cX11_isFactSo 5 (some .boolean) 2 := ⟨wcode_1150, wini_869, by decide +kernel⟩
theorem mo_X11_isInside : MO yX11_isInside cX11_isInside 2 (some .boolean) 0 := ⟨wcode_1151, wini_869, by decide +kernel⟩
theorem mo_X11_isLamp : MO yX11_isLamp cX11_isLamp 2 (some .boolean) 1 := ⟨wcode_1152, wini_869, by decide +kernel⟩
theorem mo_X11_isLampHere : MO yX11_isLampHere cX11_isLampHere 4 (some .boolean) 1 := ⟨wcode_1153, wini_869, by decide +kernel⟩
theorem mo_X11_isLetter : MO yX11_isLetter cX11_isLetter 2 (some .boolean) 1 := ⟨wcode_1154, wini_869, by decide +kernel⟩
theorem mo_X11_isLitHere : MO yX11_isLitHere cX11_isLitHere 2 (some .boolean) 1 := ⟨wcode_1155, wini_869, by decide +kernel⟩
theorem mo_X11_isLitIn : MO yX11_isLitIn cX11_isLitIn 5 (some .boolean) 2 := ⟨wcode_1156, wini_869, by decide +kernel⟩
theorem mo_X11_isOf : MO yX11_isOf cX11_isOf 2 (some .boolean) 2 := ⟨wcode_1157, wini_869, by decide +kernel⟩
theorem mo_X11_isPerson : MO yX11_isPerson cX11_isPerson 2 (some .boolean) 1 := ⟨wcode_1158, wini_869, by decide +kernel⟩
theorem mo_X11_isPersonHere : MO yX11_isPersonHere cX11_isPersonHere 4 (some .boolean) 1 := ⟨wcode_1159, wini_869, by decide +kernel⟩
theorem mo_X11_isRest : MO yX11_isRest cX11_isRest 7 (some .boolean) 1 := ⟨wcode_1160, wini_869, by decide +kernel⟩
theorem mo_X11_isRule : MO yX11_isRule cX11_isRule 2 (some .boolean) 1 := ⟨wcode_1161, wini_869, by decide +kernel⟩
theorem mo_X11_isSleepHere : MO yX11_isSleepHere cX11_isSleepHere 2 (some .boolean) 0 := ⟨wcode_1162, wini_869, by decide +kernel⟩
theorem mo_X11_isSpanHere : MO yX11_isSpanHere cX11_isSpanHere 3 (some .boolean) 2 := ⟨wcode_1163, wini_869, by decide +kernel⟩
theorem mo_X11_isStreet : MO yX11_isStreet cX11_isStreet 1 (some .boolean) 0 := ⟨wcode_1164, wini_869, by decide +kernel⟩
theorem mo_X11_isStreetHere : MO yX11_isStreetHere cX11_isStreetHere 2 (some .boolean) 1 := ⟨wcode_1165, wini_869, by decide +kernel⟩
theorem mo_X11_isStreetWord : MO yX11_isStreetWord cX11_isStreetWord 1 (some .boolean) 0 := ⟨wcode_1166, wini_869, by decide +kernel⟩
theorem mo_X11_isWord : MO yX11_isWord cX11_isWord 6 (some .boolean) 1 := ⟨wcode_1167, wini_869, by decide +kernel⟩
theorem mo_X11_isWorkHere : MO yX11_isWorkHere cX11_isWorkHere 2 (some .boolean) 1 := ⟨wcode_1168, wini_869, by decide +kernel⟩
theorem mo_X11_keeps : MO yX11_keeps cX11_keeps 2 none 0 := ⟨wcode_1169, wini_869, by decide +kernel⟩
theorem mo_X11_keepsAct : MO yX11_keepsAct cX11_keepsAct 2 none 0 := ⟨wcode_1170, wini_869, by decide +kernel⟩
theorem mo_X11_lamp : MO yX11_lamp cX11_lamp 3 (some .int) 2 := ⟨wcode_1171, wini_869, by decide +kernel⟩
theorem mo_X11_laysBack : MO yX11_laysBack cX11_laysBack 2 none 0 := ⟨wcode_1172, wini_869, by decide +kernel⟩
theorem mo_X11_leastOf : MO yX11_leastOf cX11_leastOf 3 (some .int) 2 := ⟨wcode_1173, wini_869, by decide +kernel⟩
theorem mo_X11_light : MO yX11_light cX11_light 3 (some .boolean) 2 := ⟨wcode_1174, wini_869, by decide +kernel⟩
theorem mo_X11_lives : MO yX11_lives cX11_lives 11 (some .int) 4 := ⟨wcode_1175, wini_869, by decide +kernel⟩
theorem mo_X11_makes : MO yX11_makes cX11_makes 2 (some .boolean) 1 := ⟨wcode_1176, wini_869, by decide +kernel⟩
theorem mo_X11_nights : MO yX11_nights cX11_nights 8 (some .int) 4 := ⟨wcode_1177, wini_869, by decide +kernel⟩
theorem mo_X11_numberHere : MO yX11_numberHere cX11_numberHere 5 (some .boolean) 2 := ⟨wcode_1178, wini_869, by decide +kernel⟩
theorem mo_X11_one : MO yX11_one cX11_one 5 (some .long) 3 := ⟨wcode_1179, wini_869, by decide +kernel⟩
theorem mo_X11_opens : MO yX11_opens cX11_opens 2 (some .boolean) 1 := ⟨wcode_1180, wini_869, by decide +kernel⟩
theorem mo_X11_owed : MO yX11_owed cX11_owed 3 (some .int) 2 := ⟨wcode_1181, wini_869, by decide +kernel⟩
theorem mo_X11_owedHeld : MO yX11_owedHeld cX11_owedHeld 6 (some .int) 4 := ⟨wcode_1182, wini_869, by decide +kernel⟩
theorem mo_X11_ownCost : MO yX11_ownCost cX11_ownCost 4 (some .int) 1 := ⟨wcode_1183, wini_869, by decide +kernel⟩
theorem mo_X11_passWord : MO yX11_passWord cX11_passWord 1 none 0 := ⟨wcode_1184, wini_869, by decide +kernel⟩
theorem mo_X11_passes : MO yX11_passes cX11_passes 1 (some .int) 0 := ⟨wcode_1185, wini_869, by decide +kernel⟩
theorem mo_X11_person : MO yX11_person cX11_person 3 (some .int) 2 := ⟨wcode_1186, wini_869, by decide +kernel⟩
theorem mo_X11_personOf : MO yX11_personOf cX11_personOf 3 (some .int) 2 := ⟨wcode_1187, wini_869, by decide +kernel⟩
theorem mo_X11_pop : MO yX11_pop cX11_pop 1 (some .long) 0 := ⟨wcode_1188, wini_869, by decide +kernel⟩
theorem mo_X11_push : MO yX11_push cX11_push 3 none 1 := ⟨wcode_1189, wini_869, by decide +kernel⟩
theorem mo_X11_puts : MO yX11_puts cX11_puts 3 none 2 := ⟨wcode_1190, wini_869, by decide +kernel⟩
theorem mo_X11_readsAll : MO yX11_readsAll cX11_readsAll 2 (some .boolean) 0 := ⟨wcode_1191, wini_869, by decide +kernel⟩
theorem mo_X11_reckons : MO yX11_reckons cX11_reckons 11 (some .long) 3 := ⟨wcode_1192, wini_869, by decide +kernel⟩
theorem mo_X11_rest : MO yX11_rest cX11_rest 6 (some .int) 1 := ⟨wcode_1193, wini_869, by decide +kernel⟩
theorem mo_X11_rule : MO yX11_rule cX11_rule 1 (some .int) 0 := ⟨wcode_1194, wini_869, by decide +kernel⟩
theorem mo_X11_see : MO yX11_see cX11_see 1 (some .int) 0 := ⟨wcode_1195, wini_869, by decide +kernel⟩
theorem mo_X11_seed : MO yX11_seed cX11_seed 3 (some .int) 1 := ⟨wcode_1196, wini_869, by decide +kernel⟩
theorem mo_X11_setsAsleep : MO yX11_setsAsleep cX11_setsAsleep 3 none 2 := ⟨wcode_1197, wini_869, by decide +kernel⟩
theorem mo_X11_settles : MO yX11_settles cX11_settles 2 none 1 := ⟨wcode_1198, wini_869, by decide +kernel⟩
theorem mo_X11_shares : MO yX11_shares cX11_shares 5 (some .int) 0 := ⟨wcode_1199, wini_869, by decide +kernel⟩
theorem mo_X11_sleep : MO yX11_sleep cX11_sleep 3 (some .boolean) 2 := ⟨wcode_1200, wini_869, by decide +kernel⟩
theorem mo_X11_sleepers : MO yX11_sleepers cX11_sleepers 3 (some .int) 0 := ⟨wcode_1201, wini_869, by decide +kernel⟩
theorem mo_X11_sleepsByRule : MO yX11_sleepsByRule cX11_sleepsByRule 2 none 0 := ⟨wcode_1202, wini_869, by decide +kernel⟩
theorem mo_X11_slept : MO yX11_slept cX11_slept 8 (some .int) 1 := ⟨wcode_1203, wini_869, by decide +kernel⟩
theorem mo_X11_spite : MO yX11_spite cX11_spite 5 (some .int) 4 := ⟨wcode_1204, wini_869, by decide +kernel⟩
theorem mo_X11_street : MO yX11_street cX11_street 2 (some .int) 0 := ⟨wcode_1205, wini_869, by decide +kernel⟩
theorem mo_X11_streetLineHere : MO yX11_streetLineHere cX11_streetLineHere 2 (some .boolean) 1 := ⟨wcode_1206, wini_869, by decide +kernel⟩
theorem mo_X11_strength : MO yX11_strength cX11_strength 1 (some .int) 1 := ⟨wcode_1207, wini_869, by decide +kernel⟩
theorem mo_X11_sum : MO yX11_sum cX11_sum 2 (some .boolean) 0 := ⟨wcode_1208, wini_869, by decide +kernel⟩
theorem mo_X11_summedBy : MO yX11_summedBy cX11_summedBy 4 (some .long) 1 := ⟨wcode_1209, wini_869, by decide +kernel⟩
theorem mo_X11_takesWord : MO yX11_takesWord cX11_takesWord 3 (some .boolean) 1 := ⟨wcode_1210, wini_869, by decide +kernel⟩
theorem mo_X11_term : MO yX11_term cX11_term 2 (some .boolean) 0 := ⟨wcode_1211, wini_869, by decide +kernel⟩
theorem mo_X11_tested : MO yX11_tested cX11_tested 3 (some .boolean) 0 := ⟨wcode_1212, wini_869, by decide +kernel⟩
theorem mo_X11_toldCost : MO yX11_toldCost cX11_toldCost 4 (some .int) 1 := ⟨wcode_1213, wini_869, by decide +kernel⟩
theorem mo_X11_turned : MO yX11_turned cX11_turned 6 (some .int) 3 := ⟨wcode_1214, wini_869, by decide +kernel⟩
theorem mo_X11_undo : MO yX11_undo cX11_undo 2 (some .int) 0 := ⟨wcode_1215, wini_869, by decide +kernel⟩
theorem mo_X11_value : MO yX11_value cX11_value 3 (some .boolean) 0 := ⟨wcode_1216, wini_869, by decide +kernel⟩
theorem mo_X11_wakesWorkers : MO yX11_wakesWorkers cX11_wakesWorkers 2 none 0 := ⟨wcode_1217, wini_869, by decide +kernel⟩
theorem mo_X11_wordHere : MO yX11_wordHere cX11_wordHere 1 (some .int) 0 := ⟨wcode_1218, wini_869, by decide +kernel⟩
theorem mo_X11_words : MO yX11_words cX11_words 2 none 1 := ⟨wcode_1219, wini_869, by decide +kernel⟩
theorem mo_X11_worksIn : MO yX11_worksIn cX11_worksIn 5 (some .boolean) 2 := ⟨wcode_1220, wini_869, by decide +kernel⟩
theorem mo_X11_worksOne : MO yX11_worksOne cX11_worksOne 4 (some .boolean) 2 := ⟨wcode_1221, wini_869, by decide +kernel⟩
theorem mo_X1_add : MO yX1_add cX1_add 5 (some .boolean) 4 := ⟨wcode_1222, wini_585, by decide +kernel⟩
theorem mo_X1_allow : MO yX1_allow cX1_allow 3 (some .boolean) 1 := ⟨wcode_1223, wini_585, by decide +kernel⟩
theorem mo_X1_allows : MO yX1_allows cX1_allows 5 (some .boolean) 2 := ⟨wcode_1224, wini_585, by decide +kernel⟩
theorem mo_X1_clear : MO yX1_clear cX1_clear 1 none 0 := ⟨wcode_1225, wini_585, by decide +kernel⟩
theorem mo_X1_copyOf : MO yX1_copyOf cX1_copyOf 2 none 1 := ⟨wcode_1226, wini_585, by decide +kernel⟩
theorem mo_X1_init : MO yX1_init cX1_init 1 none 0 := ⟨wcode_1227, wini_585, by decide +kernel⟩
theorem mo_X2_burningAt : MO yX2_burningAt cX2_burningAt 3 (some .int) 2 := ⟨wcode_1228, wini_356, by decide +kernel⟩
theorem mo_X2_clear : MO yX2_clear cX2_clear 2 none 0 := ⟨wcode_1229, wini_356, by decide +kernel⟩
theorem mo_X2_copyOf : MO yX2_copyOf cX2_copyOf 2 none 1 := ⟨wcode_1230, wini_356, by decide +kernel⟩
theorem mo_X2_goOn : MO yX2_goOn cX2_goOn 4 none 1 := ⟨wcode_1231, wini_356, by decide +kernel⟩
theorem mo_X2_init : MO yX2_init cX2_init 1 none 0 := ⟨wcode_1232, wini_356, by decide +kernel⟩
theorem mo_X2_isLast : MO yX2_isLast cX2_isLast 2 (some .boolean) 1 := ⟨wcode_1233, wini_356, by decide +kernel⟩
theorem mo_X2_setLamp : MO yX2_setLamp cX2_setLamp 4 none 2 := ⟨wcode_1234, wini_356, by decide +kernel⟩
theorem mo_X3_answer : MO yX3_answer cX3_answer 10 (some .long) 4 := ⟨wcode_1235, wini_698, by decide +kernel⟩
theorem mo_X3_draw : MO yX3_draw cX3_draw 9 (some .int) 4 := ⟨wcode_1236, wini_698, by decide +kernel⟩
theorem mo_X3_init : MO yX3_init cX3_init 1 none 0 := ⟨wcode_1237, wini_698, by decide +kernel⟩
theorem mo_X3_play : MO yX3_play cX3_play 6 (some .int) 3 := ⟨wcode_1238, wini_698, by decide +kernel⟩
theorem mo_X3_pop : MO yX3_pop cX3_pop 1 (some .long) 0 := ⟨wcode_1239, wini_698, by decide +kernel⟩
theorem mo_X3_push : MO yX3_push cX3_push 3 none 1 := ⟨wcode_1240, wini_698, by decide +kernel⟩
theorem mo_X3_setAsleep : MO yX3_setAsleep cX3_setAsleep 4 none 3 := ⟨wcode_1241, wini_698, by decide +kernel⟩
theorem mo_X3_share : MO yX3_share cX3_share 4 none 2 := ⟨wcode_1242, wini_698, by decide +kernel⟩
theorem mo_X3_shareAmong : MO yX3_shareAmong cX3_shareAmong 4 (some .long) 2 := ⟨wcode_1243, wini_698, by decide +kernel⟩
theorem mo_X3_shareIfWakingPaid : MO yX3_shareIfWakingPaid cX3_shareIfWakingPaid 3 (some .long) 2 := ⟨wcode_1244, wini_698, by decide +kernel⟩
theorem mo_X3_valueOf : MO yX3_valueOf cX3_valueOf 5 (some .long) 4 := ⟨wcode_1245, wini_698, by decide +kernel⟩
theorem mo_X4_combine : MO yX4_combine cX4_combine 5 (some .long) 3 := ⟨wcode_1246, wini_478, by decide +kernel⟩
theorem mo_X4_init : MO yX4_init cX4_init 4 none 2 := ⟨wcode_1247, wini_478, by decide +kernel⟩
theorem mo_X5_comparisonOf : MO yX5_comparisonOf cX5_comparisonOf 1 (some .int) 1 := ⟨wcode_1248, wini_671, by decide +kernel⟩
theorem mo_X5_emit : MO yX5_emit cX5_emit 2 (some .boolean) 1 := ⟨wcode_1249, wini_671, by decide +kernel⟩
theorem mo_X5_factorOf : MO yX5_factorOf cX5_factorOf 1 (some .int) 1 := ⟨wcode_1250, wini_671, by decide +kernel⟩
theorem mo_X5_init : MO yX5_init cX5_init 2 none 1 := ⟨wcode_1251, wini_671, by decide +kernel⟩
theorem mo_X5_made : MO yX5_made cX5_made 1 (some (.object "SleepersPay$Rule")) 0 := ⟨wcode_1252, wini_671, by decide +kernel⟩
theorem mo_X5_readClause : MO yX5_readClause cX5_readClause 2 (some .boolean) 1 := ⟨wcode_1253, wini_671, by decide +kernel⟩
theorem mo_X5_readFact : MO yX5_readFact cX5_readFact 4 (some .boolean) 1 := ⟨wcode_1254, wini_671, by decide +kernel⟩
theorem mo_X5_readSum : MO yX5_readSum cX5_readSum 4 (some .boolean) 0 := ⟨wcode_1255, wini_671, by decide +kernel⟩
theorem mo_X5_readTest : MO yX5_readTest cX5_readTest 5 (some .boolean) 1 := ⟨wcode_1256, wini_671, by decide +kernel⟩
theorem mo_X5_readText : MO yX5_readText cX5_readText 2 (some .int) 0 := ⟨wcode_1257, wini_671, by decide +kernel⟩
theorem mo_X5_readValue : MO yX5_readValue cX5_readValue 3 (some .boolean) 0 := ⟨wcode_1258, wini_671, by decide +kernel⟩
theorem mo_X5_summandOf : MO yX5_summandOf cX5_summandOf 1 (some .int) 1 := ⟨wcode_1259, wini_671, by decide +kernel⟩
theorem mo_X6_copyOf : MO yX6_copyOf cX6_copyOf 2 none 1 := ⟨wcode_1260, wini_684, by decide +kernel⟩
theorem mo_X6_init : MO yX6_init cX6_init 1 none 0 := ⟨wcode_1261, wini_684, by decide +kernel⟩
theorem mo_X7_addLamp : MO yX7_addLamp cX7_addLamp 3 none 2 := ⟨wcode_1262, wini_576, by decide +kernel⟩
theorem mo_X7_addLit : MO yX7_addLit cX7_addLit 4 none 3 := ⟨wcode_1263, wini_576, by decide +kernel⟩
theorem mo_X7_addPerson : MO yX7_addPerson cX7_addPerson 3 none 2 := ⟨wcode_1264, wini_576, by decide +kernel⟩
theorem mo_X7_addSpan : MO yX7_addSpan cX7_addSpan 5 none 4 := ⟨wcode_1265, wini_576, by decide +kernel⟩
theorem mo_X7_addWork : MO yX7_addWork cX7_addWork 4 none 3 := ⟨wcode_1266, wini_576, by decide +kernel⟩
theorem mo_X7_clear : MO yX7_clear cX7_clear 2 none 0 := ⟨wcode_1267, wini_576, by decide +kernel⟩
theorem mo_X7_copyOf : MO yX7_copyOf cX7_copyOf 2 none 1 := ⟨wcode_1268, wini_576, by decide +kernel⟩
theorem mo_X7_costOf : MO yX7_costOf cX7_costOf 4 (some .int) 1 := ⟨wcode_1269, wini_576, by decide +kernel⟩
theorem mo_X7_everyone : MO yX7_everyone cX7_everyone 1 (some .int) 0 := ⟨wcode_1270, wini_576, by decide +kernel⟩
theorem mo_X7_init : MO yX7_init cX7_init 1 none 0 := ⟨wcode_1271, wini_576, by decide +kernel⟩
theorem mo_X7_isLamp : MO yX7_isLamp cX7_isLamp 2 (some .boolean) 1 := ⟨wcode_1272, wini_576, by decide +kernel⟩
theorem mo_X7_isPerson : MO yX7_isPerson cX7_isPerson 2 (some .boolean) 1 := ⟨wcode_1273, wini_576, by decide +kernel⟩
theorem mo_X7_isTold : MO yX7_isTold cX7_isTold 1 (some .boolean) 0 := ⟨wcode_1274, wini_576, by decide +kernel⟩
theorem mo_X7_lampsOf : MO yX7_lampsOf cX7_lampsOf 4 (some .int) 1 := ⟨wcode_1275, wini_576, by decide +kernel⟩
theorem mo_X7_litAt : MO yX7_litAt cX7_litAt 2 (some .int) 1 := ⟨wcode_1276, wini_576, by decide +kernel⟩
theorem mo_X7_workersAt : MO yX7_workersAt cX7_workersAt 2 (some .int) 1 := ⟨wcode_1277, wini_576, by decide +kernel⟩
theorem mo_X8_init : MO yX8_init cX8_init 2 none 1 := ⟨wcode_1278, wini_665, by decide +kernel⟩
theorem mo_X8_isClause : MO yX8_isClause cX8_isClause 1 (some .boolean) 1 := ⟨wcode_1279, wini_665, by decide +kernel⟩
theorem mo_X8_isFull : MO yX8_isFull cX8_isFull 2 (some .boolean) 2 := ⟨wcode_1280, wini_665, by decide +kernel⟩
theorem mo_X8_readClause : MO yX8_readClause cX8_readClause 5 (some .boolean) 2 := ⟨wcode_1281, wini_665, by decide +kernel⟩
theorem mo_X8_readHours : MO yX8_readHours cX8_readHours 3 (some .boolean) 1 := ⟨wcode_1282, wini_665, by decide +kernel⟩
theorem mo_X8_readInto : MO yX8_readInto cX8_readInto 3 (some .int) 1 := ⟨wcode_1283, wini_665, by decide +kernel⟩
theorem mo_X8_readLamp : MO yX8_readLamp cX8_readLamp 5 (some .boolean) 1 := ⟨wcode_1284, wini_665, by decide +kernel⟩
theorem mo_X8_readPerson : MO yX8_readPerson cX8_readPerson 4 (some .boolean) 1 := ⟨wcode_1285, wini_665, by decide +kernel⟩
theorem mo_X8_readSpan : MO yX8_readSpan cX8_readSpan 7 (some .boolean) 2 := ⟨wcode_1286, wini_665, by decide +kernel⟩
theorem mo_X9_add : MO yX9_add cX9_add 4 none 3 := ⟨wcode_1287, wini_659, by decide +kernel⟩
theorem mo_X9_append : MO yX9_append cX9_append 3 none 1 := ⟨wcode_1288, wini_659, by decide +kernel⟩
theorem mo_X9_byteAt : MO yX9_byteAt cX9_byteAt 2 (some .int) 1 := ⟨wcode_1289, wini_659, by decide +kernel⟩
theorem mo_X9_hasRoom : MO yX9_hasRoom cX9_hasRoom 2 (some .boolean) 1 := ⟨wcode_1290, wini_659, by decide +kernel⟩
theorem mo_X9_init : MO yX9_init cX9_init 1 none 0 := ⟨wcode_1291, wini_659, by decide +kernel⟩
theorem mo_X9_isDigit : MO yX9_isDigit cX9_isDigit 1 (some .boolean) 1 := ⟨wcode_1292, wini_659, by decide +kernel⟩
theorem mo_X9_isSame : MO yX9_isSame cX9_isSame 5 (some .boolean) 3 := ⟨wcode_1293, wini_659, by decide +kernel⟩
theorem mo_X9_isSmall : MO yX9_isSmall cX9_isSmall 1 (some .boolean) 1 := ⟨wcode_1294, wini_659, by decide +kernel⟩
theorem mo_X9_open : MO yX9_open cX9_open 3 none 0 := ⟨wcode_1295, wini_659, by decide +kernel⟩
theorem mo_X9_refuse : MO yX9_refuse cX9_refuse 3 (some .boolean) 1 := ⟨wcode_1296, wini_659, by decide +kernel⟩
theorem mo_X9_splitAt : MO yX9_splitAt cX9_splitAt 4 (some .int) 1 := ⟨wcode_1297, wini_659, by decide +kernel⟩
theorem mo_X9_splitNumber : MO yX9_splitNumber cX9_splitNumber 4 (some .int) 1 := ⟨wcode_1298, wini_659, by decide +kernel⟩
theorem mo_X9_splitWord : MO yX9_splitWord cX9_splitWord 3 (some .int) 1 := ⟨wcode_1299, wini_659, by decide +kernel⟩
theorem mo_X9_step : MO yX9_step cX9_step 2 none 0 := ⟨wcode_1300, wini_659, by decide +kernel⟩
theorem mo_X9_takeNumber : MO yX9_takeNumber cX9_takeNumber 4 (some .int) 2 := ⟨wcode_1301, wini_659, by decide +kernel⟩
theorem mo_X9_takeSign : MO yX9_takeSign cX9_takeSign 2 (some .boolean) 1 := ⟨wcode_1302, wini_659, by decide +kernel⟩
theorem mo_X9_wordBetween : MO yX9_wordBetween cX9_wordBetween 6 (some .int) 2 := ⟨wcode_1303, wini_659, by decide +kernel⟩
