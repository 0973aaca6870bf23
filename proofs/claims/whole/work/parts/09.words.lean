theorem wml_0 : Cond.methodLink RX11 1 objectInit ∈ tb := tb_in (tj_4 _ (List.mem_of_getElem? (i := 233) rfl)) rfl
theorem winst_1 : Cond.instanceMethod objectInit ∈ tb := tb_in (tj_1 _ (List.mem_of_getElem? (i := 26) rfl)) rfl
theorem wcode_2 : Cond.code objectInit ⟨#[0xb1]⟩ 1 none ∈ tb := tb_in (tj_1 _ (List.mem_of_getElem? (i := 27) rfl)) rfl
theorem warrc_3 : Cond.arrayClass .byte ∈ tb := tb_in (tj_1 _ (List.mem_of_getElem? (i := 81) rfl)) rfl
theorem wfl_4 : Cond.fieldLink RX11 7 (TX11 0).1 (TX11 0).2.1 (TX11 0).2.2.1 ∈ tb := tb_in (tj_4 _ (List.mem_of_getElem? (i := 234) rfl)) rfl
theorem warrc_5 : Cond.arrayClass .int ∈ tb := tb_in (tj_1 _ (List.mem_of_getElem? (i := 82) rfl)) rfl
theorem wfl_6 : Cond.fieldLink RX11 13 (TX11 3).1 (TX11 3).2.1 (TX11 3).2.2.1 ∈ tb := tb_in (tj_4 _ (List.mem_of_getElem? (i := 237) rfl)) rfl
theorem wfl_7 : Cond.fieldLink RX11 17 (TX11 4).1 (TX11 4).2.1 (TX11 4).2.2.1 ∈ tb := tb_in (tj_4 _ (List.mem_of_getElem? (i := 238) rfl)) rfl
theorem wfl_8 : Cond.fieldLink RX11 20 (TX11 5).1 (TX11 5).2.1 (TX11 5).2.2.1 ∈ tb := tb_in (tj_4 _ (List.mem_of_getElem? (i := 239) rfl)) rfl
theorem wfl_9 : Cond.fieldLink RX11 23 (TX11 6).1 (TX11 6).2.1 (TX11 6).2.2.1 ∈ tb := tb_in (tj_5 _ (List.mem_of_getElem? (i := 0) rfl)) rfl
theorem wfl_10 : Cond.fieldLink RX11 26 (TX11 7).1 (TX11 7).2.1 (TX11 7).2.2.1 ∈ tb := tb_in (tj_5 _ (List.mem_of_getElem? (i := 1) rfl)) rfl
theorem wfl_11 : Cond.fieldLink RX11 29 (TX11 15).1 (TX11 15).2.1 (TX11 15).2.2.1 ∈ tb := tb_in (tj_5 _ (List.mem_of_getElem? (i := 9) rfl)) rfl
theorem warrc_12 : Cond.arrayClass .long ∈ tb := tb_in (tj_1 _ (List.mem_of_getElem? (i := 226) rfl)) rfl
theorem wfl_13 : Cond.fieldLink RX11 32 (TX11 17).1 (TX11 17).2.1 (TX11 17).2.2.1 ∈ tb := tb_in (tj_5 _ (List.mem_of_getElem? (i := 11) rfl)) rfl
theorem wfl_14 : Cond.fieldLink RX11 36 (TX11 19).1 (TX11 19).2.1 (TX11 19).2.2.1 ∈ tb := tb_in (tj_5 _ (List.mem_of_getElem? (i := 13) rfl)) rfl
theorem wfl_15 : Cond.fieldLink RX11 39 (TX11 20).1 (TX11 20).2.1 (TX11 20).2.2.1 ∈ tb := tb_in (tj_5 _ (List.mem_of_getElem? (i := 14) rfl)) rfl
theorem wfl_16 : Cond.fieldLink RX11 42 (TX11 21).1 (TX11 21).2.1 (TX11 21).2.2.1 ∈ tb := tb_in (tj_5 _ (List.mem_of_getElem? (i := 15) rfl)) rfl
theorem wfl_17 : Cond.fieldLink RX11 46 (TX11 23).1 (TX11 23).2.1 (TX11 23).2.2.1 ∈ tb := tb_in (tj_5 _ (List.mem_of_getElem? (i := 17) rfl)) rfl
theorem wfl_18 : Cond.fieldLink RX11 49 (TX11 24).1 (TX11 24).2.1 (TX11 24).2.2.1 ∈ tb := tb_in (tj_5 _ (List.mem_of_getElem? (i := 18) rfl)) rfl
theorem wfl_19 : Cond.fieldLink RX11 52 (TX11 26).1 (TX11 26).2.1 (TX11 26).2.2.1 ∈ tb := tb_in (tj_5 _ (List.mem_of_getElem? (i := 20) rfl)) rfl
theorem wfl_20 : Cond.fieldLink RX11 55 (TX11 29).1 (TX11 29).2.1 (TX11 29).2.2.1 ∈ tb := tb_in (tj_5 _ (List.mem_of_getElem? (i := 23) rfl)) rfl
theorem wfl_21 : Cond.fieldLink RX11 58 (TX11 30).1 (TX11 30).2.1 (TX11 30).2.2.1 ∈ tb := tb_in (tj_5 _ (List.mem_of_getElem? (i := 24) rfl)) rfl
theorem wfl_22 : Cond.fieldLink RX11 61 (TX11 32).1 (TX11 32).2.1 (TX11 32).2.2.1 ∈ tb := tb_in (tj_5 _ (List.mem_of_getElem? (i := 26) rfl)) rfl
theorem wfl_23 : Cond.fieldLink RX11 64 (TX11 33).1 (TX11 33).2.1 (TX11 33).2.2.1 ∈ tb := tb_in (tj_5 _ (List.mem_of_getElem? (i := 27) rfl)) rfl
theorem wfl_24 : Cond.fieldLink RX11 67 (TX11 34).1 (TX11 34).2.1 (TX11 34).2.2.1 ∈ tb := tb_in (tj_5 _ (List.mem_of_getElem? (i := 28) rfl)) rfl
theorem warrc_25 : Cond.arrayClass .boolean ∈ tb := tb_in (tj_5 _ (List.mem_of_getElem? (i := 103) rfl)) rfl
theorem wfl_26 : Cond.fieldLink RX11 70 (TX11 35).1 (TX11 35).2.1 (TX11 35).2.2.1 ∈ tb := tb_in (tj_5 _ (List.mem_of_getElem? (i := 29) rfl)) rfl
theorem wfl_27 : Cond.fieldLink RX11 74 (TX11 1).1 (TX11 1).2.1 (TX11 1).2.2.1 ∈ tb := tb_in (tj_4 _ (List.mem_of_getElem? (i := 235) rfl)) rfl
theorem wml_28 : Cond.methodLink RX11 77 yX11_four ∈ tb := tb_in (tj_5 _ (List.mem_of_getElem? (i := 108) rfl)) rfl
theorem winst_29 : Cond.instanceMethod yX11_four ∈ tb := tb_in (tj_5 _ (List.mem_of_getElem? (i := 110) rfl)) rfl
theorem wsel_30 : Cond.selects yX11_four.cls yX11_four yX11_four ∈ tb := tb_in (sel_3 _ (List.mem_of_getElem? (i := 8) rfl)) rfl
theorem wfl_31 : Cond.fieldLink RX11 81 (TX11 9).1 (TX11 9).2.1 (TX11 9).2.2.1 ∈ tb := tb_in (tj_5 _ (List.mem_of_getElem? (i := 3) rfl)) rfl
theorem wfl_32 : Cond.fieldLink RX11 84 (TX11 8).1 (TX11 8).2.1 (TX11 8).2.2.1 ∈ tb := tb_in (tj_5 _ (List.mem_of_getElem? (i := 2) rfl)) rfl
theorem wml_33 : Cond.methodLink RX11 87 yX11_see ∈ tb := tb_in (tj_5 _ (List.mem_of_getElem? (i := 128) rfl)) rfl
theorem winst_34 : Cond.instanceMethod yX11_see ∈ tb := tb_in (tj_5 _ (List.mem_of_getElem? (i := 130) rfl)) rfl
theorem wsel_35 : Cond.selects yX11_see.cls yX11_see yX11_see ∈ tb := tb_in (sel_3 _ (List.mem_of_getElem? (i := 11) rfl)) rfl
theorem wml_36 : Cond.methodLink RX11 91 yX11_isLetter ∈ tb := tb_in (tj_5 _ (List.mem_of_getElem? (i := 141) rfl)) rfl
theorem winst_37 : Cond.instanceMethod yX11_isLetter ∈ tb := tb_in (tj_5 _ (List.mem_of_getElem? (i := 143) rfl)) rfl
theorem wsel_38 : Cond.selects yX11_isLetter.cls yX11_isLetter yX11_isLetter ∈ tb := tb_in (sel_3 _ (List.mem_of_getElem? (i := 14) rfl)) rfl
theorem wml_39 : Cond.methodLink RX11 95 yX11_isWord ∈ tb := tb_in (tj_5 _ (List.mem_of_getElem? (i := 137) rfl)) rfl
theorem winst_40 : Cond.instanceMethod yX11_isWord ∈ tb := tb_in (tj_5 _ (List.mem_of_getElem? (i := 139) rfl)) rfl
theorem wsel_41 : Cond.selects yX11_isWord.cls yX11_isWord yX11_isWord ∈ tb := tb_in (sel_3 _ (List.mem_of_getElem? (i := 13) rfl)) rfl
theorem wml_42 : Cond.methodLink RX11 99 yX11_passWord ∈ tb := tb_in (tj_5 _ (List.mem_of_getElem? (i := 162) rfl)) rfl
theorem winst_43 : Cond.instanceMethod yX11_passWord ∈ tb := tb_in (tj_5 _ (List.mem_of_getElem? (i := 164) rfl)) rfl
theorem wsel_44 : Cond.selects yX11_passWord.cls yX11_passWord yX11_passWord ∈ tb := tb_in (sel_4 _ (List.mem_of_getElem? (i := 2) rfl)) rfl
theorem wml_45 : Cond.methodLink RX11 102 yX11_isDigit ∈ tb := tb_in (tj_5 _ (List.mem_of_getElem? (i := 174) rfl)) rfl
theorem winst_46 : Cond.instanceMethod yX11_isDigit ∈ tb := tb_in (tj_5 _ (List.mem_of_getElem? (i := 176) rfl)) rfl
theorem wsel_47 : Cond.selects yX11_isDigit.cls yX11_isDigit yX11_isDigit ∈ tb := tb_in (sel_4 _ (List.mem_of_getElem? (i := 5) rfl)) rfl
theorem wml_48 : Cond.methodLink RX11 105 yX11_fails ∈ tb := tb_in (tj_5 _ (List.mem_of_getElem? (i := 150) rfl)) rfl
theorem winst_49 : Cond.instanceMethod yX11_fails ∈ tb := tb_in (tj_5 _ (List.mem_of_getElem? (i := 152) rfl)) rfl
theorem wsel_50 : Cond.selects yX11_fails.cls yX11_fails yX11_fails ∈ tb := tb_in (sel_3 _ (List.mem_of_getElem? (i := 15) rfl)) rfl
theorem wfl_51 : Cond.fieldLink RX11 109 (TX11 10).1 (TX11 10).2.1 (TX11 10).2.2.1 ∈ tb := tb_in (tj_5 _ (List.mem_of_getElem? (i := 4) rfl)) rfl
theorem wml_52 : Cond.methodLink RX11 112 yX11_in ∈ tb := tb_in (tj_5 _ (List.mem_of_getElem? (i := 178) rfl)) rfl
theorem wstat_53 : Cond.static yX11_in ∈ tb := tb_in (tj_5 _ (List.mem_of_getElem? (i := 179) rfl)) rfl
theorem wconl_54 : Cond.constantLong RX11 116 (123581014175598) ∈ tb := tb_in (tj_5 _ (List.mem_of_getElem? (i := 145) rfl)) rfl
theorem wconl_55 : Cond.constantLong RX11 118 (1752135026) ∈ tb := tb_in (tj_5 _ (List.mem_of_getElem? (i := 230) rfl)) rfl
theorem wconl_56 : Cond.constantLong RX11 120 (474214787188) ∈ tb := tb_in (tj_5 _ (List.mem_of_getElem? (i := 231) rfl)) rfl
theorem wconl_57 : Cond.constantLong RX11 122 (1852138852) ∈ tb := tb_in (tj_5 _ (List.mem_of_getElem? (i := 232) rfl)) rfl
theorem wconl_58 : Cond.constantLong RX11 124 (512970880104) ∈ tb := tb_in (tj_5 _ (List.mem_of_getElem? (i := 233) rfl)) rfl
theorem wconl_59 : Cond.constantLong RX11 126 (495739826292) ∈ tb := tb_in (tj_5 _ (List.mem_of_getElem? (i := 234) rfl)) rfl
theorem wconl_60 : Cond.constantLong RX11 128 (1818584692) ∈ tb := tb_in (tj_5 _ (List.mem_of_getElem? (i := 235) rfl)) rfl
theorem wconl_61 : Cond.constantLong RX11 130 (1668248436) ∈ tb := tb_in (tj_5 _ (List.mem_of_getElem? (i := 236) rfl)) rfl
theorem wconl_62 : Cond.constantLong RX11 132 (122545758368371) ∈ tb := tb_in (tj_5 _ (List.mem_of_getElem? (i := 237) rfl)) rfl
theorem wconl_63 : Cond.constantLong RX11 134 (107148367717744) ∈ tb := tb_in (tj_5 _ (List.mem_of_getElem? (i := 238) rfl)) rfl
theorem wconl_64 : Cond.constantLong RX11 136 (1870095716) ∈ tb := tb_in (tj_5 _ (List.mem_of_getElem? (i := 239) rfl)) rfl
theorem wconl_65 : Cond.constantLong RX11 138 (1684365940) ∈ tb := tb_in (tj_6 _ (List.mem_of_getElem? (i := 0) rfl)) rfl
theorem wconl_66 : Cond.constantLong RX11 140 (7305070) ∈ tb := tb_in (tj_6 _ (List.mem_of_getElem? (i := 1) rfl)) rfl
theorem wfl_67 : Cond.fieldLink RX11 142 (TX11 11).1 (TX11 11).2.1 (TX11 11).2.2.1 ∈ tb := tb_in (tj_5 _ (List.mem_of_getElem? (i := 5) rfl)) rfl
theorem wfl_68 : Cond.fieldLink RX11 145 (TX11 12).1 (TX11 12).2.1 (TX11 12).2.2.1 ∈ tb := tb_in (tj_5 _ (List.mem_of_getElem? (i := 6) rfl)) rfl
theorem wfl_69 : Cond.fieldLink RX11 148 (TX11 13).1 (TX11 13).2.1 (TX11 13).2.2.1 ∈ tb := tb_in (tj_5 _ (List.mem_of_getElem? (i := 7) rfl)) rfl
theorem wfl_70 : Cond.fieldLink RX11 151 (TX11 16).1 (TX11 16).2.1 (TX11 16).2.2.1 ∈ tb := tb_in (tj_5 _ (List.mem_of_getElem? (i := 10) rfl)) rfl
theorem wml_71 : Cond.methodLink RX11 154 yX11_strength ∈ tb := tb_in (tj_6 _ (List.mem_of_getElem? (i := 32) rfl)) rfl
theorem wstat_72 : Cond.static yX11_strength ∈ tb := tb_in (tj_6 _ (List.mem_of_getElem? (i := 33) rfl)) rfl
theorem wml_73 : Cond.methodLink RX11 158 yX11_puts ∈ tb := tb_in (tj_5 _ (List.mem_of_getElem? (i := 222) rfl)) rfl
theorem winst_74 : Cond.instanceMethod yX11_puts ∈ tb := tb_in (tj_5 _ (List.mem_of_getElem? (i := 224) rfl)) rfl
theorem wsel_75 : Cond.selects yX11_puts.cls yX11_puts yX11_puts ∈ tb := tb_in (sel_5 _ (List.mem_of_getElem? (i := 0) rfl)) rfl
theorem wml_76 : Cond.methodLink RX11 169 yX11_wordHere ∈ tb := tb_in (tj_5 _ (List.mem_of_getElem? (i := 226) rfl)) rfl
theorem winst_77 : Cond.instanceMethod yX11_wordHere ∈ tb := tb_in (tj_5 _ (List.mem_of_getElem? (i := 228) rfl)) rfl
theorem wsel_78 : Cond.selects yX11_wordHere.cls yX11_wordHere yX11_wordHere ∈ tb := tb_in (sel_5 _ (List.mem_of_getElem? (i := 1) rfl)) rfl
theorem wml_79 : Cond.methodLink RX11 166 yX11_makes ∈ tb := tb_in (tj_5 _ (List.mem_of_getElem? (i := 218) rfl)) rfl
theorem winst_80 : Cond.instanceMethod yX11_makes ∈ tb := tb_in (tj_5 _ (List.mem_of_getElem? (i := 220) rfl)) rfl
theorem wsel_81 : Cond.selects yX11_makes.cls yX11_makes yX11_makes ∈ tb := tb_in (sel_4 _ (List.mem_of_getElem? (i := 15) rfl)) rfl
theorem wcon_82 : Cond.constant RX11 162 (99999) ∈ tb := tb_in (tj_5 _ (List.mem_of_getElem? (i := 217) rfl)) rfl
theorem wml_83 : Cond.methodLink RX11 163 yX11_numberHere ∈ tb := tb_in (tj_5 _ (List.mem_of_getElem? (i := 170) rfl)) rfl
theorem winst_84 : Cond.instanceMethod yX11_numberHere ∈ tb := tb_in (tj_5 _ (List.mem_of_getElem? (i := 172) rfl)) rfl
theorem wsel_85 : Cond.selects yX11_numberHere.cls yX11_numberHere yX11_numberHere ∈ tb := tb_in (sel_4 _ (List.mem_of_getElem? (i := 4) rfl)) rfl
theorem wml_86 : Cond.methodLink RX11 172 yX11_value ∈ tb := tb_in (tj_5 _ (List.mem_of_getElem? (i := 213) rfl)) rfl
theorem winst_87 : Cond.instanceMethod yX11_value ∈ tb := tb_in (tj_5 _ (List.mem_of_getElem? (i := 215) rfl)) rfl
theorem wsel_88 : Cond.selects yX11_value.cls yX11_value yX11_value ∈ tb := tb_in (sel_4 _ (List.mem_of_getElem? (i := 14) rfl)) rfl
theorem wml_89 : Cond.methodLink RX11 176 yX11_term ∈ tb := tb_in (tj_5 _ (List.mem_of_getElem? (i := 209) rfl)) rfl
theorem winst_90 : Cond.instanceMethod yX11_term ∈ tb := tb_in (tj_5 _ (List.mem_of_getElem? (i := 211) rfl)) rfl
theorem wsel_91 : Cond.selects yX11_term.cls yX11_term yX11_term ∈ tb := tb_in (sel_4 _ (List.mem_of_getElem? (i := 13) rfl)) rfl
theorem wml_92 : Cond.methodLink RX11 179 yX11_sum ∈ tb := tb_in (tj_5 _ (List.mem_of_getElem? (i := 205) rfl)) rfl
theorem winst_93 : Cond.instanceMethod yX11_sum ∈ tb := tb_in (tj_5 _ (List.mem_of_getElem? (i := 207) rfl)) rfl
theorem wsel_94 : Cond.selects yX11_sum.cls yX11_sum yX11_sum ∈ tb := tb_in (sel_4 _ (List.mem_of_getElem? (i := 12) rfl)) rfl
theorem wml_95 : Cond.methodLink RX11 187 yX11_compare ∈ tb := tb_in (tj_6 _ (List.mem_of_getElem? (i := 20) rfl)) rfl
theorem winst_96 : Cond.instanceMethod yX11_compare ∈ tb := tb_in (tj_6 _ (List.mem_of_getElem? (i := 22) rfl)) rfl
theorem wsel_97 : Cond.selects yX11_compare.cls yX11_compare yX11_compare ∈ tb := tb_in (sel_5 _ (List.mem_of_getElem? (i := 6) rfl)) rfl
theorem wconl_98 : Cond.constantLong RX11 182 (7237492) ∈ tb := tb_in (tj_6 _ (List.mem_of_getElem? (i := 15) rfl)) rfl
theorem wml_99 : Cond.methodLink RX11 184 yX11_opens ∈ tb := tb_in (tj_6 _ (List.mem_of_getElem? (i := 16) rfl)) rfl
theorem winst_100 : Cond.instanceMethod yX11_opens ∈ tb := tb_in (tj_6 _ (List.mem_of_getElem? (i := 18) rfl)) rfl
theorem wsel_101 : Cond.selects yX11_opens.cls yX11_opens yX11_opens ∈ tb := tb_in (sel_5 _ (List.mem_of_getElem? (i := 5) rfl)) rfl
theorem wml_102 : Cond.methodLink RX11 190 yX11_settles ∈ tb := tb_in (tj_6 _ (List.mem_of_getElem? (i := 28) rfl)) rfl
theorem winst_103 : Cond.instanceMethod yX11_settles ∈ tb := tb_in (tj_6 _ (List.mem_of_getElem? (i := 30) rfl)) rfl
theorem wsel_104 : Cond.selects yX11_settles.cls yX11_settles yX11_settles ∈ tb := tb_in (sel_5 _ (List.mem_of_getElem? (i := 8) rfl)) rfl
theorem wml_105 : Cond.methodLink RX11 193 yX11_isInside ∈ tb := tb_in (tj_6 _ (List.mem_of_getElem? (i := 35) rfl)) rfl
theorem winst_106 : Cond.instanceMethod yX11_isInside ∈ tb := tb_in (tj_6 _ (List.mem_of_getElem? (i := 37) rfl)) rfl
theorem wsel_107 : Cond.selects yX11_isInside.cls yX11_isInside yX11_isInside ∈ tb := tb_in (sel_5 _ (List.mem_of_getElem? (i := 9) rfl)) rfl
theorem wml_108 : Cond.methodLink RX11 196 yX11_fact ∈ tb := tb_in (tj_6 _ (List.mem_of_getElem? (i := 11) rfl)) rfl
theorem winst_109 : Cond.instanceMethod yX11_fact ∈ tb := tb_in (tj_6 _ (List.mem_of_getElem? (i := 13) rfl)) rfl
theorem wsel_110 : Cond.selects yX11_fact.cls yX11_fact yX11_fact ∈ tb := tb_in (sel_5 _ (List.mem_of_getElem? (i := 4) rfl)) rfl
theorem wml_111 : Cond.methodLink RX11 199 yX11_closes ∈ tb := tb_in (tj_6 _ (List.mem_of_getElem? (i := 24) rfl)) rfl
theorem winst_112 : Cond.instanceMethod yX11_closes ∈ tb := tb_in (tj_6 _ (List.mem_of_getElem? (i := 26) rfl)) rfl
theorem wsel_113 : Cond.selects yX11_closes.cls yX11_closes yX11_closes ∈ tb := tb_in (sel_5 _ (List.mem_of_getElem? (i := 7) rfl)) rfl
theorem wconl_114 : Cond.constantLong RX11 202 (6385252) ∈ tb := tb_in (tj_6 _ (List.mem_of_getElem? (i := 39) rfl)) rfl
theorem wconl_115 : Cond.constantLong RX11 204 (28530) ∈ tb := tb_in (tj_6 _ (List.mem_of_getElem? (i := 40) rfl)) rfl
theorem wconl_116 : Cond.constantLong RX11 206 (26982) ∈ tb := tb_in (tj_6 _ (List.mem_of_getElem? (i := 2) rfl)) rfl
theorem wml_117 : Cond.methodLink RX11 208 yX11_takesWord ∈ tb := tb_in (tj_6 _ (List.mem_of_getElem? (i := 3) rfl)) rfl
theorem winst_118 : Cond.instanceMethod yX11_takesWord ∈ tb := tb_in (tj_6 _ (List.mem_of_getElem? (i := 5) rfl)) rfl
theorem wsel_119 : Cond.selects yX11_takesWord.cls yX11_takesWord yX11_takesWord ∈ tb := tb_in (sel_5 _ (List.mem_of_getElem? (i := 2) rfl)) rfl
theorem wml_120 : Cond.methodLink RX11 211 yX11_tested ∈ tb := tb_in (tj_6 _ (List.mem_of_getElem? (i := 7) rfl)) rfl
theorem winst_121 : Cond.instanceMethod yX11_tested ∈ tb := tb_in (tj_6 _ (List.mem_of_getElem? (i := 9) rfl)) rfl
theorem wsel_122 : Cond.selects yX11_tested.cls yX11_tested yX11_tested ∈ tb := tb_in (sel_5 _ (List.mem_of_getElem? (i := 3) rfl)) rfl
theorem wml_123 : Cond.methodLink RX11 214 yX11_cellHere ∈ tb := tb_in (tj_5 _ (List.mem_of_getElem? (i := 166) rfl)) rfl
theorem winst_124 : Cond.instanceMethod yX11_cellHere ∈ tb := tb_in (tj_5 _ (List.mem_of_getElem? (i := 168) rfl)) rfl
theorem wsel_125 : Cond.selects yX11_cellHere.cls yX11_cellHere yX11_cellHere ∈ tb := tb_in (sel_4 _ (List.mem_of_getElem? (i := 3) rfl)) rfl
theorem wml_126 : Cond.methodLink RX11 218 yX11_isSpanHere ∈ tb := tb_in (tj_5 _ (List.mem_of_getElem? (i := 189) rfl)) rfl
theorem winst_127 : Cond.instanceMethod yX11_isSpanHere ∈ tb := tb_in (tj_5 _ (List.mem_of_getElem? (i := 191) rfl)) rfl
theorem wsel_128 : Cond.selects yX11_isSpanHere.cls yX11_isSpanHere yX11_isSpanHere ∈ tb := tb_in (sel_4 _ (List.mem_of_getElem? (i := 8) rfl)) rfl
theorem wconl_129 : Cond.constantLong RX11 221 (126943972648308) ∈ tb := tb_in (tj_5 _ (List.mem_of_getElem? (i := 136) rfl)) rfl
theorem wconl_130 : Cond.constantLong RX11 229 (2003792491) ∈ tb := tb_in (tj_5 _ (List.mem_of_getElem? (i := 146) rfl)) rfl
theorem wconl_131 : Cond.constantLong RX11 234 (1818324336) ∈ tb := tb_in (tj_5 _ (List.mem_of_getElem? (i := 147) rfl)) rfl
theorem wml_132 : Cond.methodLink RX11 239 yX11_isLitHere ∈ tb := tb_in (tj_5 _ (List.mem_of_getElem? (i := 197) rfl)) rfl
theorem winst_133 : Cond.instanceMethod yX11_isLitHere ∈ tb := tb_in (tj_5 _ (List.mem_of_getElem? (i := 199) rfl)) rfl
theorem wsel_134 : Cond.selects yX11_isLitHere.cls yX11_isLitHere yX11_isLitHere ∈ tb := tb_in (sel_4 _ (List.mem_of_getElem? (i := 10) rfl)) rfl
theorem wml_135 : Cond.methodLink RX11 236 yX11_isLampHere ∈ tb := tb_in (tj_5 _ (List.mem_of_getElem? (i := 193) rfl)) rfl
theorem winst_136 : Cond.instanceMethod yX11_isLampHere ∈ tb := tb_in (tj_5 _ (List.mem_of_getElem? (i := 195) rfl)) rfl
theorem wsel_137 : Cond.selects yX11_isLampHere.cls yX11_isLampHere yX11_isLampHere ∈ tb := tb_in (sel_4 _ (List.mem_of_getElem? (i := 9) rfl)) rfl
theorem wml_138 : Cond.methodLink RX11 231 yX11_isWorkHere ∈ tb := tb_in (tj_5 _ (List.mem_of_getElem? (i := 185) rfl)) rfl
theorem winst_139 : Cond.instanceMethod yX11_isWorkHere ∈ tb := tb_in (tj_5 _ (List.mem_of_getElem? (i := 187) rfl)) rfl
theorem wsel_140 : Cond.selects yX11_isWorkHere.cls yX11_isWorkHere yX11_isWorkHere ∈ tb := tb_in (sel_4 _ (List.mem_of_getElem? (i := 7) rfl)) rfl
theorem wml_141 : Cond.methodLink RX11 226 yX11_isPersonHere ∈ tb := tb_in (tj_5 _ (List.mem_of_getElem? (i := 181) rfl)) rfl
theorem winst_142 : Cond.instanceMethod yX11_isPersonHere ∈ tb := tb_in (tj_5 _ (List.mem_of_getElem? (i := 183) rfl)) rfl
theorem wsel_143 : Cond.selects yX11_isPersonHere.cls yX11_isPersonHere yX11_isPersonHere ∈ tb := tb_in (sel_4 _ (List.mem_of_getElem? (i := 6) rfl)) rfl
theorem wml_144 : Cond.methodLink RX11 223 yX11_isStreetHere ∈ tb := tb_in (tj_5 _ (List.mem_of_getElem? (i := 158) rfl)) rfl
theorem winst_145 : Cond.instanceMethod yX11_isStreetHere ∈ tb := tb_in (tj_5 _ (List.mem_of_getElem? (i := 160) rfl)) rfl
theorem wsel_146 : Cond.selects yX11_isStreetHere.cls yX11_isStreetHere yX11_isStreetHere ∈ tb := tb_in (sel_4 _ (List.mem_of_getElem? (i := 1) rfl)) rfl
theorem wconl_147 : Cond.constantLong RX11 242 (7104884) ∈ tb := tb_in (tj_5 _ (List.mem_of_getElem? (i := 148) rfl)) rfl
theorem wconl_148 : Cond.constantLong RX11 247 (495739823472) ∈ tb := tb_in (tj_5 _ (List.mem_of_getElem? (i := 149) rfl)) rfl
theorem wml_149 : Cond.methodLink RX11 244 yX11_isStreetWord ∈ tb := tb_in (tj_5 _ (List.mem_of_getElem? (i := 132) rfl)) rfl
theorem winst_150 : Cond.instanceMethod yX11_isStreetWord ∈ tb := tb_in (tj_5 _ (List.mem_of_getElem? (i := 134) rfl)) rfl
theorem wsel_151 : Cond.selects yX11_isStreetWord.cls yX11_isStreetWord yX11_isStreetWord ∈ tb := tb_in (sel_3 _ (List.mem_of_getElem? (i := 12) rfl)) rfl
theorem wfl_152 : Cond.fieldLink RX11 249 (TX11 14).1 (TX11 14).2.1 (TX11 14).2.2.1 ∈ tb := tb_in (tj_5 _ (List.mem_of_getElem? (i := 8) rfl)) rfl
theorem wml_153 : Cond.methodLink RX11 255 yX11_isSleepHere ∈ tb := tb_in (tj_5 _ (List.mem_of_getElem? (i := 201) rfl)) rfl
theorem winst_154 : Cond.instanceMethod yX11_isSleepHere ∈ tb := tb_in (tj_5 _ (List.mem_of_getElem? (i := 203) rfl)) rfl
theorem wsel_155 : Cond.selects yX11_isSleepHere.cls yX11_isSleepHere yX11_isSleepHere ∈ tb := tb_in (sel_4 _ (List.mem_of_getElem? (i := 11) rfl)) rfl
theorem wml_156 : Cond.methodLink RX11 252 yX11_streetLineHere ∈ tb := tb_in (tj_5 _ (List.mem_of_getElem? (i := 154) rfl)) rfl
theorem winst_157 : Cond.instanceMethod yX11_streetLineHere ∈ tb := tb_in (tj_5 _ (List.mem_of_getElem? (i := 156) rfl)) rfl
theorem wsel_158 : Cond.selects yX11_streetLineHere.cls yX11_streetLineHere yX11_streetLineHere ∈ tb := tb_in (sel_4 _ (List.mem_of_getElem? (i := 0) rfl)) rfl
theorem wml_159 : Cond.methodLink RX11 258 yX11_clauseHere ∈ tb := tb_in (tj_5 _ (List.mem_of_getElem? (i := 124) rfl)) rfl
theorem winst_160 : Cond.instanceMethod yX11_clauseHere ∈ tb := tb_in (tj_5 _ (List.mem_of_getElem? (i := 126) rfl)) rfl
theorem wsel_161 : Cond.selects yX11_clauseHere.cls yX11_clauseHere yX11_clauseHere ∈ tb := tb_in (sel_3 _ (List.mem_of_getElem? (i := 10) rfl)) rfl
theorem wfl_162 : Cond.fieldLink RX11 261 (TX11 2).1 (TX11 2).2.1 (TX11 2).2.2.1 ∈ tb := tb_in (tj_4 _ (List.mem_of_getElem? (i := 236) rfl)) rfl
theorem wml_163 : Cond.methodLink RX11 264 yX11_readsAll ∈ tb := tb_in (tj_5 _ (List.mem_of_getElem? (i := 120) rfl)) rfl
theorem winst_164 : Cond.instanceMethod yX11_readsAll ∈ tb := tb_in (tj_5 _ (List.mem_of_getElem? (i := 122) rfl)) rfl
theorem wsel_165 : Cond.selects yX11_readsAll.cls yX11_readsAll yX11_readsAll ∈ tb := tb_in (sel_3 _ (List.mem_of_getElem? (i := 9) rfl)) rfl
theorem wfl_166 : Cond.fieldLink RX11 267 (TX11 25).1 (TX11 25).2.1 (TX11 25).2.2.1 ∈ tb := tb_in (tj_5 _ (List.mem_of_getElem? (i := 19) rfl)) rfl
theorem wfl_167 : Cond.fieldLink RX11 270 (TX11 18).1 (TX11 18).2.1 (TX11 18).2.2.1 ∈ tb := tb_in (tj_5 _ (List.mem_of_getElem? (i := 12) rfl)) rfl
theorem wml_168 : Cond.methodLink RX11 277 yX11_pop ∈ tb := tb_in (tj_6 _ (List.mem_of_getElem? (i := 154) rfl)) rfl
theorem winst_169 : Cond.instanceMethod yX11_pop ∈ tb := tb_in (tj_6 _ (List.mem_of_getElem? (i := 156) rfl)) rfl
theorem wsel_170 : Cond.selects yX11_pop.cls yX11_pop yX11_pop ∈ tb := tb_in (sel_6 _ (List.mem_of_getElem? (i := 15) rfl)) rfl
theorem wml_171 : Cond.methodLink RX11 281 yX11_one ∈ tb := tb_in (tj_6 _ (List.mem_of_getElem? (i := 158) rfl)) rfl
theorem wstat_172 : Cond.static yX11_one ∈ tb := tb_in (tj_6 _ (List.mem_of_getElem? (i := 159) rfl)) rfl
theorem wml_173 : Cond.methodLink RX11 273 yX11_push ∈ tb := tb_in (tj_6 _ (List.mem_of_getElem? (i := 150) rfl)) rfl
theorem winst_174 : Cond.instanceMethod yX11_push ∈ tb := tb_in (tj_6 _ (List.mem_of_getElem? (i := 152) rfl)) rfl
theorem wsel_175 : Cond.selects yX11_push.cls yX11_push yX11_push ∈ tb := tb_in (sel_6 _ (List.mem_of_getElem? (i := 14) rfl)) rfl
theorem wml_176 : Cond.methodLink RX11 285 yX11_isLitIn ∈ tb := tb_in (tj_6 _ (List.mem_of_getElem? (i := 83) rfl)) rfl
theorem winst_177 : Cond.instanceMethod yX11_isLitIn ∈ tb := tb_in (tj_6 _ (List.mem_of_getElem? (i := 85) rfl)) rfl
theorem wsel_178 : Cond.selects yX11_isLitIn.cls yX11_isLitIn yX11_isLitIn ∈ tb := tb_in (sel_6 _ (List.mem_of_getElem? (i := 0) rfl)) rfl
theorem wml_179 : Cond.methodLink RX11 288 yX11_burnsIn ∈ tb := tb_in (tj_6 _ (List.mem_of_getElem? (i := 79) rfl)) rfl
theorem winst_180 : Cond.instanceMethod yX11_burnsIn ∈ tb := tb_in (tj_6 _ (List.mem_of_getElem? (i := 81) rfl)) rfl
theorem wsel_181 : Cond.selects yX11_burnsIn.cls yX11_burnsIn yX11_burnsIn ∈ tb := tb_in (sel_5 _ (List.mem_of_getElem? (i := 15) rfl)) rfl
theorem wml_182 : Cond.methodLink RX11 291 yX11_costOf ∈ tb := tb_in (tj_6 _ (List.mem_of_getElem? (i := 127) rfl)) rfl
theorem winst_183 : Cond.instanceMethod yX11_costOf ∈ tb := tb_in (tj_6 _ (List.mem_of_getElem? (i := 129) rfl)) rfl
theorem wsel_184 : Cond.selects yX11_costOf.cls yX11_costOf yX11_costOf ∈ tb := tb_in (sel_6 _ (List.mem_of_getElem? (i := 9) rfl)) rfl
theorem wml_185 : Cond.methodLink RX11 294 yX11_personOf ∈ tb := tb_in (tj_6 _ (List.mem_of_getElem? (i := 62) rfl)) rfl
theorem winst_186 : Cond.instanceMethod yX11_personOf ∈ tb := tb_in (tj_6 _ (List.mem_of_getElem? (i := 64) rfl)) rfl
theorem wsel_187 : Cond.selects yX11_personOf.cls yX11_personOf yX11_personOf ∈ tb := tb_in (sel_5 _ (List.mem_of_getElem? (i := 12) rfl)) rfl
theorem wml_188 : Cond.methodLink RX11 298 yX11_worksIn ∈ tb := tb_in (tj_6 _ (List.mem_of_getElem? (i := 66) rfl)) rfl
theorem winst_189 : Cond.instanceMethod yX11_worksIn ∈ tb := tb_in (tj_6 _ (List.mem_of_getElem? (i := 68) rfl)) rfl
theorem wsel_190 : Cond.selects yX11_worksIn.cls yX11_worksIn yX11_worksIn ∈ tb := tb_in (sel_5 _ (List.mem_of_getElem? (i := 13) rfl)) rfl
theorem wml_191 : Cond.methodLink RX11 301 yX11_isRule ∈ tb := tb_in (tj_6 _ (List.mem_of_getElem? (i := 49) rfl)) rfl
theorem winst_192 : Cond.instanceMethod yX11_isRule ∈ tb := tb_in (tj_6 _ (List.mem_of_getElem? (i := 51) rfl)) rfl
theorem wsel_193 : Cond.selects yX11_isRule.cls yX11_isRule yX11_isRule ∈ tb := tb_in (sel_5 _ (List.mem_of_getElem? (i := 10) rfl)) rfl
theorem wml_194 : Cond.methodLink RX11 304 yX11_isPerson ∈ tb := tb_in (tj_6 _ (List.mem_of_getElem? (i := 57) rfl)) rfl
theorem winst_195 : Cond.instanceMethod yX11_isPerson ∈ tb := tb_in (tj_6 _ (List.mem_of_getElem? (i := 59) rfl)) rfl
theorem wsel_196 : Cond.selects yX11_isPerson.cls yX11_isPerson yX11_isPerson ∈ tb := tb_in (sel_5 _ (List.mem_of_getElem? (i := 11) rfl)) rfl
theorem wconl_197 : Cond.constantLong RX11 307 (5) ∈ tb := tb_in (tj_6 _ (List.mem_of_getElem? (i := 61) rfl)) rfl
theorem wml_198 : Cond.methodLink RX11 309 yX11_isLamp ∈ tb := tb_in (tj_6 _ (List.mem_of_getElem? (i := 74) rfl)) rfl
theorem winst_199 : Cond.instanceMethod yX11_isLamp ∈ tb := tb_in (tj_6 _ (List.mem_of_getElem? (i := 76) rfl)) rfl
theorem wsel_200 : Cond.selects yX11_isLamp.cls yX11_isLamp yX11_isLamp ∈ tb := tb_in (sel_5 _ (List.mem_of_getElem? (i := 14) rfl)) rfl
theorem wconl_201 : Cond.constantLong RX11 312 (2) ∈ tb := tb_in (tj_6 _ (List.mem_of_getElem? (i := 78) rfl)) rfl
theorem wml_202 : Cond.methodLink RX11 314 yX11_costIn ∈ tb := tb_in (tj_6 _ (List.mem_of_getElem? (i := 123) rfl)) rfl
theorem winst_203 : Cond.instanceMethod yX11_costIn ∈ tb := tb_in (tj_6 _ (List.mem_of_getElem? (i := 125) rfl)) rfl
theorem wsel_204 : Cond.selects yX11_costIn.cls yX11_costIn yX11_costIn ∈ tb := tb_in (sel_6 _ (List.mem_of_getElem? (i := 8) rfl)) rfl
theorem wml_205 : Cond.methodLink RX11 317 yX11_sleepers ∈ tb := tb_in (tj_6 _ (List.mem_of_getElem? (i := 131) rfl)) rfl
theorem winst_206 : Cond.instanceMethod yX11_sleepers ∈ tb := tb_in (tj_6 _ (List.mem_of_getElem? (i := 133) rfl)) rfl
theorem wsel_207 : Cond.selects yX11_sleepers.cls yX11_sleepers yX11_sleepers ∈ tb := tb_in (sel_6 _ (List.mem_of_getElem? (i := 10) rfl)) rfl
theorem wml_208 : Cond.methodLink RX11 320 yX11_bits ∈ tb := tb_in (tj_6 _ (List.mem_of_getElem? (i := 135) rfl)) rfl
theorem wstat_209 : Cond.static yX11_bits ∈ tb := tb_in (tj_6 _ (List.mem_of_getElem? (i := 136) rfl)) rfl
theorem wml_210 : Cond.methodLink RX11 323 yX11_ownCost ∈ tb := tb_in (tj_6 _ (List.mem_of_getElem? (i := 138) rfl)) rfl
theorem winst_211 : Cond.instanceMethod yX11_ownCost ∈ tb := tb_in (tj_6 _ (List.mem_of_getElem? (i := 140) rfl)) rfl
theorem wsel_212 : Cond.selects yX11_ownCost.cls yX11_ownCost yX11_ownCost ∈ tb := tb_in (sel_6 _ (List.mem_of_getElem? (i := 11) rfl)) rfl
theorem wml_213 : Cond.methodLink RX11 326 yX11_reckons ∈ tb := tb_in (tj_6 _ (List.mem_of_getElem? (i := 146) rfl)) rfl
theorem winst_214 : Cond.instanceMethod yX11_reckons ∈ tb := tb_in (tj_6 _ (List.mem_of_getElem? (i := 148) rfl)) rfl
theorem wsel_215 : Cond.selects yX11_reckons.cls yX11_reckons yX11_reckons ∈ tb := tb_in (sel_6 _ (List.mem_of_getElem? (i := 13) rfl)) rfl
theorem wml_216 : Cond.methodLink RX11 330 yX11_setsAsleep ∈ tb := tb_in (tj_6 _ (List.mem_of_getElem? (i := 111) rfl)) rfl
theorem winst_217 : Cond.instanceMethod yX11_setsAsleep ∈ tb := tb_in (tj_6 _ (List.mem_of_getElem? (i := 113) rfl)) rfl
theorem wsel_218 : Cond.selects yX11_setsAsleep.cls yX11_setsAsleep yX11_setsAsleep ∈ tb := tb_in (sel_6 _ (List.mem_of_getElem? (i := 5) rfl)) rfl
theorem wml_219 : Cond.methodLink RX11 334 yX11_words ∈ tb := tb_in (tj_6 _ (List.mem_of_getElem? (i := 119) rfl)) rfl
theorem winst_220 : Cond.instanceMethod yX11_words ∈ tb := tb_in (tj_6 _ (List.mem_of_getElem? (i := 121) rfl)) rfl
theorem wsel_221 : Cond.selects yX11_words.cls yX11_words yX11_words ∈ tb := tb_in (sel_6 _ (List.mem_of_getElem? (i := 7) rfl)) rfl
theorem wml_222 : Cond.methodLink RX11 337 yX11_summedBy ∈ tb := tb_in (tj_6 _ (List.mem_of_getElem? (i := 142) rfl)) rfl
theorem winst_223 : Cond.instanceMethod yX11_summedBy ∈ tb := tb_in (tj_6 _ (List.mem_of_getElem? (i := 144) rfl)) rfl
theorem wsel_224 : Cond.selects yX11_summedBy.cls yX11_summedBy yX11_summedBy ∈ tb := tb_in (sel_6 _ (List.mem_of_getElem? (i := 12) rfl)) rfl
theorem wml_225 : Cond.methodLink RX11 341 yX11_endsNight ∈ tb := tb_in (tj_6 _ (List.mem_of_getElem? (i := 165) rfl)) rfl
theorem winst_226 : Cond.instanceMethod yX11_endsNight ∈ tb := tb_in (tj_6 _ (List.mem_of_getElem? (i := 167) rfl)) rfl
theorem wsel_227 : Cond.selects yX11_endsNight.cls yX11_endsNight yX11_endsNight ∈ tb := tb_in (sel_7 _ (List.mem_of_getElem? (i := 1) rfl)) rfl
theorem wml_228 : Cond.methodLink RX11 344 yX11_wakesWorkers ∈ tb := tb_in (tj_6 _ (List.mem_of_getElem? (i := 107) rfl)) rfl
theorem winst_229 : Cond.instanceMethod yX11_wakesWorkers ∈ tb := tb_in (tj_6 _ (List.mem_of_getElem? (i := 109) rfl)) rfl
theorem wsel_230 : Cond.selects yX11_wakesWorkers.cls yX11_wakesWorkers yX11_wakesWorkers ∈ tb := tb_in (sel_6 _ (List.mem_of_getElem? (i := 4) rfl)) rfl
theorem wml_231 : Cond.methodLink RX11 347 yX11_sleepsByRule ∈ tb := tb_in (tj_6 _ (List.mem_of_getElem? (i := 115) rfl)) rfl
theorem winst_232 : Cond.instanceMethod yX11_sleepsByRule ∈ tb := tb_in (tj_6 _ (List.mem_of_getElem? (i := 117) rfl)) rfl
theorem wsel_233 : Cond.selects yX11_sleepsByRule.cls yX11_sleepsByRule yX11_sleepsByRule ∈ tb := tb_in (sel_6 _ (List.mem_of_getElem? (i := 6) rfl)) rfl
theorem wml_234 : Cond.methodLink RX11 350 yX11_shares ∈ tb := tb_in (tj_6 _ (List.mem_of_getElem? (i := 161) rfl)) rfl
theorem winst_235 : Cond.instanceMethod yX11_shares ∈ tb := tb_in (tj_6 _ (List.mem_of_getElem? (i := 163) rfl)) rfl
theorem wsel_236 : Cond.selects yX11_shares.cls yX11_shares yX11_shares ∈ tb := tb_in (sel_7 _ (List.mem_of_getElem? (i := 0) rfl)) rfl
theorem wml_237 : Cond.methodLink RX11 353 yX11_isStreet ∈ tb := tb_in (tj_6 _ (List.mem_of_getElem? (i := 95) rfl)) rfl
theorem winst_238 : Cond.instanceMethod yX11_isStreet ∈ tb := tb_in (tj_6 _ (List.mem_of_getElem? (i := 97) rfl)) rfl
theorem wsel_239 : Cond.selects yX11_isStreet.cls yX11_isStreet yX11_isStreet ∈ tb := tb_in (sel_6 _ (List.mem_of_getElem? (i := 1) rfl)) rfl
theorem wml_240 : Cond.methodLink RX11 356 yX11_keepsAct ∈ tb := tb_in (tj_6 _ (List.mem_of_getElem? (i := 99) rfl)) rfl
theorem winst_241 : Cond.instanceMethod yX11_keepsAct ∈ tb := tb_in (tj_6 _ (List.mem_of_getElem? (i := 101) rfl)) rfl
theorem wsel_242 : Cond.selects yX11_keepsAct.cls yX11_keepsAct yX11_keepsAct ∈ tb := tb_in (sel_6 _ (List.mem_of_getElem? (i := 2) rfl)) rfl
theorem wml_243 : Cond.methodLink RX11 359 yX11_passes ∈ tb := tb_in (tj_6 _ (List.mem_of_getElem? (i := 103) rfl)) rfl
theorem winst_244 : Cond.instanceMethod yX11_passes ∈ tb := tb_in (tj_6 _ (List.mem_of_getElem? (i := 105) rfl)) rfl
theorem wsel_245 : Cond.selects yX11_passes.cls yX11_passes yX11_passes ∈ tb := tb_in (sel_6 _ (List.mem_of_getElem? (i := 3) rfl)) rfl
theorem wml_246 : Cond.methodLink RX11 362 yX11_divisor ∈ tb := tb_in (tj_6 _ (List.mem_of_getElem? (i := 184) rfl)) rfl
theorem wstat_247 : Cond.static yX11_divisor ∈ tb := tb_in (tj_6 _ (List.mem_of_getElem? (i := 185) rfl)) rfl
theorem wml_248 : Cond.methodLink RX11 365 yX11_fraction ∈ tb := tb_in (tj_6 _ (List.mem_of_getElem? (i := 181) rfl)) rfl
theorem wstat_249 : Cond.static yX11_fraction ∈ tb := tb_in (tj_6 _ (List.mem_of_getElem? (i := 182) rfl)) rfl
theorem wconl_250 : Cond.constantLong RX11 369 (100) ∈ tb := tb_in (tj_6 _ (List.mem_of_getElem? (i := 191) rfl)) rfl
theorem wml_251 : Cond.methodLink RX11 371 yX11_keeps ∈ tb := tb_in (tj_6 _ (List.mem_of_getElem? (i := 192) rfl)) rfl
theorem winst_252 : Cond.instanceMethod yX11_keeps ∈ tb := tb_in (tj_6 _ (List.mem_of_getElem? (i := 194) rfl)) rfl
theorem wsel_253 : Cond.selects yX11_keeps.cls yX11_keeps yX11_keeps ∈ tb := tb_in (sel_7 _ (List.mem_of_getElem? (i := 2) rfl)) rfl
theorem wml_254 : Cond.methodLink RX11 374 yX11_laysBack ∈ tb := tb_in (tj_6 _ (List.mem_of_getElem? (i := 196) rfl)) rfl
theorem winst_255 : Cond.instanceMethod yX11_laysBack ∈ tb := tb_in (tj_6 _ (List.mem_of_getElem? (i := 198) rfl)) rfl
theorem wsel_256 : Cond.selects yX11_laysBack.cls yX11_laysBack yX11_laysBack ∈ tb := tb_in (sel_7 _ (List.mem_of_getElem? (i := 3) rfl)) rfl
theorem wml_257 : Cond.methodLink RX11 377 yX11_isOf ∈ tb := tb_in (tj_6 _ (List.mem_of_getElem? (i := 217) rfl)) rfl
theorem wstat_258 : Cond.static yX11_isOf ∈ tb := tb_in (tj_6 _ (List.mem_of_getElem? (i := 218) rfl)) rfl
theorem wfl_259 : Cond.fieldLink RX11 383 (TX11 27).1 (TX11 27).2.1 (TX11 27).2.2.1 ∈ tb := tb_in (tj_5 _ (List.mem_of_getElem? (i := 21) rfl)) rfl
theorem wfl_260 : Cond.fieldLink RX11 386 (TX11 28).1 (TX11 28).2.1 (TX11 28).2.2.1 ∈ tb := tb_in (tj_5 _ (List.mem_of_getElem? (i := 22) rfl)) rfl
theorem wml_261 : Cond.methodLink RX11 380 yX11_worksOne ∈ tb := tb_in (tj_6 _ (List.mem_of_getElem? (i := 213) rfl)) rfl
theorem winst_262 : Cond.instanceMethod yX11_worksOne ∈ tb := tb_in (tj_6 _ (List.mem_of_getElem? (i := 215) rfl)) rfl
theorem wsel_263 : Cond.selects yX11_worksOne.cls yX11_worksOne yX11_worksOne ∈ tb := tb_in (sel_7 _ (List.mem_of_getElem? (i := 6) rfl)) rfl
theorem wml_264 : Cond.methodLink RX11 389 yX11_findsCheap ∈ tb := tb_in (tj_6 _ (List.mem_of_getElem? (i := 209) rfl)) rfl
theorem winst_265 : Cond.instanceMethod yX11_findsCheap ∈ tb := tb_in (tj_6 _ (List.mem_of_getElem? (i := 211) rfl)) rfl
theorem wsel_266 : Cond.selects yX11_findsCheap.cls yX11_findsCheap yX11_findsCheap ∈ tb := tb_in (sel_7 _ (List.mem_of_getElem? (i := 5) rfl)) rfl
theorem wconl_267 : Cond.constantLong RX11 392 (10) ∈ tb := tb_in (tj_6 _ (List.mem_of_getElem? (i := 204) rfl)) rfl
theorem wml_268 : Cond.methodLink RX11 394 yX11_cheapest ∈ tb := tb_in (tj_6 _ (List.mem_of_getElem? (i := 205) rfl)) rfl
theorem winst_269 : Cond.instanceMethod yX11_cheapest ∈ tb := tb_in (tj_6 _ (List.mem_of_getElem? (i := 207) rfl)) rfl
theorem wsel_270 : Cond.selects yX11_cheapest.cls yX11_cheapest yX11_cheapest ∈ tb := tb_in (sel_7 _ (List.mem_of_getElem? (i := 4) rfl)) rfl
theorem wml_271 : Cond.methodLink RX11 397 yX11_idle ∈ tb := tb_in (tj_6 _ (List.mem_of_getElem? (i := 232) rfl)) rfl
theorem winst_272 : Cond.instanceMethod yX11_idle ∈ tb := tb_in (tj_6 _ (List.mem_of_getElem? (i := 234) rfl)) rfl
theorem wsel_273 : Cond.selects yX11_idle.cls yX11_idle yX11_idle ∈ tb := tb_in (sel_7 _ (List.mem_of_getElem? (i := 8) rfl)) rfl
theorem wml_274 : Cond.methodLink RX11 400 yX11_isRest ∈ tb := tb_in (tj_6 _ (List.mem_of_getElem? (i := 228) rfl)) rfl
theorem winst_275 : Cond.instanceMethod yX11_isRest ∈ tb := tb_in (tj_6 _ (List.mem_of_getElem? (i := 230) rfl)) rfl
theorem wsel_276 : Cond.selects yX11_isRest.cls yX11_isRest yX11_isRest ∈ tb := tb_in (sel_7 _ (List.mem_of_getElem? (i := 7) rfl)) rfl
theorem wml_277 : Cond.methodLink RX11 403 yX11_burning ∈ tb := tb_in (tj_7 _ (List.mem_of_getElem? (i := 0) rfl)) rfl
theorem winst_278 : Cond.instanceMethod yX11_burning ∈ tb := tb_in (tj_7 _ (List.mem_of_getElem? (i := 2) rfl)) rfl
theorem wsel_279 : Cond.selects yX11_burning.cls yX11_burning yX11_burning ∈ tb := tb_in (sel_7 _ (List.mem_of_getElem? (i := 9) rfl)) rfl
theorem wml_280 : Cond.methodLink RX11 406 yX11_isDarkEnough ∈ tb := tb_in (tj_7 _ (List.mem_of_getElem? (i := 4) rfl)) rfl
theorem winst_281 : Cond.instanceMethod yX11_isDarkEnough ∈ tb := tb_in (tj_7 _ (List.mem_of_getElem? (i := 6) rfl)) rfl
theorem wsel_282 : Cond.selects yX11_isDarkEnough.cls yX11_isDarkEnough yX11_isDarkEnough ∈ tb := tb_in (sel_7 _ (List.mem_of_getElem? (i := 10) rfl)) rfl
theorem wconl_283 : Cond.constantLong RX11 409 (300) ∈ tb := tb_in (tj_7 _ (List.mem_of_getElem? (i := 12) rfl)) rfl
theorem wml_284 : Cond.methodLink RX11 411 yX11_isFactSo ∈ tb := tb_in (tj_7 _ (List.mem_of_getElem? (i := 22) rfl)) rfl
theorem winst_285 : Cond.instanceMethod yX11_isFactSo ∈ tb := tb_in (tj_7 _ (List.mem_of_getElem? (i := 24) rfl)) rfl
theorem wsel_286 : Cond.selects yX11_isFactSo.cls yX11_isFactSo yX11_isFactSo ∈ tb := tb_in (sel_7 _ (List.mem_of_getElem? (i := 12) rfl)) rfl
theorem wconl_287 : Cond.constantLong RX11 414 (3) ∈ tb := tb_in (tj_7 _ (List.mem_of_getElem? (i := 17) rfl)) rfl
theorem wml_288 : Cond.methodLink RX11 416 yX11_fitsFacts ∈ tb := tb_in (tj_7 _ (List.mem_of_getElem? (i := 18) rfl)) rfl
theorem winst_289 : Cond.instanceMethod yX11_fitsFacts ∈ tb := tb_in (tj_7 _ (List.mem_of_getElem? (i := 20) rfl)) rfl
theorem wsel_290 : Cond.selects yX11_fitsFacts.cls yX11_fitsFacts yX11_fitsFacts ∈ tb := tb_in (sel_7 _ (List.mem_of_getElem? (i := 11) rfl)) rfl
theorem wml_291 : Cond.methodLink RX11 419 yX11_toldCost ∈ tb := tb_in (tj_7 _ (List.mem_of_getElem? (i := 42) rfl)) rfl
theorem winst_292 : Cond.instanceMethod yX11_toldCost ∈ tb := tb_in (tj_7 _ (List.mem_of_getElem? (i := 44) rfl)) rfl
theorem wsel_293 : Cond.selects yX11_toldCost.cls yX11_toldCost yX11_toldCost ∈ tb := tb_in (sel_7 _ (List.mem_of_getElem? (i := 14) rfl)) rfl
theorem wml_294 : Cond.methodLink RX11 422 yX11_leastOf ∈ tb := tb_in (tj_7 _ (List.mem_of_getElem? (i := 54) rfl)) rfl
theorem winst_295 : Cond.instanceMethod yX11_leastOf ∈ tb := tb_in (tj_7 _ (List.mem_of_getElem? (i := 56) rfl)) rfl
theorem wsel_296 : Cond.selects yX11_leastOf.cls yX11_leastOf yX11_leastOf ∈ tb := tb_in (sel_8 _ (List.mem_of_getElem? (i := 1) rfl)) rfl
theorem wml_297 : Cond.methodLink RX11 425 yX11_costBy ∈ tb := tb_in (tj_7 _ (List.mem_of_getElem? (i := 50) rfl)) rfl
theorem winst_298 : Cond.instanceMethod yX11_costBy ∈ tb := tb_in (tj_7 _ (List.mem_of_getElem? (i := 52) rfl)) rfl
theorem wsel_299 : Cond.selects yX11_costBy.cls yX11_costBy yX11_costBy ∈ tb := tb_in (sel_8 _ (List.mem_of_getElem? (i := 0) rfl)) rfl
theorem wconl_300 : Cond.constantLong RX11 429 (8) ∈ tb := tb_in (tj_7 _ (List.mem_of_getElem? (i := 34) rfl)) rfl
theorem wconl_301 : Cond.constantLong RX11 431 (99) ∈ tb := tb_in (tj_7 _ (List.mem_of_getElem? (i := 35) rfl)) rfl
theorem wconl_302 : Cond.constantLong RX11 433 (-1) ∈ tb := tb_in (tj_7 _ (List.mem_of_getElem? (i := 36) rfl)) rfl
theorem wconl_303 : Cond.constantLong RX11 435 (7) ∈ tb := tb_in (tj_7 _ (List.mem_of_getElem? (i := 37) rfl)) rfl
theorem wml_304 : Cond.methodLink RX11 437 yX11_fillsNight ∈ tb := tb_in (tj_7 _ (List.mem_of_getElem? (i := 38) rfl)) rfl
theorem winst_305 : Cond.instanceMethod yX11_fillsNight ∈ tb := tb_in (tj_7 _ (List.mem_of_getElem? (i := 40) rfl)) rfl
theorem wsel_306 : Cond.selects yX11_fillsNight.cls yX11_fillsNight yX11_fillsNight ∈ tb := tb_in (sel_7 _ (List.mem_of_getElem? (i := 13) rfl)) rfl
theorem wml_307 : Cond.methodLink RX11 440 yX11_fillsLeast ∈ tb := tb_in (tj_7 _ (List.mem_of_getElem? (i := 46) rfl)) rfl
theorem winst_308 : Cond.instanceMethod yX11_fillsLeast ∈ tb := tb_in (tj_7 _ (List.mem_of_getElem? (i := 48) rfl)) rfl
theorem wsel_309 : Cond.selects yX11_fillsLeast.cls yX11_fillsLeast yX11_fillsLeast ∈ tb := tb_in (sel_7 _ (List.mem_of_getElem? (i := 15) rfl)) rfl
theorem wcon_310 : Cond.constant RX11 445 (-1000000) ∈ tb := tb_in (tj_7 _ (List.mem_of_getElem? (i := 63) rfl)) rfl
theorem wconl_311 : Cond.constantLong RX11 443 (60) ∈ tb := tb_in (tj_7 _ (List.mem_of_getElem? (i := 62) rfl)) rfl
theorem wml_312 : Cond.methodLink RX11 446 yX11_owedHeld ∈ tb := tb_in (tj_7 _ (List.mem_of_getElem? (i := 68) rfl)) rfl
theorem winst_313 : Cond.instanceMethod yX11_owedHeld ∈ tb := tb_in (tj_7 _ (List.mem_of_getElem? (i := 70) rfl)) rfl
theorem wsel_314 : Cond.selects yX11_owedHeld.cls yX11_owedHeld yX11_owedHeld ∈ tb := tb_in (sel_8 _ (List.mem_of_getElem? (i := 2) rfl)) rfl
theorem wfl_315 : Cond.fieldLink RX11 449 (TX11 22).1 (TX11 22).2.1 (TX11 22).2.2.1 ∈ tb := tb_in (tj_5 _ (List.mem_of_getElem? (i := 16) rfl)) rfl
theorem wfl_316 : Cond.fieldLink RX11 452 (TX11 31).1 (TX11 31).2.1 (TX11 31).2.2.1 ∈ tb := tb_in (tj_5 _ (List.mem_of_getElem? (i := 25) rfl)) rfl
theorem wconl_317 : Cond.constantLong RX11 456 (1103515245) ∈ tb := tb_in (tj_7 _ (List.mem_of_getElem? (i := 84) rfl)) rfl
theorem wconl_318 : Cond.constantLong RX11 458 (12345) ∈ tb := tb_in (tj_7 _ (List.mem_of_getElem? (i := 85) rfl)) rfl
theorem wconl_319 : Cond.constantLong RX11 460 (2147483648) ∈ tb := tb_in (tj_7 _ (List.mem_of_getElem? (i := 86) rfl)) rfl
theorem wconl_320 : Cond.constantLong RX11 462 (65536) ∈ tb := tb_in (tj_7 _ (List.mem_of_getElem? (i := 87) rfl)) rfl
theorem wml_321 : Cond.methodLink RX11 464 yX11_draw ∈ tb := tb_in (tj_7 _ (List.mem_of_getElem? (i := 80) rfl)) rfl
theorem winst_322 : Cond.instanceMethod yX11_draw ∈ tb := tb_in (tj_7 _ (List.mem_of_getElem? (i := 82) rfl)) rfl
theorem wsel_323 : Cond.selects yX11_draw.cls yX11_draw yX11_draw ∈ tb := tb_in (sel_8 _ (List.mem_of_getElem? (i := 3) rfl)) rfl
theorem wml_324 : Cond.methodLink RX2 3 objectInit ∈ tb := tb_in (tj_1 _ (List.mem_of_getElem? (i := 188) rfl)) rfl
theorem wfl_325 : Cond.fieldLink RX2 9 (TX2 0).1 (TX2 0).2.1 (TX2 0).2.2.1 ∈ tb := tb_in (tj_1 _ (List.mem_of_getElem? (i := 189) rfl)) rfl
theorem wfl_326 : Cond.fieldLink RX2 15 (TX2 1).1 (TX2 1).2.1 (TX2 1).2.2.1 ∈ tb := tb_in (tj_1 _ (List.mem_of_getElem? (i := 192) rfl)) rfl
theorem wfl_327 : Cond.fieldLink RX2 18 (TX2 2).1 (TX2 2).2.1 (TX2 2).2.2.1 ∈ tb := tb_in (tj_1 _ (List.mem_of_getElem? (i := 195) rfl)) rfl
theorem wfl_328 : Cond.fieldLink RX2 21 (TX2 3).1 (TX2 3).2.1 (TX2 3).2.2.1 ∈ tb := tb_in (tj_1 _ (List.mem_of_getElem? (i := 198) rfl)) rfl
theorem wfl_329 : Cond.fieldLink RX2 24 (TX2 4).1 (TX2 4).2.1 (TX2 4).2.2.1 ∈ tb := tb_in (tj_1 _ (List.mem_of_getElem? (i := 199) rfl)) rfl
theorem wfl_330 : Cond.fieldLink RX2 27 (TX2 5).1 (TX2 5).2.1 (TX2 5).2.2.1 ∈ tb := tb_in (tj_1 _ (List.mem_of_getElem? (i := 200) rfl)) rfl
theorem wfl_331 : Cond.fieldLink RX2 31 (TX2 6).1 (TX2 6).2.1 (TX2 6).2.2.1 ∈ tb := tb_in (tj_1 _ (List.mem_of_getElem? (i := 203) rfl)) rfl
theorem wfl_332 : Cond.fieldLink RX2 34 (TX2 7).1 (TX2 7).2.1 (TX2 7).2.2.1 ∈ tb := tb_in (tj_1 _ (List.mem_of_getElem? (i := 206) rfl)) rfl
theorem wml_333 : Cond.methodLink RX0 1 objectInit ∈ tb := tb_in (tj_2 _ (List.mem_of_getElem? (i := 41) rfl)) rfl
theorem wclk_334 : Cond.classLink RX0 9 RX2 ∈ tb := tb_in (tj_2 _ (List.mem_of_getElem? (i := 42) rfl)) rfl
theorem wover_335 : Cond.arrayOver (.object RX2) ∈ lw_tbl := tj_2 _ (List.mem_of_getElem? (i := 43) rfl)
theorem wfl_336 : Cond.fieldLink RX0 11 (TX0 0).1 (TX0 0).2.1 (TX0 0).2.2.1 ∈ tb := tb_in (tj_2 _ (List.mem_of_getElem? (i := 45) rfl)) rfl
theorem wfl_337 : Cond.fieldLink RX0 15 (TX0 1).1 (TX0 1).2.1 (TX0 1).2.2.1 ∈ tb := tb_in (tj_2 _ (List.mem_of_getElem? (i := 46) rfl)) rfl
theorem wfl_338 : Cond.fieldLink RX0 19 (TX0 2).1 (TX0 2).2.1 (TX0 2).2.2.1 ∈ tb := tb_in (tj_2 _ (List.mem_of_getElem? (i := 47) rfl)) rfl
theorem winsta_339 : Cond.instantiable RX2 8 ∈ tb := tb_in (tj_1 _ (List.mem_of_getElem? (i := 184) rfl)) rfl
theorem wini_340 : Cond.initialized "SleepersPay$Moment" ∈ tb := tb_in (tj_1 _ (List.mem_of_getElem? (i := 7) rfl)) rfl
theorem wnest_341 : Cond.methodLinkNest RX0 22 yX2_init "SleepersPay" ∈ lw_tbl := tj_2 _ (List.mem_of_getElem? (i := 44) rfl)
theorem winst_342 : Cond.instanceMethod yX2_init ∈ tb := tb_in (tj_1 _ (List.mem_of_getElem? (i := 186) rfl)) rfl
theorem wml_343 : Cond.methodLink RX2 38 arraycopyName ∈ tb := tb_in (tj_3 _ (List.mem_of_getElem? (i := 208) rfl)) rfl
theorem wnative_344 : Cond.native arraycopyName ∈ tb := tb_in (tj_3 _ (List.mem_of_getElem? (i := 58) rfl)) rfl
theorem wstat_345 : Cond.static arraycopyName ∈ tb := tb_in (tj_3 _ (List.mem_of_getElem? (i := 57) rfl)) rfl
theorem wini_346 : Cond.initialized "java/lang/System" ∈ tb := tb_in (tj_1 _ (List.mem_of_getElem? (i := 17) rfl)) rfl
theorem wml_347 : Cond.methodLink RX0 23 yX2_copyOf ∈ tb := tb_in (tj_3 _ (List.mem_of_getElem? (i := 204) rfl)) rfl
theorem winst_348 : Cond.instanceMethod yX2_copyOf ∈ tb := tb_in (tj_3 _ (List.mem_of_getElem? (i := 205) rfl)) rfl
theorem wsel_349 : Cond.selects yX2_copyOf.cls yX2_copyOf yX2_copyOf ∈ tb := tb_in (tj_3 _ (List.mem_of_getElem? (i := 206) rfl)) rfl
theorem wml_350 : Cond.methodLink RX0 27 yJ9_min_7cf53 ∈ tb := tb_in (tj_3 _ (List.mem_of_getElem? (i := 209) rfl)) rfl
theorem wstat_351 : Cond.static yJ9_min_7cf53 ∈ tb := tb_in (tj_3 _ (List.mem_of_getElem? (i := 136) rfl)) rfl
theorem wml_352 : Cond.methodLink RX0 33 yJ9_floorMod_7cf53 ∈ tb := tb_in (tj_4 _ (List.mem_of_getElem? (i := 51) rfl)) rfl
theorem wstat_353 : Cond.static yJ9_floorMod_7cf53 ∈ tb := tb_in (tj_4 _ (List.mem_of_getElem? (i := 52) rfl)) rfl
theorem wml_354 : Cond.methodLink RX1 3 objectInit ∈ tb := tb_in (tj_1 _ (List.mem_of_getElem? (i := 232) rfl)) rfl
theorem wfl_355 : Cond.fieldLink RX1 9 (TX1 0).1 (TX1 0).2.1 (TX1 0).2.2.1 ∈ tb := tb_in (tj_1 _ (List.mem_of_getElem? (i := 233) rfl)) rfl
theorem wfl_356 : Cond.fieldLink RX1 15 (TX1 1).1 (TX1 1).2.1 (TX1 1).2.2.1 ∈ tb := tb_in (tj_1 _ (List.mem_of_getElem? (i := 234) rfl)) rfl
theorem wfl_357 : Cond.fieldLink RX1 18 (TX1 2).1 (TX1 2).2.1 (TX1 2).2.2.1 ∈ tb := tb_in (tj_1 _ (List.mem_of_getElem? (i := 235) rfl)) rfl
theorem wfl_358 : Cond.fieldLink RX1 21 (TX1 3).1 (TX1 3).2.1 (TX1 3).2.2.1 ∈ tb := tb_in (tj_1 _ (List.mem_of_getElem? (i := 236) rfl)) rfl
theorem wfl_359 : Cond.fieldLink RX1 24 (TX1 4).1 (TX1 4).2.1 (TX1 4).2.2.1 ∈ tb := tb_in (tj_1 _ (List.mem_of_getElem? (i := 237) rfl)) rfl
theorem wml_360 : Cond.methodLink RX1 28 arraycopyName ∈ tb := tb_in (tj_4 _ (List.mem_of_getElem? (i := 223) rfl)) rfl
theorem wcon_361 : Cond.constant RJ6 265 (1431655765) ∈ tb := tb_in (tj_4 _ (List.mem_of_getElem? (i := 0) rfl)) rfl
theorem wcon_362 : Cond.constant RJ6 266 (858993459) ∈ tb := tb_in (tj_4 _ (List.mem_of_getElem? (i := 1) rfl)) rfl
theorem wcon_363 : Cond.constant RJ6 267 (252645135) ∈ tb := tb_in (tj_4 _ (List.mem_of_getElem? (i := 2) rfl)) rfl
theorem wml_364 : Cond.methodLink RX1 38 yJ6_bitCount_0f7a4 ∈ tb := tb_in (tj_4 _ (List.mem_of_getElem? (i := 147) rfl)) rfl
theorem wstat_365 : Cond.static yJ6_bitCount_0f7a4 ∈ tb := tb_in (tj_3 _ (List.mem_of_getElem? (i := 238) rfl)) rfl
theorem wnest_366 : Cond.methodLinkNest RX1 44 yX10_bitOf "SleepersPay" ∈ lw_tbl := tj_4 _ (List.mem_of_getElem? (i := 148) rfl)
theorem wstat_367 : Cond.static yX10_bitOf ∈ tb := tb_in (tj_3 _ (List.mem_of_getElem? (i := 158) rfl)) rfl
theorem wml_368 : Cond.methodLink RX1 34 yX1_allows ∈ tb := tb_in (tj_4 _ (List.mem_of_getElem? (i := 143) rfl)) rfl
theorem winst_369 : Cond.instanceMethod yX1_allows ∈ tb := tb_in (tj_4 _ (List.mem_of_getElem? (i := 145) rfl)) rfl
theorem wsel_370 : Cond.selects yX1_allows.cls yX1_allows yX1_allows ∈ tb := tb_in (sel_3 _ (List.mem_of_getElem? (i := 3) rfl)) rfl
theorem wfl_371 : Cond.fieldLink RX2 44 (TX7 6).1 (TX7 6).2.1 (TX7 6).2.2.1 ∈ tb := tb_in (tj_1 _ (List.mem_of_getElem? (i := 132) rfl)) rfl
theorem wfl_372 : Cond.fieldLink RX7 27 (TX7 5).1 (TX7 5).2.1 (TX7 5).2.2.1 ∈ tb := tb_in (tj_1 _ (List.mem_of_getElem? (i := 130) rfl)) rfl
theorem wml_373 : Cond.methodLink RX2 49 yX7_litAt ∈ tb := tb_in (tj_3 _ (List.mem_of_getElem? (i := 184) rfl)) rfl
theorem winst_374 : Cond.instanceMethod yX7_litAt ∈ tb := tb_in (tj_3 _ (List.mem_of_getElem? (i := 185) rfl)) rfl
theorem wsel_375 : Cond.selects yX7_litAt.cls yX7_litAt yX7_litAt ∈ tb := tb_in (tj_3 _ (List.mem_of_getElem? (i := 186) rfl)) rfl
theorem wml_376 : Cond.methodLink RX2 53 yJ9_min_7cf53 ∈ tb := tb_in (tj_4 _ (List.mem_of_getElem? (i := 29) rfl)) rfl
theorem wfl_377 : Cond.fieldLink RX2 59 (TX7 7).1 (TX7 7).2.1 (TX7 7).2.2.1 ∈ tb := tb_in (tj_1 _ (List.mem_of_getElem? (i := 140) rfl)) rfl
theorem wfl_378 : Cond.fieldLink RX2 62 (TX7 0).1 (TX7 0).2.1 (TX7 0).2.2.1 ∈ tb := tb_in (tj_1 _ (List.mem_of_getElem? (i := 120) rfl)) rfl
theorem wml_379 : Cond.methodLink RX2 65 yJ9_max_7cf53 ∈ tb := tb_in (tj_4 _ (List.mem_of_getElem? (i := 30) rfl)) rfl
theorem wstat_380 : Cond.static yJ9_max_7cf53 ∈ tb := tb_in (tj_3 _ (List.mem_of_getElem? (i := 42) rfl)) rfl
theorem wml_381 : Cond.methodLink RX3 3 objectInit ∈ tb := tb_in (tj_2 _ (List.mem_of_getElem? (i := 61) rfl)) rfl
theorem wfl_382 : Cond.fieldLink RX3 11 (TX3 0).1 (TX3 0).2.1 (TX3 0).2.2.1 ∈ tb := tb_in (tj_2 _ (List.mem_of_getElem? (i := 62) rfl)) rfl
theorem wfl_383 : Cond.fieldLink RX3 15 (TX3 1).1 (TX3 1).2.1 (TX3 1).2.2.1 ∈ tb := tb_in (tj_2 _ (List.mem_of_getElem? (i := 63) rfl)) rfl
theorem wfl_384 : Cond.fieldLink RX7 24 (TX7 4).1 (TX7 4).2.1 (TX7 4).2.2.1 ∈ tb := tb_in (tj_1 _ (List.mem_of_getElem? (i := 129) rfl)) rfl
theorem wnest_385 : Cond.methodLinkNest RX7 52 yX10_bitOf "SleepersPay" ∈ lw_tbl := tj_3 _ (List.mem_of_getElem? (i := 236) rfl)
theorem wfl_386 : Cond.fieldLink RX7 21 (TX7 3).1 (TX7 3).2.1 (TX7 3).2.2.1 ∈ tb := tb_in (tj_1 _ (List.mem_of_getElem? (i := 127) rfl)) rfl
theorem wfl_387 : Cond.fieldLink RX7 40 (TX7 9).1 (TX7 9).2.1 (TX7 9).2.2.1 ∈ tb := tb_in (tj_1 _ (List.mem_of_getElem? (i := 144) rfl)) rfl
theorem wfl_388 : Cond.fieldLink RX7 18 (TX7 2).1 (TX7 2).2.1 (TX7 2).2.2.1 ∈ tb := tb_in (tj_1 _ (List.mem_of_getElem? (i := 125) rfl)) rfl
theorem wfl_389 : Cond.fieldLink RX3 19 (TX2 0).1 (TX2 0).2.1 (TX2 0).2.2.1 ∈ tb := tb_in (tj_1 _ (List.mem_of_getElem? (i := 190) rfl)) rfl
theorem wml_390 : Cond.methodLink RX3 79 yX2_burningAt ∈ tb := tb_in (tj_3 _ (List.mem_of_getElem? (i := 231) rfl)) rfl
theorem winst_391 : Cond.instanceMethod yX2_burningAt ∈ tb := tb_in (tj_3 _ (List.mem_of_getElem? (i := 181) rfl)) rfl
theorem wsel_392 : Cond.selects yX2_burningAt.cls yX2_burningAt yX2_burningAt ∈ tb := tb_in (tj_3 _ (List.mem_of_getElem? (i := 182) rfl)) rfl
theorem wfl_393 : Cond.fieldLink RX3 112 (TX2 1).1 (TX2 1).2.1 (TX2 1).2.2.1 ∈ tb := tb_in (tj_1 _ (List.mem_of_getElem? (i := 193) rfl)) rfl
theorem wfl_394 : Cond.fieldLink RX3 115 (TX7 0).1 (TX7 0).2.1 (TX7 0).2.2.1 ∈ tb := tb_in (tj_1 _ (List.mem_of_getElem? (i := 121) rfl)) rfl
theorem wfl_395 : Cond.fieldLink RX3 118 (TX7 1).1 (TX7 1).2.1 (TX7 1).2.2.1 ∈ tb := tb_in (tj_1 _ (List.mem_of_getElem? (i := 124) rfl)) rfl
theorem wfl_396 : Cond.fieldLink RX3 52 (TX2 5).1 (TX2 5).2.1 (TX2 5).2.2.1 ∈ tb := tb_in (tj_1 _ (List.mem_of_getElem? (i := 201) rfl)) rfl
theorem wfl_397 : Cond.fieldLink RX3 121 (TX7 6).1 (TX7 6).2.1 (TX7 6).2.2.1 ∈ tb := tb_in (tj_1 _ (List.mem_of_getElem? (i := 134) rfl)) rfl
theorem wml_398 : Cond.methodLink RX3 85 yX7_costOf ∈ tb := tb_in (tj_3 _ (List.mem_of_getElem? (i := 232) rfl)) rfl
theorem winst_399 : Cond.instanceMethod yX7_costOf ∈ tb := tb_in (tj_3 _ (List.mem_of_getElem? (i := 233) rfl)) rfl
theorem wsel_400 : Cond.selects yX7_costOf.cls yX7_costOf yX7_costOf ∈ tb := tb_in (tj_3 _ (List.mem_of_getElem? (i := 234) rfl)) rfl
theorem wfl_401 : Cond.fieldLink RX3 30 (TX2 2).1 (TX2 2).2.1 (TX2 2).2.2.1 ∈ tb := tb_in (tj_1 _ (List.mem_of_getElem? (i := 196) rfl)) rfl
theorem wml_402 : Cond.methodLink RX3 60 yJ6_bitCount_0f7a4 ∈ tb := tb_in (tj_3 _ (List.mem_of_getElem? (i := 237) rfl)) rfl
theorem wnest_403 : Cond.methodLinkNest RX3 36 yX10_bitOf "SleepersPay" ∈ lw_tbl := tj_3 _ (List.mem_of_getElem? (i := 219) rfl)
theorem wfl_404 : Cond.fieldLink RX3 88 (TX2 7).1 (TX2 7).2.1 (TX2 7).2.2.1 ∈ tb := tb_in (tj_1 _ (List.mem_of_getElem? (i := 207) rfl)) rfl
theorem wconl_405 : Cond.constantLong RX3 83 (60) ∈ tb := tb_in (tj_4 _ (List.mem_of_getElem? (i := 3) rfl)) rfl
theorem wfl_406 : Cond.fieldLink RX3 124 (TX2 6).1 (TX2 6).2.1 (TX2 6).2.2.1 ∈ tb := tb_in (tj_1 _ (List.mem_of_getElem? (i := 205) rfl)) rfl
theorem wml_407 : Cond.methodLink RX3 127 yX7_lampsOf ∈ tb := tb_in (tj_4 _ (List.mem_of_getElem? (i := 4) rfl)) rfl
theorem winst_408 : Cond.instanceMethod yX7_lampsOf ∈ tb := tb_in (tj_4 _ (List.mem_of_getElem? (i := 5) rfl)) rfl
theorem wsel_409 : Cond.selects yX7_lampsOf.cls yX7_lampsOf yX7_lampsOf ∈ tb := tb_in (tj_4 _ (List.mem_of_getElem? (i := 6) rfl)) rfl
theorem wfl_410 : Cond.fieldLink RX3 91 (TX4 0).1 (TX4 0).2.1 (TX4 0).2.2.1 ∈ tb := tb_in (tj_3 _ (List.mem_of_getElem? (i := 141) rfl)) rfl
theorem wml_411 : Cond.methodLink RX3 104 yX3_pop ∈ tb := tb_in (tj_4 _ (List.mem_of_getElem? (i := 8) rfl)) rfl
theorem winst_412 : Cond.instanceMethod yX3_pop ∈ tb := tb_in (tj_4 _ (List.mem_of_getElem? (i := 10) rfl)) rfl
theorem wsel_413 : Cond.selects yX3_pop.cls yX3_pop yX3_pop ∈ tb := tb_in (sel_2 _ (List.mem_of_getElem? (i := 10) rfl)) rfl
theorem wml_414 : Cond.methodLink RX3 108 yX4_combine ∈ tb := tb_in (tj_4 _ (List.mem_of_getElem? (i := 12) rfl)) rfl
theorem wstat_415 : Cond.static yX4_combine ∈ tb := tb_in (tj_4 _ (List.mem_of_getElem? (i := 13) rfl)) rfl
theorem wml_416 : Cond.methodLink RX3 96 yX3_push ∈ tb := tb_in (tj_3 _ (List.mem_of_getElem? (i := 224) rfl)) rfl
theorem winst_417 : Cond.instanceMethod yX3_push ∈ tb := tb_in (tj_3 _ (List.mem_of_getElem? (i := 226) rfl)) rfl
theorem wsel_418 : Cond.selects yX3_push.cls yX3_push yX3_push ∈ tb := tb_in (sel_2 _ (List.mem_of_getElem? (i := 9) rfl)) rfl
theorem wml_419 : Cond.methodLink RX3 100 yX3_valueOf ∈ tb := tb_in (tj_3 _ (List.mem_of_getElem? (i := 228) rfl)) rfl
theorem wstat_420 : Cond.static yX3_valueOf ∈ tb := tb_in (tj_3 _ (List.mem_of_getElem? (i := 229) rfl)) rfl
theorem wfl_421 : Cond.fieldLink RX7 34 (TX7 7).1 (TX7 7).2.1 (TX7 7).2.2.1 ∈ tb := tb_in (tj_1 _ (List.mem_of_getElem? (i := 136) rfl)) rfl
theorem wml_422 : Cond.methodLink RX3 75 yX7_everyone ∈ tb := tb_in (tj_4 _ (List.mem_of_getElem? (i := 21) rfl)) rfl
theorem winst_423 : Cond.instanceMethod yX7_everyone ∈ tb := tb_in (tj_4 _ (List.mem_of_getElem? (i := 22) rfl)) rfl
theorem wsel_424 : Cond.selects yX7_everyone.cls yX7_everyone yX7_everyone ∈ tb := tb_in (tj_4 _ (List.mem_of_getElem? (i := 23) rfl)) rfl
theorem wfl_425 : Cond.fieldLink RX3 33 (TX7 7).1 (TX7 7).2.1 (TX7 7).2.2.1 ∈ tb := tb_in (tj_1 _ (List.mem_of_getElem? (i := 137) rfl)) rfl
theorem wml_426 : Cond.methodLink RX3 24 yX7_workersAt ∈ tb := tb_in (tj_3 _ (List.mem_of_getElem? (i := 218) rfl)) rfl
theorem winst_427 : Cond.instanceMethod yX7_workersAt ∈ tb := tb_in (tj_3 _ (List.mem_of_getElem? (i := 165) rfl)) rfl
theorem wsel_428 : Cond.selects yX7_workersAt.cls yX7_workersAt yX7_workersAt ∈ tb := tb_in (tj_3 _ (List.mem_of_getElem? (i := 166) rfl)) rfl
theorem wml_429 : Cond.methodLink RX3 40 yX3_answer ∈ tb := tb_in (tj_3 _ (List.mem_of_getElem? (i := 220) rfl)) rfl
theorem winst_430 : Cond.instanceMethod yX3_answer ∈ tb := tb_in (tj_3 _ (List.mem_of_getElem? (i := 222) rfl)) rfl
theorem wsel_431 : Cond.selects yX3_answer.cls yX3_answer yX3_answer ∈ tb := tb_in (sel_2 _ (List.mem_of_getElem? (i := 8) rfl)) rfl
theorem wml_432 : Cond.methodLink RX3 48 yX3_share ∈ tb := tb_in (tj_4 _ (List.mem_of_getElem? (i := 18) rfl)) rfl
theorem wstat_433 : Cond.static yX3_share ∈ tb := tb_in (tj_4 _ (List.mem_of_getElem? (i := 19) rfl)) rfl
theorem wml_434 : Cond.methodLink RX3 56 yX2_goOn ∈ tb := tb_in (tj_4 _ (List.mem_of_getElem? (i := 25) rfl)) rfl
theorem winst_435 : Cond.instanceMethod yX2_goOn ∈ tb := tb_in (tj_4 _ (List.mem_of_getElem? (i := 26) rfl)) rfl
theorem wsel_436 : Cond.selects yX2_goOn.cls yX2_goOn yX2_goOn ∈ tb := tb_in (tj_4 _ (List.mem_of_getElem? (i := 27) rfl)) rfl
theorem wml_437 : Cond.methodLink RX3 44 yX3_setAsleep ∈ tb := tb_in (tj_4 _ (List.mem_of_getElem? (i := 15) rfl)) rfl
theorem wstat_438 : Cond.static yX3_setAsleep ∈ tb := tb_in (tj_4 _ (List.mem_of_getElem? (i := 16) rfl)) rfl
theorem wconl_439 : Cond.constantLong RX3 65 (1103515245) ∈ tb := tb_in (tj_4 _ (List.mem_of_getElem? (i := 200) rfl)) rfl
theorem wconl_440 : Cond.constantLong RX3 67 (12345) ∈ tb := tb_in (tj_4 _ (List.mem_of_getElem? (i := 201) rfl)) rfl
theorem wconl_441 : Cond.constantLong RX3 69 (2147483647) ∈ tb := tb_in (tj_4 _ (List.mem_of_getElem? (i := 202) rfl)) rfl
theorem wconl_442 : Cond.constantLong RX3 71 (65536) ∈ tb := tb_in (tj_4 _ (List.mem_of_getElem? (i := 203) rfl)) rfl
theorem wconl_443 : Cond.constantLong RX3 73 (100) ∈ tb := tb_in (tj_4 _ (List.mem_of_getElem? (i := 204) rfl)) rfl
theorem wml_444 : Cond.methodLink RX4 1 objectInit ∈ tb := tb_in (tj_3 _ (List.mem_of_getElem? (i := 134) rfl)) rfl
theorem wml_445 : Cond.methodLink RX4 7 yJ9_min_7cf53 ∈ tb := tb_in (tj_3 _ (List.mem_of_getElem? (i := 135) rfl)) rfl
theorem wml_446 : Cond.methodLink RX4 13 yJ9_max_7cf53 ∈ tb := tb_in (tj_3 _ (List.mem_of_getElem? (i := 138) rfl)) rfl
theorem wfl_447 : Cond.fieldLink RX4 16 (TX4 0).1 (TX4 0).2.1 (TX4 0).2.2.1 ∈ tb := tb_in (tj_3 _ (List.mem_of_getElem? (i := 140) rfl)) rfl
theorem wml_448 : Cond.methodLink RX4 22 arraycopyName ∈ tb := tb_in (tj_3 _ (List.mem_of_getElem? (i := 139) rfl)) rfl
theorem wml_449 : Cond.methodLink RX5 7 objectInit ∈ tb := tb_in (tj_1 _ (List.mem_of_getElem? (i := 98) rfl)) rfl
theorem wfl_450 : Cond.fieldLink RX5 13 (TX5 1).1 (TX5 1).2.1 (TX5 1).2.2.1 ∈ tb := tb_in (tj_1 _ (List.mem_of_getElem? (i := 100) rfl)) rfl
theorem wfl_451 : Cond.fieldLink RX5 17 (TX5 2).1 (TX5 2).2.1 (TX5 2).2.2.1 ∈ tb := tb_in (tj_1 _ (List.mem_of_getElem? (i := 101) rfl)) rfl
theorem wfl_452 : Cond.fieldLink RX5 21 (TX5 3).1 (TX5 3).2.1 (TX5 3).2.2.1 ∈ tb := tb_in (tj_1 _ (List.mem_of_getElem? (i := 102) rfl)) rfl
theorem wfl_453 : Cond.fieldLink RX5 24 (TX5 0).1 (TX5 0).2.1 (TX5 0).2.2.1 ∈ tb := tb_in (tj_1 _ (List.mem_of_getElem? (i := 99) rfl)) rfl
theorem wclk_454 : Cond.classLink RX5 28 RX4 ∈ tb := tb_in (tj_3 _ (List.mem_of_getElem? (i := 129) rfl)) rfl
theorem winsta_455 : Cond.instantiable RX4 1 ∈ tb := tb_in (tj_3 _ (List.mem_of_getElem? (i := 130) rfl)) rfl
theorem wini_456 : Cond.initialized "SleepersPay$Rule" ∈ tb := tb_in (tj_1 _ (List.mem_of_getElem? (i := 18) rfl)) rfl
theorem wml_457 : Cond.methodLink RX5 30 yX4_init ∈ tb := tb_in (tj_3 _ (List.mem_of_getElem? (i := 131) rfl)) rfl
theorem winst_458 : Cond.instanceMethod yX4_init ∈ tb := tb_in (tj_3 _ (List.mem_of_getElem? (i := 132) rfl)) rfl
theorem wfl_459 : Cond.fieldLink RX9 15 (TX9 1).1 (TX9 1).2.1 (TX9 1).2.2.1 ∈ tb := tb_in (tj_1 _ (List.mem_of_getElem? (i := 35) rfl)) rfl
theorem wfl_460 : Cond.fieldLink RX9 11 (TX9 0).1 (TX9 0).2.1 (TX9 0).2.2.1 ∈ tb := tb_in (tj_1 _ (List.mem_of_getElem? (i := 34) rfl)) rfl
theorem wfl_461 : Cond.fieldLink RX9 32 (TX9 6).1 (TX9 6).2.1 (TX9 6).2.2.1 ∈ tb := tb_in (tj_1 _ (List.mem_of_getElem? (i := 43) rfl)) rfl
theorem wfl_462 : Cond.fieldLink RX9 22 (TX9 3).1 (TX9 3).2.1 (TX9 3).2.2.1 ∈ tb := tb_in (tj_1 _ (List.mem_of_getElem? (i := 40) rfl)) rfl
theorem wfl_463 : Cond.fieldLink RX9 26 (TX9 4).1 (TX9 4).2.1 (TX9 4).2.2.1 ∈ tb := tb_in (tj_1 _ (List.mem_of_getElem? (i := 41) rfl)) rfl
theorem wfl_464 : Cond.fieldLink RX9 29 (TX9 5).1 (TX9 5).2.1 (TX9 5).2.2.1 ∈ tb := tb_in (tj_1 _ (List.mem_of_getElem? (i := 42) rfl)) rfl
theorem wml_465 : Cond.methodLink RX9 61 yX9_byteAt ∈ tb := tb_in (tj_2 _ (List.mem_of_getElem? (i := 147) rfl)) rfl
theorem winst_466 : Cond.instanceMethod yX9_byteAt ∈ tb := tb_in (tj_2 _ (List.mem_of_getElem? (i := 149) rfl)) rfl
theorem wsel_467 : Cond.selects yX9_byteAt.cls yX9_byteAt yX9_byteAt ∈ tb := tb_in (sel_1 _ (List.mem_of_getElem? (i := 1) rfl)) rfl
theorem wml_468 : Cond.methodLink RX9 64 yX9_isDigit ∈ tb := tb_in (tj_2 _ (List.mem_of_getElem? (i := 151) rfl)) rfl
theorem wstat_469 : Cond.static yX9_isDigit ∈ tb := tb_in (tj_2 _ (List.mem_of_getElem? (i := 152) rfl)) rfl
theorem wml_470 : Cond.methodLink RX9 54 yX9_add ∈ tb := tb_in (tj_2 _ (List.mem_of_getElem? (i := 158) rfl)) rfl
theorem winst_471 : Cond.instanceMethod yX9_add ∈ tb := tb_in (tj_2 _ (List.mem_of_getElem? (i := 160) rfl)) rfl
theorem wsel_472 : Cond.selects yX9_add.cls yX9_add yX9_add ∈ tb := tb_in (sel_1 _ (List.mem_of_getElem? (i := 3) rfl)) rfl
theorem wml_473 : Cond.methodLink RX9 71 yX9_isSmall ∈ tb := tb_in (tj_2 _ (List.mem_of_getElem? (i := 162) rfl)) rfl
theorem wstat_474 : Cond.static yX9_isSmall ∈ tb := tb_in (tj_2 _ (List.mem_of_getElem? (i := 163) rfl)) rfl
theorem wml_475 : Cond.methodLink RX9 77 yX9_wordBetween ∈ tb := tb_in (tj_2 _ (List.mem_of_getElem? (i := 169) rfl)) rfl
theorem winst_476 : Cond.instanceMethod yX9_wordBetween ∈ tb := tb_in (tj_2 _ (List.mem_of_getElem? (i := 171) rfl)) rfl
theorem wsel_477 : Cond.selects yX9_wordBetween.cls yX9_wordBetween yX9_wordBetween ∈ tb := tb_in (sel_1 _ (List.mem_of_getElem? (i := 5) rfl)) rfl
theorem wml_478 : Cond.methodLink RX9 74 yX9_splitWord ∈ tb := tb_in (tj_2 _ (List.mem_of_getElem? (i := 165) rfl)) rfl
theorem winst_479 : Cond.instanceMethod yX9_splitWord ∈ tb := tb_in (tj_2 _ (List.mem_of_getElem? (i := 167) rfl)) rfl
theorem wsel_480 : Cond.selects yX9_splitWord.cls yX9_splitWord yX9_splitWord ∈ tb := tb_in (sel_1 _ (List.mem_of_getElem? (i := 4) rfl)) rfl
theorem wml_481 : Cond.methodLink RX9 68 yX9_splitNumber ∈ tb := tb_in (tj_2 _ (List.mem_of_getElem? (i := 154) rfl)) rfl
theorem winst_482 : Cond.instanceMethod yX9_splitNumber ∈ tb := tb_in (tj_2 _ (List.mem_of_getElem? (i := 156) rfl)) rfl
theorem wsel_483 : Cond.selects yX9_splitNumber.cls yX9_splitNumber yX9_splitNumber ∈ tb := tb_in (sel_1 _ (List.mem_of_getElem? (i := 2) rfl)) rfl
theorem wfl_484 : Cond.fieldLink RX9 35 (TX9 7).1 (TX9 7).2.1 (TX9 7).2.2.1 ∈ tb := tb_in (tj_1 _ (List.mem_of_getElem? (i := 44) rfl)) rfl
theorem wfl_485 : Cond.fieldLink RX9 38 (TX9 8).1 (TX9 8).2.1 (TX9 8).2.2.1 ∈ tb := tb_in (tj_1 _ (List.mem_of_getElem? (i := 45) rfl)) rfl
theorem wfl_486 : Cond.fieldLink RX9 41 (TX9 9).1 (TX9 9).2.1 (TX9 9).2.2.1 ∈ tb := tb_in (tj_1 _ (List.mem_of_getElem? (i := 48) rfl)) rfl
theorem wfl_487 : Cond.fieldLink RX9 44 (TX9 10).1 (TX9 10).2.1 (TX9 10).2.2.1 ∈ tb := tb_in (tj_1 _ (List.mem_of_getElem? (i := 51) rfl)) rfl
theorem wfl_488 : Cond.fieldLink RX9 47 (TX9 11).1 (TX9 11).2.1 (TX9 11).2.2.1 ∈ tb := tb_in (tj_1 _ (List.mem_of_getElem? (i := 54) rfl)) rfl
theorem wfl_489 : Cond.fieldLink RX9 19 (TX9 2).1 (TX9 2).2.1 (TX9 2).2.2.1 ∈ tb := tb_in (tj_1 _ (List.mem_of_getElem? (i := 37) rfl)) rfl
theorem wml_490 : Cond.methodLink RX9 50 yX9_splitAt ∈ tb := tb_in (tj_2 _ (List.mem_of_getElem? (i := 143) rfl)) rfl
theorem winst_491 : Cond.instanceMethod yX9_splitAt ∈ tb := tb_in (tj_2 _ (List.mem_of_getElem? (i := 145) rfl)) rfl
theorem wsel_492 : Cond.selects yX9_splitAt.cls yX9_splitAt yX9_splitAt ∈ tb := tb_in (sel_1 _ (List.mem_of_getElem? (i := 0) rfl)) rfl
theorem wml_493 : Cond.methodLink RX9 58 yX9_step ∈ tb := tb_in (tj_2 _ (List.mem_of_getElem? (i := 226) rfl)) rfl
theorem winst_494 : Cond.instanceMethod yX9_step ∈ tb := tb_in (tj_2 _ (List.mem_of_getElem? (i := 227) rfl)) rfl
theorem wsel_495 : Cond.selects yX9_step.cls yX9_step yX9_step ∈ tb := tb_in (tj_2 _ (List.mem_of_getElem? (i := 228) rfl)) rfl
theorem wfl_496 : Cond.fieldLink RX5 43 (TX9 8).1 (TX9 8).2.1 (TX9 8).2.2.1 ∈ tb := tb_in (tj_1 _ (List.mem_of_getElem? (i := 47) rfl)) rfl
theorem wfl_497 : Cond.fieldLink RX5 49 (TX9 10).1 (TX9 10).2.1 (TX9 10).2.2.1 ∈ tb := tb_in (tj_1 _ (List.mem_of_getElem? (i := 53) rfl)) rfl
theorem wml_498 : Cond.methodLink RX5 52 yX9_refuse ∈ tb := tb_in (tj_3 _ (List.mem_of_getElem? (i := 84) rfl)) rfl
theorem winst_499 : Cond.instanceMethod yX9_refuse ∈ tb := tb_in (tj_2 _ (List.mem_of_getElem? (i := 238) rfl)) rfl
theorem wsel_500 : Cond.selects yX9_refuse.cls yX9_refuse yX9_refuse ∈ tb := tb_in (tj_2 _ (List.mem_of_getElem? (i := 239) rfl)) rfl
theorem wfl_501 : Cond.fieldLink RX5 94 (TX9 9).1 (TX9 9).2.1 (TX9 9).2.2.1 ∈ tb := tb_in (tj_1 _ (List.mem_of_getElem? (i := 50) rfl)) rfl
theorem wml_502 : Cond.methodLink RX5 62 yX5_emit ∈ tb := tb_in (tj_3 _ (List.mem_of_getElem? (i := 98) rfl)) rfl
theorem winst_503 : Cond.instanceMethod yX5_emit ∈ tb := tb_in (tj_3 _ (List.mem_of_getElem? (i := 100) rfl)) rfl
theorem wsel_504 : Cond.selects yX5_emit.cls yX5_emit yX5_emit ∈ tb := tb_in (sel_2 _ (List.mem_of_getElem? (i := 0) rfl)) rfl
theorem wml_505 : Cond.methodLink RX5 55 yX9_step ∈ tb := tb_in (tj_3 _ (List.mem_of_getElem? (i := 85) rfl)) rfl
theorem wml_506 : Cond.methodLink RX5 88 yX5_readValue ∈ tb := tb_in (tj_3 _ (List.mem_of_getElem? (i := 94) rfl)) rfl
theorem winst_507 : Cond.instanceMethod yX5_readValue ∈ tb := tb_in (tj_3 _ (List.mem_of_getElem? (i := 96) rfl)) rfl
theorem wsel_508 : Cond.selects yX5_readValue.cls yX5_readValue yX5_readValue ∈ tb := tb_in (sel_1 _ (List.mem_of_getElem? (i := 15) rfl)) rfl
theorem wfl_509 : Cond.fieldLink RX5 75 (TX9 11).1 (TX9 11).2.1 (TX9 11).2.2.1 ∈ tb := tb_in (tj_1 _ (List.mem_of_getElem? (i := 55) rfl)) rfl
theorem wml_510 : Cond.methodLink RX5 91 yX5_factorOf ∈ tb := tb_in (tj_3 _ (List.mem_of_getElem? (i := 102) rfl)) rfl
theorem wstat_511 : Cond.static yX5_factorOf ∈ tb := tb_in (tj_3 _ (List.mem_of_getElem? (i := 103) rfl)) rfl
theorem wml_512 : Cond.methodLink RX5 85 yX5_readTerm ∈ tb := tb_in (tj_3 _ (List.mem_of_getElem? (i := 90) rfl)) rfl
theorem winst_513 : Cond.instanceMethod yX5_readTerm ∈ tb := tb_in (tj_3 _ (List.mem_of_getElem? (i := 92) rfl)) rfl
theorem wsel_514 : Cond.selects yX5_readTerm.cls yX5_readTerm yX5_readTerm ∈ tb := tb_in (sel_1 _ (List.mem_of_getElem? (i := 14) rfl)) rfl
theorem wml_515 : Cond.methodLink RX5 58 yX5_readSum ∈ tb := tb_in (tj_3 _ (List.mem_of_getElem? (i := 86) rfl)) rfl
theorem winst_516 : Cond.instanceMethod yX5_readSum ∈ tb := tb_in (tj_3 _ (List.mem_of_getElem? (i := 88) rfl)) rfl
theorem wsel_517 : Cond.selects yX5_readSum.cls yX5_readSum yX5_readSum ∈ tb := tb_in (sel_1 _ (List.mem_of_getElem? (i := 13) rfl)) rfl
theorem wml_518 : Cond.methodLink RX5 81 yX5_comparisonOf ∈ tb := tb_in (tj_3 _ (List.mem_of_getElem? (i := 121) rfl)) rfl
theorem wstat_519 : Cond.static yX5_comparisonOf ∈ tb := tb_in (tj_3 _ (List.mem_of_getElem? (i := 122) rfl)) rfl
theorem wml_520 : Cond.methodLink RX9 96 yX9_refuse ∈ tb := tb_in (tj_3 _ (List.mem_of_getElem? (i := 13) rfl)) rfl
theorem wml_521 : Cond.methodLink RX5 78 yX5_readComparison ∈ tb := tb_in (tj_3 _ (List.mem_of_getElem? (i := 117) rfl)) rfl
theorem winst_522 : Cond.instanceMethod yX5_readComparison ∈ tb := tb_in (tj_3 _ (List.mem_of_getElem? (i := 119) rfl)) rfl
theorem wsel_523 : Cond.selects yX5_readComparison.cls yX5_readComparison yX5_readComparison ∈ tb := tb_in (sel_2 _ (List.mem_of_getElem? (i := 4) rfl)) rfl
theorem wml_524 : Cond.methodLink RX5 72 yX5_readFact ∈ tb := tb_in (tj_3 _ (List.mem_of_getElem? (i := 113) rfl)) rfl
theorem winst_525 : Cond.instanceMethod yX5_readFact ∈ tb := tb_in (tj_3 _ (List.mem_of_getElem? (i := 115) rfl)) rfl
theorem wsel_526 : Cond.selects yX5_readFact.cls yX5_readFact yX5_readFact ∈ tb := tb_in (sel_2 _ (List.mem_of_getElem? (i := 3) rfl)) rfl
theorem wml_527 : Cond.methodLink RX5 66 yX5_readTest ∈ tb := tb_in (tj_3 _ (List.mem_of_getElem? (i := 105) rfl)) rfl
theorem winst_528 : Cond.instanceMethod yX5_readTest ∈ tb := tb_in (tj_3 _ (List.mem_of_getElem? (i := 107) rfl)) rfl
theorem wsel_529 : Cond.selects yX5_readTest.cls yX5_readTest yX5_readTest ∈ tb := tb_in (sel_2 _ (List.mem_of_getElem? (i := 1) rfl)) rfl
theorem wml_530 : Cond.methodLink RX5 46 yX9_takeSign ∈ tb := tb_in (tj_3 _ (List.mem_of_getElem? (i := 124) rfl)) rfl
theorem winst_531 : Cond.instanceMethod yX9_takeSign ∈ tb := tb_in (tj_3 _ (List.mem_of_getElem? (i := 49) rfl)) rfl
theorem wsel_532 : Cond.selects yX9_takeSign.cls yX9_takeSign yX9_takeSign ∈ tb := tb_in (tj_3 _ (List.mem_of_getElem? (i := 50) rfl)) rfl
theorem wml_533 : Cond.methodLink RX5 69 yX5_readPart ∈ tb := tb_in (tj_3 _ (List.mem_of_getElem? (i := 109) rfl)) rfl
theorem winst_534 : Cond.instanceMethod yX5_readPart ∈ tb := tb_in (tj_3 _ (List.mem_of_getElem? (i := 111) rfl)) rfl
theorem wsel_535 : Cond.selects yX5_readPart.cls yX5_readPart yX5_readPart ∈ tb := tb_in (sel_2 _ (List.mem_of_getElem? (i := 2) rfl)) rfl
theorem wml_536 : Cond.methodLink RX5 33 yX9_open ∈ tb := tb_in (tj_3 _ (List.mem_of_getElem? (i := 79) rfl)) rfl
theorem winst_537 : Cond.instanceMethod yX9_open ∈ tb := tb_in (tj_2 _ (List.mem_of_getElem? (i := 140) rfl)) rfl
theorem wsel_538 : Cond.selects yX9_open.cls yX9_open yX9_open ∈ tb := tb_in (tj_2 _ (List.mem_of_getElem? (i := 141) rfl)) rfl
theorem wfl_539 : Cond.fieldLink RX5 40 (TX9 2).1 (TX9 2).2.1 (TX9 2).2.2.1 ∈ tb := tb_in (tj_1 _ (List.mem_of_getElem? (i := 39) rfl)) rfl
theorem wml_540 : Cond.methodLink RX5 36 yX5_readClause ∈ tb := tb_in (tj_3 _ (List.mem_of_getElem? (i := 80) rfl)) rfl
theorem winst_541 : Cond.instanceMethod yX5_readClause ∈ tb := tb_in (tj_3 _ (List.mem_of_getElem? (i := 82) rfl)) rfl
theorem wsel_542 : Cond.selects yX5_readClause.cls yX5_readClause yX5_readClause ∈ tb := tb_in (sel_1 _ (List.mem_of_getElem? (i := 12) rfl)) rfl
theorem wml_543 : Cond.methodLink RX7 3 objectInit ∈ tb := tb_in (tj_1 _ (List.mem_of_getElem? (i := 117) rfl)) rfl
theorem wfl_544 : Cond.fieldLink RX7 9 (TX7 0).1 (TX7 0).2.1 (TX7 0).2.2.1 ∈ tb := tb_in (tj_1 _ (List.mem_of_getElem? (i := 118) rfl)) rfl
theorem wfl_545 : Cond.fieldLink RX7 15 (TX7 1).1 (TX7 1).2.1 (TX7 1).2.2.1 ∈ tb := tb_in (tj_1 _ (List.mem_of_getElem? (i := 122) rfl)) rfl
theorem wfl_546 : Cond.fieldLink RX7 30 (TX7 6).1 (TX7 6).2.1 (TX7 6).2.2.1 ∈ tb := tb_in (tj_1 _ (List.mem_of_getElem? (i := 131) rfl)) rfl
theorem wfl_547 : Cond.fieldLink RX7 37 (TX7 8).1 (TX7 8).2.1 (TX7 8).2.2.1 ∈ tb := tb_in (tj_1 _ (List.mem_of_getElem? (i := 141) rfl)) rfl
theorem wfl_548 : Cond.fieldLink RX7 43 (TX7 10).1 (TX7 10).2.1 (TX7 10).2.2.1 ∈ tb := tb_in (tj_1 _ (List.mem_of_getElem? (i := 147) rfl)) rfl
theorem wml_549 : Cond.methodLink RX6 3 objectInit ∈ tb := tb_in (tj_1 _ (List.mem_of_getElem? (i := 180) rfl)) rfl
theorem wclk_550 : Cond.classLink RX6 9 RX7 ∈ tb := tb_in (tj_1 _ (List.mem_of_getElem? (i := 181) rfl)) rfl
theorem winsta_551 : Cond.instantiable RX7 11 ∈ tb := tb_in (tj_1 _ (List.mem_of_getElem? (i := 113) rfl)) rfl
theorem wini_552 : Cond.initialized "SleepersPay$Street" ∈ tb := tb_in (tj_1 _ (List.mem_of_getElem? (i := 5) rfl)) rfl
theorem wnest_553 : Cond.methodLinkNest RX6 11 yX7_init "SleepersPay" ∈ lw_tbl := tj_1 _ (List.mem_of_getElem? (i := 182) rfl)
theorem winst_554 : Cond.instanceMethod yX7_init ∈ tb := tb_in (tj_1 _ (List.mem_of_getElem? (i := 115) rfl)) rfl
theorem wfl_555 : Cond.fieldLink RX6 12 (TX6 0).1 (TX6 0).2.1 (TX6 0).2.2.1 ∈ tb := tb_in (tj_2 _ (List.mem_of_getElem? (i := 10) rfl)) rfl
theorem wclk_556 : Cond.classLink RX6 18 RX2 ∈ tb := tb_in (tj_1 _ (List.mem_of_getElem? (i := 183) rfl)) rfl
theorem wnest_557 : Cond.methodLinkNest RX6 20 yX2_init "SleepersPay" ∈ lw_tbl := tj_1 _ (List.mem_of_getElem? (i := 185) rfl)
theorem wfl_558 : Cond.fieldLink RX6 21 (TX6 1).1 (TX6 1).2.1 (TX6 1).2.2.1 ∈ tb := tb_in (tj_2 _ (List.mem_of_getElem? (i := 12) rfl)) rfl
theorem wclk_559 : Cond.classLink RX6 25 RX1 ∈ tb := tb_in (tj_1 _ (List.mem_of_getElem? (i := 227) rfl)) rfl
theorem winsta_560 : Cond.instantiable RX1 5 ∈ tb := tb_in (tj_1 _ (List.mem_of_getElem? (i := 228) rfl)) rfl
theorem wini_561 : Cond.initialized "SleepersPay$Facts" ∈ tb := tb_in (tj_1 _ (List.mem_of_getElem? (i := 8) rfl)) rfl
theorem wnest_562 : Cond.methodLinkNest RX6 27 yX1_init "SleepersPay" ∈ lw_tbl := tj_1 _ (List.mem_of_getElem? (i := 229) rfl)
theorem winst_563 : Cond.instanceMethod yX1_init ∈ tb := tb_in (tj_1 _ (List.mem_of_getElem? (i := 230) rfl)) rfl
theorem wfl_564 : Cond.fieldLink RX6 28 (TX6 2).1 (TX6 2).2.1 (TX6 2).2.2.1 ∈ tb := tb_in (tj_2 _ (List.mem_of_getElem? (i := 14) rfl)) rfl
theorem wfl_565 : Cond.fieldLink RX6 32 (TX6 3).1 (TX6 3).2.1 (TX6 3).2.2.1 ∈ tb := tb_in (tj_2 _ (List.mem_of_getElem? (i := 16) rfl)) rfl
theorem wfl_566 : Cond.fieldLink RX6 36 (TX6 4).1 (TX6 4).2.1 (TX6 4).2.2.1 ∈ tb := tb_in (tj_2 _ (List.mem_of_getElem? (i := 18) rfl)) rfl
theorem wfl_567 : Cond.fieldLink RX6 39 (TX6 5).1 (TX6 5).2.1 (TX6 5).2.2.1 ∈ tb := tb_in (tj_2 _ (List.mem_of_getElem? (i := 20) rfl)) rfl
theorem wml_568 : Cond.methodLink RX7 46 arraycopyName ∈ tb := tb_in (tj_3 _ (List.mem_of_getElem? (i := 56) rfl)) rfl
theorem wml_569 : Cond.methodLink RX6 43 yX7_copyOf ∈ tb := tb_in (tj_4 _ (List.mem_of_getElem? (i := 217) rfl)) rfl
theorem winst_570 : Cond.instanceMethod yX7_copyOf ∈ tb := tb_in (tj_3 _ (List.mem_of_getElem? (i := 53) rfl)) rfl
theorem wsel_571 : Cond.selects yX7_copyOf.cls yX7_copyOf yX7_copyOf ∈ tb := tb_in (tj_3 _ (List.mem_of_getElem? (i := 54) rfl)) rfl
theorem wml_572 : Cond.methodLink RX6 47 yX2_copyOf ∈ tb := tb_in (tj_4 _ (List.mem_of_getElem? (i := 218) rfl)) rfl
theorem wml_573 : Cond.methodLink RX6 50 yX1_copyOf ∈ tb := tb_in (tj_4 _ (List.mem_of_getElem? (i := 219) rfl)) rfl
theorem winst_574 : Cond.instanceMethod yX1_copyOf ∈ tb := tb_in (tj_4 _ (List.mem_of_getElem? (i := 220) rfl)) rfl
theorem wsel_575 : Cond.selects yX1_copyOf.cls yX1_copyOf yX1_copyOf ∈ tb := tb_in (tj_4 _ (List.mem_of_getElem? (i := 221) rfl)) rfl
theorem wml_576 : Cond.methodLink RX7 60 yJ9_max_7cf53 ∈ tb := tb_in (tj_3 _ (List.mem_of_getElem? (i := 41) rfl)) rfl
theorem wml_577 : Cond.methodLink RX7 56 yX7_addSpan ∈ tb := tb_in (tj_3 _ (List.mem_of_getElem? (i := 38) rfl)) rfl
theorem wstat_578 : Cond.static yX7_addSpan ∈ tb := tb_in (tj_3 _ (List.mem_of_getElem? (i := 39) rfl)) rfl
theorem wml_579 : Cond.methodLink RX8 3 objectInit ∈ tb := tb_in (tj_1 _ (List.mem_of_getElem? (i := 88) rfl)) rfl
theorem wfl_580 : Cond.fieldLink RX8 9 (TX8 0).1 (TX8 0).2.1 (TX8 0).2.2.1 ∈ tb := tb_in (tj_1 _ (List.mem_of_getElem? (i := 89) rfl)) rfl
theorem wfl_581 : Cond.fieldLink RX8 68 (TX7 7).1 (TX7 7).2.1 (TX7 7).2.2.1 ∈ tb := tb_in (tj_1 _ (List.mem_of_getElem? (i := 139) rfl)) rfl
theorem wfl_582 : Cond.fieldLink RX8 71 (TX7 8).1 (TX7 8).2.1 (TX7 8).2.2.1 ∈ tb := tb_in (tj_1 _ (List.mem_of_getElem? (i := 142) rfl)) rfl
theorem wfl_583 : Cond.fieldLink RX8 74 (TX7 9).1 (TX7 9).2.1 (TX7 9).2.2.1 ∈ tb := tb_in (tj_1 _ (List.mem_of_getElem? (i := 145) rfl)) rfl
theorem wfl_584 : Cond.fieldLink RX8 77 (TX7 10).1 (TX7 10).2.1 (TX7 10).2.2.1 ∈ tb := tb_in (tj_1 _ (List.mem_of_getElem? (i := 148) rfl)) rfl
theorem wml_585 : Cond.methodLink RX8 80 yX9_takeNumber ∈ tb := tb_in (tj_3 _ (List.mem_of_getElem? (i := 9) rfl)) rfl
theorem winst_586 : Cond.instanceMethod yX9_takeNumber ∈ tb := tb_in (tj_3 _ (List.mem_of_getElem? (i := 10) rfl)) rfl
theorem wsel_587 : Cond.selects yX9_takeNumber.cls yX9_takeNumber yX9_takeNumber ∈ tb := tb_in (tj_3 _ (List.mem_of_getElem? (i := 11) rfl)) rfl
theorem wfl_588 : Cond.fieldLink RX8 84 (TX7 6).1 (TX7 6).2.1 (TX7 6).2.2.1 ∈ tb := tb_in (tj_1 _ (List.mem_of_getElem? (i := 133) rfl)) rfl
theorem wml_589 : Cond.methodLink RX8 87 yX7_addPerson ∈ tb := tb_in (tj_3 _ (List.mem_of_getElem? (i := 18) rfl)) rfl
theorem winst_590 : Cond.instanceMethod yX7_addPerson ∈ tb := tb_in (tj_3 _ (List.mem_of_getElem? (i := 19) rfl)) rfl
theorem wsel_591 : Cond.selects yX7_addPerson.cls yX7_addPerson yX7_addPerson ∈ tb := tb_in (tj_3 _ (List.mem_of_getElem? (i := 20) rfl)) rfl
theorem wfl_592 : Cond.fieldLink RX8 91 (TX9 9).1 (TX9 9).2.1 (TX9 9).2.2.1 ∈ tb := tb_in (tj_1 _ (List.mem_of_getElem? (i := 49) rfl)) rfl
theorem wml_593 : Cond.methodLink RX8 94 yX7_addLamp ∈ tb := tb_in (tj_3 _ (List.mem_of_getElem? (i := 26) rfl)) rfl
theorem winst_594 : Cond.instanceMethod yX7_addLamp ∈ tb := tb_in (tj_3 _ (List.mem_of_getElem? (i := 27) rfl)) rfl
theorem wsel_595 : Cond.selects yX7_addLamp.cls yX7_addLamp yX7_addLamp ∈ tb := tb_in (tj_3 _ (List.mem_of_getElem? (i := 28) rfl)) rfl
theorem wml_596 : Cond.methodLink RX8 101 yX7_addLit ∈ tb := tb_in (tj_3 _ (List.mem_of_getElem? (i := 44) rfl)) rfl
theorem winst_597 : Cond.instanceMethod yX7_addLit ∈ tb := tb_in (tj_3 _ (List.mem_of_getElem? (i := 45) rfl)) rfl
theorem wsel_598 : Cond.selects yX7_addLit.cls yX7_addLit yX7_addLit ∈ tb := tb_in (tj_3 _ (List.mem_of_getElem? (i := 46) rfl)) rfl
theorem wml_599 : Cond.methodLink RX8 97 yX7_addWork ∈ tb := tb_in (tj_3 _ (List.mem_of_getElem? (i := 34) rfl)) rfl
theorem winst_600 : Cond.instanceMethod yX7_addWork ∈ tb := tb_in (tj_3 _ (List.mem_of_getElem? (i := 35) rfl)) rfl
theorem wsel_601 : Cond.selects yX7_addWork.cls yX7_addWork yX7_addWork ∈ tb := tb_in (tj_3 _ (List.mem_of_getElem? (i := 36) rfl)) rfl
theorem wfl_602 : Cond.fieldLink RX8 40 (TX9 10).1 (TX9 10).2.1 (TX9 10).2.2.1 ∈ tb := tb_in (tj_1 _ (List.mem_of_getElem? (i := 52) rfl)) rfl
theorem wml_603 : Cond.methodLink RX8 43 yX8_isClause ∈ tb := tb_in (tj_2 _ (List.mem_of_getElem? (i := 234) rfl)) rfl
theorem wstat_604 : Cond.static yX8_isClause ∈ tb := tb_in (tj_2 _ (List.mem_of_getElem? (i := 235) rfl)) rfl
theorem wml_605 : Cond.methodLink RX8 46 yX9_refuse ∈ tb := tb_in (tj_2 _ (List.mem_of_getElem? (i := 237) rfl)) rfl
theorem wml_606 : Cond.methodLink RX8 49 yX8_isFull ∈ tb := tb_in (tj_3 _ (List.mem_of_getElem? (i := 1) rfl)) rfl
theorem wstat_607 : Cond.static yX8_isFull ∈ tb := tb_in (tj_3 _ (List.mem_of_getElem? (i := 2) rfl)) rfl
theorem wml_608 : Cond.methodLink RX8 52 yX9_step ∈ tb := tb_in (tj_3 _ (List.mem_of_getElem? (i := 4) rfl)) rfl
theorem wml_609 : Cond.methodLink RX8 59 yX8_readPerson ∈ tb := tb_in (tj_3 _ (List.mem_of_getElem? (i := 14) rfl)) rfl
theorem winst_610 : Cond.instanceMethod yX8_readPerson ∈ tb := tb_in (tj_3 _ (List.mem_of_getElem? (i := 16) rfl)) rfl
theorem wsel_611 : Cond.selects yX8_readPerson.cls yX8_readPerson yX8_readPerson ∈ tb := tb_in (sel_1 _ (List.mem_of_getElem? (i := 9) rfl)) rfl
theorem wml_612 : Cond.methodLink RX8 55 yX8_readHours ∈ tb := tb_in (tj_3 _ (List.mem_of_getElem? (i := 5) rfl)) rfl
theorem winst_613 : Cond.instanceMethod yX8_readHours ∈ tb := tb_in (tj_3 _ (List.mem_of_getElem? (i := 7) rfl)) rfl
theorem wsel_614 : Cond.selects yX8_readHours.cls yX8_readHours yX8_readHours ∈ tb := tb_in (sel_1 _ (List.mem_of_getElem? (i := 8) rfl)) rfl
theorem wml_615 : Cond.methodLink RX8 62 yX8_readLamp ∈ tb := tb_in (tj_3 _ (List.mem_of_getElem? (i := 22) rfl)) rfl
theorem winst_616 : Cond.instanceMethod yX8_readLamp ∈ tb := tb_in (tj_3 _ (List.mem_of_getElem? (i := 24) rfl)) rfl
theorem wsel_617 : Cond.selects yX8_readLamp.cls yX8_readLamp yX8_readLamp ∈ tb := tb_in (sel_1 _ (List.mem_of_getElem? (i := 10) rfl)) rfl
theorem wml_618 : Cond.methodLink RX8 65 yX8_readSpan ∈ tb := tb_in (tj_3 _ (List.mem_of_getElem? (i := 30) rfl)) rfl
theorem winst_619 : Cond.instanceMethod yX8_readSpan ∈ tb := tb_in (tj_3 _ (List.mem_of_getElem? (i := 32) rfl)) rfl
theorem wsel_620 : Cond.selects yX8_readSpan.cls yX8_readSpan yX8_readSpan ∈ tb := tb_in (sel_1 _ (List.mem_of_getElem? (i := 11) rfl)) rfl
theorem wml_621 : Cond.methodLink RX8 15 yX7_clear ∈ tb := tb_in (tj_2 _ (List.mem_of_getElem? (i := 135) rfl)) rfl
theorem winst_622 : Cond.instanceMethod yX7_clear ∈ tb := tb_in (tj_2 _ (List.mem_of_getElem? (i := 136) rfl)) rfl
theorem wsel_623 : Cond.selects yX7_clear.cls yX7_clear yX7_clear ∈ tb := tb_in (tj_2 _ (List.mem_of_getElem? (i := 137) rfl)) rfl
theorem wml_624 : Cond.methodLink RX8 20 yX9_open ∈ tb := tb_in (tj_2 _ (List.mem_of_getElem? (i := 139) rfl)) rfl
theorem wfl_625 : Cond.fieldLink RX8 29 (TX9 2).1 (TX9 2).2.1 (TX9 2).2.2.1 ∈ tb := tb_in (tj_1 _ (List.mem_of_getElem? (i := 38) rfl)) rfl
theorem wml_626 : Cond.methodLink RX8 25 yX8_readClause ∈ tb := tb_in (tj_2 _ (List.mem_of_getElem? (i := 230) rfl)) rfl
theorem winst_627 : Cond.instanceMethod yX8_readClause ∈ tb := tb_in (tj_2 _ (List.mem_of_getElem? (i := 232) rfl)) rfl
theorem wsel_628 : Cond.selects yX8_readClause.cls yX8_readClause yX8_readClause ∈ tb := tb_in (sel_1 _ (List.mem_of_getElem? (i := 7) rfl)) rfl
theorem wfl_629 : Cond.fieldLink RX8 33 (TX9 8).1 (TX9 8).2.1 (TX9 8).2.2.1 ∈ tb := tb_in (tj_1 _ (List.mem_of_getElem? (i := 46) rfl)) rfl
theorem wml_630 : Cond.methodLink RX8 36 yX9_takeSign ∈ tb := tb_in (tj_3 _ (List.mem_of_getElem? (i := 48) rfl)) rfl
theorem wml_631 : Cond.methodLink RX9 3 objectInit ∈ tb := tb_in (tj_1 _ (List.mem_of_getElem? (i := 33) rfl)) rfl
theorem wml_632 : Cond.methodLink RX10 3 objectInit ∈ tb := tb_in (tj_1 _ (List.mem_of_getElem? (i := 25) rfl)) rfl
theorem wclk_633 : Cond.classLink RX10 9 RX9 ∈ tb := tb_in (tj_1 _ (List.mem_of_getElem? (i := 28) rfl)) rfl
theorem winsta_634 : Cond.instantiable RX9 12 ∈ tb := tb_in (tj_1 _ (List.mem_of_getElem? (i := 29) rfl)) rfl
theorem wini_635 : Cond.initialized "SleepersPay$Text" ∈ tb := tb_in (tj_1 _ (List.mem_of_getElem? (i := 2) rfl)) rfl
theorem wnest_636 : Cond.methodLinkNest RX10 11 yX9_init "SleepersPay" ∈ lw_tbl := tj_1 _ (List.mem_of_getElem? (i := 30) rfl)
theorem winst_637 : Cond.instanceMethod yX9_init ∈ tb := tb_in (tj_1 _ (List.mem_of_getElem? (i := 31) rfl)) rfl
theorem wfl_638 : Cond.fieldLink RX10 12 (TX10 0).1 (TX10 0).2.1 (TX10 0).2.2.1 ∈ tb := tb_in (tj_2 _ (List.mem_of_getElem? (i := 71) rfl)) rfl
theorem wclk_639 : Cond.classLink RX10 16 RX8 ∈ tb := tb_in (tj_1 _ (List.mem_of_getElem? (i := 83) rfl)) rfl
theorem winsta_640 : Cond.instantiable RX8 1 ∈ tb := tb_in (tj_1 _ (List.mem_of_getElem? (i := 84) rfl)) rfl
theorem wini_641 : Cond.initialized "SleepersPay$StreetReader" ∈ tb := tb_in (tj_1 _ (List.mem_of_getElem? (i := 3) rfl)) rfl
theorem wml_642 : Cond.methodLink RX10 18 yX8_init ∈ tb := tb_in (tj_1 _ (List.mem_of_getElem? (i := 85) rfl)) rfl
theorem winst_643 : Cond.instanceMethod yX8_init ∈ tb := tb_in (tj_1 _ (List.mem_of_getElem? (i := 86) rfl)) rfl
theorem wfl_644 : Cond.fieldLink RX10 21 (TX10 1).1 (TX10 1).2.1 (TX10 1).2.2.1 ∈ tb := tb_in (tj_2 _ (List.mem_of_getElem? (i := 72) rfl)) rfl
theorem wclk_645 : Cond.classLink RX10 25 RX5 ∈ tb := tb_in (tj_1 _ (List.mem_of_getElem? (i := 93) rfl)) rfl
theorem winsta_646 : Cond.instantiable RX5 4 ∈ tb := tb_in (tj_1 _ (List.mem_of_getElem? (i := 94) rfl)) rfl
theorem wini_647 : Cond.initialized "SleepersPay$RuleReader" ∈ tb := tb_in (tj_1 _ (List.mem_of_getElem? (i := 4) rfl)) rfl
theorem wml_648 : Cond.methodLink RX10 27 yX5_init ∈ tb := tb_in (tj_1 _ (List.mem_of_getElem? (i := 95) rfl)) rfl
theorem winst_649 : Cond.instanceMethod yX5_init ∈ tb := tb_in (tj_1 _ (List.mem_of_getElem? (i := 96) rfl)) rfl
theorem wfl_650 : Cond.fieldLink RX10 28 (TX10 2).1 (TX10 2).2.1 (TX10 2).2.2.1 ∈ tb := tb_in (tj_2 _ (List.mem_of_getElem? (i := 73) rfl)) rfl
theorem wclk_651 : Cond.classLink RX10 32 RX7 ∈ tb := tb_in (tj_1 _ (List.mem_of_getElem? (i := 112) rfl)) rfl
theorem wnest_652 : Cond.methodLinkNest RX10 34 yX7_init "SleepersPay" ∈ lw_tbl := tj_1 _ (List.mem_of_getElem? (i := 114) rfl)
theorem wfl_653 : Cond.fieldLink RX10 35 (TX10 3).1 (TX10 3).2.1 (TX10 3).2.2.1 ∈ tb := tb_in (tj_2 _ (List.mem_of_getElem? (i := 74) rfl)) rfl
theorem wclk_654 : Cond.classLink RX10 39 RX4 ∈ tb := tb_in (tj_1 _ (List.mem_of_getElem? (i := 173) rfl)) rfl
theorem wover_655 : Cond.arrayOver (.object RX4) ∈ lw_tbl := tj_1 _ (List.mem_of_getElem? (i := 174) rfl)
theorem wfl_656 : Cond.fieldLink RX10 41 (TX10 4).1 (TX10 4).2.1 (TX10 4).2.2.1 ∈ tb := tb_in (tj_2 _ (List.mem_of_getElem? (i := 75) rfl)) rfl
theorem wfl_657 : Cond.fieldLink RX10 45 (TX10 5).1 (TX10 5).2.1 (TX10 5).2.2.1 ∈ tb := tb_in (tj_2 _ (List.mem_of_getElem? (i := 76) rfl)) rfl
theorem wclk_658 : Cond.classLink RX10 49 RX6 ∈ tb := tb_in (tj_1 _ (List.mem_of_getElem? (i := 175) rfl)) rfl
theorem winsta_659 : Cond.instantiable RX6 6 ∈ tb := tb_in (tj_1 _ (List.mem_of_getElem? (i := 176) rfl)) rfl
theorem wini_660 : Cond.initialized "SleepersPay$Scene" ∈ tb := tb_in (tj_1 _ (List.mem_of_getElem? (i := 6) rfl)) rfl
theorem wnest_661 : Cond.methodLinkNest RX10 51 yX6_init "SleepersPay" ∈ lw_tbl := tj_1 _ (List.mem_of_getElem? (i := 177) rfl)
theorem winst_662 : Cond.instanceMethod yX6_init ∈ tb := tb_in (tj_1 _ (List.mem_of_getElem? (i := 178) rfl)) rfl
theorem wfl_663 : Cond.fieldLink RX10 52 (TX10 6).1 (TX10 6).2.1 (TX10 6).2.2.1 ∈ tb := tb_in (tj_2 _ (List.mem_of_getElem? (i := 77) rfl)) rfl
theorem wover_664 : Cond.arrayOver (.object RX6) ∈ lw_tbl := tj_2 _ (List.mem_of_getElem? (i := 35) rfl)
theorem wfl_665 : Cond.fieldLink RX10 56 (TX10 7).1 (TX10 7).2.1 (TX10 7).2.2.1 ∈ tb := tb_in (tj_2 _ (List.mem_of_getElem? (i := 78) rfl)) rfl
theorem wclk_666 : Cond.classLink RX10 60 RX0 ∈ tb := tb_in (tj_2 _ (List.mem_of_getElem? (i := 36) rfl)) rfl
theorem winsta_667 : Cond.instantiable RX0 3 ∈ tb := tb_in (tj_2 _ (List.mem_of_getElem? (i := 37) rfl)) rfl
theorem wini_668 : Cond.initialized "SleepersPay$Acts" ∈ tb := tb_in (tj_1 _ (List.mem_of_getElem? (i := 9) rfl)) rfl
theorem wml_669 : Cond.methodLink RX10 62 yX0_init ∈ tb := tb_in (tj_2 _ (List.mem_of_getElem? (i := 38) rfl)) rfl
theorem winst_670 : Cond.instanceMethod yX0_init ∈ tb := tb_in (tj_2 _ (List.mem_of_getElem? (i := 39) rfl)) rfl
theorem wfl_671 : Cond.fieldLink RX10 63 (TX10 8).1 (TX10 8).2.1 (TX10 8).2.2.1 ∈ tb := tb_in (tj_2 _ (List.mem_of_getElem? (i := 79) rfl)) rfl
theorem wclk_672 : Cond.classLink RX10 67 RX3 ∈ tb := tb_in (tj_2 _ (List.mem_of_getElem? (i := 56) rfl)) rfl
theorem winsta_673 : Cond.instantiable RX3 2 ∈ tb := tb_in (tj_2 _ (List.mem_of_getElem? (i := 57) rfl)) rfl
theorem wini_674 : Cond.initialized "SleepersPay$Player" ∈ tb := tb_in (tj_1 _ (List.mem_of_getElem? (i := 10) rfl)) rfl
theorem wnest_675 : Cond.methodLinkNest RX10 69 yX3_init "SleepersPay" ∈ lw_tbl := tj_2 _ (List.mem_of_getElem? (i := 58) rfl)
theorem winst_676 : Cond.instanceMethod yX3_init ∈ tb := tb_in (tj_2 _ (List.mem_of_getElem? (i := 59) rfl)) rfl
theorem wfl_677 : Cond.fieldLink RX10 70 (TX10 9).1 (TX10 9).2.1 (TX10 9).2.2.1 ∈ tb := tb_in (tj_2 _ (List.mem_of_getElem? (i := 80) rfl)) rfl
theorem wclk_678 : Cond.classLink RX10 74 RX2 ∈ tb := tb_in (tj_2 _ (List.mem_of_getElem? (i := 69) rfl)) rfl
theorem wnest_679 : Cond.methodLinkNest RX10 76 yX2_init "SleepersPay" ∈ lw_tbl := tj_2 _ (List.mem_of_getElem? (i := 70) rfl)
theorem wfl_680 : Cond.fieldLink RX10 77 (TX10 10).1 (TX10 10).2.1 (TX10 10).2.2.1 ∈ tb := tb_in (tj_2 _ (List.mem_of_getElem? (i := 81) rfl)) rfl
theorem wfl_681 : Cond.fieldLink RX10 81 (TX10 11).1 (TX10 11).2.1 (TX10 11).2.2.1 ∈ tb := tb_in (tj_2 _ (List.mem_of_getElem? (i := 82) rfl)) rfl
theorem wfl_682 : Cond.fieldLink RX10 85 (TX10 12).1 (TX10 12).2.1 (TX10 12).2.2.1 ∈ tb := tb_in (tj_2 _ (List.mem_of_getElem? (i := 83) rfl)) rfl
theorem wml_683 : Cond.methodLink RX10 88 yX9_hasRoom ∈ tb := tb_in (tj_2 _ (List.mem_of_getElem? (i := 115) rfl)) rfl
theorem winst_684 : Cond.instanceMethod yX9_hasRoom ∈ tb := tb_in (tj_2 _ (List.mem_of_getElem? (i := 116) rfl)) rfl
theorem wsel_685 : Cond.selects yX9_hasRoom.cls yX9_hasRoom yX9_hasRoom ∈ tb := tb_in (tj_2 _ (List.mem_of_getElem? (i := 117) rfl)) rfl
theorem wml_686 : Cond.methodLink RX10 92 yX9_append ∈ tb := tb_in (tj_2 _ (List.mem_of_getElem? (i := 119) rfl)) rfl
theorem winst_687 : Cond.instanceMethod yX9_append ∈ tb := tb_in (tj_2 _ (List.mem_of_getElem? (i := 120) rfl)) rfl
theorem wsel_688 : Cond.selects yX9_append.cls yX9_append yX9_append ∈ tb := tb_in (tj_2 _ (List.mem_of_getElem? (i := 121) rfl)) rfl
theorem wfl_689 : Cond.fieldLink RX10 96 (TX9 1).1 (TX9 1).2.1 (TX9 1).2.2.1 ∈ tb := tb_in (tj_1 _ (List.mem_of_getElem? (i := 36) rfl)) rfl
theorem wml_690 : Cond.methodLink RX10 99 yX8_readInto ∈ tb := tb_in (tj_2 _ (List.mem_of_getElem? (i := 131) rfl)) rfl
theorem winst_691 : Cond.instanceMethod yX8_readInto ∈ tb := tb_in (tj_2 _ (List.mem_of_getElem? (i := 132) rfl)) rfl
theorem wsel_692 : Cond.selects yX8_readInto.cls yX8_readInto yX8_readInto ∈ tb := tb_in (tj_2 _ (List.mem_of_getElem? (i := 133) rfl)) rfl
theorem wfl_693 : Cond.fieldLink RX10 103 (TX6 0).1 (TX6 0).2.1 (TX6 0).2.2.1 ∈ tb := tb_in (tj_2 _ (List.mem_of_getElem? (i := 11) rfl)) rfl
theorem wml_694 : Cond.methodLink RX10 106 yX7_copyOf ∈ tb := tb_in (tj_3 _ (List.mem_of_getElem? (i := 52) rfl)) rfl
theorem wfl_695 : Cond.fieldLink RX10 110 (TX6 1).1 (TX6 1).2.1 (TX6 1).2.2.1 ∈ tb := tb_in (tj_2 _ (List.mem_of_getElem? (i := 13) rfl)) rfl
theorem wml_696 : Cond.methodLink RX10 113 yX2_clear ∈ tb := tb_in (tj_3 _ (List.mem_of_getElem? (i := 59) rfl)) rfl
theorem winst_697 : Cond.instanceMethod yX2_clear ∈ tb := tb_in (tj_3 _ (List.mem_of_getElem? (i := 60) rfl)) rfl
theorem wsel_698 : Cond.selects yX2_clear.cls yX2_clear yX2_clear ∈ tb := tb_in (tj_3 _ (List.mem_of_getElem? (i := 61) rfl)) rfl
theorem wfl_699 : Cond.fieldLink RX10 116 (TX6 2).1 (TX6 2).2.1 (TX6 2).2.2.1 ∈ tb := tb_in (tj_2 _ (List.mem_of_getElem? (i := 15) rfl)) rfl
theorem wml_700 : Cond.methodLink RX10 120 yX1_clear ∈ tb := tb_in (tj_3 _ (List.mem_of_getElem? (i := 63) rfl)) rfl
theorem winst_701 : Cond.instanceMethod yX1_clear ∈ tb := tb_in (tj_3 _ (List.mem_of_getElem? (i := 64) rfl)) rfl
theorem wsel_702 : Cond.selects yX1_clear.cls yX1_clear yX1_clear ∈ tb := tb_in (tj_3 _ (List.mem_of_getElem? (i := 65) rfl)) rfl
theorem wml_703 : Cond.methodLink RX10 123 yX0_clear ∈ tb := tb_in (tj_3 _ (List.mem_of_getElem? (i := 67) rfl)) rfl
theorem winst_704 : Cond.instanceMethod yX0_clear ∈ tb := tb_in (tj_3 _ (List.mem_of_getElem? (i := 68) rfl)) rfl
theorem wsel_705 : Cond.selects yX0_clear.cls yX0_clear yX0_clear ∈ tb := tb_in (tj_3 _ (List.mem_of_getElem? (i := 69) rfl)) rfl
theorem wfl_706 : Cond.fieldLink RX10 124 (TX7 7).1 (TX7 7).2.1 (TX7 7).2.2.1 ∈ tb := tb_in (tj_1 _ (List.mem_of_getElem? (i := 138) rfl)) rfl
theorem wml_707 : Cond.methodLink RX10 127 yX5_readText ∈ tb := tb_in (tj_3 _ (List.mem_of_getElem? (i := 75) rfl)) rfl
theorem winst_708 : Cond.instanceMethod yX5_readText ∈ tb := tb_in (tj_3 _ (List.mem_of_getElem? (i := 76) rfl)) rfl
theorem wsel_709 : Cond.selects yX5_readText.cls yX5_readText yX5_readText ∈ tb := tb_in (tj_3 _ (List.mem_of_getElem? (i := 77) rfl)) rfl
theorem wml_710 : Cond.methodLink RX10 131 yX5_made ∈ tb := tb_in (tj_3 _ (List.mem_of_getElem? (i := 125) rfl)) rfl
theorem winst_711 : Cond.instanceMethod yX5_made ∈ tb := tb_in (tj_3 _ (List.mem_of_getElem? (i := 126) rfl)) rfl
theorem wsel_712 : Cond.selects yX5_made.cls yX5_made yX5_made ∈ tb := tb_in (tj_3 _ (List.mem_of_getElem? (i := 127) rfl)) rfl
theorem wfl_713 : Cond.fieldLink RX10 135 (TX6 3).1 (TX6 3).2.1 (TX6 3).2.2.1 ∈ tb := tb_in (tj_2 _ (List.mem_of_getElem? (i := 17) rfl)) rfl
theorem wfl_714 : Cond.fieldLink RX10 304 (TX2 0).1 (TX2 0).2.1 (TX2 0).2.2.1 ∈ tb := tb_in (tj_1 _ (List.mem_of_getElem? (i := 191) rfl)) rfl
theorem wml_715 : Cond.methodLink RX10 317 yX7_workersAt ∈ tb := tb_in (tj_3 _ (List.mem_of_getElem? (i := 164) rfl)) rfl
theorem wml_716 : Cond.methodLink RX10 138 yX7_isPerson ∈ tb := tb_in (tj_3 _ (List.mem_of_getElem? (i := 153) rfl)) rfl
theorem winst_717 : Cond.instanceMethod yX7_isPerson ∈ tb := tb_in (tj_3 _ (List.mem_of_getElem? (i := 154) rfl)) rfl
theorem wsel_718 : Cond.selects yX7_isPerson.cls yX7_isPerson yX7_isPerson ∈ tb := tb_in (tj_3 _ (List.mem_of_getElem? (i := 155) rfl)) rfl
theorem wfl_719 : Cond.fieldLink RX10 141 (TX7 0).1 (TX7 0).2.1 (TX7 0).2.2.1 ∈ tb := tb_in (tj_1 _ (List.mem_of_getElem? (i := 119) rfl)) rfl
theorem wfl_720 : Cond.fieldLink RX10 144 (TX7 1).1 (TX7 1).2.1 (TX7 1).2.2.1 ∈ tb := tb_in (tj_1 _ (List.mem_of_getElem? (i := 123) rfl)) rfl
theorem wfl_721 : Cond.fieldLink RX10 147 (TX2 2).1 (TX2 2).2.1 (TX2 2).2.2.1 ∈ tb := tb_in (tj_1 _ (List.mem_of_getElem? (i := 197) rfl)) rfl
theorem wml_722 : Cond.methodLink RX10 150 yX10_bitOf ∈ tb := tb_in (tj_3 _ (List.mem_of_getElem? (i := 157) rfl)) rfl
theorem wfl_723 : Cond.fieldLink RX10 154 (TX2 5).1 (TX2 5).2.1 (TX2 5).2.2.1 ∈ tb := tb_in (tj_1 _ (List.mem_of_getElem? (i := 202) rfl)) rfl
theorem wfl_724 : Cond.fieldLink RX10 157 (TX2 6).1 (TX2 6).2.1 (TX2 6).2.2.1 ∈ tb := tb_in (tj_1 _ (List.mem_of_getElem? (i := 204) rfl)) rfl
theorem wml_725 : Cond.methodLink RX10 160 yX10_workersNow ∈ tb := tb_in (tj_3 _ (List.mem_of_getElem? (i := 160) rfl)) rfl
theorem winst_726 : Cond.instanceMethod yX10_workersNow ∈ tb := tb_in (tj_3 _ (List.mem_of_getElem? (i := 162) rfl)) rfl
theorem wsel_727 : Cond.selects yX10_workersNow.cls yX10_workersNow yX10_workersNow ∈ tb := tb_in (sel_2 _ (List.mem_of_getElem? (i := 5) rfl)) rfl
theorem wml_728 : Cond.methodLink RX10 320 yX2_burningAt ∈ tb := tb_in (tj_3 _ (List.mem_of_getElem? (i := 180) rfl)) rfl
theorem wml_729 : Cond.methodLink RX10 163 yX7_isLamp ∈ tb := tb_in (tj_3 _ (List.mem_of_getElem? (i := 172) rfl)) rfl
theorem winst_730 : Cond.instanceMethod yX7_isLamp ∈ tb := tb_in (tj_3 _ (List.mem_of_getElem? (i := 173) rfl)) rfl
theorem wsel_731 : Cond.selects yX7_isLamp.cls yX7_isLamp yX7_isLamp ∈ tb := tb_in (tj_3 _ (List.mem_of_getElem? (i := 174) rfl)) rfl
theorem wfl_732 : Cond.fieldLink RX10 166 (TX7 2).1 (TX7 2).2.1 (TX7 2).2.2.1 ∈ tb := tb_in (tj_1 _ (List.mem_of_getElem? (i := 126) rfl)) rfl
theorem wfl_733 : Cond.fieldLink RX10 169 (TX7 3).1 (TX7 3).2.1 (TX7 3).2.2.1 ∈ tb := tb_in (tj_1 _ (List.mem_of_getElem? (i := 128) rfl)) rfl
theorem wml_734 : Cond.methodLink RX10 172 yX10_burningNow ∈ tb := tb_in (tj_3 _ (List.mem_of_getElem? (i := 176) rfl)) rfl
theorem winst_735 : Cond.instanceMethod yX10_burningNow ∈ tb := tb_in (tj_3 _ (List.mem_of_getElem? (i := 178) rfl)) rfl
theorem wsel_736 : Cond.selects yX10_burningNow.cls yX10_burningNow yX10_burningNow ∈ tb := tb_in (sel_2 _ (List.mem_of_getElem? (i := 6) rfl)) rfl
theorem wml_737 : Cond.methodLink RX10 175 yX7_isTold ∈ tb := tb_in (tj_3 _ (List.mem_of_getElem? (i := 192) rfl)) rfl
theorem winst_738 : Cond.instanceMethod yX7_isTold ∈ tb := tb_in (tj_3 _ (List.mem_of_getElem? (i := 193) rfl)) rfl
theorem wsel_739 : Cond.selects yX7_isTold.cls yX7_isTold yX7_isTold ∈ tb := tb_in (tj_3 _ (List.mem_of_getElem? (i := 194) rfl)) rfl
theorem wml_740 : Cond.methodLink RX10 179 yX2_isLast ∈ tb := tb_in (tj_3 _ (List.mem_of_getElem? (i := 196) rfl)) rfl
theorem winst_741 : Cond.instanceMethod yX2_isLast ∈ tb := tb_in (tj_3 _ (List.mem_of_getElem? (i := 197) rfl)) rfl
theorem wsel_742 : Cond.selects yX2_isLast.cls yX2_isLast yX2_isLast ∈ tb := tb_in (tj_3 _ (List.mem_of_getElem? (i := 198) rfl)) rfl
theorem wml_743 : Cond.methodLink RX10 183 yX0_keep ∈ tb := tb_in (tj_3 _ (List.mem_of_getElem? (i := 200) rfl)) rfl
theorem winst_744 : Cond.instanceMethod yX0_keep ∈ tb := tb_in (tj_3 _ (List.mem_of_getElem? (i := 201) rfl)) rfl
theorem wsel_745 : Cond.selects yX0_keep.cls yX0_keep yX0_keep ∈ tb := tb_in (tj_3 _ (List.mem_of_getElem? (i := 202) rfl)) rfl
theorem wml_746 : Cond.methodLink RX10 187 yX10_ruleNow ∈ tb := tb_in (tj_3 _ (List.mem_of_getElem? (i := 210) rfl)) rfl
theorem winst_747 : Cond.instanceMethod yX10_ruleNow ∈ tb := tb_in (tj_3 _ (List.mem_of_getElem? (i := 212) rfl)) rfl
theorem wsel_748 : Cond.selects yX10_ruleNow.cls yX10_ruleNow yX10_ruleNow ∈ tb := tb_in (sel_2 _ (List.mem_of_getElem? (i := 7) rfl)) rfl
theorem wml_749 : Cond.methodLink RX10 190 yX3_play ∈ tb := tb_in (tj_3 _ (List.mem_of_getElem? (i := 214) rfl)) rfl
theorem winst_750 : Cond.instanceMethod yX3_play ∈ tb := tb_in (tj_3 _ (List.mem_of_getElem? (i := 215) rfl)) rfl
theorem wsel_751 : Cond.selects yX3_play.cls yX3_play yX3_play ∈ tb := tb_in (tj_3 _ (List.mem_of_getElem? (i := 216) rfl)) rfl
theorem wml_752 : Cond.methodLink RX10 194 yX2_setLamp ∈ tb := tb_in (tj_4 _ (List.mem_of_getElem? (i := 39) rfl)) rfl
theorem winst_753 : Cond.instanceMethod yX2_setLamp ∈ tb := tb_in (tj_4 _ (List.mem_of_getElem? (i := 40) rfl)) rfl
theorem wsel_754 : Cond.selects yX2_setLamp.cls yX2_setLamp yX2_setLamp ∈ tb := tb_in (tj_4 _ (List.mem_of_getElem? (i := 41) rfl)) rfl
theorem wml_755 : Cond.methodLink RX10 198 yX0_takeBack ∈ tb := tb_in (tj_4 _ (List.mem_of_getElem? (i := 47) rfl)) rfl
theorem winst_756 : Cond.instanceMethod yX0_takeBack ∈ tb := tb_in (tj_4 _ (List.mem_of_getElem? (i := 48) rfl)) rfl
theorem wsel_757 : Cond.selects yX0_takeBack.cls yX0_takeBack yX0_takeBack ∈ tb := tb_in (tj_4 _ (List.mem_of_getElem? (i := 49) rfl)) rfl
theorem wfl_758 : Cond.fieldLink RX10 202 (TX0 2).1 (TX0 2).2.1 (TX0 2).2.2.1 ∈ tb := tb_in (tj_2 _ (List.mem_of_getElem? (i := 48) rfl)) rfl
theorem wml_759 : Cond.methodLink RX10 324 yJ9_abs_067f4 ∈ tb := tb_in (tj_4 _ (List.mem_of_getElem? (i := 72) rfl)) rfl
theorem wstat_760 : Cond.static yJ9_abs_067f4 ∈ tb := tb_in (tj_4 _ (List.mem_of_getElem? (i := 73) rfl)) rfl
theorem wml_761 : Cond.methodLink RX10 205 yX10_isDebtor ∈ tb := tb_in (tj_4 _ (List.mem_of_getElem? (i := 58) rfl)) rfl
theorem winst_762 : Cond.instanceMethod yX10_isDebtor ∈ tb := tb_in (tj_4 _ (List.mem_of_getElem? (i := 60) rfl)) rfl
theorem wsel_763 : Cond.selects yX10_isDebtor.cls yX10_isDebtor yX10_isDebtor ∈ tb := tb_in (sel_2 _ (List.mem_of_getElem? (i := 11) rfl)) rfl
theorem wml_764 : Cond.methodLink RX10 208 yX10_isPart ∈ tb := tb_in (tj_4 _ (List.mem_of_getElem? (i := 62) rfl)) rfl
theorem wstat_765 : Cond.static yX10_isPart ∈ tb := tb_in (tj_4 _ (List.mem_of_getElem? (i := 63) rfl)) rfl
theorem wfl_766 : Cond.fieldLink RX10 211 (TX2 7).1 (TX2 7).2.1 (TX2 7).2.2.1 ∈ tb := tb_in (tj_1 _ (List.mem_of_getElem? (i := 208) rfl)) rfl
theorem wml_767 : Cond.methodLink RX10 215 yX10_debtorRow ∈ tb := tb_in (tj_4 _ (List.mem_of_getElem? (i := 65) rfl)) rfl
theorem wstat_768 : Cond.static yX10_debtorRow ∈ tb := tb_in (tj_4 _ (List.mem_of_getElem? (i := 66) rfl)) rfl
theorem wconl_769 : Cond.constantLong RX10 219 (60) ∈ tb := tb_in (tj_4 _ (List.mem_of_getElem? (i := 68) rfl)) rfl
theorem wml_770 : Cond.methodLink RX10 221 yX10_fraction ∈ tb := tb_in (tj_4 _ (List.mem_of_getElem? (i := 69) rfl)) rfl
theorem wstat_771 : Cond.static yX10_fraction ∈ tb := tb_in (tj_4 _ (List.mem_of_getElem? (i := 70) rfl)) rfl
theorem wml_772 : Cond.methodLink RX10 225 yX2_copyOf ∈ tb := tb_in (tj_4 _ (List.mem_of_getElem? (i := 79) rfl)) rfl
theorem wml_773 : Cond.methodLink RX10 227 yX10_playTrial ∈ tb := tb_in (tj_4 _ (List.mem_of_getElem? (i := 80) rfl)) rfl
theorem winst_774 : Cond.instanceMethod yX10_playTrial ∈ tb := tb_in (tj_4 _ (List.mem_of_getElem? (i := 82) rfl)) rfl
theorem wsel_775 : Cond.selects yX10_playTrial.cls yX10_playTrial yX10_playTrial ∈ tb := tb_in (sel_2 _ (List.mem_of_getElem? (i := 12) rfl)) rfl
theorem wml_776 : Cond.methodLink RX10 244 yJ6_bitCount_0f7a4 ∈ tb := tb_in (tj_4 _ (List.mem_of_getElem? (i := 93) rfl)) rfl
theorem wml_777 : Cond.methodLink RX10 328 yX10_cheapestHours ∈ tb := tb_in (tj_4 _ (List.mem_of_getElem? (i := 94) rfl)) rfl
theorem winst_778 : Cond.instanceMethod yX10_cheapestHours ∈ tb := tb_in (tj_4 _ (List.mem_of_getElem? (i := 96) rfl)) rfl
theorem wsel_779 : Cond.selects yX10_cheapestHours.cls yX10_cheapestHours yX10_cheapestHours ∈ tb := tb_in (sel_2 _ (List.mem_of_getElem? (i := 14) rfl)) rfl
theorem wml_780 : Cond.methodLink RX10 331 yX10_costOfHours ∈ tb := tb_in (tj_4 _ (List.mem_of_getElem? (i := 98) rfl)) rfl
theorem winst_781 : Cond.instanceMethod yX10_costOfHours ∈ tb := tb_in (tj_4 _ (List.mem_of_getElem? (i := 100) rfl)) rfl
theorem wsel_782 : Cond.selects yX10_costOfHours.cls yX10_costOfHours yX10_costOfHours ∈ tb := tb_in (sel_2 _ (List.mem_of_getElem? (i := 15) rfl)) rfl
theorem wml_783 : Cond.methodLink RX10 237 yX7_costOf ∈ tb := tb_in (tj_4 _ (List.mem_of_getElem? (i := 92) rfl)) rfl
theorem wfl_784 : Cond.fieldLink RX10 292 (TX7 6).1 (TX7 6).2.1 (TX7 6).2.2.1 ∈ tb := tb_in (tj_1 _ (List.mem_of_getElem? (i := 135) rfl)) rfl
theorem wml_785 : Cond.methodLink RX10 230 yX10_sleepTogether ∈ tb := tb_in (tj_4 _ (List.mem_of_getElem? (i := 88) rfl)) rfl
theorem winst_786 : Cond.instanceMethod yX10_sleepTogether ∈ tb := tb_in (tj_4 _ (List.mem_of_getElem? (i := 90) rfl)) rfl
theorem wsel_787 : Cond.selects yX10_sleepTogether.cls yX10_sleepTogether yX10_sleepTogether ∈ tb := tb_in (sel_2 _ (List.mem_of_getElem? (i := 13) rfl)) rfl
theorem wml_788 : Cond.methodLink RX10 234 yX7_everyone ∈ tb := tb_in (tj_4 _ (List.mem_of_getElem? (i := 106) rfl)) rfl
theorem wml_789 : Cond.methodLink RX10 240 yX10_isAtRest ∈ tb := tb_in (tj_4 _ (List.mem_of_getElem? (i := 107) rfl)) rfl
theorem winst_790 : Cond.instanceMethod yX10_isAtRest ∈ tb := tb_in (tj_4 _ (List.mem_of_getElem? (i := 109) rfl)) rfl
theorem wsel_791 : Cond.selects yX10_isAtRest.cls yX10_isAtRest yX10_isAtRest ∈ tb := tb_in (sel_3 _ (List.mem_of_getElem? (i := 0) rfl)) rfl
theorem wml_792 : Cond.methodLink RX10 249 yX10_allCouldSleep ∈ tb := tb_in (tj_4 _ (List.mem_of_getElem? (i := 115) rfl)) rfl
theorem winst_793 : Cond.instanceMethod yX10_allCouldSleep ∈ tb := tb_in (tj_4 _ (List.mem_of_getElem? (i := 117) rfl)) rfl
theorem wsel_794 : Cond.selects yX10_allCouldSleep.cls yX10_allCouldSleep yX10_allCouldSleep ∈ tb := tb_in (sel_3 _ (List.mem_of_getElem? (i := 1) rfl)) rfl
theorem wml_795 : Cond.methodLink RX10 252 yX10_isFact ∈ tb := tb_in (tj_4 _ (List.mem_of_getElem? (i := 127) rfl)) rfl
theorem winst_796 : Cond.instanceMethod yX10_isFact ∈ tb := tb_in (tj_4 _ (List.mem_of_getElem? (i := 129) rfl)) rfl
theorem wsel_797 : Cond.selects yX10_isFact.cls yX10_isFact yX10_isFact ∈ tb := tb_in (sel_3 _ (List.mem_of_getElem? (i := 2) rfl)) rfl
theorem wml_798 : Cond.methodLink RX10 256 yX1_add ∈ tb := tb_in (tj_4 _ (List.mem_of_getElem? (i := 131) rfl)) rfl
theorem winst_799 : Cond.instanceMethod yX1_add ∈ tb := tb_in (tj_4 _ (List.mem_of_getElem? (i := 132) rfl)) rfl
theorem wsel_800 : Cond.selects yX1_add.cls yX1_add yX1_add ∈ tb := tb_in (tj_4 _ (List.mem_of_getElem? (i := 133) rfl)) rfl
theorem wfl_801 : Cond.fieldLink RX10 259 (TX1 4).1 (TX1 4).2.1 (TX1 4).2.2.1 ∈ tb := tb_in (tj_1 _ (List.mem_of_getElem? (i := 238) rfl)) rfl
theorem wml_802 : Cond.methodLink RX10 260 yX1_allow ∈ tb := tb_in (tj_4 _ (List.mem_of_getElem? (i := 139) rfl)) rfl
theorem winst_803 : Cond.instanceMethod yX1_allow ∈ tb := tb_in (tj_4 _ (List.mem_of_getElem? (i := 140) rfl)) rfl
theorem wsel_804 : Cond.selects yX1_allow.cls yX1_allow yX1_allow ∈ tb := tb_in (tj_4 _ (List.mem_of_getElem? (i := 141) rfl)) rfl
theorem wml_805 : Cond.methodLink RX10 263 yX10_setsWith ∈ tb := tb_in (tj_4 _ (List.mem_of_getElem? (i := 149) rfl)) rfl
theorem winst_806 : Cond.instanceMethod yX10_setsWith ∈ tb := tb_in (tj_4 _ (List.mem_of_getElem? (i := 151) rfl)) rfl
theorem wsel_807 : Cond.selects yX10_setsWith.cls yX10_setsWith yX10_setsWith ∈ tb := tb_in (sel_3 _ (List.mem_of_getElem? (i := 4) rfl)) rfl
theorem wml_808 : Cond.methodLink RX10 266 yJ9_max_7cf53 ∈ tb := tb_in (tj_4 _ (List.mem_of_getElem? (i := 157) rfl)) rfl
theorem wml_809 : Cond.methodLink RX10 337 yJ9_min_7cf53 ∈ tb := tb_in (tj_4 _ (List.mem_of_getElem? (i := 167) rfl)) rfl
theorem wml_810 : Cond.methodLink RX10 334 yX7_litAt ∈ tb := tb_in (tj_4 _ (List.mem_of_getElem? (i := 166) rfl)) rfl
theorem wml_811 : Cond.methodLink RX10 274 yX10_evenCost ∈ tb := tb_in (tj_4 _ (List.mem_of_getElem? (i := 168) rfl)) rfl
theorem winst_812 : Cond.instanceMethod yX10_evenCost ∈ tb := tb_in (tj_4 _ (List.mem_of_getElem? (i := 170) rfl)) rfl
theorem wsel_813 : Cond.selects yX10_evenCost.cls yX10_evenCost yX10_evenCost ∈ tb := tb_in (sel_3 _ (List.mem_of_getElem? (i := 6) rfl)) rfl
theorem wml_814 : Cond.methodLink RX10 271 yX10_priceNight ∈ tb := tb_in (tj_4 _ (List.mem_of_getElem? (i := 162) rfl)) rfl
theorem winst_815 : Cond.instanceMethod yX10_priceNight ∈ tb := tb_in (tj_4 _ (List.mem_of_getElem? (i := 164) rfl)) rfl
theorem wsel_816 : Cond.selects yX10_priceNight.cls yX10_priceNight yX10_priceNight ∈ tb := tb_in (sel_3 _ (List.mem_of_getElem? (i := 5) rfl)) rfl
theorem wml_817 : Cond.methodLink RX10 277 yX10_sleepInNight ∈ tb := tb_in (tj_4 _ (List.mem_of_getElem? (i := 172) rfl)) rfl
theorem winst_818 : Cond.instanceMethod yX10_sleepInNight ∈ tb := tb_in (tj_4 _ (List.mem_of_getElem? (i := 174) rfl)) rfl
theorem wsel_819 : Cond.selects yX10_sleepInNight.cls yX10_sleepInNight yX10_sleepInNight ∈ tb := tb_in (sel_3 _ (List.mem_of_getElem? (i := 7) rfl)) rfl
theorem wcon_820 : Cond.constant RX10 284 (-1000000) ∈ tb := tb_in (tj_4 _ (List.mem_of_getElem? (i := 183) rfl)) rfl
theorem wml_821 : Cond.methodLink RX10 281 yX10_isSpan ∈ tb := tb_in (tj_4 _ (List.mem_of_getElem? (i := 180) rfl)) rfl
theorem wstat_822 : Cond.static yX10_isSpan ∈ tb := tb_in (tj_4 _ (List.mem_of_getElem? (i := 181) rfl)) rfl
theorem wfl_823 : Cond.fieldLink RX10 285 (TX6 4).1 (TX6 4).2.1 (TX6 4).2.2.1 ∈ tb := tb_in (tj_2 _ (List.mem_of_getElem? (i := 19) rfl)) rfl
theorem wml_824 : Cond.methodLink RX10 288 yX3_draw ∈ tb := tb_in (tj_4 _ (List.mem_of_getElem? (i := 196) rfl)) rfl
theorem winst_825 : Cond.instanceMethod yX3_draw ∈ tb := tb_in (tj_4 _ (List.mem_of_getElem? (i := 197) rfl)) rfl
theorem wsel_826 : Cond.selects yX3_draw.cls yX3_draw yX3_draw ∈ tb := tb_in (tj_4 _ (List.mem_of_getElem? (i := 198) rfl)) rfl
theorem wfl_827 : Cond.fieldLink RX10 295 (TX7 8).1 (TX7 8).2.1 (TX7 8).2.2.1 ∈ tb := tb_in (tj_1 _ (List.mem_of_getElem? (i := 143) rfl)) rfl
theorem wfl_828 : Cond.fieldLink RX10 298 (TX7 9).1 (TX7 9).2.1 (TX7 9).2.2.1 ∈ tb := tb_in (tj_1 _ (List.mem_of_getElem? (i := 146) rfl)) rfl
theorem wfl_829 : Cond.fieldLink RX10 301 (TX7 10).1 (TX7 10).2.1 (TX7 10).2.2.1 ∈ tb := tb_in (tj_1 _ (List.mem_of_getElem? (i := 149) rfl)) rfl
theorem wfl_830 : Cond.fieldLink RX10 307 (TX2 1).1 (TX2 1).2.1 (TX2 1).2.2.1 ∈ tb := tb_in (tj_1 _ (List.mem_of_getElem? (i := 194) rfl)) rfl
theorem wml_831 : Cond.methodLink RX10 310 yX6_copyOf ∈ tb := tb_in (tj_4 _ (List.mem_of_getElem? (i := 213) rfl)) rfl
theorem winst_832 : Cond.instanceMethod yX6_copyOf ∈ tb := tb_in (tj_4 _ (List.mem_of_getElem? (i := 214) rfl)) rfl
theorem wsel_833 : Cond.selects yX6_copyOf.cls yX6_copyOf yX6_copyOf ∈ tb := tb_in (tj_4 _ (List.mem_of_getElem? (i := 215) rfl)) rfl
theorem wfl_834 : Cond.fieldLink RX10 313 (TX6 5).1 (TX6 5).2.1 (TX6 5).2.2.1 ∈ tb := tb_in (tj_2 _ (List.mem_of_getElem? (i := 21) rfl)) rfl
theorem wcode_835 : Cond.code yJ6_bitCount_0f7a4 cJ6_bitCount_0f7a4 1 (some .int) ∈ tb := tb_in (tj_3 _ (List.mem_of_getElem? (i := 239) rfl)) rfl
theorem wini_836 : Cond.initialized "java/lang/Integer" ∈ tb := tb_in (tj_1 _ (List.mem_of_getElem? (i := 19) rfl)) rfl
theorem wcode_837 : Cond.code yJ9_abs_067f4 cJ9_abs_067f4 2 (some .long) ∈ tb := tb_in (tj_4 _ (List.mem_of_getElem? (i := 74) rfl)) rfl
theorem wini_838 : Cond.initialized "java/lang/Math" ∈ tb := tb_in (tj_1 _ (List.mem_of_getElem? (i := 16) rfl)) rfl
theorem wcode_839 : Cond.code yJ9_floorMod_7cf53 cJ9_floorMod_7cf53 3 (some .int) ∈ tb := tb_in (tj_4 _ (List.mem_of_getElem? (i := 53) rfl)) rfl
theorem wcode_840 : Cond.code yJ9_max_7cf53 cJ9_max_7cf53 2 (some .int) ∈ tb := tb_in (tj_3 _ (List.mem_of_getElem? (i := 43) rfl)) rfl
theorem wcode_841 : Cond.code yJ9_min_7cf53 cJ9_min_7cf53 2 (some .int) ∈ tb := tb_in (tj_3 _ (List.mem_of_getElem? (i := 137) rfl)) rfl
theorem wcode_842 : Cond.code yX0_clear cX0_clear 1 none ∈ tb := tb_in (tj_3 _ (List.mem_of_getElem? (i := 70) rfl)) rfl
theorem wcode_843 : Cond.code yX0_init cX0_init 2 none ∈ tb := tb_in (tj_2 _ (List.mem_of_getElem? (i := 40) rfl)) rfl
theorem wcode_844 : Cond.code yX0_keep cX0_keep 2 none ∈ tb := tb_in (tj_3 _ (List.mem_of_getElem? (i := 203) rfl)) rfl
theorem wcode_845 : Cond.code yX0_takeBack cX0_takeBack 2 (some .boolean) ∈ tb := tb_in (tj_4 _ (List.mem_of_getElem? (i := 50) rfl)) rfl
theorem wcode_846 : Cond.code yX10_allCouldSleep cX10_allCouldSleep 6 (some .boolean) ∈ tb := tb_in (tj_4 _ (List.mem_of_getElem? (i := 118) rfl)) rfl
theorem wini_847 : Cond.initialized "SleepersPay" ∈ tb := tb_in (tj_1 _ (List.mem_of_getElem? (i := 1) rfl)) rfl
theorem wcode_848 : Cond.code yX10_bitOf cX10_bitOf 2 (some .int) ∈ tb := tb_in (tj_3 _ (List.mem_of_getElem? (i := 159) rfl)) rfl
theorem wcode_849 : Cond.code yX10_burningNow cX10_burningNow 1 (some .int) ∈ tb := tb_in (tj_3 _ (List.mem_of_getElem? (i := 179) rfl)) rfl
theorem wcode_850 : Cond.code yX10_cheapestHours cX10_cheapestHours 8 (some .int) ∈ tb := tb_in (tj_4 _ (List.mem_of_getElem? (i := 97) rfl)) rfl
theorem wcode_851 : Cond.code yX10_costOfHours cX10_costOfHours 4 (some .int) ∈ tb := tb_in (tj_4 _ (List.mem_of_getElem? (i := 101) rfl)) rfl
theorem wcode_852 : Cond.code yX10_debtorRow cX10_debtorRow 1 (some .int) ∈ tb := tb_in (tj_4 _ (List.mem_of_getElem? (i := 67) rfl)) rfl
theorem wcode_853 : Cond.code yX10_evenCost cX10_evenCost 6 (some .int) ∈ tb := tb_in (tj_4 _ (List.mem_of_getElem? (i := 171) rfl)) rfl
theorem wcode_854 : Cond.code yX10_fraction cX10_fraction 12 (some .int) ∈ tb := tb_in (tj_4 _ (List.mem_of_getElem? (i := 71) rfl)) rfl
theorem wcode_855 : Cond.code yX10_isAtRest cX10_isAtRest 7 (some .boolean) ∈ tb := tb_in (tj_4 _ (List.mem_of_getElem? (i := 110) rfl)) rfl
theorem wcode_856 : Cond.code yX10_isDebtor cX10_isDebtor 2 (some .boolean) ∈ tb := tb_in (tj_4 _ (List.mem_of_getElem? (i := 61) rfl)) rfl
theorem wcode_857 : Cond.code yX10_isFact cX10_isFact 5 (some .boolean) ∈ tb := tb_in (tj_4 _ (List.mem_of_getElem? (i := 130) rfl)) rfl
theorem wcode_858 : Cond.code yX10_isPart cX10_isPart 1 (some .boolean) ∈ tb := tb_in (tj_4 _ (List.mem_of_getElem? (i := 64) rfl)) rfl
theorem wcode_859 : Cond.code yX10_isSpan cX10_isSpan 1 (some .boolean) ∈ tb := tb_in (tj_4 _ (List.mem_of_getElem? (i := 182) rfl)) rfl
theorem wcode_860 : Cond.code yX10_playTrial cX10_playTrial 4 none ∈ tb := tb_in (tj_4 _ (List.mem_of_getElem? (i := 83) rfl)) rfl
theorem wcode_861 : Cond.code yX10_priceNight cX10_priceNight 6 (some .int) ∈ tb := tb_in (tj_4 _ (List.mem_of_getElem? (i := 165) rfl)) rfl
theorem wcode_862 : Cond.code yX10_ruleNow cX10_ruleNow 2 (some (.object "SleepersPay$Rule")) ∈ tb := tb_in (tj_3 _ (List.mem_of_getElem? (i := 213) rfl)) rfl
theorem wcode_863 : Cond.code yX10_setsWith cX10_setsWith 4 (some .int) ∈ tb := tb_in (tj_4 _ (List.mem_of_getElem? (i := 152) rfl)) rfl
theorem wcode_864 : Cond.code yX10_sleepInNight cX10_sleepInNight 11 (some .int) ∈ tb := tb_in (tj_4 _ (List.mem_of_getElem? (i := 175) rfl)) rfl
theorem wcode_865 : Cond.code yX10_sleepTogether cX10_sleepTogether 8 (some .int) ∈ tb := tb_in (tj_4 _ (List.mem_of_getElem? (i := 91) rfl)) rfl
theorem wcode_866 : Cond.code yX10_workersNow cX10_workersNow 1 (some .int) ∈ tb := tb_in (tj_3 _ (List.mem_of_getElem? (i := 163) rfl)) rfl
theorem wcode_867 : Cond.code yX11_bits cX11_bits 3 (some .int) ∈ tb := tb_in (tj_6 _ (List.mem_of_getElem? (i := 137) rfl)) rfl
theorem wini_868 : Cond.initialized "SleepersPayModel" ∈ tb := tb_in (tj_1 _ (List.mem_of_getElem? (i := 11) rfl)) rfl
theorem wcode_869 : Cond.code yX11_burning cX11_burning 3 (some .int) ∈ tb := tb_in (tj_7 _ (List.mem_of_getElem? (i := 3) rfl)) rfl
theorem wcode_870 : Cond.code yX11_burnsIn cX11_burnsIn 4 (some .boolean) ∈ tb := tb_in (tj_6 _ (List.mem_of_getElem? (i := 82) rfl)) rfl
theorem wcode_871 : Cond.code yX11_cellHere cX11_cellHere 4 (some .boolean) ∈ tb := tb_in (tj_5 _ (List.mem_of_getElem? (i := 169) rfl)) rfl
theorem wcode_872 : Cond.code yX11_cheapest cX11_cheapest 5 (some .int) ∈ tb := tb_in (tj_6 _ (List.mem_of_getElem? (i := 208) rfl)) rfl
theorem wcode_873 : Cond.code yX11_clauseHere cX11_clauseHere 3 (some .boolean) ∈ tb := tb_in (tj_5 _ (List.mem_of_getElem? (i := 127) rfl)) rfl
theorem wcode_874 : Cond.code yX11_closes cX11_closes 1 none ∈ tb := tb_in (tj_6 _ (List.mem_of_getElem? (i := 27) rfl)) rfl
theorem wcode_875 : Cond.code yX11_compare cX11_compare 5 (some .boolean) ∈ tb := tb_in (tj_6 _ (List.mem_of_getElem? (i := 23) rfl)) rfl
theorem wcode_876 : Cond.code yX11_costBy cX11_costBy 5 (some .int) ∈ tb := tb_in (tj_7 _ (List.mem_of_getElem? (i := 53) rfl)) rfl
theorem wcode_877 : Cond.code yX11_costIn cX11_costIn 4 (some .int) ∈ tb := tb_in (tj_6 _ (List.mem_of_getElem? (i := 126) rfl)) rfl
theorem wcode_878 : Cond.code yX11_costOf cX11_costOf 2 (some .int) ∈ tb := tb_in (tj_6 _ (List.mem_of_getElem? (i := 130) rfl)) rfl
theorem wcode_879 : Cond.code yX11_divisor cX11_divisor 5 (some .int) ∈ tb := tb_in (tj_6 _ (List.mem_of_getElem? (i := 186) rfl)) rfl
theorem wcode_880 : Cond.code yX11_draw cX11_draw 2 (some .int) ∈ tb := tb_in (tj_7 _ (List.mem_of_getElem? (i := 83) rfl)) rfl
theorem wcode_881 : Cond.code yX11_endsNight cX11_endsNight 4 none ∈ tb := tb_in (tj_6 _ (List.mem_of_getElem? (i := 168) rfl)) rfl
theorem wcode_882 : Cond.code yX11_fact cX11_fact 3 (some .boolean) ∈ tb := tb_in (tj_6 _ (List.mem_of_getElem? (i := 14) rfl)) rfl
theorem wcode_883 : Cond.code yX11_fails cX11_fails 3 (some .boolean) ∈ tb := tb_in (tj_5 _ (List.mem_of_getElem? (i := 153) rfl)) rfl
theorem wcode_884 : Cond.code yX11_fillsLeast cX11_fillsLeast 8 none ∈ tb := tb_in (tj_7 _ (List.mem_of_getElem? (i := 49) rfl)) rfl
theorem wcode_885 : Cond.code yX11_fillsNight cX11_fillsNight 6 none ∈ tb := tb_in (tj_7 _ (List.mem_of_getElem? (i := 41) rfl)) rfl
theorem wcode_886 : Cond.code yX11_findsCheap cX11_findsCheap 7 none ∈ tb := tb_in (tj_6 _ (List.mem_of_getElem? (i := 212) rfl)) rfl
theorem wcode_887 : Cond.code yX11_fitsFacts cX11_fitsFacts 3 (some .boolean) ∈ tb := tb_in (tj_7 _ (List.mem_of_getElem? (i := 21) rfl)) rfl
theorem wcode_888 : Cond.code yX11_four cX11_four 3 none ∈ tb := tb_in (tj_5 _ (List.mem_of_getElem? (i := 111) rfl)) rfl
theorem wcode_889 : Cond.code yX11_fraction cX11_fraction 4 (some .int) ∈ tb := tb_in (tj_6 _ (List.mem_of_getElem? (i := 183) rfl)) rfl
theorem wcode_890 : Cond.code yX11_idle cX11_idle 3 (some .int) ∈ tb := tb_in (tj_6 _ (List.mem_of_getElem? (i := 235) rfl)) rfl
theorem wcode_891 : Cond.code yX11_in cX11_in 6 (some .boolean) ∈ tb := tb_in (tj_5 _ (List.mem_of_getElem? (i := 180) rfl)) rfl
theorem wcode_892 : Cond.code yX11_isDarkEnough cX11_isDarkEnough 5 (some .boolean) ∈ tb := tb_in (tj_7 _ (List.mem_of_getElem? (i := 7) rfl)) rfl
theorem wcode_893 : Cond.code yX11_isDigit cX11_isDigit 2 (some .boolean) ∈ tb := tb_in (tj_5 _ (List.mem_of_getElem? (i := 177) rfl)) rfl
theorem wcode_894 : Cond.code yX11_isFactSo cX11_isFactSo 5 (some .boolean) ∈ tb := tb_in (tj_7 _ (List.mem_of_getElem? (i := 25) rfl)) rfl
theorem wcode_895 : Cond.code yX11_isInside cX11_isInside 2 (some .boolean) ∈ tb := tb_in (tj_6 _ (List.mem_of_getElem? (i := 38) rfl)) rfl
theorem wcode_896 : Cond.code yX11_isLamp cX11_isLamp 2 (some .boolean) ∈ tb := tb_in (tj_6 _ (List.mem_of_getElem? (i := 77) rfl)) rfl
theorem wcode_897 : Cond.code yX11_isLampHere cX11_isLampHere 4 (some .boolean) ∈ tb := tb_in (tj_5 _ (List.mem_of_getElem? (i := 196) rfl)) rfl
theorem wcode_898 : Cond.code yX11_isLetter cX11_isLetter 2 (some .boolean) ∈ tb := tb_in (tj_5 _ (List.mem_of_getElem? (i := 144) rfl)) rfl
theorem wcode_899 : Cond.code yX11_isLitHere cX11_isLitHere 2 (some .boolean) ∈ tb := tb_in (tj_5 _ (List.mem_of_getElem? (i := 200) rfl)) rfl
theorem wcode_900 : Cond.code yX11_isLitIn cX11_isLitIn 5 (some .boolean) ∈ tb := tb_in (tj_6 _ (List.mem_of_getElem? (i := 86) rfl)) rfl
theorem wcode_901 : Cond.code yX11_isOf cX11_isOf 2 (some .boolean) ∈ tb := tb_in (tj_6 _ (List.mem_of_getElem? (i := 219) rfl)) rfl
theorem wcode_902 : Cond.code yX11_isPerson cX11_isPerson 2 (some .boolean) ∈ tb := tb_in (tj_6 _ (List.mem_of_getElem? (i := 60) rfl)) rfl
theorem wcode_903 : Cond.code yX11_isPersonHere cX11_isPersonHere 4 (some .boolean) ∈ tb := tb_in (tj_5 _ (List.mem_of_getElem? (i := 184) rfl)) rfl
theorem wcode_904 : Cond.code yX11_isRest cX11_isRest 7 (some .boolean) ∈ tb := tb_in (tj_6 _ (List.mem_of_getElem? (i := 231) rfl)) rfl
theorem wcode_905 : Cond.code yX11_isRule cX11_isRule 2 (some .boolean) ∈ tb := tb_in (tj_6 _ (List.mem_of_getElem? (i := 52) rfl)) rfl
theorem wcode_906 : Cond.code yX11_isSleepHere cX11_isSleepHere 2 (some .boolean) ∈ tb := tb_in (tj_5 _ (List.mem_of_getElem? (i := 204) rfl)) rfl
theorem wcode_907 : Cond.code yX11_isSpanHere cX11_isSpanHere 3 (some .boolean) ∈ tb := tb_in (tj_5 _ (List.mem_of_getElem? (i := 192) rfl)) rfl
theorem wcode_908 : Cond.code yX11_isStreet cX11_isStreet 1 (some .boolean) ∈ tb := tb_in (tj_6 _ (List.mem_of_getElem? (i := 98) rfl)) rfl
theorem wcode_909 : Cond.code yX11_isStreetHere cX11_isStreetHere 2 (some .boolean) ∈ tb := tb_in (tj_5 _ (List.mem_of_getElem? (i := 161) rfl)) rfl
theorem wcode_910 : Cond.code yX11_isStreetWord cX11_isStreetWord 1 (some .boolean) ∈ tb := tb_in (tj_5 _ (List.mem_of_getElem? (i := 135) rfl)) rfl
theorem wcode_911 : Cond.code yX11_isWord cX11_isWord 6 (some .boolean) ∈ tb := tb_in (tj_5 _ (List.mem_of_getElem? (i := 140) rfl)) rfl
theorem wcode_912 : Cond.code yX11_isWorkHere cX11_isWorkHere 2 (some .boolean) ∈ tb := tb_in (tj_5 _ (List.mem_of_getElem? (i := 188) rfl)) rfl
theorem wcode_913 : Cond.code yX11_keeps cX11_keeps 2 none ∈ tb := tb_in (tj_6 _ (List.mem_of_getElem? (i := 195) rfl)) rfl
theorem wcode_914 : Cond.code yX11_keepsAct cX11_keepsAct 2 none ∈ tb := tb_in (tj_6 _ (List.mem_of_getElem? (i := 102) rfl)) rfl
theorem wcode_915 : Cond.code yX11_laysBack cX11_laysBack 2 none ∈ tb := tb_in (tj_6 _ (List.mem_of_getElem? (i := 199) rfl)) rfl
theorem wcode_916 : Cond.code yX11_leastOf cX11_leastOf 3 (some .int) ∈ tb := tb_in (tj_7 _ (List.mem_of_getElem? (i := 57) rfl)) rfl
theorem wcode_917 : Cond.code yX11_makes cX11_makes 2 (some .boolean) ∈ tb := tb_in (tj_5 _ (List.mem_of_getElem? (i := 221) rfl)) rfl
theorem wcode_918 : Cond.code yX11_numberHere cX11_numberHere 5 (some .boolean) ∈ tb := tb_in (tj_5 _ (List.mem_of_getElem? (i := 173) rfl)) rfl
theorem wcode_919 : Cond.code yX11_one cX11_one 5 (some .long) ∈ tb := tb_in (tj_6 _ (List.mem_of_getElem? (i := 160) rfl)) rfl
theorem wcode_920 : Cond.code yX11_opens cX11_opens 2 (some .boolean) ∈ tb := tb_in (tj_6 _ (List.mem_of_getElem? (i := 19) rfl)) rfl
theorem wcode_921 : Cond.code yX11_owedHeld cX11_owedHeld 6 (some .int) ∈ tb := tb_in (tj_7 _ (List.mem_of_getElem? (i := 71) rfl)) rfl
theorem wcode_922 : Cond.code yX11_ownCost cX11_ownCost 4 (some .int) ∈ tb := tb_in (tj_6 _ (List.mem_of_getElem? (i := 141) rfl)) rfl
theorem wcode_923 : Cond.code yX11_passWord cX11_passWord 1 none ∈ tb := tb_in (tj_5 _ (List.mem_of_getElem? (i := 165) rfl)) rfl
theorem wcode_924 : Cond.code yX11_passes cX11_passes 1 (some .int) ∈ tb := tb_in (tj_6 _ (List.mem_of_getElem? (i := 106) rfl)) rfl
theorem wcode_925 : Cond.code yX11_personOf cX11_personOf 3 (some .int) ∈ tb := tb_in (tj_6 _ (List.mem_of_getElem? (i := 65) rfl)) rfl
theorem wcode_926 : Cond.code yX11_pop cX11_pop 1 (some .long) ∈ tb := tb_in (tj_6 _ (List.mem_of_getElem? (i := 157) rfl)) rfl
theorem wcode_927 : Cond.code yX11_push cX11_push 3 none ∈ tb := tb_in (tj_6 _ (List.mem_of_getElem? (i := 153) rfl)) rfl
theorem wcode_928 : Cond.code yX11_puts cX11_puts 3 none ∈ tb := tb_in (tj_5 _ (List.mem_of_getElem? (i := 225) rfl)) rfl
theorem wcode_929 : Cond.code yX11_readsAll cX11_readsAll 2 (some .boolean) ∈ tb := tb_in (tj_5 _ (List.mem_of_getElem? (i := 123) rfl)) rfl
theorem wcode_930 : Cond.code yX11_reckons cX11_reckons 11 (some .long) ∈ tb := tb_in (tj_6 _ (List.mem_of_getElem? (i := 149) rfl)) rfl
theorem wcode_931 : Cond.code yX11_see cX11_see 1 (some .int) ∈ tb := tb_in (tj_5 _ (List.mem_of_getElem? (i := 131) rfl)) rfl
theorem wcode_932 : Cond.code yX11_setsAsleep cX11_setsAsleep 3 none ∈ tb := tb_in (tj_6 _ (List.mem_of_getElem? (i := 114) rfl)) rfl
theorem wcode_933 : Cond.code yX11_settles cX11_settles 2 none ∈ tb := tb_in (tj_6 _ (List.mem_of_getElem? (i := 31) rfl)) rfl
theorem wcode_934 : Cond.code yX11_shares cX11_shares 5 (some .int) ∈ tb := tb_in (tj_6 _ (List.mem_of_getElem? (i := 164) rfl)) rfl
theorem wcode_935 : Cond.code yX11_sleepers cX11_sleepers 3 (some .int) ∈ tb := tb_in (tj_6 _ (List.mem_of_getElem? (i := 134) rfl)) rfl
theorem wcode_936 : Cond.code yX11_sleepsByRule cX11_sleepsByRule 2 none ∈ tb := tb_in (tj_6 _ (List.mem_of_getElem? (i := 118) rfl)) rfl
theorem wcode_937 : Cond.code yX11_streetLineHere cX11_streetLineHere 2 (some .boolean) ∈ tb := tb_in (tj_5 _ (List.mem_of_getElem? (i := 157) rfl)) rfl
theorem wcode_938 : Cond.code yX11_strength cX11_strength 1 (some .int) ∈ tb := tb_in (tj_6 _ (List.mem_of_getElem? (i := 34) rfl)) rfl
theorem wcode_939 : Cond.code yX11_sum cX11_sum 2 (some .boolean) ∈ tb := tb_in (tj_5 _ (List.mem_of_getElem? (i := 208) rfl)) rfl
theorem wcode_940 : Cond.code yX11_summedBy cX11_summedBy 4 (some .long) ∈ tb := tb_in (tj_6 _ (List.mem_of_getElem? (i := 145) rfl)) rfl
theorem wcode_941 : Cond.code yX11_takesWord cX11_takesWord 3 (some .boolean) ∈ tb := tb_in (tj_6 _ (List.mem_of_getElem? (i := 6) rfl)) rfl
theorem wcode_942 : Cond.code yX11_term cX11_term 2 (some .boolean) ∈ tb := tb_in (tj_5 _ (List.mem_of_getElem? (i := 212) rfl)) rfl
theorem wcode_943 : Cond.code yX11_tested cX11_tested 3 (some .boolean) ∈ tb := tb_in (tj_6 _ (List.mem_of_getElem? (i := 10) rfl)) rfl
theorem wcode_944 : Cond.code yX11_toldCost cX11_toldCost 4 (some .int) ∈ tb := tb_in (tj_7 _ (List.mem_of_getElem? (i := 45) rfl)) rfl
theorem wcode_945 : Cond.code yX11_value cX11_value 3 (some .boolean) ∈ tb := tb_in (tj_5 _ (List.mem_of_getElem? (i := 216) rfl)) rfl
theorem wcode_946 : Cond.code yX11_wakesWorkers cX11_wakesWorkers 2 none ∈ tb := tb_in (tj_6 _ (List.mem_of_getElem? (i := 110) rfl)) rfl
theorem wcode_947 : Cond.code yX11_wordHere cX11_wordHere 1 (some .int) ∈ tb := tb_in (tj_5 _ (List.mem_of_getElem? (i := 229) rfl)) rfl
theorem wcode_948 : Cond.code yX11_words cX11_words 2 none ∈ tb := tb_in (tj_6 _ (List.mem_of_getElem? (i := 122) rfl)) rfl
theorem wcode_949 : Cond.code yX11_worksIn cX11_worksIn 5 (some .boolean) ∈ tb := tb_in (tj_6 _ (List.mem_of_getElem? (i := 69) rfl)) rfl
theorem wcode_950 : Cond.code yX11_worksOne cX11_worksOne 4 (some .boolean) ∈ tb := tb_in (tj_6 _ (List.mem_of_getElem? (i := 216) rfl)) rfl
theorem wcode_951 : Cond.code yX1_add cX1_add 5 (some .boolean) ∈ tb := tb_in (tj_4 _ (List.mem_of_getElem? (i := 134) rfl)) rfl
theorem wcode_952 : Cond.code yX1_allow cX1_allow 3 (some .boolean) ∈ tb := tb_in (tj_4 _ (List.mem_of_getElem? (i := 142) rfl)) rfl
theorem wcode_953 : Cond.code yX1_allows cX1_allows 5 (some .boolean) ∈ tb := tb_in (tj_4 _ (List.mem_of_getElem? (i := 146) rfl)) rfl
theorem wcode_954 : Cond.code yX1_clear cX1_clear 1 none ∈ tb := tb_in (tj_3 _ (List.mem_of_getElem? (i := 66) rfl)) rfl
theorem wcode_955 : Cond.code yX1_copyOf cX1_copyOf 2 none ∈ tb := tb_in (tj_4 _ (List.mem_of_getElem? (i := 222) rfl)) rfl
theorem wcode_956 : Cond.code yX1_init cX1_init 1 none ∈ tb := tb_in (tj_1 _ (List.mem_of_getElem? (i := 231) rfl)) rfl
theorem wcode_957 : Cond.code yX2_burningAt cX2_burningAt 3 (some .int) ∈ tb := tb_in (tj_3 _ (List.mem_of_getElem? (i := 183) rfl)) rfl
theorem wcode_958 : Cond.code yX2_clear cX2_clear 2 none ∈ tb := tb_in (tj_3 _ (List.mem_of_getElem? (i := 62) rfl)) rfl
theorem wcode_959 : Cond.code yX2_copyOf cX2_copyOf 2 none ∈ tb := tb_in (tj_3 _ (List.mem_of_getElem? (i := 207) rfl)) rfl
theorem wcode_960 : Cond.code yX2_goOn cX2_goOn 4 none ∈ tb := tb_in (tj_4 _ (List.mem_of_getElem? (i := 28) rfl)) rfl
theorem wcode_961 : Cond.code yX2_init cX2_init 1 none ∈ tb := tb_in (tj_1 _ (List.mem_of_getElem? (i := 187) rfl)) rfl
theorem wcode_962 : Cond.code yX2_isLast cX2_isLast 2 (some .boolean) ∈ tb := tb_in (tj_3 _ (List.mem_of_getElem? (i := 199) rfl)) rfl
theorem wcode_963 : Cond.code yX2_setLamp cX2_setLamp 4 none ∈ tb := tb_in (tj_4 _ (List.mem_of_getElem? (i := 42) rfl)) rfl
theorem wcode_964 : Cond.code yX3_answer cX3_answer 10 (some .long) ∈ tb := tb_in (tj_3 _ (List.mem_of_getElem? (i := 223) rfl)) rfl
theorem wcode_965 : Cond.code yX3_draw cX3_draw 9 (some .int) ∈ tb := tb_in (tj_4 _ (List.mem_of_getElem? (i := 199) rfl)) rfl
theorem wcode_966 : Cond.code yX3_init cX3_init 1 none ∈ tb := tb_in (tj_2 _ (List.mem_of_getElem? (i := 60) rfl)) rfl
theorem wcode_967 : Cond.code yX3_play cX3_play 8 (some .int) ∈ tb := tb_in (tj_3 _ (List.mem_of_getElem? (i := 217) rfl)) rfl
theorem wcode_968 : Cond.code yX3_pop cX3_pop 1 (some .long) ∈ tb := tb_in (tj_4 _ (List.mem_of_getElem? (i := 11) rfl)) rfl
theorem wcode_969 : Cond.code yX3_push cX3_push 3 none ∈ tb := tb_in (tj_3 _ (List.mem_of_getElem? (i := 227) rfl)) rfl
theorem wcode_970 : Cond.code yX3_setAsleep cX3_setAsleep 4 none ∈ tb := tb_in (tj_4 _ (List.mem_of_getElem? (i := 17) rfl)) rfl
theorem wcode_971 : Cond.code yX3_share cX3_share 9 none ∈ tb := tb_in (tj_4 _ (List.mem_of_getElem? (i := 20) rfl)) rfl
theorem wcode_972 : Cond.code yX3_valueOf cX3_valueOf 5 (some .long) ∈ tb := tb_in (tj_3 _ (List.mem_of_getElem? (i := 230) rfl)) rfl
theorem wcode_973 : Cond.code yX4_combine cX4_combine 5 (some .long) ∈ tb := tb_in (tj_4 _ (List.mem_of_getElem? (i := 14) rfl)) rfl
theorem wcode_974 : Cond.code yX4_init cX4_init 4 none ∈ tb := tb_in (tj_3 _ (List.mem_of_getElem? (i := 133) rfl)) rfl
theorem wcode_975 : Cond.code yX5_comparisonOf cX5_comparisonOf 1 (some .int) ∈ tb := tb_in (tj_3 _ (List.mem_of_getElem? (i := 123) rfl)) rfl
theorem wcode_976 : Cond.code yX5_emit cX5_emit 2 none ∈ tb := tb_in (tj_3 _ (List.mem_of_getElem? (i := 101) rfl)) rfl
theorem wcode_977 : Cond.code yX5_factorOf cX5_factorOf 1 (some .int) ∈ tb := tb_in (tj_3 _ (List.mem_of_getElem? (i := 104) rfl)) rfl
theorem wcode_978 : Cond.code yX5_init cX5_init 2 none ∈ tb := tb_in (tj_1 _ (List.mem_of_getElem? (i := 97) rfl)) rfl
theorem wcode_979 : Cond.code yX5_made cX5_made 1 (some (.object "SleepersPay$Rule")) ∈ tb := tb_in (tj_3 _ (List.mem_of_getElem? (i := 128) rfl)) rfl
theorem wcode_980 : Cond.code yX5_readClause cX5_readClause 2 (some .boolean) ∈ tb := tb_in (tj_3 _ (List.mem_of_getElem? (i := 83) rfl)) rfl
theorem wcode_981 : Cond.code yX5_readComparison cX5_readComparison 2 (some .boolean) ∈ tb := tb_in (tj_3 _ (List.mem_of_getElem? (i := 120) rfl)) rfl
theorem wcode_982 : Cond.code yX5_readFact cX5_readFact 3 (some .boolean) ∈ tb := tb_in (tj_3 _ (List.mem_of_getElem? (i := 116) rfl)) rfl
theorem wcode_983 : Cond.code yX5_readPart cX5_readPart 3 (some .boolean) ∈ tb := tb_in (tj_3 _ (List.mem_of_getElem? (i := 112) rfl)) rfl
theorem wcode_984 : Cond.code yX5_readSum cX5_readSum 3 (some .boolean) ∈ tb := tb_in (tj_3 _ (List.mem_of_getElem? (i := 89) rfl)) rfl
theorem wcode_985 : Cond.code yX5_readTerm cX5_readTerm 3 (some .boolean) ∈ tb := tb_in (tj_3 _ (List.mem_of_getElem? (i := 93) rfl)) rfl
theorem wcode_986 : Cond.code yX5_readTest cX5_readTest 3 (some .boolean) ∈ tb := tb_in (tj_3 _ (List.mem_of_getElem? (i := 108) rfl)) rfl
theorem wcode_987 : Cond.code yX5_readText cX5_readText 2 (some .int) ∈ tb := tb_in (tj_3 _ (List.mem_of_getElem? (i := 78) rfl)) rfl
theorem wcode_988 : Cond.code yX5_readValue cX5_readValue 3 (some .boolean) ∈ tb := tb_in (tj_3 _ (List.mem_of_getElem? (i := 97) rfl)) rfl
theorem wcode_989 : Cond.code yX6_copyOf cX6_copyOf 2 none ∈ tb := tb_in (tj_4 _ (List.mem_of_getElem? (i := 216) rfl)) rfl
theorem wcode_990 : Cond.code yX6_init cX6_init 1 none ∈ tb := tb_in (tj_1 _ (List.mem_of_getElem? (i := 179) rfl)) rfl
theorem wcode_991 : Cond.code yX7_addLamp cX7_addLamp 3 none ∈ tb := tb_in (tj_3 _ (List.mem_of_getElem? (i := 29) rfl)) rfl
theorem wcode_992 : Cond.code yX7_addLit cX7_addLit 4 none ∈ tb := tb_in (tj_3 _ (List.mem_of_getElem? (i := 47) rfl)) rfl
theorem wcode_993 : Cond.code yX7_addPerson cX7_addPerson 3 none ∈ tb := tb_in (tj_3 _ (List.mem_of_getElem? (i := 21) rfl)) rfl
theorem wcode_994 : Cond.code yX7_addSpan cX7_addSpan 5 none ∈ tb := tb_in (tj_3 _ (List.mem_of_getElem? (i := 40) rfl)) rfl
theorem wcode_995 : Cond.code yX7_addWork cX7_addWork 4 none ∈ tb := tb_in (tj_3 _ (List.mem_of_getElem? (i := 37) rfl)) rfl
theorem wcode_996 : Cond.code yX7_clear cX7_clear 2 none ∈ tb := tb_in (tj_2 _ (List.mem_of_getElem? (i := 138) rfl)) rfl
theorem wcode_997 : Cond.code yX7_copyOf cX7_copyOf 2 none ∈ tb := tb_in (tj_3 _ (List.mem_of_getElem? (i := 55) rfl)) rfl
theorem wcode_998 : Cond.code yX7_costOf cX7_costOf 4 (some .int) ∈ tb := tb_in (tj_3 _ (List.mem_of_getElem? (i := 235) rfl)) rfl
theorem wcode_999 : Cond.code yX7_everyone cX7_everyone 1 (some .int) ∈ tb := tb_in (tj_4 _ (List.mem_of_getElem? (i := 24) rfl)) rfl
theorem wcode_1000 : Cond.code yX7_init cX7_init 1 none ∈ tb := tb_in (tj_1 _ (List.mem_of_getElem? (i := 116) rfl)) rfl
theorem wcode_1001 : Cond.code yX7_isLamp cX7_isLamp 2 (some .boolean) ∈ tb := tb_in (tj_3 _ (List.mem_of_getElem? (i := 175) rfl)) rfl
theorem wcode_1002 : Cond.code yX7_isPerson cX7_isPerson 2 (some .boolean) ∈ tb := tb_in (tj_3 _ (List.mem_of_getElem? (i := 156) rfl)) rfl
theorem wcode_1003 : Cond.code yX7_isTold cX7_isTold 1 (some .boolean) ∈ tb := tb_in (tj_3 _ (List.mem_of_getElem? (i := 195) rfl)) rfl
theorem wcode_1004 : Cond.code yX7_lampsOf cX7_lampsOf 4 (some .int) ∈ tb := tb_in (tj_4 _ (List.mem_of_getElem? (i := 7) rfl)) rfl
theorem wcode_1005 : Cond.code yX7_litAt cX7_litAt 2 (some .int) ∈ tb := tb_in (tj_3 _ (List.mem_of_getElem? (i := 187) rfl)) rfl
theorem wcode_1006 : Cond.code yX7_workersAt cX7_workersAt 2 (some .int) ∈ tb := tb_in (tj_3 _ (List.mem_of_getElem? (i := 167) rfl)) rfl
theorem wcode_1007 : Cond.code yX8_init cX8_init 2 none ∈ tb := tb_in (tj_1 _ (List.mem_of_getElem? (i := 87) rfl)) rfl
theorem wcode_1008 : Cond.code yX8_isClause cX8_isClause 1 (some .boolean) ∈ tb := tb_in (tj_2 _ (List.mem_of_getElem? (i := 236) rfl)) rfl
theorem wcode_1009 : Cond.code yX8_isFull cX8_isFull 2 (some .boolean) ∈ tb := tb_in (tj_3 _ (List.mem_of_getElem? (i := 3) rfl)) rfl
theorem wcode_1010 : Cond.code yX8_readClause cX8_readClause 5 (some .boolean) ∈ tb := tb_in (tj_2 _ (List.mem_of_getElem? (i := 233) rfl)) rfl
theorem wcode_1011 : Cond.code yX8_readHours cX8_readHours 3 (some .boolean) ∈ tb := tb_in (tj_3 _ (List.mem_of_getElem? (i := 8) rfl)) rfl
theorem wcode_1012 : Cond.code yX8_readInto cX8_readInto 3 (some .int) ∈ tb := tb_in (tj_2 _ (List.mem_of_getElem? (i := 134) rfl)) rfl
theorem wcode_1013 : Cond.code yX8_readLamp cX8_readLamp 5 (some .boolean) ∈ tb := tb_in (tj_3 _ (List.mem_of_getElem? (i := 25) rfl)) rfl
theorem wcode_1014 : Cond.code yX8_readPerson cX8_readPerson 4 (some .boolean) ∈ tb := tb_in (tj_3 _ (List.mem_of_getElem? (i := 17) rfl)) rfl
theorem wcode_1015 : Cond.code yX8_readSpan cX8_readSpan 7 (some .boolean) ∈ tb := tb_in (tj_3 _ (List.mem_of_getElem? (i := 33) rfl)) rfl
theorem wcode_1016 : Cond.code yX9_add cX9_add 4 none ∈ tb := tb_in (tj_2 _ (List.mem_of_getElem? (i := 161) rfl)) rfl
theorem wcode_1017 : Cond.code yX9_append cX9_append 3 none ∈ tb := tb_in (tj_2 _ (List.mem_of_getElem? (i := 122) rfl)) rfl
theorem wcode_1018 : Cond.code yX9_byteAt cX9_byteAt 2 (some .int) ∈ tb := tb_in (tj_2 _ (List.mem_of_getElem? (i := 150) rfl)) rfl
theorem wcode_1019 : Cond.code yX9_hasRoom cX9_hasRoom 2 (some .boolean) ∈ tb := tb_in (tj_2 _ (List.mem_of_getElem? (i := 118) rfl)) rfl
theorem wcode_1020 : Cond.code yX9_init cX9_init 1 none ∈ tb := tb_in (tj_1 _ (List.mem_of_getElem? (i := 32) rfl)) rfl
theorem wcode_1021 : Cond.code yX9_isDigit cX9_isDigit 1 (some .boolean) ∈ tb := tb_in (tj_2 _ (List.mem_of_getElem? (i := 153) rfl)) rfl
theorem wcode_1022 : Cond.code yX9_isSmall cX9_isSmall 1 (some .boolean) ∈ tb := tb_in (tj_2 _ (List.mem_of_getElem? (i := 164) rfl)) rfl
theorem wcode_1023 : Cond.code yX9_open cX9_open 3 none ∈ tb := tb_in (tj_2 _ (List.mem_of_getElem? (i := 142) rfl)) rfl
theorem wcode_1024 : Cond.code yX9_refuse cX9_refuse 3 (some .boolean) ∈ tb := tb_in (tj_3 _ (List.mem_of_getElem? (i := 0) rfl)) rfl
theorem wcode_1025 : Cond.code yX9_splitAt cX9_splitAt 4 (some .int) ∈ tb := tb_in (tj_2 _ (List.mem_of_getElem? (i := 146) rfl)) rfl
theorem wcode_1026 : Cond.code yX9_splitNumber cX9_splitNumber 4 (some .int) ∈ tb := tb_in (tj_2 _ (List.mem_of_getElem? (i := 157) rfl)) rfl
theorem wcode_1027 : Cond.code yX9_splitWord cX9_splitWord 3 (some .int) ∈ tb := tb_in (tj_2 _ (List.mem_of_getElem? (i := 168) rfl)) rfl
theorem wcode_1028 : Cond.code yX9_step cX9_step 2 none ∈ tb := tb_in (tj_2 _ (List.mem_of_getElem? (i := 229) rfl)) rfl
theorem wcode_1029 : Cond.code yX9_takeNumber cX9_takeNumber 4 (some .int) ∈ tb := tb_in (tj_3 _ (List.mem_of_getElem? (i := 12) rfl)) rfl
theorem wcode_1030 : Cond.code yX9_takeSign cX9_takeSign 2 (some .boolean) ∈ tb := tb_in (tj_3 _ (List.mem_of_getElem? (i := 51) rfl)) rfl
theorem wcode_1031 : Cond.code yX9_wordBetween cX9_wordBetween 6 (some .int) ∈ tb := tb_in (tj_2 _ (List.mem_of_getElem? (i := 172) rfl)) rfl
theorem mo_J6_bitCount_0f7a4 : MO yJ6_bitCount_0f7a4 cJ6_bitCount_0f7a4 1 (some .int) 1 := ⟨wcode_835, wini_836, by decide +kernel⟩
theorem mo_J9_abs_067f4 : MO yJ9_abs_067f4 cJ9_abs_067f4 2 (some .long) 1 := ⟨wcode_837, wini_838, by decide +kernel⟩
theorem mo_J9_floorMod_7cf53 : MO yJ9_floorMod_7cf53 cJ9_floorMod_7cf53 3 (some .int) 2 := ⟨wcode_839, wini_838, by decide +kernel⟩
theorem mo_J9_max_7cf53 : MO yJ9_max_7cf53 cJ9_max_7cf53 2 (some .int) 2 := ⟨wcode_840, wini_838, by decide +kernel⟩
theorem mo_J9_min_7cf53 : MO yJ9_min_7cf53 cJ9_min_7cf53 2 (some .int) 2 := ⟨wcode_841, wini_838, by decide +kernel⟩
theorem mo_X0_clear : MO yX0_clear cX0_clear 1 none 0 := ⟨wcode_842, wini_668, by decide +kernel⟩
theorem mo_X0_init : MO yX0_init cX0_init 2 none 0 := ⟨wcode_843, wini_668, by decide +kernel⟩
theorem mo_X0_keep : MO yX0_keep cX0_keep 2 none 1 := ⟨wcode_844, wini_668, by decide +kernel⟩
theorem mo_X0_takeBack : MO yX0_takeBack cX0_takeBack 2 (some .boolean) 1 := ⟨wcode_845, wini_668, by decide +kernel⟩
theorem mo_X10_allCouldSleep : MO yX10_allCouldSleep cX10_allCouldSleep 6 (some .boolean) 1 := ⟨wcode_846, wini_847, by decide +kernel⟩
theorem mo_X10_bitOf : MO yX10_bitOf cX10_bitOf 2 (some .int) 2 := ⟨wcode_848, wini_847, by decide +kernel⟩
theorem mo_X10_burningNow : MO yX10_burningNow cX10_burningNow 1 (some .int) 0 := ⟨wcode_849, wini_847, by decide +kernel⟩
theorem mo_X10_cheapestHours : MO yX10_cheapestHours cX10_cheapestHours 8 (some .int) 2 := ⟨wcode_850, wini_847, by decide +kernel⟩
theorem mo_X10_costOfHours : MO yX10_costOfHours cX10_costOfHours 4 (some .int) 1 := ⟨wcode_851, wini_847, by decide +kernel⟩
theorem mo_X10_debtorRow : MO yX10_debtorRow cX10_debtorRow 1 (some .int) 1 := ⟨wcode_852, wini_847, by decide +kernel⟩
theorem mo_X10_evenCost : MO yX10_evenCost cX10_evenCost 6 (some .int) 2 := ⟨wcode_853, wini_847, by decide +kernel⟩
theorem mo_X10_fraction : MO yX10_fraction cX10_fraction 12 (some .int) 3 := ⟨wcode_854, wini_847, by decide +kernel⟩
theorem mo_X10_isAtRest : MO yX10_isAtRest cX10_isAtRest 7 (some .boolean) 3 := ⟨wcode_855, wini_847, by decide +kernel⟩
theorem mo_X10_isDebtor : MO yX10_isDebtor cX10_isDebtor 2 (some .boolean) 1 := ⟨wcode_856, wini_847, by decide +kernel⟩
theorem mo_X10_isFact : MO yX10_isFact cX10_isFact 5 (some .boolean) 4 := ⟨wcode_857, wini_847, by decide +kernel⟩
theorem mo_X10_isPart : MO yX10_isPart cX10_isPart 1 (some .boolean) 1 := ⟨wcode_858, wini_847, by decide +kernel⟩
theorem mo_X10_isSpan : MO yX10_isSpan cX10_isSpan 1 (some .boolean) 1 := ⟨wcode_859, wini_847, by decide +kernel⟩
theorem mo_X10_playTrial : MO yX10_playTrial cX10_playTrial 4 none 2 := ⟨wcode_860, wini_847, by decide +kernel⟩
theorem mo_X10_priceNight : MO yX10_priceNight cX10_priceNight 6 (some .int) 1 := ⟨wcode_861, wini_847, by decide +kernel⟩
theorem mo_X10_ruleNow : MO yX10_ruleNow cX10_ruleNow 2 (some (.object "SleepersPay$Rule")) 0 := ⟨wcode_862, wini_847, by decide +kernel⟩
theorem mo_X10_setsWith : MO yX10_setsWith cX10_setsWith 4 (some .int) 1 := ⟨wcode_863, wini_847, by decide +kernel⟩
theorem mo_X10_sleepInNight : MO yX10_sleepInNight cX10_sleepInNight 11 (some .int) 4 := ⟨wcode_864, wini_847, by decide +kernel⟩
theorem mo_X10_sleepTogether : MO yX10_sleepTogether cX10_sleepTogether 8 (some .int) 3 := ⟨wcode_865, wini_847, by decide +kernel⟩
theorem mo_X10_workersNow : MO yX10_workersNow cX10_workersNow 1 (some .int) 0 := ⟨wcode_866, wini_847, by decide +kernel⟩
theorem mo_X11_bits : MO yX11_bits cX11_bits 3 (some .int) 1 := ⟨wcode_867, wini_868, by decide +kernel⟩
theorem mo_X11_burning : MO yX11_burning cX11_burning 3 (some .int) 0 := ⟨wcode_869, wini_868, by decide +kernel⟩
theorem mo_X11_burnsIn : MO yX11_burnsIn cX11_burnsIn 4 (some .boolean) 2 := ⟨wcode_870, wini_868, by decide +kernel⟩
theorem mo_X11_cellHere : MO yX11_cellHere cX11_cellHere 4 (some .boolean) 3 := ⟨wcode_871, wini_868, by decide +kernel⟩
theorem mo_X11_cheapest : MO yX11_cheapest cX11_cheapest 5 (some .int) 3 := ⟨wcode_872, wini_868, by decide +kernel⟩
theorem mo_X11_clauseHere : MO yX11_clauseHere cX11_clauseHere 3 (some .boolean) 0 := ⟨wcode_873, wini_868, by decide +kernel⟩
theorem mo_X11_closes : MO yX11_closes cX11_closes 1 none 0 := ⟨wcode_874, wini_868, by decide +kernel⟩
theorem mo_X11_compare : MO yX11_compare cX11_compare 5 (some .boolean) 0 := ⟨wcode_875, wini_868, by decide +kernel⟩
theorem mo_X11_costBy : MO yX11_costBy cX11_costBy 5 (some .int) 4 := ⟨wcode_876, wini_868, by decide +kernel⟩
theorem mo_X11_costIn : MO yX11_costIn cX11_costIn 4 (some .int) 1 := ⟨wcode_877, wini_868, by decide +kernel⟩
theorem mo_X11_costOf : MO yX11_costOf cX11_costOf 2 (some .int) 1 := ⟨wcode_878, wini_868, by decide +kernel⟩
theorem mo_X11_divisor : MO yX11_divisor cX11_divisor 5 (some .int) 2 := ⟨wcode_879, wini_868, by decide +kernel⟩
theorem mo_X11_draw : MO yX11_draw cX11_draw 2 (some .int) 1 := ⟨wcode_880, wini_868, by decide +kernel⟩
theorem mo_X11_endsNight : MO yX11_endsNight cX11_endsNight 4 none 0 := ⟨wcode_881, wini_868, by decide +kernel⟩
theorem mo_X11_fact : MO yX11_fact cX11_fact 3 (some .boolean) 0 := ⟨wcode_882, wini_868, by decide +kernel⟩
theorem mo_X11_fails : MO yX11_fails cX11_fails 3 (some .boolean) 2 := ⟨wcode_883, wini_868, by decide +kernel⟩
theorem mo_X11_fillsLeast : MO yX11_fillsLeast cX11_fillsLeast 8 none 2 := ⟨wcode_884, wini_868, by decide +kernel⟩
theorem mo_X11_fillsNight : MO yX11_fillsNight cX11_fillsNight 6 none 1 := ⟨wcode_885, wini_868, by decide +kernel⟩
theorem mo_X11_findsCheap : MO yX11_findsCheap cX11_findsCheap 7 none 2 := ⟨wcode_886, wini_868, by decide +kernel⟩
theorem mo_X11_fitsFacts : MO yX11_fitsFacts cX11_fitsFacts 3 (some .boolean) 1 := ⟨wcode_887, wini_868, by decide +kernel⟩
theorem mo_X11_four : MO yX11_four cX11_four 3 none 1 := ⟨wcode_888, wini_868, by decide +kernel⟩
theorem mo_X11_fraction : MO yX11_fraction cX11_fraction 4 (some .int) 3 := ⟨wcode_889, wini_868, by decide +kernel⟩
theorem mo_X11_idle : MO yX11_idle cX11_idle 3 (some .int) 0 := ⟨wcode_890, wini_868, by decide +kernel⟩
theorem mo_X11_in : MO yX11_in cX11_in 6 (some .boolean) 3 := ⟨wcode_891, wini_868, by decide +kernel⟩
theorem mo_X11_isDarkEnough : MO yX11_isDarkEnough cX11_isDarkEnough 5 (some .boolean) 1 := ⟨wcode_892, wini_868, by decide +kernel⟩
theorem mo_X11_isDigit : MO yX11_isDigit cX11_isDigit 2 (some .boolean) 1 := ⟨wcode_893, wini_868, by decide +kernel⟩
theorem mo_X11_isFactSo : MO yX11_isFactSo cX11_isFactSo 5 (some .boolean) 2 := ⟨wcode_894, wini_868, by decide +kernel⟩
theorem mo_X11_isInside : MO yX11_isInside cX11_isInside 2 (some .boolean) 0 := ⟨wcode_895, wini_868, by decide +kernel⟩
theorem mo_X11_isLamp : MO yX11_isLamp cX11_isLamp 2 (some .boolean) 1 := ⟨wcode_896, wini_868, by decide +kernel⟩
theorem mo_X11_isLampHere : MO yX11_isLampHere cX11_isLampHere 4 (some .boolean) 1 := ⟨wcode_897, wini_868, by decide +kernel⟩
theorem mo_X11_isLetter : MO yX11_isLetter cX11_isLetter 2 (some .boolean) 1 := ⟨wcode_898, wini_868, by decide +kernel⟩
theorem mo_X11_isLitHere : MO yX11_isLitHere cX11_isLitHere 2 (some .boolean) 1 := ⟨wcode_899, wini_868, by decide +kernel⟩
theorem mo_X11_isLitIn : MO yX11_isLitIn cX11_isLitIn 5 (some .boolean) 2 := ⟨wcode_900, wini_868, by decide +kernel⟩
theorem mo_X11_isOf : MO yX11_isOf cX11_isOf 2 (some .boolean) 2 := ⟨wcode_901, wini_868, by decide +kernel⟩
theorem mo_X11_isPerson : MO yX11_isPerson cX11_isPerson 2 (some .boolean) 1 := ⟨wcode_902, wini_868, by decide +kernel⟩
theorem mo_X11_isPersonHere : MO yX11_isPersonHere cX11_isPersonHere 4 (some .boolean) 1 := ⟨wcode_903, wini_868, by decide +kernel⟩
theorem mo_X11_isRest : MO yX11_isRest cX11_isRest 7 (some .boolean) 1 := ⟨wcode_904, wini_868, by decide +kernel⟩
theorem mo_X11_isRule : MO yX11_isRule cX11_isRule 2 (some .boolean) 1 := ⟨wcode_905, wini_868, by decide +kernel⟩
theorem mo_X11_isSleepHere : MO yX11_isSleepHere cX11_isSleepHere 2 (some .boolean) 0 := ⟨wcode_906, wini_868, by decide +kernel⟩
theorem mo_X11_isSpanHere : MO yX11_isSpanHere cX11_isSpanHere 3 (some .boolean) 2 := ⟨wcode_907, wini_868, by decide +kernel⟩
theorem mo_X11_isStreet : MO yX11_isStreet cX11_isStreet 1 (some .boolean) 0 := ⟨wcode_908, wini_868, by decide +kernel⟩
theorem mo_X11_isStreetHere : MO yX11_isStreetHere cX11_isStreetHere 2 (some .boolean) 1 := ⟨wcode_909, wini_868, by decide +kernel⟩
theorem mo_X11_isStreetWord : MO yX11_isStreetWord cX11_isStreetWord 1 (some .boolean) 0 := ⟨wcode_910, wini_868, by decide +kernel⟩
theorem mo_X11_isWord : MO yX11_isWord cX11_isWord 6 (some .boolean) 1 := ⟨wcode_911, wini_868, by decide +kernel⟩
theorem mo_X11_isWorkHere : MO yX11_isWorkHere cX11_isWorkHere 2 (some .boolean) 1 := ⟨wcode_912, wini_868, by decide +kernel⟩
theorem mo_X11_keeps : MO yX11_keeps cX11_keeps 2 none 0 := ⟨wcode_913, wini_868, by decide +kernel⟩
theorem mo_X11_keepsAct : MO yX11_keepsAct cX11_keepsAct 2 none 0 := ⟨wcode_914, wini_868, by decide +kernel⟩
theorem mo_X11_laysBack : MO yX11_laysBack cX11_laysBack 2 none 0 := ⟨wcode_915, wini_868, by decide +kernel⟩
theorem mo_X11_leastOf : MO yX11_leastOf cX11_leastOf 3 (some .int) 2 := ⟨wcode_916, wini_868, by decide +kernel⟩
theorem mo_X11_makes : MO yX11_makes cX11_makes 2 (some .boolean) 1 := ⟨wcode_917, wini_868, by decide +kernel⟩
theorem mo_X11_numberHere : MO yX11_numberHere cX11_numberHere 5 (some .boolean) 2 := ⟨wcode_918, wini_868, by decide +kernel⟩
theorem mo_X11_one : MO yX11_one cX11_one 5 (some .long) 3 := ⟨wcode_919, wini_868, by decide +kernel⟩
theorem mo_X11_opens : MO yX11_opens cX11_opens 2 (some .boolean) 1 := ⟨wcode_920, wini_868, by decide +kernel⟩
theorem mo_X11_owedHeld : MO yX11_owedHeld cX11_owedHeld 6 (some .int) 4 := ⟨wcode_921, wini_868, by decide +kernel⟩
theorem mo_X11_ownCost : MO yX11_ownCost cX11_ownCost 4 (some .int) 1 := ⟨wcode_922, wini_868, by decide +kernel⟩
theorem mo_X11_passWord : MO yX11_passWord cX11_passWord 1 none 0 := ⟨wcode_923, wini_868, by decide +kernel⟩
theorem mo_X11_passes : MO yX11_passes cX11_passes 1 (some .int) 0 := ⟨wcode_924, wini_868, by decide +kernel⟩
theorem mo_X11_personOf : MO yX11_personOf cX11_personOf 3 (some .int) 2 := ⟨wcode_925, wini_868, by decide +kernel⟩
theorem mo_X11_pop : MO yX11_pop cX11_pop 1 (some .long) 0 := ⟨wcode_926, wini_868, by decide +kernel⟩
theorem mo_X11_push : MO yX11_push cX11_push 3 none 1 := ⟨wcode_927, wini_868, by decide +kernel⟩
theorem mo_X11_puts : MO yX11_puts cX11_puts 3 none 2 := ⟨wcode_928, wini_868, by decide +kernel⟩
theorem mo_X11_readsAll : MO yX11_readsAll cX11_readsAll 2 (some .boolean) 0 := ⟨wcode_929, wini_868, by decide +kernel⟩
theorem mo_X11_reckons : MO yX11_reckons cX11_reckons 11 (some .long) 3 := ⟨wcode_930, wini_868, by decide +kernel⟩
theorem mo_X11_see : MO yX11_see cX11_see 1 (some .int) 0 := ⟨wcode_931, wini_868, by decide +kernel⟩
theorem mo_X11_setsAsleep : MO yX11_setsAsleep cX11_setsAsleep 3 none 2 := ⟨wcode_932, wini_868, by decide +kernel⟩
theorem mo_X11_settles : MO yX11_settles cX11_settles 2 none 1 := ⟨wcode_933, wini_868, by decide +kernel⟩
theorem mo_X11_shares : MO yX11_shares cX11_shares 5 (some .int) 0 := ⟨wcode_934, wini_868, by decide +kernel⟩
theorem mo_X11_sleepers : MO yX11_sleepers cX11_sleepers 3 (some .int) 0 := ⟨wcode_935, wini_868, by decide +kernel⟩
theorem mo_X11_sleepsByRule : MO yX11_sleepsByRule cX11_sleepsByRule 2 none 0 := ⟨wcode_936, wini_868, by decide +kernel⟩
theorem mo_X11_streetLineHere : MO yX11_streetLineHere cX11_streetLineHere 2 (some .boolean) 1 := ⟨wcode_937, wini_868, by decide +kernel⟩
theorem mo_X11_strength : MO yX11_strength cX11_strength 1 (some .int) 1 := ⟨wcode_938, wini_868, by decide +kernel⟩
theorem mo_X11_sum : MO yX11_sum cX11_sum 2 (some .boolean) 0 := ⟨wcode_939, wini_868, by decide +kernel⟩
theorem mo_X11_summedBy : MO yX11_summedBy cX11_summedBy 4 (some .long) 1 := ⟨wcode_940, wini_868, by decide +kernel⟩
theorem mo_X11_takesWord : MO yX11_takesWord cX11_takesWord 3 (some .boolean) 1 := ⟨wcode_941, wini_868, by decide +kernel⟩
theorem mo_X11_term : MO yX11_term cX11_term 2 (some .boolean) 0 := ⟨wcode_942, wini_868, by decide +kernel⟩
theorem mo_X11_tested : MO yX11_tested cX11_tested 3 (some .boolean) 0 := ⟨wcode_943, wini_868, by decide +kernel⟩
theorem mo_X11_toldCost : MO yX11_toldCost cX11_toldCost 4 (some .int) 1 := ⟨wcode_944, wini_868, by decide +kernel⟩
theorem mo_X11_value : MO yX11_value cX11_value 3 (some .boolean) 0 := ⟨wcode_945, wini_868, by decide +kernel⟩
theorem mo_X11_wakesWorkers : MO yX11_wakesWorkers cX11_wakesWorkers 2 none 0 := ⟨wcode_946, wini_868, by decide +kernel⟩
theorem mo_X11_wordHere : MO yX11_wordHere cX11_wordHere 1 (some .int) 0 := ⟨wcode_947, wini_868, by decide +kernel⟩
theorem mo_X11_words : MO yX11_words cX11_words 2 none 1 := ⟨wcode_948, wini_868, by decide +kernel⟩
theorem mo_X11_worksIn : MO yX11_worksIn cX11_worksIn 5 (some .boolean) 2 := ⟨wcode_949, wini_868, by decide +kernel⟩
theorem mo_X11_worksOne : MO yX11_worksOne cX11_worksOne 4 (some .boolean) 2 := ⟨wcode_950, wini_868, by decide +kernel⟩
theorem mo_X1_add : MO yX1_add cX1_add 5 (some .boolean) 4 := ⟨wcode_951, wini_561, by decide +kernel⟩
theorem mo_X1_allow : MO yX1_allow cX1_allow 3 (some .boolean) 1 := ⟨wcode_952, wini_561, by decide +kernel⟩
theorem mo_X1_allows : MO yX1_allows cX1_allows 5 (some .boolean) 2 := ⟨wcode_953, wini_561, by decide +kernel⟩
theorem mo_X1_clear : MO yX1_clear cX1_clear 1 none 0 := ⟨wcode_954, wini_561, by decide +kernel⟩
theorem mo_X1_copyOf : MO yX1_copyOf cX1_copyOf 2 none 1 := ⟨wcode_955, wini_561, by decide +kernel⟩
theorem mo_X1_init : MO yX1_init cX1_init 1 none 0 := ⟨wcode_956, wini_561, by decide +kernel⟩
theorem mo_X2_burningAt : MO yX2_burningAt cX2_burningAt 3 (some .int) 2 := ⟨wcode_957, wini_340, by decide +kernel⟩
theorem mo_X2_clear : MO yX2_clear cX2_clear 2 none 0 := ⟨wcode_958, wini_340, by decide +kernel⟩
theorem mo_X2_copyOf : MO yX2_copyOf cX2_copyOf 2 none 1 := ⟨wcode_959, wini_340, by decide +kernel⟩
theorem mo_X2_goOn : MO yX2_goOn cX2_goOn 4 none 1 := ⟨wcode_960, wini_340, by decide +kernel⟩
theorem mo_X2_init : MO yX2_init cX2_init 1 none 0 := ⟨wcode_961, wini_340, by decide +kernel⟩
theorem mo_X2_isLast : MO yX2_isLast cX2_isLast 2 (some .boolean) 1 := ⟨wcode_962, wini_340, by decide +kernel⟩
theorem mo_X2_setLamp : MO yX2_setLamp cX2_setLamp 4 none 2 := ⟨wcode_963, wini_340, by decide +kernel⟩
theorem mo_X3_answer : MO yX3_answer cX3_answer 10 (some .long) 4 := ⟨wcode_964, wini_674, by decide +kernel⟩
theorem mo_X3_draw : MO yX3_draw cX3_draw 9 (some .int) 4 := ⟨wcode_965, wini_674, by decide +kernel⟩
theorem mo_X3_init : MO yX3_init cX3_init 1 none 0 := ⟨wcode_966, wini_674, by decide +kernel⟩
theorem mo_X3_play : MO yX3_play cX3_play 8 (some .int) 4 := ⟨wcode_967, wini_674, by decide +kernel⟩
theorem mo_X3_pop : MO yX3_pop cX3_pop 1 (some .long) 0 := ⟨wcode_968, wini_674, by decide +kernel⟩
theorem mo_X3_push : MO yX3_push cX3_push 3 none 1 := ⟨wcode_969, wini_674, by decide +kernel⟩
theorem mo_X3_setAsleep : MO yX3_setAsleep cX3_setAsleep 4 none 3 := ⟨wcode_970, wini_674, by decide +kernel⟩
theorem mo_X3_share : MO yX3_share cX3_share 9 none 3 := ⟨wcode_971, wini_674, by decide +kernel⟩
theorem mo_X3_valueOf : MO yX3_valueOf cX3_valueOf 5 (some .long) 4 := ⟨wcode_972, wini_674, by decide +kernel⟩
theorem mo_X4_combine : MO yX4_combine cX4_combine 5 (some .long) 3 := ⟨wcode_973, wini_456, by decide +kernel⟩
theorem mo_X4_init : MO yX4_init cX4_init 4 none 2 := ⟨wcode_974, wini_456, by decide +kernel⟩
theorem mo_X5_comparisonOf : MO yX5_comparisonOf cX5_comparisonOf 1 (some .int) 1 := ⟨wcode_975, wini_647, by decide +kernel⟩
theorem mo_X5_emit : MO yX5_emit cX5_emit 2 none 1 := ⟨wcode_976, wini_647, by decide +kernel⟩
theorem mo_X5_factorOf : MO yX5_factorOf cX5_factorOf 1 (some .int) 1 := ⟨wcode_977, wini_647, by decide +kernel⟩
theorem mo_X5_init : MO yX5_init cX5_init 2 none 1 := ⟨wcode_978, wini_647, by decide +kernel⟩
theorem mo_X5_made : MO yX5_made cX5_made 1 (some (.object "SleepersPay$Rule")) 0 := ⟨wcode_979, wini_647, by decide +kernel⟩
theorem mo_X5_readClause : MO yX5_readClause cX5_readClause 2 (some .boolean) 1 := ⟨wcode_980, wini_647, by decide +kernel⟩
theorem mo_X5_readComparison : MO yX5_readComparison cX5_readComparison 2 (some .boolean) 0 := ⟨wcode_981, wini_647, by decide +kernel⟩
theorem mo_X5_readFact : MO yX5_readFact cX5_readFact 3 (some .boolean) 1 := ⟨wcode_982, wini_647, by decide +kernel⟩
theorem mo_X5_readPart : MO yX5_readPart cX5_readPart 3 (some .boolean) 1 := ⟨wcode_983, wini_647, by decide +kernel⟩
theorem mo_X5_readSum : MO yX5_readSum cX5_readSum 3 (some .boolean) 0 := ⟨wcode_984, wini_647, by decide +kernel⟩
theorem mo_X5_readTerm : MO yX5_readTerm cX5_readTerm 3 (some .boolean) 0 := ⟨wcode_985, wini_647, by decide +kernel⟩
theorem mo_X5_readTest : MO yX5_readTest cX5_readTest 3 (some .boolean) 1 := ⟨wcode_986, wini_647, by decide +kernel⟩
theorem mo_X5_readText : MO yX5_readText cX5_readText 2 (some .int) 0 := ⟨wcode_987, wini_647, by decide +kernel⟩
theorem mo_X5_readValue : MO yX5_readValue cX5_readValue 3 (some .boolean) 0 := ⟨wcode_988, wini_647, by decide +kernel⟩
theorem mo_X6_copyOf : MO yX6_copyOf cX6_copyOf 2 none 1 := ⟨wcode_989, wini_660, by decide +kernel⟩
theorem mo_X6_init : MO yX6_init cX6_init 1 none 0 := ⟨wcode_990, wini_660, by decide +kernel⟩
theorem mo_X7_addLamp : MO yX7_addLamp cX7_addLamp 3 none 2 := ⟨wcode_991, wini_552, by decide +kernel⟩
theorem mo_X7_addLit : MO yX7_addLit cX7_addLit 4 none 3 := ⟨wcode_992, wini_552, by decide +kernel⟩
theorem mo_X7_addPerson : MO yX7_addPerson cX7_addPerson 3 none 2 := ⟨wcode_993, wini_552, by decide +kernel⟩
theorem mo_X7_addSpan : MO yX7_addSpan cX7_addSpan 5 none 4 := ⟨wcode_994, wini_552, by decide +kernel⟩
theorem mo_X7_addWork : MO yX7_addWork cX7_addWork 4 none 3 := ⟨wcode_995, wini_552, by decide +kernel⟩
theorem mo_X7_clear : MO yX7_clear cX7_clear 2 none 0 := ⟨wcode_996, wini_552, by decide +kernel⟩
theorem mo_X7_copyOf : MO yX7_copyOf cX7_copyOf 2 none 1 := ⟨wcode_997, wini_552, by decide +kernel⟩
theorem mo_X7_costOf : MO yX7_costOf cX7_costOf 4 (some .int) 1 := ⟨wcode_998, wini_552, by decide +kernel⟩
theorem mo_X7_everyone : MO yX7_everyone cX7_everyone 1 (some .int) 0 := ⟨wcode_999, wini_552, by decide +kernel⟩
theorem mo_X7_init : MO yX7_init cX7_init 1 none 0 := ⟨wcode_1000, wini_552, by decide +kernel⟩
theorem mo_X7_isLamp : MO yX7_isLamp cX7_isLamp 2 (some .boolean) 1 := ⟨wcode_1001, wini_552, by decide +kernel⟩
theorem mo_X7_isPerson : MO yX7_isPerson cX7_isPerson 2 (some .boolean) 1 := ⟨wcode_1002, wini_552, by decide +kernel⟩
theorem mo_X7_isTold : MO yX7_isTold cX7_isTold 1 (some .boolean) 0 := ⟨wcode_1003, wini_552, by decide +kernel⟩
theorem mo_X7_lampsOf : MO yX7_lampsOf cX7_lampsOf 4 (some .int) 1 := ⟨wcode_1004, wini_552, by decide +kernel⟩
theorem mo_X7_litAt : MO yX7_litAt cX7_litAt 2 (some .int) 1 := ⟨wcode_1005, wini_552, by decide +kernel⟩
theorem mo_X7_workersAt : MO yX7_workersAt cX7_workersAt 2 (some .int) 1 := ⟨wcode_1006, wini_552, by decide +kernel⟩
theorem mo_X8_init : MO yX8_init cX8_init 2 none 1 := ⟨wcode_1007, wini_641, by decide +kernel⟩
theorem mo_X8_isClause : MO yX8_isClause cX8_isClause 1 (some .boolean) 1 := ⟨wcode_1008, wini_641, by decide +kernel⟩
theorem mo_X8_isFull : MO yX8_isFull cX8_isFull 2 (some .boolean) 2 := ⟨wcode_1009, wini_641, by decide +kernel⟩
theorem mo_X8_readClause : MO yX8_readClause cX8_readClause 5 (some .boolean) 2 := ⟨wcode_1010, wini_641, by decide +kernel⟩
theorem mo_X8_readHours : MO yX8_readHours cX8_readHours 3 (some .boolean) 1 := ⟨wcode_1011, wini_641, by decide +kernel⟩
theorem mo_X8_readInto : MO yX8_readInto cX8_readInto 3 (some .int) 1 := ⟨wcode_1012, wini_641, by decide +kernel⟩
theorem mo_X8_readLamp : MO yX8_readLamp cX8_readLamp 5 (some .boolean) 1 := ⟨wcode_1013, wini_641, by decide +kernel⟩
theorem mo_X8_readPerson : MO yX8_readPerson cX8_readPerson 4 (some .boolean) 1 := ⟨wcode_1014, wini_641, by decide +kernel⟩
theorem mo_X8_readSpan : MO yX8_readSpan cX8_readSpan 7 (some .boolean) 2 := ⟨wcode_1015, wini_641, by decide +kernel⟩
theorem mo_X9_add : MO yX9_add cX9_add 4 none 3 := ⟨wcode_1016, wini_635, by decide +kernel⟩
theorem mo_X9_append : MO yX9_append cX9_append 3 none 1 := ⟨wcode_1017, wini_635, by decide +kernel⟩
theorem mo_X9_byteAt : MO yX9_byteAt cX9_byteAt 2 (some .int) 1 := ⟨wcode_1018, wini_635, by decide +kernel⟩
theorem mo_X9_hasRoom : MO yX9_hasRoom cX9_hasRoom 2 (some .boolean) 1 := ⟨wcode_1019, wini_635, by decide +kernel⟩
theorem mo_X9_init : MO yX9_init cX9_init 1 none 0 := ⟨wcode_1020, wini_635, by decide +kernel⟩
theorem mo_X9_isDigit : MO yX9_isDigit cX9_isDigit 1 (some .boolean) 1 := ⟨wcode_1021, wini_635, by decide +kernel⟩
theorem mo_X9_isSmall : MO yX9_isSmall cX9_isSmall 1 (some .boolean) 1 := ⟨wcode_1022, wini_635, by decide +kernel⟩
theorem mo_X9_open : MO yX9_open cX9_open 3 none 0 := ⟨wcode_1023, wini_635, by decide +kernel⟩
theorem mo_X9_refuse : MO yX9_refuse cX9_refuse 3 (some .boolean) 1 := ⟨wcode_1024, wini_635, by decide +kernel⟩
theorem mo_X9_splitAt : MO yX9_splitAt cX9_splitAt 4 (some .int) 1 := ⟨wcode_1025, wini_635, by decide +kernel⟩
theorem mo_X9_splitNumber : MO yX9_splitNumber cX9_splitNumber 4 (some .int) 1 := ⟨wcode_1026, wini_635, by decide +kernel⟩
theorem mo_X9_splitWord : MO yX9_splitWord cX9_splitWord 3 (some .int) 1 := ⟨wcode_1027, wini_635, by decide +kernel⟩
theorem mo_X9_step : MO yX9_step cX9_step 2 none 0 := ⟨wcode_1028, wini_635, by decide +kernel⟩
theorem mo_X9_takeNumber : MO yX9_takeNumber cX9_takeNumber 4 (some .int) 2 := ⟨wcode_1029, wini_635, by decide +kernel⟩
theorem mo_X9_takeSign : MO yX9_takeSign cX9_takeSign 2 (some .boolean) 1 := ⟨wcode_1030, wini_635, by decide +kernel⟩
theorem mo_X9_wordBetween : MO yX9_wordBetween cX9_wordBetween 6 (some .int) 2 := ⟨wcode_1031, wini_635, by decide +kernel⟩
