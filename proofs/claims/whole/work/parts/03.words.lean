def m_ws : List Cond := lw_tbl.filter goodWord
theorem m_ws_tbl : ∀ w ∈ m_ws, w ∈ lw_tbl := fun w h => (List.mem_filter.mp h).1
theorem m_ws_good {w : Cond} (h : w ∈ m_ws) : w ∈ m_ws ∧ ((w.onTables && w.keeps) = true ∨ ∃ ty, w = .arrayClass ty) := ⟨h, good_of_word (List.mem_filter.mp h).2⟩
theorem m_wt {w : Cond} (h : w ∈ tables_1) (g : goodWord w = true) : w ∈ m_ws := List.mem_filter.mpr ⟨List.mem_append_right _ h, g⟩
theorem m_w1 {w : Cond} {i : Nat} (h : tables_1_1[i]? = some w) (g : goodWord w = true) : w ∈ m_ws := m_wt (List.mem_append_left _ (List.mem_of_getElem? h)) g
theorem m_w2 {w : Cond} {i : Nat} (h : tables_1_2[i]? = some w) (g : goodWord w = true) : w ∈ m_ws := m_wt (List.mem_append_right _ (List.mem_append_left _ (List.mem_of_getElem? h))) g
theorem m_w3 {w : Cond} {i : Nat} (h : tables_1_3[i]? = some w) (g : goodWord w = true) : w ∈ m_ws := m_wt (List.mem_append_right _ (List.mem_append_right _ (List.mem_append_left _ (List.mem_of_getElem? h)))) g
theorem m_w4 {w : Cond} {i : Nat} (h : tables_1_4[i]? = some w) (g : goodWord w = true) : w ∈ m_ws := m_wt (List.mem_append_right _ (List.mem_append_right _ (List.mem_append_right _ (List.mem_append_left _ (List.mem_of_getElem? h))))) g
theorem m_w5 {w : Cond} {i : Nat} (h : tables_1_5[i]? = some w) (g : goodWord w = true) : w ∈ m_ws := m_wt (List.mem_append_right _ (List.mem_append_right _ (List.mem_append_right _ (List.mem_append_right _ (List.mem_append_left _ (List.mem_of_getElem? h)))))) g
theorem m_w6 {w : Cond} {i : Nat} (h : tables_1_6[i]? = some w) (g : goodWord w = true) : w ∈ m_ws := m_wt (List.mem_append_right _ (List.mem_append_right _ (List.mem_append_right _ (List.mem_append_right _ (List.mem_append_right _ (List.mem_append_left _ (List.mem_of_getElem? h))))))) g
theorem m_w7 {w : Cond} {i : Nat} (h : tables_1_7[i]? = some w) (g : goodWord w = true) : w ∈ m_ws := m_wt (List.mem_append_right _ (List.mem_append_right _ (List.mem_append_right _ (List.mem_append_right _ (List.mem_append_right _ (List.mem_append_right _ (List.mem_of_getElem? h))))))) g
theorem m_ww {w : Cond} {i : Nat} (h : (k2_sels lw_privs)[i]? = some w) (g : goodWord w = true) : w ∈ m_ws := List.mem_filter.mpr ⟨List.mem_append_left _ (List.mem_of_getElem? h), g⟩
theorem w_1 : (.initialized RL : Cond) ∈ m_ws := m_w1 (i := 0) rfl rfl
theorem w_2 : (.initialized RX8 : Cond) ∈ m_ws := m_w1 (i := 1) rfl rfl
theorem w_3 : (.initialized RX3 : Cond) ∈ m_ws := m_w1 (i := 2) rfl rfl
theorem w_4 : (.initialized RX5 : Cond) ∈ m_ws := m_w1 (i := 3) rfl rfl
theorem w_5 : (.initialized RX1 : Cond) ∈ m_ws := m_w1 (i := 4) rfl rfl
theorem w_6 : (.initialized RX7 : Cond) ∈ m_ws := m_w1 (i := 5) rfl rfl
theorem w_7 : (.initialized RX0 : Cond) ∈ m_ws := m_w1 (i := 6) rfl rfl
theorem w_8 : (.initialized RX6 : Cond) ∈ m_ws := m_w1 (i := 7) rfl rfl
theorem w_9 : (.initialized RX4 : Cond) ∈ m_ws := m_w1 (i := 8) rfl rfl
theorem w_10 : (.initialized RX2 : Cond) ∈ m_ws := m_w1 (i := 9) rfl rfl
theorem w_11 : (.initialized RX9 : Cond) ∈ m_ws := m_w1 (i := 10) rfl rfl
theorem w_12 : (.initialized "java/lang/Throwable" : Cond) ∈ m_ws := m_w1 (i := 11) rfl rfl
theorem w_13 : (.initialized "java/lang/Exception" : Cond) ∈ m_ws := m_w1 (i := 12) rfl rfl
theorem w_14 : (.initialized "java/lang/RuntimeException" : Cond) ∈ m_ws := m_w1 (i := 13) rfl rfl
theorem w_15 : (.initialized "java/lang/IllegalStateException" : Cond) ∈ m_ws := m_w1 (i := 14) rfl rfl
theorem w_16 : (.initialized "java/lang/IndexOutOfBoundsException" : Cond) ∈ m_ws := m_w1 (i := 15) rfl rfl
theorem w_17 : (.initialized RJ0 : Cond) ∈ m_ws := m_w1 (i := 16) rfl rfl
theorem w_18 : (.initialized RJ1 : Cond) ∈ m_ws := m_w1 (i := 17) rfl rfl
theorem w_19 : (.initialized RJ3 : Cond) ∈ m_ws := m_w1 (i := 18) rfl rfl
theorem w_20 : (.initialized RJ2 : Cond) ∈ m_ws := m_w1 (i := 19) rfl rfl
theorem w_21 : (.initialized "java/lang/IllegalArgumentException" : Cond) ∈ m_ws := m_w1 (i := 20) rfl rfl
theorem w_22 : (.initialized "java/util/NoSuchElementException" : Cond) ∈ m_ws := m_w1 (i := 21) rfl rfl
theorem w_23 : (.initialized RJ10 : Cond) ∈ m_ws := m_w1 (i := 22) rfl rfl
theorem w_24 : (.classLink RL 8 "MuseumCases" : Cond) ∈ m_ws := m_w1 (i := 23) rfl rfl
theorem w_25 : (.instantiable RX8 9 : Cond) ∈ m_ws := m_w1 (i := 24) rfl rfl
theorem w_26 : (.methodLink RL 123 yX8_init : Cond) ∈ m_ws := m_w1 (i := 25) rfl rfl
theorem w_27 : (.instanceMethod yX8_init : Cond) ∈ m_ws := m_w1 (i := 26) rfl rfl
theorem w_28 : (.code yX8_init cX8_init 2 none : Cond) ∈ m_ws := m_w1 (i := 27) rfl rfl
theorem w_29 : (.methodLink RX8 1 objectInit : Cond) ∈ m_ws := m_w1 (i := 28) rfl rfl
theorem w_30 : (.instanceMethod objectInit : Cond) ∈ m_ws := m_w1 (i := 29) rfl rfl
theorem w_31 : (.code objectInit object_method_1_code 1 none : Cond) ∈ m_ws := m_w1 (i := 30) rfl rfl
theorem w_32 : (.classLink RX8 7 "MuseumCases$Reader" : Cond) ∈ m_ws := m_w1 (i := 31) rfl rfl
theorem w_33 : (.instantiable RX3 10 : Cond) ∈ m_ws := m_w1 (i := 32) rfl rfl
theorem w_34 : (.instanceMethod yX3_init : Cond) ∈ m_ws := m_w1 (i := 34) rfl rfl
theorem w_35 : (.code yX3_init cX3_init 1 none : Cond) ∈ m_ws := m_w1 (i := 35) rfl rfl
theorem w_36 : (.methodLink RX3 3 objectInit : Cond) ∈ m_ws := m_w1 (i := 36) rfl rfl
theorem w_37 : (.fieldLink RX3 9 "MuseumCases$Reader" "text" "[B" : Cond) ∈ m_ws := m_w1 (i := 37) rfl rfl
theorem w_38 : (.fieldLink RX3 15 "MuseumCases$Reader" "length" "I" : Cond) ∈ m_ws := m_w1 (i := 38) rfl rfl
theorem w_39 : (.fieldLink RX3 19 "MuseumCases$Reader" "code" "I" : Cond) ∈ m_ws := m_w1 (i := 40) rfl rfl
theorem w_40 : (.fieldLink RX3 22 "MuseumCases$Reader" "codeAt" "I" : Cond) ∈ m_ws := m_w1 (i := 42) rfl rfl
theorem w_41 : (.fieldLink RX3 25 "MuseumCases$Reader" "token" "I" : Cond) ∈ m_ws := m_w1 (i := 44) rfl rfl
theorem w_42 : (.fieldLink RX3 28 "MuseumCases$Reader" "start" "I" : Cond) ∈ m_ws := m_w1 (i := 45) rfl rfl
theorem w_43 : (.fieldLink RX3 31 "MuseumCases$Reader" "end" "I" : Cond) ∈ m_ws := m_w1 (i := 46) rfl rfl
theorem w_44 : (.fieldLink RX3 34 "MuseumCases$Reader" "value" "I" : Cond) ∈ m_ws := m_w1 (i := 47) rfl rfl
theorem w_45 : (.fieldLink RX3 37 "MuseumCases$Reader" "kindNames" "[J" : Cond) ∈ m_ws := m_w1 (i := 48) rfl rfl
theorem w_46 : (.fieldLink RX3 41 "MuseumCases$Reader" "caseNames" "[J" : Cond) ∈ m_ws := m_w1 (i := 49) rfl rfl
theorem w_47 : (.laysFinal RX3 "MuseumCases$Reader" "text" "[B" : Cond) ∈ m_ws := m_w1 (i := 50) rfl rfl
theorem w_48 : (.lays RX3 "MuseumCases$Reader" "length" "I" : Cond) ∈ m_ws := m_w1 (i := 52) rfl rfl
theorem w_49 : (.lays RX3 "MuseumCases$Reader" "code" "I" : Cond) ∈ m_ws := m_w1 (i := 54) rfl rfl
theorem w_50 : (.lays RX3 "MuseumCases$Reader" "codeAt" "I" : Cond) ∈ m_ws := m_w1 (i := 56) rfl rfl
theorem w_51 : (.lays RX3 "MuseumCases$Reader" "token" "I" : Cond) ∈ m_ws := m_w1 (i := 58) rfl rfl
theorem w_52 : (.lays RX3 "MuseumCases$Reader" "start" "I" : Cond) ∈ m_ws := m_w1 (i := 60) rfl rfl
theorem w_53 : (.lays RX3 "MuseumCases$Reader" "end" "I" : Cond) ∈ m_ws := m_w1 (i := 62) rfl rfl
theorem w_54 : (.lays RX3 "MuseumCases$Reader" "value" "I" : Cond) ∈ m_ws := m_w1 (i := 64) rfl rfl
theorem w_55 : (.laysFinal RX3 "MuseumCases$Reader" "kindNames" "[J" : Cond) ∈ m_ws := m_w1 (i := 66) rfl rfl
theorem w_56 : (.laysFinal RX3 "MuseumCases$Reader" "caseNames" "[J" : Cond) ∈ m_ws := m_w1 (i := 68) rfl rfl
theorem w_57 : (.arrayClass .byte : Cond) ∈ m_ws := m_w1 (i := 71) rfl rfl
theorem w_58 : (.arrayClass .long : Cond) ∈ m_ws := m_w1 (i := 72) rfl rfl
theorem w_59 : (.classLink RX8 16 "MuseumCases$Setup" : Cond) ∈ m_ws := m_w1 (i := 73) rfl rfl
theorem w_60 : (.instantiable RX5 11 : Cond) ∈ m_ws := m_w1 (i := 74) rfl rfl
theorem w_61 : (.methodLink RX8 18 yX5_init : Cond) ∈ m_ws := m_w1 (i := 75) rfl rfl
theorem w_62 : (.instanceMethod yX5_init : Cond) ∈ m_ws := m_w1 (i := 76) rfl rfl
theorem w_63 : (.code yX5_init cX5_init 2 none : Cond) ∈ m_ws := m_w1 (i := 77) rfl rfl
theorem w_64 : (.methodLink RX5 3 objectInit : Cond) ∈ m_ws := m_w1 (i := 78) rfl rfl
theorem w_65 : (.classLink RX5 34 "MuseumCases$Kind" : Cond) ∈ m_ws := m_w1 (i := 79) rfl rfl
theorem w_66 : (.classLink RX5 43 "MuseumCases$Vitrine" : Cond) ∈ m_ws := m_w1 (i := 81) rfl rfl
theorem w_67 : (.instantiable RX1 5 : Cond) ∈ m_ws := m_w1 (i := 83) rfl rfl
theorem w_68 : (.instanceMethod yX1_init : Cond) ∈ m_ws := m_w1 (i := 85) rfl rfl
theorem w_69 : (.code yX1_init cX1_init 1 none : Cond) ∈ m_ws := m_w1 (i := 86) rfl rfl
theorem w_70 : (.methodLink RX1 3 objectInit : Cond) ∈ m_ws := m_w1 (i := 87) rfl rfl
theorem w_71 : (.fieldLink RX1 9 "MuseumCases$Kind" "number" "I" : Cond) ∈ m_ws := m_w1 (i := 88) rfl rfl
theorem w_72 : (.fieldLink RX1 15 "MuseumCases$Kind" "speed" "I" : Cond) ∈ m_ws := m_w1 (i := 90) rfl rfl
theorem w_73 : (.fieldLink RX1 18 "MuseumCases$Kind" "count" "I" : Cond) ∈ m_ws := m_w1 (i := 92) rfl rfl
theorem w_74 : (.fieldLink RX1 21 "MuseumCases$Kind" "humidities" "[I" : Cond) ∈ m_ws := m_w1 (i := 93) rfl rfl
theorem w_75 : (.fieldLink RX1 25 "MuseumCases$Kind" "contents" "[I" : Cond) ∈ m_ws := m_w1 (i := 94) rfl rfl
theorem w_76 : (.lays RX1 "MuseumCases$Kind" "number" "I" : Cond) ∈ m_ws := m_w1 (i := 95) rfl rfl
theorem w_77 : (.lays RX1 "MuseumCases$Kind" "speed" "I" : Cond) ∈ m_ws := m_w1 (i := 97) rfl rfl
theorem w_78 : (.lays RX1 "MuseumCases$Kind" "count" "I" : Cond) ∈ m_ws := m_w1 (i := 99) rfl rfl
theorem w_79 : (.laysFinal RX1 "MuseumCases$Kind" "humidities" "[I" : Cond) ∈ m_ws := m_w1 (i := 101) rfl rfl
theorem w_80 : (.laysFinal RX1 "MuseumCases$Kind" "contents" "[I" : Cond) ∈ m_ws := m_w1 (i := 103) rfl rfl
theorem w_81 : (.arrayClass .int : Cond) ∈ m_ws := m_w1 (i := 106) rfl rfl
theorem w_82 : (.instantiable RX7 7 : Cond) ∈ m_ws := m_w1 (i := 107) rfl rfl
theorem w_83 : (.methodLink RX5 53 yX7_init : Cond) ∈ m_ws := m_w1 (i := 108) rfl rfl
theorem w_84 : (.instanceMethod yX7_init : Cond) ∈ m_ws := m_w1 (i := 109) rfl rfl
theorem w_85 : (.code yX7_init cX7_init 2 none : Cond) ∈ m_ws := m_w1 (i := 110) rfl rfl
theorem w_86 : (.methodLink RX7 3 objectInit : Cond) ∈ m_ws := m_w1 (i := 111) rfl rfl
theorem w_87 : (.classLink RX7 30 "MuseumCases$Cassette" : Cond) ∈ m_ws := m_w1 (i := 112) rfl rfl
theorem w_88 : (.instantiable RX0 4 : Cond) ∈ m_ws := m_w1 (i := 114) rfl rfl
theorem w_89 : (.instanceMethod yX0_init : Cond) ∈ m_ws := m_w1 (i := 116) rfl rfl
theorem w_90 : (.code yX0_init cX0_init 1 none : Cond) ∈ m_ws := m_w1 (i := 117) rfl rfl
theorem w_91 : (.methodLink RX0 3 objectInit : Cond) ∈ m_ws := m_w1 (i := 118) rfl rfl
theorem w_92 : (.fieldLink RX0 9 "MuseumCases$Cassette" "serial" "I" : Cond) ∈ m_ws := m_w1 (i := 119) rfl rfl
theorem w_93 : (.fieldLink RX0 15 "MuseumCases$Cassette" "kind" "LMuseumCases$Kind;" : Cond) ∈ m_ws := m_w1 (i := 122) rfl rfl
theorem w_94 : (.fieldLink RX0 19 "MuseumCases$Cassette" "mass" "I" : Cond) ∈ m_ws := m_w1 (i := 123) rfl rfl
theorem w_95 : (.fieldLink RX0 22 "MuseumCases$Cassette" "moisture" "I" : Cond) ∈ m_ws := m_w1 (i := 125) rfl rfl
theorem w_96 : (.lays RX0 "MuseumCases$Cassette" "serial" "I" : Cond) ∈ m_ws := m_w1 (i := 128) rfl rfl
theorem w_97 : (.lays RX0 "MuseumCases$Cassette" "kind" "LMuseumCases$Kind;" : Cond) ∈ m_ws := m_w1 (i := 130) rfl rfl
theorem w_98 : (.lays RX0 "MuseumCases$Cassette" "mass" "I" : Cond) ∈ m_ws := m_w1 (i := 132) rfl rfl
theorem w_99 : (.lays RX0 "MuseumCases$Cassette" "moisture" "I" : Cond) ∈ m_ws := m_w1 (i := 134) rfl rfl
theorem w_100 : (.fieldLink RX7 9 "MuseumCases$Vitrine" "volume" "I" : Cond) ∈ m_ws := m_w1 (i := 137) rfl rfl
theorem w_101 : (.fieldLink RX7 15 "MuseumCases$Vitrine" "leak" "I" : Cond) ∈ m_ws := m_w1 (i := 139) rfl rfl
theorem w_102 : (.fieldLink RX7 18 "MuseumCases$Vitrine" "low" "I" : Cond) ∈ m_ws := m_w1 (i := 141) rfl rfl
theorem w_103 : (.fieldLink RX7 21 "MuseumCases$Vitrine" "high" "I" : Cond) ∈ m_ws := m_w1 (i := 144) rfl rfl
theorem w_104 : (.fieldLink RX7 24 "MuseumCases$Vitrine" "air" "I" : Cond) ∈ m_ws := m_w1 (i := 147) rfl rfl
theorem w_105 : (.fieldLink RX7 27 "MuseumCases$Vitrine" "count" "I" : Cond) ∈ m_ws := m_w1 (i := 149) rfl rfl
theorem w_106 : (.fieldLink RX7 32 "MuseumCases$Vitrine" "cassettes" "[LMuseumCases$Cassette;" : Cond) ∈ m_ws := m_w1 (i := 152) rfl rfl
theorem w_107 : (.lays RX7 "MuseumCases$Vitrine" "volume" "I" : Cond) ∈ m_ws := m_w1 (i := 154) rfl rfl
theorem w_108 : (.lays RX7 "MuseumCases$Vitrine" "leak" "I" : Cond) ∈ m_ws := m_w1 (i := 156) rfl rfl
theorem w_109 : (.lays RX7 "MuseumCases$Vitrine" "low" "I" : Cond) ∈ m_ws := m_w1 (i := 158) rfl rfl
theorem w_110 : (.lays RX7 "MuseumCases$Vitrine" "high" "I" : Cond) ∈ m_ws := m_w1 (i := 160) rfl rfl
theorem w_111 : (.lays RX7 "MuseumCases$Vitrine" "air" "I" : Cond) ∈ m_ws := m_w1 (i := 162) rfl rfl
theorem w_112 : (.lays RX7 "MuseumCases$Vitrine" "count" "I" : Cond) ∈ m_ws := m_w1 (i := 164) rfl rfl
theorem w_113 : (.laysFinal RX7 "MuseumCases$Vitrine" "cassettes" "[LMuseumCases$Cassette;" : Cond) ∈ m_ws := m_w1 (i := 166) rfl rfl
theorem w_114 : (.fieldLink RX5 9 "MuseumCases$Setup" "persistence" "I" : Cond) ∈ m_ws := m_w1 (i := 169) rfl rfl
theorem w_115 : (.fieldLink RX5 15 "MuseumCases$Setup" "loadOfVisitor" "I" : Cond) ∈ m_ws := m_w1 (i := 172) rfl rfl
theorem w_116 : (.fieldLink RX5 18 "MuseumCases$Setup" "seasonCount" "I" : Cond) ∈ m_ws := m_w1 (i := 175) rfl rfl
theorem w_117 : (.fieldLink RX5 21 "MuseumCases$Setup" "seasonDays" "[I" : Cond) ∈ m_ws := m_w1 (i := 176) rfl rfl
theorem w_118 : (.fieldLink RX5 25 "MuseumCases$Setup" "seasonPoints" "[I" : Cond) ∈ m_ws := m_w1 (i := 177) rfl rfl
theorem w_119 : (.fieldLink RX5 28 "MuseumCases$Setup" "visitorsOfHours" "[I" : Cond) ∈ m_ws := m_w1 (i := 178) rfl rfl
theorem w_120 : (.fieldLink RX5 31 "MuseumCases$Setup" "kindCount" "I" : Cond) ∈ m_ws := m_w1 (i := 179) rfl rfl
theorem w_121 : (.fieldLink RX5 36 "MuseumCases$Setup" "kinds" "[LMuseumCases$Kind;" : Cond) ∈ m_ws := m_w1 (i := 182) rfl rfl
theorem w_122 : (.fieldLink RX5 40 "MuseumCases$Setup" "caseCount" "I" : Cond) ∈ m_ws := m_w1 (i := 185) rfl rfl
theorem w_123 : (.fieldLink RX5 45 "MuseumCases$Setup" "vitrines" "[LMuseumCases$Vitrine;" : Cond) ∈ m_ws := m_w1 (i := 189) rfl rfl
theorem w_124 : (.fieldLink RX5 49 "MuseumCases$Setup" "cassetteCount" "I" : Cond) ∈ m_ws := m_w1 (i := 192) rfl rfl
theorem w_125 : (.lays RX5 "MuseumCases$Setup" "persistence" "I" : Cond) ∈ m_ws := m_w1 (i := 195) rfl rfl
theorem w_126 : (.lays RX5 "MuseumCases$Setup" "loadOfVisitor" "I" : Cond) ∈ m_ws := m_w1 (i := 197) rfl rfl
theorem w_127 : (.lays RX5 "MuseumCases$Setup" "seasonCount" "I" : Cond) ∈ m_ws := m_w1 (i := 199) rfl rfl
theorem w_128 : (.laysFinal RX5 "MuseumCases$Setup" "seasonDays" "[I" : Cond) ∈ m_ws := m_w1 (i := 201) rfl rfl
theorem w_129 : (.laysFinal RX5 "MuseumCases$Setup" "seasonPoints" "[I" : Cond) ∈ m_ws := m_w1 (i := 203) rfl rfl
theorem w_130 : (.laysFinal RX5 "MuseumCases$Setup" "visitorsOfHours" "[I" : Cond) ∈ m_ws := m_w1 (i := 205) rfl rfl
theorem w_131 : (.lays RX5 "MuseumCases$Setup" "kindCount" "I" : Cond) ∈ m_ws := m_w1 (i := 207) rfl rfl
theorem w_132 : (.laysFinal RX5 "MuseumCases$Setup" "kinds" "[LMuseumCases$Kind;" : Cond) ∈ m_ws := m_w1 (i := 209) rfl rfl
theorem w_133 : (.lays RX5 "MuseumCases$Setup" "caseCount" "I" : Cond) ∈ m_ws := m_w1 (i := 211) rfl rfl
theorem w_134 : (.laysFinal RX5 "MuseumCases$Setup" "vitrines" "[LMuseumCases$Vitrine;" : Cond) ∈ m_ws := m_w1 (i := 213) rfl rfl
theorem w_135 : (.lays RX5 "MuseumCases$Setup" "cassetteCount" "I" : Cond) ∈ m_ws := m_w1 (i := 215) rfl rfl
theorem w_136 : (.classLink RX8 26 "MuseumCases$State" : Cond) ∈ m_ws := m_w1 (i := 218) rfl rfl
theorem w_137 : (.instantiable RX6 5 : Cond) ∈ m_ws := m_w1 (i := 219) rfl rfl
theorem w_138 : (.methodLink RX8 28 yX6_init : Cond) ∈ m_ws := m_w1 (i := 220) rfl rfl
theorem w_139 : (.instanceMethod yX6_init : Cond) ∈ m_ws := m_w1 (i := 221) rfl rfl
theorem w_140 : (.code yX6_init cX6_init 2 none : Cond) ∈ m_ws := m_w1 (i := 222) rfl rfl
theorem w_141 : (.methodLink RX6 3 objectInit : Cond) ∈ m_ws := m_w1 (i := 223) rfl rfl
theorem w_142 : (.classLink RX6 9 "MuseumCases$Room" : Cond) ∈ m_ws := m_w1 (i := 224) rfl rfl
theorem w_143 : (.instantiable RX4 3 : Cond) ∈ m_ws := m_w1 (i := 225) rfl rfl
theorem w_144 : (.instanceMethod yX4_init : Cond) ∈ m_ws := m_w1 (i := 227) rfl rfl
theorem w_145 : (.code yX4_init cX4_init 1 none : Cond) ∈ m_ws := m_w1 (i := 228) rfl rfl
theorem w_146 : (.methodLink RX4 3 objectInit : Cond) ∈ m_ws := m_w1 (i := 229) rfl rfl
theorem w_147 : (.fieldLink RX4 9 "MuseumCases$Room" "time" "I" : Cond) ∈ m_ws := m_w1 (i := 230) rfl rfl
theorem w_148 : (.fieldLink RX4 15 "MuseumCases$Room" "excess" "I" : Cond) ∈ m_ws := m_w1 (i := 233) rfl rfl
theorem w_149 : (.fieldLink RX4 18 "MuseumCases$Room" "groups" "I" : Cond) ∈ m_ws := m_w1 (i := 235) rfl rfl
theorem w_150 : (.lays RX4 "MuseumCases$Room" "time" "I" : Cond) ∈ m_ws := m_w1 (i := 237) rfl rfl
theorem w_151 : (.lays RX4 "MuseumCases$Room" "excess" "I" : Cond) ∈ m_ws := m_w1 (i := 239) rfl rfl
theorem w_152 : (.lays RX4 "MuseumCases$Room" "groups" "I" : Cond) ∈ m_ws := m_w2 (i := 1) rfl rfl
theorem w_153 : (.classLink RX6 25 "MuseumCases$Vitrine" : Cond) ∈ m_ws := m_w2 (i := 4) rfl rfl
theorem w_154 : (.classLink RX6 31 "MuseumCases$Logbook" : Cond) ∈ m_ws := m_w2 (i := 5) rfl rfl
theorem w_155 : (.methodLink RX6 37 yX7_init : Cond) ∈ m_ws := m_w2 (i := 7) rfl rfl
theorem w_156 : (.instantiable RX2 9 : Cond) ∈ m_ws := m_w2 (i := 8) rfl rfl
theorem w_157 : (.instanceMethod yX2_init : Cond) ∈ m_ws := m_w2 (i := 10) rfl rfl
theorem w_158 : (.code yX2_init cX2_init 1 none : Cond) ∈ m_ws := m_w2 (i := 11) rfl rfl
theorem w_159 : (.methodLink RX2 3 objectInit : Cond) ∈ m_ws := m_w2 (i := 12) rfl rfl
theorem w_160 : (.fieldLink RX2 9 "MuseumCases$Logbook" "atLoading" "J" : Cond) ∈ m_ws := m_w2 (i := 13) rfl rfl
theorem w_161 : (.fieldLink RX2 15 "MuseumCases$Logbook" "leaked" "J" : Cond) ∈ m_ws := m_w2 (i := 15) rfl rfl
theorem w_162 : (.fieldLink RX2 18 "MuseumCases$Logbook" "cameIn" "J" : Cond) ∈ m_ws := m_w2 (i := 18) rfl rfl
theorem w_163 : (.fieldLink RX2 21 "MuseumCases$Logbook" "wentOut" "J" : Cond) ∈ m_ws := m_w2 (i := 20) rfl rfl
theorem w_164 : (.fieldLink RX2 24 "MuseumCases$Logbook" "unsafeHours" "I" : Cond) ∈ m_ws := m_w2 (i := 22) rfl rfl
theorem w_165 : (.fieldLink RX2 28 "MuseumCases$Logbook" "lowest" "I" : Cond) ∈ m_ws := m_w2 (i := 24) rfl rfl
theorem w_166 : (.fieldLink RX2 31 "MuseumCases$Logbook" "greatest" "I" : Cond) ∈ m_ws := m_w2 (i := 26) rfl rfl
theorem w_167 : (.fieldLink RX2 34 "MuseumCases$Logbook" "sumOfRecords" "J" : Cond) ∈ m_ws := m_w2 (i := 28) rfl rfl
theorem w_168 : (.fieldLink RX2 37 "MuseumCases$Logbook" "records" "[I" : Cond) ∈ m_ws := m_w2 (i := 30) rfl rfl
theorem w_169 : (.lays RX2 "MuseumCases$Logbook" "atLoading" "J" : Cond) ∈ m_ws := m_w2 (i := 31) rfl rfl
theorem w_170 : (.lays RX2 "MuseumCases$Logbook" "leaked" "J" : Cond) ∈ m_ws := m_w2 (i := 33) rfl rfl
theorem w_171 : (.lays RX2 "MuseumCases$Logbook" "cameIn" "J" : Cond) ∈ m_ws := m_w2 (i := 35) rfl rfl
theorem w_172 : (.lays RX2 "MuseumCases$Logbook" "wentOut" "J" : Cond) ∈ m_ws := m_w2 (i := 37) rfl rfl
theorem w_173 : (.lays RX2 "MuseumCases$Logbook" "unsafeHours" "I" : Cond) ∈ m_ws := m_w2 (i := 39) rfl rfl
theorem w_174 : (.lays RX2 "MuseumCases$Logbook" "lowest" "I" : Cond) ∈ m_ws := m_w2 (i := 41) rfl rfl
theorem w_175 : (.lays RX2 "MuseumCases$Logbook" "greatest" "I" : Cond) ∈ m_ws := m_w2 (i := 43) rfl rfl
theorem w_176 : (.lays RX2 "MuseumCases$Logbook" "sumOfRecords" "J" : Cond) ∈ m_ws := m_w2 (i := 45) rfl rfl
theorem w_177 : (.laysFinal RX2 "MuseumCases$Logbook" "records" "[I" : Cond) ∈ m_ws := m_w2 (i := 47) rfl rfl
theorem w_178 : (.fieldLink RX6 12 "MuseumCases$State" "room" "LMuseumCases$Room;" : Cond) ∈ m_ws := m_w2 (i := 50) rfl rfl
theorem w_179 : (.fieldLink RX6 18 "MuseumCases$State" "nextSerial" "I" : Cond) ∈ m_ws := m_w2 (i := 52) rfl rfl
theorem w_180 : (.fieldLink RX6 22 "MuseumCases$State" "caseCount" "I" : Cond) ∈ m_ws := m_w2 (i := 54) rfl rfl
theorem w_181 : (.fieldLink RX6 27 "MuseumCases$State" "vitrines" "[LMuseumCases$Vitrine;" : Cond) ∈ m_ws := m_w2 (i := 55) rfl rfl
theorem w_182 : (.fieldLink RX6 33 "MuseumCases$State" "logbooks" "[LMuseumCases$Logbook;" : Cond) ∈ m_ws := m_w2 (i := 57) rfl rfl
theorem w_183 : (.laysFinal RX6 "MuseumCases$State" "room" "LMuseumCases$Room;" : Cond) ∈ m_ws := m_w2 (i := 59) rfl rfl
theorem w_184 : (.lays RX6 "MuseumCases$State" "nextSerial" "I" : Cond) ∈ m_ws := m_w2 (i := 61) rfl rfl
theorem w_185 : (.lays RX6 "MuseumCases$State" "caseCount" "I" : Cond) ∈ m_ws := m_w2 (i := 63) rfl rfl
theorem w_186 : (.laysFinal RX6 "MuseumCases$State" "vitrines" "[LMuseumCases$Vitrine;" : Cond) ∈ m_ws := m_w2 (i := 65) rfl rfl
theorem w_187 : (.laysFinal RX6 "MuseumCases$State" "logbooks" "[LMuseumCases$Logbook;" : Cond) ∈ m_ws := m_w2 (i := 67) rfl rfl
theorem w_188 : (.classLink RX8 41 "MuseumCases$Room" : Cond) ∈ m_ws := m_w2 (i := 71) rfl rfl
theorem w_189 : (.classLink RX8 48 "MuseumCases$Vitrine" : Cond) ∈ m_ws := m_w2 (i := 73) rfl rfl
theorem w_190 : (.methodLink RX8 50 yX7_init : Cond) ∈ m_ws := m_w2 (i := 74) rfl rfl
theorem w_191 : (.fieldLink RX8 10 "MuseumCases" "reader" "LMuseumCases$Reader;" : Cond) ∈ m_ws := m_w2 (i := 75) rfl rfl
theorem w_192 : (.fieldLink RX8 19 "MuseumCases" "setup" "LMuseumCases$Setup;" : Cond) ∈ m_ws := m_w2 (i := 76) rfl rfl
theorem w_193 : (.fieldLink RX8 23 "MuseumCases" "draft" "LMuseumCases$Setup;" : Cond) ∈ m_ws := m_w2 (i := 77) rfl rfl
theorem w_194 : (.fieldLink RX8 29 "MuseumCases" "state" "LMuseumCases$State;" : Cond) ∈ m_ws := m_w2 (i := 78) rfl rfl
theorem w_195 : (.fieldLink RX8 33 "MuseumCases" "slots" "[LMuseumCases$State;" : Cond) ∈ m_ws := m_w2 (i := 79) rfl rfl
theorem w_196 : (.fieldLink RX8 37 "MuseumCases" "isSaved" "[Z" : Cond) ∈ m_ws := m_w2 (i := 80) rfl rfl
theorem w_197 : (.fieldLink RX8 44 "MuseumCases" "roomAhead" "LMuseumCases$Room;" : Cond) ∈ m_ws := m_w2 (i := 81) rfl rfl
theorem w_198 : (.fieldLink RX8 51 "MuseumCases" "trial" "LMuseumCases$Vitrine;" : Cond) ∈ m_ws := m_w2 (i := 82) rfl rfl
theorem w_199 : (.fieldLink RX8 55 "MuseumCases" "roomsAhead" "[I" : Cond) ∈ m_ws := m_w2 (i := 83) rfl rfl
theorem w_200 : (.laysFinal RX8 "MuseumCases" "reader" "LMuseumCases$Reader;" : Cond) ∈ m_ws := m_w2 (i := 84) rfl rfl
theorem w_201 : (.lays RX8 "MuseumCases" "setup" "LMuseumCases$Setup;" : Cond) ∈ m_ws := m_w2 (i := 86) rfl rfl
theorem w_202 : (.lays RX8 "MuseumCases" "draft" "LMuseumCases$Setup;" : Cond) ∈ m_ws := m_w2 (i := 88) rfl rfl
theorem w_203 : (.laysFinal RX8 "MuseumCases" "state" "LMuseumCases$State;" : Cond) ∈ m_ws := m_w2 (i := 90) rfl rfl
theorem w_204 : (.laysFinal RX8 "MuseumCases" "slots" "[LMuseumCases$State;" : Cond) ∈ m_ws := m_w2 (i := 92) rfl rfl
theorem w_205 : (.laysFinal RX8 "MuseumCases" "isSaved" "[Z" : Cond) ∈ m_ws := m_w2 (i := 94) rfl rfl
theorem w_206 : (.laysFinal RX8 "MuseumCases" "roomAhead" "LMuseumCases$Room;" : Cond) ∈ m_ws := m_w2 (i := 96) rfl rfl
theorem w_207 : (.laysFinal RX8 "MuseumCases" "trial" "LMuseumCases$Vitrine;" : Cond) ∈ m_ws := m_w2 (i := 98) rfl rfl
theorem w_208 : (.laysFinal RX8 "MuseumCases" "roomsAhead" "[I" : Cond) ∈ m_ws := m_w2 (i := 100) rfl rfl
theorem w_209 : (.arrayClass .boolean : Cond) ∈ m_ws := m_w2 (i := 103) rfl rfl
theorem w_210 : (.methodLink RL 144 yX8_errorCode : Cond) ∈ m_ws := m_w2 (i := 104) rfl rfl
theorem w_211 : (.instanceMethod yX8_errorCode : Cond) ∈ m_ws := m_w2 (i := 105) rfl rfl
theorem w_212 : (.selects RX8 yX8_errorCode yX8_errorCode : Cond) ∈ m_ws := m_w2 (i := 106) rfl rfl
theorem w_213 : (.code yX8_errorCode cX8_errorCode 1 (some .int) : Cond) ∈ m_ws := m_w2 (i := 107) rfl rfl
theorem w_214 : (.methodLink RL 148 yX8_errorPosition : Cond) ∈ m_ws := m_w2 (i := 108) rfl rfl
theorem w_215 : (.instanceMethod yX8_errorPosition : Cond) ∈ m_ws := m_w2 (i := 109) rfl rfl
theorem w_216 : (.selects RX8 yX8_errorPosition yX8_errorPosition : Cond) ∈ m_ws := m_w2 (i := 110) rfl rfl
theorem w_217 : (.code yX8_errorPosition cX8_errorPosition 1 (some .int) : Cond) ∈ m_ws := m_w2 (i := 111) rfl rfl
theorem w_218 : (.methodLink RL 127 yL_append : Cond) ∈ m_ws := m_w2 (i := 112) rfl rfl
theorem w_219 : (.static yL_append : Cond) ∈ m_ws := m_w2 (i := 113) rfl rfl
theorem w_220 : (.codeWith yL_append cL_append 8 (some .int) [(0, 16, 19, 13)] : Cond) ∈ m_ws := m_w2 (i := 114) rfl rfl
theorem w_221 : (.classLink RL 13 "java/lang/IllegalStateException" : Cond) ∈ m_ws := m_w2 (i := 115) rfl rfl
theorem w_222 : (.methodLink RL 7 yX8_append : Cond) ∈ m_ws := m_w2 (i := 116) rfl rfl
theorem w_223 : (.instanceMethod yX8_append : Cond) ∈ m_ws := m_w2 (i := 117) rfl rfl
theorem w_224 : (.selects RX8 yX8_append yX8_append : Cond) ∈ m_ws := m_w2 (i := 118) rfl rfl
theorem w_225 : (.code yX8_append cX8_append 6 (some .int) : Cond) ∈ m_ws := m_w2 (i := 119) rfl rfl
theorem w_226 : (.classLink RX8 63 "java/lang/IllegalStateException" : Cond) ∈ m_ws := m_w2 (i := 120) rfl rfl
theorem w_227 : (.instantiable "java/lang/IllegalStateException" 6 : Cond) ∈ m_ws := m_w2 (i := 121) rfl rfl
theorem w_228 : (.selects "java/lang/IllegalStateException" ⟨"java/lang/Throwable", "fillInStackTrace", "(I)Ljava/lang/Throwable;"⟩ ⟨"java/lang/Throwable", "fillInStackTrace", "(I)Ljava/lang/Throwable;"⟩ : Cond) ∈ m_ws := m_w2 (i := 129) rfl rfl
theorem w_229 : (.selects "java/lang/IllegalStateException" ⟨"java/lang/Throwable", "fillInStackTrace", "()Ljava/lang/Throwable;"⟩ ⟨"java/lang/Throwable", "fillInStackTrace", "()Ljava/lang/Throwable;"⟩ : Cond) ∈ m_ws := m_w2 (i := 130) rfl rfl
theorem w_230 : (.lays "java/lang/IllegalStateException" "java/lang/Throwable" "cause" "Ljava/lang/Throwable;" : Cond) ∈ m_ws := m_w2 (i := 131) rfl rfl
theorem w_231 : (.lays "java/lang/Throwable" "java/lang/Throwable" "cause" "Ljava/lang/Throwable;" : Cond) ∈ m_ws := m_w2 (i := 132) rfl rfl
theorem w_232 : (.lays "java/lang/IllegalStateException" "java/lang/Throwable" "stackTrace" "[Ljava/lang/StackTraceElement;" : Cond) ∈ m_ws := m_w2 (i := 133) rfl rfl
theorem w_233 : (.lays "java/lang/Throwable" "java/lang/Throwable" "stackTrace" "[Ljava/lang/StackTraceElement;" : Cond) ∈ m_ws := m_w2 (i := 134) rfl rfl
theorem w_234 : (.lays "java/lang/IllegalStateException" "java/lang/Throwable" "suppressedExceptions" "Ljava/util/List;" : Cond) ∈ m_ws := m_w2 (i := 135) rfl rfl
theorem w_235 : (.lays "java/lang/Throwable" "java/lang/Throwable" "suppressedExceptions" "Ljava/util/List;" : Cond) ∈ m_ws := m_w2 (i := 136) rfl rfl
theorem w_236 : (.lays "java/lang/IllegalStateException" "java/lang/Throwable" "detailMessage" "Ljava/lang/String;" : Cond) ∈ m_ws := m_w2 (i := 137) rfl rfl
theorem w_237 : (.lays "java/lang/Throwable" "java/lang/Throwable" "detailMessage" "Ljava/lang/String;" : Cond) ∈ m_ws := m_w2 (i := 138) rfl rfl
theorem w_238 : (.lays "java/lang/IllegalStateException" "java/lang/Throwable" "backtrace" "Ljava/lang/Object;" : Cond) ∈ m_ws := m_w2 (i := 139) rfl rfl
theorem w_239 : (.lays "java/lang/Throwable" "java/lang/Throwable" "backtrace" "Ljava/lang/Object;" : Cond) ∈ m_ws := m_w2 (i := 140) rfl rfl
theorem w_240 : (.fieldLink "java/lang/Throwable" 198 "java/lang/Throwable" "backtrace" "Ljava/lang/Object;" : Cond) ∈ m_ws := m_w2 (i := 141) rfl rfl
theorem w_241 : (.instanceMethod ⟨"java/lang/Throwable", "<init>", "()V"⟩ : Cond) ∈ m_ws := m_w2 (i := 143) rfl rfl
theorem w_242 : (.code ⟨"java/lang/Throwable", "<init>", "()V"⟩ prog_24_method_1_code 1 none : Cond) ∈ m_ws := m_w2 (i := 144) rfl rfl
theorem w_243 : (.methodLink "java/lang/Throwable" 1 objectInit : Cond) ∈ m_ws := m_w2 (i := 145) rfl rfl
theorem w_244 : (.fieldLink "java/lang/Throwable" 13 "java/lang/Throwable" "UNASSIGNED_STACK" "[Ljava/lang/StackTraceElement;" : Cond) ∈ m_ws := m_w2 (i := 146) rfl rfl
theorem w_245 : (.fieldLink "java/lang/Throwable" 20 "java/lang/Throwable" "SUPPRESSED_SENTINEL" "Ljava/util/List;" : Cond) ∈ m_ws := m_w2 (i := 148) rfl rfl
theorem w_246 : (.methodLink "java/lang/Throwable" 27 ⟨"java/lang/Throwable", "fillInStackTrace", "()Ljava/lang/Throwable;"⟩ : Cond) ∈ m_ws := m_w2 (i := 150) rfl rfl
theorem w_247 : (.instanceMethod ⟨"java/lang/Throwable", "fillInStackTrace", "()Ljava/lang/Throwable;"⟩ : Cond) ∈ m_ws := m_w2 (i := 151) rfl rfl
theorem w_248 : (.selects "java/lang/IllegalArgumentException" ⟨"java/lang/Throwable", "fillInStackTrace", "()Ljava/lang/Throwable;"⟩ ⟨"java/lang/Throwable", "fillInStackTrace", "()Ljava/lang/Throwable;"⟩ : Cond) ∈ m_ws := m_w2 (i := 153) rfl rfl
theorem w_249 : (.selects "java/lang/IndexOutOfBoundsException" ⟨"java/lang/Throwable", "fillInStackTrace", "()Ljava/lang/Throwable;"⟩ ⟨"java/lang/Throwable", "fillInStackTrace", "()Ljava/lang/Throwable;"⟩ : Cond) ∈ m_ws := m_w2 (i := 154) rfl rfl
theorem w_250 : (.selects "java/util/NoSuchElementException" ⟨"java/lang/Throwable", "fillInStackTrace", "()Ljava/lang/Throwable;"⟩ ⟨"java/lang/Throwable", "fillInStackTrace", "()Ljava/lang/Throwable;"⟩ : Cond) ∈ m_ws := m_w2 (i := 155) rfl rfl
theorem w_251 : (.methodLink "java/lang/Throwable" 202 ⟨"java/lang/Throwable", "fillInStackTrace", "(I)Ljava/lang/Throwable;"⟩ : Cond) ∈ m_ws := m_w2 (i := 157) rfl rfl
theorem w_252 : (.instanceMethod ⟨"java/lang/Throwable", "fillInStackTrace", "(I)Ljava/lang/Throwable;"⟩ : Cond) ∈ m_ws := m_w2 (i := 159) rfl rfl
theorem w_253 : (.instantiable "java/lang/Throwable" 6 : Cond) ∈ m_ws := m_w2 (i := 160) rfl rfl
theorem w_254 : (.native ⟨"java/lang/Throwable", "fillInStackTrace", "(I)Ljava/lang/Throwable;"⟩ : Cond) ∈ m_ws := m_w2 (i := 161) rfl rfl
theorem w_255 : (.methodLink RX8 67 ⟨"java/lang/IllegalStateException", "<init>", "(Ljava/lang/String;)V"⟩ : Cond) ∈ m_ws := m_w2 (i := 163) rfl rfl
theorem w_256 : (.instanceMethod ⟨"java/lang/IllegalStateException", "<init>", "(Ljava/lang/String;)V"⟩ : Cond) ∈ m_ws := m_w2 (i := 164) rfl rfl
theorem w_257 : (.code ⟨"java/lang/IllegalStateException", "<init>", "(Ljava/lang/String;)V"⟩ prog_17_method_2_code 2 none : Cond) ∈ m_ws := m_w2 (i := 165) rfl rfl
theorem w_258 : (.methodLink "java/lang/IllegalStateException" 7 ⟨"java/lang/RuntimeException", "<init>", "(Ljava/lang/String;)V"⟩ : Cond) ∈ m_ws := m_w2 (i := 166) rfl rfl
theorem w_259 : (.instanceMethod ⟨"java/lang/RuntimeException", "<init>", "(Ljava/lang/String;)V"⟩ : Cond) ∈ m_ws := m_w2 (i := 167) rfl rfl
theorem w_260 : (.code ⟨"java/lang/RuntimeException", "<init>", "(Ljava/lang/String;)V"⟩ prog_19_method_2_code 2 none : Cond) ∈ m_ws := m_w2 (i := 168) rfl rfl
theorem w_261 : (.methodLink "java/lang/RuntimeException" 7 ⟨"java/lang/Exception", "<init>", "(Ljava/lang/String;)V"⟩ : Cond) ∈ m_ws := m_w2 (i := 169) rfl rfl
theorem w_262 : (.instanceMethod ⟨"java/lang/Exception", "<init>", "(Ljava/lang/String;)V"⟩ : Cond) ∈ m_ws := m_w2 (i := 170) rfl rfl
theorem w_263 : (.code ⟨"java/lang/Exception", "<init>", "(Ljava/lang/String;)V"⟩ prog_15_method_2_code 2 none : Cond) ∈ m_ws := m_w2 (i := 171) rfl rfl
theorem w_264 : (.methodLink "java/lang/Exception" 7 ⟨"java/lang/Throwable", "<init>", "(Ljava/lang/String;)V"⟩ : Cond) ∈ m_ws := m_w2 (i := 172) rfl rfl
theorem w_265 : (.instanceMethod ⟨"java/lang/Throwable", "<init>", "(Ljava/lang/String;)V"⟩ : Cond) ∈ m_ws := m_w2 (i := 173) rfl rfl
theorem w_266 : (.code ⟨"java/lang/Throwable", "<init>", "(Ljava/lang/String;)V"⟩ prog_24_method_2_code 2 none : Cond) ∈ m_ws := m_w2 (i := 174) rfl rfl
theorem w_267 : (.fieldLink "java/lang/Throwable" 198 "java/lang/Throwable" "backtrace" "Ljava/lang/Object;" : Cond) ∈ m_ws := m_w2 (i := 175) rfl rfl
theorem w_268 : (.fieldLink "java/lang/Throwable" 31 "java/lang/Throwable" "detailMessage" "Ljava/lang/String;" : Cond) ∈ m_ws := m_w2 (i := 176) rfl rfl
theorem w_269 : (.fieldLink "java/lang/Throwable" 7 "java/lang/Throwable" "cause" "Ljava/lang/Throwable;" : Cond) ∈ m_ws := m_w2 (i := 177) rfl rfl
theorem w_270 : (.fieldLink "java/lang/Throwable" 17 "java/lang/Throwable" "stackTrace" "[Ljava/lang/StackTraceElement;" : Cond) ∈ m_ws := m_w2 (i := 178) rfl rfl
theorem w_271 : (.fieldLink "java/lang/Throwable" 24 "java/lang/Throwable" "suppressedExceptions" "Ljava/util/List;" : Cond) ∈ m_ws := m_w2 (i := 179) rfl rfl
theorem w_272 : (.lays "java/lang/IllegalStateException" "java/lang/Throwable" "depth" "I" : Cond) ∈ m_ws := m_w2 (i := 184) rfl rfl
theorem w_273 : (.methodLink RX8 70 yX3_appendBytes : Cond) ∈ m_ws := m_w2 (i := 188) rfl rfl
theorem w_274 : (.instanceMethod yX3_appendBytes : Cond) ∈ m_ws := m_w2 (i := 189) rfl rfl
theorem w_275 : (.selects RX3 yX3_appendBytes yX3_appendBytes : Cond) ∈ m_ws := m_w2 (i := 190) rfl rfl
theorem w_276 : (.code yX3_appendBytes cX3_appendBytes 3 none : Cond) ∈ m_ws := m_w2 (i := 191) rfl rfl
theorem w_277 : (.methodLink RL 136 yL_truncate : Cond) ∈ m_ws := m_w2 (i := 192) rfl rfl
theorem w_278 : (.static yL_truncate : Cond) ∈ m_ws := m_w2 (i := 193) rfl rfl
theorem w_279 : (.codeWith yL_truncate cL_truncate 4 (some .int) [(0, 9, 12, 19)] : Cond) ∈ m_ws := m_w2 (i := 194) rfl rfl
theorem w_280 : (.classLink RL 19 "java/lang/IndexOutOfBoundsException" : Cond) ∈ m_ws := m_w2 (i := 195) rfl rfl
theorem w_281 : (.methodLink RL 15 yX8_truncate : Cond) ∈ m_ws := m_w2 (i := 196) rfl rfl
theorem w_282 : (.instanceMethod yX8_truncate : Cond) ∈ m_ws := m_w2 (i := 197) rfl rfl
theorem w_283 : (.selects RX8 yX8_truncate yX8_truncate : Cond) ∈ m_ws := m_w2 (i := 198) rfl rfl
theorem w_284 : (.code yX8_truncate cX8_truncate 2 (some .int) : Cond) ∈ m_ws := m_w2 (i := 199) rfl rfl
theorem w_285 : (.classLink RX8 74 "java/lang/IndexOutOfBoundsException" : Cond) ∈ m_ws := m_w2 (i := 200) rfl rfl
theorem w_286 : (.instantiable "java/lang/IndexOutOfBoundsException" 6 : Cond) ∈ m_ws := m_w2 (i := 201) rfl rfl
theorem w_287 : (.selects "java/lang/IndexOutOfBoundsException" ⟨"java/lang/Throwable", "fillInStackTrace", "(I)Ljava/lang/Throwable;"⟩ ⟨"java/lang/Throwable", "fillInStackTrace", "(I)Ljava/lang/Throwable;"⟩ : Cond) ∈ m_ws := m_w2 (i := 203) rfl rfl
theorem w_288 : (.lays "java/lang/IndexOutOfBoundsException" "java/lang/Throwable" "cause" "Ljava/lang/Throwable;" : Cond) ∈ m_ws := m_w2 (i := 204) rfl rfl
theorem w_289 : (.lays "java/lang/IndexOutOfBoundsException" "java/lang/Throwable" "stackTrace" "[Ljava/lang/StackTraceElement;" : Cond) ∈ m_ws := m_w2 (i := 205) rfl rfl
theorem w_290 : (.lays "java/lang/IndexOutOfBoundsException" "java/lang/Throwable" "suppressedExceptions" "Ljava/util/List;" : Cond) ∈ m_ws := m_w2 (i := 206) rfl rfl
theorem w_291 : (.lays "java/lang/IndexOutOfBoundsException" "java/lang/Throwable" "detailMessage" "Ljava/lang/String;" : Cond) ∈ m_ws := m_w2 (i := 207) rfl rfl
theorem w_292 : (.lays "java/lang/IndexOutOfBoundsException" "java/lang/Throwable" "backtrace" "Ljava/lang/Object;" : Cond) ∈ m_ws := m_w2 (i := 208) rfl rfl
theorem w_293 : (.methodLink RX8 78 ⟨"java/lang/IndexOutOfBoundsException", "<init>", "(Ljava/lang/String;)V"⟩ : Cond) ∈ m_ws := m_w2 (i := 210) rfl rfl
theorem w_294 : (.instanceMethod ⟨"java/lang/IndexOutOfBoundsException", "<init>", "(Ljava/lang/String;)V"⟩ : Cond) ∈ m_ws := m_w2 (i := 211) rfl rfl
theorem w_295 : (.code ⟨"java/lang/IndexOutOfBoundsException", "<init>", "(Ljava/lang/String;)V"⟩ prog_18_method_2_code 2 none : Cond) ∈ m_ws := m_w2 (i := 212) rfl rfl
theorem w_296 : (.methodLink "java/lang/IndexOutOfBoundsException" 7 ⟨"java/lang/RuntimeException", "<init>", "(Ljava/lang/String;)V"⟩ : Cond) ∈ m_ws := m_w2 (i := 213) rfl rfl
theorem w_297 : (.lays "java/lang/IndexOutOfBoundsException" "java/lang/Throwable" "depth" "I" : Cond) ∈ m_ws := m_w2 (i := 214) rfl rfl
theorem w_298 : (.methodLink RL 140 yL_load : Cond) ∈ m_ws := m_w2 (i := 216) rfl rfl
theorem w_299 : (.static yL_load : Cond) ∈ m_ws := m_w2 (i := 217) rfl rfl
theorem w_300 : (.codeWith yL_load cL_load 3 (some .int) [(0, 8, 11, 25)] : Cond) ∈ m_ws := m_w2 (i := 218) rfl rfl
theorem w_301 : (.classLink RL 25 "java/lang/IllegalArgumentException" : Cond) ∈ m_ws := m_w2 (i := 219) rfl rfl
theorem w_302 : (.methodLink RL 21 yX8_load : Cond) ∈ m_ws := m_w2 (i := 220) rfl rfl
theorem w_303 : (.instanceMethod yX8_load : Cond) ∈ m_ws := m_w2 (i := 221) rfl rfl
theorem w_304 : (.selects RX8 yX8_load yX8_load : Cond) ∈ m_ws := m_w2 (i := 222) rfl rfl
theorem w_305 : (.code yX8_load cX8_load 3 (some .int) : Cond) ∈ m_ws := m_w2 (i := 223) rfl rfl
theorem w_306 : (.methodLink RX8 79 yX3_readInto : Cond) ∈ m_ws := m_w2 (i := 224) rfl rfl
theorem w_307 : (.instanceMethod yX3_readInto : Cond) ∈ m_ws := m_w2 (i := 225) rfl rfl
theorem w_308 : (.selects RX3 yX3_readInto yX3_readInto : Cond) ∈ m_ws := m_w2 (i := 226) rfl rfl
theorem w_309 : (.code yX3_readInto cX3_readInto 3 none : Cond) ∈ m_ws := m_w2 (i := 227) rfl rfl
theorem w_310 : (.methodLink RX3 44 yX5_clear : Cond) ∈ m_ws := m_w2 (i := 228) rfl rfl
theorem w_311 : (.instanceMethod yX5_clear : Cond) ∈ m_ws := m_w2 (i := 229) rfl rfl
theorem w_312 : (.selects RX5 yX5_clear yX5_clear : Cond) ∈ m_ws := m_w2 (i := 230) rfl rfl
theorem w_313 : (.code yX5_clear cX5_clear 2 none : Cond) ∈ m_ws := m_w2 (i := 231) rfl rfl
theorem w_314 : (.methodLink RX3 49 yX3_readToken : Cond) ∈ m_ws := m_w2 (i := 232) rfl rfl
theorem w_315 : (.instanceMethod yX3_readToken : Cond) ∈ m_ws := m_w2 (i := 234) rfl rfl
theorem w_316 : (.code yX3_readToken cX3_readToken 1 none : Cond) ∈ m_ws := m_w2 (i := 235) rfl rfl
theorem w_317 : (.methodLink RX3 210 yX3_isBlank : Cond) ∈ m_ws := m_w2 (i := 236) rfl rfl
theorem w_318 : (.static yX3_isBlank : Cond) ∈ m_ws := m_w2 (i := 237) rfl rfl
theorem w_319 : (.code yX3_isBlank cX3_isBlank 1 (some .boolean) : Cond) ∈ m_ws := m_w2 (i := 238) rfl rfl
theorem w_320 : (.methodLink RX3 214 yX3_tokenOf : Cond) ∈ m_ws := m_w2 (i := 239) rfl rfl
theorem w_321 : (.static yX3_tokenOf : Cond) ∈ m_ws := m_w3 (i := 0) rfl rfl
theorem w_322 : (.code yX3_tokenOf cX3_tokenOf 1 (some .int) : Cond) ∈ m_ws := m_w3 (i := 1) rfl rfl
theorem w_323 : (.methodLink RX3 218 yX3_readValue : Cond) ∈ m_ws := m_w3 (i := 2) rfl rfl
theorem w_324 : (.instanceMethod yX3_readValue : Cond) ∈ m_ws := m_w3 (i := 4) rfl rfl
theorem w_325 : (.code yX3_readValue cX3_readValue 2 none : Cond) ∈ m_ws := m_w3 (i := 5) rfl rfl
theorem w_326 : (.methodLink RX3 52 yX3_readMuseum : Cond) ∈ m_ws := m_w3 (i := 6) rfl rfl
theorem w_327 : (.instanceMethod yX3_readMuseum : Cond) ∈ m_ws := m_w3 (i := 8) rfl rfl
theorem w_328 : (.code yX3_readMuseum cX3_readMuseum 2 none : Cond) ∈ m_ws := m_w3 (i := 9) rfl rfl
theorem w_329 : (.methodLink RX3 96 yX3_takeWord : Cond) ∈ m_ws := m_w3 (i := 11) rfl rfl
theorem w_330 : (.instanceMethod yX3_takeWord : Cond) ∈ m_ws := m_w3 (i := 13) rfl rfl
theorem w_331 : (.code yX3_takeWord cX3_takeWord 2 none : Cond) ∈ m_ws := m_w3 (i := 14) rfl rfl
theorem w_332 : (.methodLink RX3 58 yX3_at : Cond) ∈ m_ws := m_w3 (i := 15) rfl rfl
theorem w_333 : (.instanceMethod yX3_at : Cond) ∈ m_ws := m_w3 (i := 17) rfl rfl
theorem w_334 : (.code yX3_at cX3_at 3 (some .boolean) : Cond) ∈ m_ws := m_w3 (i := 18) rfl rfl
theorem w_335 : (.methodLink RX3 202 yJ0_length_8abf5 : Cond) ∈ m_ws := m_w3 (i := 19) rfl rfl
theorem w_336 : (.instanceMethod yJ0_length_8abf5 : Cond) ∈ m_ws := m_w3 (i := 20) rfl rfl
theorem w_337 : (.selects RJ0 yJ0_length_8abf5 yJ0_length_8abf5 : Cond) ∈ m_ws := m_w3 (i := 21) rfl rfl
theorem w_338 : (.code yJ0_length_8abf5 cJ0_length_8abf5 1 (some .int) : Cond) ∈ m_ws := m_w3 (i := 22) rfl rfl
theorem w_339 : (.methodLink RJ0 335 yJ0_coder_7d493 : Cond) ∈ m_ws := m_w3 (i := 23) rfl rfl
theorem w_340 : (.instanceMethod yJ0_coder_7d493 : Cond) ∈ m_ws := m_w3 (i := 24) rfl rfl
theorem w_341 : (.selects RJ0 yJ0_coder_7d493 yJ0_coder_7d493 : Cond) ∈ m_ws := m_w3 (i := 25) rfl rfl
theorem w_342 : (.code yJ0_coder_7d493 cJ0_coder_7d493 1 (some .byte) : Cond) ∈ m_ws := m_w3 (i := 26) rfl rfl
theorem w_343 : (.fieldLink RJ0 38 "java/lang/String" "COMPACT_STRINGS" "Z" : Cond) ∈ m_ws := m_w3 (i := 27) rfl rfl
theorem w_344 : (.methodLink RX3 206 yJ0_charAt_5068e : Cond) ∈ m_ws := m_w3 (i := 29) rfl rfl
theorem w_345 : (.instanceMethod yJ0_charAt_5068e : Cond) ∈ m_ws := m_w3 (i := 30) rfl rfl
theorem w_346 : (.selects RJ0 yJ0_charAt_5068e yJ0_charAt_5068e : Cond) ∈ m_ws := m_w3 (i := 31) rfl rfl
theorem w_347 : (.code yJ0_charAt_5068e cJ0_charAt_5068e 2 (some .char) : Cond) ∈ m_ws := m_w3 (i := 32) rfl rfl
theorem w_348 : (.methodLink RJ0 492 yJ0_isLatin1_aae02 : Cond) ∈ m_ws := m_w3 (i := 33) rfl rfl
theorem w_349 : (.instanceMethod yJ0_isLatin1_aae02 : Cond) ∈ m_ws := m_w3 (i := 34) rfl rfl
theorem w_350 : (.selects RJ0 yJ0_isLatin1_aae02 yJ0_isLatin1_aae02 : Cond) ∈ m_ws := m_w3 (i := 35) rfl rfl
theorem w_351 : (.code yJ0_isLatin1_aae02 cJ0_isLatin1_aae02 1 (some .boolean) : Cond) ∈ m_ws := m_w3 (i := 36) rfl rfl
theorem w_352 : (.methodLink RJ0 495 yJ1_charAt_3b067 : Cond) ∈ m_ws := m_w3 (i := 37) rfl rfl
theorem w_353 : (.static yJ1_charAt_3b067 : Cond) ∈ m_ws := m_w3 (i := 38) rfl rfl
theorem w_354 : (.code yJ1_charAt_3b067 cJ1_charAt_3b067 2 (some .char) : Cond) ∈ m_ws := m_w3 (i := 39) rfl rfl
theorem w_355 : (.methodLink RJ1 9 yJ0_checkIndex_df160 : Cond) ∈ m_ws := m_w3 (i := 40) rfl rfl
theorem w_356 : (.static yJ0_checkIndex_df160 : Cond) ∈ m_ws := m_w3 (i := 41) rfl rfl
theorem w_357 : (.code yJ0_checkIndex_df160 cJ0_checkIndex_df160 2 none : Cond) ∈ m_ws := m_w3 (i := 42) rfl rfl
theorem w_358 : (.fieldLink RJ0 1053 "jdk/internal/util/Preconditions" "SIOOBE_FORMATTER" "Ljava/util/function/BiFunction;" : Cond) ∈ m_ws := m_w3 (i := 43) rfl rfl
theorem w_359 : (.methodLink RJ0 1059 yJ3_checkIndex_8e157 : Cond) ∈ m_ws := m_w3 (i := 45) rfl rfl
theorem w_360 : (.static yJ3_checkIndex_8e157 : Cond) ∈ m_ws := m_w3 (i := 46) rfl rfl
theorem w_361 : (.code yJ3_checkIndex_8e157 cJ3_checkIndex_8e157 3 (some .int) : Cond) ∈ m_ws := m_w3 (i := 47) rfl rfl
theorem w_362 : (.methodLink RJ0 498 yJ2_charAt_3b067 : Cond) ∈ m_ws := m_w3 (i := 48) rfl rfl
theorem w_363 : (.static yJ2_charAt_3b067 : Cond) ∈ m_ws := m_w3 (i := 49) rfl rfl
theorem w_364 : (.code yJ2_charAt_3b067 cJ2_charAt_3b067 2 (some .char) : Cond) ∈ m_ws := m_w3 (i := 50) rfl rfl
theorem w_365 : (.methodLink RJ2 67 yJ2_checkIndex_2214a : Cond) ∈ m_ws := m_w3 (i := 51) rfl rfl
theorem w_366 : (.static yJ2_checkIndex_2214a : Cond) ∈ m_ws := m_w3 (i := 52) rfl rfl
theorem w_367 : (.code yJ2_checkIndex_2214a cJ2_checkIndex_2214a 2 none : Cond) ∈ m_ws := m_w3 (i := 53) rfl rfl
theorem w_368 : (.methodLink RJ2 48 yJ2_length_9d52b : Cond) ∈ m_ws := m_w3 (i := 54) rfl rfl
theorem w_369 : (.static yJ2_length_9d52b : Cond) ∈ m_ws := m_w3 (i := 55) rfl rfl
theorem w_370 : (.code yJ2_length_9d52b cJ2_length_9d52b 1 (some .int) : Cond) ∈ m_ws := m_w3 (i := 56) rfl rfl
theorem w_371 : (.methodLink RJ2 414 yJ0_checkIndex_df160 : Cond) ∈ m_ws := m_w3 (i := 57) rfl rfl
theorem w_372 : (.methodLink RJ2 71 yJ2_getChar_3b067 : Cond) ∈ m_ws := m_w3 (i := 58) rfl rfl
theorem w_373 : (.static yJ2_getChar_3b067 : Cond) ∈ m_ws := m_w3 (i := 59) rfl rfl
theorem w_374 : (.code yJ2_getChar_3b067 cJ2_getChar_3b067 2 (some .char) : Cond) ∈ m_ws := m_w3 (i := 60) rfl rfl
theorem w_375 : (.fieldLink RJ2 44 "java/lang/StringUTF16" "$assertionsDisabled" "Z" : Cond) ∈ m_ws := m_w3 (i := 61) rfl rfl
theorem w_376 : (.fieldLink RJ2 59 "java/lang/StringUTF16" "HI_BYTE_SHIFT" "I" : Cond) ∈ m_ws := m_w3 (i := 63) rfl rfl
theorem w_377 : (.fieldLink RJ2 63 "java/lang/StringUTF16" "LO_BYTE_SHIFT" "I" : Cond) ∈ m_ws := m_w3 (i := 65) rfl rfl
theorem w_378 : (.methodLink RX3 90 yX3_fail : Cond) ∈ m_ws := m_w3 (i := 67) rfl rfl
theorem w_379 : (.instanceMethod yX3_fail : Cond) ∈ m_ws := m_w3 (i := 69) rfl rfl
theorem w_380 : (.code yX3_fail cX3_fail 2 none : Cond) ∈ m_ws := m_w3 (i := 70) rfl rfl
theorem w_381 : (.classLink RX3 221 "java/lang/IllegalArgumentException" : Cond) ∈ m_ws := m_w3 (i := 71) rfl rfl
theorem w_382 : (.instantiable "java/lang/IllegalArgumentException" 6 : Cond) ∈ m_ws := m_w3 (i := 72) rfl rfl
theorem w_383 : (.selects "java/lang/IllegalArgumentException" ⟨"java/lang/Throwable", "fillInStackTrace", "(I)Ljava/lang/Throwable;"⟩ ⟨"java/lang/Throwable", "fillInStackTrace", "(I)Ljava/lang/Throwable;"⟩ : Cond) ∈ m_ws := m_w3 (i := 74) rfl rfl
theorem w_384 : (.lays "java/lang/IllegalArgumentException" "java/lang/Throwable" "cause" "Ljava/lang/Throwable;" : Cond) ∈ m_ws := m_w3 (i := 75) rfl rfl
theorem w_385 : (.lays "java/lang/IllegalArgumentException" "java/lang/Throwable" "stackTrace" "[Ljava/lang/StackTraceElement;" : Cond) ∈ m_ws := m_w3 (i := 76) rfl rfl
theorem w_386 : (.lays "java/lang/IllegalArgumentException" "java/lang/Throwable" "suppressedExceptions" "Ljava/util/List;" : Cond) ∈ m_ws := m_w3 (i := 77) rfl rfl
theorem w_387 : (.lays "java/lang/IllegalArgumentException" "java/lang/Throwable" "detailMessage" "Ljava/lang/String;" : Cond) ∈ m_ws := m_w3 (i := 78) rfl rfl
theorem w_388 : (.lays "java/lang/IllegalArgumentException" "java/lang/Throwable" "backtrace" "Ljava/lang/Object;" : Cond) ∈ m_ws := m_w3 (i := 79) rfl rfl
theorem w_389 : (.methodLink RX3 225 ⟨"java/lang/IllegalArgumentException", "<init>", "(Ljava/lang/String;)V"⟩ : Cond) ∈ m_ws := m_w3 (i := 81) rfl rfl
theorem w_390 : (.instanceMethod ⟨"java/lang/IllegalArgumentException", "<init>", "(Ljava/lang/String;)V"⟩ : Cond) ∈ m_ws := m_w3 (i := 82) rfl rfl
theorem w_391 : (.code ⟨"java/lang/IllegalArgumentException", "<init>", "(Ljava/lang/String;)V"⟩ prog_16_method_2_code 2 none : Cond) ∈ m_ws := m_w3 (i := 83) rfl rfl
theorem w_392 : (.methodLink "java/lang/IllegalArgumentException" 7 ⟨"java/lang/RuntimeException", "<init>", "(Ljava/lang/String;)V"⟩ : Cond) ∈ m_ws := m_w3 (i := 84) rfl rfl
theorem w_393 : (.lays "java/lang/IllegalArgumentException" "java/lang/Throwable" "depth" "I" : Cond) ∈ m_ws := m_w3 (i := 85) rfl rfl
theorem w_394 : (.methodLink RX3 99 yX3_takeNumber : Cond) ∈ m_ws := m_w3 (i := 87) rfl rfl
theorem w_395 : (.instanceMethod yX3_takeNumber : Cond) ∈ m_ws := m_w3 (i := 89) rfl rfl
theorem w_396 : (.code yX3_takeNumber cX3_takeNumber 4 (some .int) : Cond) ∈ m_ws := m_w3 (i := 90) rfl rfl
theorem w_397 : (.methodLink RX3 109 yX3_takeSemicolon : Cond) ∈ m_ws := m_w3 (i := 91) rfl rfl
theorem w_398 : (.instanceMethod yX3_takeSemicolon : Cond) ∈ m_ws := m_w3 (i := 93) rfl rfl
theorem w_399 : (.code yX3_takeSemicolon cX3_takeSemicolon 1 none : Cond) ∈ m_ws := m_w3 (i := 94) rfl rfl
theorem w_400 : (.methodLink RX3 62 yX3_readSeason : Cond) ∈ m_ws := m_w3 (i := 96) rfl rfl
theorem w_401 : (.instanceMethod yX3_readSeason : Cond) ∈ m_ws := m_w3 (i := 98) rfl rfl
theorem w_402 : (.code yX3_readSeason cX3_readSeason 4 none : Cond) ∈ m_ws := m_w3 (i := 99) rfl rfl
theorem w_403 : (.methodLink RX3 112 yX5_nextDay : Cond) ∈ m_ws := m_w3 (i := 100) rfl rfl
theorem w_404 : (.instanceMethod yX5_nextDay : Cond) ∈ m_ws := m_w3 (i := 101) rfl rfl
theorem w_405 : (.selects RX5 yX5_nextDay yX5_nextDay : Cond) ∈ m_ws := m_w3 (i := 102) rfl rfl
theorem w_406 : (.code yX5_nextDay cX5_nextDay 2 (some .int) : Cond) ∈ m_ws := m_w3 (i := 103) rfl rfl
theorem w_407 : (.methodLink RX3 116 yX5_addSeason : Cond) ∈ m_ws := m_w3 (i := 104) rfl rfl
theorem w_408 : (.instanceMethod yX5_addSeason : Cond) ∈ m_ws := m_w3 (i := 105) rfl rfl
theorem w_409 : (.selects RX5 yX5_addSeason yX5_addSeason : Cond) ∈ m_ws := m_w3 (i := 106) rfl rfl
theorem w_410 : (.code yX5_addSeason cX5_addSeason 3 none : Cond) ∈ m_ws := m_w3 (i := 107) rfl rfl
theorem w_411 : (.methodLink RX3 65 yX3_refuse : Cond) ∈ m_ws := m_w3 (i := 108) rfl rfl
theorem w_412 : (.instanceMethod yX3_refuse : Cond) ∈ m_ws := m_w3 (i := 110) rfl rfl
theorem w_413 : (.code yX3_refuse cX3_refuse 2 none : Cond) ∈ m_ws := m_w3 (i := 111) rfl rfl
theorem w_414 : (.methodLink RX3 71 yX3_readVisitors : Cond) ∈ m_ws := m_w3 (i := 113) rfl rfl
theorem w_415 : (.instanceMethod yX3_readVisitors : Cond) ∈ m_ws := m_w3 (i := 115) rfl rfl
theorem w_416 : (.code yX3_readVisitors cX3_readVisitors 5 none : Cond) ∈ m_ws := m_w3 (i := 116) rfl rfl
theorem w_417 : (.methodLink RX3 120 yX5_addVisitors : Cond) ∈ m_ws := m_w3 (i := 117) rfl rfl
theorem w_418 : (.instanceMethod yX5_addVisitors : Cond) ∈ m_ws := m_w3 (i := 118) rfl rfl
theorem w_419 : (.selects RX5 yX5_addVisitors yX5_addVisitors : Cond) ∈ m_ws := m_w3 (i := 119) rfl rfl
theorem w_420 : (.code yX5_addVisitors cX5_addVisitors 5 none : Cond) ∈ m_ws := m_w3 (i := 120) rfl rfl
theorem w_421 : (.methodLink RX3 76 yX3_readKind : Cond) ∈ m_ws := m_w3 (i := 122) rfl rfl
theorem w_422 : (.instanceMethod yX3_readKind : Cond) ∈ m_ws := m_w3 (i := 124) rfl rfl
theorem w_423 : (.code yX3_readKind cX3_readKind 5 none : Cond) ∈ m_ws := m_w3 (i := 125) rfl rfl
theorem w_424 : (.methodLink RX3 124 yX3_takeNewName : Cond) ∈ m_ws := m_w3 (i := 126) rfl rfl
theorem w_425 : (.instanceMethod yX3_takeNewName : Cond) ∈ m_ws := m_w3 (i := 128) rfl rfl
theorem w_426 : (.code yX3_takeNewName cX3_takeNewName 5 (some .long) : Cond) ∈ m_ws := m_w3 (i := 129) rfl rfl
theorem w_427 : (.methodLink RX3 192 yX3_nameHere : Cond) ∈ m_ws := m_w3 (i := 130) rfl rfl
theorem w_428 : (.instanceMethod yX3_nameHere : Cond) ∈ m_ws := m_w3 (i := 132) rfl rfl
theorem w_429 : (.code yX3_nameHere cX3_nameHere 4 (some .long) : Cond) ∈ m_ws := m_w3 (i := 133) rfl rfl
theorem w_430 : (.constantLong RX3 200 (32) : Cond) ∈ m_ws := m_w3 (i := 134) rfl rfl
theorem w_431 : (.methodLink RX3 196 yX3_indexOf : Cond) ∈ m_ws := m_w3 (i := 135) rfl rfl
theorem w_432 : (.static yX3_indexOf : Cond) ∈ m_ws := m_w3 (i := 136) rfl rfl
theorem w_433 : (.code yX3_indexOf cX3_indexOf 5 (some .int) : Cond) ∈ m_ws := m_w3 (i := 137) rfl rfl
theorem w_434 : (.methodLink RX3 132 yX1_begin : Cond) ∈ m_ws := m_w3 (i := 138) rfl rfl
theorem w_435 : (.instanceMethod yX1_begin : Cond) ∈ m_ws := m_w3 (i := 139) rfl rfl
theorem w_436 : (.selects RX1 yX1_begin yX1_begin : Cond) ∈ m_ws := m_w3 (i := 140) rfl rfl
theorem w_437 : (.code yX1_begin cX1_begin 3 none : Cond) ∈ m_ws := m_w3 (i := 141) rfl rfl
theorem w_438 : (.methodLink RX3 139 yX3_readPoint : Cond) ∈ m_ws := m_w3 (i := 143) rfl rfl
theorem w_439 : (.instanceMethod yX3_readPoint : Cond) ∈ m_ws := m_w3 (i := 145) rfl rfl
theorem w_440 : (.code yX3_readPoint cX3_readPoint 4 none : Cond) ∈ m_ws := m_w3 (i := 146) rfl rfl
theorem w_441 : (.methodLink RX3 146 yX1_nextHumidity : Cond) ∈ m_ws := m_w3 (i := 147) rfl rfl
theorem w_442 : (.instanceMethod yX1_nextHumidity : Cond) ∈ m_ws := m_w3 (i := 148) rfl rfl
theorem w_443 : (.selects RX1 yX1_nextHumidity yX1_nextHumidity : Cond) ∈ m_ws := m_w3 (i := 149) rfl rfl
theorem w_444 : (.code yX1_nextHumidity cX1_nextHumidity 2 (some .int) : Cond) ∈ m_ws := m_w3 (i := 150) rfl rfl
theorem w_445 : (.methodLink RX3 149 yX1_lastContent : Cond) ∈ m_ws := m_w3 (i := 151) rfl rfl
theorem w_446 : (.instanceMethod yX1_lastContent : Cond) ∈ m_ws := m_w3 (i := 152) rfl rfl
theorem w_447 : (.selects RX1 yX1_lastContent yX1_lastContent : Cond) ∈ m_ws := m_w3 (i := 153) rfl rfl
theorem w_448 : (.code yX1_lastContent cX1_lastContent 2 (some .int) : Cond) ∈ m_ws := m_w3 (i := 154) rfl rfl
theorem w_449 : (.methodLink RX3 152 yX1_addPoint : Cond) ∈ m_ws := m_w3 (i := 155) rfl rfl
theorem w_450 : (.instanceMethod yX1_addPoint : Cond) ∈ m_ws := m_w3 (i := 156) rfl rfl
theorem w_451 : (.selects RX1 yX1_addPoint yX1_addPoint : Cond) ∈ m_ws := m_w3 (i := 157) rfl rfl
theorem w_452 : (.code yX1_addPoint cX1_addPoint 3 none : Cond) ∈ m_ws := m_w3 (i := 158) rfl rfl
theorem w_453 : (.methodLink RX3 82 yX3_readCase : Cond) ∈ m_ws := m_w3 (i := 160) rfl rfl
theorem w_454 : (.instanceMethod yX3_readCase : Cond) ∈ m_ws := m_w3 (i := 162) rfl rfl
theorem w_455 : (.code yX3_readCase cX3_readCase 7 none : Cond) ∈ m_ws := m_w3 (i := 163) rfl rfl
theorem w_456 : (.methodLink RX3 159 yX7_begin : Cond) ∈ m_ws := m_w3 (i := 164) rfl rfl
theorem w_457 : (.instanceMethod yX7_begin : Cond) ∈ m_ws := m_w3 (i := 165) rfl rfl
theorem w_458 : (.selects RX7 yX7_begin yX7_begin : Cond) ∈ m_ws := m_w3 (i := 166) rfl rfl
theorem w_459 : (.code yX7_begin cX7_begin 4 none : Cond) ∈ m_ws := m_w3 (i := 167) rfl rfl
theorem w_460 : (.methodLink RX7 37 yX7_fillAir : Cond) ∈ m_ws := m_w3 (i := 168) rfl rfl
theorem w_461 : (.instanceMethod yX7_fillAir : Cond) ∈ m_ws := m_w3 (i := 169) rfl rfl
theorem w_462 : (.selects RX7 yX7_fillAir yX7_fillAir : Cond) ∈ m_ws := m_w3 (i := 170) rfl rfl
theorem w_463 : (.code yX7_fillAir cX7_fillAir 2 none : Cond) ∈ m_ws := m_w3 (i := 171) rfl rfl
theorem w_464 : (.methodLink RX7 45 yX7_airAt : Cond) ∈ m_ws := m_w3 (i := 172) rfl rfl
theorem w_465 : (.instanceMethod yX7_airAt : Cond) ∈ m_ws := m_w3 (i := 173) rfl rfl
theorem w_466 : (.selects RX7 yX7_airAt yX7_airAt : Cond) ∈ m_ws := m_w3 (i := 174) rfl rfl
theorem w_467 : (.code yX7_airAt cX7_airAt 2 (some .int) : Cond) ∈ m_ws := m_w3 (i := 175) rfl rfl
theorem w_468 : (.methodLink RX3 87 yX3_readCassette : Cond) ∈ m_ws := m_w3 (i := 178) rfl rfl
theorem w_469 : (.instanceMethod yX3_readCassette : Cond) ∈ m_ws := m_w3 (i := 180) rfl rfl
theorem w_470 : (.code yX3_readCassette cX3_readCassette 6 none : Cond) ∈ m_ws := m_w3 (i := 181) rfl rfl
theorem w_471 : (.methodLink RX3 174 yX3_knownName : Cond) ∈ m_ws := m_w3 (i := 182) rfl rfl
theorem w_472 : (.instanceMethod yX3_knownName : Cond) ∈ m_ws := m_w3 (i := 184) rfl rfl
theorem w_473 : (.code yX3_knownName cX3_knownName 4 (some .int) : Cond) ∈ m_ws := m_w3 (i := 185) rfl rfl
theorem w_474 : (.methodLink RX3 178 yX7_isFull : Cond) ∈ m_ws := m_w3 (i := 186) rfl rfl
theorem w_475 : (.instanceMethod yX7_isFull : Cond) ∈ m_ws := m_w3 (i := 187) rfl rfl
theorem w_476 : (.selects RX7 yX7_isFull yX7_isFull : Cond) ∈ m_ws := m_w3 (i := 188) rfl rfl
theorem w_477 : (.code yX7_isFull cX7_isFull 1 (some .boolean) : Cond) ∈ m_ws := m_w3 (i := 189) rfl rfl
theorem w_478 : (.methodLink RX3 185 yX1_moistureAt : Cond) ∈ m_ws := m_w3 (i := 190) rfl rfl
theorem w_479 : (.instanceMethod yX1_moistureAt : Cond) ∈ m_ws := m_w3 (i := 191) rfl rfl
theorem w_480 : (.selects RX1 yX1_moistureAt yX1_moistureAt : Cond) ∈ m_ws := m_w3 (i := 192) rfl rfl
theorem w_481 : (.code yX1_moistureAt cX1_moistureAt 3 (some .int) : Cond) ∈ m_ws := m_w3 (i := 193) rfl rfl
theorem w_482 : (.methodLink RX1 36 yX1_contentAt : Cond) ∈ m_ws := m_w3 (i := 194) rfl rfl
theorem w_483 : (.instanceMethod yX1_contentAt : Cond) ∈ m_ws := m_w3 (i := 195) rfl rfl
theorem w_484 : (.selects RX1 yX1_contentAt yX1_contentAt : Cond) ∈ m_ws := m_w3 (i := 196) rfl rfl
theorem w_485 : (.code yX1_contentAt cX1_contentAt 3 (some .int) : Cond) ∈ m_ws := m_w3 (i := 197) rfl rfl
theorem w_486 : (.static yX8_onLine : Cond) ∈ m_ws := m_w3 (i := 199) rfl rfl
theorem w_487 : (.code yX8_onLine cX8_onLine 4 (some .int) : Cond) ∈ m_ws := m_w3 (i := 200) rfl rfl
theorem w_488 : (.methodLink RX1 32 yX1_lastContent : Cond) ∈ m_ws := m_w3 (i := 201) rfl rfl
theorem w_489 : (.methodLink RX3 188 yX7_put : Cond) ∈ m_ws := m_w3 (i := 202) rfl rfl
theorem w_490 : (.instanceMethod yX7_put : Cond) ∈ m_ws := m_w3 (i := 203) rfl rfl
theorem w_491 : (.selects RX7 yX7_put yX7_put : Cond) ∈ m_ws := m_w3 (i := 204) rfl rfl
theorem w_492 : (.code yX7_put cX7_put 5 none : Cond) ∈ m_ws := m_w3 (i := 205) rfl rfl
theorem w_493 : (.methodLink RX7 68 yX0_begin : Cond) ∈ m_ws := m_w3 (i := 206) rfl rfl
theorem w_494 : (.instanceMethod yX0_begin : Cond) ∈ m_ws := m_w3 (i := 207) rfl rfl
theorem w_495 : (.selects RX0 yX0_begin yX0_begin : Cond) ∈ m_ws := m_w3 (i := 208) rfl rfl
theorem w_496 : (.code yX0_begin cX0_begin 5 none : Cond) ∈ m_ws := m_w3 (i := 209) rfl rfl
theorem w_497 : (.methodLink RX8 83 yX6_begin : Cond) ∈ m_ws := m_w3 (i := 210) rfl rfl
theorem w_498 : (.instanceMethod yX6_begin : Cond) ∈ m_ws := m_w3 (i := 211) rfl rfl
theorem w_499 : (.selects RX6 yX6_begin yX6_begin : Cond) ∈ m_ws := m_w3 (i := 212) rfl rfl
theorem w_500 : (.code yX6_begin cX6_begin 3 none : Cond) ∈ m_ws := m_w3 (i := 213) rfl rfl
theorem w_501 : (.methodLink RX6 39 yX4_begin : Cond) ∈ m_ws := m_w3 (i := 214) rfl rfl
theorem w_502 : (.instanceMethod yX4_begin : Cond) ∈ m_ws := m_w3 (i := 215) rfl rfl
theorem w_503 : (.selects RX4 yX4_begin yX4_begin : Cond) ∈ m_ws := m_w3 (i := 216) rfl rfl
theorem w_504 : (.code yX4_begin cX4_begin 1 none : Cond) ∈ m_ws := m_w3 (i := 217) rfl rfl
theorem w_505 : (.methodLink RX6 49 yX7_copyFrom : Cond) ∈ m_ws := m_w3 (i := 218) rfl rfl
theorem w_506 : (.instanceMethod yX7_copyFrom : Cond) ∈ m_ws := m_w3 (i := 219) rfl rfl
theorem w_507 : (.selects RX7 yX7_copyFrom yX7_copyFrom : Cond) ∈ m_ws := m_w3 (i := 220) rfl rfl
theorem w_508 : (.code yX7_copyFrom cX7_copyFrom 3 none : Cond) ∈ m_ws := m_w3 (i := 221) rfl rfl
theorem w_509 : (.methodLink RX7 41 yX0_copyFrom : Cond) ∈ m_ws := m_w3 (i := 222) rfl rfl
theorem w_510 : (.instanceMethod yX0_copyFrom : Cond) ∈ m_ws := m_w3 (i := 223) rfl rfl
theorem w_511 : (.selects RX0 yX0_copyFrom yX0_copyFrom : Cond) ∈ m_ws := m_w3 (i := 224) rfl rfl
theorem w_512 : (.code yX0_copyFrom cX0_copyFrom 2 none : Cond) ∈ m_ws := m_w3 (i := 225) rfl rfl
theorem w_513 : (.methodLink RX6 53 yX7_moisture : Cond) ∈ m_ws := m_w3 (i := 226) rfl rfl
theorem w_514 : (.instanceMethod yX7_moisture : Cond) ∈ m_ws := m_w3 (i := 227) rfl rfl
theorem w_515 : (.selects RX7 yX7_moisture yX7_moisture : Cond) ∈ m_ws := m_w3 (i := 228) rfl rfl
theorem w_516 : (.code yX7_moisture cX7_moisture 1 (some .int) : Cond) ∈ m_ws := m_w3 (i := 229) rfl rfl
theorem w_517 : (.methodLink RX7 56 yX7_moistureOfCassettes : Cond) ∈ m_ws := m_w3 (i := 230) rfl rfl
theorem w_518 : (.instanceMethod yX7_moistureOfCassettes : Cond) ∈ m_ws := m_w3 (i := 231) rfl rfl
theorem w_519 : (.selects RX7 yX7_moistureOfCassettes yX7_moistureOfCassettes : Cond) ∈ m_ws := m_w3 (i := 232) rfl rfl
theorem w_520 : (.code yX7_moistureOfCassettes cX7_moistureOfCassettes 3 (some .int) : Cond) ∈ m_ws := m_w3 (i := 233) rfl rfl
theorem w_521 : (.methodLink RX6 57 yX2_begin : Cond) ∈ m_ws := m_w3 (i := 234) rfl rfl
theorem w_522 : (.instanceMethod yX2_begin : Cond) ∈ m_ws := m_w3 (i := 235) rfl rfl
theorem w_523 : (.selects RX2 yX2_begin yX2_begin : Cond) ∈ m_ws := m_w3 (i := 236) rfl rfl
theorem w_524 : (.code yX2_begin cX2_begin 2 none : Cond) ∈ m_ws := m_w3 (i := 237) rfl rfl
theorem w_525 : (.methodLink RL 152 yL_report : Cond) ∈ m_ws := m_w3 (i := 238) rfl rfl
theorem w_526 : (.static yL_report : Cond) ∈ m_ws := m_w3 (i := 239) rfl rfl
theorem w_527 : (.codeWith yL_report cL_report 4 (some .int) [(0, 9, 12, 25)] : Cond) ∈ m_ws := m_w4 (i := 0) rfl rfl
theorem w_528 : (.methodLink RL 27 yX8_report : Cond) ∈ m_ws := m_w4 (i := 1) rfl rfl
theorem w_529 : (.instanceMethod yX8_report : Cond) ∈ m_ws := m_w4 (i := 2) rfl rfl
theorem w_530 : (.selects RX8 yX8_report yX8_report : Cond) ∈ m_ws := m_w4 (i := 3) rfl rfl
theorem w_531 : (.code yX8_report cX8_report 2 (some .int) : Cond) ∈ m_ws := m_w4 (i := 4) rfl rfl
theorem w_532 : (.methodLink RX8 101 yX4_day : Cond) ∈ m_ws := m_w4 (i := 5) rfl rfl
theorem w_533 : (.instanceMethod yX4_day : Cond) ∈ m_ws := m_w4 (i := 6) rfl rfl
theorem w_534 : (.selects RX4 yX4_day yX4_day : Cond) ∈ m_ws := m_w4 (i := 7) rfl rfl
theorem w_535 : (.code yX4_day cX4_day 1 (some .int) : Cond) ∈ m_ws := m_w4 (i := 8) rfl rfl
theorem w_536 : (.methodLink RX8 105 yX4_hourOfDay : Cond) ∈ m_ws := m_w4 (i := 9) rfl rfl
theorem w_537 : (.instanceMethod yX4_hourOfDay : Cond) ∈ m_ws := m_w4 (i := 10) rfl rfl
theorem w_538 : (.selects RX4 yX4_hourOfDay yX4_hourOfDay : Cond) ∈ m_ws := m_w4 (i := 11) rfl rfl
theorem w_539 : (.code yX4_hourOfDay cX4_hourOfDay 1 (some .int) : Cond) ∈ m_ws := m_w4 (i := 12) rfl rfl
theorem w_540 : (.methodLink RX8 111 yX6_cassettesInAll : Cond) ∈ m_ws := m_w4 (i := 13) rfl rfl
theorem w_541 : (.instanceMethod yX6_cassettesInAll : Cond) ∈ m_ws := m_w4 (i := 14) rfl rfl
theorem w_542 : (.selects RX6 yX6_cassettesInAll yX6_cassettesInAll : Cond) ∈ m_ws := m_w4 (i := 15) rfl rfl
theorem w_543 : (.code yX6_cassettesInAll cX6_cassettesInAll 3 (some .int) : Cond) ∈ m_ws := m_w4 (i := 16) rfl rfl
theorem w_544 : (.methodLink RX8 120 yX4_humidity : Cond) ∈ m_ws := m_w4 (i := 17) rfl rfl
theorem w_545 : (.instanceMethod yX4_humidity : Cond) ∈ m_ws := m_w4 (i := 18) rfl rfl
theorem w_546 : (.selects RX4 yX4_humidity yX4_humidity : Cond) ∈ m_ws := m_w4 (i := 19) rfl rfl
theorem w_547 : (.code yX4_humidity cX4_humidity 3 (some .int) : Cond) ∈ m_ws := m_w4 (i := 20) rfl rfl
theorem w_548 : (.methodLink RX4 21 yX4_day : Cond) ∈ m_ws := m_w4 (i := 21) rfl rfl
theorem w_549 : (.methodLink RX4 25 yX5_setPointOf : Cond) ∈ m_ws := m_w4 (i := 22) rfl rfl
theorem w_550 : (.instanceMethod yX5_setPointOf : Cond) ∈ m_ws := m_w4 (i := 23) rfl rfl
theorem w_551 : (.selects RX5 yX5_setPointOf yX5_setPointOf : Cond) ∈ m_ws := m_w4 (i := 24) rfl rfl
theorem w_552 : (.code yX5_setPointOf cX5_setPointOf 7 (some .int) : Cond) ∈ m_ws := m_w4 (i := 25) rfl rfl
theorem w_553 : (.classLink RX8 127 "java/lang/IllegalArgumentException" : Cond) ∈ m_ws := m_w4 (i := 27) rfl rfl
theorem w_554 : (.methodLink RX8 131 ⟨"java/lang/IllegalArgumentException", "<init>", "(Ljava/lang/String;)V"⟩ : Cond) ∈ m_ws := m_w4 (i := 29) rfl rfl
theorem w_555 : (.methodLink RL 155 yL_setPoint : Cond) ∈ m_ws := m_w4 (i := 30) rfl rfl
theorem w_556 : (.static yL_setPoint : Cond) ∈ m_ws := m_w4 (i := 31) rfl rfl
theorem w_557 : (.codeWith yL_setPoint cL_setPoint 4 (some .int) [(0, 9, 12, 25)] : Cond) ∈ m_ws := m_w4 (i := 32) rfl rfl
theorem w_558 : (.methodLink RL 30 yX8_setPoint : Cond) ∈ m_ws := m_w4 (i := 33) rfl rfl
theorem w_559 : (.instanceMethod yX8_setPoint : Cond) ∈ m_ws := m_w4 (i := 34) rfl rfl
theorem w_560 : (.selects RX8 yX8_setPoint yX8_setPoint : Cond) ∈ m_ws := m_w4 (i := 35) rfl rfl
theorem w_561 : (.code yX8_setPoint cX8_setPoint 2 (some .int) : Cond) ∈ m_ws := m_w4 (i := 36) rfl rfl
theorem w_562 : (.methodLink RX8 134 yX5_setPointOf : Cond) ∈ m_ws := m_w4 (i := 38) rfl rfl
theorem w_563 : (.methodLink RL 158 yL_visitors : Cond) ∈ m_ws := m_w4 (i := 39) rfl rfl
theorem w_564 : (.static yL_visitors : Cond) ∈ m_ws := m_w4 (i := 40) rfl rfl
theorem w_565 : (.codeWith yL_visitors cL_visitors 4 (some .int) [(0, 9, 12, 25)] : Cond) ∈ m_ws := m_w4 (i := 41) rfl rfl
theorem w_566 : (.methodLink RL 33 yX8_visitors : Cond) ∈ m_ws := m_w4 (i := 42) rfl rfl
theorem w_567 : (.instanceMethod yX8_visitors : Cond) ∈ m_ws := m_w4 (i := 43) rfl rfl
theorem w_568 : (.selects RX8 yX8_visitors yX8_visitors : Cond) ∈ m_ws := m_w4 (i := 44) rfl rfl
theorem w_569 : (.code yX8_visitors cX8_visitors 2 (some .int) : Cond) ∈ m_ws := m_w4 (i := 45) rfl rfl
theorem w_570 : (.methodLink RX8 140 yX5_visitorsAt : Cond) ∈ m_ws := m_w4 (i := 47) rfl rfl
theorem w_571 : (.instanceMethod yX5_visitorsAt : Cond) ∈ m_ws := m_w4 (i := 48) rfl rfl
theorem w_572 : (.selects RX5 yX5_visitorsAt yX5_visitorsAt : Cond) ∈ m_ws := m_w4 (i := 49) rfl rfl
theorem w_573 : (.code yX5_visitorsAt cX5_visitorsAt 2 (some .int) : Cond) ∈ m_ws := m_w4 (i := 50) rfl rfl
theorem w_574 : (.methodLink RL 161 yL_content : Cond) ∈ m_ws := m_w4 (i := 51) rfl rfl
theorem w_575 : (.static yL_content : Cond) ∈ m_ws := m_w4 (i := 52) rfl rfl
theorem w_576 : (.codeWith yL_content cL_content 5 (some .int) [(0, 10, 13, 19)] : Cond) ∈ m_ws := m_w4 (i := 53) rfl rfl
theorem w_577 : (.methodLink RL 36 yX8_content : Cond) ∈ m_ws := m_w4 (i := 54) rfl rfl
theorem w_578 : (.instanceMethod yX8_content : Cond) ∈ m_ws := m_w4 (i := 55) rfl rfl
theorem w_579 : (.selects RX8 yX8_content yX8_content : Cond) ∈ m_ws := m_w4 (i := 56) rfl rfl
theorem w_580 : (.code yX8_content cX8_content 3 (some .int) : Cond) ∈ m_ws := m_w4 (i := 57) rfl rfl
theorem w_581 : (.methodLink RX8 143 yX8_kindAt : Cond) ∈ m_ws := m_w4 (i := 58) rfl rfl
theorem w_582 : (.instanceMethod yX8_kindAt : Cond) ∈ m_ws := m_w4 (i := 60) rfl rfl
theorem w_583 : (.code yX8_kindAt cX8_kindAt 2 (some (.object "MuseumCases$Kind")) : Cond) ∈ m_ws := m_w4 (i := 61) rfl rfl
theorem w_584 : (.methodLink RX8 147 yX1_contentAt : Cond) ∈ m_ws := m_w4 (i := 63) rfl rfl
theorem w_585 : (.methodLink RL 165 yL_announce : Cond) ∈ m_ws := m_w4 (i := 64) rfl rfl
theorem w_586 : (.static yL_announce : Cond) ∈ m_ws := m_w4 (i := 65) rfl rfl
theorem w_587 : (.codeWith yL_announce cL_announce 4 (some .int) [(0, 9, 12, 25), (0, 9, 15, 13)] : Cond) ∈ m_ws := m_w4 (i := 66) rfl rfl
theorem w_588 : (.methodLink RL 40 yX8_announce : Cond) ∈ m_ws := m_w4 (i := 67) rfl rfl
theorem w_589 : (.instanceMethod yX8_announce : Cond) ∈ m_ws := m_w4 (i := 68) rfl rfl
theorem w_590 : (.selects RX8 yX8_announce yX8_announce : Cond) ∈ m_ws := m_w4 (i := 69) rfl rfl
theorem w_591 : (.code yX8_announce cX8_announce 2 (some .int) : Cond) ∈ m_ws := m_w4 (i := 70) rfl rfl
theorem w_592 : (.methodLink RL 168 yL_displayCase : Cond) ∈ m_ws := m_w4 (i := 73) rfl rfl
theorem w_593 : (.static yL_displayCase : Cond) ∈ m_ws := m_w4 (i := 74) rfl rfl
theorem w_594 : (.codeWith yL_displayCase cL_displayCase 5 (some .int) [(0, 10, 13, 19), (0, 10, 17, 25)] : Cond) ∈ m_ws := m_w4 (i := 75) rfl rfl
theorem w_595 : (.methodLink RL 43 yX8_displayCase : Cond) ∈ m_ws := m_w4 (i := 76) rfl rfl
theorem w_596 : (.instanceMethod yX8_displayCase : Cond) ∈ m_ws := m_w4 (i := 77) rfl rfl
theorem w_597 : (.selects RX8 yX8_displayCase yX8_displayCase : Cond) ∈ m_ws := m_w4 (i := 78) rfl rfl
theorem w_598 : (.code yX8_displayCase cX8_displayCase 5 (some .int) : Cond) ∈ m_ws := m_w4 (i := 79) rfl rfl
theorem w_599 : (.methodLink RX8 156 yX8_vitrineAt : Cond) ∈ m_ws := m_w4 (i := 80) rfl rfl
theorem w_600 : (.instanceMethod yX8_vitrineAt : Cond) ∈ m_ws := m_w4 (i := 82) rfl rfl
theorem w_601 : (.code yX8_vitrineAt cX8_vitrineAt 2 (some (.object "MuseumCases$Vitrine")) : Cond) ∈ m_ws := m_w4 (i := 83) rfl rfl
theorem w_602 : (.methodLink RX8 160 yX8_logbookAt : Cond) ∈ m_ws := m_w4 (i := 85) rfl rfl
theorem w_603 : (.instanceMethod yX8_logbookAt : Cond) ∈ m_ws := m_w4 (i := 87) rfl rfl
theorem w_604 : (.code yX8_logbookAt cX8_logbookAt 2 (some (.object "MuseumCases$Logbook")) : Cond) ∈ m_ws := m_w4 (i := 88) rfl rfl
theorem w_605 : (.methodLink RX8 173 yX7_humidity : Cond) ∈ m_ws := m_w4 (i := 89) rfl rfl
theorem w_606 : (.instanceMethod yX7_humidity : Cond) ∈ m_ws := m_w4 (i := 90) rfl rfl
theorem w_607 : (.selects RX7 yX7_humidity yX7_humidity : Cond) ∈ m_ws := m_w4 (i := 91) rfl rfl
theorem w_608 : (.code yX7_humidity cX7_humidity 1 (some .int) : Cond) ∈ m_ws := m_w4 (i := 92) rfl rfl
theorem w_609 : (.methodLink RX8 178 yX7_moistureOfCassettes : Cond) ∈ m_ws := m_w4 (i := 93) rfl rfl
theorem w_610 : (.methodLink RL 171 yL_balance : Cond) ∈ m_ws := m_w4 (i := 95) rfl rfl
theorem w_611 : (.static yL_balance : Cond) ∈ m_ws := m_w4 (i := 96) rfl rfl
theorem w_612 : (.codeWith yL_balance cL_balance 5 (some .int) [(0, 9, 12, 19), (0, 9, 16, 25)] : Cond) ∈ m_ws := m_w4 (i := 97) rfl rfl
theorem w_613 : (.methodLink RL 46 yX8_balance : Cond) ∈ m_ws := m_w4 (i := 98) rfl rfl
theorem w_614 : (.instanceMethod yX8_balance : Cond) ∈ m_ws := m_w4 (i := 99) rfl rfl
theorem w_615 : (.selects RX8 yX8_balance yX8_balance : Cond) ∈ m_ws := m_w4 (i := 100) rfl rfl
theorem w_616 : (.code yX8_balance cX8_balance 5 (some .long) : Cond) ∈ m_ws := m_w4 (i := 101) rfl rfl
theorem w_617 : (.methodLink RX8 213 yX7_moisture : Cond) ∈ m_ws := m_w4 (i := 102) rfl rfl
theorem w_618 : (.methodLink RL 174 yL_recorded : Cond) ∈ m_ws := m_w4 (i := 104) rfl rfl
theorem w_619 : (.static yL_recorded : Cond) ∈ m_ws := m_w4 (i := 105) rfl rfl
theorem w_620 : (.codeWith yL_recorded cL_recorded 5 (some .int) [(0, 10, 13, 19), (0, 10, 17, 25), (0, 10, 21, 53)] : Cond) ∈ m_ws := m_w4 (i := 106) rfl rfl
theorem w_621 : (.classLink RL 53 "java/util/NoSuchElementException" : Cond) ∈ m_ws := m_w4 (i := 107) rfl rfl
theorem w_622 : (.methodLink RL 50 yX8_recorded : Cond) ∈ m_ws := m_w4 (i := 108) rfl rfl
theorem w_623 : (.instanceMethod yX8_recorded : Cond) ∈ m_ws := m_w4 (i := 109) rfl rfl
theorem w_624 : (.selects RX8 yX8_recorded yX8_recorded : Cond) ∈ m_ws := m_w4 (i := 110) rfl rfl
theorem w_625 : (.code yX8_recorded cX8_recorded 4 (some .int) : Cond) ∈ m_ws := m_w4 (i := 111) rfl rfl
theorem w_626 : (.classLink RX8 220 "java/util/NoSuchElementException" : Cond) ∈ m_ws := m_w4 (i := 113) rfl rfl
theorem w_627 : (.instantiable "java/util/NoSuchElementException" 6 : Cond) ∈ m_ws := m_w4 (i := 114) rfl rfl
theorem w_628 : (.selects "java/util/NoSuchElementException" ⟨"java/lang/Throwable", "fillInStackTrace", "(I)Ljava/lang/Throwable;"⟩ ⟨"java/lang/Throwable", "fillInStackTrace", "(I)Ljava/lang/Throwable;"⟩ : Cond) ∈ m_ws := m_w4 (i := 116) rfl rfl
theorem w_629 : (.lays "java/util/NoSuchElementException" "java/lang/Throwable" "cause" "Ljava/lang/Throwable;" : Cond) ∈ m_ws := m_w4 (i := 117) rfl rfl
theorem w_630 : (.lays "java/util/NoSuchElementException" "java/lang/Throwable" "stackTrace" "[Ljava/lang/StackTraceElement;" : Cond) ∈ m_ws := m_w4 (i := 118) rfl rfl
theorem w_631 : (.lays "java/util/NoSuchElementException" "java/lang/Throwable" "suppressedExceptions" "Ljava/util/List;" : Cond) ∈ m_ws := m_w4 (i := 119) rfl rfl
theorem w_632 : (.lays "java/util/NoSuchElementException" "java/lang/Throwable" "detailMessage" "Ljava/lang/String;" : Cond) ∈ m_ws := m_w4 (i := 120) rfl rfl
theorem w_633 : (.lays "java/util/NoSuchElementException" "java/lang/Throwable" "backtrace" "Ljava/lang/Object;" : Cond) ∈ m_ws := m_w4 (i := 121) rfl rfl
theorem w_634 : (.methodLink RX8 224 ⟨"java/util/NoSuchElementException", "<init>", "(Ljava/lang/String;)V"⟩ : Cond) ∈ m_ws := m_w4 (i := 123) rfl rfl
theorem w_635 : (.instanceMethod ⟨"java/util/NoSuchElementException", "<init>", "(Ljava/lang/String;)V"⟩ : Cond) ∈ m_ws := m_w4 (i := 124) rfl rfl
theorem w_636 : (.code ⟨"java/util/NoSuchElementException", "<init>", "(Ljava/lang/String;)V"⟩ prog_27_method_4_code 2 none : Cond) ∈ m_ws := m_w4 (i := 125) rfl rfl
theorem w_637 : (.methodLink "java/util/NoSuchElementException" 13 ⟨"java/lang/RuntimeException", "<init>", "(Ljava/lang/String;)V"⟩ : Cond) ∈ m_ws := m_w4 (i := 126) rfl rfl
theorem w_638 : (.lays "java/util/NoSuchElementException" "java/lang/Throwable" "depth" "I" : Cond) ∈ m_ws := m_w4 (i := 127) rfl rfl
theorem w_639 : (.methodLink RX8 225 yX2_recordOf : Cond) ∈ m_ws := m_w4 (i := 129) rfl rfl
theorem w_640 : (.instanceMethod yX2_recordOf : Cond) ∈ m_ws := m_w4 (i := 130) rfl rfl
theorem w_641 : (.selects RX2 yX2_recordOf yX2_recordOf : Cond) ∈ m_ws := m_w4 (i := 131) rfl rfl
theorem w_642 : (.code yX2_recordOf cX2_recordOf 2 (some .int) : Cond) ∈ m_ws := m_w4 (i := 132) rfl rfl
theorem w_643 : (.methodLink RL 177 yL_swing : Cond) ∈ m_ws := m_w4 (i := 133) rfl rfl
theorem w_644 : (.static yL_swing : Cond) ∈ m_ws := m_w4 (i := 134) rfl rfl
theorem w_645 : (.codeWith yL_swing cL_swing 4 (some .int) [(0, 9, 12, 19), (0, 9, 15, 53)] : Cond) ∈ m_ws := m_w4 (i := 135) rfl rfl
theorem w_646 : (.methodLink RL 55 yX8_swing : Cond) ∈ m_ws := m_w4 (i := 136) rfl rfl
theorem w_647 : (.instanceMethod yX8_swing : Cond) ∈ m_ws := m_w4 (i := 137) rfl rfl
theorem w_648 : (.selects RX8 yX8_swing yX8_swing : Cond) ∈ m_ws := m_w4 (i := 138) rfl rfl
theorem w_649 : (.code yX8_swing cX8_swing 3 (some .int) : Cond) ∈ m_ws := m_w4 (i := 139) rfl rfl
theorem w_650 : (.methodLink RX8 228 yX8_requireAnHour : Cond) ∈ m_ws := m_w4 (i := 140) rfl rfl
theorem w_651 : (.instanceMethod yX8_requireAnHour : Cond) ∈ m_ws := m_w4 (i := 142) rfl rfl
theorem w_652 : (.code yX8_requireAnHour cX8_requireAnHour 1 none : Cond) ∈ m_ws := m_w4 (i := 143) rfl rfl
theorem w_653 : (.methodLink RX8 231 yX2_swingAt : Cond) ∈ m_ws := m_w4 (i := 145) rfl rfl
theorem w_654 : (.instanceMethod yX2_swingAt : Cond) ∈ m_ws := m_w4 (i := 146) rfl rfl
theorem w_655 : (.selects RX2 yX2_swingAt yX2_swingAt : Cond) ∈ m_ws := m_w4 (i := 147) rfl rfl
theorem w_656 : (.code yX2_swingAt cX2_swingAt 5 (some .int) : Cond) ∈ m_ws := m_w4 (i := 148) rfl rfl
theorem w_657 : (.methodLink RL 180 yL_mean : Cond) ∈ m_ws := m_w4 (i := 149) rfl rfl
theorem w_658 : (.static yL_mean : Cond) ∈ m_ws := m_w4 (i := 150) rfl rfl
theorem w_659 : (.codeWith yL_mean cL_mean 4 (some .int) [(0, 8, 11, 19), (0, 8, 14, 53)] : Cond) ∈ m_ws := m_w4 (i := 151) rfl rfl
theorem w_660 : (.methodLink RL 58 yX8_mean : Cond) ∈ m_ws := m_w4 (i := 152) rfl rfl
theorem w_661 : (.instanceMethod yX8_mean : Cond) ∈ m_ws := m_w4 (i := 153) rfl rfl
theorem w_662 : (.selects RX8 yX8_mean yX8_mean : Cond) ∈ m_ws := m_w4 (i := 154) rfl rfl
theorem w_663 : (.code yX8_mean cX8_mean 3 (some .double) : Cond) ∈ m_ws := m_w4 (i := 155) rfl rfl
theorem w_664 : (.methodLink RL 184 yL_buffering : Cond) ∈ m_ws := m_w4 (i := 156) rfl rfl
theorem w_665 : (.static yL_buffering : Cond) ∈ m_ws := m_w4 (i := 157) rfl rfl
theorem w_666 : (.codeWith yL_buffering cL_buffering 4 (some .int) [(0, 8, 11, 19), (0, 8, 14, 53)] : Cond) ∈ m_ws := m_w4 (i := 158) rfl rfl
theorem w_667 : (.methodLink RL 62 yX8_buffering : Cond) ∈ m_ws := m_w4 (i := 159) rfl rfl
theorem w_668 : (.instanceMethod yX8_buffering : Cond) ∈ m_ws := m_w4 (i := 160) rfl rfl
theorem w_669 : (.selects RX8 yX8_buffering yX8_buffering : Cond) ∈ m_ws := m_w4 (i := 161) rfl rfl
theorem w_670 : (.code yX8_buffering cX8_buffering 4 (some .double) : Cond) ∈ m_ws := m_w4 (i := 162) rfl rfl
theorem w_671 : (.methodLink RL 187 yL_setLeak : Cond) ∈ m_ws := m_w4 (i := 164) rfl rfl
theorem w_672 : (.static yL_setLeak : Cond) ∈ m_ws := m_w4 (i := 165) rfl rfl
theorem w_673 : (.codeWith yL_setLeak cL_setLeak 5 (some .int) [(0, 10, 13, 19), (0, 10, 17, 25)] : Cond) ∈ m_ws := m_w4 (i := 166) rfl rfl
theorem w_674 : (.methodLink RL 65 yX8_setLeak : Cond) ∈ m_ws := m_w4 (i := 167) rfl rfl
theorem w_675 : (.instanceMethod yX8_setLeak : Cond) ∈ m_ws := m_w4 (i := 168) rfl rfl
theorem w_676 : (.selects RX8 yX8_setLeak yX8_setLeak : Cond) ∈ m_ws := m_w4 (i := 169) rfl rfl
theorem w_677 : (.code yX8_setLeak cX8_setLeak 5 (some .int) : Cond) ∈ m_ws := m_w4 (i := 170) rfl rfl
theorem w_678 : (.methodLink RL 190 yL_setSafe : Cond) ∈ m_ws := m_w4 (i := 172) rfl rfl
theorem w_679 : (.static yL_setSafe : Cond) ∈ m_ws := m_w4 (i := 173) rfl rfl
theorem w_680 : (.codeWith yL_setSafe cL_setSafe 5 (some .int) [(0, 7, 10, 19), (0, 7, 14, 25)] : Cond) ∈ m_ws := m_w4 (i := 174) rfl rfl
theorem w_681 : (.methodLink RL 68 yX8_setSafe : Cond) ∈ m_ws := m_w4 (i := 175) rfl rfl
theorem w_682 : (.instanceMethod yX8_setSafe : Cond) ∈ m_ws := m_w4 (i := 176) rfl rfl
theorem w_683 : (.selects RX8 yX8_setSafe yX8_setSafe : Cond) ∈ m_ws := m_w4 (i := 177) rfl rfl
theorem w_684 : (.code yX8_setSafe cX8_setSafe 5 none : Cond) ∈ m_ws := m_w4 (i := 178) rfl rfl
theorem w_685 : (.methodLink RX8 241 yX8_requireHumidity : Cond) ∈ m_ws := m_w4 (i := 179) rfl rfl
theorem w_686 : (.instanceMethod yX8_requireHumidity : Cond) ∈ m_ws := m_w4 (i := 181) rfl rfl
theorem w_687 : (.code yX8_requireHumidity cX8_requireHumidity 2 none : Cond) ∈ m_ws := m_w4 (i := 182) rfl rfl
theorem w_688 : (.methodLink RL 194 yL_open : Cond) ∈ m_ws := m_w4 (i := 185) rfl rfl
theorem w_689 : (.static yL_open : Cond) ∈ m_ws := m_w4 (i := 186) rfl rfl
theorem w_690 : (.codeWith yL_open cL_open 4 (some .int) [(0, 9, 12, 19)] : Cond) ∈ m_ws := m_w4 (i := 187) rfl rfl
theorem w_691 : (.methodLink RL 72 yX8_open : Cond) ∈ m_ws := m_w4 (i := 188) rfl rfl
theorem w_692 : (.instanceMethod yX8_open : Cond) ∈ m_ws := m_w4 (i := 189) rfl rfl
theorem w_693 : (.selects RX8 yX8_open yX8_open : Cond) ∈ m_ws := m_w4 (i := 190) rfl rfl
theorem w_694 : (.code yX8_open cX8_open 5 (some .int) : Cond) ∈ m_ws := m_w4 (i := 191) rfl rfl
theorem w_695 : (.methodLink RX8 246 yX7_fillAir : Cond) ∈ m_ws := m_w4 (i := 192) rfl rfl
theorem w_696 : (.methodLink RL 197 yL_cassette : Cond) ∈ m_ws := m_w4 (i := 193) rfl rfl
theorem w_697 : (.static yL_cassette : Cond) ∈ m_ws := m_w4 (i := 194) rfl rfl
theorem w_698 : (.codeWith yL_cassette cL_cassette 6 (some .int) [(0, 12, 15, 19), (0, 12, 19, 25)] : Cond) ∈ m_ws := m_w4 (i := 195) rfl rfl
theorem w_699 : (.methodLink RL 75 yX8_cassette : Cond) ∈ m_ws := m_w4 (i := 196) rfl rfl
theorem w_700 : (.instanceMethod yX8_cassette : Cond) ∈ m_ws := m_w4 (i := 197) rfl rfl
theorem w_701 : (.selects RX8 yX8_cassette yX8_cassette : Cond) ∈ m_ws := m_w4 (i := 198) rfl rfl
theorem w_702 : (.code yX8_cassette cX8_cassette 6 (some .int) : Cond) ∈ m_ws := m_w4 (i := 199) rfl rfl
theorem w_703 : (.methodLink RX8 260 yX0_kindNumber : Cond) ∈ m_ws := m_w4 (i := 201) rfl rfl
theorem w_704 : (.instanceMethod yX0_kindNumber : Cond) ∈ m_ws := m_w4 (i := 202) rfl rfl
theorem w_705 : (.selects RX0 yX0_kindNumber yX0_kindNumber : Cond) ∈ m_ws := m_w4 (i := 203) rfl rfl
theorem w_706 : (.code yX0_kindNumber cX0_kindNumber 1 (some .int) : Cond) ∈ m_ws := m_w4 (i := 204) rfl rfl
theorem w_707 : (.methodLink RX8 268 yX0_ownHumidity : Cond) ∈ m_ws := m_w4 (i := 205) rfl rfl
theorem w_708 : (.instanceMethod yX0_ownHumidity : Cond) ∈ m_ws := m_w4 (i := 206) rfl rfl
theorem w_709 : (.selects RX0 yX0_ownHumidity yX0_ownHumidity : Cond) ∈ m_ws := m_w4 (i := 207) rfl rfl
theorem w_710 : (.code yX0_ownHumidity cX0_ownHumidity 4 (some .int) : Cond) ∈ m_ws := m_w4 (i := 208) rfl rfl
theorem w_711 : (.methodLink RX0 25 yX0_moistureAt : Cond) ∈ m_ws := m_w4 (i := 209) rfl rfl
theorem w_712 : (.instanceMethod yX0_moistureAt : Cond) ∈ m_ws := m_w4 (i := 210) rfl rfl
theorem w_713 : (.selects RX0 yX0_moistureAt yX0_moistureAt : Cond) ∈ m_ws := m_w4 (i := 211) rfl rfl
theorem w_714 : (.code yX0_moistureAt cX0_moistureAt 2 (some .int) : Cond) ∈ m_ws := m_w4 (i := 212) rfl rfl
theorem w_715 : (.methodLink RX0 34 yX1_moistureAt : Cond) ∈ m_ws := m_w4 (i := 213) rfl rfl
theorem w_716 : (.methodLink RL 201 yL_caseOf : Cond) ∈ m_ws := m_w4 (i := 214) rfl rfl
theorem w_717 : (.static yL_caseOf : Cond) ∈ m_ws := m_w4 (i := 215) rfl rfl
theorem w_718 : (.codeWith yL_caseOf cL_caseOf 4 (some .int) [(0, 9, 12, 53)] : Cond) ∈ m_ws := m_w4 (i := 216) rfl rfl
theorem w_719 : (.methodLink RL 79 yX8_caseOf : Cond) ∈ m_ws := m_w4 (i := 217) rfl rfl
theorem w_720 : (.instanceMethod yX8_caseOf : Cond) ∈ m_ws := m_w4 (i := 218) rfl rfl
theorem w_721 : (.selects RX8 yX8_caseOf yX8_caseOf : Cond) ∈ m_ws := m_w4 (i := 219) rfl rfl
theorem w_722 : (.code yX8_caseOf cX8_caseOf 3 (some .int) : Cond) ∈ m_ws := m_w4 (i := 220) rfl rfl
theorem w_723 : (.methodLink RX8 271 yX6_holderOf : Cond) ∈ m_ws := m_w4 (i := 221) rfl rfl
theorem w_724 : (.instanceMethod yX6_holderOf : Cond) ∈ m_ws := m_w4 (i := 222) rfl rfl
theorem w_725 : (.selects RX6 yX6_holderOf yX6_holderOf : Cond) ∈ m_ws := m_w4 (i := 223) rfl rfl
theorem w_726 : (.code yX6_holderOf cX6_holderOf 3 (some .int) : Cond) ∈ m_ws := m_w4 (i := 224) rfl rfl
theorem w_727 : (.methodLink RX6 69 yX7_indexOf : Cond) ∈ m_ws := m_w4 (i := 225) rfl rfl
theorem w_728 : (.instanceMethod yX7_indexOf : Cond) ∈ m_ws := m_w4 (i := 226) rfl rfl
theorem w_729 : (.selects RX7 yX7_indexOf yX7_indexOf : Cond) ∈ m_ws := m_w4 (i := 227) rfl rfl
theorem w_730 : (.code yX7_indexOf cX7_indexOf 3 (some .int) : Cond) ∈ m_ws := m_w4 (i := 228) rfl rfl
theorem w_731 : (.methodLink RL 204 yL_add : Cond) ∈ m_ws := m_w4 (i := 230) rfl rfl
theorem w_732 : (.static yL_add : Cond) ∈ m_ws := m_w4 (i := 231) rfl rfl
theorem w_733 : (.codeWith yL_add cL_add 7 (some .int) [(0, 14, 17, 19), (0, 14, 21, 25), (0, 14, 25, 13)] : Cond) ∈ m_ws := m_w4 (i := 232) rfl rfl
theorem w_734 : (.methodLink RL 82 yX8_add : Cond) ∈ m_ws := m_w4 (i := 233) rfl rfl
theorem w_735 : (.instanceMethod yX8_add : Cond) ∈ m_ws := m_w4 (i := 234) rfl rfl
theorem w_736 : (.selects RX8 yX8_add yX8_add : Cond) ∈ m_ws := m_w4 (i := 235) rfl rfl
theorem w_737 : (.code yX8_add cX8_add 8 (some .int) : Cond) ∈ m_ws := m_w4 (i := 236) rfl rfl
theorem w_738 : (.methodLink RX8 278 yX7_isFull : Cond) ∈ m_ws := m_w4 (i := 238) rfl rfl
theorem w_739 : (.methodLink RX8 284 yX1_moistureAt : Cond) ∈ m_ws := m_w5 (i := 0) rfl rfl
theorem w_740 : (.methodLink RX8 288 yX7_put : Cond) ∈ m_ws := m_w5 (i := 1) rfl rfl
theorem w_741 : (.methodLink RX8 292 yX6_takeSerial : Cond) ∈ m_ws := m_w5 (i := 2) rfl rfl
theorem w_742 : (.instanceMethod yX6_takeSerial : Cond) ∈ m_ws := m_w5 (i := 3) rfl rfl
theorem w_743 : (.selects RX6 yX6_takeSerial yX6_takeSerial : Cond) ∈ m_ws := m_w5 (i := 4) rfl rfl
theorem w_744 : (.code yX6_takeSerial cX6_takeSerial 1 (some .int) : Cond) ∈ m_ws := m_w5 (i := 5) rfl rfl
theorem w_745 : (.methodLink RL 208 yL_remove : Cond) ∈ m_ws := m_w5 (i := 6) rfl rfl
theorem w_746 : (.static yL_remove : Cond) ∈ m_ws := m_w5 (i := 7) rfl rfl
theorem w_747 : (.codeWith yL_remove cL_remove 4 (some .int) [(0, 9, 12, 53)] : Cond) ∈ m_ws := m_w5 (i := 8) rfl rfl
theorem w_748 : (.methodLink RL 86 yX8_remove : Cond) ∈ m_ws := m_w5 (i := 9) rfl rfl
theorem w_749 : (.instanceMethod yX8_remove : Cond) ∈ m_ws := m_w5 (i := 10) rfl rfl
theorem w_750 : (.selects RX8 yX8_remove yX8_remove : Cond) ∈ m_ws := m_w5 (i := 11) rfl rfl
theorem w_751 : (.code yX8_remove cX8_remove 6 (some .int) : Cond) ∈ m_ws := m_w5 (i := 12) rfl rfl
theorem w_752 : (.methodLink RX8 295 yX8_caseOf : Cond) ∈ m_ws := m_w5 (i := 13) rfl rfl
theorem w_753 : (.methodLink RX8 298 yX7_indexOf : Cond) ∈ m_ws := m_w5 (i := 14) rfl rfl
theorem w_754 : (.methodLink RX8 301 yX7_moistureOf : Cond) ∈ m_ws := m_w5 (i := 15) rfl rfl
theorem w_755 : (.instanceMethod yX7_moistureOf : Cond) ∈ m_ws := m_w5 (i := 16) rfl rfl
theorem w_756 : (.selects RX7 yX7_moistureOf yX7_moistureOf : Cond) ∈ m_ws := m_w5 (i := 17) rfl rfl
theorem w_757 : (.code yX7_moistureOf cX7_moistureOf 2 (some .int) : Cond) ∈ m_ws := m_w5 (i := 18) rfl rfl
theorem w_758 : (.methodLink RX8 304 yX7_takeOut : Cond) ∈ m_ws := m_w5 (i := 19) rfl rfl
theorem w_759 : (.instanceMethod yX7_takeOut : Cond) ∈ m_ws := m_w5 (i := 20) rfl rfl
theorem w_760 : (.selects RX7 yX7_takeOut yX7_takeOut : Cond) ∈ m_ws := m_w5 (i := 21) rfl rfl
theorem w_761 : (.code yX7_takeOut cX7_takeOut 3 none : Cond) ∈ m_ws := m_w5 (i := 22) rfl rfl
theorem w_762 : (.methodLink RL 211 yL_move : Cond) ∈ m_ws := m_w5 (i := 23) rfl rfl
theorem w_763 : (.static yL_move : Cond) ∈ m_ws := m_w5 (i := 24) rfl rfl
theorem w_764 : (.codeWith yL_move cL_move 5 (some .int) [(0, 10, 13, 53), (0, 10, 17, 19), (0, 10, 21, 13)] : Cond) ∈ m_ws := m_w5 (i := 25) rfl rfl
theorem w_765 : (.methodLink RL 89 yX8_move : Cond) ∈ m_ws := m_w5 (i := 26) rfl rfl
theorem w_766 : (.instanceMethod yX8_move : Cond) ∈ m_ws := m_w5 (i := 27) rfl rfl
theorem w_767 : (.selects RX8 yX8_move yX8_move : Cond) ∈ m_ws := m_w5 (i := 28) rfl rfl
theorem w_768 : (.code yX8_move cX8_move 8 (some .int) : Cond) ∈ m_ws := m_w5 (i := 29) rfl rfl
theorem w_769 : (.methodLink RX8 309 yX7_putCopyOf : Cond) ∈ m_ws := m_w5 (i := 31) rfl rfl
theorem w_770 : (.instanceMethod yX7_putCopyOf : Cond) ∈ m_ws := m_w5 (i := 32) rfl rfl
theorem w_771 : (.selects RX7 yX7_putCopyOf yX7_putCopyOf : Cond) ∈ m_ws := m_w5 (i := 33) rfl rfl
theorem w_772 : (.code yX7_putCopyOf cX7_putCopyOf 3 none : Cond) ∈ m_ws := m_w5 (i := 34) rfl rfl
theorem w_773 : (.methodLink RL 214 yL_exchange : Cond) ∈ m_ws := m_w5 (i := 35) rfl rfl
theorem w_774 : (.static yL_exchange : Cond) ∈ m_ws := m_w5 (i := 36) rfl rfl
theorem w_775 : (.codeWith yL_exchange cL_exchange 5 (some .int) [(0, 10, 13, 53), (0, 10, 17, 25)] : Cond) ∈ m_ws := m_w5 (i := 37) rfl rfl
theorem w_776 : (.methodLink RL 92 yX8_exchange : Cond) ∈ m_ws := m_w5 (i := 38) rfl rfl
theorem w_777 : (.instanceMethod yX8_exchange : Cond) ∈ m_ws := m_w5 (i := 39) rfl rfl
theorem w_778 : (.selects RX8 yX8_exchange yX8_exchange : Cond) ∈ m_ws := m_w5 (i := 40) rfl rfl
theorem w_779 : (.code yX8_exchange cX8_exchange 7 (some .int) : Cond) ∈ m_ws := m_w5 (i := 41) rfl rfl
theorem w_780 : (.methodLink RX8 313 yX7_recondition : Cond) ∈ m_ws := m_w5 (i := 42) rfl rfl
theorem w_781 : (.instanceMethod yX7_recondition : Cond) ∈ m_ws := m_w5 (i := 43) rfl rfl
theorem w_782 : (.selects RX7 yX7_recondition yX7_recondition : Cond) ∈ m_ws := m_w5 (i := 44) rfl rfl
theorem w_783 : (.code yX7_recondition cX7_recondition 4 none : Cond) ∈ m_ws := m_w5 (i := 45) rfl rfl
theorem w_784 : (.methodLink RX7 72 yX0_renew : Cond) ∈ m_ws := m_w5 (i := 46) rfl rfl
theorem w_785 : (.instanceMethod yX0_renew : Cond) ∈ m_ws := m_w5 (i := 47) rfl rfl
theorem w_786 : (.selects RX0 yX0_renew yX0_renew : Cond) ∈ m_ws := m_w5 (i := 48) rfl rfl
theorem w_787 : (.code yX0_renew cX0_renew 3 none : Cond) ∈ m_ws := m_w5 (i := 49) rfl rfl
theorem w_788 : (.methodLink RL 217 yL_advance : Cond) ∈ m_ws := m_w5 (i := 50) rfl rfl
theorem w_789 : (.static yL_advance : Cond) ∈ m_ws := m_w5 (i := 51) rfl rfl
theorem w_790 : (.codeWith yL_advance cL_advance 4 (some .int) [(0, 9, 12, 25), (0, 9, 15, 13)] : Cond) ∈ m_ws := m_w5 (i := 52) rfl rfl
theorem w_791 : (.methodLink RL 95 yX8_advance : Cond) ∈ m_ws := m_w5 (i := 53) rfl rfl
theorem w_792 : (.instanceMethod yX8_advance : Cond) ∈ m_ws := m_w5 (i := 54) rfl rfl
theorem w_793 : (.selects RX8 yX8_advance yX8_advance : Cond) ∈ m_ws := m_w5 (i := 55) rfl rfl
theorem w_794 : (.code yX8_advance cX8_advance 4 (some .int) : Cond) ∈ m_ws := m_w5 (i := 56) rfl rfl
theorem w_795 : (.methodLink RX8 317 yX8_requireHours : Cond) ∈ m_ws := m_w5 (i := 57) rfl rfl
theorem w_796 : (.instanceMethod yX8_requireHours : Cond) ∈ m_ws := m_w5 (i := 59) rfl rfl
theorem w_797 : (.code yX8_requireHours cX8_requireHours 4 none : Cond) ∈ m_ws := m_w5 (i := 60) rfl rfl
theorem w_798 : (.constant RX8 320 (99999) : Cond) ∈ m_ws := m_w5 (i := 62) rfl rfl
theorem w_799 : (.methodLink RX8 323 yX6_passHour : Cond) ∈ m_ws := m_w5 (i := 64) rfl rfl
theorem w_800 : (.instanceMethod yX6_passHour : Cond) ∈ m_ws := m_w5 (i := 65) rfl rfl
theorem w_801 : (.selects RX6 yX6_passHour yX6_passHour : Cond) ∈ m_ws := m_w5 (i := 66) rfl rfl
theorem w_802 : (.code yX6_passHour cX6_passHour 8 (some .int) : Cond) ∈ m_ws := m_w5 (i := 67) rfl rfl
theorem w_803 : (.methodLink RX6 76 yX4_passHour : Cond) ∈ m_ws := m_w5 (i := 68) rfl rfl
theorem w_804 : (.instanceMethod yX4_passHour : Cond) ∈ m_ws := m_w5 (i := 69) rfl rfl
theorem w_805 : (.selects RX4 yX4_passHour yX4_passHour : Cond) ∈ m_ws := m_w5 (i := 70) rfl rfl
theorem w_806 : (.code yX4_passHour cX4_passHour 4 (some .int) : Cond) ∈ m_ws := m_w5 (i := 71) rfl rfl
theorem w_807 : (.methodLink RX4 31 yX4_hourOfDay : Cond) ∈ m_ws := m_w5 (i := 72) rfl rfl
theorem w_808 : (.methodLink RX4 34 yX5_visitorsAt : Cond) ∈ m_ws := m_w5 (i := 73) rfl rfl
theorem w_809 : (.constantLong RX4 40 (1000) : Cond) ∈ m_ws := m_w5 (i := 74) rfl rfl
theorem w_810 : (.methodLink RX4 45 yX4_humidity : Cond) ∈ m_ws := m_w5 (i := 75) rfl rfl
theorem w_811 : (.methodLink RX6 84 yX7_passHour : Cond) ∈ m_ws := m_w5 (i := 76) rfl rfl
theorem w_812 : (.instanceMethod yX7_passHour : Cond) ∈ m_ws := m_w5 (i := 77) rfl rfl
theorem w_813 : (.selects RX7 yX7_passHour yX7_passHour : Cond) ∈ m_ws := m_w5 (i := 78) rfl rfl
theorem w_814 : (.code yX7_passHour cX7_passHour 9 (some .int) : Cond) ∈ m_ws := m_w5 (i := 79) rfl rfl
theorem w_815 : (.constantLong RX7 76 (1000000) : Cond) ∈ m_ws := m_w5 (i := 80) rfl rfl
theorem w_816 : (.methodLink RX7 49 yX7_humidity : Cond) ∈ m_ws := m_w5 (i := 81) rfl rfl
theorem w_817 : (.methodLink RX7 78 yX0_wishAt : Cond) ∈ m_ws := m_w5 (i := 82) rfl rfl
theorem w_818 : (.instanceMethod yX0_wishAt : Cond) ∈ m_ws := m_w5 (i := 83) rfl rfl
theorem w_819 : (.selects RX0 yX0_wishAt yX0_wishAt : Cond) ∈ m_ws := m_w5 (i := 84) rfl rfl
theorem w_820 : (.code yX0_wishAt cX0_wishAt 2 (some .int) : Cond) ∈ m_ws := m_w5 (i := 85) rfl rfl
theorem w_821 : (.methodLink RX6 86 yX7_isUnsafe : Cond) ∈ m_ws := m_w5 (i := 86) rfl rfl
theorem w_822 : (.instanceMethod yX7_isUnsafe : Cond) ∈ m_ws := m_w5 (i := 87) rfl rfl
theorem w_823 : (.selects RX7 yX7_isUnsafe yX7_isUnsafe : Cond) ∈ m_ws := m_w5 (i := 88) rfl rfl
theorem w_824 : (.code yX7_isUnsafe cX7_isUnsafe 2 (some .boolean) : Cond) ∈ m_ws := m_w5 (i := 89) rfl rfl
theorem w_825 : (.methodLink RX6 90 yX7_humidity : Cond) ∈ m_ws := m_w5 (i := 90) rfl rfl
theorem w_826 : (.methodLink RX6 93 yX2_note : Cond) ∈ m_ws := m_w5 (i := 91) rfl rfl
theorem w_827 : (.instanceMethod yX2_note : Cond) ∈ m_ws := m_w5 (i := 92) rfl rfl
theorem w_828 : (.selects RX2 yX2_note yX2_note : Cond) ∈ m_ws := m_w5 (i := 93) rfl rfl
theorem w_829 : (.code yX2_note cX2_note 4 none : Cond) ∈ m_ws := m_w5 (i := 94) rfl rfl
theorem w_830 : (.methodLink RL 220 yL_roomIn : Cond) ∈ m_ws := m_w5 (i := 95) rfl rfl
theorem w_831 : (.static yL_roomIn : Cond) ∈ m_ws := m_w5 (i := 96) rfl rfl
theorem w_832 : (.codeWith yL_roomIn cL_roomIn 4 (some .int) [(0, 9, 12, 25)] : Cond) ∈ m_ws := m_w5 (i := 97) rfl rfl
theorem w_833 : (.methodLink RL 98 yX8_roomIn : Cond) ∈ m_ws := m_w5 (i := 98) rfl rfl
theorem w_834 : (.instanceMethod yX8_roomIn : Cond) ∈ m_ws := m_w5 (i := 99) rfl rfl
theorem w_835 : (.selects RX8 yX8_roomIn yX8_roomIn : Cond) ∈ m_ws := m_w5 (i := 100) rfl rfl
theorem w_836 : (.code yX8_roomIn cX8_roomIn 4 (some .int) : Cond) ∈ m_ws := m_w5 (i := 101) rfl rfl
theorem w_837 : (.methodLink RX8 326 yX4_copyFrom : Cond) ∈ m_ws := m_w5 (i := 102) rfl rfl
theorem w_838 : (.instanceMethod yX4_copyFrom : Cond) ∈ m_ws := m_w5 (i := 103) rfl rfl
theorem w_839 : (.selects RX4 yX4_copyFrom yX4_copyFrom : Cond) ∈ m_ws := m_w5 (i := 104) rfl rfl
theorem w_840 : (.code yX4_copyFrom cX4_copyFrom 2 none : Cond) ∈ m_ws := m_w5 (i := 105) rfl rfl
theorem w_841 : (.methodLink RX8 330 yX4_passHour : Cond) ∈ m_ws := m_w5 (i := 106) rfl rfl
theorem w_842 : (.methodLink RL 223 yL_humidityIn : Cond) ∈ m_ws := m_w5 (i := 107) rfl rfl
theorem w_843 : (.static yL_humidityIn : Cond) ∈ m_ws := m_w5 (i := 108) rfl rfl
theorem w_844 : (.codeWith yL_humidityIn cL_humidityIn 5 (some .int) [(0, 10, 13, 19), (0, 10, 17, 25)] : Cond) ∈ m_ws := m_w5 (i := 109) rfl rfl
theorem w_845 : (.methodLink RL 101 yX8_humidityIn : Cond) ∈ m_ws := m_w5 (i := 110) rfl rfl
theorem w_846 : (.instanceMethod yX8_humidityIn : Cond) ∈ m_ws := m_w5 (i := 111) rfl rfl
theorem w_847 : (.selects RX8 yX8_humidityIn yX8_humidityIn : Cond) ∈ m_ws := m_w5 (i := 112) rfl rfl
theorem w_848 : (.code yX8_humidityIn cX8_humidityIn 5 (some .int) : Cond) ∈ m_ws := m_w5 (i := 113) rfl rfl
theorem w_849 : (.methodLink RX8 331 yX7_copyFrom : Cond) ∈ m_ws := m_w5 (i := 114) rfl rfl
theorem w_850 : (.methodLink RX8 334 yX7_passHour : Cond) ∈ m_ws := m_w5 (i := 115) rfl rfl
theorem w_851 : (.methodLink RL 226 yL_unsafeIn : Cond) ∈ m_ws := m_w5 (i := 116) rfl rfl
theorem w_852 : (.static yL_unsafeIn : Cond) ∈ m_ws := m_w5 (i := 117) rfl rfl
theorem w_853 : (.codeWith yL_unsafeIn cL_unsafeIn 4 (some .int) [(0, 9, 12, 19)] : Cond) ∈ m_ws := m_w5 (i := 118) rfl rfl
theorem w_854 : (.methodLink RL 104 yX8_unsafeIn : Cond) ∈ m_ws := m_w5 (i := 119) rfl rfl
theorem w_855 : (.instanceMethod yX8_unsafeIn : Cond) ∈ m_ws := m_w5 (i := 120) rfl rfl
theorem w_856 : (.selects RX8 yX8_unsafeIn yX8_unsafeIn : Cond) ∈ m_ws := m_w5 (i := 121) rfl rfl
theorem w_857 : (.code yX8_unsafeIn cX8_unsafeIn 3 (some .int) : Cond) ∈ m_ws := m_w5 (i := 122) rfl rfl
theorem w_858 : (.methodLink RX8 336 yX7_isUnsafe : Cond) ∈ m_ws := m_w5 (i := 123) rfl rfl
theorem w_859 : (.methodLink RL 229 yL_restOf : Cond) ∈ m_ws := m_w5 (i := 124) rfl rfl
theorem w_860 : (.static yL_restOf : Cond) ∈ m_ws := m_w5 (i := 125) rfl rfl
theorem w_861 : (.codeWith yL_restOf cL_restOf 4 (some .int) [(0, 9, 12, 19), (0, 9, 15, 53)] : Cond) ∈ m_ws := m_w5 (i := 126) rfl rfl
theorem w_862 : (.methodLink RL 107 yX8_restOf : Cond) ∈ m_ws := m_w5 (i := 127) rfl rfl
theorem w_863 : (.instanceMethod yX8_restOf : Cond) ∈ m_ws := m_w5 (i := 128) rfl rfl
theorem w_864 : (.selects RX8 yX8_restOf yX8_restOf : Cond) ∈ m_ws := m_w5 (i := 129) rfl rfl
theorem w_865 : (.code yX8_restOf cX8_restOf 3 (some .int) : Cond) ∈ m_ws := m_w5 (i := 130) rfl rfl
theorem w_866 : (.methodLink RX8 339 yX7_restHumidity : Cond) ∈ m_ws := m_w5 (i := 131) rfl rfl
theorem w_867 : (.instanceMethod yX7_restHumidity : Cond) ∈ m_ws := m_w5 (i := 132) rfl rfl
theorem w_868 : (.selects RX7 yX7_restHumidity yX7_restHumidity : Cond) ∈ m_ws := m_w5 (i := 133) rfl rfl
theorem w_869 : (.code yX7_restHumidity cX7_restHumidity 5 (some .int) : Cond) ∈ m_ws := m_w5 (i := 134) rfl rfl
theorem w_870 : (.methodLink RX7 62 yX7_moisture : Cond) ∈ m_ws := m_w5 (i := 135) rfl rfl
theorem w_871 : (.methodLink RX7 64 yX7_moistureAt : Cond) ∈ m_ws := m_w5 (i := 136) rfl rfl
theorem w_872 : (.instanceMethod yX7_moistureAt : Cond) ∈ m_ws := m_w5 (i := 137) rfl rfl
theorem w_873 : (.selects RX7 yX7_moistureAt yX7_moistureAt : Cond) ∈ m_ws := m_w5 (i := 138) rfl rfl
theorem w_874 : (.code yX7_moistureAt cX7_moistureAt 4 (some .int) : Cond) ∈ m_ws := m_w5 (i := 139) rfl rfl
theorem w_875 : (.methodLink RX7 59 yX0_moistureAt : Cond) ∈ m_ws := m_w5 (i := 140) rfl rfl
theorem w_876 : (.methodLink RL 232 yL_massFor : Cond) ∈ m_ws := m_w5 (i := 142) rfl rfl
theorem w_877 : (.static yL_massFor : Cond) ∈ m_ws := m_w5 (i := 143) rfl rfl
theorem w_878 : (.codeWith yL_massFor cL_massFor 7 (some .int) [(0, 14, 17, 19), (0, 14, 21, 25), (0, 14, 25, 53)] : Cond) ∈ m_ws := m_w5 (i := 144) rfl rfl
theorem w_879 : (.methodLink RL 110 yX8_massFor : Cond) ∈ m_ws := m_w5 (i := 145) rfl rfl
theorem w_880 : (.instanceMethod yX8_massFor : Cond) ∈ m_ws := m_w5 (i := 146) rfl rfl
theorem w_881 : (.selects RX8 yX8_massFor yX8_massFor : Cond) ∈ m_ws := m_w5 (i := 147) rfl rfl
theorem w_882 : (.code yX8_massFor cX8_massFor 8 (some .int) : Cond) ∈ m_ws := m_w5 (i := 148) rfl rfl
theorem w_883 : (.methodLink RX8 344 yX8_foreseeRooms : Cond) ∈ m_ws := m_w5 (i := 149) rfl rfl
theorem w_884 : (.instanceMethod yX8_foreseeRooms : Cond) ∈ m_ws := m_w5 (i := 151) rfl rfl
theorem w_885 : (.code yX8_foreseeRooms cX8_foreseeRooms 3 none : Cond) ∈ m_ws := m_w5 (i := 152) rfl rfl
theorem w_886 : (.methodLink RX8 347 yX8_unsafeHoursOfTrial : Cond) ∈ m_ws := m_w5 (i := 153) rfl rfl
theorem w_887 : (.instanceMethod yX8_unsafeHoursOfTrial : Cond) ∈ m_ws := m_w5 (i := 155) rfl rfl
theorem w_888 : (.code yX8_unsafeHoursOfTrial cX8_unsafeHoursOfTrial 5 (some .int) : Cond) ∈ m_ws := m_w5 (i := 156) rfl rfl
theorem w_889 : (.methodLink RL 235 yL_bestFor : Cond) ∈ m_ws := m_w5 (i := 158) rfl rfl
theorem w_890 : (.static yL_bestFor : Cond) ∈ m_ws := m_w5 (i := 159) rfl rfl
theorem w_891 : (.codeWith yL_bestFor cL_bestFor 5 (some .int) [(0, 10, 13, 53), (0, 10, 17, 25)] : Cond) ∈ m_ws := m_w5 (i := 160) rfl rfl
theorem w_892 : (.methodLink RL 113 yX8_bestFor : Cond) ∈ m_ws := m_w5 (i := 161) rfl rfl
theorem w_893 : (.instanceMethod yX8_bestFor : Cond) ∈ m_ws := m_w5 (i := 162) rfl rfl
theorem w_894 : (.selects RX8 yX8_bestFor yX8_bestFor : Cond) ∈ m_ws := m_w5 (i := 163) rfl rfl
theorem w_895 : (.code yX8_bestFor cX8_bestFor 9 (some .int) : Cond) ∈ m_ws := m_w5 (i := 164) rfl rfl
theorem w_896 : (.methodLink RL 238 yL_save : Cond) ∈ m_ws := m_w5 (i := 165) rfl rfl
theorem w_897 : (.static yL_save : Cond) ∈ m_ws := m_w5 (i := 166) rfl rfl
theorem w_898 : (.codeWith yL_save cL_save 3 (some .int) [(0, 5, 8, 19)] : Cond) ∈ m_ws := m_w5 (i := 167) rfl rfl
theorem w_899 : (.methodLink RL 116 yX8_save : Cond) ∈ m_ws := m_w5 (i := 168) rfl rfl
theorem w_900 : (.instanceMethod yX8_save : Cond) ∈ m_ws := m_w5 (i := 169) rfl rfl
theorem w_901 : (.selects RX8 yX8_save yX8_save : Cond) ∈ m_ws := m_w5 (i := 170) rfl rfl
theorem w_902 : (.code yX8_save cX8_save 2 none : Cond) ∈ m_ws := m_w5 (i := 171) rfl rfl
theorem w_903 : (.methodLink RX8 352 yX8_requireSlot : Cond) ∈ m_ws := m_w5 (i := 172) rfl rfl
theorem w_904 : (.instanceMethod yX8_requireSlot : Cond) ∈ m_ws := m_w5 (i := 174) rfl rfl
theorem w_905 : (.code yX8_requireSlot cX8_requireSlot 2 none : Cond) ∈ m_ws := m_w5 (i := 175) rfl rfl
theorem w_906 : (.methodLink RX8 355 yX6_copyFrom : Cond) ∈ m_ws := m_w5 (i := 177) rfl rfl
theorem w_907 : (.instanceMethod yX6_copyFrom : Cond) ∈ m_ws := m_w5 (i := 178) rfl rfl
theorem w_908 : (.selects RX6 yX6_copyFrom yX6_copyFrom : Cond) ∈ m_ws := m_w5 (i := 179) rfl rfl
theorem w_909 : (.code yX6_copyFrom cX6_copyFrom 3 none : Cond) ∈ m_ws := m_w5 (i := 180) rfl rfl
theorem w_910 : (.methodLink RX6 60 yX4_copyFrom : Cond) ∈ m_ws := m_w5 (i := 181) rfl rfl
theorem w_911 : (.methodLink RX6 63 yX2_copyFrom : Cond) ∈ m_ws := m_w5 (i := 182) rfl rfl
theorem w_912 : (.instanceMethod yX2_copyFrom : Cond) ∈ m_ws := m_w5 (i := 183) rfl rfl
theorem w_913 : (.selects RX2 yX2_copyFrom yX2_copyFrom : Cond) ∈ m_ws := m_w5 (i := 184) rfl rfl
theorem w_914 : (.code yX2_copyFrom cX2_copyFrom 2 none : Cond) ∈ m_ws := m_w5 (i := 185) rfl rfl
theorem w_915 : (.methodLink RX2 41 arraycopyName : Cond) ∈ m_ws := m_w5 (i := 186) rfl rfl
theorem w_916 : (.static arraycopyName : Cond) ∈ m_ws := m_w5 (i := 187) rfl rfl
theorem w_917 : (.native arraycopyName : Cond) ∈ m_ws := m_w5 (i := 188) rfl rfl
theorem w_918 : (.methodLink RL 242 yL_restore : Cond) ∈ m_ws := m_w5 (i := 189) rfl rfl
theorem w_919 : (.static yL_restore : Cond) ∈ m_ws := m_w5 (i := 190) rfl rfl
theorem w_920 : (.codeWith yL_restore cL_restore 3 (some .int) [(0, 5, 8, 19), (0, 5, 11, 53)] : Cond) ∈ m_ws := m_w5 (i := 191) rfl rfl
theorem w_921 : (.methodLink RL 120 yX8_restore : Cond) ∈ m_ws := m_w5 (i := 192) rfl rfl
theorem w_922 : (.instanceMethod yX8_restore : Cond) ∈ m_ws := m_w5 (i := 193) rfl rfl
theorem w_923 : (.selects RX8 yX8_restore yX8_restore : Cond) ∈ m_ws := m_w5 (i := 194) rfl rfl
theorem w_924 : (.code yX8_restore cX8_restore 2 none : Cond) ∈ m_ws := m_w5 (i := 195) rfl rfl
theorem w_925 : (.classLink RL 124 "MuseumCasesModel" : Cond) ∈ m_ws := m_w5 (i := 197) rfl rfl
theorem w_926 : (.instantiable RX9 26 : Cond) ∈ m_ws := m_w5 (i := 198) rfl rfl
theorem w_927 : (.methodLink RL 126 yX9_init : Cond) ∈ m_ws := m_w5 (i := 199) rfl rfl
theorem w_928 : (.instanceMethod yX9_init : Cond) ∈ m_ws := m_w5 (i := 200) rfl rfl
theorem w_929 : (.code yX9_init cX9_init 1 none : Cond) ∈ m_ws := m_w5 (i := 201) rfl rfl
theorem w_930 : (.methodLink RX9 1 objectInit : Cond) ∈ m_ws := m_w5 (i := 202) rfl rfl
theorem w_931 : (.methodLink RX9 55 yX9_plain : Cond) ∈ m_ws := m_w5 (i := 203) rfl rfl
theorem w_932 : (.instanceMethod yX9_plain : Cond) ∈ m_ws := m_w5 (i := 205) rfl rfl
theorem w_933 : (.code yX9_plain cX9_plain 2 none : Cond) ∈ m_ws := m_w5 (i := 206) rfl rfl
theorem w_934 : (.methodLink RX9 58 yX9_takes : Cond) ∈ m_ws := m_w5 (i := 207) rfl rfl
theorem w_935 : (.instanceMethod yX9_takes : Cond) ∈ m_ws := m_w5 (i := 209) rfl rfl
theorem w_936 : (.code yX9_takes cX9_takes 3 none : Cond) ∈ m_ws := m_w5 (i := 210) rfl rfl
theorem w_937 : (.methodLink RX9 64 yX9_of : Cond) ∈ m_ws := m_w5 (i := 211) rfl rfl
theorem w_938 : (.instanceMethod yX9_of : Cond) ∈ m_ws := m_w5 (i := 213) rfl rfl
theorem w_939 : (.code yX9_of cX9_of 3 (some .int) : Cond) ∈ m_ws := m_w5 (i := 214) rfl rfl
theorem w_940 : (.methodLink RX9 68 yX9_its : Cond) ∈ m_ws := m_w5 (i := 215) rfl rfl
theorem w_941 : (.instanceMethod yX9_its : Cond) ∈ m_ws := m_w5 (i := 217) rfl rfl
theorem w_942 : (.code yX9_its cX9_its 4 (some .int) : Cond) ∈ m_ws := m_w5 (i := 218) rfl rfl
theorem w_943 : (.methodLink RX9 72 yX9_wouldHave : Cond) ∈ m_ws := m_w5 (i := 219) rfl rfl
theorem w_944 : (.instanceMethod yX9_wouldHave : Cond) ∈ m_ws := m_w5 (i := 221) rfl rfl
theorem w_945 : (.code yX9_wouldHave cX9_wouldHave 4 (some .int) : Cond) ∈ m_ws := m_w5 (i := 222) rfl rfl
theorem w_946 : (.methodLink RX9 228 yX9_contentOf : Cond) ∈ m_ws := m_w5 (i := 223) rfl rfl
theorem w_947 : (.instanceMethod yX9_contentOf : Cond) ∈ m_ws := m_w5 (i := 225) rfl rfl
theorem w_948 : (.code yX9_contentOf cX9_contentOf 6 (some .int) : Cond) ∈ m_ws := m_w5 (i := 226) rfl rfl
theorem w_949 : (.methodLink RX9 215 yX9_line : Cond) ∈ m_ws := m_w5 (i := 227) rfl rfl
theorem w_950 : (.static yX9_line : Cond) ∈ m_ws := m_w5 (i := 228) rfl rfl
theorem w_951 : (.code yX9_line cX9_line 4 (some .int) : Cond) ∈ m_ws := m_w5 (i := 229) rfl rfl
theorem w_952 : (.methodLink RX9 75 yX9_cassettes : Cond) ∈ m_ws := m_w5 (i := 230) rfl rfl
theorem w_953 : (.instanceMethod yX9_cassettes : Cond) ∈ m_ws := m_w5 (i := 232) rfl rfl
theorem w_954 : (.code yX9_cassettes cX9_cassettes 5 none : Cond) ∈ m_ws := m_w5 (i := 233) rfl rfl
theorem w_955 : (.methodLink RX9 79 yX9_lays : Cond) ∈ m_ws := m_w5 (i := 234) rfl rfl
theorem w_956 : (.instanceMethod yX9_lays : Cond) ∈ m_ws := m_w5 (i := 236) rfl rfl
theorem w_957 : (.code yX9_lays cX9_lays 4 none : Cond) ∈ m_ws := m_w5 (i := 237) rfl rfl
theorem w_958 : (.methodLink RX9 83 yX9_moistureOf : Cond) ∈ m_ws := m_w5 (i := 238) rfl rfl
theorem w_959 : (.instanceMethod yX9_moistureOf : Cond) ∈ m_ws := m_w6 (i := 0) rfl rfl
theorem w_960 : (.code yX9_moistureOf cX9_moistureOf 2 (some .long) : Cond) ∈ m_ws := m_w6 (i := 1) rfl rfl
theorem w_961 : (.methodLink RX9 236 yX9_inCassettes : Cond) ∈ m_ws := m_w6 (i := 2) rfl rfl
theorem w_962 : (.instanceMethod yX9_inCassettes : Cond) ∈ m_ws := m_w6 (i := 4) rfl rfl
theorem w_963 : (.code yX9_inCassettes cX9_inCassettes 4 (some .int) : Cond) ∈ m_ws := m_w6 (i := 5) rfl rfl
theorem w_964 : (.fieldLink RX9 61 "MuseumCasesModel" "thrown" "I" : Cond) ∈ m_ws := m_w6 (i := 6) rfl rfl
theorem w_965 : (.fieldLink RX9 7 "MuseumCasesModel" "p" "[I" : Cond) ∈ m_ws := m_w6 (i := 7) rfl rfl
theorem w_966 : (.fieldLink RX9 13 "MuseumCasesModel" "told" "[I" : Cond) ∈ m_ws := m_w6 (i := 8) rfl rfl
theorem w_967 : (.fieldLink RX9 16 "MuseumCasesModel" "a" "[I" : Cond) ∈ m_ws := m_w6 (i := 9) rfl rfl
theorem w_968 : (.fieldLink RX9 19 "MuseumCasesModel" "beside" "[I" : Cond) ∈ m_ws := m_w6 (i := 10) rfl rfl
theorem w_969 : (.fieldLink RX9 22 "MuseumCasesModel" "saved" "[I" : Cond) ∈ m_ws := m_w6 (i := 11) rfl rfl
theorem w_970 : (.fieldLink RX9 25 "MuseumCasesModel" "fresh" "[I" : Cond) ∈ m_ws := m_w6 (i := 12) rfl rfl
theorem w_971 : (.fieldLink RX9 28 "MuseumCasesModel" "b" "[J" : Cond) ∈ m_ws := m_w6 (i := 13) rfl rfl
theorem w_972 : (.fieldLink RX9 32 "MuseumCasesModel" "besideLong" "[J" : Cond) ∈ m_ws := m_w6 (i := 14) rfl rfl
theorem w_973 : (.fieldLink RX9 35 "MuseumCasesModel" "savedLong" "[J" : Cond) ∈ m_ws := m_w6 (i := 15) rfl rfl
theorem w_974 : (.fieldLink RX9 38 "MuseumCasesModel" "isSaved" "[Z" : Cond) ∈ m_ws := m_w6 (i := 16) rfl rfl
theorem w_975 : (.fieldLink RX9 42 "MuseumCasesModel" "text" "[I" : Cond) ∈ m_ws := m_w6 (i := 17) rfl rfl
theorem w_976 : (.fieldLink RX9 87 "MuseumCasesModel" "typed" "I" : Cond) ∈ m_ws := m_w6 (i := 18) rfl rfl
theorem w_977 : (.fieldLink RX9 98 "MuseumCasesModel" "ended" "I" : Cond) ∈ m_ws := m_w6 (i := 19) rfl rfl
theorem w_978 : (.fieldLink RX9 101 "MuseumCasesModel" "next" "I" : Cond) ∈ m_ws := m_w6 (i := 20) rfl rfl
theorem w_979 : (.fieldLink RX9 108 "MuseumCasesModel" "begin" "I" : Cond) ∈ m_ws := m_w6 (i := 21) rfl rfl
theorem w_980 : (.fieldLink RX9 111 "MuseumCasesModel" "sort" "I" : Cond) ∈ m_ws := m_w6 (i := 22) rfl rfl
theorem w_981 : (.fieldLink RX9 129 "MuseumCasesModel" "number" "I" : Cond) ∈ m_ws := m_w6 (i := 23) rfl rfl
theorem w_982 : (.fieldLink RX9 132 "MuseumCasesModel" "errorCode" "I" : Cond) ∈ m_ws := m_w6 (i := 24) rfl rfl
theorem w_983 : (.fieldLink RX9 45 "MuseumCasesModel" "errorAt" "I" : Cond) ∈ m_ws := m_w6 (i := 25) rfl rfl
theorem w_984 : (.fieldLink RX9 118 "MuseumCasesModel" "name" "J" : Cond) ∈ m_ws := m_w6 (i := 26) rfl rfl
theorem w_985 : (.fieldLink RX9 49 "MuseumCasesModel" "kindName" "[J" : Cond) ∈ m_ws := m_w6 (i := 27) rfl rfl
theorem w_986 : (.fieldLink RX9 52 "MuseumCasesModel" "caseName" "[J" : Cond) ∈ m_ws := m_w6 (i := 28) rfl rfl
theorem w_987 : (.fieldLink RX9 252 "MuseumCasesModel" "foundCase" "I" : Cond) ∈ m_ws := m_w6 (i := 29) rfl rfl
theorem w_988 : (.fieldLink RX9 255 "MuseumCasesModel" "foundIndex" "I" : Cond) ∈ m_ws := m_w6 (i := 30) rfl rfl
theorem w_989 : (.fieldLink RX9 283 "MuseumCasesModel" "roomThen" "I" : Cond) ∈ m_ws := m_w6 (i := 31) rfl rfl
theorem w_990 : (.lays RX9 "MuseumCasesModel" "thrown" "I" : Cond) ∈ m_ws := m_w6 (i := 32) rfl rfl
theorem w_991 : (.laysFinal RX9 "MuseumCasesModel" "p" "[I" : Cond) ∈ m_ws := m_w6 (i := 34) rfl rfl
theorem w_992 : (.laysFinal RX9 "MuseumCasesModel" "told" "[I" : Cond) ∈ m_ws := m_w6 (i := 36) rfl rfl
theorem w_993 : (.laysFinal RX9 "MuseumCasesModel" "a" "[I" : Cond) ∈ m_ws := m_w6 (i := 38) rfl rfl
theorem w_994 : (.laysFinal RX9 "MuseumCasesModel" "beside" "[I" : Cond) ∈ m_ws := m_w6 (i := 40) rfl rfl
theorem w_995 : (.laysFinal RX9 "MuseumCasesModel" "saved" "[I" : Cond) ∈ m_ws := m_w6 (i := 42) rfl rfl
theorem w_996 : (.laysFinal RX9 "MuseumCasesModel" "fresh" "[I" : Cond) ∈ m_ws := m_w6 (i := 44) rfl rfl
theorem w_997 : (.laysFinal RX9 "MuseumCasesModel" "b" "[J" : Cond) ∈ m_ws := m_w6 (i := 46) rfl rfl
theorem w_998 : (.laysFinal RX9 "MuseumCasesModel" "besideLong" "[J" : Cond) ∈ m_ws := m_w6 (i := 48) rfl rfl
theorem w_999 : (.laysFinal RX9 "MuseumCasesModel" "savedLong" "[J" : Cond) ∈ m_ws := m_w6 (i := 50) rfl rfl
theorem w_1000 : (.laysFinal RX9 "MuseumCasesModel" "isSaved" "[Z" : Cond) ∈ m_ws := m_w6 (i := 52) rfl rfl
theorem w_1001 : (.laysFinal RX9 "MuseumCasesModel" "text" "[I" : Cond) ∈ m_ws := m_w6 (i := 54) rfl rfl
theorem w_1002 : (.lays RX9 "MuseumCasesModel" "typed" "I" : Cond) ∈ m_ws := m_w6 (i := 56) rfl rfl
theorem w_1003 : (.lays RX9 "MuseumCasesModel" "ended" "I" : Cond) ∈ m_ws := m_w6 (i := 58) rfl rfl
theorem w_1004 : (.lays RX9 "MuseumCasesModel" "next" "I" : Cond) ∈ m_ws := m_w6 (i := 60) rfl rfl
theorem w_1005 : (.lays RX9 "MuseumCasesModel" "begin" "I" : Cond) ∈ m_ws := m_w6 (i := 62) rfl rfl
theorem w_1006 : (.lays RX9 "MuseumCasesModel" "sort" "I" : Cond) ∈ m_ws := m_w6 (i := 64) rfl rfl
theorem w_1007 : (.lays RX9 "MuseumCasesModel" "number" "I" : Cond) ∈ m_ws := m_w6 (i := 66) rfl rfl
theorem w_1008 : (.lays RX9 "MuseumCasesModel" "errorCode" "I" : Cond) ∈ m_ws := m_w6 (i := 68) rfl rfl
theorem w_1009 : (.lays RX9 "MuseumCasesModel" "errorAt" "I" : Cond) ∈ m_ws := m_w6 (i := 70) rfl rfl
theorem w_1010 : (.lays RX9 "MuseumCasesModel" "name" "J" : Cond) ∈ m_ws := m_w6 (i := 72) rfl rfl
theorem w_1011 : (.laysFinal RX9 "MuseumCasesModel" "kindName" "[J" : Cond) ∈ m_ws := m_w6 (i := 74) rfl rfl
theorem w_1012 : (.laysFinal RX9 "MuseumCasesModel" "caseName" "[J" : Cond) ∈ m_ws := m_w6 (i := 76) rfl rfl
theorem w_1013 : (.lays RX9 "MuseumCasesModel" "foundCase" "I" : Cond) ∈ m_ws := m_w6 (i := 78) rfl rfl
theorem w_1014 : (.lays RX9 "MuseumCasesModel" "foundIndex" "I" : Cond) ∈ m_ws := m_w6 (i := 80) rfl rfl
theorem w_1015 : (.lays RX9 "MuseumCasesModel" "roomThen" "I" : Cond) ∈ m_ws := m_w6 (i := 82) rfl rfl
theorem w_1016 : (.methodLink RL 133 yX9_thrown : Cond) ∈ m_ws := m_w6 (i := 85) rfl rfl
theorem w_1017 : (.instanceMethod yX9_thrown : Cond) ∈ m_ws := m_w6 (i := 86) rfl rfl
theorem w_1018 : (.selects RX9 yX9_thrown yX9_thrown : Cond) ∈ m_ws := m_w6 (i := 87) rfl rfl
theorem w_1019 : (.code yX9_thrown cX9_thrown 1 (some .int) : Cond) ∈ m_ws := m_w6 (i := 88) rfl rfl
theorem w_1020 : (.methodLink RL 132 yX9_append : Cond) ∈ m_ws := m_w6 (i := 89) rfl rfl
theorem w_1021 : (.instanceMethod yX9_append : Cond) ∈ m_ws := m_w6 (i := 90) rfl rfl
theorem w_1022 : (.selects RX9 yX9_append yX9_append : Cond) ∈ m_ws := m_w6 (i := 91) rfl rfl
theorem w_1023 : (.code yX9_append cX9_append 8 (some .int) : Cond) ∈ m_ws := m_w6 (i := 92) rfl rfl
theorem w_1024 : (.methodLink RX9 90 yX9_may : Cond) ∈ m_ws := m_w6 (i := 93) rfl rfl
theorem w_1025 : (.instanceMethod yX9_may : Cond) ∈ m_ws := m_w6 (i := 95) rfl rfl
theorem w_1026 : (.code yX9_may cX9_may 3 (some .boolean) : Cond) ∈ m_ws := m_w6 (i := 96) rfl rfl
theorem w_1027 : (.methodLink RL 139 yX9_truncate : Cond) ∈ m_ws := m_w6 (i := 97) rfl rfl
theorem w_1028 : (.instanceMethod yX9_truncate : Cond) ∈ m_ws := m_w6 (i := 98) rfl rfl
theorem w_1029 : (.selects RX9 yX9_truncate yX9_truncate : Cond) ∈ m_ws := m_w6 (i := 99) rfl rfl
theorem w_1030 : (.code yX9_truncate cX9_truncate 2 (some .int) : Cond) ∈ m_ws := m_w6 (i := 100) rfl rfl
theorem w_1031 : (.methodLink RX9 94 yX9_isIn : Cond) ∈ m_ws := m_w6 (i := 101) rfl rfl
theorem w_1032 : (.static yX9_isIn : Cond) ∈ m_ws := m_w6 (i := 102) rfl rfl
theorem w_1033 : (.code yX9_isIn cX9_isIn 3 (some .boolean) : Cond) ∈ m_ws := m_w6 (i := 103) rfl rfl
theorem w_1034 : (.methodLink RL 143 yX9_load : Cond) ∈ m_ws := m_w6 (i := 104) rfl rfl
theorem w_1035 : (.instanceMethod yX9_load : Cond) ∈ m_ws := m_w6 (i := 105) rfl rfl
theorem w_1036 : (.selects RX9 yX9_load yX9_load : Cond) ∈ m_ws := m_w6 (i := 106) rfl rfl
theorem w_1037 : (.code yX9_load cX9_load 1 (some .int) : Cond) ∈ m_ws := m_w6 (i := 107) rfl rfl
theorem w_1038 : (.methodLink RX9 153 yX9_token : Cond) ∈ m_ws := m_w6 (i := 108) rfl rfl
theorem w_1039 : (.instanceMethod yX9_token : Cond) ∈ m_ws := m_w6 (i := 110) rfl rfl
theorem w_1040 : (.code yX9_token cX9_token 2 none : Cond) ∈ m_ws := m_w6 (i := 111) rfl rfl
theorem w_1041 : (.methodLink RX9 104 yX9_at : Cond) ∈ m_ws := m_w6 (i := 112) rfl rfl
theorem w_1042 : (.instanceMethod yX9_at : Cond) ∈ m_ws := m_w6 (i := 114) rfl rfl
theorem w_1043 : (.code yX9_at cX9_at 2 (some .int) : Cond) ∈ m_ws := m_w6 (i := 115) rfl rfl
theorem w_1044 : (.methodLink RX9 114 yX9_isLetter : Cond) ∈ m_ws := m_w6 (i := 116) rfl rfl
theorem w_1045 : (.static yX9_isLetter : Cond) ∈ m_ws := m_w6 (i := 117) rfl rfl
theorem w_1046 : (.code yX9_isLetter cX9_isLetter 1 (some .boolean) : Cond) ∈ m_ws := m_w6 (i := 118) rfl rfl
theorem w_1047 : (.constantLong RX9 122 (27) : Cond) ∈ m_ws := m_w6 (i := 119) rfl rfl
theorem w_1048 : (.constantLong RX9 124 (96) : Cond) ∈ m_ws := m_w6 (i := 120) rfl rfl
theorem w_1049 : (.methodLink RX9 126 yX9_isDigit : Cond) ∈ m_ws := m_w6 (i := 121) rfl rfl
theorem w_1050 : (.static yX9_isDigit : Cond) ∈ m_ws := m_w6 (i := 122) rfl rfl
theorem w_1051 : (.code yX9_isDigit cX9_isDigit 1 (some .boolean) : Cond) ∈ m_ws := m_w6 (i := 123) rfl rfl
theorem w_1052 : (.methodLink RX9 212 yX9_reads : Cond) ∈ m_ws := m_w6 (i := 124) rfl rfl
theorem w_1053 : (.instanceMethod yX9_reads : Cond) ∈ m_ws := m_w6 (i := 126) rfl rfl
theorem w_1054 : (.code yX9_reads cX9_reads 1 none : Cond) ∈ m_ws := m_w6 (i := 127) rfl rfl
theorem w_1055 : (.methodLink RX9 185 yX9_takesWord : Cond) ∈ m_ws := m_w6 (i := 129) rfl rfl
theorem w_1056 : (.instanceMethod yX9_takesWord : Cond) ∈ m_ws := m_w6 (i := 131) rfl rfl
theorem w_1057 : (.code yX9_takesWord cX9_takesWord 3 (some .boolean) : Cond) ∈ m_ws := m_w6 (i := 132) rfl rfl
theorem w_1058 : (.methodLink RX9 149 yX9_isWord : Cond) ∈ m_ws := m_w6 (i := 133) rfl rfl
theorem w_1059 : (.instanceMethod yX9_isWord : Cond) ∈ m_ws := m_w6 (i := 135) rfl rfl
theorem w_1060 : (.code yX9_isWord cX9_isWord 3 (some .boolean) : Cond) ∈ m_ws := m_w6 (i := 136) rfl rfl
theorem w_1061 : (.methodLink RX9 135 yX9_isWrong : Cond) ∈ m_ws := m_w6 (i := 137) rfl rfl
theorem w_1062 : (.instanceMethod yX9_isWrong : Cond) ∈ m_ws := m_w6 (i := 139) rfl rfl
theorem w_1063 : (.code yX9_isWrong cX9_isWrong 1 (some .boolean) : Cond) ∈ m_ws := m_w6 (i := 140) rfl rfl
theorem w_1064 : (.methodLink RX9 139 yJ0_length_8abf5 : Cond) ∈ m_ws := m_w6 (i := 141) rfl rfl
theorem w_1065 : (.methodLink RX9 145 yJ0_charAt_5068e : Cond) ∈ m_ws := m_w6 (i := 142) rfl rfl
theorem w_1066 : (.methodLink RX9 156 yX9_fails : Cond) ∈ m_ws := m_w6 (i := 143) rfl rfl
theorem w_1067 : (.instanceMethod yX9_fails : Cond) ∈ m_ws := m_w6 (i := 145) rfl rfl
theorem w_1068 : (.code yX9_fails cX9_fails 2 none : Cond) ∈ m_ws := m_w6 (i := 146) rfl rfl
theorem w_1069 : (.methodLink RX9 168 yX9_figure : Cond) ∈ m_ws := m_w6 (i := 147) rfl rfl
theorem w_1070 : (.instanceMethod yX9_figure : Cond) ∈ m_ws := m_w6 (i := 149) rfl rfl
theorem w_1071 : (.code yX9_figure cX9_figure 4 (some .int) : Cond) ∈ m_ws := m_w6 (i := 150) rfl rfl
theorem w_1072 : (.methodLink RX9 171 yX9_ends : Cond) ∈ m_ws := m_w6 (i := 151) rfl rfl
theorem w_1073 : (.instanceMethod yX9_ends : Cond) ∈ m_ws := m_w6 (i := 153) rfl rfl
theorem w_1074 : (.code yX9_ends cX9_ends 1 none : Cond) ∈ m_ws := m_w6 (i := 154) rfl rfl
theorem w_1075 : (.methodLink RX9 192 yX9_season : Cond) ∈ m_ws := m_w6 (i := 156) rfl rfl
theorem w_1076 : (.instanceMethod yX9_season : Cond) ∈ m_ws := m_w6 (i := 158) rfl rfl
theorem w_1077 : (.code yX9_season cX9_season 2 none : Cond) ∈ m_ws := m_w6 (i := 159) rfl rfl
theorem w_1078 : (.methodLink RX9 164 yX9_begins : Cond) ∈ m_ws := m_w6 (i := 160) rfl rfl
theorem w_1079 : (.instanceMethod yX9_begins : Cond) ∈ m_ws := m_w6 (i := 162) rfl rfl
theorem w_1080 : (.code yX9_begins cX9_begins 3 (some .boolean) : Cond) ∈ m_ws := m_w6 (i := 163) rfl rfl
theorem w_1081 : (.methodLink RX9 196 yX9_visitors : Cond) ∈ m_ws := m_w6 (i := 165) rfl rfl
theorem w_1082 : (.instanceMethod yX9_visitors : Cond) ∈ m_ws := m_w6 (i := 167) rfl rfl
theorem w_1083 : (.code yX9_visitors cX9_visitors 5 none : Cond) ∈ m_ws := m_w6 (i := 168) rfl rfl
theorem w_1084 : (.methodLink RX9 200 yX9_kind : Cond) ∈ m_ws := m_w6 (i := 170) rfl rfl
theorem w_1085 : (.instanceMethod yX9_kind : Cond) ∈ m_ws := m_w6 (i := 172) rfl rfl
theorem w_1086 : (.code yX9_kind cX9_kind 3 none : Cond) ∈ m_ws := m_w6 (i := 173) rfl rfl
theorem w_1087 : (.methodLink RX9 174 yX9_newName : Cond) ∈ m_ws := m_w6 (i := 174) rfl rfl
theorem w_1088 : (.instanceMethod yX9_newName : Cond) ∈ m_ws := m_w6 (i := 176) rfl rfl
theorem w_1089 : (.code yX9_newName cX9_newName 3 (some .boolean) : Cond) ∈ m_ws := m_w6 (i := 177) rfl rfl
theorem w_1090 : (.methodLink RX9 160 yX9_named : Cond) ∈ m_ws := m_w6 (i := 178) rfl rfl
theorem w_1091 : (.instanceMethod yX9_named : Cond) ∈ m_ws := m_w6 (i := 180) rfl rfl
theorem w_1092 : (.code yX9_named cX9_named 4 (some .int) : Cond) ∈ m_ws := m_w6 (i := 181) rfl rfl
theorem w_1093 : (.methodLink RX9 180 yX9_point : Cond) ∈ m_ws := m_w6 (i := 183) rfl rfl
theorem w_1094 : (.instanceMethod yX9_point : Cond) ∈ m_ws := m_w6 (i := 185) rfl rfl
theorem w_1095 : (.code yX9_point cX9_point 4 none : Cond) ∈ m_ws := m_w6 (i := 186) rfl rfl
theorem w_1096 : (.methodLink RX9 204 yX9_oneCase : Cond) ∈ m_ws := m_w6 (i := 188) rfl rfl
theorem w_1097 : (.instanceMethod yX9_oneCase : Cond) ∈ m_ws := m_w6 (i := 190) rfl rfl
theorem w_1098 : (.code yX9_oneCase cX9_oneCase 3 none : Cond) ∈ m_ws := m_w6 (i := 191) rfl rfl
theorem w_1099 : (.methodLink RX9 209 yX9_oneCassette : Cond) ∈ m_ws := m_w6 (i := 194) rfl rfl
theorem w_1100 : (.instanceMethod yX9_oneCassette : Cond) ∈ m_ws := m_w6 (i := 196) rfl rfl
theorem w_1101 : (.code yX9_oneCassette cX9_oneCassette 5 none : Cond) ∈ m_ws := m_w6 (i := 197) rfl rfl
theorem w_1102 : (.methodLink RL 147 yX9_errorCode : Cond) ∈ m_ws := m_w6 (i := 198) rfl rfl
theorem w_1103 : (.instanceMethod yX9_errorCode : Cond) ∈ m_ws := m_w6 (i := 199) rfl rfl
theorem w_1104 : (.selects RX9 yX9_errorCode yX9_errorCode : Cond) ∈ m_ws := m_w6 (i := 200) rfl rfl
theorem w_1105 : (.code yX9_errorCode cX9_errorCode 1 (some .int) : Cond) ∈ m_ws := m_w6 (i := 201) rfl rfl
theorem w_1106 : (.methodLink RL 151 yX9_errorPosition : Cond) ∈ m_ws := m_w6 (i := 202) rfl rfl
theorem w_1107 : (.instanceMethod yX9_errorPosition : Cond) ∈ m_ws := m_w6 (i := 203) rfl rfl
theorem w_1108 : (.selects RX9 yX9_errorPosition yX9_errorPosition : Cond) ∈ m_ws := m_w6 (i := 204) rfl rfl
theorem w_1109 : (.code yX9_errorPosition cX9_errorPosition 1 (some .int) : Cond) ∈ m_ws := m_w6 (i := 205) rfl rfl
theorem w_1110 : (.methodLink RL 154 yX9_report : Cond) ∈ m_ws := m_w6 (i := 206) rfl rfl
theorem w_1111 : (.instanceMethod yX9_report : Cond) ∈ m_ws := m_w6 (i := 207) rfl rfl
theorem w_1112 : (.selects RX9 yX9_report yX9_report : Cond) ∈ m_ws := m_w6 (i := 208) rfl rfl
theorem w_1113 : (.code yX9_report cX9_report 2 (some .int) : Cond) ∈ m_ws := m_w6 (i := 209) rfl rfl
theorem w_1114 : (.methodLink RX9 222 yX9_cassettesInAll : Cond) ∈ m_ws := m_w6 (i := 210) rfl rfl
theorem w_1115 : (.instanceMethod yX9_cassettesInAll : Cond) ∈ m_ws := m_w6 (i := 212) rfl rfl
theorem w_1116 : (.code yX9_cassettesInAll cX9_cassettesInAll 3 (some .int) : Cond) ∈ m_ws := m_w6 (i := 213) rfl rfl
theorem w_1117 : (.methodLink RX9 225 yX9_roomNow : Cond) ∈ m_ws := m_w6 (i := 214) rfl rfl
theorem w_1118 : (.instanceMethod yX9_roomNow : Cond) ∈ m_ws := m_w6 (i := 216) rfl rfl
theorem w_1119 : (.code yX9_roomNow cX9_roomNow 2 (some .int) : Cond) ∈ m_ws := m_w6 (i := 217) rfl rfl
theorem w_1120 : (.methodLink RX9 219 yX9_setOn : Cond) ∈ m_ws := m_w6 (i := 218) rfl rfl
theorem w_1121 : (.instanceMethod yX9_setOn : Cond) ∈ m_ws := m_w6 (i := 220) rfl rfl
theorem w_1122 : (.code yX9_setOn cX9_setOn 8 (some .int) : Cond) ∈ m_ws := m_w6 (i := 221) rfl rfl
theorem w_1123 : (.methodLink RL 157 yX9_setPoint : Cond) ∈ m_ws := m_w6 (i := 222) rfl rfl
theorem w_1124 : (.instanceMethod yX9_setPoint : Cond) ∈ m_ws := m_w6 (i := 223) rfl rfl
theorem w_1125 : (.selects RX9 yX9_setPoint yX9_setPoint : Cond) ∈ m_ws := m_w6 (i := 224) rfl rfl
theorem w_1126 : (.code yX9_setPoint cX9_setPoint 2 (some .int) : Cond) ∈ m_ws := m_w6 (i := 225) rfl rfl
theorem w_1127 : (.methodLink RL 160 yX9_visitors_ : Cond) ∈ m_ws := m_w6 (i := 226) rfl rfl
theorem w_1128 : (.instanceMethod yX9_visitors_ : Cond) ∈ m_ws := m_w6 (i := 227) rfl rfl
theorem w_1129 : (.selects RX9 yX9_visitors_ yX9_visitors_ : Cond) ∈ m_ws := m_w6 (i := 228) rfl rfl
theorem w_1130 : (.code yX9_visitors_ cX9_visitors_ 2 (some .int) : Cond) ∈ m_ws := m_w6 (i := 229) rfl rfl
theorem w_1131 : (.methodLink RL 164 yX9_content : Cond) ∈ m_ws := m_w6 (i := 230) rfl rfl
theorem w_1132 : (.instanceMethod yX9_content : Cond) ∈ m_ws := m_w6 (i := 231) rfl rfl
theorem w_1133 : (.selects RX9 yX9_content yX9_content : Cond) ∈ m_ws := m_w6 (i := 232) rfl rfl
theorem w_1134 : (.code yX9_content cX9_content 3 (some .int) : Cond) ∈ m_ws := m_w6 (i := 233) rfl rfl
theorem w_1135 : (.methodLink RX9 231 yX9_isKind : Cond) ∈ m_ws := m_w6 (i := 234) rfl rfl
theorem w_1136 : (.instanceMethod yX9_isKind : Cond) ∈ m_ws := m_w6 (i := 236) rfl rfl
theorem w_1137 : (.code yX9_isKind cX9_isKind 2 (some .boolean) : Cond) ∈ m_ws := m_w6 (i := 237) rfl rfl
theorem w_1138 : (.methodLink RL 167 yX9_announce : Cond) ∈ m_ws := m_w6 (i := 238) rfl rfl
theorem w_1139 : (.instanceMethod yX9_announce : Cond) ∈ m_ws := m_w6 (i := 239) rfl rfl
theorem w_1140 : (.selects RX9 yX9_announce yX9_announce : Cond) ∈ m_ws := m_w7 (i := 0) rfl rfl
theorem w_1141 : (.code yX9_announce cX9_announce 2 (some .int) : Cond) ∈ m_ws := m_w7 (i := 1) rfl rfl
theorem w_1142 : (.methodLink RL 170 yX9_displayCase : Cond) ∈ m_ws := m_w7 (i := 2) rfl rfl
theorem w_1143 : (.instanceMethod yX9_displayCase : Cond) ∈ m_ws := m_w7 (i := 3) rfl rfl
theorem w_1144 : (.selects RX9 yX9_displayCase yX9_displayCase : Cond) ∈ m_ws := m_w7 (i := 4) rfl rfl
theorem w_1145 : (.code yX9_displayCase cX9_displayCase 3 (some .int) : Cond) ∈ m_ws := m_w7 (i := 5) rfl rfl
theorem w_1146 : (.methodLink RX9 239 yX9_isCase : Cond) ∈ m_ws := m_w7 (i := 6) rfl rfl
theorem w_1147 : (.instanceMethod yX9_isCase : Cond) ∈ m_ws := m_w7 (i := 8) rfl rfl
theorem w_1148 : (.code yX9_isCase cX9_isCase 2 (some .boolean) : Cond) ∈ m_ws := m_w7 (i := 9) rfl rfl
theorem w_1149 : (.methodLink RX9 242 yX9_humidityOf : Cond) ∈ m_ws := m_w7 (i := 10) rfl rfl
theorem w_1150 : (.instanceMethod yX9_humidityOf : Cond) ∈ m_ws := m_w7 (i := 12) rfl rfl
theorem w_1151 : (.code yX9_humidityOf cX9_humidityOf 2 (some .int) : Cond) ∈ m_ws := m_w7 (i := 13) rfl rfl
theorem w_1152 : (.constantLong RX9 234 (1000) : Cond) ∈ m_ws := m_w7 (i := 14) rfl rfl
theorem w_1153 : (.methodLink RL 173 yX9_balance : Cond) ∈ m_ws := m_w7 (i := 15) rfl rfl
theorem w_1154 : (.instanceMethod yX9_balance : Cond) ∈ m_ws := m_w7 (i := 16) rfl rfl
theorem w_1155 : (.selects RX9 yX9_balance yX9_balance : Cond) ∈ m_ws := m_w7 (i := 17) rfl rfl
theorem w_1156 : (.code yX9_balance cX9_balance 3 (some .long) : Cond) ∈ m_ws := m_w7 (i := 18) rfl rfl
theorem w_1157 : (.methodLink RL 176 yX9_recorded : Cond) ∈ m_ws := m_w7 (i := 19) rfl rfl
theorem w_1158 : (.instanceMethod yX9_recorded : Cond) ∈ m_ws := m_w7 (i := 20) rfl rfl
theorem w_1159 : (.selects RX9 yX9_recorded yX9_recorded : Cond) ∈ m_ws := m_w7 (i := 21) rfl rfl
theorem w_1160 : (.code yX9_recorded cX9_recorded 3 (some .int) : Cond) ∈ m_ws := m_w7 (i := 22) rfl rfl
theorem w_1161 : (.methodLink RX9 245 yX9_recordOf : Cond) ∈ m_ws := m_w7 (i := 23) rfl rfl
theorem w_1162 : (.instanceMethod yX9_recordOf : Cond) ∈ m_ws := m_w7 (i := 25) rfl rfl
theorem w_1163 : (.code yX9_recordOf cX9_recordOf 3 (some .int) : Cond) ∈ m_ws := m_w7 (i := 26) rfl rfl
theorem w_1164 : (.methodLink RL 179 yX9_swing : Cond) ∈ m_ws := m_w7 (i := 27) rfl rfl
theorem w_1165 : (.instanceMethod yX9_swing : Cond) ∈ m_ws := m_w7 (i := 28) rfl rfl
theorem w_1166 : (.selects RX9 yX9_swing yX9_swing : Cond) ∈ m_ws := m_w7 (i := 29) rfl rfl
theorem w_1167 : (.code yX9_swing cX9_swing 6 (some .int) : Cond) ∈ m_ws := m_w7 (i := 30) rfl rfl
theorem w_1168 : (.methodLink RL 183 yX9_mean : Cond) ∈ m_ws := m_w7 (i := 31) rfl rfl
theorem w_1169 : (.instanceMethod yX9_mean : Cond) ∈ m_ws := m_w7 (i := 32) rfl rfl
theorem w_1170 : (.selects RX9 yX9_mean yX9_mean : Cond) ∈ m_ws := m_w7 (i := 33) rfl rfl
theorem w_1171 : (.code yX9_mean cX9_mean 2 (some .double) : Cond) ∈ m_ws := m_w7 (i := 34) rfl rfl
theorem w_1172 : (.methodLink RL 186 yX9_buffering : Cond) ∈ m_ws := m_w7 (i := 35) rfl rfl
theorem w_1173 : (.instanceMethod yX9_buffering : Cond) ∈ m_ws := m_w7 (i := 36) rfl rfl
theorem w_1174 : (.selects RX9 yX9_buffering yX9_buffering : Cond) ∈ m_ws := m_w7 (i := 37) rfl rfl
theorem w_1175 : (.code yX9_buffering cX9_buffering 2 (some .double) : Cond) ∈ m_ws := m_w7 (i := 38) rfl rfl
theorem w_1176 : (.methodLink RL 189 yX9_setLeak : Cond) ∈ m_ws := m_w7 (i := 39) rfl rfl
theorem w_1177 : (.instanceMethod yX9_setLeak : Cond) ∈ m_ws := m_w7 (i := 40) rfl rfl
theorem w_1178 : (.selects RX9 yX9_setLeak yX9_setLeak : Cond) ∈ m_ws := m_w7 (i := 41) rfl rfl
theorem w_1179 : (.code yX9_setLeak cX9_setLeak 4 (some .int) : Cond) ∈ m_ws := m_w7 (i := 42) rfl rfl
theorem w_1180 : (.methodLink RL 193 yX9_setSafe : Cond) ∈ m_ws := m_w7 (i := 43) rfl rfl
theorem w_1181 : (.instanceMethod yX9_setSafe : Cond) ∈ m_ws := m_w7 (i := 44) rfl rfl
theorem w_1182 : (.selects RX9 yX9_setSafe yX9_setSafe : Cond) ∈ m_ws := m_w7 (i := 45) rfl rfl
theorem w_1183 : (.code yX9_setSafe cX9_setSafe 4 none : Cond) ∈ m_ws := m_w7 (i := 46) rfl rfl
theorem w_1184 : (.methodLink RL 196 yX9_open : Cond) ∈ m_ws := m_w7 (i := 47) rfl rfl
theorem w_1185 : (.instanceMethod yX9_open : Cond) ∈ m_ws := m_w7 (i := 48) rfl rfl
theorem w_1186 : (.selects RX9 yX9_open yX9_open : Cond) ∈ m_ws := m_w7 (i := 49) rfl rfl
theorem w_1187 : (.code yX9_open cX9_open 3 (some .int) : Cond) ∈ m_ws := m_w7 (i := 50) rfl rfl
theorem w_1188 : (.methodLink RX9 248 yX9_counts : Cond) ∈ m_ws := m_w7 (i := 51) rfl rfl
theorem w_1189 : (.instanceMethod yX9_counts : Cond) ∈ m_ws := m_w7 (i := 53) rfl rfl
theorem w_1190 : (.code yX9_counts cX9_counts 5 none : Cond) ∈ m_ws := m_w7 (i := 54) rfl rfl
theorem w_1191 : (.methodLink RL 200 yX9_cassette : Cond) ∈ m_ws := m_w7 (i := 55) rfl rfl
theorem w_1192 : (.instanceMethod yX9_cassette : Cond) ∈ m_ws := m_w7 (i := 56) rfl rfl
theorem w_1193 : (.selects RX9 yX9_cassette yX9_cassette : Cond) ∈ m_ws := m_w7 (i := 57) rfl rfl
theorem w_1194 : (.code yX9_cassette cX9_cassette 4 (some .int) : Cond) ∈ m_ws := m_w7 (i := 58) rfl rfl
theorem w_1195 : (.methodLink RX9 258 yX9_ownHumidity : Cond) ∈ m_ws := m_w7 (i := 59) rfl rfl
theorem w_1196 : (.instanceMethod yX9_ownHumidity : Cond) ∈ m_ws := m_w7 (i := 61) rfl rfl
theorem w_1197 : (.code yX9_ownHumidity cX9_ownHumidity 4 (some .int) : Cond) ∈ m_ws := m_w7 (i := 62) rfl rfl
theorem w_1198 : (.methodLink RL 203 yX9_caseOf : Cond) ∈ m_ws := m_w7 (i := 63) rfl rfl
theorem w_1199 : (.instanceMethod yX9_caseOf : Cond) ∈ m_ws := m_w7 (i := 64) rfl rfl
theorem w_1200 : (.selects RX9 yX9_caseOf yX9_caseOf : Cond) ∈ m_ws := m_w7 (i := 65) rfl rfl
theorem w_1201 : (.code yX9_caseOf cX9_caseOf 2 (some .int) : Cond) ∈ m_ws := m_w7 (i := 66) rfl rfl
theorem w_1202 : (.methodLink RX9 261 yX9_finds : Cond) ∈ m_ws := m_w7 (i := 67) rfl rfl
theorem w_1203 : (.instanceMethod yX9_finds : Cond) ∈ m_ws := m_w7 (i := 69) rfl rfl
theorem w_1204 : (.code yX9_finds cX9_finds 4 (some .boolean) : Cond) ∈ m_ws := m_w7 (i := 70) rfl rfl
theorem w_1205 : (.methodLink RL 207 yX9_add : Cond) ∈ m_ws := m_w7 (i := 71) rfl rfl
theorem w_1206 : (.instanceMethod yX9_add : Cond) ∈ m_ws := m_w7 (i := 72) rfl rfl
theorem w_1207 : (.selects RX9 yX9_add yX9_add : Cond) ∈ m_ws := m_w7 (i := 73) rfl rfl
theorem w_1208 : (.code yX9_add cX9_add 6 (some .int) : Cond) ∈ m_ws := m_w7 (i := 74) rfl rfl
theorem w_1209 : (.methodLink RX9 268 yX9_newSerial : Cond) ∈ m_ws := m_w7 (i := 75) rfl rfl
theorem w_1210 : (.instanceMethod yX9_newSerial : Cond) ∈ m_ws := m_w7 (i := 77) rfl rfl
theorem w_1211 : (.code yX9_newSerial cX9_newSerial 1 (some .int) : Cond) ∈ m_ws := m_w7 (i := 78) rfl rfl
theorem w_1212 : (.methodLink RX9 271 yX9_addsTo : Cond) ∈ m_ws := m_w7 (i := 79) rfl rfl
theorem w_1213 : (.instanceMethod yX9_addsTo : Cond) ∈ m_ws := m_w7 (i := 81) rfl rfl
theorem w_1214 : (.code yX9_addsTo cX9_addsTo 7 none : Cond) ∈ m_ws := m_w7 (i := 82) rfl rfl
theorem w_1215 : (.methodLink RX9 264 yX9_puts : Cond) ∈ m_ws := m_w7 (i := 83) rfl rfl
theorem w_1216 : (.instanceMethod yX9_puts : Cond) ∈ m_ws := m_w7 (i := 85) rfl rfl
theorem w_1217 : (.code yX9_puts cX9_puts 7 none : Cond) ∈ m_ws := m_w7 (i := 86) rfl rfl
theorem w_1218 : (.methodLink RL 210 yX9_remove : Cond) ∈ m_ws := m_w7 (i := 87) rfl rfl
theorem w_1219 : (.instanceMethod yX9_remove : Cond) ∈ m_ws := m_w7 (i := 88) rfl rfl
theorem w_1220 : (.selects RX9 yX9_remove yX9_remove : Cond) ∈ m_ws := m_w7 (i := 89) rfl rfl
theorem w_1221 : (.code yX9_remove cX9_remove 2 (some .int) : Cond) ∈ m_ws := m_w7 (i := 90) rfl rfl
theorem w_1222 : (.methodLink RX9 275 yX9_goes : Cond) ∈ m_ws := m_w7 (i := 91) rfl rfl
theorem w_1223 : (.instanceMethod yX9_goes : Cond) ∈ m_ws := m_w7 (i := 93) rfl rfl
theorem w_1224 : (.code yX9_goes cX9_goes 5 (some .int) : Cond) ∈ m_ws := m_w7 (i := 94) rfl rfl
theorem w_1225 : (.methodLink RL 213 yX9_move : Cond) ∈ m_ws := m_w7 (i := 95) rfl rfl
theorem w_1226 : (.instanceMethod yX9_move : Cond) ∈ m_ws := m_w7 (i := 96) rfl rfl
theorem w_1227 : (.selects RX9 yX9_move yX9_move : Cond) ∈ m_ws := m_w7 (i := 97) rfl rfl
theorem w_1228 : (.code yX9_move cX9_move 6 (some .int) : Cond) ∈ m_ws := m_w7 (i := 98) rfl rfl
theorem w_1229 : (.methodLink RL 216 yX9_exchange : Cond) ∈ m_ws := m_w7 (i := 99) rfl rfl
theorem w_1230 : (.instanceMethod yX9_exchange : Cond) ∈ m_ws := m_w7 (i := 100) rfl rfl
theorem w_1231 : (.selects RX9 yX9_exchange yX9_exchange : Cond) ∈ m_ws := m_w7 (i := 101) rfl rfl
theorem w_1232 : (.code yX9_exchange cX9_exchange 4 (some .int) : Cond) ∈ m_ws := m_w7 (i := 102) rfl rfl
theorem w_1233 : (.methodLink RX9 278 yX9_exchanges : Cond) ∈ m_ws := m_w7 (i := 103) rfl rfl
theorem w_1234 : (.instanceMethod yX9_exchanges : Cond) ∈ m_ws := m_w7 (i := 105) rfl rfl
theorem w_1235 : (.code yX9_exchanges cX9_exchanges 7 none : Cond) ∈ m_ws := m_w7 (i := 106) rfl rfl
theorem w_1236 : (.methodLink RL 219 yX9_advance : Cond) ∈ m_ws := m_w7 (i := 107) rfl rfl
theorem w_1237 : (.instanceMethod yX9_advance : Cond) ∈ m_ws := m_w7 (i := 108) rfl rfl
theorem w_1238 : (.selects RX9 yX9_advance yX9_advance : Cond) ∈ m_ws := m_w7 (i := 109) rfl rfl
theorem w_1239 : (.code yX9_advance cX9_advance 2 (some .int) : Cond) ∈ m_ws := m_w7 (i := 110) rfl rfl
theorem w_1240 : (.constant RX9 295 (99999) : Cond) ∈ m_ws := m_w7 (i := 111) rfl rfl
theorem w_1241 : (.methodLink RX9 296 yX9_hours : Cond) ∈ m_ws := m_w7 (i := 112) rfl rfl
theorem w_1242 : (.instanceMethod yX9_hours : Cond) ∈ m_ws := m_w7 (i := 114) rfl rfl
theorem w_1243 : (.code yX9_hours cX9_hours 6 (some .int) : Cond) ∈ m_ws := m_w7 (i := 115) rfl rfl
theorem w_1244 : (.methodLink RX9 292 yX9_hour : Cond) ∈ m_ws := m_w7 (i := 116) rfl rfl
theorem w_1245 : (.instanceMethod yX9_hour : Cond) ∈ m_ws := m_w7 (i := 118) rfl rfl
theorem w_1246 : (.code yX9_hour cX9_hour 5 (some .int) : Cond) ∈ m_ws := m_w7 (i := 119) rfl rfl
theorem w_1247 : (.methodLink RX9 286 yX9_airs : Cond) ∈ m_ws := m_w7 (i := 120) rfl rfl
theorem w_1248 : (.instanceMethod yX9_airs : Cond) ∈ m_ws := m_w7 (i := 122) rfl rfl
theorem w_1249 : (.code yX9_airs cX9_airs 8 none : Cond) ∈ m_ws := m_w7 (i := 123) rfl rfl
theorem w_1250 : (.constantLong RX9 281 (1000000) : Cond) ∈ m_ws := m_w7 (i := 124) rfl rfl
theorem w_1251 : (.methodLink RX9 289 yX9_records : Cond) ∈ m_ws := m_w7 (i := 125) rfl rfl
theorem w_1252 : (.instanceMethod yX9_records : Cond) ∈ m_ws := m_w7 (i := 127) rfl rfl
theorem w_1253 : (.code yX9_records cX9_records 4 (some .boolean) : Cond) ∈ m_ws := m_w7 (i := 128) rfl rfl
theorem w_1254 : (.methodLink RL 222 yX9_roomIn : Cond) ∈ m_ws := m_w7 (i := 129) rfl rfl
theorem w_1255 : (.instanceMethod yX9_roomIn : Cond) ∈ m_ws := m_w7 (i := 130) rfl rfl
theorem w_1256 : (.selects RX9 yX9_roomIn yX9_roomIn : Cond) ∈ m_ws := m_w7 (i := 131) rfl rfl
theorem w_1257 : (.code yX9_roomIn cX9_roomIn 3 (some .int) : Cond) ∈ m_ws := m_w7 (i := 132) rfl rfl
theorem w_1258 : (.methodLink RX9 299 yX9_setsAside : Cond) ∈ m_ws := m_w7 (i := 133) rfl rfl
theorem w_1259 : (.instanceMethod yX9_setsAside : Cond) ∈ m_ws := m_w7 (i := 135) rfl rfl
theorem w_1260 : (.code yX9_setsAside cX9_setsAside 2 none : Cond) ∈ m_ws := m_w7 (i := 136) rfl rfl
theorem w_1261 : (.methodLink RX9 302 yX9_bringsBack : Cond) ∈ m_ws := m_w7 (i := 137) rfl rfl
theorem w_1262 : (.instanceMethod yX9_bringsBack : Cond) ∈ m_ws := m_w7 (i := 139) rfl rfl
theorem w_1263 : (.code yX9_bringsBack cX9_bringsBack 2 none : Cond) ∈ m_ws := m_w7 (i := 140) rfl rfl
theorem w_1264 : (.methodLink RL 225 yX9_humidityIn : Cond) ∈ m_ws := m_w7 (i := 141) rfl rfl
theorem w_1265 : (.instanceMethod yX9_humidityIn : Cond) ∈ m_ws := m_w7 (i := 142) rfl rfl
theorem w_1266 : (.selects RX9 yX9_humidityIn yX9_humidityIn : Cond) ∈ m_ws := m_w7 (i := 143) rfl rfl
theorem w_1267 : (.code yX9_humidityIn cX9_humidityIn 5 (some .int) : Cond) ∈ m_ws := m_w7 (i := 144) rfl rfl
theorem w_1268 : (.methodLink RL 228 yX9_unsafeIn : Cond) ∈ m_ws := m_w7 (i := 145) rfl rfl
theorem w_1269 : (.instanceMethod yX9_unsafeIn : Cond) ∈ m_ws := m_w7 (i := 146) rfl rfl
theorem w_1270 : (.selects RX9 yX9_unsafeIn yX9_unsafeIn : Cond) ∈ m_ws := m_w7 (i := 147) rfl rfl
theorem w_1271 : (.code yX9_unsafeIn cX9_unsafeIn 3 (some .int) : Cond) ∈ m_ws := m_w7 (i := 148) rfl rfl
theorem w_1272 : (.methodLink RL 231 yX9_restOf : Cond) ∈ m_ws := m_w7 (i := 149) rfl rfl
theorem w_1273 : (.instanceMethod yX9_restOf : Cond) ∈ m_ws := m_w7 (i := 150) rfl rfl
theorem w_1274 : (.selects RX9 yX9_restOf yX9_restOf : Cond) ∈ m_ws := m_w7 (i := 151) rfl rfl
theorem w_1275 : (.code yX9_restOf cX9_restOf 7 (some .int) : Cond) ∈ m_ws := m_w7 (i := 152) rfl rfl
theorem w_1276 : (.methodLink RL 234 yX9_massFor : Cond) ∈ m_ws := m_w7 (i := 153) rfl rfl
theorem w_1277 : (.instanceMethod yX9_massFor : Cond) ∈ m_ws := m_w7 (i := 154) rfl rfl
theorem w_1278 : (.selects RX9 yX9_massFor yX9_massFor : Cond) ∈ m_ws := m_w7 (i := 155) rfl rfl
theorem w_1279 : (.code yX9_massFor cX9_massFor 7 (some .int) : Cond) ∈ m_ws := m_w7 (i := 156) rfl rfl
theorem w_1280 : (.methodLink RL 237 yX9_bestFor : Cond) ∈ m_ws := m_w7 (i := 157) rfl rfl
theorem w_1281 : (.instanceMethod yX9_bestFor : Cond) ∈ m_ws := m_w7 (i := 158) rfl rfl
theorem w_1282 : (.selects RX9 yX9_bestFor yX9_bestFor : Cond) ∈ m_ws := m_w7 (i := 159) rfl rfl
theorem w_1283 : (.code yX9_bestFor cX9_bestFor 7 (some .int) : Cond) ∈ m_ws := m_w7 (i := 160) rfl rfl
theorem w_1284 : (.methodLink RL 241 yX9_save : Cond) ∈ m_ws := m_w7 (i := 161) rfl rfl
theorem w_1285 : (.instanceMethod yX9_save : Cond) ∈ m_ws := m_w7 (i := 162) rfl rfl
theorem w_1286 : (.selects RX9 yX9_save yX9_save : Cond) ∈ m_ws := m_w7 (i := 163) rfl rfl
theorem w_1287 : (.code yX9_save cX9_save 3 none : Cond) ∈ m_ws := m_w7 (i := 164) rfl rfl
theorem w_1288 : (.methodLink RL 244 yX9_restore : Cond) ∈ m_ws := m_w7 (i := 165) rfl rfl
theorem w_1289 : (.instanceMethod yX9_restore : Cond) ∈ m_ws := m_w7 (i := 166) rfl rfl
theorem w_1290 : (.selects RX9 yX9_restore yX9_restore : Cond) ∈ m_ws := m_w7 (i := 167) rfl rfl
theorem w_1291 : (.code yX9_restore cX9_restore 3 none : Cond) ∈ m_ws := m_w7 (i := 168) rfl rfl
theorem w_1292 : (.arrayClass .double : Cond) ∈ m_ws := m_w7 (i := 169) rfl rfl
theorem w_1293 : (.fieldLink RJ0 9 "java/lang/String" "value" "[B" : Cond) ∈ m_ws := m_w7 (i := 187) rfl rfl
theorem w_1294 : (.fieldLink RJ0 15 "java/lang/String" "coder" "B" : Cond) ∈ m_ws := m_w7 (i := 188) rfl rfl
theorem w_1295 : (.selects "java/lang/Throwable" ⟨"java/lang/Throwable", "fillInStackTrace", "(I)Ljava/lang/Throwable;"⟩ ⟨"java/lang/Throwable", "fillInStackTrace", "(I)Ljava/lang/Throwable;"⟩ : Cond) ∈ m_ws := m_ww (i := 0) rfl rfl
theorem w_1296 : (.selects RX3 yX3_readToken yX3_readToken : Cond) ∈ m_ws := m_ww (i := 1) rfl rfl
theorem w_1297 : (.selects RX3 yX3_readValue yX3_readValue : Cond) ∈ m_ws := m_ww (i := 2) rfl rfl
theorem w_1298 : (.selects RX3 yX3_readMuseum yX3_readMuseum : Cond) ∈ m_ws := m_ww (i := 3) rfl rfl
theorem w_1299 : (.selects RX3 yX3_takeWord yX3_takeWord : Cond) ∈ m_ws := m_ww (i := 4) rfl rfl
theorem w_1300 : (.selects RX3 yX3_at yX3_at : Cond) ∈ m_ws := m_ww (i := 5) rfl rfl
theorem w_1301 : (.selects RX3 yX3_fail yX3_fail : Cond) ∈ m_ws := m_ww (i := 6) rfl rfl
theorem w_1302 : (.selects RX3 yX3_takeNumber yX3_takeNumber : Cond) ∈ m_ws := m_ww (i := 7) rfl rfl
theorem w_1303 : (.selects RX3 yX3_takeSemicolon yX3_takeSemicolon : Cond) ∈ m_ws := m_ww (i := 8) rfl rfl
theorem w_1304 : (.selects RX3 yX3_readSeason yX3_readSeason : Cond) ∈ m_ws := m_ww (i := 9) rfl rfl
theorem w_1305 : (.selects RX3 yX3_refuse yX3_refuse : Cond) ∈ m_ws := m_ww (i := 10) rfl rfl
theorem w_1306 : (.selects RX3 yX3_readVisitors yX3_readVisitors : Cond) ∈ m_ws := m_ww (i := 11) rfl rfl
theorem w_1307 : (.selects RX3 yX3_readKind yX3_readKind : Cond) ∈ m_ws := m_ww (i := 12) rfl rfl
theorem w_1308 : (.selects RX3 yX3_takeNewName yX3_takeNewName : Cond) ∈ m_ws := m_ww (i := 13) rfl rfl
theorem w_1309 : (.selects RX3 yX3_nameHere yX3_nameHere : Cond) ∈ m_ws := m_ww (i := 14) rfl rfl
theorem w_1310 : (.selects RX3 yX3_readPoint yX3_readPoint : Cond) ∈ m_ws := m_ww (i := 15) rfl rfl
theorem w_1311 : (.selects RX3 yX3_readCase yX3_readCase : Cond) ∈ m_ws := m_ww (i := 16) rfl rfl
theorem w_1312 : (.selects RX3 yX3_readCassette yX3_readCassette : Cond) ∈ m_ws := m_ww (i := 17) rfl rfl
theorem w_1313 : (.selects RX3 yX3_knownName yX3_knownName : Cond) ∈ m_ws := m_ww (i := 18) rfl rfl
theorem w_1314 : (.selects RX8 yX8_kindAt yX8_kindAt : Cond) ∈ m_ws := m_ww (i := 19) rfl rfl
theorem w_1315 : (.selects RX8 yX8_vitrineAt yX8_vitrineAt : Cond) ∈ m_ws := m_ww (i := 20) rfl rfl
theorem w_1316 : (.selects RX8 yX8_logbookAt yX8_logbookAt : Cond) ∈ m_ws := m_ww (i := 21) rfl rfl
theorem w_1317 : (.selects RX8 yX8_requireAnHour yX8_requireAnHour : Cond) ∈ m_ws := m_ww (i := 22) rfl rfl
theorem w_1318 : (.selects RX8 yX8_requireHumidity yX8_requireHumidity : Cond) ∈ m_ws := m_ww (i := 23) rfl rfl
theorem w_1319 : (.selects RX8 yX8_requireHours yX8_requireHours : Cond) ∈ m_ws := m_ww (i := 24) rfl rfl
theorem w_1320 : (.selects RX8 yX8_foreseeRooms yX8_foreseeRooms : Cond) ∈ m_ws := m_ww (i := 25) rfl rfl
theorem w_1321 : (.selects RX8 yX8_unsafeHoursOfTrial yX8_unsafeHoursOfTrial : Cond) ∈ m_ws := m_ww (i := 26) rfl rfl
theorem w_1322 : (.selects RX8 yX8_requireSlot yX8_requireSlot : Cond) ∈ m_ws := m_ww (i := 27) rfl rfl
theorem w_1323 : (.selects RX9 yX9_plain yX9_plain : Cond) ∈ m_ws := m_ww (i := 28) rfl rfl
theorem w_1324 : (.selects RX9 yX9_takes yX9_takes : Cond) ∈ m_ws := m_ww (i := 29) rfl rfl
theorem w_1325 : (.selects RX9 yX9_of yX9_of : Cond) ∈ m_ws := m_ww (i := 30) rfl rfl
theorem w_1326 : (.selects RX9 yX9_its yX9_its : Cond) ∈ m_ws := m_ww (i := 31) rfl rfl
theorem w_1327 : (.selects RX9 yX9_wouldHave yX9_wouldHave : Cond) ∈ m_ws := m_ww (i := 32) rfl rfl
theorem w_1328 : (.selects RX9 yX9_contentOf yX9_contentOf : Cond) ∈ m_ws := m_ww (i := 33) rfl rfl
theorem w_1329 : (.selects RX9 yX9_cassettes yX9_cassettes : Cond) ∈ m_ws := m_ww (i := 34) rfl rfl
theorem w_1330 : (.selects RX9 yX9_lays yX9_lays : Cond) ∈ m_ws := m_ww (i := 35) rfl rfl
theorem w_1331 : (.selects RX9 yX9_moistureOf yX9_moistureOf : Cond) ∈ m_ws := m_ww (i := 36) rfl rfl
theorem w_1332 : (.selects RX9 yX9_inCassettes yX9_inCassettes : Cond) ∈ m_ws := m_ww (i := 37) rfl rfl
theorem w_1333 : (.selects RX9 yX9_may yX9_may : Cond) ∈ m_ws := m_ww (i := 38) rfl rfl
theorem w_1334 : (.selects RX9 yX9_token yX9_token : Cond) ∈ m_ws := m_ww (i := 39) rfl rfl
theorem w_1335 : (.selects RX9 yX9_at yX9_at : Cond) ∈ m_ws := m_ww (i := 40) rfl rfl
theorem w_1336 : (.selects RX9 yX9_reads yX9_reads : Cond) ∈ m_ws := m_ww (i := 41) rfl rfl
theorem w_1337 : (.selects RX9 yX9_takesWord yX9_takesWord : Cond) ∈ m_ws := m_ww (i := 42) rfl rfl
theorem w_1338 : (.selects RX9 yX9_isWord yX9_isWord : Cond) ∈ m_ws := m_ww (i := 43) rfl rfl
theorem w_1339 : (.selects RX9 yX9_isWrong yX9_isWrong : Cond) ∈ m_ws := m_ww (i := 44) rfl rfl
theorem w_1340 : (.selects RX9 yX9_fails yX9_fails : Cond) ∈ m_ws := m_ww (i := 45) rfl rfl
theorem w_1341 : (.selects RX9 yX9_figure yX9_figure : Cond) ∈ m_ws := m_ww (i := 46) rfl rfl
theorem w_1342 : (.selects RX9 yX9_ends yX9_ends : Cond) ∈ m_ws := m_ww (i := 47) rfl rfl
theorem w_1343 : (.selects RX9 yX9_season yX9_season : Cond) ∈ m_ws := m_ww (i := 48) rfl rfl
theorem w_1344 : (.selects RX9 yX9_begins yX9_begins : Cond) ∈ m_ws := m_ww (i := 49) rfl rfl
theorem w_1345 : (.selects RX9 yX9_visitors yX9_visitors : Cond) ∈ m_ws := m_ww (i := 50) rfl rfl
theorem w_1346 : (.selects RX9 yX9_kind yX9_kind : Cond) ∈ m_ws := m_ww (i := 51) rfl rfl
theorem w_1347 : (.selects RX9 yX9_newName yX9_newName : Cond) ∈ m_ws := m_ww (i := 52) rfl rfl
theorem w_1348 : (.selects RX9 yX9_named yX9_named : Cond) ∈ m_ws := m_ww (i := 53) rfl rfl
theorem w_1349 : (.selects RX9 yX9_point yX9_point : Cond) ∈ m_ws := m_ww (i := 54) rfl rfl
theorem w_1350 : (.selects RX9 yX9_oneCase yX9_oneCase : Cond) ∈ m_ws := m_ww (i := 55) rfl rfl
theorem w_1351 : (.selects RX9 yX9_oneCassette yX9_oneCassette : Cond) ∈ m_ws := m_ww (i := 56) rfl rfl
theorem w_1352 : (.selects RX9 yX9_cassettesInAll yX9_cassettesInAll : Cond) ∈ m_ws := m_ww (i := 57) rfl rfl
theorem w_1353 : (.selects RX9 yX9_roomNow yX9_roomNow : Cond) ∈ m_ws := m_ww (i := 58) rfl rfl
theorem w_1354 : (.selects RX9 yX9_setOn yX9_setOn : Cond) ∈ m_ws := m_ww (i := 59) rfl rfl
theorem w_1355 : (.selects RX9 yX9_isKind yX9_isKind : Cond) ∈ m_ws := m_ww (i := 60) rfl rfl
theorem w_1356 : (.selects RX9 yX9_isCase yX9_isCase : Cond) ∈ m_ws := m_ww (i := 61) rfl rfl
theorem w_1357 : (.selects RX9 yX9_humidityOf yX9_humidityOf : Cond) ∈ m_ws := m_ww (i := 62) rfl rfl
theorem w_1358 : (.selects RX9 yX9_recordOf yX9_recordOf : Cond) ∈ m_ws := m_ww (i := 63) rfl rfl
theorem w_1359 : (.selects RX9 yX9_counts yX9_counts : Cond) ∈ m_ws := m_ww (i := 64) rfl rfl
theorem w_1360 : (.selects RX9 yX9_ownHumidity yX9_ownHumidity : Cond) ∈ m_ws := m_ww (i := 65) rfl rfl
theorem w_1361 : (.selects RX9 yX9_finds yX9_finds : Cond) ∈ m_ws := m_ww (i := 66) rfl rfl
theorem w_1362 : (.selects RX9 yX9_newSerial yX9_newSerial : Cond) ∈ m_ws := m_ww (i := 67) rfl rfl
theorem w_1363 : (.selects RX9 yX9_addsTo yX9_addsTo : Cond) ∈ m_ws := m_ww (i := 68) rfl rfl
theorem w_1364 : (.selects RX9 yX9_puts yX9_puts : Cond) ∈ m_ws := m_ww (i := 69) rfl rfl
theorem w_1365 : (.selects RX9 yX9_goes yX9_goes : Cond) ∈ m_ws := m_ww (i := 70) rfl rfl
theorem w_1366 : (.selects RX9 yX9_exchanges yX9_exchanges : Cond) ∈ m_ws := m_ww (i := 71) rfl rfl
theorem w_1367 : (.selects RX9 yX9_hours yX9_hours : Cond) ∈ m_ws := m_ww (i := 72) rfl rfl
theorem w_1368 : (.selects RX9 yX9_hour yX9_hour : Cond) ∈ m_ws := m_ww (i := 73) rfl rfl
theorem w_1369 : (.selects RX9 yX9_airs yX9_airs : Cond) ∈ m_ws := m_ww (i := 74) rfl rfl
theorem w_1370 : (.selects RX9 yX9_records yX9_records : Cond) ∈ m_ws := m_ww (i := 75) rfl rfl
theorem w_1371 : (.selects RX9 yX9_setsAside yX9_setsAside : Cond) ∈ m_ws := m_ww (i := 76) rfl rfl
theorem w_1372 : (.selects RX9 yX9_bringsBack yX9_bringsBack : Cond) ∈ m_ws := m_ww (i := 77) rfl rfl
theorem uX0 : ∀ w ∈ wsX00, w ∈ m_ws := by
  intro w h
  obtain ⟨j, hj, rfl⟩ := List.mem_map.mp h
  have hj := List.mem_range.mp hj
  rcases (show j = 0 ∨ j = 1 ∨ j = 2 ∨ j = 3 by omega) with rfl | rfl | rfl | rfl
  · exact w_96
  · exact w_97
  · exact w_98
  · exact w_99
theorem uX1 : ∀ w ∈ wsX10, w ∈ m_ws := by
  intro w h
  obtain ⟨j, hj, rfl⟩ := List.mem_map.mp h
  have hj := List.mem_range.mp hj
  rcases (show j = 0 ∨ j = 1 ∨ j = 2 ∨ j = 3 ∨ j = 4 by omega) with rfl | rfl | rfl | rfl | rfl
  · exact w_76
  · exact w_77
  · exact w_78
  · exact w_79
  · exact w_80
theorem uX2 : ∀ w ∈ wsX20, w ∈ m_ws := by
  intro w h
  obtain ⟨j, hj, rfl⟩ := List.mem_map.mp h
  have hj := List.mem_range.mp hj
  rcases (show j = 0 ∨ j = 1 ∨ j = 2 ∨ j = 3 ∨ j = 4 ∨ j = 5 ∨ j = 6 ∨ j = 7 ∨ j = 8 by omega) with rfl | rfl | rfl | rfl | rfl | rfl | rfl | rfl | rfl
  · exact w_169
  · exact w_170
  · exact w_171
  · exact w_172
  · exact w_173
  · exact w_174
  · exact w_175
  · exact w_176
  · exact w_177
theorem uX3 : ∀ w ∈ wsX30, w ∈ m_ws := by
  intro w h
  obtain ⟨j, hj, rfl⟩ := List.mem_map.mp h
  have hj := List.mem_range.mp hj
  rcases (show j = 0 ∨ j = 1 ∨ j = 2 ∨ j = 3 ∨ j = 4 ∨ j = 5 ∨ j = 6 ∨ j = 7 ∨ j = 8 ∨ j = 9 by omega) with rfl | rfl | rfl | rfl | rfl | rfl | rfl | rfl | rfl | rfl
  · exact w_47
  · exact w_48
  · exact w_49
  · exact w_50
  · exact w_51
  · exact w_52
  · exact w_53
  · exact w_54
  · exact w_55
  · exact w_56
theorem uX4 : ∀ w ∈ wsX40, w ∈ m_ws := by
  intro w h
  obtain ⟨j, hj, rfl⟩ := List.mem_map.mp h
  have hj := List.mem_range.mp hj
  rcases (show j = 0 ∨ j = 1 ∨ j = 2 by omega) with rfl | rfl | rfl
  · exact w_150
  · exact w_151
  · exact w_152
theorem uX5 : ∀ w ∈ wsX50, w ∈ m_ws := by
  intro w h
  obtain ⟨j, hj, rfl⟩ := List.mem_map.mp h
  have hj := List.mem_range.mp hj
  rcases (show j = 0 ∨ j = 1 ∨ j = 2 ∨ j = 3 ∨ j = 4 ∨ j = 5 ∨ j = 6 ∨ j = 7 ∨ j = 8 ∨ j = 9 ∨ j = 10 by omega) with rfl | rfl | rfl | rfl | rfl | rfl | rfl | rfl | rfl | rfl | rfl
  · exact w_125
  · exact w_126
  · exact w_127
  · exact w_128
  · exact w_129
  · exact w_130
  · exact w_131
  · exact w_132
  · exact w_133
  · exact w_134
  · exact w_135
theorem uX6 : ∀ w ∈ wsX60, w ∈ m_ws := by
  intro w h
  obtain ⟨j, hj, rfl⟩ := List.mem_map.mp h
  have hj := List.mem_range.mp hj
  rcases (show j = 0 ∨ j = 1 ∨ j = 2 ∨ j = 3 ∨ j = 4 by omega) with rfl | rfl | rfl | rfl | rfl
  · exact w_183
  · exact w_184
  · exact w_185
  · exact w_186
  · exact w_187
theorem uX7 : ∀ w ∈ wsX70, w ∈ m_ws := by
  intro w h
  obtain ⟨j, hj, rfl⟩ := List.mem_map.mp h
  have hj := List.mem_range.mp hj
  rcases (show j = 0 ∨ j = 1 ∨ j = 2 ∨ j = 3 ∨ j = 4 ∨ j = 5 ∨ j = 6 by omega) with rfl | rfl | rfl | rfl | rfl | rfl | rfl
  · exact w_107
  · exact w_108
  · exact w_109
  · exact w_110
  · exact w_111
  · exact w_112
  · exact w_113
theorem uX8 : ∀ w ∈ wsX80, w ∈ m_ws := by
  intro w h
  obtain ⟨j, hj, rfl⟩ := List.mem_map.mp h
  have hj := List.mem_range.mp hj
  rcases (show j = 0 ∨ j = 1 ∨ j = 2 ∨ j = 3 ∨ j = 4 ∨ j = 5 ∨ j = 6 ∨ j = 7 ∨ j = 8 by omega) with rfl | rfl | rfl | rfl | rfl | rfl | rfl | rfl | rfl
  · exact w_200
  · exact w_201
  · exact w_202
  · exact w_203
  · exact w_204
  · exact w_205
  · exact w_206
  · exact w_207
  · exact w_208
theorem uX9 : ∀ w ∈ wsX90, w ∈ m_ws := by
  intro w h
  obtain ⟨j, hj, rfl⟩ := List.mem_map.mp h
  have hj := List.mem_range.mp hj
  rcases (show j = 0 ∨ j = 1 ∨ j = 2 ∨ j = 3 ∨ j = 4 ∨ j = 5 ∨ j = 6 ∨ j = 7 ∨ j = 8 ∨ j = 9 ∨ j = 10 ∨ j = 11 ∨ j = 12 ∨ j = 13 ∨ j = 14 ∨ j = 15 ∨ j = 16 ∨ j = 17 ∨ j = 18 ∨ j = 19 ∨ j = 20 ∨ j = 21 ∨ j = 22 ∨ j = 23 ∨ j = 24 ∨ j = 25 by omega) with rfl | rfl | rfl | rfl | rfl | rfl | rfl | rfl | rfl | rfl | rfl | rfl | rfl | rfl | rfl | rfl | rfl | rfl | rfl | rfl | rfl | rfl | rfl | rfl | rfl | rfl
  · exact w_990
  · exact w_991
  · exact w_992
  · exact w_993
  · exact w_994
  · exact w_995
  · exact w_996
  · exact w_997
  · exact w_998
  · exact w_999
  · exact w_1000
  · exact w_1001
  · exact w_1002
  · exact w_1003
  · exact w_1004
  · exact w_1005
  · exact w_1006
  · exact w_1007
  · exact w_1008
  · exact w_1009
  · exact w_1010
  · exact w_1011
  · exact w_1012
  · exact w_1013
  · exact w_1014
  · exact w_1015
