theorem wd_0 : Cond.classLink RL 7 RX6 ∈ GW := wdg (i := 77) (by decide +kernel) rfl
theorem wd_1 : Cond.instantiable RX6 8 ∈ GW := wdg (i := 78) (by decide +kernel) rfl
theorem wd_2 : Cond.initialized RX6 ∈ GW := wdg (i := 67) (by decide +kernel) rfl
theorem wd_3 : Cond.classLink RL 10 RX7 ∈ GW := wdg (i := 765) (by decide +kernel) rfl
theorem wd_4 : Cond.instantiable RX7 22 ∈ GW := wdg (i := 766) (by decide +kernel) rfl
theorem wd_5 : Cond.initialized RX7 ∈ GW := wdg (i := 74) (by decide +kernel) rfl
theorem wd_6 : Cond.constantLong RL 61 (4294967295) ∈ GW := wdg (i := 1236) (by decide +kernel) rfl
theorem wd_7 : Cond.methodLink RL 9 yX6_init ∈ GW := wdg (i := 79) (by decide +kernel) rfl
theorem wd_8 : Cond.instanceMethod yX6_init ∈ GW := wdg (i := 80) (by decide +kernel) rfl
theorem wd_9 : Cond.code yX6_init cX6_init 2 none ∈ GW := wdg (i := 81) (by decide +kernel) rfl
theorem wd_10 : Cond.methodLink RX6 3 objectInit ∈ GW := wdg (i := 82) (by decide +kernel) rfl
theorem wd_11 : Cond.instanceMethod objectInit ∈ GW := wdg (i := 83) (by decide +kernel) rfl
theorem wd_12 : Cond.code objectInit ⟨#[0xb1]⟩ 1 none ∈ GW := wdg (i := 84) (by decide +kernel) rfl
theorem wd_13 : Cond.classLink RX6 9 RX5 ∈ GW := wdg (i := 85) (by decide +kernel) rfl
theorem wd_14 : Cond.instantiable RX5 15 ∈ GW := wdg (i := 86) (by decide +kernel) rfl
theorem wd_15 : Cond.initialized RX5 ∈ GW := wdg (i := 68) (by decide +kernel) rfl
theorem wd_16 : Cond.fieldLink RX6 12 "DirtPress" "world" "LDirtPress$World;" ∈ GW := wdg (i := 266) (by decide +kernel) rfl
theorem wd_17 : Cond.fieldLink RX6 16 "DirtPress" "kept" "LDirtPress$World;" ∈ GW := wdg (i := 267) (by decide +kernel) rfl
theorem wd_18 : Cond.arrayClass .int ∈ GW := wdg (i := 107) (by decide +kernel) rfl
theorem wd_19 : Cond.fieldLink RX6 19 "DirtPress" "errors" "[I" ∈ GW := wdg (i := 269) (by decide +kernel) rfl
theorem wd_20 : Cond.classLink RX6 23 RX1 ∈ GW := wdg (i := 172) (by decide +kernel) rfl
theorem wd_21 : Cond.fieldLink RX6 25 "DirtPress" "sheets" "[LDirtPress$Sheet;" ∈ GW := wdg (i := 270) (by decide +kernel) rfl
theorem wd_22 : Cond.instantiable RX1 3 ∈ GW := wdg (i := 174) (by decide +kernel) rfl
theorem wd_23 : Cond.initialized RX1 ∈ GW := wdg (i := 70) (by decide +kernel) rfl
theorem wd_24 : Cond.classLink RX6 30 RX0 ∈ GW := wdg (i := 194) (by decide +kernel) rfl
theorem wd_25 : Cond.instantiable RX0 6 ∈ GW := wdg (i := 195) (by decide +kernel) rfl
theorem wd_26 : Cond.initialized RX0 ∈ GW := wdg (i := 71) (by decide +kernel) rfl
theorem wd_27 : Cond.fieldLink RX6 33 "DirtPress" "reader" "LDirtPress$Reader;" ∈ GW := wdg (i := 271) (by decide +kernel) rfl
theorem wd_28 : Cond.classLink RX6 37 RX4 ∈ GW := wdg (i := 222) (by decide +kernel) rfl
theorem wd_29 : Cond.instantiable RX4 3 ∈ GW := wdg (i := 223) (by decide +kernel) rfl
theorem wd_30 : Cond.initialized RX4 ∈ GW := wdg (i := 72) (by decide +kernel) rfl
theorem wd_31 : Cond.fieldLink RX6 40 "DirtPress" "thought" "LDirtPress$Thought;" ∈ GW := wdg (i := 272) (by decide +kernel) rfl
theorem wd_32 : Cond.classLink RX6 44 RX2 ∈ GW := wdg (i := 238) (by decide +kernel) rfl
theorem wd_33 : Cond.instantiable RX2 6 ∈ GW := wdg (i := 239) (by decide +kernel) rfl
theorem wd_34 : Cond.initialized RX2 ∈ GW := wdg (i := 73) (by decide +kernel) rfl
theorem wd_35 : Cond.fieldLink RX6 47 "DirtPress" "latest" "LDirtPress$Speech;" ∈ GW := wdg (i := 273) (by decide +kernel) rfl
theorem wd_36 : Cond.instanceMethod yX5_init ∈ GW := wdg (i := 88) (by decide +kernel) rfl
theorem wd_37 : Cond.code yX5_init cX5_init 1 none ∈ GW := wdg (i := 89) (by decide +kernel) rfl
theorem wd_38 : Cond.methodLink RX5 3 objectInit ∈ GW := wdg (i := 90) (by decide +kernel) rfl
theorem wd_39 : Cond.fieldLink RX5 9 "DirtPress$World" "km" "[I" ∈ GW := wdg (i := 111) (by decide +kernel) rfl
theorem wd_40 : Cond.fieldLink RX5 15 "DirtPress$World" "father" "[I" ∈ GW := wdg (i := 113) (by decide +kernel) rfl
theorem wd_41 : Cond.fieldLink RX5 18 "DirtPress$World" "mother" "[I" ∈ GW := wdg (i := 115) (by decide +kernel) rfl
theorem wd_42 : Cond.fieldLink RX5 21 "DirtPress$World" "from" "[I" ∈ GW := wdg (i := 117) (by decide +kernel) rfl
theorem wd_43 : Cond.fieldLink RX5 24 "DirtPress$World" "spoons" "[I" ∈ GW := wdg (i := 119) (by decide +kernel) rfl
theorem wd_44 : Cond.fieldLink RX5 27 "DirtPress$World" "owed" "[I" ∈ GW := wdg (i := 122) (by decide +kernel) rfl
theorem wd_45 : Cond.fieldLink RX5 30 "DirtPress$World" "z" "I" ∈ GW := wdg (i := 127) (by decide +kernel) rfl
theorem wd_46 : Cond.fieldLink RX5 34 "DirtPress$World" "tape" "[I" ∈ GW := wdg (i := 129) (by decide +kernel) rfl
theorem wd_47 : Cond.classLink RX5 37 RX3 ∈ GW := wdg (i := 91) (by decide +kernel) rfl
theorem wd_48 : Cond.instantiable RX3 3 ∈ GW := wdg (i := 92) (by decide +kernel) rfl
theorem wd_49 : Cond.initialized RX3 ∈ GW := wdg (i := 69) (by decide +kernel) rfl
theorem wd_50 : Cond.fieldLink RX5 40 "DirtPress$World" "gainText" "LDirtPress$Text;" ∈ GW := wdg (i := 135) (by decide +kernel) rfl
theorem wd_51 : Cond.fieldLink RX5 44 "DirtPress$World" "worthText" "LDirtPress$Text;" ∈ GW := wdg (i := 136) (by decide +kernel) rfl
theorem wd_52 : Cond.fieldLink RX5 47 "DirtPress$World" "waiting" "[I" ∈ GW := wdg (i := 137) (by decide +kernel) rfl
theorem wd_53 : Cond.instanceMethod yX3_init ∈ GW := wdg (i := 94) (by decide +kernel) rfl
theorem wd_54 : Cond.code yX3_init cX3_init 1 none ∈ GW := wdg (i := 95) (by decide +kernel) rfl
theorem wd_55 : Cond.methodLink RX3 3 objectInit ∈ GW := wdg (i := 96) (by decide +kernel) rfl
theorem wd_56 : Cond.fieldLink RX3 9 "DirtPress$Text" "parts" "[I" ∈ GW := wdg (i := 97) (by decide +kernel) rfl
theorem wd_57 : Cond.fieldLink RX3 15 "DirtPress$Text" "stack" "[I" ∈ GW := wdg (i := 98) (by decide +kernel) rfl
theorem wd_58 : Cond.instanceMethod yX1_init ∈ GW := wdg (i := 176) (by decide +kernel) rfl
theorem wd_59 : Cond.code yX1_init cX1_init 1 none ∈ GW := wdg (i := 177) (by decide +kernel) rfl
theorem wd_60 : Cond.methodLink RX1 3 objectInit ∈ GW := wdg (i := 178) (by decide +kernel) rfl
theorem wd_61 : Cond.fieldLink RX1 9 "DirtPress$Sheet" "numbers" "[I" ∈ GW := wdg (i := 179) (by decide +kernel) rfl
theorem wd_62 : Cond.instanceMethod yX0_init ∈ GW := wdg (i := 197) (by decide +kernel) rfl
theorem wd_63 : Cond.code yX0_init cX0_init 1 none ∈ GW := wdg (i := 198) (by decide +kernel) rfl
theorem wd_64 : Cond.methodLink RX0 3 objectInit ∈ GW := wdg (i := 199) (by decide +kernel) rfl
theorem wd_65 : Cond.classLink RX0 9 RX3 ∈ GW := wdg (i := 200) (by decide +kernel) rfl
theorem wd_66 : Cond.fieldLink RX0 12 "DirtPress$Reader" "made" "LDirtPress$Text;" ∈ GW := wdg (i := 202) (by decide +kernel) rfl
theorem wd_67 : Cond.fieldLink RX0 18 "DirtPress$Reader" "tape" "[I" ∈ GW := wdg (i := 204) (by decide +kernel) rfl
theorem wd_68 : Cond.instanceMethod yX4_init ∈ GW := wdg (i := 225) (by decide +kernel) rfl
theorem wd_69 : Cond.code yX4_init cX4_init 1 none ∈ GW := wdg (i := 226) (by decide +kernel) rfl
theorem wd_70 : Cond.methodLink RX4 3 objectInit ∈ GW := wdg (i := 227) (by decide +kernel) rfl
theorem wd_71 : Cond.fieldLink RX4 9 "DirtPress$Thought" "cells" "[I" ∈ GW := wdg (i := 228) (by decide +kernel) rfl
theorem wd_72 : Cond.fieldLink RX4 15 "DirtPress$Thought" "sums" "[I" ∈ GW := wdg (i := 229) (by decide +kernel) rfl
theorem wd_73 : Cond.fieldLink RX4 18 "DirtPress$Thought" "groups" "[I" ∈ GW := wdg (i := 230) (by decide +kernel) rfl
theorem wd_74 : Cond.instanceMethod yX2_init ∈ GW := wdg (i := 241) (by decide +kernel) rfl
theorem wd_75 : Cond.code yX2_init cX2_init 1 none ∈ GW := wdg (i := 242) (by decide +kernel) rfl
theorem wd_76 : Cond.methodLink RX2 3 objectInit ∈ GW := wdg (i := 243) (by decide +kernel) rfl
theorem wd_77 : Cond.fieldLink RX2 9 "DirtPress$Speech" "bodies" "[I" ∈ GW := wdg (i := 244) (by decide +kernel) rfl
theorem wd_78 : Cond.methodLink RL 12 yX7_init ∈ GW := wdg (i := 767) (by decide +kernel) rfl
theorem wd_79 : Cond.instanceMethod yX7_init ∈ GW := wdg (i := 768) (by decide +kernel) rfl
theorem wd_80 : Cond.code yX7_init cX7_init 1 none ∈ GW := wdg (i := 769) (by decide +kernel) rfl
theorem wd_81 : Cond.methodLink RX7 1 objectInit ∈ GW := wdg (i := 770) (by decide +kernel) rfl
theorem wd_82 : Cond.fieldLink RX7 7 "DirtPressModel" "s" "[I" ∈ GW := wdg (i := 771) (by decide +kernel) rfl
theorem wd_83 : Cond.fieldLink RX7 13 "DirtPressModel" "kept" "[I" ∈ GW := wdg (i := 772) (by decide +kernel) rfl
theorem wd_84 : Cond.fieldLink RX7 16 "DirtPressModel" "laid" "[I" ∈ GW := wdg (i := 773) (by decide +kernel) rfl
theorem wd_85 : Cond.fieldLink RX7 19 "DirtPressModel" "errors" "[I" ∈ GW := wdg (i := 775) (by decide +kernel) rfl
theorem wd_86 : Cond.fieldLink RX7 22 "DirtPressModel" "step" "[I" ∈ GW := wdg (i := 780) (by decide +kernel) rfl
theorem wd_87 : Cond.fieldLink RX7 25 "DirtPressModel" "named" "[I" ∈ GW := wdg (i := 781) (by decide +kernel) rfl
theorem wd_88 : Cond.fieldLink RX7 28 "DirtPressModel" "pile" "[I" ∈ GW := wdg (i := 782) (by decide +kernel) rfl
theorem wd_89 : Cond.fieldLink RX7 31 "DirtPressModel" "sums1" "[I" ∈ GW := wdg (i := 783) (by decide +kernel) rfl
theorem wd_90 : Cond.fieldLink RX7 34 "DirtPressModel" "parts1" "[I" ∈ GW := wdg (i := 784) (by decide +kernel) rfl
theorem wd_91 : Cond.fieldLink RX7 37 "DirtPressModel" "trace" "[I" ∈ GW := wdg (i := 786) (by decide +kernel) rfl
theorem wd_92 : Cond.fieldLink RX7 40 "DirtPressModel" "bits" "[I" ∈ GW := wdg (i := 789) (by decide +kernel) rfl
theorem wd_93 : Cond.fieldLink RX7 43 "DirtPressModel" "sizes" "[I" ∈ GW := wdg (i := 790) (by decide +kernel) rfl
theorem wd_94 : Cond.fieldLink RX7 46 "DirtPressModel" "number" "[I" ∈ GW := wdg (i := 791) (by decide +kernel) rfl
theorem wd_95 : Cond.fieldLink RX7 49 "DirtPressModel" "aside" "[I" ∈ GW := wdg (i := 792) (by decide +kernel) rfl
theorem wd_96 : Cond.methodLink RL 13 yX6_person ∈ GW := wdg (i := 291) (by decide +kernel) rfl
theorem wd_97 : Cond.instanceMethod yX6_person ∈ GW := wdg (i := 292) (by decide +kernel) rfl
theorem wd_98 : Cond.selects RX6 yX6_person yX6_person ∈ GW := wdg (i := 293) (by decide +kernel) rfl
theorem wd_99 : Cond.code yX6_person cX6_person 2 (some .int) ∈ GW := wdg (i := 294) (by decide +kernel) rfl
theorem wd_100 : Cond.fieldLink RX6 59 "DirtPress$World" "people" "I" ∈ GW := wdg (i := 109) (by decide +kernel) rfl
theorem wd_101 : Cond.methodLink RX6 51 yX6_notKm ∈ GW := wdg (i := 295) (by decide +kernel) rfl
theorem wd_102 : Cond.static yX6_notKm ∈ GW := wdg (i := 296) (by decide +kernel) rfl
theorem wd_103 : Cond.code yX6_notKm cX6_notKm 1 (some .boolean) ∈ GW := wdg (i := 297) (by decide +kernel) rfl
theorem wd_104 : Cond.methodLink RX6 115 yX6_notWithin ∈ GW := wdg (i := 298) (by decide +kernel) rfl
theorem wd_105 : Cond.static yX6_notWithin ∈ GW := wdg (i := 299) (by decide +kernel) rfl
theorem wd_106 : Cond.code yX6_notWithin cX6_notWithin 3 (some .boolean) ∈ GW := wdg (i := 300) (by decide +kernel) rfl
theorem wd_107 : Cond.methodLink RX6 55 yX6_error ∈ GW := wdg (i := 301) (by decide +kernel) rfl
theorem wd_108 : Cond.instanceMethod yX6_error ∈ GW := wdg (i := 303) (by decide +kernel) rfl
theorem wd_109 : Cond.selects RX6 yX6_error yX6_error ∈ GW := wdg (i := 0) (by decide +kernel) rfl
theorem wd_110 : Cond.code yX6_error cX6_error 2 (some .int) ∈ GW := wdg (i := 304) (by decide +kernel) rfl
theorem wd_111 : Cond.constant RX6 294 (-1000000000) ∈ GW := wdg (i := 305) (by decide +kernel) rfl
theorem wd_112 : Cond.methodLink RX6 63 yX5_addOrphan ∈ GW := wdg (i := 306) (by decide +kernel) rfl
theorem wd_113 : Cond.instanceMethod yX5_addOrphan ∈ GW := wdg (i := 307) (by decide +kernel) rfl
theorem wd_114 : Cond.selects RX5 yX5_addOrphan yX5_addOrphan ∈ GW := wdg (i := 308) (by decide +kernel) rfl
theorem wd_115 : Cond.code yX5_addOrphan cX5_addOrphan 3 (some .int) ∈ GW := wdg (i := 309) (by decide +kernel) rfl
theorem wd_116 : Cond.fieldLink RX5 50 "DirtPress$World" "people" "I" ∈ GW := wdg (i := 108) (by decide +kernel) rfl
theorem wd_117 : Cond.methodLink RL 17 yX7_person ∈ GW := wdg (i := 903) (by decide +kernel) rfl
theorem wd_118 : Cond.instanceMethod yX7_person ∈ GW := wdg (i := 904) (by decide +kernel) rfl
theorem wd_119 : Cond.selects RX7 yX7_person yX7_person ∈ GW := wdg (i := 905) (by decide +kernel) rfl
theorem wd_120 : Cond.code yX7_person cX7_person 2 (some .int) ∈ GW := wdg (i := 906) (by decide +kernel) rfl
theorem wd_121 : Cond.methodLink RX7 150 yX7_isKind ∈ GW := wdg (i := 907) (by decide +kernel) rfl
theorem wd_122 : Cond.static yX7_isKind ∈ GW := wdg (i := 908) (by decide +kernel) rfl
theorem wd_123 : Cond.code yX7_isKind cX7_isKind 1 (some .boolean) ∈ GW := wdg (i := 909) (by decide +kernel) rfl
theorem wd_124 : Cond.methodLink RX7 53 yX7_in ∈ GW := wdg (i := 842) (by decide +kernel) rfl
theorem wd_125 : Cond.static yX7_in ∈ GW := wdg (i := 843) (by decide +kernel) rfl
theorem wd_126 : Cond.code yX7_in cX7_in 3 (some .boolean) ∈ GW := wdg (i := 844) (by decide +kernel) rfl
theorem wd_127 : Cond.methodLink RX7 65 yX7_error ∈ GW := wdg (i := 845) (by decide +kernel) rfl
theorem wd_128 : Cond.instanceMethod yX7_error ∈ GW := wdg (i := 847) (by decide +kernel) rfl
theorem wd_129 : Cond.selects RX7 yX7_error yX7_error ∈ GW := wdg (i := 14) (by decide +kernel) rfl
theorem wd_130 : Cond.code yX7_error cX7_error 2 (some .int) ∈ GW := wdg (i := 848) (by decide +kernel) rfl
theorem wd_131 : Cond.constant RX7 52 (-1000000000) ∈ GW := wdg (i := 849) (by decide +kernel) rfl
theorem wd_132 : Cond.methodLink RX7 153 yX7_born ∈ GW := wdg (i := 910) (by decide +kernel) rfl
theorem wd_133 : Cond.instanceMethod yX7_born ∈ GW := wdg (i := 912) (by decide +kernel) rfl
theorem wd_134 : Cond.selects RX7 yX7_born yX7_born ∈ GW := wdg (i := 26) (by decide +kernel) rfl
theorem wd_135 : Cond.code yX7_born cX7_born 6 (some .int) ∈ GW := wdg (i := 913) (by decide +kernel) rfl
theorem wd_136 : Cond.methodLink RX7 147 yX7_lays1 ∈ GW := wdg (i := 914) (by decide +kernel) rfl
theorem wd_137 : Cond.instanceMethod yX7_lays1 ∈ GW := wdg (i := 916) (by decide +kernel) rfl
theorem wd_138 : Cond.selects RX7 yX7_lays1 yX7_lays1 ∈ GW := wdg (i := 27) (by decide +kernel) rfl
theorem wd_139 : Cond.code yX7_lays1 cX7_lays1 4 none ∈ GW := wdg (i := 917) (by decide +kernel) rfl
theorem wd_140 : Cond.methodLink RX7 57 yX7_has ∈ GW := wdg (i := 918) (by decide +kernel) rfl
theorem wd_141 : Cond.instanceMethod yX7_has ∈ GW := wdg (i := 920) (by decide +kernel) rfl
theorem wd_142 : Cond.selects RX7 yX7_has yX7_has ∈ GW := wdg (i := 28) (by decide +kernel) rfl
theorem wd_143 : Cond.code yX7_has cX7_has 3 (some .int) ∈ GW := wdg (i := 921) (by decide +kernel) rfl
theorem wd_144 : Cond.methodLink RL 18 yX6_child ∈ GW := wdg (i := 310) (by decide +kernel) rfl
theorem wd_145 : Cond.instanceMethod yX6_child ∈ GW := wdg (i := 311) (by decide +kernel) rfl
theorem wd_146 : Cond.selects RX6 yX6_child yX6_child ∈ GW := wdg (i := 312) (by decide +kernel) rfl
theorem wd_147 : Cond.code yX6_child cX6_child 4 (some .int) ∈ GW := wdg (i := 313) (by decide +kernel) rfl
theorem wd_148 : Cond.methodLink RX6 66 yX6_notTwo ∈ GW := wdg (i := 314) (by decide +kernel) rfl
theorem wd_149 : Cond.instanceMethod yX6_notTwo ∈ GW := wdg (i := 316) (by decide +kernel) rfl
theorem wd_150 : Cond.selects RX6 yX6_notTwo yX6_notTwo ∈ GW := wdg (i := 1) (by decide +kernel) rfl
theorem wd_151 : Cond.code yX6_notTwo cX6_notTwo 3 (some .boolean) ∈ GW := wdg (i := 317) (by decide +kernel) rfl
theorem wd_152 : Cond.methodLink RX6 74 yX6_notOne ∈ GW := wdg (i := 318) (by decide +kernel) rfl
theorem wd_153 : Cond.instanceMethod yX6_notOne ∈ GW := wdg (i := 320) (by decide +kernel) rfl
theorem wd_154 : Cond.selects RX6 yX6_notOne yX6_notOne ∈ GW := wdg (i := 2) (by decide +kernel) rfl
theorem wd_155 : Cond.code yX6_notOne cX6_notOne 2 (some .boolean) ∈ GW := wdg (i := 321) (by decide +kernel) rfl
theorem wd_156 : Cond.methodLink RX6 70 yX5_addChild ∈ GW := wdg (i := 322) (by decide +kernel) rfl
theorem wd_157 : Cond.instanceMethod yX5_addChild ∈ GW := wdg (i := 323) (by decide +kernel) rfl
theorem wd_158 : Cond.selects RX5 yX5_addChild yX5_addChild ∈ GW := wdg (i := 324) (by decide +kernel) rfl
theorem wd_159 : Cond.code yX5_addChild cX5_addChild 6 (some .int) ∈ GW := wdg (i := 325) (by decide +kernel) rfl
theorem wd_160 : Cond.methodLink RX5 72 yX5_addOrphan ∈ GW := wdg (i := 326) (by decide +kernel) rfl
theorem wd_161 : Cond.methodLink RX5 76 yX5_withForebears ∈ GW := wdg (i := 327) (by decide +kernel) rfl
theorem wd_162 : Cond.instanceMethod yX5_withForebears ∈ GW := wdg (i := 328) (by decide +kernel) rfl
theorem wd_163 : Cond.selects RX5 yX5_withForebears yX5_withForebears ∈ GW := wdg (i := 329) (by decide +kernel) rfl
theorem wd_164 : Cond.code yX5_withForebears cX5_withForebears 2 (some .int) ∈ GW := wdg (i := 330) (by decide +kernel) rfl
theorem wd_165 : Cond.static yX6_cell ∈ GW := wdg (i := 332) (by decide +kernel) rfl
theorem wd_166 : Cond.code yX6_cell cX6_cell 2 (some .int) ∈ GW := wdg (i := 333) (by decide +kernel) rfl
theorem wd_167 : Cond.methodLink RX5 83 yX5_poured ∈ GW := wdg (i := 334) (by decide +kernel) rfl
theorem wd_168 : Cond.instanceMethod yX5_poured ∈ GW := wdg (i := 335) (by decide +kernel) rfl
theorem wd_169 : Cond.selects RX5 yX5_poured yX5_poured ∈ GW := wdg (i := 336) (by decide +kernel) rfl
theorem wd_170 : Cond.code yX5_poured cX5_poured 4 (some .int) ∈ GW := wdg (i := 337) (by decide +kernel) rfl
theorem wd_171 : Cond.methodLink RL 22 yX7_child ∈ GW := wdg (i := 922) (by decide +kernel) rfl
theorem wd_172 : Cond.instanceMethod yX7_child ∈ GW := wdg (i := 923) (by decide +kernel) rfl
theorem wd_173 : Cond.selects RX7 yX7_child yX7_child ∈ GW := wdg (i := 924) (by decide +kernel) rfl
theorem wd_174 : Cond.code yX7_child cX7_child 4 (some .int) ∈ GW := wdg (i := 925) (by decide +kernel) rfl
theorem wd_175 : Cond.methodLink RX7 159 yX7_areTwo ∈ GW := wdg (i := 926) (by decide +kernel) rfl
theorem wd_176 : Cond.instanceMethod yX7_areTwo ∈ GW := wdg (i := 928) (by decide +kernel) rfl
theorem wd_177 : Cond.selects RX7 yX7_areTwo yX7_areTwo ∈ GW := wdg (i := 29) (by decide +kernel) rfl
theorem wd_178 : Cond.code yX7_areTwo cX7_areTwo 3 (some .boolean) ∈ GW := wdg (i := 929) (by decide +kernel) rfl
theorem wd_179 : Cond.methodLink RX7 156 yX7_isPerson ∈ GW := wdg (i := 930) (by decide +kernel) rfl
theorem wd_180 : Cond.instanceMethod yX7_isPerson ∈ GW := wdg (i := 932) (by decide +kernel) rfl
theorem wd_181 : Cond.selects RX7 yX7_isPerson yX7_isPerson ∈ GW := wdg (i := 30) (by decide +kernel) rfl
theorem wd_182 : Cond.code yX7_isPerson cX7_isPerson 2 (some .boolean) ∈ GW := wdg (i := 933) (by decide +kernel) rfl
theorem wd_183 : Cond.methodLink RL 23 yX6_personIs ∈ GW := wdg (i := 338) (by decide +kernel) rfl
theorem wd_184 : Cond.instanceMethod yX6_personIs ∈ GW := wdg (i := 339) (by decide +kernel) rfl
theorem wd_185 : Cond.selects RX6 yX6_personIs yX6_personIs ∈ GW := wdg (i := 340) (by decide +kernel) rfl
theorem wd_186 : Cond.code yX6_personIs cX6_personIs 3 (some .int) ∈ GW := wdg (i := 341) (by decide +kernel) rfl
theorem wd_187 : Cond.fieldLink RX6 83 "DirtPress$World" "father" "[I" ∈ GW := wdg (i := 114) (by decide +kernel) rfl
theorem wd_188 : Cond.fieldLink RX6 86 "DirtPress$World" "mother" "[I" ∈ GW := wdg (i := 116) (by decide +kernel) rfl
theorem wd_189 : Cond.fieldLink RX6 89 "DirtPress$World" "spoons" "[I" ∈ GW := wdg (i := 121) (by decide +kernel) rfl
theorem wd_190 : Cond.fieldLink RX6 99 "DirtPress$World" "from" "[I" ∈ GW := wdg (i := 118) (by decide +kernel) rfl
theorem wd_191 : Cond.methodLink RX6 77 yX5_kindOf ∈ GW := wdg (i := 342) (by decide +kernel) rfl
theorem wd_192 : Cond.instanceMethod yX5_kindOf ∈ GW := wdg (i := 343) (by decide +kernel) rfl
theorem wd_193 : Cond.selects RX5 yX5_kindOf yX5_kindOf ∈ GW := wdg (i := 344) (by decide +kernel) rfl
theorem wd_194 : Cond.code yX5_kindOf cX5_kindOf 2 (some .int) ∈ GW := wdg (i := 345) (by decide +kernel) rfl
theorem wd_195 : Cond.methodLink RX6 80 yX5_numberOf ∈ GW := wdg (i := 346) (by decide +kernel) rfl
theorem wd_196 : Cond.instanceMethod yX5_numberOf ∈ GW := wdg (i := 347) (by decide +kernel) rfl
theorem wd_197 : Cond.selects RX5 yX5_numberOf yX5_numberOf ∈ GW := wdg (i := 348) (by decide +kernel) rfl
theorem wd_198 : Cond.code yX5_numberOf cX5_numberOf 2 (some .int) ∈ GW := wdg (i := 349) (by decide +kernel) rfl
theorem wd_199 : Cond.methodLink RX6 92 yX6_together ∈ GW := wdg (i := 350) (by decide +kernel) rfl
theorem wd_200 : Cond.static yX6_together ∈ GW := wdg (i := 351) (by decide +kernel) rfl
theorem wd_201 : Cond.code yX6_together cX6_together 4 (some .int) ∈ GW := wdg (i := 352) (by decide +kernel) rfl
theorem wd_202 : Cond.methodLink RX6 111 yX6_cell ∈ GW := wdg (i := 353) (by decide +kernel) rfl
theorem wd_203 : Cond.methodLink RX6 96 yX5_worthOf ∈ GW := wdg (i := 354) (by decide +kernel) rfl
theorem wd_204 : Cond.instanceMethod yX5_worthOf ∈ GW := wdg (i := 355) (by decide +kernel) rfl
theorem wd_205 : Cond.selects RX5 yX5_worthOf yX5_worthOf ∈ GW := wdg (i := 356) (by decide +kernel) rfl
theorem wd_206 : Cond.code yX5_worthOf cX5_worthOf 4 (some .int) ∈ GW := wdg (i := 357) (by decide +kernel) rfl
theorem wd_207 : Cond.methodLink RX5 100 yX5_given ∈ GW := wdg (i := 358) (by decide +kernel) rfl
theorem wd_208 : Cond.instanceMethod yX5_given ∈ GW := wdg (i := 359) (by decide +kernel) rfl
theorem wd_209 : Cond.selects RX5 yX5_given yX5_given ∈ GW := wdg (i := 360) (by decide +kernel) rfl
theorem wd_210 : Cond.code yX5_given cX5_given 7 (some .int) ∈ GW := wdg (i := 361) (by decide +kernel) rfl
theorem wd_211 : Cond.methodLink RX5 127 yX5_textOf ∈ GW := wdg (i := 362) (by decide +kernel) rfl
theorem wd_212 : Cond.instanceMethod yX5_textOf ∈ GW := wdg (i := 363) (by decide +kernel) rfl
theorem wd_213 : Cond.selects RX5 yX5_textOf yX5_textOf ∈ GW := wdg (i := 364) (by decide +kernel) rfl
theorem wd_214 : Cond.code yX5_textOf cX5_textOf 2 (some (.object "DirtPress$Text")) ∈ GW := wdg (i := 365) (by decide +kernel) rfl
theorem wd_215 : Cond.methodLink RX5 131 yX3_stands ∈ GW := wdg (i := 366) (by decide +kernel) rfl
theorem wd_216 : Cond.instanceMethod yX3_stands ∈ GW := wdg (i := 367) (by decide +kernel) rfl
theorem wd_217 : Cond.selects RX3 yX3_stands yX3_stands ∈ GW := wdg (i := 368) (by decide +kernel) rfl
theorem wd_218 : Cond.code yX3_stands cX3_stands 1 (some .boolean) ∈ GW := wdg (i := 369) (by decide +kernel) rfl
theorem wd_219 : Cond.fieldLink RX3 18 "DirtPress$Text" "size" "I" ∈ GW := wdg (i := 99) (by decide +kernel) rfl
theorem wd_220 : Cond.methodLink RX5 135 yX3_value ∈ GW := wdg (i := 370) (by decide +kernel) rfl
theorem wd_221 : Cond.instanceMethod yX3_value ∈ GW := wdg (i := 371) (by decide +kernel) rfl
theorem wd_222 : Cond.selects RX3 yX3_value yX3_value ∈ GW := wdg (i := 372) (by decide +kernel) rfl
theorem wd_223 : Cond.code yX3_value cX3_value 7 (some .int) ∈ GW := wdg (i := 373) (by decide +kernel) rfl
theorem wd_224 : Cond.methodLink RX3 28 yX3_named ∈ GW := wdg (i := 374) (by decide +kernel) rfl
theorem wd_225 : Cond.static yX3_named ∈ GW := wdg (i := 375) (by decide +kernel) rfl
theorem wd_226 : Cond.code yX3_named cX3_named 4 (some .int) ∈ GW := wdg (i := 376) (by decide +kernel) rfl
theorem wd_227 : Cond.static yX6_truth ∈ GW := wdg (i := 378) (by decide +kernel) rfl
theorem wd_228 : Cond.code yX6_truth cX6_truth 1 (some .int) ∈ GW := wdg (i := 379) (by decide +kernel) rfl
theorem wd_229 : Cond.methodLink RX3 36 yX3_joined ∈ GW := wdg (i := 380) (by decide +kernel) rfl
theorem wd_230 : Cond.static yX3_joined ∈ GW := wdg (i := 381) (by decide +kernel) rfl
theorem wd_231 : Cond.code yX3_joined cX3_joined 3 (some .int) ∈ GW := wdg (i := 382) (by decide +kernel) rfl
theorem wd_232 : Cond.static yX6_held ∈ GW := wdg (i := 384) (by decide +kernel) rfl
theorem wd_233 : Cond.code yX6_held cX6_held 3 (some .int) ∈ GW := wdg (i := 385) (by decide +kernel) rfl
theorem wd_234 : Cond.methodLink RX6 279 Lib.Math.min.name ∈ GW := wdg (i := 386) (by decide +kernel) rfl
theorem wd_235 : Cond.static Lib.Math.min.name ∈ GW := wdg (i := 387) (by decide +kernel) rfl
theorem wd_236 : Cond.initialized "java/lang/Math" ∈ GW := wdg (i := 75) (by decide +kernel) rfl
theorem wd_237 : Cond.code Lib.Math.min.name Lib.Math.min.code 2 (some .int) ∈ GW := wdg (i := 388) (by decide +kernel) rfl
theorem wd_238 : Cond.methodLink RX6 214 Lib.Math.max.name ∈ GW := wdg (i := 389) (by decide +kernel) rfl
theorem wd_239 : Cond.static Lib.Math.max.name ∈ GW := wdg (i := 390) (by decide +kernel) rfl
theorem wd_240 : Cond.code Lib.Math.max.name Lib.Math.max.code 2 (some .int) ∈ GW := wdg (i := 391) (by decide +kernel) rfl
theorem wd_241 : Cond.methodLink RL 27 yX7_personIs ∈ GW := wdg (i := 934) (by decide +kernel) rfl
theorem wd_242 : Cond.instanceMethod yX7_personIs ∈ GW := wdg (i := 935) (by decide +kernel) rfl
theorem wd_243 : Cond.selects RX7 yX7_personIs yX7_personIs ∈ GW := wdg (i := 936) (by decide +kernel) rfl
theorem wd_244 : Cond.code yX7_personIs cX7_personIs 3 (some .int) ∈ GW := wdg (i := 937) (by decide +kernel) rfl
theorem wd_245 : Cond.methodLink RX7 124 yX7_its ∈ GW := wdg (i := 938) (by decide +kernel) rfl
theorem wd_246 : Cond.instanceMethod yX7_its ∈ GW := wdg (i := 940) (by decide +kernel) rfl
theorem wd_247 : Cond.selects RX7 yX7_its yX7_its ∈ GW := wdg (i := 31) (by decide +kernel) rfl
theorem wd_248 : Cond.code yX7_its cX7_its 3 (some .int) ∈ GW := wdg (i := 941) (by decide +kernel) rfl
theorem wd_249 : Cond.methodLink RX7 163 yX7_heap ∈ GW := wdg (i := 942) (by decide +kernel) rfl
theorem wd_250 : Cond.instanceMethod yX7_heap ∈ GW := wdg (i := 944) (by decide +kernel) rfl
theorem wd_251 : Cond.selects RX7 yX7_heap yX7_heap ∈ GW := wdg (i := 32) (by decide +kernel) rfl
theorem wd_252 : Cond.code yX7_heap cX7_heap 4 (some .int) ∈ GW := wdg (i := 945) (by decide +kernel) rfl
theorem wd_253 : Cond.methodLink RX7 166 yX7_worthOf ∈ GW := wdg (i := 946) (by decide +kernel) rfl
theorem wd_254 : Cond.instanceMethod yX7_worthOf ∈ GW := wdg (i := 948) (by decide +kernel) rfl
theorem wd_255 : Cond.selects RX7 yX7_worthOf yX7_worthOf ∈ GW := wdg (i := 33) (by decide +kernel) rfl
theorem wd_256 : Cond.code yX7_worthOf cX7_worthOf 4 (some .int) ∈ GW := wdg (i := 949) (by decide +kernel) rfl
theorem wd_257 : Cond.methodLink RX7 136 yX7_worthTold ∈ GW := wdg (i := 950) (by decide +kernel) rfl
theorem wd_258 : Cond.instanceMethod yX7_worthTold ∈ GW := wdg (i := 952) (by decide +kernel) rfl
theorem wd_259 : Cond.selects RX7 yX7_worthTold yX7_worthTold ∈ GW := wdg (i := 34) (by decide +kernel) rfl
theorem wd_260 : Cond.code yX7_worthTold cX7_worthTold 4 (some .int) ∈ GW := wdg (i := 953) (by decide +kernel) rfl
theorem wd_261 : Cond.methodLink RX7 118 yX7_hasText ∈ GW := wdg (i := 899) (by decide +kernel) rfl
theorem wd_262 : Cond.instanceMethod yX7_hasText ∈ GW := wdg (i := 901) (by decide +kernel) rfl
theorem wd_263 : Cond.selects RX7 yX7_hasText yX7_hasText ∈ GW := wdg (i := 25) (by decide +kernel) rfl
theorem wd_264 : Cond.code yX7_hasText cX7_hasText 2 (some .boolean) ∈ GW := wdg (i := 902) (by decide +kernel) rfl
theorem wd_265 : Cond.methodLink RX7 130 yX7_worked ∈ GW := wdg (i := 954) (by decide +kernel) rfl
theorem wd_266 : Cond.instanceMethod yX7_worked ∈ GW := wdg (i := 956) (by decide +kernel) rfl
theorem wd_267 : Cond.selects RX7 yX7_worked yX7_worked ∈ GW := wdg (i := 35) (by decide +kernel) rfl
theorem wd_268 : Cond.code yX7_worked cX7_worked 7 (some .int) ∈ GW := wdg (i := 957) (by decide +kernel) rfl
theorem wd_269 : Cond.methodLink RX7 121 yX7_joined ∈ GW := wdg (i := 958) (by decide +kernel) rfl
theorem wd_270 : Cond.static yX7_joined ∈ GW := wdg (i := 959) (by decide +kernel) rfl
theorem wd_271 : Cond.code yX7_joined cX7_joined 3 (some .int) ∈ GW := wdg (i := 960) (by decide +kernel) rfl
theorem wd_272 : Cond.methodLink RX7 61 yX7_held ∈ GW := wdg (i := 961) (by decide +kernel) rfl
theorem wd_273 : Cond.static yX7_held ∈ GW := wdg (i := 962) (by decide +kernel) rfl
theorem wd_274 : Cond.code yX7_held cX7_held 3 (some .int) ∈ GW := wdg (i := 963) (by decide +kernel) rfl
theorem wd_275 : Cond.methodLink RX7 169 yX7_fromOf ∈ GW := wdg (i := 964) (by decide +kernel) rfl
theorem wd_276 : Cond.instanceMethod yX7_fromOf ∈ GW := wdg (i := 966) (by decide +kernel) rfl
theorem wd_277 : Cond.selects RX7 yX7_fromOf yX7_fromOf ∈ GW := wdg (i := 36) (by decide +kernel) rfl
theorem wd_278 : Cond.code yX7_fromOf cX7_fromOf 6 (some .int) ∈ GW := wdg (i := 967) (by decide +kernel) rfl
theorem wd_279 : Cond.methodLink RL 28 yX6_become ∈ GW := wdg (i := 392) (by decide +kernel) rfl
theorem wd_280 : Cond.instanceMethod yX6_become ∈ GW := wdg (i := 393) (by decide +kernel) rfl
theorem wd_281 : Cond.selects RX6 yX6_become yX6_become ∈ GW := wdg (i := 394) (by decide +kernel) rfl
theorem wd_282 : Cond.code yX6_become cX6_become 4 (some .int) ∈ GW := wdg (i := 395) (by decide +kernel) rfl
theorem wd_283 : Cond.fieldLink RX6 102 "DirtPress$World" "km" "[I" ∈ GW := wdg (i := 112) (by decide +kernel) rfl
theorem wd_284 : Cond.methodLink RL 31 yX7_become ∈ GW := wdg (i := 968) (by decide +kernel) rfl
theorem wd_285 : Cond.instanceMethod yX7_become ∈ GW := wdg (i := 969) (by decide +kernel) rfl
theorem wd_286 : Cond.selects RX7 yX7_become yX7_become ∈ GW := wdg (i := 970) (by decide +kernel) rfl
theorem wd_287 : Cond.code yX7_become cX7_become 3 (some .int) ∈ GW := wdg (i := 971) (by decide +kernel) rfl
theorem wd_288 : Cond.methodLink RX7 172 yX7_change1 ∈ GW := wdg (i := 972) (by decide +kernel) rfl
theorem wd_289 : Cond.instanceMethod yX7_change1 ∈ GW := wdg (i := 974) (by decide +kernel) rfl
theorem wd_290 : Cond.selects RX7 yX7_change1 yX7_change1 ∈ GW := wdg (i := 37) (by decide +kernel) rfl
theorem wd_291 : Cond.code yX7_change1 cX7_change1 4 (some .int) ∈ GW := wdg (i := 975) (by decide +kernel) rfl
theorem wd_292 : Cond.methodLink RL 32 yX6_as ∈ GW := wdg (i := 396) (by decide +kernel) rfl
theorem wd_293 : Cond.instanceMethod yX6_as ∈ GW := wdg (i := 397) (by decide +kernel) rfl
theorem wd_294 : Cond.selects RX6 yX6_as yX6_as ∈ GW := wdg (i := 398) (by decide +kernel) rfl
theorem wd_295 : Cond.code yX6_as cX6_as 3 (some .int) ∈ GW := wdg (i := 399) (by decide +kernel) rfl
theorem wd_296 : Cond.methodLink RX6 105 yX6_isUnder ∈ GW := wdg (i := 400) (by decide +kernel) rfl
theorem wd_297 : Cond.static yX6_isUnder ∈ GW := wdg (i := 401) (by decide +kernel) rfl
theorem wd_298 : Cond.code yX6_isUnder cX6_isUnder 4 (some .boolean) ∈ GW := wdg (i := 402) (by decide +kernel) rfl
theorem wd_299 : Cond.fieldLink RX6 295 "DirtPress" "ABOVE" "[I" ∈ GW := wdg (i := 403) (by decide +kernel) rfl
theorem wd_300 : Cond.methodLink RL 35 yX7_as ∈ GW := wdg (i := 976) (by decide +kernel) rfl
theorem wd_301 : Cond.instanceMethod yX7_as ∈ GW := wdg (i := 977) (by decide +kernel) rfl
theorem wd_302 : Cond.selects RX7 yX7_as yX7_as ∈ GW := wdg (i := 978) (by decide +kernel) rfl
theorem wd_303 : Cond.code yX7_as cX7_as 4 (some .int) ∈ GW := wdg (i := 979) (by decide +kernel) rfl
theorem wd_304 : Cond.methodLink RX7 175 yX7_above ∈ GW := wdg (i := 980) (by decide +kernel) rfl
theorem wd_305 : Cond.static yX7_above ∈ GW := wdg (i := 981) (by decide +kernel) rfl
theorem wd_306 : Cond.code yX7_above cX7_above 1 (some .int) ∈ GW := wdg (i := 982) (by decide +kernel) rfl
theorem wd_307 : Cond.methodLink RL 36 yX6_hold ∈ GW := wdg (i := 405) (by decide +kernel) rfl
theorem wd_308 : Cond.instanceMethod yX6_hold ∈ GW := wdg (i := 406) (by decide +kernel) rfl
theorem wd_309 : Cond.selects RX6 yX6_hold yX6_hold ∈ GW := wdg (i := 407) (by decide +kernel) rfl
theorem wd_310 : Cond.code yX6_hold cX6_hold 3 (some .int) ∈ GW := wdg (i := 408) (by decide +kernel) rfl
theorem wd_311 : Cond.methodLink RX6 108 yX6_notSort ∈ GW := wdg (i := 409) (by decide +kernel) rfl
theorem wd_312 : Cond.static yX6_notSort ∈ GW := wdg (i := 410) (by decide +kernel) rfl
theorem wd_313 : Cond.code yX6_notSort cX6_notSort 1 (some .boolean) ∈ GW := wdg (i := 411) (by decide +kernel) rfl
theorem wd_314 : Cond.methodLink RL 39 yX7_hold ∈ GW := wdg (i := 983) (by decide +kernel) rfl
theorem wd_315 : Cond.instanceMethod yX7_hold ∈ GW := wdg (i := 984) (by decide +kernel) rfl
theorem wd_316 : Cond.selects RX7 yX7_hold yX7_hold ∈ GW := wdg (i := 985) (by decide +kernel) rfl
theorem wd_317 : Cond.code yX7_hold cX7_hold 3 (some .int) ∈ GW := wdg (i := 986) (by decide +kernel) rfl
theorem wd_318 : Cond.methodLink RX7 178 yX7_isSort ∈ GW := wdg (i := 987) (by decide +kernel) rfl
theorem wd_319 : Cond.static yX7_isSort ∈ GW := wdg (i := 988) (by decide +kernel) rfl
theorem wd_320 : Cond.code yX7_isSort cX7_isSort 1 (some .boolean) ∈ GW := wdg (i := 989) (by decide +kernel) rfl
theorem wd_321 : Cond.methodLink RL 40 yX6_spoon ∈ GW := wdg (i := 412) (by decide +kernel) rfl
theorem wd_322 : Cond.instanceMethod yX6_spoon ∈ GW := wdg (i := 413) (by decide +kernel) rfl
theorem wd_323 : Cond.selects RX6 yX6_spoon yX6_spoon ∈ GW := wdg (i := 414) (by decide +kernel) rfl
theorem wd_324 : Cond.code yX6_spoon cX6_spoon 5 (some .int) ∈ GW := wdg (i := 415) (by decide +kernel) rfl
theorem wd_325 : Cond.methodLink RL 43 yX7_spoon ∈ GW := wdg (i := 990) (by decide +kernel) rfl
theorem wd_326 : Cond.instanceMethod yX7_spoon ∈ GW := wdg (i := 991) (by decide +kernel) rfl
theorem wd_327 : Cond.selects RX7 yX7_spoon yX7_spoon ∈ GW := wdg (i := 992) (by decide +kernel) rfl
theorem wd_328 : Cond.code yX7_spoon cX7_spoon 4 (some .int) ∈ GW := wdg (i := 993) (by decide +kernel) rfl
theorem wd_329 : Cond.methodLink RL 44 yX6_gain ∈ GW := wdg (i := 416) (by decide +kernel) rfl
theorem wd_330 : Cond.instanceMethod yX6_gain ∈ GW := wdg (i := 417) (by decide +kernel) rfl
theorem wd_331 : Cond.selects RX6 yX6_gain yX6_gain ∈ GW := wdg (i := 418) (by decide +kernel) rfl
theorem wd_332 : Cond.code yX6_gain cX6_gain 3 (some .int) ∈ GW := wdg (i := 419) (by decide +kernel) rfl
theorem wd_333 : Cond.fieldLink RX6 119 "DirtPress$World" "year" "I" ∈ GW := wdg (i := 126) (by decide +kernel) rfl
theorem wd_334 : Cond.methodLink RX6 122 yX5_gainOf ∈ GW := wdg (i := 420) (by decide +kernel) rfl
theorem wd_335 : Cond.instanceMethod yX5_gainOf ∈ GW := wdg (i := 421) (by decide +kernel) rfl
theorem wd_336 : Cond.selects RX5 yX5_gainOf yX5_gainOf ∈ GW := wdg (i := 422) (by decide +kernel) rfl
theorem wd_337 : Cond.code yX5_gainOf cX5_gainOf 5 (some .int) ∈ GW := wdg (i := 423) (by decide +kernel) rfl
theorem wd_338 : Cond.methodLink RX5 96 yX5_gets ∈ GW := wdg (i := 424) (by decide +kernel) rfl
theorem wd_339 : Cond.instanceMethod yX5_gets ∈ GW := wdg (i := 425) (by decide +kernel) rfl
theorem wd_340 : Cond.selects RX5 yX5_gets yX5_gets ∈ GW := wdg (i := 426) (by decide +kernel) rfl
theorem wd_341 : Cond.code yX5_gets cX5_gets 8 (some .int) ∈ GW := wdg (i := 427) (by decide +kernel) rfl
theorem wd_342 : Cond.methodLink RX5 90 yX5_numberOf ∈ GW := wdg (i := 428) (by decide +kernel) rfl
theorem wd_343 : Cond.methodLink RX5 93 yX5_kindOf ∈ GW := wdg (i := 429) (by decide +kernel) rfl
theorem wd_344 : Cond.methodLink RL 47 yX7_gain ∈ GW := wdg (i := 994) (by decide +kernel) rfl
theorem wd_345 : Cond.instanceMethod yX7_gain ∈ GW := wdg (i := 995) (by decide +kernel) rfl
theorem wd_346 : Cond.selects RX7 yX7_gain yX7_gain ∈ GW := wdg (i := 996) (by decide +kernel) rfl
theorem wd_347 : Cond.code yX7_gain cX7_gain 3 (some .int) ∈ GW := wdg (i := 997) (by decide +kernel) rfl
theorem wd_348 : Cond.methodLink RX7 139 yX7_gainOf ∈ GW := wdg (i := 998) (by decide +kernel) rfl
theorem wd_349 : Cond.instanceMethod yX7_gainOf ∈ GW := wdg (i := 1000) (by decide +kernel) rfl
theorem wd_350 : Cond.selects RX7 yX7_gainOf yX7_gainOf ∈ GW := wdg (i := 38) (by decide +kernel) rfl
theorem wd_351 : Cond.code yX7_gainOf cX7_gainOf 3 (some .int) ∈ GW := wdg (i := 1001) (by decide +kernel) rfl
theorem wd_352 : Cond.methodLink RX7 127 yX7_getsAs ∈ GW := wdg (i := 1002) (by decide +kernel) rfl
theorem wd_353 : Cond.instanceMethod yX7_getsAs ∈ GW := wdg (i := 1004) (by decide +kernel) rfl
theorem wd_354 : Cond.selects RX7 yX7_getsAs yX7_getsAs ∈ GW := wdg (i := 39) (by decide +kernel) rfl
theorem wd_355 : Cond.code yX7_getsAs cX7_getsAs 5 (some .int) ∈ GW := wdg (i := 1005) (by decide +kernel) rfl
theorem wd_356 : Cond.methodLink RX7 133 yX7_gainTold ∈ GW := wdg (i := 1006) (by decide +kernel) rfl
theorem wd_357 : Cond.instanceMethod yX7_gainTold ∈ GW := wdg (i := 1008) (by decide +kernel) rfl
theorem wd_358 : Cond.selects RX7 yX7_gainTold yX7_gainTold ∈ GW := wdg (i := 40) (by decide +kernel) rfl
theorem wd_359 : Cond.code yX7_gainTold cX7_gainTold 4 (some .int) ∈ GW := wdg (i := 1009) (by decide +kernel) rfl
theorem wd_360 : Cond.methodLink RL 48 yX6_lend ∈ GW := wdg (i := 430) (by decide +kernel) rfl
theorem wd_361 : Cond.instanceMethod yX6_lend ∈ GW := wdg (i := 431) (by decide +kernel) rfl
theorem wd_362 : Cond.selects RX6 yX6_lend yX6_lend ∈ GW := wdg (i := 432) (by decide +kernel) rfl
theorem wd_363 : Cond.code yX6_lend cX6_lend 6 (some .int) ∈ GW := wdg (i := 433) (by decide +kernel) rfl
theorem wd_364 : Cond.fieldLink RX6 133 "DirtPress$World" "owed" "[I" ∈ GW := wdg (i := 123) (by decide +kernel) rfl
theorem wd_365 : Cond.methodLink RX6 126 yX6_pair ∈ GW := wdg (i := 434) (by decide +kernel) rfl
theorem wd_366 : Cond.static yX6_pair ∈ GW := wdg (i := 435) (by decide +kernel) rfl
theorem wd_367 : Cond.code yX6_pair cX6_pair 2 (some .int) ∈ GW := wdg (i := 436) (by decide +kernel) rfl
theorem wd_368 : Cond.methodLink RX6 129 yX5_canGo ∈ GW := wdg (i := 437) (by decide +kernel) rfl
theorem wd_369 : Cond.instanceMethod yX5_canGo ∈ GW := wdg (i := 438) (by decide +kernel) rfl
theorem wd_370 : Cond.selects RX5 yX5_canGo yX5_canGo ∈ GW := wdg (i := 439) (by decide +kernel) rfl
theorem wd_371 : Cond.code yX5_canGo cX5_canGo 5 (some .boolean) ∈ GW := wdg (i := 440) (by decide +kernel) rfl
theorem wd_372 : Cond.methodLink RX6 136 yX5_go ∈ GW := wdg (i := 441) (by decide +kernel) rfl
theorem wd_373 : Cond.instanceMethod yX5_go ∈ GW := wdg (i := 442) (by decide +kernel) rfl
theorem wd_374 : Cond.selects RX5 yX5_go yX5_go ∈ GW := wdg (i := 443) (by decide +kernel) rfl
theorem wd_375 : Cond.code yX5_go cX5_go 5 none ∈ GW := wdg (i := 444) (by decide +kernel) rfl
theorem wd_376 : Cond.methodLink RL 52 yX7_lend ∈ GW := wdg (i := 1010) (by decide +kernel) rfl
theorem wd_377 : Cond.instanceMethod yX7_lend ∈ GW := wdg (i := 1011) (by decide +kernel) rfl
theorem wd_378 : Cond.selects RX7 yX7_lend yX7_lend ∈ GW := wdg (i := 1012) (by decide +kernel) rfl
theorem wd_379 : Cond.code yX7_lend cX7_lend 5 (some .int) ∈ GW := wdg (i := 1013) (by decide +kernel) rfl
theorem wd_380 : Cond.methodLink RX7 181 yX7_areGiven ∈ GW := wdg (i := 1014) (by decide +kernel) rfl
theorem wd_381 : Cond.instanceMethod yX7_areGiven ∈ GW := wdg (i := 1016) (by decide +kernel) rfl
theorem wd_382 : Cond.selects RX7 yX7_areGiven yX7_areGiven ∈ GW := wdg (i := 41) (by decide +kernel) rfl
theorem wd_383 : Cond.code yX7_areGiven cX7_areGiven 5 (some .boolean) ∈ GW := wdg (i := 1017) (by decide +kernel) rfl
theorem wd_384 : Cond.methodLink RX7 185 yX7_canGo ∈ GW := wdg (i := 1018) (by decide +kernel) rfl
theorem wd_385 : Cond.instanceMethod yX7_canGo ∈ GW := wdg (i := 1020) (by decide +kernel) rfl
theorem wd_386 : Cond.selects RX7 yX7_canGo yX7_canGo ∈ GW := wdg (i := 42) (by decide +kernel) rfl
theorem wd_387 : Cond.code yX7_canGo cX7_canGo 5 (some .boolean) ∈ GW := wdg (i := 1021) (by decide +kernel) rfl
theorem wd_388 : Cond.methodLink RX7 188 yX7_owed ∈ GW := wdg (i := 1022) (by decide +kernel) rfl
theorem wd_389 : Cond.instanceMethod yX7_owed ∈ GW := wdg (i := 1024) (by decide +kernel) rfl
theorem wd_390 : Cond.selects RX7 yX7_owed yX7_owed ∈ GW := wdg (i := 43) (by decide +kernel) rfl
theorem wd_391 : Cond.code yX7_owed cX7_owed 3 (some .int) ∈ GW := wdg (i := 1025) (by decide +kernel) rfl
theorem wd_392 : Cond.methodLink RX7 191 yX7_go ∈ GW := wdg (i := 1026) (by decide +kernel) rfl
theorem wd_393 : Cond.instanceMethod yX7_go ∈ GW := wdg (i := 1028) (by decide +kernel) rfl
theorem wd_394 : Cond.selects RX7 yX7_go yX7_go ∈ GW := wdg (i := 44) (by decide +kernel) rfl
theorem wd_395 : Cond.code yX7_go cX7_go 5 none ∈ GW := wdg (i := 1029) (by decide +kernel) rfl
theorem wd_396 : Cond.methodLink RX7 142 yX7_gets ∈ GW := wdg (i := 1030) (by decide +kernel) rfl
theorem wd_397 : Cond.instanceMethod yX7_gets ∈ GW := wdg (i := 1032) (by decide +kernel) rfl
theorem wd_398 : Cond.selects RX7 yX7_gets yX7_gets ∈ GW := wdg (i := 45) (by decide +kernel) rfl
theorem wd_399 : Cond.code yX7_gets cX7_gets 4 none ∈ GW := wdg (i := 1033) (by decide +kernel) rfl
theorem wd_400 : Cond.methodLink RL 53 yX6_repay ∈ GW := wdg (i := 445) (by decide +kernel) rfl
theorem wd_401 : Cond.instanceMethod yX6_repay ∈ GW := wdg (i := 446) (by decide +kernel) rfl
theorem wd_402 : Cond.selects RX6 yX6_repay yX6_repay ∈ GW := wdg (i := 447) (by decide +kernel) rfl
theorem wd_403 : Cond.code yX6_repay cX6_repay 6 (some .int) ∈ GW := wdg (i := 448) (by decide +kernel) rfl
theorem wd_404 : Cond.methodLink RL 56 yX7_repay ∈ GW := wdg (i := 1034) (by decide +kernel) rfl
theorem wd_405 : Cond.instanceMethod yX7_repay ∈ GW := wdg (i := 1035) (by decide +kernel) rfl
theorem wd_406 : Cond.selects RX7 yX7_repay yX7_repay ∈ GW := wdg (i := 1036) (by decide +kernel) rfl
theorem wd_407 : Cond.code yX7_repay cX7_repay 5 (some .int) ∈ GW := wdg (i := 1037) (by decide +kernel) rfl
theorem wd_408 : Cond.methodLink RL 57 yX6_owes ∈ GW := wdg (i := 449) (by decide +kernel) rfl
theorem wd_409 : Cond.instanceMethod yX6_owes ∈ GW := wdg (i := 450) (by decide +kernel) rfl
theorem wd_410 : Cond.selects RX6 yX6_owes yX6_owes ∈ GW := wdg (i := 451) (by decide +kernel) rfl
theorem wd_411 : Cond.code yX6_owes cX6_owes 3 (some .int) ∈ GW := wdg (i := 452) (by decide +kernel) rfl
theorem wd_412 : Cond.methodLink RL 60 yX7_owes ∈ GW := wdg (i := 1038) (by decide +kernel) rfl
theorem wd_413 : Cond.instanceMethod yX7_owes ∈ GW := wdg (i := 1039) (by decide +kernel) rfl
theorem wd_414 : Cond.selects RX7 yX7_owes yX7_owes ∈ GW := wdg (i := 1040) (by decide +kernel) rfl
theorem wd_415 : Cond.code yX7_owes cX7_owes 3 (some .int) ∈ GW := wdg (i := 1041) (by decide +kernel) rfl
theorem wd_416 : Cond.methodLink RL 63 yX6_feed ∈ GW := wdg (i := 453) (by decide +kernel) rfl
theorem wd_417 : Cond.instanceMethod yX6_feed ∈ GW := wdg (i := 454) (by decide +kernel) rfl
theorem wd_418 : Cond.selects RX6 yX6_feed yX6_feed ∈ GW := wdg (i := 455) (by decide +kernel) rfl
theorem wd_419 : Cond.code yX6_feed cX6_feed 5 (some .int) ∈ GW := wdg (i := 456) (by decide +kernel) rfl
theorem wd_420 : Cond.fieldLink RX6 140 "DirtPress$World" "bytes" "I" ∈ GW := wdg (i := 134) (by decide +kernel) rfl
theorem wd_421 : Cond.fieldLink RX6 143 "DirtPress$World" "tape" "[I" ∈ GW := wdg (i := 131) (by decide +kernel) rfl
theorem wd_422 : Cond.methodLink RL 67 yX7_feed ∈ GW := wdg (i := 838) (by decide +kernel) rfl
theorem wd_423 : Cond.instanceMethod yX7_feed ∈ GW := wdg (i := 839) (by decide +kernel) rfl
theorem wd_424 : Cond.selects RX7 yX7_feed yX7_feed ∈ GW := wdg (i := 840) (by decide +kernel) rfl
theorem wd_425 : Cond.code yX7_feed cX7_feed 5 (some .int) ∈ GW := wdg (i := 841) (by decide +kernel) rfl
theorem wd_426 : Cond.constantLong RX7 69 (255) ∈ GW := wdg (i := 850) (by decide +kernel) rfl
theorem wd_427 : Cond.methodLink RL 68 yX6_text ∈ GW := wdg (i := 457) (by decide +kernel) rfl
theorem wd_428 : Cond.instanceMethod yX6_text ∈ GW := wdg (i := 458) (by decide +kernel) rfl
theorem wd_429 : Cond.selects RX6 yX6_text yX6_text ∈ GW := wdg (i := 459) (by decide +kernel) rfl
theorem wd_430 : Cond.code yX6_text cX6_text 3 (some .int) ∈ GW := wdg (i := 460) (by decide +kernel) rfl
theorem wd_431 : Cond.fieldLink RX6 157 "DirtPress$Reader" "made" "LDirtPress$Text;" ∈ GW := wdg (i := 203) (by decide +kernel) rfl
theorem wd_432 : Cond.methodLink RX6 146 yX6_notUse ∈ GW := wdg (i := 461) (by decide +kernel) rfl
theorem wd_433 : Cond.static yX6_notUse ∈ GW := wdg (i := 462) (by decide +kernel) rfl
theorem wd_434 : Cond.code yX6_notUse cX6_notUse 1 (some .boolean) ∈ GW := wdg (i := 463) (by decide +kernel) rfl
theorem wd_435 : Cond.methodLink RX6 149 yX0_faultOf ∈ GW := wdg (i := 464) (by decide +kernel) rfl
theorem wd_436 : Cond.instanceMethod yX0_faultOf ∈ GW := wdg (i := 465) (by decide +kernel) rfl
theorem wd_437 : Cond.selects RX0 yX0_faultOf yX0_faultOf ∈ GW := wdg (i := 466) (by decide +kernel) rfl
theorem wd_438 : Cond.code yX0_faultOf cX0_faultOf 3 (some .int) ∈ GW := wdg (i := 467) (by decide +kernel) rfl
theorem wd_439 : Cond.fieldLink RX0 22 "DirtPress$World" "tape" "[I" ∈ GW := wdg (i := 130) (by decide +kernel) rfl
theorem wd_440 : Cond.methodLink RX0 25 arraycopyName ∈ GW := wdg (i := 468) (by decide +kernel) rfl
theorem wd_441 : Cond.native arraycopyName ∈ GW := wdg (i := 470) (by decide +kernel) rfl
theorem wd_442 : Cond.static arraycopyName ∈ GW := wdg (i := 469) (by decide +kernel) rfl
theorem wd_443 : Cond.initialized "java/lang/System" ∈ GW := wdg (i := 76) (by decide +kernel) rfl
theorem wd_444 : Cond.fieldLink RX0 31 "DirtPress$World" "bytes" "I" ∈ GW := wdg (i := 132) (by decide +kernel) rfl
theorem wd_445 : Cond.fieldLink RX0 35 "DirtPress$Reader" "bytes" "I" ∈ GW := wdg (i := 205) (by decide +kernel) rfl
theorem wd_446 : Cond.fieldLink RX0 36 "DirtPress$Reader" "use" "I" ∈ GW := wdg (i := 207) (by decide +kernel) rfl
theorem wd_447 : Cond.fieldLink RX0 39 "DirtPress$Reader" "place" "I" ∈ GW := wdg (i := 206) (by decide +kernel) rfl
theorem wd_448 : Cond.fieldLink RX0 42 "DirtPress$Reader" "failed" "Z" ∈ GW := wdg (i := 208) (by decide +kernel) rfl
theorem wd_449 : Cond.methodLink RX0 46 yX3_clear ∈ GW := wdg (i := 471) (by decide +kernel) rfl
theorem wd_450 : Cond.instanceMethod yX3_clear ∈ GW := wdg (i := 472) (by decide +kernel) rfl
theorem wd_451 : Cond.selects RX3 yX3_clear yX3_clear ∈ GW := wdg (i := 473) (by decide +kernel) rfl
theorem wd_452 : Cond.code yX3_clear cX3_clear 1 none ∈ GW := wdg (i := 474) (by decide +kernel) rfl
theorem wd_453 : Cond.methodLink RX0 49 yX0_readChain ∈ GW := wdg (i := 475) (by decide +kernel) rfl
theorem wd_454 : Cond.instanceMethod yX0_readChain ∈ GW := wdg (i := 477) (by decide +kernel) rfl
theorem wd_455 : Cond.selects RX0 yX0_readChain yX0_readChain ∈ GW := wdg (i := 3) (by decide +kernel) rfl
theorem wd_456 : Cond.code yX0_readChain cX0_readChain 4 none ∈ GW := wdg (i := 478) (by decide +kernel) rfl
theorem wd_457 : Cond.methodLink RX0 53 yX0_readUnit ∈ GW := wdg (i := 479) (by decide +kernel) rfl
theorem wd_458 : Cond.instanceMethod yX0_readUnit ∈ GW := wdg (i := 481) (by decide +kernel) rfl
theorem wd_459 : Cond.selects RX0 yX0_readUnit yX0_readUnit ∈ GW := wdg (i := 4) (by decide +kernel) rfl
theorem wd_460 : Cond.methodLink RX0 57 yX0_levelOf ∈ GW := wdg (i := 504) (by decide +kernel) rfl
theorem wd_461 : Cond.static yX0_levelOf ∈ GW := wdg (i := 505) (by decide +kernel) rfl
theorem wd_462 : Cond.code yX0_levelOf cX0_levelOf 1 (some .int) ∈ GW := wdg (i := 506) (by decide +kernel) rfl
theorem wd_463 : Cond.methodLink RX0 61 yX3_add ∈ GW := wdg (i := 496) (by decide +kernel) rfl
theorem wd_464 : Cond.instanceMethod yX3_add ∈ GW := wdg (i := 497) (by decide +kernel) rfl
theorem wd_465 : Cond.selects RX3 yX3_add yX3_add ∈ GW := wdg (i := 498) (by decide +kernel) rfl
theorem wd_466 : Cond.code yX3_add cX3_add 2 none ∈ GW := wdg (i := 499) (by decide +kernel) rfl
theorem wd_467 : Cond.code yX0_readUnit cX0_readUnit 4 none ∈ GW := wdg (i := 482) (by decide +kernel) rfl
theorem wd_468 : Cond.methodLink RX0 64 yX0_nameOf ∈ GW := wdg (i := 483) (by decide +kernel) rfl
theorem wd_469 : Cond.instanceMethod yX0_nameOf ∈ GW := wdg (i := 485) (by decide +kernel) rfl
theorem wd_470 : Cond.selects RX0 yX0_nameOf yX0_nameOf ∈ GW := wdg (i := 5) (by decide +kernel) rfl
theorem wd_471 : Cond.code yX0_nameOf cX0_nameOf 3 (some .int) ∈ GW := wdg (i := 486) (by decide +kernel) rfl
theorem wd_472 : Cond.methodLink RX0 67 yX0_isDigit ∈ GW := wdg (i := 489) (by decide +kernel) rfl
theorem wd_473 : Cond.static yX0_isDigit ∈ GW := wdg (i := 490) (by decide +kernel) rfl
theorem wd_474 : Cond.code yX0_isDigit cX0_isDigit 1 (some .boolean) ∈ GW := wdg (i := 491) (by decide +kernel) rfl
theorem wd_475 : Cond.methodLink RX0 71 yX0_readNumber ∈ GW := wdg (i := 492) (by decide +kernel) rfl
theorem wd_476 : Cond.instanceMethod yX0_readNumber ∈ GW := wdg (i := 494) (by decide +kernel) rfl
theorem wd_477 : Cond.selects RX0 yX0_readNumber yX0_readNumber ∈ GW := wdg (i := 6) (by decide +kernel) rfl
theorem wd_478 : Cond.code yX0_readNumber cX0_readNumber 3 none ∈ GW := wdg (i := 495) (by decide +kernel) rfl
theorem wd_479 : Cond.methodLink RX0 74 yX0_readClosing ∈ GW := wdg (i := 500) (by decide +kernel) rfl
theorem wd_480 : Cond.instanceMethod yX0_readClosing ∈ GW := wdg (i := 502) (by decide +kernel) rfl
theorem wd_481 : Cond.selects RX0 yX0_readClosing yX0_readClosing ∈ GW := wdg (i := 7) (by decide +kernel) rfl
theorem wd_482 : Cond.code yX0_readClosing cX0_readClosing 1 none ∈ GW := wdg (i := 503) (by decide +kernel) rfl
theorem wd_483 : Cond.methodLink RX6 153 yX5_textOf ∈ GW := wdg (i := 507) (by decide +kernel) rfl
theorem wd_484 : Cond.methodLink RX6 161 yX3_copyFrom ∈ GW := wdg (i := 508) (by decide +kernel) rfl
theorem wd_485 : Cond.instanceMethod yX3_copyFrom ∈ GW := wdg (i := 509) (by decide +kernel) rfl
theorem wd_486 : Cond.selects RX3 yX3_copyFrom yX3_copyFrom ∈ GW := wdg (i := 510) (by decide +kernel) rfl
theorem wd_487 : Cond.code yX3_copyFrom cX3_copyFrom 2 none ∈ GW := wdg (i := 511) (by decide +kernel) rfl
theorem wd_488 : Cond.methodLink RX3 22 arraycopyName ∈ GW := wdg (i := 512) (by decide +kernel) rfl
theorem wd_489 : Cond.methodLink RL 71 yX7_text ∈ GW := wdg (i := 851) (by decide +kernel) rfl
theorem wd_490 : Cond.instanceMethod yX7_text ∈ GW := wdg (i := 852) (by decide +kernel) rfl
theorem wd_491 : Cond.selects RX7 yX7_text yX7_text ∈ GW := wdg (i := 853) (by decide +kernel) rfl
theorem wd_492 : Cond.code yX7_text cX7_text 5 (some .int) ∈ GW := wdg (i := 854) (by decide +kernel) rfl
theorem wd_493 : Cond.fieldLink RX7 75 "DirtPressModel" "use" "I" ∈ GW := wdg (i := 779) (by decide +kernel) rfl
theorem wd_494 : Cond.fieldLink RX7 71 "DirtPressModel" "at" "I" ∈ GW := wdg (i := 776) (by decide +kernel) rfl
theorem wd_495 : Cond.fieldLink RX7 105 "DirtPressModel" "open" "I" ∈ GW := wdg (i := 777) (by decide +kernel) rfl
theorem wd_496 : Cond.fieldLink RX7 78 "DirtPressModel" "steps" "I" ∈ GW := wdg (i := 778) (by decide +kernel) rfl
theorem wd_497 : Cond.methodLink RX7 115 yX7_whole ∈ GW := wdg (i := 855) (by decide +kernel) rfl
theorem wd_498 : Cond.instanceMethod yX7_whole ∈ GW := wdg (i := 857) (by decide +kernel) rfl
theorem wd_499 : Cond.selects RX7 yX7_whole yX7_whole ∈ GW := wdg (i := 15) (by decide +kernel) rfl
theorem wd_500 : Cond.code yX7_whole cX7_whole 1 (some .boolean) ∈ GW := wdg (i := 858) (by decide +kernel) rfl
theorem wd_501 : Cond.methodLink RX7 81 yX7_both ∈ GW := wdg (i := 859) (by decide +kernel) rfl
theorem wd_502 : Cond.instanceMethod yX7_both ∈ GW := wdg (i := 861) (by decide +kernel) rfl
theorem wd_503 : Cond.selects RX7 yX7_both yX7_both ∈ GW := wdg (i := 16) (by decide +kernel) rfl
theorem wd_504 : Cond.methodLink RX7 85 yX7_look ∈ GW := wdg (i := 879) (by decide +kernel) rfl
theorem wd_505 : Cond.instanceMethod yX7_look ∈ GW := wdg (i := 881) (by decide +kernel) rfl
theorem wd_506 : Cond.selects RX7 yX7_look yX7_look ∈ GW := wdg (i := 21) (by decide +kernel) rfl
theorem wd_507 : Cond.code yX7_look cX7_look 1 (some .int) ∈ GW := wdg (i := 882) (by decide +kernel) rfl
theorem wd_508 : Cond.methodLink RX7 89 yX7_step1 ∈ GW := wdg (i := 887) (by decide +kernel) rfl
theorem wd_509 : Cond.instanceMethod yX7_step1 ∈ GW := wdg (i := 889) (by decide +kernel) rfl
theorem wd_510 : Cond.selects RX7 yX7_step1 yX7_step1 ∈ GW := wdg (i := 23) (by decide +kernel) rfl
theorem wd_511 : Cond.code yX7_step1 cX7_step1 3 none ∈ GW := wdg (i := 890) (by decide +kernel) rfl
theorem wd_512 : Cond.code yX7_both cX7_both 1 (some .boolean) ∈ GW := wdg (i := 862) (by decide +kernel) rfl
theorem wd_513 : Cond.methodLink RX7 93 yX7_compared ∈ GW := wdg (i := 863) (by decide +kernel) rfl
theorem wd_514 : Cond.instanceMethod yX7_compared ∈ GW := wdg (i := 865) (by decide +kernel) rfl
theorem wd_515 : Cond.selects RX7 yX7_compared yX7_compared ∈ GW := wdg (i := 17) (by decide +kernel) rfl
theorem wd_516 : Cond.code yX7_compared cX7_compared 2 (some .boolean) ∈ GW := wdg (i := 866) (by decide +kernel) rfl
theorem wd_517 : Cond.methodLink RX7 96 yX7_sum ∈ GW := wdg (i := 867) (by decide +kernel) rfl
theorem wd_518 : Cond.instanceMethod yX7_sum ∈ GW := wdg (i := 869) (by decide +kernel) rfl
theorem wd_519 : Cond.selects RX7 yX7_sum yX7_sum ∈ GW := wdg (i := 18) (by decide +kernel) rfl
theorem wd_520 : Cond.code yX7_one cX7_one 4 (some .boolean) ∈ GW := wdg (i := 878) (by decide +kernel) rfl
theorem wd_521 : Cond.methodLink RX7 108 yX7_isName ∈ GW := wdg (i := 883) (by decide +kernel) rfl
theorem wd_522 : Cond.instanceMethod yX7_isName ∈ GW := wdg (i := 885) (by decide +kernel) rfl
theorem wd_523 : Cond.selects RX7 yX7_isName yX7_isName ∈ GW := wdg (i := 22) (by decide +kernel) rfl
theorem wd_524 : Cond.code yX7_isName cX7_isName 2 (some .boolean) ∈ GW := wdg (i := 886) (by decide +kernel) rfl
theorem wd_525 : Cond.methodLink RX7 112 yX7_opens ∈ GW := wdg (i := 891) (by decide +kernel) rfl
theorem wd_526 : Cond.instanceMethod yX7_opens ∈ GW := wdg (i := 893) (by decide +kernel) rfl
theorem wd_527 : Cond.selects RX7 yX7_opens yX7_opens ∈ GW := wdg (i := 24) (by decide +kernel) rfl
theorem wd_528 : Cond.code yX7_opens cX7_opens 1 (some .boolean) ∈ GW := wdg (i := 894) (by decide +kernel) rfl
theorem wd_529 : Cond.methodLink RX7 102 yX7_one ∈ GW := wdg (i := 875) (by decide +kernel) rfl
theorem wd_530 : Cond.instanceMethod yX7_one ∈ GW := wdg (i := 877) (by decide +kernel) rfl
theorem wd_531 : Cond.selects RX7 yX7_one yX7_one ∈ GW := wdg (i := 20) (by decide +kernel) rfl
theorem wd_532 : Cond.code yX7_product cX7_product 2 (some .boolean) ∈ GW := wdg (i := 874) (by decide +kernel) rfl
theorem wd_533 : Cond.code yX7_sum cX7_sum 2 (some .boolean) ∈ GW := wdg (i := 870) (by decide +kernel) rfl
theorem wd_534 : Cond.methodLink RX7 99 yX7_product ∈ GW := wdg (i := 871) (by decide +kernel) rfl
theorem wd_535 : Cond.instanceMethod yX7_product ∈ GW := wdg (i := 873) (by decide +kernel) rfl
theorem wd_536 : Cond.selects RX7 yX7_product yX7_product ∈ GW := wdg (i := 19) (by decide +kernel) rfl
theorem wd_537 : Cond.methodLink RL 72 yX6_untell ∈ GW := wdg (i := 513) (by decide +kernel) rfl
theorem wd_538 : Cond.instanceMethod yX6_untell ∈ GW := wdg (i := 514) (by decide +kernel) rfl
theorem wd_539 : Cond.selects RX6 yX6_untell yX6_untell ∈ GW := wdg (i := 515) (by decide +kernel) rfl
theorem wd_540 : Cond.code yX6_untell cX6_untell 4 (some .int) ∈ GW := wdg (i := 516) (by decide +kernel) rfl
theorem wd_541 : Cond.methodLink RX6 167 yX3_stands ∈ GW := wdg (i := 517) (by decide +kernel) rfl
theorem wd_542 : Cond.methodLink RX6 171 yX6_truth ∈ GW := wdg (i := 518) (by decide +kernel) rfl
theorem wd_543 : Cond.methodLink RX6 175 yX3_clear ∈ GW := wdg (i := 519) (by decide +kernel) rfl
theorem wd_544 : Cond.methodLink RL 75 yX7_untell ∈ GW := wdg (i := 895) (by decide +kernel) rfl
theorem wd_545 : Cond.instanceMethod yX7_untell ∈ GW := wdg (i := 896) (by decide +kernel) rfl
theorem wd_546 : Cond.selects RX7 yX7_untell yX7_untell ∈ GW := wdg (i := 897) (by decide +kernel) rfl
theorem wd_547 : Cond.code yX7_untell cX7_untell 3 (some .int) ∈ GW := wdg (i := 898) (by decide +kernel) rfl
theorem wd_548 : Cond.methodLink RL 76 yX6_law ∈ GW := wdg (i := 520) (by decide +kernel) rfl
theorem wd_549 : Cond.instanceMethod yX6_law ∈ GW := wdg (i := 521) (by decide +kernel) rfl
theorem wd_550 : Cond.selects RX6 yX6_law yX6_law ∈ GW := wdg (i := 522) (by decide +kernel) rfl
theorem wd_551 : Cond.code yX6_law cX6_law 5 (some .int) ∈ GW := wdg (i := 523) (by decide +kernel) rfl
theorem wd_552 : Cond.methodLink RX6 178 yX5_given ∈ GW := wdg (i := 524) (by decide +kernel) rfl
theorem wd_553 : Cond.methodLink RL 79 yX7_law ∈ GW := wdg (i := 1042) (by decide +kernel) rfl
theorem wd_554 : Cond.instanceMethod yX7_law ∈ GW := wdg (i := 1043) (by decide +kernel) rfl
theorem wd_555 : Cond.selects RX7 yX7_law yX7_law ∈ GW := wdg (i := 1044) (by decide +kernel) rfl
theorem wd_556 : Cond.code yX7_law cX7_law 5 (some .int) ∈ GW := wdg (i := 1045) (by decide +kernel) rfl
theorem wd_557 : Cond.methodLink RL 80 yX6_years ∈ GW := wdg (i := 525) (by decide +kernel) rfl
theorem wd_558 : Cond.instanceMethod yX6_years ∈ GW := wdg (i := 526) (by decide +kernel) rfl
theorem wd_559 : Cond.selects RX6 yX6_years yX6_years ∈ GW := wdg (i := 527) (by decide +kernel) rfl
theorem wd_560 : Cond.code yX6_years cX6_years 3 (some .int) ∈ GW := wdg (i := 528) (by decide +kernel) rfl
theorem wd_561 : Cond.methodLink RX6 181 yX5_goBy ∈ GW := wdg (i := 529) (by decide +kernel) rfl
theorem wd_562 : Cond.instanceMethod yX5_goBy ∈ GW := wdg (i := 530) (by decide +kernel) rfl
theorem wd_563 : Cond.selects RX5 yX5_goBy yX5_goBy ∈ GW := wdg (i := 531) (by decide +kernel) rfl
theorem wd_564 : Cond.code yX5_goBy cX5_goBy 1 none ∈ GW := wdg (i := 532) (by decide +kernel) rfl
theorem wd_565 : Cond.fieldLink RX5 59 "DirtPress$World" "year" "I" ∈ GW := wdg (i := 125) (by decide +kernel) rfl
theorem wd_566 : Cond.methodLink RX5 109 yX5_grow ∈ GW := wdg (i := 533) (by decide +kernel) rfl
theorem wd_567 : Cond.instanceMethod yX5_grow ∈ GW := wdg (i := 534) (by decide +kernel) rfl
theorem wd_568 : Cond.selects RX5 yX5_grow yX5_grow ∈ GW := wdg (i := 535) (by decide +kernel) rfl
theorem wd_569 : Cond.code yX5_grow cX5_grow 7 none ∈ GW := wdg (i := 536) (by decide +kernel) rfl
theorem wd_570 : Cond.methodLink RX5 103 yX5_gainOf ∈ GW := wdg (i := 537) (by decide +kernel) rfl
theorem wd_571 : Cond.methodLink RL 83 yX7_years ∈ GW := wdg (i := 1046) (by decide +kernel) rfl
theorem wd_572 : Cond.instanceMethod yX7_years ∈ GW := wdg (i := 1047) (by decide +kernel) rfl
theorem wd_573 : Cond.selects RX7 yX7_years yX7_years ∈ GW := wdg (i := 1048) (by decide +kernel) rfl
theorem wd_574 : Cond.code yX7_years cX7_years 4 (some .int) ∈ GW := wdg (i := 1049) (by decide +kernel) rfl
theorem wd_575 : Cond.methodLink RX7 195 yX7_whyNot ∈ GW := wdg (i := 1050) (by decide +kernel) rfl
theorem wd_576 : Cond.instanceMethod yX7_whyNot ∈ GW := wdg (i := 1052) (by decide +kernel) rfl
theorem wd_577 : Cond.selects RX7 yX7_whyNot yX7_whyNot ∈ GW := wdg (i := 46) (by decide +kernel) rfl
theorem wd_578 : Cond.code yX7_whyNot cX7_whyNot 3 (some .int) ∈ GW := wdg (i := 1053) (by decide +kernel) rfl
theorem wd_579 : Cond.methodLink RX7 198 yX7_aYear ∈ GW := wdg (i := 1054) (by decide +kernel) rfl
theorem wd_580 : Cond.instanceMethod yX7_aYear ∈ GW := wdg (i := 1056) (by decide +kernel) rfl
theorem wd_581 : Cond.selects RX7 yX7_aYear yX7_aYear ∈ GW := wdg (i := 47) (by decide +kernel) rfl
theorem wd_582 : Cond.code yX7_aYear cX7_aYear 3 none ∈ GW := wdg (i := 1057) (by decide +kernel) rfl
theorem wd_583 : Cond.methodLink RL 84 yX6_loose ∈ GW := wdg (i := 538) (by decide +kernel) rfl
theorem wd_584 : Cond.instanceMethod yX6_loose ∈ GW := wdg (i := 539) (by decide +kernel) rfl
theorem wd_585 : Cond.selects RX6 yX6_loose yX6_loose ∈ GW := wdg (i := 540) (by decide +kernel) rfl
theorem wd_586 : Cond.code yX6_loose cX6_loose 4 (some .int) ∈ GW := wdg (i := 541) (by decide +kernel) rfl
theorem wd_587 : Cond.methodLink RX6 184 yX5_steal ∈ GW := wdg (i := 542) (by decide +kernel) rfl
theorem wd_588 : Cond.instanceMethod yX5_steal ∈ GW := wdg (i := 543) (by decide +kernel) rfl
theorem wd_589 : Cond.selects RX5 yX5_steal yX5_steal ∈ GW := wdg (i := 544) (by decide +kernel) rfl
theorem wd_590 : Cond.code yX5_steal cX5_steal 6 (some .int) ∈ GW := wdg (i := 545) (by decide +kernel) rfl
theorem wd_591 : Cond.methodLink RX5 118 Lib.Math.min.name ∈ GW := wdg (i := 551) (by decide +kernel) rfl
theorem wd_592 : Cond.methodLink RX5 114 yX5_draw ∈ GW := wdg (i := 546) (by decide +kernel) rfl
theorem wd_593 : Cond.instanceMethod yX5_draw ∈ GW := wdg (i := 547) (by decide +kernel) rfl
theorem wd_594 : Cond.selects RX5 yX5_draw yX5_draw ∈ GW := wdg (i := 548) (by decide +kernel) rfl
theorem wd_595 : Cond.code yX5_draw cX5_draw 1 (some .int) ∈ GW := wdg (i := 549) (by decide +kernel) rfl
theorem wd_596 : Cond.constant RX5 113 (1103515245) ∈ GW := wdg (i := 550) (by decide +kernel) rfl
theorem wd_597 : Cond.methodLink RX5 123 yX5_go ∈ GW := wdg (i := 552) (by decide +kernel) rfl
theorem wd_598 : Cond.methodLink RL 87 yX7_loose ∈ GW := wdg (i := 1058) (by decide +kernel) rfl
theorem wd_599 : Cond.instanceMethod yX7_loose ∈ GW := wdg (i := 1059) (by decide +kernel) rfl
theorem wd_600 : Cond.selects RX7 yX7_loose yX7_loose ∈ GW := wdg (i := 1060) (by decide +kernel) rfl
theorem wd_601 : Cond.code yX7_loose cX7_loose 5 (some .int) ∈ GW := wdg (i := 1061) (by decide +kernel) rfl
theorem wd_602 : Cond.methodLink RX7 204 yX7_steals ∈ GW := wdg (i := 1062) (by decide +kernel) rfl
theorem wd_603 : Cond.instanceMethod yX7_steals ∈ GW := wdg (i := 1064) (by decide +kernel) rfl
theorem wd_604 : Cond.selects RX7 yX7_steals yX7_steals ∈ GW := wdg (i := 48) (by decide +kernel) rfl
theorem wd_605 : Cond.code yX7_steals cX7_steals 6 (some .int) ∈ GW := wdg (i := 1065) (by decide +kernel) rfl
theorem wd_606 : Cond.methodLink RX7 201 yX7_draw ∈ GW := wdg (i := 1066) (by decide +kernel) rfl
theorem wd_607 : Cond.instanceMethod yX7_draw ∈ GW := wdg (i := 1068) (by decide +kernel) rfl
theorem wd_608 : Cond.selects RX7 yX7_draw yX7_draw ∈ GW := wdg (i := 49) (by decide +kernel) rfl
theorem wd_609 : Cond.code yX7_draw cX7_draw 1 (some .int) ∈ GW := wdg (i := 1069) (by decide +kernel) rfl
theorem wd_610 : Cond.constant RX7 146 (1103515245) ∈ GW := wdg (i := 1070) (by decide +kernel) rfl
theorem wd_611 : Cond.methodLink RL 88 yX6_year ∈ GW := wdg (i := 553) (by decide +kernel) rfl
theorem wd_612 : Cond.instanceMethod yX6_year ∈ GW := wdg (i := 554) (by decide +kernel) rfl
theorem wd_613 : Cond.selects RX6 yX6_year yX6_year ∈ GW := wdg (i := 555) (by decide +kernel) rfl
theorem wd_614 : Cond.code yX6_year cX6_year 3 (some .int) ∈ GW := wdg (i := 556) (by decide +kernel) rfl
theorem wd_615 : Cond.methodLink RL 91 yX7_year ∈ GW := wdg (i := 1071) (by decide +kernel) rfl
theorem wd_616 : Cond.instanceMethod yX7_year ∈ GW := wdg (i := 1072) (by decide +kernel) rfl
theorem wd_617 : Cond.selects RX7 yX7_year yX7_year ∈ GW := wdg (i := 1073) (by decide +kernel) rfl
theorem wd_618 : Cond.code yX7_year cX7_year 2 (some .int) ∈ GW := wdg (i := 1074) (by decide +kernel) rfl
theorem wd_619 : Cond.methodLink RL 92 yX6_seed ∈ GW := wdg (i := 557) (by decide +kernel) rfl
theorem wd_620 : Cond.instanceMethod yX6_seed ∈ GW := wdg (i := 558) (by decide +kernel) rfl
theorem wd_621 : Cond.selects RX6 yX6_seed yX6_seed ∈ GW := wdg (i := 559) (by decide +kernel) rfl
theorem wd_622 : Cond.code yX6_seed cX6_seed 3 (some .int) ∈ GW := wdg (i := 560) (by decide +kernel) rfl
theorem wd_623 : Cond.fieldLink RX6 188 "DirtPress$World" "z" "I" ∈ GW := wdg (i := 128) (by decide +kernel) rfl
theorem wd_624 : Cond.methodLink RL 95 yX7_seed ∈ GW := wdg (i := 1075) (by decide +kernel) rfl
theorem wd_625 : Cond.instanceMethod yX7_seed ∈ GW := wdg (i := 1076) (by decide +kernel) rfl
theorem wd_626 : Cond.selects RX7 yX7_seed yX7_seed ∈ GW := wdg (i := 1077) (by decide +kernel) rfl
theorem wd_627 : Cond.code yX7_seed cX7_seed 2 (some .int) ∈ GW := wdg (i := 1078) (by decide +kernel) rfl
theorem wd_628 : Cond.methodLink RL 96 yX6_then ∈ GW := wdg (i := 561) (by decide +kernel) rfl
theorem wd_629 : Cond.instanceMethod yX6_then ∈ GW := wdg (i := 562) (by decide +kernel) rfl
theorem wd_630 : Cond.selects RX6 yX6_then yX6_then ∈ GW := wdg (i := 563) (by decide +kernel) rfl
theorem wd_631 : Cond.code yX6_then cX6_then 4 (some .int) ∈ GW := wdg (i := 564) (by decide +kernel) rfl
theorem wd_632 : Cond.methodLink RX6 191 yX4_later ∈ GW := wdg (i := 565) (by decide +kernel) rfl
theorem wd_633 : Cond.instanceMethod yX4_later ∈ GW := wdg (i := 566) (by decide +kernel) rfl
theorem wd_634 : Cond.selects RX4 yX4_later yX4_later ∈ GW := wdg (i := 567) (by decide +kernel) rfl
theorem wd_635 : Cond.code yX4_later cX4_later 8 (some .int) ∈ GW := wdg (i := 568) (by decide +kernel) rfl
theorem wd_636 : Cond.fieldLink RX4 21 "DirtPress$World" "spoons" "[I" ∈ GW := wdg (i := 120) (by decide +kernel) rfl
theorem wd_637 : Cond.fieldLink RX4 30 "DirtPress$World" "year" "I" ∈ GW := wdg (i := 124) (by decide +kernel) rfl
theorem wd_638 : Cond.methodLink RX4 34 yX5_gainOf ∈ GW := wdg (i := 570) (by decide +kernel) rfl
theorem wd_639 : Cond.methodLink RL 99 yX7_then ∈ GW := wdg (i := 1079) (by decide +kernel) rfl
theorem wd_640 : Cond.instanceMethod yX7_then ∈ GW := wdg (i := 1080) (by decide +kernel) rfl
theorem wd_641 : Cond.selects RX7 yX7_then yX7_then ∈ GW := wdg (i := 1081) (by decide +kernel) rfl
theorem wd_642 : Cond.code yX7_then cX7_then 5 (some .int) ∈ GW := wdg (i := 1082) (by decide +kernel) rfl
theorem wd_643 : Cond.methodLink RX7 207 yX7_layDown ∈ GW := wdg (i := 1083) (by decide +kernel) rfl
theorem wd_644 : Cond.instanceMethod yX7_layDown ∈ GW := wdg (i := 1085) (by decide +kernel) rfl
theorem wd_645 : Cond.selects RX7 yX7_layDown yX7_layDown ∈ GW := wdg (i := 50) (by decide +kernel) rfl
theorem wd_646 : Cond.code yX7_layDown cX7_layDown 2 none ∈ GW := wdg (i := 1086) (by decide +kernel) rfl
theorem wd_647 : Cond.methodLink RX7 210 yX7_layBack ∈ GW := wdg (i := 1087) (by decide +kernel) rfl
theorem wd_648 : Cond.instanceMethod yX7_layBack ∈ GW := wdg (i := 1089) (by decide +kernel) rfl
theorem wd_649 : Cond.selects RX7 yX7_layBack yX7_layBack ∈ GW := wdg (i := 51) (by decide +kernel) rfl
theorem wd_650 : Cond.code yX7_layBack cX7_layBack 2 none ∈ GW := wdg (i := 1090) (by decide +kernel) rfl
theorem wd_651 : Cond.methodLink RL 100 yX6_clean ∈ GW := wdg (i := 572) (by decide +kernel) rfl
theorem wd_652 : Cond.instanceMethod yX6_clean ∈ GW := wdg (i := 573) (by decide +kernel) rfl
theorem wd_653 : Cond.selects RX6 yX6_clean yX6_clean ∈ GW := wdg (i := 574) (by decide +kernel) rfl
theorem wd_654 : Cond.code yX6_clean cX6_clean 4 (some .int) ∈ GW := wdg (i := 575) (by decide +kernel) rfl
theorem wd_655 : Cond.methodLink RX6 195 yX4_firstBelow ∈ GW := wdg (i := 576) (by decide +kernel) rfl
theorem wd_656 : Cond.instanceMethod yX4_firstBelow ∈ GW := wdg (i := 577) (by decide +kernel) rfl
theorem wd_657 : Cond.selects RX4 yX4_firstBelow yX4_firstBelow ∈ GW := wdg (i := 578) (by decide +kernel) rfl
theorem wd_658 : Cond.code yX4_firstBelow cX4_firstBelow 5 (some .int) ∈ GW := wdg (i := 579) (by decide +kernel) rfl
theorem wd_659 : Cond.methodLink RX4 42 arraycopyName ∈ GW := wdg (i := 580) (by decide +kernel) rfl
theorem wd_660 : Cond.fieldLink RX4 52 "DirtPress$World" "people" "I" ∈ GW := wdg (i := 110) (by decide +kernel) rfl
theorem wd_661 : Cond.methodLink RX4 48 yX5_grow ∈ GW := wdg (i := 581) (by decide +kernel) rfl
theorem wd_662 : Cond.methodLink RL 103 yX7_clean ∈ GW := wdg (i := 1091) (by decide +kernel) rfl
theorem wd_663 : Cond.instanceMethod yX7_clean ∈ GW := wdg (i := 1092) (by decide +kernel) rfl
theorem wd_664 : Cond.selects RX7 yX7_clean yX7_clean ∈ GW := wdg (i := 1093) (by decide +kernel) rfl
theorem wd_665 : Cond.code yX7_clean cX7_clean 5 (some .int) ∈ GW := wdg (i := 1094) (by decide +kernel) rfl
theorem wd_666 : Cond.methodLink RX7 213 yX7_whoIsClean ∈ GW := wdg (i := 1095) (by decide +kernel) rfl
theorem wd_667 : Cond.instanceMethod yX7_whoIsClean ∈ GW := wdg (i := 1097) (by decide +kernel) rfl
theorem wd_668 : Cond.selects RX7 yX7_whoIsClean yX7_whoIsClean ∈ GW := wdg (i := 52) (by decide +kernel) rfl
theorem wd_669 : Cond.code yX7_whoIsClean cX7_whoIsClean 4 (some .int) ∈ GW := wdg (i := 1098) (by decide +kernel) rfl
theorem wd_670 : Cond.methodLink RL 104 yX6_parents ∈ GW := wdg (i := 583) (by decide +kernel) rfl
theorem wd_671 : Cond.instanceMethod yX6_parents ∈ GW := wdg (i := 584) (by decide +kernel) rfl
theorem wd_672 : Cond.selects RX6 yX6_parents yX6_parents ∈ GW := wdg (i := 585) (by decide +kernel) rfl
theorem wd_673 : Cond.code yX6_parents cX6_parents 4 (some .int) ∈ GW := wdg (i := 586) (by decide +kernel) rfl
theorem wd_674 : Cond.methodLink RX6 198 yX4_pairsFor ∈ GW := wdg (i := 587) (by decide +kernel) rfl
theorem wd_675 : Cond.instanceMethod yX4_pairsFor ∈ GW := wdg (i := 588) (by decide +kernel) rfl
theorem wd_676 : Cond.selects RX4 yX4_pairsFor yX4_pairsFor ∈ GW := wdg (i := 589) (by decide +kernel) rfl
theorem wd_677 : Cond.code yX4_pairsFor cX4_pairsFor 6 (some .int) ∈ GW := wdg (i := 590) (by decide +kernel) rfl
theorem wd_678 : Cond.methodLink RX4 62 yX4_couldBear ∈ GW := wdg (i := 591) (by decide +kernel) rfl
theorem wd_679 : Cond.instanceMethod yX4_couldBear ∈ GW := wdg (i := 593) (by decide +kernel) rfl
theorem wd_680 : Cond.selects RX4 yX4_couldBear yX4_couldBear ∈ GW := wdg (i := 8) (by decide +kernel) rfl
theorem wd_681 : Cond.code yX4_couldBear cX4_couldBear 6 (some .boolean) ∈ GW := wdg (i := 594) (by decide +kernel) rfl
theorem wd_682 : Cond.methodLink RX4 59 yX5_poured ∈ GW := wdg (i := 595) (by decide +kernel) rfl
theorem wd_683 : Cond.methodLink RX6 201 yX4_firstPairFor ∈ GW := wdg (i := 597) (by decide +kernel) rfl
theorem wd_684 : Cond.instanceMethod yX4_firstPairFor ∈ GW := wdg (i := 598) (by decide +kernel) rfl
theorem wd_685 : Cond.selects RX4 yX4_firstPairFor yX4_firstPairFor ∈ GW := wdg (i := 599) (by decide +kernel) rfl
theorem wd_686 : Cond.code yX4_firstPairFor cX4_firstPairFor 5 (some .int) ∈ GW := wdg (i := 600) (by decide +kernel) rfl
theorem wd_687 : Cond.methodLink RL 107 yX7_parents ∈ GW := wdg (i := 1099) (by decide +kernel) rfl
theorem wd_688 : Cond.instanceMethod yX7_parents ∈ GW := wdg (i := 1100) (by decide +kernel) rfl
theorem wd_689 : Cond.selects RX7 yX7_parents yX7_parents ∈ GW := wdg (i := 1101) (by decide +kernel) rfl
theorem wd_690 : Cond.code yX7_parents cX7_parents 8 (some .int) ∈ GW := wdg (i := 1102) (by decide +kernel) rfl
theorem wd_691 : Cond.methodLink RX7 216 yX7_arePoured ∈ GW := wdg (i := 1103) (by decide +kernel) rfl
theorem wd_692 : Cond.instanceMethod yX7_arePoured ∈ GW := wdg (i := 1105) (by decide +kernel) rfl
theorem wd_693 : Cond.selects RX7 yX7_arePoured yX7_arePoured ∈ GW := wdg (i := 53) (by decide +kernel) rfl
theorem wd_694 : Cond.code yX7_arePoured cX7_arePoured 6 (some .boolean) ∈ GW := wdg (i := 1106) (by decide +kernel) rfl
theorem wd_695 : Cond.methodLink RL 108 yX6_falseSorts ∈ GW := wdg (i := 602) (by decide +kernel) rfl
theorem wd_696 : Cond.instanceMethod yX6_falseSorts ∈ GW := wdg (i := 603) (by decide +kernel) rfl
theorem wd_697 : Cond.selects RX6 yX6_falseSorts yX6_falseSorts ∈ GW := wdg (i := 604) (by decide +kernel) rfl
theorem wd_698 : Cond.code yX6_falseSorts cX6_falseSorts 7 (some .int) ∈ GW := wdg (i := 605) (by decide +kernel) rfl
theorem wd_699 : Cond.methodLink RL 111 yX7_falseSorts ∈ GW := wdg (i := 1107) (by decide +kernel) rfl
theorem wd_700 : Cond.instanceMethod yX7_falseSorts ∈ GW := wdg (i := 1108) (by decide +kernel) rfl
theorem wd_701 : Cond.selects RX7 yX7_falseSorts yX7_falseSorts ∈ GW := wdg (i := 1109) (by decide +kernel) rfl
theorem wd_702 : Cond.code yX7_falseSorts cX7_falseSorts 6 (some .int) ∈ GW := wdg (i := 1110) (by decide +kernel) rfl
theorem wd_703 : Cond.methodLink RL 112 yX6_kin ∈ GW := wdg (i := 606) (by decide +kernel) rfl
theorem wd_704 : Cond.instanceMethod yX6_kin ∈ GW := wdg (i := 607) (by decide +kernel) rfl
theorem wd_705 : Cond.selects RX6 yX6_kin yX6_kin ∈ GW := wdg (i := 608) (by decide +kernel) rfl
theorem wd_706 : Cond.code yX6_kin cX6_kin 3 (some .int) ∈ GW := wdg (i := 609) (by decide +kernel) rfl
theorem wd_707 : Cond.methodLink RX6 204 yX5_withForebears ∈ GW := wdg (i := 610) (by decide +kernel) rfl
theorem wd_708 : Cond.methodLink RL 115 yX7_kin ∈ GW := wdg (i := 1111) (by decide +kernel) rfl
theorem wd_709 : Cond.instanceMethod yX7_kin ∈ GW := wdg (i := 1112) (by decide +kernel) rfl
theorem wd_710 : Cond.selects RX7 yX7_kin yX7_kin ∈ GW := wdg (i := 1113) (by decide +kernel) rfl
theorem wd_711 : Cond.code yX7_kin cX7_kin 3 (some .int) ∈ GW := wdg (i := 1114) (by decide +kernel) rfl
theorem wd_712 : Cond.methodLink RL 116 yX6_nets ∈ GW := wdg (i := 611) (by decide +kernel) rfl
theorem wd_713 : Cond.instanceMethod yX6_nets ∈ GW := wdg (i := 612) (by decide +kernel) rfl
theorem wd_714 : Cond.selects RX6 yX6_nets yX6_nets ∈ GW := wdg (i := 613) (by decide +kernel) rfl
theorem wd_715 : Cond.code yX6_nets cX6_nets 4 (some .int) ∈ GW := wdg (i := 614) (by decide +kernel) rfl
theorem wd_716 : Cond.methodLink RX6 207 yX4_fewestPayments ∈ GW := wdg (i := 615) (by decide +kernel) rfl
theorem wd_717 : Cond.instanceMethod yX4_fewestPayments ∈ GW := wdg (i := 616) (by decide +kernel) rfl
theorem wd_718 : Cond.selects RX4 yX4_fewestPayments yX4_fewestPayments ∈ GW := wdg (i := 617) (by decide +kernel) rfl
theorem wd_719 : Cond.code yX4_fewestPayments cX4_fewestPayments 6 (some .int) ∈ GW := wdg (i := 618) (by decide +kernel) rfl
theorem wd_720 : Cond.methodLink RX4 80 Lib.Math.max.name ∈ GW := wdg (i := 624) (by decide +kernel) rfl
theorem wd_721 : Cond.methodLink RX4 76 yX5_balanceOf ∈ GW := wdg (i := 619) (by decide +kernel) rfl
theorem wd_722 : Cond.instanceMethod yX5_balanceOf ∈ GW := wdg (i := 620) (by decide +kernel) rfl
theorem wd_723 : Cond.selects RX5 yX5_balanceOf yX5_balanceOf ∈ GW := wdg (i := 621) (by decide +kernel) rfl
theorem wd_724 : Cond.code yX5_balanceOf cX5_balanceOf 4 (some .int) ∈ GW := wdg (i := 622) (by decide +kernel) rfl
theorem wd_725 : Cond.methodLink RX6 211 yX5_balanceOf ∈ GW := wdg (i := 625) (by decide +kernel) rfl
theorem wd_726 : Cond.methodLink RL 119 yX7_nets ∈ GW := wdg (i := 1115) (by decide +kernel) rfl
theorem wd_727 : Cond.instanceMethod yX7_nets ∈ GW := wdg (i := 1116) (by decide +kernel) rfl
theorem wd_728 : Cond.selects RX7 yX7_nets yX7_nets ∈ GW := wdg (i := 1117) (by decide +kernel) rfl
theorem wd_729 : Cond.code yX7_nets cX7_nets 4 (some .int) ∈ GW := wdg (i := 1118) (by decide +kernel) rfl
theorem wd_730 : Cond.methodLink RX7 222 yX7_fewestPayments ∈ GW := wdg (i := 1119) (by decide +kernel) rfl
theorem wd_731 : Cond.instanceMethod yX7_fewestPayments ∈ GW := wdg (i := 1121) (by decide +kernel) rfl
theorem wd_732 : Cond.selects RX7 yX7_fewestPayments yX7_fewestPayments ∈ GW := wdg (i := 54) (by decide +kernel) rfl
theorem wd_733 : Cond.code yX7_fewestPayments cX7_fewestPayments 8 (some .int) ∈ GW := wdg (i := 1122) (by decide +kernel) rfl
theorem wd_734 : Cond.methodLink RX7 219 yX7_balance ∈ GW := wdg (i := 1123) (by decide +kernel) rfl
theorem wd_735 : Cond.instanceMethod yX7_balance ∈ GW := wdg (i := 1125) (by decide +kernel) rfl
theorem wd_736 : Cond.selects RX7 yX7_balance yX7_balance ∈ GW := wdg (i := 55) (by decide +kernel) rfl
theorem wd_737 : Cond.code yX7_balance cX7_balance 4 (some .int) ∈ GW := wdg (i := 1126) (by decide +kernel) rfl
theorem wd_738 : Cond.methodLink RL 120 yX6_odds ∈ GW := wdg (i := 626) (by decide +kernel) rfl
theorem wd_739 : Cond.instanceMethod yX6_odds ∈ GW := wdg (i := 627) (by decide +kernel) rfl
theorem wd_740 : Cond.selects RX6 yX6_odds yX6_odds ∈ GW := wdg (i := 628) (by decide +kernel) rfl
theorem wd_741 : Cond.code yX6_odds cX6_odds 6 (some .int) ∈ GW := wdg (i := 629) (by decide +kernel) rfl
theorem wd_742 : Cond.methodLink RX6 219 yX4_pairsBelow ∈ GW := wdg (i := 630) (by decide +kernel) rfl
theorem wd_743 : Cond.instanceMethod yX4_pairsBelow ∈ GW := wdg (i := 631) (by decide +kernel) rfl
theorem wd_744 : Cond.selects RX4 yX4_pairsBelow yX4_pairsBelow ∈ GW := wdg (i := 632) (by decide +kernel) rfl
theorem wd_745 : Cond.code yX4_pairsBelow cX4_pairsBelow 6 (some .int) ∈ GW := wdg (i := 633) (by decide +kernel) rfl
theorem wd_746 : Cond.methodLink RX4 73 yX5_pouredTogether ∈ GW := wdg (i := 634) (by decide +kernel) rfl
theorem wd_747 : Cond.instanceMethod yX5_pouredTogether ∈ GW := wdg (i := 635) (by decide +kernel) rfl
theorem wd_748 : Cond.selects RX5 yX5_pouredTogether yX5_pouredTogether ∈ GW := wdg (i := 636) (by decide +kernel) rfl
theorem wd_749 : Cond.code yX5_pouredTogether cX5_pouredTogether 5 (some .int) ∈ GW := wdg (i := 637) (by decide +kernel) rfl
theorem wd_750 : Cond.methodLink RX6 222 yX6_commonDivisor ∈ GW := wdg (i := 638) (by decide +kernel) rfl
theorem wd_751 : Cond.static yX6_commonDivisor ∈ GW := wdg (i := 639) (by decide +kernel) rfl
theorem wd_752 : Cond.code yX6_commonDivisor cX6_commonDivisor 3 (some .int) ∈ GW := wdg (i := 640) (by decide +kernel) rfl
theorem wd_753 : Cond.methodLink RL 123 yX7_odds ∈ GW := wdg (i := 1127) (by decide +kernel) rfl
theorem wd_754 : Cond.instanceMethod yX7_odds ∈ GW := wdg (i := 1128) (by decide +kernel) rfl
theorem wd_755 : Cond.selects RX7 yX7_odds yX7_odds ∈ GW := wdg (i := 1129) (by decide +kernel) rfl
theorem wd_756 : Cond.code yX7_odds cX7_odds 7 (some .int) ∈ GW := wdg (i := 1130) (by decide +kernel) rfl
theorem wd_757 : Cond.methodLink RX7 225 yX7_pouredHeap ∈ GW := wdg (i := 1131) (by decide +kernel) rfl
theorem wd_758 : Cond.instanceMethod yX7_pouredHeap ∈ GW := wdg (i := 1133) (by decide +kernel) rfl
theorem wd_759 : Cond.selects RX7 yX7_pouredHeap yX7_pouredHeap ∈ GW := wdg (i := 56) (by decide +kernel) rfl
theorem wd_760 : Cond.code yX7_pouredHeap cX7_pouredHeap 5 (some .int) ∈ GW := wdg (i := 1134) (by decide +kernel) rfl
theorem wd_761 : Cond.methodLink RX7 228 yX7_divisor ∈ GW := wdg (i := 1135) (by decide +kernel) rfl
theorem wd_762 : Cond.static yX7_divisor ∈ GW := wdg (i := 1136) (by decide +kernel) rfl
theorem wd_763 : Cond.code yX7_divisor cX7_divisor 5 (some .int) ∈ GW := wdg (i := 1137) (by decide +kernel) rfl
theorem wd_764 : Cond.methodLink RL 124 yX6_fits ∈ GW := wdg (i := 641) (by decide +kernel) rfl
theorem wd_765 : Cond.instanceMethod yX6_fits ∈ GW := wdg (i := 642) (by decide +kernel) rfl
theorem wd_766 : Cond.selects RX6 yX6_fits yX6_fits ∈ GW := wdg (i := 643) (by decide +kernel) rfl
theorem wd_767 : Cond.code yX6_fits cX6_fits 5 (some .int) ∈ GW := wdg (i := 644) (by decide +kernel) rfl
theorem wd_768 : Cond.fieldLink RX6 231 "DirtPress$Sheet" "length" "I" ∈ GW := wdg (i := 186) (by decide +kernel) rfl
theorem wd_769 : Cond.methodLink RX6 225 yX6_notSheet ∈ GW := wdg (i := 645) (by decide +kernel) rfl
theorem wd_770 : Cond.static yX6_notSheet ∈ GW := wdg (i := 646) (by decide +kernel) rfl
theorem wd_771 : Cond.code yX6_notSheet cX6_notSheet 1 (some .boolean) ∈ GW := wdg (i := 647) (by decide +kernel) rfl
theorem wd_772 : Cond.methodLink RX6 228 yX1_missing ∈ GW := wdg (i := 648) (by decide +kernel) rfl
theorem wd_773 : Cond.instanceMethod yX1_missing ∈ GW := wdg (i := 649) (by decide +kernel) rfl
theorem wd_774 : Cond.selects RX1 yX1_missing yX1_missing ∈ GW := wdg (i := 650) (by decide +kernel) rfl
theorem wd_775 : Cond.code yX1_missing cX1_missing 1 (some .boolean) ∈ GW := wdg (i := 651) (by decide +kernel) rfl
theorem wd_776 : Cond.fieldLink RX1 15 "DirtPress$Sheet" "bits" "I" ∈ GW := wdg (i := 182) (by decide +kernel) rfl
theorem wd_777 : Cond.methodLink RX6 234 yX4_setsThatFit ∈ GW := wdg (i := 652) (by decide +kernel) rfl
theorem wd_778 : Cond.instanceMethod yX4_setsThatFit ∈ GW := wdg (i := 653) (by decide +kernel) rfl
theorem wd_779 : Cond.selects RX4 yX4_setsThatFit yX4_setsThatFit ∈ GW := wdg (i := 654) (by decide +kernel) rfl
theorem wd_780 : Cond.code yX4_setsThatFit cX4_setsThatFit 5 (some .int) ∈ GW := wdg (i := 655) (by decide +kernel) rfl
theorem wd_781 : Cond.methodLink RX4 93 yX4_fitsSet ∈ GW := wdg (i := 656) (by decide +kernel) rfl
theorem wd_782 : Cond.instanceMethod yX4_fitsSet ∈ GW := wdg (i := 658) (by decide +kernel) rfl
theorem wd_783 : Cond.selects RX4 yX4_fitsSet yX4_fitsSet ∈ GW := wdg (i := 9) (by decide +kernel) rfl
theorem wd_784 : Cond.code yX4_fitsSet cX4_fitsSet 7 (some .boolean) ∈ GW := wdg (i := 659) (by decide +kernel) rfl
theorem wd_785 : Cond.fieldLink RX4 85 "DirtPress$Sheet" "length" "I" ∈ GW := wdg (i := 185) (by decide +kernel) rfl
theorem wd_786 : Cond.fieldLink RX4 90 "DirtPress$Sheet" "numbers" "[I" ∈ GW := wdg (i := 180) (by decide +kernel) rfl
theorem wd_787 : Cond.methodLink RX6 238 yX4_leastThatFits ∈ GW := wdg (i := 660) (by decide +kernel) rfl
theorem wd_788 : Cond.instanceMethod yX4_leastThatFits ∈ GW := wdg (i := 661) (by decide +kernel) rfl
theorem wd_789 : Cond.selects RX4 yX4_leastThatFits yX4_leastThatFits ∈ GW := wdg (i := 662) (by decide +kernel) rfl
theorem wd_790 : Cond.code yX4_leastThatFits cX4_leastThatFits 4 (some .int) ∈ GW := wdg (i := 663) (by decide +kernel) rfl
theorem wd_791 : Cond.methodLink RL 127 yX7_fits ∈ GW := wdg (i := 1138) (by decide +kernel) rfl
theorem wd_792 : Cond.instanceMethod yX7_fits ∈ GW := wdg (i := 1139) (by decide +kernel) rfl
theorem wd_793 : Cond.selects RX7 yX7_fits yX7_fits ∈ GW := wdg (i := 1140) (by decide +kernel) rfl
theorem wd_794 : Cond.code yX7_fits cX7_fits 8 (some .int) ∈ GW := wdg (i := 1141) (by decide +kernel) rfl
theorem wd_795 : Cond.methodLink RX7 231 yX7_lacks ∈ GW := wdg (i := 1142) (by decide +kernel) rfl
theorem wd_796 : Cond.instanceMethod yX7_lacks ∈ GW := wdg (i := 1144) (by decide +kernel) rfl
theorem wd_797 : Cond.selects RX7 yX7_lacks yX7_lacks ∈ GW := wdg (i := 57) (by decide +kernel) rfl
theorem wd_798 : Cond.code yX7_lacks cX7_lacks 2 (some .int) ∈ GW := wdg (i := 1145) (by decide +kernel) rfl
theorem wd_799 : Cond.methodLink RX7 269 yX7_isSheet ∈ GW := wdg (i := 1146) (by decide +kernel) rfl
theorem wd_800 : Cond.static yX7_isSheet ∈ GW := wdg (i := 1147) (by decide +kernel) rfl
theorem wd_801 : Cond.code yX7_isSheet cX7_isSheet 1 (some .boolean) ∈ GW := wdg (i := 1148) (by decide +kernel) rfl
theorem wd_802 : Cond.methodLink RX7 234 yX7_haveSo ∈ GW := wdg (i := 1149) (by decide +kernel) rfl
theorem wd_803 : Cond.instanceMethod yX7_haveSo ∈ GW := wdg (i := 1151) (by decide +kernel) rfl
theorem wd_804 : Cond.selects RX7 yX7_haveSo yX7_haveSo ∈ GW := wdg (i := 58) (by decide +kernel) rfl
theorem wd_805 : Cond.code yX7_haveSo cX7_haveSo 7 (some .boolean) ∈ GW := wdg (i := 1152) (by decide +kernel) rfl
theorem wd_806 : Cond.methodLink RL 128 yX6_voice ∈ GW := wdg (i := 664) (by decide +kernel) rfl
theorem wd_807 : Cond.instanceMethod yX6_voice ∈ GW := wdg (i := 665) (by decide +kernel) rfl
theorem wd_808 : Cond.selects RX6 yX6_voice yX6_voice ∈ GW := wdg (i := 666) (by decide +kernel) rfl
theorem wd_809 : Cond.code yX6_voice cX6_voice 5 (some .int) ∈ GW := wdg (i := 667) (by decide +kernel) rfl
theorem wd_810 : Cond.fieldLink RX6 244 "DirtPress$Speech" "parted" "Z" ∈ GW := wdg (i := 249) (by decide +kernel) rfl
theorem wd_811 : Cond.methodLink RX6 241 yX2_speak ∈ GW := wdg (i := 668) (by decide +kernel) rfl
theorem wd_812 : Cond.instanceMethod yX2_speak ∈ GW := wdg (i := 669) (by decide +kernel) rfl
theorem wd_813 : Cond.selects RX2 yX2_speak yX2_speak ∈ GW := wdg (i := 670) (by decide +kernel) rfl
theorem wd_814 : Cond.code yX2_speak cX2_speak 5 (some .int) ∈ GW := wdg (i := 671) (by decide +kernel) rfl
theorem wd_815 : Cond.fieldLink RX2 15 "DirtPress$Speech" "k" "I" ∈ GW := wdg (i := 250) (by decide +kernel) rfl
theorem wd_816 : Cond.fieldLink RX2 25 "DirtPress$Speech" "m" "I" ∈ GW := wdg (i := 251) (by decide +kernel) rfl
theorem wd_817 : Cond.fieldLink RX2 31 "DirtPress$Speech" "own" "I" ∈ GW := wdg (i := 252) (by decide +kernel) rfl
theorem wd_818 : Cond.fieldLink RX2 34 "DirtPress$Speech" "begun" "I" ∈ GW := wdg (i := 246) (by decide +kernel) rfl
theorem wd_819 : Cond.fieldLink RX2 37 "DirtPress$Speech" "parted" "Z" ∈ GW := wdg (i := 248) (by decide +kernel) rfl
theorem wd_820 : Cond.methodLink RX2 19 yX5_numberOf ∈ GW := wdg (i := 672) (by decide +kernel) rfl
theorem wd_821 : Cond.methodLink RX2 28 yX5_kindOf ∈ GW := wdg (i := 673) (by decide +kernel) rfl
theorem wd_822 : Cond.methodLink RX2 41 yX2_say ∈ GW := wdg (i := 674) (by decide +kernel) rfl
theorem wd_823 : Cond.instanceMethod yX2_say ∈ GW := wdg (i := 676) (by decide +kernel) rfl
theorem wd_824 : Cond.selects RX2 yX2_say yX2_say ∈ GW := wdg (i := 10) (by decide +kernel) rfl
theorem wd_825 : Cond.code yX2_say cX2_say 7 (some .int) ∈ GW := wdg (i := 677) (by decide +kernel) rfl
theorem wd_826 : Cond.methodLink RX2 51 yX2_begin ∈ GW := wdg (i := 681) (by decide +kernel) rfl
theorem wd_827 : Cond.instanceMethod yX2_begin ∈ GW := wdg (i := 683) (by decide +kernel) rfl
theorem wd_828 : Cond.selects RX2 yX2_begin yX2_begin ∈ GW := wdg (i := 11) (by decide +kernel) rfl
theorem wd_829 : Cond.code yX2_begin cX2_begin 2 none ∈ GW := wdg (i := 684) (by decide +kernel) rfl
theorem wd_830 : Cond.methodLink RX2 55 yX2_worked ∈ GW := wdg (i := 685) (by decide +kernel) rfl
theorem wd_831 : Cond.instanceMethod yX2_worked ∈ GW := wdg (i := 687) (by decide +kernel) rfl
theorem wd_832 : Cond.selects RX2 yX2_worked yX2_worked ∈ GW := wdg (i := 12) (by decide +kernel) rfl
theorem wd_833 : Cond.code yX2_worked cX2_worked 5 (some .int) ∈ GW := wdg (i := 688) (by decide +kernel) rfl
theorem wd_834 : Cond.methodLink RX2 58 yX2_divided ∈ GW := wdg (i := 689) (by decide +kernel) rfl
theorem wd_835 : Cond.instanceMethod yX2_divided ∈ GW := wdg (i := 691) (by decide +kernel) rfl
theorem wd_836 : Cond.selects RX2 yX2_divided yX2_divided ∈ GW := wdg (i := 13) (by decide +kernel) rfl
theorem wd_837 : Cond.code yX2_divided cX2_divided 3 (some .int) ∈ GW := wdg (i := 692) (by decide +kernel) rfl
theorem wd_838 : Cond.methodLink RL 131 yX7_voice ∈ GW := wdg (i := 1153) (by decide +kernel) rfl
theorem wd_839 : Cond.instanceMethod yX7_voice ∈ GW := wdg (i := 1154) (by decide +kernel) rfl
theorem wd_840 : Cond.selects RX7 yX7_voice yX7_voice ∈ GW := wdg (i := 1155) (by decide +kernel) rfl
theorem wd_841 : Cond.code yX7_voice cX7_voice 6 (some .int) ∈ GW := wdg (i := 1156) (by decide +kernel) rfl
theorem wd_842 : Cond.fieldLink RX7 237 "DirtPressModel" "traced" "I" ∈ GW := wdg (i := 785) (by decide +kernel) rfl
theorem wd_843 : Cond.fieldLink RX7 240 "DirtPressModel" "speaks" "I" ∈ GW := wdg (i := 787) (by decide +kernel) rfl
theorem wd_844 : Cond.fieldLink RX7 262 "DirtPressModel" "isParted" "Z" ∈ GW := wdg (i := 788) (by decide +kernel) rfl
theorem wd_845 : Cond.methodLink RX7 250 yX7_kindNow ∈ GW := wdg (i := 1157) (by decide +kernel) rfl
theorem wd_846 : Cond.instanceMethod yX7_kindNow ∈ GW := wdg (i := 1159) (by decide +kernel) rfl
theorem wd_847 : Cond.selects RX7 yX7_kindNow yX7_kindNow ∈ GW := wdg (i := 59) (by decide +kernel) rfl
theorem wd_848 : Cond.code yX7_kindNow cX7_kindNow 1 (some .int) ∈ GW := wdg (i := 1160) (by decide +kernel) rfl
theorem wd_849 : Cond.methodLink RX7 247 yX7_washesAs ∈ GW := wdg (i := 1161) (by decide +kernel) rfl
theorem wd_850 : Cond.instanceMethod yX7_washesAs ∈ GW := wdg (i := 1163) (by decide +kernel) rfl
theorem wd_851 : Cond.selects RX7 yX7_washesAs yX7_washesAs ∈ GW := wdg (i := 60) (by decide +kernel) rfl
theorem wd_852 : Cond.code yX7_washesAs cX7_washesAs 3 (some .int) ∈ GW := wdg (i := 1164) (by decide +kernel) rfl
theorem wd_853 : Cond.methodLink RX7 243 yX7_starts ∈ GW := wdg (i := 1165) (by decide +kernel) rfl
theorem wd_854 : Cond.instanceMethod yX7_starts ∈ GW := wdg (i := 1167) (by decide +kernel) rfl
theorem wd_855 : Cond.selects RX7 yX7_starts yX7_starts ∈ GW := wdg (i := 61) (by decide +kernel) rfl
theorem wd_856 : Cond.code yX7_starts cX7_starts 2 none ∈ GW := wdg (i := 1168) (by decide +kernel) rfl
theorem wd_857 : Cond.methodLink RX7 253 yX7_wringsAs ∈ GW := wdg (i := 1169) (by decide +kernel) rfl
theorem wd_858 : Cond.instanceMethod yX7_wringsAs ∈ GW := wdg (i := 1171) (by decide +kernel) rfl
theorem wd_859 : Cond.selects RX7 yX7_wringsAs yX7_wringsAs ∈ GW := wdg (i := 62) (by decide +kernel) rfl
theorem wd_860 : Cond.code yX7_wringsAs cX7_wringsAs 3 (some .int) ∈ GW := wdg (i := 1172) (by decide +kernel) rfl
theorem wd_861 : Cond.methodLink RX7 256 yX7_mNow ∈ GW := wdg (i := 1173) (by decide +kernel) rfl
theorem wd_862 : Cond.instanceMethod yX7_mNow ∈ GW := wdg (i := 1175) (by decide +kernel) rfl
theorem wd_863 : Cond.selects RX7 yX7_mNow yX7_mNow ∈ GW := wdg (i := 63) (by decide +kernel) rfl
theorem wd_864 : Cond.code yX7_mNow cX7_mNow 1 (some .int) ∈ GW := wdg (i := 1176) (by decide +kernel) rfl
theorem wd_865 : Cond.methodLink RX7 259 yX7_airsAs ∈ GW := wdg (i := 1177) (by decide +kernel) rfl
theorem wd_866 : Cond.instanceMethod yX7_airsAs ∈ GW := wdg (i := 1179) (by decide +kernel) rfl
theorem wd_867 : Cond.selects RX7 yX7_airsAs yX7_airsAs ∈ GW := wdg (i := 64) (by decide +kernel) rfl
theorem wd_868 : Cond.code yX7_airsAs cX7_airsAs 3 (some .int) ∈ GW := wdg (i := 1180) (by decide +kernel) rfl
theorem wd_869 : Cond.methodLink RX7 266 yX7_partsAs ∈ GW := wdg (i := 1181) (by decide +kernel) rfl
theorem wd_870 : Cond.instanceMethod yX7_partsAs ∈ GW := wdg (i := 1183) (by decide +kernel) rfl
theorem wd_871 : Cond.selects RX7 yX7_partsAs yX7_partsAs ∈ GW := wdg (i := 65) (by decide +kernel) rfl
theorem wd_872 : Cond.code yX7_partsAs cX7_partsAs 5 (some .int) ∈ GW := wdg (i := 1184) (by decide +kernel) rfl
theorem wd_873 : Cond.methodLink RL 132 yX6_body ∈ GW := wdg (i := 693) (by decide +kernel) rfl
theorem wd_874 : Cond.instanceMethod yX6_body ∈ GW := wdg (i := 694) (by decide +kernel) rfl
theorem wd_875 : Cond.selects RX6 yX6_body yX6_body ∈ GW := wdg (i := 695) (by decide +kernel) rfl
theorem wd_876 : Cond.code yX6_body cX6_body 2 (some .int) ∈ GW := wdg (i := 696) (by decide +kernel) rfl
theorem wd_877 : Cond.fieldLink RX6 248 "DirtPress$Speech" "begun" "I" ∈ GW := wdg (i := 247) (by decide +kernel) rfl
theorem wd_878 : Cond.fieldLink RX6 251 "DirtPress$Speech" "bodies" "[I" ∈ GW := wdg (i := 245) (by decide +kernel) rfl
theorem wd_879 : Cond.methodLink RL 135 yX7_body ∈ GW := wdg (i := 1185) (by decide +kernel) rfl
theorem wd_880 : Cond.instanceMethod yX7_body ∈ GW := wdg (i := 1186) (by decide +kernel) rfl
theorem wd_881 : Cond.selects RX7 yX7_body yX7_body ∈ GW := wdg (i := 1187) (by decide +kernel) rfl
theorem wd_882 : Cond.code yX7_body cX7_body 2 (some .int) ∈ GW := wdg (i := 1188) (by decide +kernel) rfl
theorem wd_883 : Cond.methodLink RL 136 yX6_sheet ∈ GW := wdg (i := 697) (by decide +kernel) rfl
theorem wd_884 : Cond.instanceMethod yX6_sheet ∈ GW := wdg (i := 698) (by decide +kernel) rfl
theorem wd_885 : Cond.selects RX6 yX6_sheet yX6_sheet ∈ GW := wdg (i := 699) (by decide +kernel) rfl
theorem wd_886 : Cond.code yX6_sheet cX6_sheet 4 (some .int) ∈ GW := wdg (i := 700) (by decide +kernel) rfl
theorem wd_887 : Cond.methodLink RX6 254 yX1_lose ∈ GW := wdg (i := 701) (by decide +kernel) rfl
theorem wd_888 : Cond.instanceMethod yX1_lose ∈ GW := wdg (i := 702) (by decide +kernel) rfl
theorem wd_889 : Cond.selects RX1 yX1_lose yX1_lose ∈ GW := wdg (i := 703) (by decide +kernel) rfl
theorem wd_890 : Cond.code yX1_lose cX1_lose 1 none ∈ GW := wdg (i := 704) (by decide +kernel) rfl
theorem wd_891 : Cond.methodLink RX1 19 yX1_begin ∈ GW := wdg (i := 705) (by decide +kernel) rfl
theorem wd_892 : Cond.instanceMethod yX1_begin ∈ GW := wdg (i := 706) (by decide +kernel) rfl
theorem wd_893 : Cond.selects RX1 yX1_begin yX1_begin ∈ GW := wdg (i := 707) (by decide +kernel) rfl
theorem wd_894 : Cond.code yX1_begin cX1_begin 4 none ∈ GW := wdg (i := 708) (by decide +kernel) rfl
theorem wd_895 : Cond.fieldLink RX1 23 "DirtPress$Sheet" "length" "I" ∈ GW := wdg (i := 184) (by decide +kernel) rfl
theorem wd_896 : Cond.methodLink RX6 257 yX1_begin ∈ GW := wdg (i := 709) (by decide +kernel) rfl
theorem wd_897 : Cond.methodLink RL 139 yX7_sheet ∈ GW := wdg (i := 1189) (by decide +kernel) rfl
theorem wd_898 : Cond.instanceMethod yX7_sheet ∈ GW := wdg (i := 1190) (by decide +kernel) rfl
theorem wd_899 : Cond.selects RX7 yX7_sheet yX7_sheet ∈ GW := wdg (i := 1191) (by decide +kernel) rfl
theorem wd_900 : Cond.code yX7_sheet cX7_sheet 5 (some .int) ∈ GW := wdg (i := 1192) (by decide +kernel) rfl
theorem wd_901 : Cond.methodLink RL 140 yX6_put ∈ GW := wdg (i := 710) (by decide +kernel) rfl
theorem wd_902 : Cond.instanceMethod yX6_put ∈ GW := wdg (i := 711) (by decide +kernel) rfl
theorem wd_903 : Cond.selects RX6 yX6_put yX6_put ∈ GW := wdg (i := 712) (by decide +kernel) rfl
theorem wd_904 : Cond.code yX6_put cX6_put 5 (some .int) ∈ GW := wdg (i := 713) (by decide +kernel) rfl
theorem wd_905 : Cond.methodLink RX6 261 yX1_write ∈ GW := wdg (i := 714) (by decide +kernel) rfl
theorem wd_906 : Cond.instanceMethod yX1_write ∈ GW := wdg (i := 715) (by decide +kernel) rfl
theorem wd_907 : Cond.selects RX1 yX1_write yX1_write ∈ GW := wdg (i := 716) (by decide +kernel) rfl
theorem wd_908 : Cond.code yX1_write cX1_write 3 none ∈ GW := wdg (i := 717) (by decide +kernel) rfl
theorem wd_909 : Cond.methodLink RL 143 yX7_put ∈ GW := wdg (i := 1193) (by decide +kernel) rfl
theorem wd_910 : Cond.instanceMethod yX7_put ∈ GW := wdg (i := 1194) (by decide +kernel) rfl
theorem wd_911 : Cond.selects RX7 yX7_put yX7_put ∈ GW := wdg (i := 1195) (by decide +kernel) rfl
theorem wd_912 : Cond.code yX7_put cX7_put 5 (some .int) ∈ GW := wdg (i := 1196) (by decide +kernel) rfl
theorem wd_913 : Cond.methodLink RL 144 yX6_move ∈ GW := wdg (i := 718) (by decide +kernel) rfl
theorem wd_914 : Cond.instanceMethod yX6_move ∈ GW := wdg (i := 719) (by decide +kernel) rfl
theorem wd_915 : Cond.selects RX6 yX6_move yX6_move ∈ GW := wdg (i := 720) (by decide +kernel) rfl
theorem wd_916 : Cond.code yX6_move cX6_move 8 (some .int) ∈ GW := wdg (i := 721) (by decide +kernel) rfl
theorem wd_917 : Cond.fieldLink RX6 264 "DirtPress$Sheet" "bits" "I" ∈ GW := wdg (i := 183) (by decide +kernel) rfl
theorem wd_918 : Cond.fieldLink RX6 270 "DirtPress$Sheet" "numbers" "[I" ∈ GW := wdg (i := 181) (by decide +kernel) rfl
theorem wd_919 : Cond.methodLink RX6 273 arraycopyName ∈ GW := wdg (i := 726) (by decide +kernel) rfl
theorem wd_920 : Cond.methodLink RX6 267 yX1_lacks ∈ GW := wdg (i := 722) (by decide +kernel) rfl
theorem wd_921 : Cond.instanceMethod yX1_lacks ∈ GW := wdg (i := 723) (by decide +kernel) rfl
theorem wd_922 : Cond.selects RX1 yX1_lacks yX1_lacks ∈ GW := wdg (i := 724) (by decide +kernel) rfl
theorem wd_923 : Cond.code yX1_lacks cX1_lacks 3 (some .boolean) ∈ GW := wdg (i := 725) (by decide +kernel) rfl
theorem wd_924 : Cond.methodLink RL 148 yX7_move ∈ GW := wdg (i := 1197) (by decide +kernel) rfl
theorem wd_925 : Cond.instanceMethod yX7_move ∈ GW := wdg (i := 1198) (by decide +kernel) rfl
theorem wd_926 : Cond.selects RX7 yX7_move yX7_move ∈ GW := wdg (i := 1199) (by decide +kernel) rfl
theorem wd_927 : Cond.code yX7_move cX7_move 7 (some .int) ∈ GW := wdg (i := 1200) (by decide +kernel) rfl
theorem wd_928 : Cond.methodLink RL 149 yX6_spoons ∈ GW := wdg (i := 727) (by decide +kernel) rfl
theorem wd_929 : Cond.instanceMethod yX6_spoons ∈ GW := wdg (i := 728) (by decide +kernel) rfl
theorem wd_930 : Cond.selects RX6 yX6_spoons yX6_spoons ∈ GW := wdg (i := 729) (by decide +kernel) rfl
theorem wd_931 : Cond.code yX6_spoons cX6_spoons 6 (some .int) ∈ GW := wdg (i := 730) (by decide +kernel) rfl
theorem wd_932 : Cond.methodLink RL 152 yX7_spoons ∈ GW := wdg (i := 1201) (by decide +kernel) rfl
theorem wd_933 : Cond.instanceMethod yX7_spoons ∈ GW := wdg (i := 1202) (by decide +kernel) rfl
theorem wd_934 : Cond.selects RX7 yX7_spoons yX7_spoons ∈ GW := wdg (i := 1203) (by decide +kernel) rfl
theorem wd_935 : Cond.code yX7_spoons cX7_spoons 5 (some .int) ∈ GW := wdg (i := 1204) (by decide +kernel) rfl
theorem wd_936 : Cond.methodLink RL 153 yX6_judge ∈ GW := wdg (i := 731) (by decide +kernel) rfl
theorem wd_937 : Cond.instanceMethod yX6_judge ∈ GW := wdg (i := 732) (by decide +kernel) rfl
theorem wd_938 : Cond.selects RX6 yX6_judge yX6_judge ∈ GW := wdg (i := 733) (by decide +kernel) rfl
theorem wd_939 : Cond.code yX6_judge cX6_judge 5 (some .int) ∈ GW := wdg (i := 734) (by decide +kernel) rfl
theorem wd_940 : Cond.methodLink RL 156 yX7_judge ∈ GW := wdg (i := 1205) (by decide +kernel) rfl
theorem wd_941 : Cond.instanceMethod yX7_judge ∈ GW := wdg (i := 1206) (by decide +kernel) rfl
theorem wd_942 : Cond.selects RX7 yX7_judge yX7_judge ∈ GW := wdg (i := 1207) (by decide +kernel) rfl
theorem wd_943 : Cond.code yX7_judge cX7_judge 4 (some .int) ∈ GW := wdg (i := 1208) (by decide +kernel) rfl
theorem wd_944 : Cond.methodLink RL 157 yX6_image ∈ GW := wdg (i := 735) (by decide +kernel) rfl
theorem wd_945 : Cond.instanceMethod yX6_image ∈ GW := wdg (i := 736) (by decide +kernel) rfl
theorem wd_946 : Cond.selects RX6 yX6_image yX6_image ∈ GW := wdg (i := 737) (by decide +kernel) rfl
theorem wd_947 : Cond.code yX6_image cX6_image 1 (some .int) ∈ GW := wdg (i := 738) (by decide +kernel) rfl
theorem wd_948 : Cond.fieldLink RX6 285 "DirtPress" "images" "I" ∈ GW := wdg (i := 268) (by decide +kernel) rfl
theorem wd_949 : Cond.methodLink RX6 282 yX5_copyFrom ∈ GW := wdg (i := 739) (by decide +kernel) rfl
theorem wd_950 : Cond.instanceMethod yX5_copyFrom ∈ GW := wdg (i := 740) (by decide +kernel) rfl
theorem wd_951 : Cond.selects RX5 yX5_copyFrom yX5_copyFrom ∈ GW := wdg (i := 741) (by decide +kernel) rfl
theorem wd_952 : Cond.code yX5_copyFrom cX5_copyFrom 2 none ∈ GW := wdg (i := 742) (by decide +kernel) rfl
theorem wd_953 : Cond.methodLink RX5 53 arraycopyName ∈ GW := wdg (i := 743) (by decide +kernel) rfl
theorem wd_954 : Cond.fieldLink RX5 62 "DirtPress$World" "bytes" "I" ∈ GW := wdg (i := 133) (by decide +kernel) rfl
theorem wd_955 : Cond.fieldLink RX5 69 "DirtPress$World" "waits" "I" ∈ GW := wdg (i := 139) (by decide +kernel) rfl
theorem wd_956 : Cond.methodLink RX5 65 yX3_copyFrom ∈ GW := wdg (i := 744) (by decide +kernel) rfl
theorem wd_957 : Cond.methodLink RL 161 yX7_image ∈ GW := wdg (i := 1209) (by decide +kernel) rfl
theorem wd_958 : Cond.instanceMethod yX7_image ∈ GW := wdg (i := 1210) (by decide +kernel) rfl
theorem wd_959 : Cond.selects RX7 yX7_image yX7_image ∈ GW := wdg (i := 1211) (by decide +kernel) rfl
theorem wd_960 : Cond.code yX7_image cX7_image 1 (some .int) ∈ GW := wdg (i := 1212) (by decide +kernel) rfl
theorem wd_961 : Cond.fieldLink RX7 276 "DirtPressModel" "images" "I" ∈ GW := wdg (i := 774) (by decide +kernel) rfl
theorem wd_962 : Cond.methodLink RX7 272 yX7_copyAll ∈ GW := wdg (i := 1213) (by decide +kernel) rfl
theorem wd_963 : Cond.static yX7_copyAll ∈ GW := wdg (i := 1214) (by decide +kernel) rfl
theorem wd_964 : Cond.code yX7_copyAll cX7_copyAll 3 none ∈ GW := wdg (i := 1215) (by decide +kernel) rfl
theorem wd_965 : Cond.methodLink RL 162 yX6_restore ∈ GW := wdg (i := 745) (by decide +kernel) rfl
theorem wd_966 : Cond.instanceMethod yX6_restore ∈ GW := wdg (i := 746) (by decide +kernel) rfl
theorem wd_967 : Cond.selects RX6 yX6_restore yX6_restore ∈ GW := wdg (i := 747) (by decide +kernel) rfl
theorem wd_968 : Cond.code yX6_restore cX6_restore 1 (some .int) ∈ GW := wdg (i := 748) (by decide +kernel) rfl
theorem wd_969 : Cond.methodLink RL 165 yX7_restore ∈ GW := wdg (i := 1216) (by decide +kernel) rfl
theorem wd_970 : Cond.instanceMethod yX7_restore ∈ GW := wdg (i := 1217) (by decide +kernel) rfl
theorem wd_971 : Cond.selects RX7 yX7_restore yX7_restore ∈ GW := wdg (i := 1218) (by decide +kernel) rfl
theorem wd_972 : Cond.code yX7_restore cX7_restore 1 (some .int) ∈ GW := wdg (i := 1219) (by decide +kernel) rfl
theorem wd_973 : Cond.methodLink RL 166 yX6_tell ∈ GW := wdg (i := 749) (by decide +kernel) rfl
theorem wd_974 : Cond.instanceMethod yX6_tell ∈ GW := wdg (i := 750) (by decide +kernel) rfl
theorem wd_975 : Cond.selects RX6 yX6_tell yX6_tell ∈ GW := wdg (i := 751) (by decide +kernel) rfl
theorem wd_976 : Cond.code yX6_tell cX6_tell 2 (some .int) ∈ GW := wdg (i := 752) (by decide +kernel) rfl
theorem wd_977 : Cond.fieldLink RX6 288 "DirtPress$World" "waits" "I" ∈ GW := wdg (i := 140) (by decide +kernel) rfl
theorem wd_978 : Cond.fieldLink RX6 291 "DirtPress$World" "waiting" "[I" ∈ GW := wdg (i := 138) (by decide +kernel) rfl
theorem wd_979 : Cond.methodLink RL 169 yX7_tell ∈ GW := wdg (i := 1220) (by decide +kernel) rfl
theorem wd_980 : Cond.instanceMethod yX7_tell ∈ GW := wdg (i := 1221) (by decide +kernel) rfl
theorem wd_981 : Cond.selects RX7 yX7_tell yX7_tell ∈ GW := wdg (i := 1222) (by decide +kernel) rfl
theorem wd_982 : Cond.code yX7_tell cX7_tell 2 (some .int) ∈ GW := wdg (i := 1223) (by decide +kernel) rfl
theorem wd_983 : Cond.methodLink RL 170 yX6_check ∈ GW := wdg (i := 753) (by decide +kernel) rfl
theorem wd_984 : Cond.instanceMethod yX6_check ∈ GW := wdg (i := 754) (by decide +kernel) rfl
theorem wd_985 : Cond.selects RX6 yX6_check yX6_check ∈ GW := wdg (i := 755) (by decide +kernel) rfl
theorem wd_986 : Cond.code yX6_check cX6_check 3 (some .int) ∈ GW := wdg (i := 756) (by decide +kernel) rfl
theorem wd_987 : Cond.methodLink RL 173 yX7_check ∈ GW := wdg (i := 1224) (by decide +kernel) rfl
theorem wd_988 : Cond.instanceMethod yX7_check ∈ GW := wdg (i := 1225) (by decide +kernel) rfl
theorem wd_989 : Cond.selects RX7 yX7_check yX7_check ∈ GW := wdg (i := 1226) (by decide +kernel) rfl
theorem wd_990 : Cond.code yX7_check cX7_check 3 (some .int) ∈ GW := wdg (i := 1227) (by decide +kernel) rfl
theorem wd_991 : Cond.methodLink RL 174 yX6_count ∈ GW := wdg (i := 757) (by decide +kernel) rfl
theorem wd_992 : Cond.instanceMethod yX6_count ∈ GW := wdg (i := 758) (by decide +kernel) rfl
theorem wd_993 : Cond.selects RX6 yX6_count yX6_count ∈ GW := wdg (i := 759) (by decide +kernel) rfl
theorem wd_994 : Cond.code yX6_count cX6_count 2 (some .int) ∈ GW := wdg (i := 760) (by decide +kernel) rfl
theorem wd_995 : Cond.methodLink RL 177 yX7_count ∈ GW := wdg (i := 1228) (by decide +kernel) rfl
theorem wd_996 : Cond.instanceMethod yX7_count ∈ GW := wdg (i := 1229) (by decide +kernel) rfl
theorem wd_997 : Cond.selects RX7 yX7_count yX7_count ∈ GW := wdg (i := 1230) (by decide +kernel) rfl
theorem wd_998 : Cond.code yX7_count cX7_count 2 (some .int) ∈ GW := wdg (i := 1231) (by decide +kernel) rfl
theorem wd_999 : Cond.methodLink RL 178 yX6_told ∈ GW := wdg (i := 761) (by decide +kernel) rfl
theorem wd_1000 : Cond.instanceMethod yX6_told ∈ GW := wdg (i := 762) (by decide +kernel) rfl
theorem wd_1001 : Cond.selects RX6 yX6_told yX6_told ∈ GW := wdg (i := 763) (by decide +kernel) rfl
theorem wd_1002 : Cond.code yX6_told cX6_told 2 (some .int) ∈ GW := wdg (i := 764) (by decide +kernel) rfl
theorem wd_1003 : Cond.methodLink RL 181 yX7_told ∈ GW := wdg (i := 1232) (by decide +kernel) rfl
theorem wd_1004 : Cond.instanceMethod yX7_told ∈ GW := wdg (i := 1233) (by decide +kernel) rfl
theorem wd_1005 : Cond.selects RX7 yX7_told yX7_told ∈ GW := wdg (i := 1234) (by decide +kernel) rfl
theorem wd_1006 : Cond.code yX7_told cX7_told 2 (some .int) ∈ GW := wdg (i := 1235) (by decide +kernel) rfl
theorem wlX0_0 : u_lay RX0 TX0 0 ∈ GW := wdg (i := 209) (by decide +kernel) rfl
theorem wlX0_1 : u_lay RX0 TX0 1 ∈ GW := wdg (i := 211) (by decide +kernel) rfl
theorem wlX0_2 : u_lay RX0 TX0 2 ∈ GW := wdg (i := 213) (by decide +kernel) rfl
theorem wlX0_3 : u_lay RX0 TX0 3 ∈ GW := wdg (i := 215) (by decide +kernel) rfl
theorem wlX0_4 : u_lay RX0 TX0 4 ∈ GW := wdg (i := 217) (by decide +kernel) rfl
theorem wlX0_5 : u_lay RX0 TX0 5 ∈ GW := wdg (i := 219) (by decide +kernel) rfl
theorem inX0 : ∀ w ∈ wsX00, w ∈ GW := by
  intro w h
  obtain ⟨k, hk, rfl⟩ := List.mem_map.mp h
  have hk := List.mem_range.mp hk
  match k, hk with
    | 0, _ => exact wlX0_0
    | 1, _ => exact wlX0_1
    | 2, _ => exact wlX0_2
    | 3, _ => exact wlX0_3
    | 4, _ => exact wlX0_4
    | 5, _ => exact wlX0_5
    | k + 6, hk => exact absurd hk (by omega)
theorem wlX1_0 : u_lay RX1 TX1 0 ∈ GW := wdg (i := 187) (by decide +kernel) rfl
theorem wlX1_1 : u_lay RX1 TX1 1 ∈ GW := wdg (i := 189) (by decide +kernel) rfl
theorem wlX1_2 : u_lay RX1 TX1 2 ∈ GW := wdg (i := 191) (by decide +kernel) rfl
theorem inX1 : ∀ w ∈ wsX10, w ∈ GW := by
  intro w h
  obtain ⟨k, hk, rfl⟩ := List.mem_map.mp h
  have hk := List.mem_range.mp hk
  match k, hk with
    | 0, _ => exact wlX1_0
    | 1, _ => exact wlX1_1
    | 2, _ => exact wlX1_2
    | k + 3, hk => exact absurd hk (by omega)
theorem wlX2_0 : u_lay RX2 TX2 0 ∈ GW := wdg (i := 253) (by decide +kernel) rfl
theorem wlX2_1 : u_lay RX2 TX2 1 ∈ GW := wdg (i := 255) (by decide +kernel) rfl
theorem wlX2_2 : u_lay RX2 TX2 2 ∈ GW := wdg (i := 257) (by decide +kernel) rfl
theorem wlX2_3 : u_lay RX2 TX2 3 ∈ GW := wdg (i := 259) (by decide +kernel) rfl
theorem wlX2_4 : u_lay RX2 TX2 4 ∈ GW := wdg (i := 261) (by decide +kernel) rfl
theorem wlX2_5 : u_lay RX2 TX2 5 ∈ GW := wdg (i := 263) (by decide +kernel) rfl
theorem inX2 : ∀ w ∈ wsX20, w ∈ GW := by
  intro w h
  obtain ⟨k, hk, rfl⟩ := List.mem_map.mp h
  have hk := List.mem_range.mp hk
  match k, hk with
    | 0, _ => exact wlX2_0
    | 1, _ => exact wlX2_1
    | 2, _ => exact wlX2_2
    | 3, _ => exact wlX2_3
    | 4, _ => exact wlX2_4
    | 5, _ => exact wlX2_5
    | k + 6, hk => exact absurd hk (by omega)
theorem wlX3_0 : u_lay RX3 TX3 0 ∈ GW := wdg (i := 100) (by decide +kernel) rfl
theorem wlX3_1 : u_lay RX3 TX3 1 ∈ GW := wdg (i := 102) (by decide +kernel) rfl
theorem wlX3_2 : u_lay RX3 TX3 2 ∈ GW := wdg (i := 104) (by decide +kernel) rfl
theorem inX3 : ∀ w ∈ wsX30, w ∈ GW := by
  intro w h
  obtain ⟨k, hk, rfl⟩ := List.mem_map.mp h
  have hk := List.mem_range.mp hk
  match k, hk with
    | 0, _ => exact wlX3_0
    | 1, _ => exact wlX3_1
    | 2, _ => exact wlX3_2
    | k + 3, hk => exact absurd hk (by omega)
theorem wlX4_0 : u_lay RX4 TX4 0 ∈ GW := wdg (i := 231) (by decide +kernel) rfl
theorem wlX4_1 : u_lay RX4 TX4 1 ∈ GW := wdg (i := 233) (by decide +kernel) rfl
theorem wlX4_2 : u_lay RX4 TX4 2 ∈ GW := wdg (i := 235) (by decide +kernel) rfl
theorem inX4 : ∀ w ∈ wsX40, w ∈ GW := by
  intro w h
  obtain ⟨k, hk, rfl⟩ := List.mem_map.mp h
  have hk := List.mem_range.mp hk
  match k, hk with
    | 0, _ => exact wlX4_0
    | 1, _ => exact wlX4_1
    | 2, _ => exact wlX4_2
    | k + 3, hk => exact absurd hk (by omega)
theorem wlX5_0 : u_lay RX5 TX5 0 ∈ GW := wdg (i := 141) (by decide +kernel) rfl
theorem wlX5_1 : u_lay RX5 TX5 1 ∈ GW := wdg (i := 143) (by decide +kernel) rfl
theorem wlX5_2 : u_lay RX5 TX5 2 ∈ GW := wdg (i := 145) (by decide +kernel) rfl
theorem wlX5_3 : u_lay RX5 TX5 3 ∈ GW := wdg (i := 147) (by decide +kernel) rfl
theorem wlX5_4 : u_lay RX5 TX5 4 ∈ GW := wdg (i := 149) (by decide +kernel) rfl
theorem wlX5_5 : u_lay RX5 TX5 5 ∈ GW := wdg (i := 151) (by decide +kernel) rfl
theorem wlX5_6 : u_lay RX5 TX5 6 ∈ GW := wdg (i := 153) (by decide +kernel) rfl
theorem wlX5_7 : u_lay RX5 TX5 7 ∈ GW := wdg (i := 155) (by decide +kernel) rfl
theorem wlX5_8 : u_lay RX5 TX5 8 ∈ GW := wdg (i := 157) (by decide +kernel) rfl
theorem wlX5_9 : u_lay RX5 TX5 9 ∈ GW := wdg (i := 159) (by decide +kernel) rfl
theorem wlX5_10 : u_lay RX5 TX5 10 ∈ GW := wdg (i := 161) (by decide +kernel) rfl
theorem wlX5_11 : u_lay RX5 TX5 11 ∈ GW := wdg (i := 163) (by decide +kernel) rfl
theorem wlX5_12 : u_lay RX5 TX5 12 ∈ GW := wdg (i := 165) (by decide +kernel) rfl
theorem wlX5_13 : u_lay RX5 TX5 13 ∈ GW := wdg (i := 167) (by decide +kernel) rfl
theorem wlX5_14 : u_lay RX5 TX5 14 ∈ GW := wdg (i := 169) (by decide +kernel) rfl
theorem inX5 : ∀ w ∈ wsX50, w ∈ GW := by
  intro w h
  obtain ⟨k, hk, rfl⟩ := List.mem_map.mp h
  have hk := List.mem_range.mp hk
  match k, hk with
    | 0, _ => exact wlX5_0
    | 1, _ => exact wlX5_1
    | 2, _ => exact wlX5_2
    | 3, _ => exact wlX5_3
    | 4, _ => exact wlX5_4
    | 5, _ => exact wlX5_5
    | 6, _ => exact wlX5_6
    | 7, _ => exact wlX5_7
    | 8, _ => exact wlX5_8
    | 9, _ => exact wlX5_9
    | 10, _ => exact wlX5_10
    | 11, _ => exact wlX5_11
    | 12, _ => exact wlX5_12
    | 13, _ => exact wlX5_13
    | 14, _ => exact wlX5_14
    | k + 15, hk => exact absurd hk (by omega)
theorem wlX6_0 : u_lay RX6 TX6 0 ∈ GW := wdg (i := 274) (by decide +kernel) rfl
theorem wlX6_1 : u_lay RX6 TX6 1 ∈ GW := wdg (i := 276) (by decide +kernel) rfl
theorem wlX6_2 : u_lay RX6 TX6 2 ∈ GW := wdg (i := 278) (by decide +kernel) rfl
theorem wlX6_3 : u_lay RX6 TX6 3 ∈ GW := wdg (i := 280) (by decide +kernel) rfl
theorem wlX6_4 : u_lay RX6 TX6 4 ∈ GW := wdg (i := 282) (by decide +kernel) rfl
theorem wlX6_5 : u_lay RX6 TX6 5 ∈ GW := wdg (i := 284) (by decide +kernel) rfl
theorem wlX6_6 : u_lay RX6 TX6 6 ∈ GW := wdg (i := 286) (by decide +kernel) rfl
theorem wlX6_7 : u_lay RX6 TX6 7 ∈ GW := wdg (i := 288) (by decide +kernel) rfl
theorem inX6 : ∀ w ∈ wsX60, w ∈ GW := by
  intro w h
  obtain ⟨k, hk, rfl⟩ := List.mem_map.mp h
  have hk := List.mem_range.mp hk
  match k, hk with
    | 0, _ => exact wlX6_0
    | 1, _ => exact wlX6_1
    | 2, _ => exact wlX6_2
    | 3, _ => exact wlX6_3
    | 4, _ => exact wlX6_4
    | 5, _ => exact wlX6_5
    | 6, _ => exact wlX6_6
    | 7, _ => exact wlX6_7
    | k + 8, hk => exact absurd hk (by omega)
theorem wlX7_0 : u_lay RX7 TX7 0 ∈ GW := wdg (i := 793) (by decide +kernel) rfl
theorem wlX7_1 : u_lay RX7 TX7 1 ∈ GW := wdg (i := 795) (by decide +kernel) rfl
theorem wlX7_2 : u_lay RX7 TX7 2 ∈ GW := wdg (i := 797) (by decide +kernel) rfl
theorem wlX7_3 : u_lay RX7 TX7 3 ∈ GW := wdg (i := 799) (by decide +kernel) rfl
theorem wlX7_4 : u_lay RX7 TX7 4 ∈ GW := wdg (i := 801) (by decide +kernel) rfl
theorem wlX7_5 : u_lay RX7 TX7 5 ∈ GW := wdg (i := 803) (by decide +kernel) rfl
theorem wlX7_6 : u_lay RX7 TX7 6 ∈ GW := wdg (i := 805) (by decide +kernel) rfl
theorem wlX7_7 : u_lay RX7 TX7 7 ∈ GW := wdg (i := 807) (by decide +kernel) rfl
theorem wlX7_8 : u_lay RX7 TX7 8 ∈ GW := wdg (i := 809) (by decide +kernel) rfl
theorem wlX7_9 : u_lay RX7 TX7 9 ∈ GW := wdg (i := 811) (by decide +kernel) rfl
theorem wlX7_10 : u_lay RX7 TX7 10 ∈ GW := wdg (i := 813) (by decide +kernel) rfl
theorem wlX7_11 : u_lay RX7 TX7 11 ∈ GW := wdg (i := 815) (by decide +kernel) rfl
theorem wlX7_12 : u_lay RX7 TX7 12 ∈ GW := wdg (i := 817) (by decide +kernel) rfl
theorem wlX7_13 : u_lay RX7 TX7 13 ∈ GW := wdg (i := 819) (by decide +kernel) rfl
theorem wlX7_14 : u_lay RX7 TX7 14 ∈ GW := wdg (i := 821) (by decide +kernel) rfl
theorem wlX7_15 : u_lay RX7 TX7 15 ∈ GW := wdg (i := 823) (by decide +kernel) rfl
theorem wlX7_16 : u_lay RX7 TX7 16 ∈ GW := wdg (i := 825) (by decide +kernel) rfl
theorem wlX7_17 : u_lay RX7 TX7 17 ∈ GW := wdg (i := 827) (by decide +kernel) rfl
theorem wlX7_18 : u_lay RX7 TX7 18 ∈ GW := wdg (i := 829) (by decide +kernel) rfl
theorem wlX7_19 : u_lay RX7 TX7 19 ∈ GW := wdg (i := 831) (by decide +kernel) rfl
theorem wlX7_20 : u_lay RX7 TX7 20 ∈ GW := wdg (i := 833) (by decide +kernel) rfl
theorem wlX7_21 : u_lay RX7 TX7 21 ∈ GW := wdg (i := 835) (by decide +kernel) rfl
theorem inX7 : ∀ w ∈ wsX70, w ∈ GW := by
  intro w h
  obtain ⟨k, hk, rfl⟩ := List.mem_map.mp h
  have hk := List.mem_range.mp hk
  match k, hk with
    | 0, _ => exact wlX7_0
    | 1, _ => exact wlX7_1
    | 2, _ => exact wlX7_2
    | 3, _ => exact wlX7_3
    | 4, _ => exact wlX7_4
    | 5, _ => exact wlX7_5
    | 6, _ => exact wlX7_6
    | 7, _ => exact wlX7_7
    | 8, _ => exact wlX7_8
    | 9, _ => exact wlX7_9
    | 10, _ => exact wlX7_10
    | 11, _ => exact wlX7_11
    | 12, _ => exact wlX7_12
    | 13, _ => exact wlX7_13
    | 14, _ => exact wlX7_14
    | 15, _ => exact wlX7_15
    | 16, _ => exact wlX7_16
    | 17, _ => exact wlX7_17
    | 18, _ => exact wlX7_18
    | 19, _ => exact wlX7_19
    | 20, _ => exact wlX7_20
    | 21, _ => exact wlX7_21
    | k + 22, hk => exact absurd hk (by omega)
