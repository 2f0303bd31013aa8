-- the words of the tables that are good, by their places
def kp_wl : List Cond := lw_tbl.filter goodWord
theorem kp_wl_in : ∀ w ∈ kp_wl, w ∈ lw_tbl := fun w h => (List.mem_filter.mp h).1
theorem kp_wl_good : GoodIn kp_wl kp_wl := fun w h => ⟨h, good_of_word (List.mem_filter.mp h).2⟩
theorem kp_tp {w : Cond} (h : w ∈ k2_sels lw_privs) (hg : goodWord w = true) : w ∈ kp_wl := List.mem_filter.mpr ⟨List.mem_append_left _ h, hg⟩
theorem kp_tt0 {w : Cond} (h : w ∈ tables_1) (hg : goodWord w = true) : w ∈ kp_wl := List.mem_filter.mpr ⟨List.mem_append_right _ h, hg⟩
theorem kp_t1 {w : Cond} {i : Nat} (h : tables_1_1[i]? = some w) (hg : goodWord w = true) : w ∈ kp_wl := kp_tt0 (List.mem_append_left _ (List.mem_of_getElem? h)) hg
theorem kp_t2 {w : Cond} {i : Nat} (h : tables_1_2[i]? = some w) (hg : goodWord w = true) : w ∈ kp_wl := kp_tt0 (List.mem_append_right _ (List.mem_append_left _ (List.mem_of_getElem? h))) hg
theorem kp_t3 {w : Cond} {i : Nat} (h : tables_1_3[i]? = some w) (hg : goodWord w = true) : w ∈ kp_wl := kp_tt0 (List.mem_append_right _ (List.mem_append_right _ (List.mem_append_left _ (List.mem_of_getElem? h)))) hg
theorem kp_t4 {w : Cond} {i : Nat} (h : tables_1_4[i]? = some w) (hg : goodWord w = true) : w ∈ kp_wl := kp_tt0 (List.mem_append_right _ (List.mem_append_right _ (List.mem_append_right _ (List.mem_append_left _ (List.mem_of_getElem? h))))) hg
theorem kp_t5 {w : Cond} {i : Nat} (h : tables_1_5[i]? = some w) (hg : goodWord w = true) : w ∈ kp_wl := kp_tt0 (List.mem_append_right _ (List.mem_append_right _ (List.mem_append_right _ (List.mem_append_right _ ((List.mem_of_getElem? h)))))) hg
theorem q1_0 : Cond.initialized "KnockPipesLaw" ∈ kp_wl := kp_t1 (i := 0) rfl rfl
theorem q1_1 : Cond.initialized "KnockPipes" ∈ kp_wl := kp_t1 (i := 1) rfl rfl
theorem q1_2 : Cond.initialized "KnockPipes$Home" ∈ kp_wl := kp_t1 (i := 2) rfl rfl
theorem q1_3 : Cond.initialized "KnockPipes$Tape" ∈ kp_wl := kp_t1 (i := 3) rfl rfl
theorem q1_4 : Cond.initialized "KnockPipes$House" ∈ kp_wl := kp_t1 (i := 4) rfl rfl
theorem q1_5 : Cond.initialized "java/lang/System" ∈ kp_wl := kp_t1 (i := 5) rfl rfl
theorem q1_6 : Cond.initialized "KnockPipes$Noises" ∈ kp_wl := kp_t1 (i := 6) rfl rfl
theorem q1_7 : Cond.initialized "KnockPipes$Notebook" ∈ kp_wl := kp_t1 (i := 7) rfl rfl
theorem q1_8 : Cond.initialized "KnockPipes$Reader" ∈ kp_wl := kp_t1 (i := 8) rfl rfl
theorem q1_9 : Cond.initialized "KnockPipes$Sounds" ∈ kp_wl := kp_t1 (i := 9) rfl rfl
theorem q1_10 : Cond.initialized "KnockPipes$Acts" ∈ kp_wl := kp_t1 (i := 10) rfl rfl
theorem q1_11 : Cond.initialized "KnockPipesModel" ∈ kp_wl := kp_t1 (i := 11) rfl rfl
theorem q1_12 : Cond.initialized "java/lang/Long" ∈ kp_wl := kp_t1 (i := 12) rfl rfl
theorem q1_13 : Cond.initialized "java/lang/String" ∈ kp_wl := kp_t1 (i := 13) rfl rfl
theorem q1_14 : Cond.initialized "java/lang/StringLatin1" ∈ kp_wl := kp_t1 (i := 14) rfl rfl
theorem q1_15 : Cond.initialized "jdk/internal/util/Preconditions" ∈ kp_wl := kp_t1 (i := 15) rfl rfl
theorem q1_16 : Cond.initialized "java/lang/StringUTF16" ∈ kp_wl := kp_t1 (i := 16) rfl rfl
theorem q1_17 : Cond.initialized "KnockPipes$Test" ∈ kp_wl := kp_t1 (i := 17) rfl rfl
theorem q1_18 : Cond.initialized "java/lang/Math" ∈ kp_wl := kp_t1 (i := 18) rfl rfl
theorem q1_19 : Cond.initialized "java/lang/Integer" ∈ kp_wl := kp_t1 (i := 19) rfl rfl
theorem q1_20 : Cond.classLink "KnockPipesLaw" 7 "KnockPipes" ∈ kp_wl := kp_t1 (i := 20) rfl rfl
theorem q1_21 : Cond.instantiable "KnockPipes" 8 ∈ kp_wl := kp_t1 (i := 21) rfl rfl
theorem q1_22 : Cond.methodLink "KnockPipesLaw" 9 yX9_init ∈ kp_wl := kp_t1 (i := 22) rfl rfl
theorem q1_23 : Cond.instanceMethod yX9_init ∈ kp_wl := kp_t1 (i := 23) rfl rfl
theorem q1_24 : Cond.code yX9_init cX9_init 1 none ∈ kp_wl := kp_t1 (i := 24) rfl rfl
theorem q1_25 : Cond.methodLink "KnockPipes" 5 objectInit ∈ kp_wl := kp_t1 (i := 25) rfl rfl
theorem q1_26 : Cond.instanceMethod objectInit ∈ kp_wl := kp_t1 (i := 26) rfl rfl
theorem q1_28 : Cond.classLink "KnockPipes" 11 "KnockPipes$Home" ∈ kp_wl := kp_t1 (i := 28) rfl rfl
theorem q1_29 : Cond.instantiable "KnockPipes$Home" 6 ∈ kp_wl := kp_t1 (i := 29) rfl rfl
theorem q1_31 : Cond.instanceMethod yX1_init ∈ kp_wl := kp_t1 (i := 31) rfl rfl
theorem q1_32 : Cond.code yX1_init cX1_init 1 none ∈ kp_wl := kp_t1 (i := 32) rfl rfl
theorem q1_33 : Cond.methodLink "KnockPipes$Home" 3 objectInit ∈ kp_wl := kp_t1 (i := 33) rfl rfl
theorem q1_34 : Cond.classLink "KnockPipes$Home" 15 "KnockPipes$Tape" ∈ kp_wl := kp_t1 (i := 34) rfl rfl
theorem q1_35 : Cond.instantiable "KnockPipes$Tape" 2 ∈ kp_wl := kp_t1 (i := 35) rfl rfl
theorem q1_37 : Cond.instanceMethod yX7_init ∈ kp_wl := kp_t1 (i := 37) rfl rfl
theorem q1_38 : Cond.code yX7_init cX7_init 1 none ∈ kp_wl := kp_t1 (i := 38) rfl rfl
theorem q1_39 : Cond.methodLink "KnockPipes$Tape" 3 objectInit ∈ kp_wl := kp_t1 (i := 39) rfl rfl
theorem q1_40 : Cond.fieldLink "KnockPipes$Tape" 9 "KnockPipes$Tape" "bytes" "[I" ∈ kp_wl := kp_t1 (i := 40) rfl rfl
theorem q1_41 : Cond.fieldLink "KnockPipes$Reader" 47 "KnockPipes$Tape" "bytes" "[I" ∈ kp_wl := kp_t1 (i := 41) rfl rfl
theorem q1_42 : Cond.fieldLink "KnockPipes$Tape" 15 "KnockPipes$Tape" "size" "I" ∈ kp_wl := kp_t1 (i := 42) rfl rfl
theorem q1_43 : Cond.fieldLink "KnockPipes$Reader" 40 "KnockPipes$Tape" "size" "I" ∈ kp_wl := kp_t1 (i := 43) rfl rfl
theorem q1_44 : Cond.fieldLink "KnockPipes" 67 "KnockPipes$Tape" "size" "I" ∈ kp_wl := kp_t1 (i := 44) rfl rfl
theorem q1_45 : Cond.laysFinal "KnockPipes$Tape" "KnockPipes$Tape" "bytes" "[I" ∈ kp_wl := kp_t1 (i := 45) rfl rfl
theorem q1_47 : Cond.lays "KnockPipes$Tape" "KnockPipes$Tape" "size" "I" ∈ kp_wl := kp_t1 (i := 47) rfl rfl
theorem q1_50 : Cond.arrayClass .long ∈ kp_wl := kp_t1 (i := 50) rfl rfl
theorem q1_51 : Cond.arrayClass .int ∈ kp_wl := kp_t1 (i := 51) rfl rfl
theorem q1_52 : Cond.classLink "KnockPipes$Home" 22 "KnockPipes$House" ∈ kp_wl := kp_t1 (i := 52) rfl rfl
theorem q1_53 : Cond.instantiable "KnockPipes$House" 7 ∈ kp_wl := kp_t1 (i := 53) rfl rfl
theorem q1_54 : Cond.methodLink "KnockPipes$Home" 24 yX2_init ∈ kp_wl := kp_t1 (i := 54) rfl rfl
theorem q1_55 : Cond.instanceMethod yX2_init ∈ kp_wl := kp_t1 (i := 55) rfl rfl
theorem q1_56 : Cond.code yX2_init cX2_init 1 none ∈ kp_wl := kp_t1 (i := 56) rfl rfl
theorem q1_57 : Cond.methodLink "KnockPipes$House" 3 objectInit ∈ kp_wl := kp_t1 (i := 57) rfl rfl
theorem q1_58 : Cond.methodLink "KnockPipes$House" 34 yX2_empty ∈ kp_wl := kp_t1 (i := 58) rfl rfl
theorem q1_59 : Cond.instanceMethod yX2_empty ∈ kp_wl := kp_t1 (i := 59) rfl rfl
theorem q1_60 : Cond.selects "KnockPipes$House" yX2_empty yX2_empty ∈ kp_wl := kp_t1 (i := 60) rfl rfl
theorem q1_61 : Cond.code yX2_empty cX2_empty 1 none ∈ kp_wl := kp_t1 (i := 61) rfl rfl
theorem q1_64 : Cond.methodLink "KnockPipes$House" 40 ⟨"java/lang/System", "arraycopy", "(Ljava/lang/Object;ILjava/lang/Object;II)V"⟩ ∈ kp_wl := kp_t1 (i := 64) rfl rfl
theorem q1_65 : Cond.static ⟨"java/lang/System", "arraycopy", "(Ljava/lang/Object;ILjava/lang/Object;II)V"⟩ ∈ kp_wl := kp_t1 (i := 65) rfl rfl
theorem q1_66 : Cond.native ⟨"java/lang/System", "arraycopy", "(Ljava/lang/Object;ILjava/lang/Object;II)V"⟩ ∈ kp_wl := kp_t1 (i := 66) rfl rfl
theorem q1_67 : Cond.fieldLink "KnockPipes$House" 9 "KnockPipes$House" "numbers" "[I" ∈ kp_wl := kp_t1 (i := 67) rfl rfl
theorem q1_68 : Cond.fieldLink "KnockPipes" 100 "KnockPipes$House" "numbers" "[I" ∈ kp_wl := kp_t1 (i := 68) rfl rfl
theorem q1_69 : Cond.fieldLink "KnockPipes$Reader" 61 "KnockPipes$House" "numbers" "[I" ∈ kp_wl := kp_t1 (i := 69) rfl rfl
theorem q1_70 : Cond.fieldLink "KnockPipes$Sounds" 99 "KnockPipes$House" "numbers" "[I" ∈ kp_wl := kp_t1 (i := 70) rfl rfl
theorem q1_71 : Cond.fieldLink "KnockPipes$House" 15 "KnockPipes$House" "codes" "[I" ∈ kp_wl := kp_t1 (i := 71) rfl rfl
theorem q1_72 : Cond.fieldLink "KnockPipes$Sounds" 68 "KnockPipes$House" "codes" "[I" ∈ kp_wl := kp_t1 (i := 72) rfl rfl
theorem q1_73 : Cond.fieldLink "KnockPipes$House" 18 "KnockPipes$House" "amount" "[I" ∈ kp_wl := kp_t1 (i := 73) rfl rfl
theorem q1_74 : Cond.fieldLink "KnockPipes$Sounds" 61 "KnockPipes$House" "amount" "[I" ∈ kp_wl := kp_t1 (i := 74) rfl rfl
theorem q1_75 : Cond.fieldLink "KnockPipes$House" 21 "KnockPipes$House" "end" "[I" ∈ kp_wl := kp_t1 (i := 75) rfl rfl
theorem q1_76 : Cond.fieldLink "KnockPipes$Sounds" 48 "KnockPipes$House" "end" "[I" ∈ kp_wl := kp_t1 (i := 76) rfl rfl
theorem q1_77 : Cond.fieldLink "KnockPipes$House" 24 "KnockPipes$House" "growing" "I" ∈ kp_wl := kp_t1 (i := 77) rfl rfl
theorem q1_78 : Cond.fieldLink "KnockPipes$House" 28 "KnockPipes$House" "clauses" "I" ∈ kp_wl := kp_t1 (i := 78) rfl rfl
theorem q1_79 : Cond.fieldLink "KnockPipes$Sounds" 42 "KnockPipes$House" "clauses" "I" ∈ kp_wl := kp_t1 (i := 79) rfl rfl
theorem q1_80 : Cond.fieldLink "KnockPipes$House" 31 "KnockPipes$House" "size" "I" ∈ kp_wl := kp_t1 (i := 80) rfl rfl
theorem q1_81 : Cond.laysFinal "KnockPipes$House" "KnockPipes$House" "numbers" "[I" ∈ kp_wl := kp_t1 (i := 81) rfl rfl
theorem q1_83 : Cond.laysFinal "KnockPipes$House" "KnockPipes$House" "codes" "[I" ∈ kp_wl := kp_t1 (i := 83) rfl rfl
theorem q1_85 : Cond.laysFinal "KnockPipes$House" "KnockPipes$House" "amount" "[I" ∈ kp_wl := kp_t1 (i := 85) rfl rfl
theorem q1_87 : Cond.laysFinal "KnockPipes$House" "KnockPipes$House" "end" "[I" ∈ kp_wl := kp_t1 (i := 87) rfl rfl
theorem q1_89 : Cond.lays "KnockPipes$House" "KnockPipes$House" "growing" "I" ∈ kp_wl := kp_t1 (i := 89) rfl rfl
theorem q1_91 : Cond.lays "KnockPipes$House" "KnockPipes$House" "clauses" "I" ∈ kp_wl := kp_t1 (i := 91) rfl rfl
theorem q1_93 : Cond.lays "KnockPipes$House" "KnockPipes$House" "size" "I" ∈ kp_wl := kp_t1 (i := 93) rfl rfl
theorem q1_96 : Cond.classLink "KnockPipes$Home" 29 "KnockPipes$Noises" ∈ kp_wl := kp_t1 (i := 96) rfl rfl
theorem q1_97 : Cond.instantiable "KnockPipes$Noises" 6 ∈ kp_wl := kp_t1 (i := 97) rfl rfl
theorem q1_99 : Cond.instanceMethod yX3_init ∈ kp_wl := kp_t1 (i := 99) rfl rfl
theorem q1_100 : Cond.code yX3_init cX3_init 1 none ∈ kp_wl := kp_t1 (i := 100) rfl rfl
theorem q1_101 : Cond.methodLink "KnockPipes$Noises" 3 objectInit ∈ kp_wl := kp_t1 (i := 101) rfl rfl
theorem q1_102 : Cond.fieldLink "KnockPipes$Noises" 9 "KnockPipes$Noises" "kind" "[I" ∈ kp_wl := kp_t1 (i := 102) rfl rfl
theorem q1_103 : Cond.fieldLink "KnockPipes$Acts" 28 "KnockPipes$Noises" "kind" "[I" ∈ kp_wl := kp_t1 (i := 103) rfl rfl
theorem q1_104 : Cond.fieldLink "KnockPipes" 134 "KnockPipes$Noises" "kind" "[I" ∈ kp_wl := kp_t1 (i := 104) rfl rfl
theorem q1_105 : Cond.fieldLink "KnockPipes$Sounds" 86 "KnockPipes$Noises" "kind" "[I" ∈ kp_wl := kp_t1 (i := 105) rfl rfl
theorem q1_106 : Cond.fieldLink "KnockPipes$Noises" 15 "KnockPipes$Noises" "place" "[I" ∈ kp_wl := kp_t1 (i := 106) rfl rfl
theorem q1_107 : Cond.fieldLink "KnockPipes" 137 "KnockPipes$Noises" "place" "[I" ∈ kp_wl := kp_t1 (i := 107) rfl rfl
theorem q1_108 : Cond.fieldLink "KnockPipes$Sounds" 81 "KnockPipes$Noises" "place" "[I" ∈ kp_wl := kp_t1 (i := 108) rfl rfl
theorem q1_109 : Cond.fieldLink "KnockPipes$Noises" 18 "KnockPipes$Noises" "v" "[I" ∈ kp_wl := kp_t1 (i := 109) rfl rfl
theorem q1_110 : Cond.fieldLink "KnockPipes$Acts" 32 "KnockPipes$Noises" "v" "[I" ∈ kp_wl := kp_t1 (i := 110) rfl rfl
theorem q1_111 : Cond.fieldLink "KnockPipes" 140 "KnockPipes$Noises" "v" "[I" ∈ kp_wl := kp_t1 (i := 111) rfl rfl
theorem q1_112 : Cond.fieldLink "KnockPipes$Sounds" 89 "KnockPipes$Noises" "v" "[I" ∈ kp_wl := kp_t1 (i := 112) rfl rfl
theorem q1_113 : Cond.fieldLink "KnockPipes$Noises" 21 "KnockPipes$Noises" "loudness" "[I" ∈ kp_wl := kp_t1 (i := 113) rfl rfl
theorem q1_114 : Cond.fieldLink "KnockPipes" 143 "KnockPipes$Noises" "loudness" "[I" ∈ kp_wl := kp_t1 (i := 114) rfl rfl
theorem q1_115 : Cond.fieldLink "KnockPipes$Noises" 24 "KnockPipes$Noises" "still" "I" ∈ kp_wl := kp_t1 (i := 115) rfl rfl
theorem q1_116 : Cond.fieldLink "KnockPipes" 146 "KnockPipes$Noises" "still" "I" ∈ kp_wl := kp_t1 (i := 116) rfl rfl
theorem q1_117 : Cond.fieldLink "KnockPipes$Noises" 28 "KnockPipes$Noises" "count" "I" ∈ kp_wl := kp_t1 (i := 117) rfl rfl
theorem q1_118 : Cond.fieldLink "KnockPipes" 123 "KnockPipes$Noises" "count" "I" ∈ kp_wl := kp_t1 (i := 118) rfl rfl
theorem q1_119 : Cond.laysFinal "KnockPipes$Noises" "KnockPipes$Noises" "kind" "[I" ∈ kp_wl := kp_t1 (i := 119) rfl rfl
theorem q1_121 : Cond.laysFinal "KnockPipes$Noises" "KnockPipes$Noises" "place" "[I" ∈ kp_wl := kp_t1 (i := 121) rfl rfl
theorem q1_123 : Cond.laysFinal "KnockPipes$Noises" "KnockPipes$Noises" "v" "[I" ∈ kp_wl := kp_t1 (i := 123) rfl rfl
theorem q1_125 : Cond.laysFinal "KnockPipes$Noises" "KnockPipes$Noises" "loudness" "[I" ∈ kp_wl := kp_t1 (i := 125) rfl rfl
theorem q1_127 : Cond.lays "KnockPipes$Noises" "KnockPipes$Noises" "still" "I" ∈ kp_wl := kp_t1 (i := 127) rfl rfl
theorem q1_129 : Cond.lays "KnockPipes$Noises" "KnockPipes$Noises" "count" "I" ∈ kp_wl := kp_t1 (i := 129) rfl rfl
theorem q1_132 : Cond.classLink "KnockPipes$Home" 36 "KnockPipes$Notebook" ∈ kp_wl := kp_t1 (i := 132) rfl rfl
theorem q1_133 : Cond.instantiable "KnockPipes$Notebook" 4 ∈ kp_wl := kp_t1 (i := 133) rfl rfl
theorem q1_135 : Cond.instanceMethod yX4_init ∈ kp_wl := kp_t1 (i := 135) rfl rfl
theorem q1_136 : Cond.code yX4_init cX4_init 1 none ∈ kp_wl := kp_t1 (i := 136) rfl rfl
theorem q1_137 : Cond.methodLink "KnockPipes$Notebook" 3 objectInit ∈ kp_wl := kp_t1 (i := 137) rfl rfl
theorem q1_138 : Cond.fieldLink "KnockPipes$Notebook" 9 "KnockPipes$Notebook" "place" "[I" ∈ kp_wl := kp_t1 (i := 138) rfl rfl
theorem q1_139 : Cond.fieldLink "KnockPipes" 276 "KnockPipes$Notebook" "place" "[I" ∈ kp_wl := kp_t1 (i := 139) rfl rfl
theorem q1_140 : Cond.fieldLink "KnockPipes$Notebook" 15 "KnockPipes$Notebook" "minute" "[I" ∈ kp_wl := kp_t1 (i := 140) rfl rfl
theorem q1_141 : Cond.fieldLink "KnockPipes" 277 "KnockPipes$Notebook" "minute" "[I" ∈ kp_wl := kp_t1 (i := 141) rfl rfl
theorem q1_142 : Cond.fieldLink "KnockPipes$Notebook" 18 "KnockPipes$Notebook" "n" "[I" ∈ kp_wl := kp_t1 (i := 142) rfl rfl
theorem q1_143 : Cond.fieldLink "KnockPipes" 280 "KnockPipes$Notebook" "n" "[I" ∈ kp_wl := kp_t1 (i := 143) rfl rfl
theorem q1_144 : Cond.fieldLink "KnockPipes$Notebook" 21 "KnockPipes$Notebook" "count" "I" ∈ kp_wl := kp_t1 (i := 144) rfl rfl
theorem q1_145 : Cond.fieldLink "KnockPipes" 180 "KnockPipes$Notebook" "count" "I" ∈ kp_wl := kp_t1 (i := 145) rfl rfl
theorem q1_146 : Cond.laysFinal "KnockPipes$Notebook" "KnockPipes$Notebook" "place" "[I" ∈ kp_wl := kp_t1 (i := 146) rfl rfl
theorem q1_148 : Cond.laysFinal "KnockPipes$Notebook" "KnockPipes$Notebook" "minute" "[I" ∈ kp_wl := kp_t1 (i := 148) rfl rfl
theorem q1_150 : Cond.laysFinal "KnockPipes$Notebook" "KnockPipes$Notebook" "n" "[I" ∈ kp_wl := kp_t1 (i := 150) rfl rfl
theorem q1_152 : Cond.lays "KnockPipes$Notebook" "KnockPipes$Notebook" "count" "I" ∈ kp_wl := kp_t1 (i := 152) rfl rfl
theorem q1_155 : Cond.fieldLink "KnockPipes$Home" 9 "KnockPipes$Home" "day" "[J" ∈ kp_wl := kp_t1 (i := 155) rfl rfl
theorem q1_156 : Cond.fieldLink "KnockPipes" 55 "KnockPipes$Home" "day" "[J" ∈ kp_wl := kp_t1 (i := 156) rfl rfl
theorem q1_157 : Cond.fieldLink "KnockPipes$Home" 18 "KnockPipes$Home" "tape" "LKnockPipes$Tape;" ∈ kp_wl := kp_t1 (i := 157) rfl rfl
theorem q1_158 : Cond.fieldLink "KnockPipes" 63 "KnockPipes$Home" "tape" "LKnockPipes$Tape;" ∈ kp_wl := kp_t1 (i := 158) rfl rfl
theorem q1_159 : Cond.fieldLink "KnockPipes$Home" 25 "KnockPipes$Home" "house" "LKnockPipes$House;" ∈ kp_wl := kp_t1 (i := 159) rfl rfl
theorem q1_160 : Cond.fieldLink "KnockPipes" 87 "KnockPipes$Home" "house" "LKnockPipes$House;" ∈ kp_wl := kp_t1 (i := 160) rfl rfl
theorem q1_161 : Cond.fieldLink "KnockPipes$Home" 32 "KnockPipes$Home" "noises" "LKnockPipes$Noises;" ∈ kp_wl := kp_t1 (i := 161) rfl rfl
theorem q1_162 : Cond.fieldLink "KnockPipes" 119 "KnockPipes$Home" "noises" "LKnockPipes$Noises;" ∈ kp_wl := kp_t1 (i := 162) rfl rfl
theorem q1_163 : Cond.fieldLink "KnockPipes$Home" 39 "KnockPipes$Home" "book" "LKnockPipes$Notebook;" ∈ kp_wl := kp_t1 (i := 163) rfl rfl
theorem q1_164 : Cond.fieldLink "KnockPipes" 176 "KnockPipes$Home" "book" "LKnockPipes$Notebook;" ∈ kp_wl := kp_t1 (i := 164) rfl rfl
theorem q1_165 : Cond.fieldLink "KnockPipes$Home" 43 "KnockPipes$Home" "houses" "I" ∈ kp_wl := kp_t1 (i := 165) rfl rfl
theorem q1_166 : Cond.fieldLink "KnockPipes" 77 "KnockPipes$Home" "houses" "I" ∈ kp_wl := kp_t1 (i := 166) rfl rfl
theorem q1_167 : Cond.laysFinal "KnockPipes$Home" "KnockPipes$Home" "day" "[J" ∈ kp_wl := kp_t1 (i := 167) rfl rfl
theorem q1_169 : Cond.laysFinal "KnockPipes$Home" "KnockPipes$Home" "tape" "LKnockPipes$Tape;" ∈ kp_wl := kp_t1 (i := 169) rfl rfl
theorem q1_171 : Cond.laysFinal "KnockPipes$Home" "KnockPipes$Home" "house" "LKnockPipes$House;" ∈ kp_wl := kp_t1 (i := 171) rfl rfl
theorem q1_173 : Cond.laysFinal "KnockPipes$Home" "KnockPipes$Home" "noises" "LKnockPipes$Noises;" ∈ kp_wl := kp_t1 (i := 173) rfl rfl
theorem q1_175 : Cond.laysFinal "KnockPipes$Home" "KnockPipes$Home" "book" "LKnockPipes$Notebook;" ∈ kp_wl := kp_t1 (i := 175) rfl rfl
theorem q1_177 : Cond.lays "KnockPipes$Home" "KnockPipes$Home" "houses" "I" ∈ kp_wl := kp_t1 (i := 177) rfl rfl
theorem q1_180 : Cond.classLink "KnockPipes" 25 "KnockPipes$Reader" ∈ kp_wl := kp_t1 (i := 180) rfl rfl
theorem q1_181 : Cond.instantiable "KnockPipes$Reader" 3 ∈ kp_wl := kp_t1 (i := 181) rfl rfl
theorem q1_183 : Cond.instanceMethod yX5_init ∈ kp_wl := kp_t1 (i := 183) rfl rfl
theorem q1_184 : Cond.code yX5_init cX5_init 1 none ∈ kp_wl := kp_t1 (i := 184) rfl rfl
theorem q1_185 : Cond.methodLink "KnockPipes$Reader" 3 objectInit ∈ kp_wl := kp_t1 (i := 185) rfl rfl
theorem q1_186 : Cond.classLink "KnockPipes$Reader" 9 "KnockPipes$House" ∈ kp_wl := kp_t1 (i := 186) rfl rfl
theorem q1_187 : Cond.methodLink "KnockPipes$Reader" 11 yX2_init ∈ kp_wl := kp_t1 (i := 187) rfl rfl
theorem q1_188 : Cond.classLink "KnockPipes$Reader" 18 "KnockPipes$Tape" ∈ kp_wl := kp_t1 (i := 188) rfl rfl
theorem q1_190 : Cond.fieldLink "KnockPipes$Reader" 12 "KnockPipes$Reader" "draft" "LKnockPipes$House;" ∈ kp_wl := kp_t1 (i := 190) rfl rfl
theorem q1_191 : Cond.fieldLink "KnockPipes" 91 "KnockPipes$Reader" "draft" "LKnockPipes$House;" ∈ kp_wl := kp_t1 (i := 191) rfl rfl
theorem q1_192 : Cond.fieldLink "KnockPipes$Reader" 21 "KnockPipes$Reader" "tape" "LKnockPipes$Tape;" ∈ kp_wl := kp_t1 (i := 192) rfl rfl
theorem q1_193 : Cond.fieldLink "KnockPipes$Reader" 25 "KnockPipes$Reader" "at" "I" ∈ kp_wl := kp_t1 (i := 193) rfl rfl
theorem q1_194 : Cond.fieldLink "KnockPipes" 84 "KnockPipes$Reader" "at" "I" ∈ kp_wl := kp_t1 (i := 194) rfl rfl
theorem q1_195 : Cond.laysFinal "KnockPipes$Reader" "KnockPipes$Reader" "draft" "LKnockPipes$House;" ∈ kp_wl := kp_t1 (i := 195) rfl rfl
theorem q1_197 : Cond.laysFinal "KnockPipes$Reader" "KnockPipes$Reader" "tape" "LKnockPipes$Tape;" ∈ kp_wl := kp_t1 (i := 197) rfl rfl
theorem q1_199 : Cond.lays "KnockPipes$Reader" "KnockPipes$Reader" "at" "I" ∈ kp_wl := kp_t1 (i := 199) rfl rfl
theorem q1_202 : Cond.classLink "KnockPipes" 32 "KnockPipes$Sounds" ∈ kp_wl := kp_t1 (i := 202) rfl rfl
theorem q1_203 : Cond.instantiable "KnockPipes$Sounds" 6 ∈ kp_wl := kp_t1 (i := 203) rfl rfl
theorem q1_205 : Cond.instanceMethod yX6_init ∈ kp_wl := kp_t1 (i := 205) rfl rfl
theorem q1_206 : Cond.code yX6_init cX6_init 1 none ∈ kp_wl := kp_t1 (i := 206) rfl rfl
theorem q1_207 : Cond.methodLink "KnockPipes$Sounds" 3 objectInit ∈ kp_wl := kp_t1 (i := 207) rfl rfl
theorem q1_208 : Cond.fieldLink "KnockPipes$Sounds" 9 "KnockPipes$Sounds" "warmth" "[I" ∈ kp_wl := kp_t1 (i := 208) rfl rfl
theorem q1_209 : Cond.fieldLink "KnockPipes" 110 "KnockPipes$Sounds" "warmth" "[I" ∈ kp_wl := kp_t1 (i := 209) rfl rfl
theorem q1_210 : Cond.fieldLink "KnockPipes$Sounds" 15 "KnockPipes$Sounds" "growth" "[I" ∈ kp_wl := kp_t1 (i := 210) rfl rfl
theorem q1_211 : Cond.fieldLink "KnockPipes$Sounds" 18 "KnockPipes$Sounds" "hold" "[I" ∈ kp_wl := kp_t1 (i := 211) rfl rfl
theorem q1_212 : Cond.fieldLink "KnockPipes$Sounds" 21 "KnockPipes$Sounds" "knocks" "[I" ∈ kp_wl := kp_t1 (i := 212) rfl rfl
theorem q1_213 : Cond.fieldLink "KnockPipes$Sounds" 24 "KnockPipes$Sounds" "bare" "[J" ∈ kp_wl := kp_t1 (i := 213) rfl rfl
theorem q1_214 : Cond.fieldLink "KnockPipes$Sounds" 28 "KnockPipes$Sounds" "stack" "[J" ∈ kp_wl := kp_t1 (i := 214) rfl rfl
theorem q1_215 : Cond.laysFinal "KnockPipes$Sounds" "KnockPipes$Sounds" "warmth" "[I" ∈ kp_wl := kp_t1 (i := 215) rfl rfl
theorem q1_217 : Cond.laysFinal "KnockPipes$Sounds" "KnockPipes$Sounds" "growth" "[I" ∈ kp_wl := kp_t1 (i := 217) rfl rfl
theorem q1_219 : Cond.laysFinal "KnockPipes$Sounds" "KnockPipes$Sounds" "hold" "[I" ∈ kp_wl := kp_t1 (i := 219) rfl rfl
theorem q1_221 : Cond.laysFinal "KnockPipes$Sounds" "KnockPipes$Sounds" "knocks" "[I" ∈ kp_wl := kp_t1 (i := 221) rfl rfl
theorem q1_223 : Cond.laysFinal "KnockPipes$Sounds" "KnockPipes$Sounds" "bare" "[J" ∈ kp_wl := kp_t1 (i := 223) rfl rfl
theorem q1_225 : Cond.laysFinal "KnockPipes$Sounds" "KnockPipes$Sounds" "stack" "[J" ∈ kp_wl := kp_t1 (i := 225) rfl rfl
theorem q1_228 : Cond.classLink "KnockPipes" 39 "KnockPipes$Acts" ∈ kp_wl := kp_t1 (i := 228) rfl rfl
theorem q1_229 : Cond.instantiable "KnockPipes$Acts" 5 ∈ kp_wl := kp_t1 (i := 229) rfl rfl
theorem q1_231 : Cond.instanceMethod yX0_init ∈ kp_wl := kp_t1 (i := 231) rfl rfl
theorem q1_232 : Cond.code yX0_init cX0_init 1 none ∈ kp_wl := kp_t1 (i := 232) rfl rfl
theorem q1_233 : Cond.methodLink "KnockPipes$Acts" 3 objectInit ∈ kp_wl := kp_t1 (i := 233) rfl rfl
theorem q1_234 : Cond.fieldLink "KnockPipes$Acts" 11 "KnockPipes$Acts" "trace" "[I" ∈ kp_wl := kp_t1 (i := 234) rfl rfl
theorem q1_235 : Cond.fieldLink "KnockPipes" 257 "KnockPipes$Acts" "trace" "[I" ∈ kp_wl := kp_t1 (i := 235) rfl rfl
theorem q1_236 : Cond.fieldLink "KnockPipes$Acts" 15 "KnockPipes$Acts" "ran" "I" ∈ kp_wl := kp_t1 (i := 236) rfl rfl
theorem q1_237 : Cond.fieldLink "KnockPipes" 250 "KnockPipes$Acts" "ran" "I" ∈ kp_wl := kp_t1 (i := 237) rfl rfl
theorem q1_238 : Cond.fieldLink "KnockPipes$Acts" 19 "KnockPipes$Acts" "kind" "I" ∈ kp_wl := kp_t1 (i := 238) rfl rfl
theorem q1_239 : Cond.fieldLink "KnockPipes$Acts" 22 "KnockPipes$Acts" "number" "I" ∈ kp_wl := kp_t1 (i := 239) rfl rfl
theorem q2_0 : Cond.fieldLink "KnockPipes$Acts" 25 "KnockPipes$Acts" "v" "I" ∈ kp_wl := kp_t2 (i := 0) rfl rfl
theorem q2_1 : Cond.laysFinal "KnockPipes$Acts" "KnockPipes$Acts" "trace" "[I" ∈ kp_wl := kp_t2 (i := 1) rfl rfl
theorem q2_3 : Cond.lays "KnockPipes$Acts" "KnockPipes$Acts" "ran" "I" ∈ kp_wl := kp_t2 (i := 3) rfl rfl
theorem q2_5 : Cond.lays "KnockPipes$Acts" "KnockPipes$Acts" "kind" "I" ∈ kp_wl := kp_t2 (i := 5) rfl rfl
theorem q2_7 : Cond.lays "KnockPipes$Acts" "KnockPipes$Acts" "number" "I" ∈ kp_wl := kp_t2 (i := 7) rfl rfl
theorem q2_9 : Cond.lays "KnockPipes$Acts" "KnockPipes$Acts" "v" "I" ∈ kp_wl := kp_t2 (i := 9) rfl rfl
theorem q2_12 : Cond.fieldLink "KnockPipes" 14 "KnockPipes" "now" "LKnockPipes$Home;" ∈ kp_wl := kp_t2 (i := 12) rfl rfl
theorem q2_13 : Cond.fieldLink "KnockPipes" 18 "KnockPipes" "kept" "LKnockPipes$Home;" ∈ kp_wl := kp_t2 (i := 13) rfl rfl
theorem q2_14 : Cond.fieldLink "KnockPipes" 21 "KnockPipes" "imaged" "Z" ∈ kp_wl := kp_t2 (i := 14) rfl rfl
theorem q2_15 : Cond.fieldLink "KnockPipes" 28 "KnockPipes" "reader" "LKnockPipes$Reader;" ∈ kp_wl := kp_t2 (i := 15) rfl rfl
theorem q2_16 : Cond.fieldLink "KnockPipes" 35 "KnockPipes" "sounds" "LKnockPipes$Sounds;" ∈ kp_wl := kp_t2 (i := 16) rfl rfl
theorem q2_17 : Cond.fieldLink "KnockPipes" 42 "KnockPipes" "acts" "LKnockPipes$Acts;" ∈ kp_wl := kp_t2 (i := 17) rfl rfl
theorem q2_18 : Cond.fieldLink "KnockPipes" 46 "KnockPipes" "settled" "Z" ∈ kp_wl := kp_t2 (i := 18) rfl rfl
theorem q2_19 : Cond.fieldLink "KnockPipes" 49 "KnockPipes" "shares" "[I" ∈ kp_wl := kp_t2 (i := 19) rfl rfl
theorem q2_20 : Cond.laysFinal "KnockPipes" "KnockPipes" "now" "LKnockPipes$Home;" ∈ kp_wl := kp_t2 (i := 20) rfl rfl
theorem q2_22 : Cond.laysFinal "KnockPipes" "KnockPipes" "kept" "LKnockPipes$Home;" ∈ kp_wl := kp_t2 (i := 22) rfl rfl
theorem q2_24 : Cond.lays "KnockPipes" "KnockPipes" "imaged" "Z" ∈ kp_wl := kp_t2 (i := 24) rfl rfl
theorem q2_26 : Cond.laysFinal "KnockPipes" "KnockPipes" "reader" "LKnockPipes$Reader;" ∈ kp_wl := kp_t2 (i := 26) rfl rfl
theorem q2_28 : Cond.laysFinal "KnockPipes" "KnockPipes" "sounds" "LKnockPipes$Sounds;" ∈ kp_wl := kp_t2 (i := 28) rfl rfl
theorem q2_30 : Cond.laysFinal "KnockPipes" "KnockPipes" "acts" "LKnockPipes$Acts;" ∈ kp_wl := kp_t2 (i := 30) rfl rfl
theorem q2_32 : Cond.lays "KnockPipes" "KnockPipes" "settled" "Z" ∈ kp_wl := kp_t2 (i := 32) rfl rfl
theorem q2_34 : Cond.laysFinal "KnockPipes" "KnockPipes" "shares" "[I" ∈ kp_wl := kp_t2 (i := 34) rfl rfl
theorem q2_37 : Cond.methodLink "KnockPipesLaw" 15 yX9_day ∈ kp_wl := kp_t2 (i := 37) rfl rfl
theorem q2_38 : Cond.instanceMethod yX9_day ∈ kp_wl := kp_t2 (i := 38) rfl rfl
theorem q2_39 : Cond.selects "KnockPipes" yX9_day yX9_day ∈ kp_wl := kp_t2 (i := 39) rfl rfl
theorem q2_40 : Cond.code yX9_day cX9_day 5 (some .int) ∈ kp_wl := kp_t2 (i := 40) rfl rfl
theorem q2_41 : Cond.constantLong "KnockPipes" 53 (1099511627775) ∈ kp_wl := kp_t2 (i := 41) rfl rfl
theorem q2_42 : Cond.methodLink "KnockPipes" 59 yJ13_bitCount_95d88 ∈ kp_wl := kp_t2 (i := 42) rfl rfl
theorem q2_43 : Cond.static yJ13_bitCount_95d88 ∈ kp_wl := kp_t2 (i := 43) rfl rfl
theorem q2_44 : Cond.code yJ13_bitCount_95d88 cJ13_bitCount_95d88 2 (some .int) ∈ kp_wl := kp_t2 (i := 44) rfl rfl
theorem q2_45 : Cond.constantLong "java/lang/Long" 314 (6148914691236517205) ∈ kp_wl := kp_t2 (i := 45) rfl rfl
theorem q2_46 : Cond.constantLong "java/lang/Long" 316 (3689348814741910323) ∈ kp_wl := kp_t2 (i := 46) rfl rfl
theorem q2_47 : Cond.constantLong "java/lang/Long" 318 (1085102592571150095) ∈ kp_wl := kp_t2 (i := 47) rfl rfl
theorem q2_48 : Cond.methodLink "KnockPipesLaw" 20 yX9_feed ∈ kp_wl := kp_t2 (i := 48) rfl rfl
theorem q2_49 : Cond.instanceMethod yX9_feed ∈ kp_wl := kp_t2 (i := 49) rfl rfl
theorem q2_50 : Cond.selects "KnockPipes" yX9_feed yX9_feed ∈ kp_wl := kp_t2 (i := 50) rfl rfl
theorem q2_51 : Cond.code yX9_feed cX9_feed 5 (some .int) ∈ kp_wl := kp_t2 (i := 51) rfl rfl
theorem q2_52 : Cond.methodLink "KnockPipes" 73 yX7_add ∈ kp_wl := kp_t2 (i := 52) rfl rfl
theorem q2_53 : Cond.instanceMethod yX7_add ∈ kp_wl := kp_t2 (i := 53) rfl rfl
theorem q2_54 : Cond.selects "KnockPipes$Tape" yX7_add yX7_add ∈ kp_wl := kp_t2 (i := 54) rfl rfl
theorem q2_55 : Cond.code yX7_add cX7_add 2 none ∈ kp_wl := kp_t2 (i := 55) rfl rfl
theorem q2_56 : Cond.methodLink "KnockPipesLaw" 25 yX9_house ∈ kp_wl := kp_t2 (i := 56) rfl rfl
theorem q2_57 : Cond.instanceMethod yX9_house ∈ kp_wl := kp_t2 (i := 57) rfl rfl
theorem q2_58 : Cond.selects "KnockPipes" yX9_house yX9_house ∈ kp_wl := kp_t2 (i := 58) rfl rfl
theorem q2_59 : Cond.code yX9_house cX9_house 2 (some .int) ∈ kp_wl := kp_t2 (i := 59) rfl rfl
theorem q2_60 : Cond.methodLink "KnockPipes" 80 yX5_reads ∈ kp_wl := kp_t2 (i := 60) rfl rfl
theorem q2_61 : Cond.instanceMethod yX5_reads ∈ kp_wl := kp_t2 (i := 61) rfl rfl
theorem q2_62 : Cond.selects "KnockPipes$Reader" yX5_reads yX5_reads ∈ kp_wl := kp_t2 (i := 62) rfl rfl
theorem q2_63 : Cond.code yX5_reads cX5_reads 3 (some .boolean) ∈ kp_wl := kp_t2 (i := 63) rfl rfl
theorem q2_64 : Cond.methodLink "KnockPipes$Reader" 29 yX7_copy ∈ kp_wl := kp_t2 (i := 64) rfl rfl
theorem q2_65 : Cond.instanceMethod yX7_copy ∈ kp_wl := kp_t2 (i := 65) rfl rfl
theorem q2_66 : Cond.selects "KnockPipes$Tape" yX7_copy yX7_copy ∈ kp_wl := kp_t2 (i := 66) rfl rfl
theorem q2_67 : Cond.code yX7_copy cX7_copy 2 none ∈ kp_wl := kp_t2 (i := 67) rfl rfl
theorem q2_68 : Cond.methodLink "KnockPipes$Tape" 19 ⟨"java/lang/System", "arraycopy", "(Ljava/lang/Object;ILjava/lang/Object;II)V"⟩ ∈ kp_wl := kp_t2 (i := 68) rfl rfl
theorem q2_69 : Cond.methodLink "KnockPipes$Reader" 33 yX2_empty ∈ kp_wl := kp_t2 (i := 69) rfl rfl
theorem q2_70 : Cond.methodLink "KnockPipes$Reader" 36 yX5_clause ∈ kp_wl := kp_t2 (i := 70) rfl rfl
theorem q2_72 : Cond.instanceMethod yX5_clause ∈ kp_wl := kp_t2 (i := 72) rfl rfl
theorem q2_73 : Cond.code yX5_clause cX5_clause 4 (some .boolean) ∈ kp_wl := kp_t2 (i := 73) rfl rfl
theorem q2_74 : Cond.methodLink "KnockPipes$Reader" 55 yX5_word ∈ kp_wl := kp_t2 (i := 74) rfl rfl
theorem q2_76 : Cond.instanceMethod yX5_word ∈ kp_wl := kp_t2 (i := 76) rfl rfl
theorem q2_77 : Cond.code yX5_word cX5_word 6 (some .int) ∈ kp_wl := kp_t2 (i := 77) rfl rfl
theorem q2_79 : Cond.methodLink "KnockPipes$Reader" 74 yJ0_charAt_5068e ∈ kp_wl := kp_t2 (i := 79) rfl rfl
theorem q2_80 : Cond.instanceMethod yJ0_charAt_5068e ∈ kp_wl := kp_t2 (i := 80) rfl rfl
theorem q2_81 : Cond.selects "java/lang/String" yJ0_charAt_5068e yJ0_charAt_5068e ∈ kp_wl := kp_t2 (i := 81) rfl rfl
theorem q2_82 : Cond.code yJ0_charAt_5068e cJ0_charAt_5068e 2 (some .char) ∈ kp_wl := kp_t2 (i := 82) rfl rfl
theorem q2_83 : Cond.methodLink "java/lang/String" 492 yJ0_isLatin1_aae02 ∈ kp_wl := kp_t2 (i := 83) rfl rfl
theorem q2_84 : Cond.instanceMethod yJ0_isLatin1_aae02 ∈ kp_wl := kp_t2 (i := 84) rfl rfl
theorem q2_85 : Cond.selects "java/lang/String" yJ0_isLatin1_aae02 yJ0_isLatin1_aae02 ∈ kp_wl := kp_t2 (i := 85) rfl rfl
theorem q2_86 : Cond.code yJ0_isLatin1_aae02 cJ0_isLatin1_aae02 1 (some .boolean) ∈ kp_wl := kp_t2 (i := 86) rfl rfl
theorem q2_87 : Cond.fieldLink "java/lang/String" 38 "java/lang/String" "COMPACT_STRINGS" "Z" ∈ kp_wl := kp_t2 (i := 87) rfl rfl
theorem q2_89 : Cond.methodLink "java/lang/String" 495 yJ1_charAt_3b067 ∈ kp_wl := kp_t2 (i := 89) rfl rfl
theorem q2_90 : Cond.static yJ1_charAt_3b067 ∈ kp_wl := kp_t2 (i := 90) rfl rfl
theorem q2_91 : Cond.code yJ1_charAt_3b067 cJ1_charAt_3b067 2 (some .char) ∈ kp_wl := kp_t2 (i := 91) rfl rfl
theorem q2_92 : Cond.methodLink "java/lang/StringLatin1" 9 yJ0_checkIndex_df160 ∈ kp_wl := kp_t2 (i := 92) rfl rfl
theorem q2_93 : Cond.static yJ0_checkIndex_df160 ∈ kp_wl := kp_t2 (i := 93) rfl rfl
theorem q2_94 : Cond.code yJ0_checkIndex_df160 cJ0_checkIndex_df160 2 none ∈ kp_wl := kp_t2 (i := 94) rfl rfl
theorem q2_95 : Cond.fieldLink "java/lang/String" 1053 "jdk/internal/util/Preconditions" "SIOOBE_FORMATTER" "Ljava/util/function/BiFunction;" ∈ kp_wl := kp_t2 (i := 95) rfl rfl
theorem q2_97 : Cond.methodLink "java/lang/String" 1059 yJ3_checkIndex_8e157 ∈ kp_wl := kp_t2 (i := 97) rfl rfl
theorem q2_98 : Cond.static yJ3_checkIndex_8e157 ∈ kp_wl := kp_t2 (i := 98) rfl rfl
theorem q2_99 : Cond.code yJ3_checkIndex_8e157 cJ3_checkIndex_8e157 3 (some .int) ∈ kp_wl := kp_t2 (i := 99) rfl rfl
theorem q2_100 : Cond.methodLink "java/lang/String" 498 yJ2_charAt_3b067 ∈ kp_wl := kp_t2 (i := 100) rfl rfl
theorem q2_101 : Cond.static yJ2_charAt_3b067 ∈ kp_wl := kp_t2 (i := 101) rfl rfl
theorem q2_102 : Cond.code yJ2_charAt_3b067 cJ2_charAt_3b067 2 (some .char) ∈ kp_wl := kp_t2 (i := 102) rfl rfl
theorem q2_103 : Cond.methodLink "java/lang/StringUTF16" 67 yJ2_checkIndex_2214a ∈ kp_wl := kp_t2 (i := 103) rfl rfl
theorem q2_104 : Cond.static yJ2_checkIndex_2214a ∈ kp_wl := kp_t2 (i := 104) rfl rfl
theorem q2_105 : Cond.code yJ2_checkIndex_2214a cJ2_checkIndex_2214a 2 none ∈ kp_wl := kp_t2 (i := 105) rfl rfl
theorem q2_106 : Cond.methodLink "java/lang/StringUTF16" 48 yJ2_length_9d52b ∈ kp_wl := kp_t2 (i := 106) rfl rfl
theorem q2_107 : Cond.static yJ2_length_9d52b ∈ kp_wl := kp_t2 (i := 107) rfl rfl
theorem q2_108 : Cond.code yJ2_length_9d52b cJ2_length_9d52b 1 (some .int) ∈ kp_wl := kp_t2 (i := 108) rfl rfl
theorem q2_109 : Cond.methodLink "java/lang/StringUTF16" 414 yJ0_checkIndex_df160 ∈ kp_wl := kp_t2 (i := 109) rfl rfl
theorem q2_110 : Cond.methodLink "java/lang/StringUTF16" 71 yJ2_getChar_3b067 ∈ kp_wl := kp_t2 (i := 110) rfl rfl
theorem q2_111 : Cond.static yJ2_getChar_3b067 ∈ kp_wl := kp_t2 (i := 111) rfl rfl
theorem q2_112 : Cond.code yJ2_getChar_3b067 cJ2_getChar_3b067 2 (some .char) ∈ kp_wl := kp_t2 (i := 112) rfl rfl
theorem q2_113 : Cond.fieldLink "java/lang/StringUTF16" 44 "java/lang/StringUTF16" "$assertionsDisabled" "Z" ∈ kp_wl := kp_t2 (i := 113) rfl rfl
theorem q2_115 : Cond.fieldLink "java/lang/StringUTF16" 59 "java/lang/StringUTF16" "HI_BYTE_SHIFT" "I" ∈ kp_wl := kp_t2 (i := 115) rfl rfl
theorem q2_117 : Cond.fieldLink "java/lang/StringUTF16" 63 "java/lang/StringUTF16" "LO_BYTE_SHIFT" "I" ∈ kp_wl := kp_t2 (i := 117) rfl rfl
theorem q2_119 : Cond.methodLink "KnockPipes$Reader" 51 yX5_peek ∈ kp_wl := kp_t2 (i := 119) rfl rfl
theorem q2_121 : Cond.instanceMethod yX5_peek ∈ kp_wl := kp_t2 (i := 121) rfl rfl
theorem q2_122 : Cond.code yX5_peek cX5_peek 1 (some .int) ∈ kp_wl := kp_t2 (i := 122) rfl rfl
theorem q2_123 : Cond.methodLink "KnockPipes$Reader" 43 yX5_eats ∈ kp_wl := kp_t2 (i := 123) rfl rfl
theorem q2_125 : Cond.instanceMethod yX5_eats ∈ kp_wl := kp_t2 (i := 125) rfl rfl
theorem q2_126 : Cond.code yX5_eats cX5_eats 2 (some .boolean) ∈ kp_wl := kp_t2 (i := 126) rfl rfl
theorem q2_127 : Cond.methodLink "KnockPipes$Reader" 58 yX5_number ∈ kp_wl := kp_t2 (i := 127) rfl rfl
theorem q2_129 : Cond.instanceMethod yX5_number ∈ kp_wl := kp_t2 (i := 129) rfl rfl
theorem q2_130 : Cond.code yX5_number cX5_number 3 (some .int) ∈ kp_wl := kp_t2 (i := 130) rfl rfl
theorem q2_131 : Cond.methodLink "KnockPipes$Reader" 64 yX5_either ∈ kp_wl := kp_t2 (i := 131) rfl rfl
theorem q2_133 : Cond.instanceMethod yX5_either ∈ kp_wl := kp_t2 (i := 133) rfl rfl
theorem q2_134 : Cond.code yX5_either cX5_either 5 (some .boolean) ∈ kp_wl := kp_t2 (i := 134) rfl rfl
theorem q2_135 : Cond.methodLink "KnockPipes$Reader" 80 yX5_factor ∈ kp_wl := kp_t2 (i := 135) rfl rfl
theorem q2_137 : Cond.instanceMethod yX5_factor ∈ kp_wl := kp_t2 (i := 137) rfl rfl
theorem q2_138 : Cond.code yX5_factor cX5_factor 4 (some .boolean) ∈ kp_wl := kp_t2 (i := 138) rfl rfl
theorem q2_139 : Cond.methodLink "KnockPipes$Reader" 87 yX5_test ∈ kp_wl := kp_t2 (i := 139) rfl rfl
theorem q2_141 : Cond.instanceMethod yX5_test ∈ kp_wl := kp_t2 (i := 141) rfl rfl
theorem q2_142 : Cond.code yX5_test cX5_test 4 (some .boolean) ∈ kp_wl := kp_t2 (i := 142) rfl rfl
theorem q2_144 : Cond.methodLink "KnockPipes$Reader" 94 yX5_oneOf ∈ kp_wl := kp_t2 (i := 144) rfl rfl
theorem q2_146 : Cond.instanceMethod yX5_oneOf ∈ kp_wl := kp_t2 (i := 146) rfl rfl
theorem q2_147 : Cond.code yX5_oneOf cX5_oneOf 4 (some .int) ∈ kp_wl := kp_t2 (i := 147) rfl rfl
theorem q2_148 : Cond.methodLink "KnockPipes$Reader" 104 yJ0_length_8abf5 ∈ kp_wl := kp_t2 (i := 148) rfl rfl
theorem q2_149 : Cond.instanceMethod yJ0_length_8abf5 ∈ kp_wl := kp_t2 (i := 149) rfl rfl
theorem q2_150 : Cond.selects "java/lang/String" yJ0_length_8abf5 yJ0_length_8abf5 ∈ kp_wl := kp_t2 (i := 150) rfl rfl
theorem q2_151 : Cond.code yJ0_length_8abf5 cJ0_length_8abf5 1 (some .int) ∈ kp_wl := kp_t2 (i := 151) rfl rfl
theorem q2_152 : Cond.methodLink "java/lang/String" 335 yJ0_coder_7d493 ∈ kp_wl := kp_t2 (i := 152) rfl rfl
theorem q2_153 : Cond.instanceMethod yJ0_coder_7d493 ∈ kp_wl := kp_t2 (i := 153) rfl rfl
theorem q2_154 : Cond.selects "java/lang/String" yJ0_coder_7d493 yJ0_coder_7d493 ∈ kp_wl := kp_t2 (i := 154) rfl rfl
theorem q2_155 : Cond.code yJ0_coder_7d493 cJ0_coder_7d493 1 (some .byte) ∈ kp_wl := kp_t2 (i := 155) rfl rfl
theorem q2_157 : Cond.methodLink "KnockPipes$Reader" 100 yX8_code ∈ kp_wl := kp_t2 (i := 157) rfl rfl
theorem q2_158 : Cond.static yX8_code ∈ kp_wl := kp_t2 (i := 158) rfl rfl
theorem q2_159 : Cond.code yX8_code cX8_code 3 (some .int) ∈ kp_wl := kp_t2 (i := 159) rfl rfl
theorem q2_160 : Cond.methodLink "KnockPipes$Reader" 83 yX2_put ∈ kp_wl := kp_t2 (i := 160) rfl rfl
theorem q2_161 : Cond.instanceMethod yX2_put ∈ kp_wl := kp_t2 (i := 161) rfl rfl
theorem q2_162 : Cond.selects "KnockPipes$House" yX2_put yX2_put ∈ kp_wl := kp_t2 (i := 162) rfl rfl
theorem q2_163 : Cond.code yX2_put cX2_put 2 none ∈ kp_wl := kp_t2 (i := 163) rfl rfl
theorem q2_164 : Cond.methodLink "KnockPipes$Reader" 68 yX2_close ∈ kp_wl := kp_t2 (i := 164) rfl rfl
theorem q2_165 : Cond.instanceMethod yX2_close ∈ kp_wl := kp_t2 (i := 165) rfl rfl
theorem q2_166 : Cond.selects "KnockPipes$House" yX2_close yX2_close ∈ kp_wl := kp_t2 (i := 166) rfl rfl
theorem q2_167 : Cond.code yX2_close cX2_close 3 none ∈ kp_wl := kp_t2 (i := 167) rfl rfl
theorem q2_168 : Cond.methodLink "KnockPipes" 94 yX2_copy ∈ kp_wl := kp_t2 (i := 168) rfl rfl
theorem q2_169 : Cond.instanceMethod yX2_copy ∈ kp_wl := kp_t2 (i := 169) rfl rfl
theorem q2_170 : Cond.selects "KnockPipes$House" yX2_copy yX2_copy ∈ kp_wl := kp_t2 (i := 170) rfl rfl
theorem q2_171 : Cond.code yX2_copy cX2_copy 2 none ∈ kp_wl := kp_t2 (i := 171) rfl rfl
theorem q2_172 : Cond.arrayClass .byte ∈ kp_wl := kp_t2 (i := 172) rfl rfl
theorem q2_173 : Cond.methodLink "KnockPipesLaw" 30 yX9_told ∈ kp_wl := kp_t2 (i := 173) rfl rfl
theorem q2_174 : Cond.instanceMethod yX9_told ∈ kp_wl := kp_t2 (i := 174) rfl rfl
theorem q2_175 : Cond.selects "KnockPipes" yX9_told yX9_told ∈ kp_wl := kp_t2 (i := 175) rfl rfl
theorem q2_176 : Cond.code yX9_told cX9_told 2 (some .int) ∈ kp_wl := kp_t2 (i := 176) rfl rfl
theorem q2_177 : Cond.methodLink "KnockPipesLaw" 35 yX9_warmth ∈ kp_wl := kp_t2 (i := 177) rfl rfl
theorem q2_178 : Cond.instanceMethod yX9_warmth ∈ kp_wl := kp_t2 (i := 178) rfl rfl
theorem q2_179 : Cond.selects "KnockPipes" yX9_warmth yX9_warmth ∈ kp_wl := kp_t2 (i := 179) rfl rfl
theorem q2_180 : Cond.code yX9_warmth cX9_warmth 2 (some .int) ∈ kp_wl := kp_t2 (i := 180) rfl rfl
theorem q2_181 : Cond.methodLink "KnockPipes" 103 yX9_isMinute ∈ kp_wl := kp_t2 (i := 181) rfl rfl
theorem q2_182 : Cond.static yX9_isMinute ∈ kp_wl := kp_t2 (i := 182) rfl rfl
theorem q2_183 : Cond.code yX9_isMinute cX9_isMinute 1 (some .boolean) ∈ kp_wl := kp_t2 (i := 183) rfl rfl
theorem q2_184 : Cond.methodLink "KnockPipes" 107 yX9_settle ∈ kp_wl := kp_t2 (i := 184) rfl rfl
theorem q2_186 : Cond.instanceMethod yX9_settle ∈ kp_wl := kp_t2 (i := 186) rfl rfl
theorem q2_187 : Cond.code yX9_settle cX9_settle 2 none ∈ kp_wl := kp_t2 (i := 187) rfl rfl
theorem q2_188 : Cond.methodLink "KnockPipes" 236 yX6_read ∈ kp_wl := kp_t2 (i := 188) rfl rfl
theorem q2_189 : Cond.instanceMethod yX6_read ∈ kp_wl := kp_t2 (i := 189) rfl rfl
theorem q2_190 : Cond.selects "KnockPipes$Sounds" yX6_read yX6_read ∈ kp_wl := kp_t2 (i := 190) rfl rfl
theorem q2_191 : Cond.code yX6_read cX6_read 8 none ∈ kp_wl := kp_t2 (i := 191) rfl rfl
theorem q2_192 : Cond.constantLong "KnockPipes$Sounds" 40 (1099511627775) ∈ kp_wl := kp_t2 (i := 192) rfl rfl
theorem q2_193 : Cond.methodLink "KnockPipes$Sounds" 51 yX6_holds ∈ kp_wl := kp_t2 (i := 193) rfl rfl
theorem q2_195 : Cond.instanceMethod yX6_holds ∈ kp_wl := kp_t2 (i := 195) rfl rfl
theorem q2_196 : Cond.code yX6_holds cX6_holds 9 (some .long) ∈ kp_wl := kp_t2 (i := 196) rfl rfl
theorem q2_197 : Cond.methodLink "KnockPipes$Sounds" 71 yX6_minutesOf ∈ kp_wl := kp_t2 (i := 197) rfl rfl
theorem q2_198 : Cond.static yX6_minutesOf ∈ kp_wl := kp_t2 (i := 198) rfl rfl
theorem q2_199 : Cond.code yX6_minutesOf cX6_minutesOf 4 (some .long) ∈ kp_wl := kp_t2 (i := 199) rfl rfl
theorem q2_200 : Cond.methodLink "KnockPipes$Sounds" 75 yX8_subject ∈ kp_wl := kp_t2 (i := 200) rfl rfl
theorem q2_201 : Cond.static yX8_subject ∈ kp_wl := kp_t2 (i := 201) rfl rfl
theorem q2_202 : Cond.code yX8_subject cX8_subject 1 (some .int) ∈ kp_wl := kp_t2 (i := 202) rfl rfl
theorem q2_203 : Cond.methodLink "KnockPipes$Sounds" 92 yX8_minutes ∈ kp_wl := kp_t2 (i := 203) rfl rfl
theorem q2_204 : Cond.static yX8_minutes ∈ kp_wl := kp_t2 (i := 204) rfl rfl
theorem q2_205 : Cond.code yX8_minutes cX8_minutes 6 (some .long) ∈ kp_wl := kp_t2 (i := 205) rfl rfl
theorem q2_206 : Cond.methodLink "KnockPipes$Test" 15 yX8_number ∈ kp_wl := kp_t2 (i := 206) rfl rfl
theorem q2_207 : Cond.static yX8_number ∈ kp_wl := kp_t2 (i := 207) rfl rfl
theorem q2_208 : Cond.code yX8_number cX8_number 1 (some .int) ∈ kp_wl := kp_t2 (i := 208) rfl rfl
theorem q2_209 : Cond.constantLong "KnockPipes$Test" 18 (1099511627775) ∈ kp_wl := kp_t2 (i := 209) rfl rfl
theorem q2_210 : Cond.methodLink "KnockPipes$Test" 9 yX8_sign ∈ kp_wl := kp_t2 (i := 210) rfl rfl
theorem q2_211 : Cond.static yX8_sign ∈ kp_wl := kp_t2 (i := 211) rfl rfl
theorem q2_212 : Cond.code yX8_sign cX8_sign 1 (some .int) ∈ kp_wl := kp_t2 (i := 212) rfl rfl
theorem q2_213 : Cond.constantLong "KnockPipes$Test" 20 (-1) ∈ kp_wl := kp_t2 (i := 213) rfl rfl
theorem q2_214 : Cond.methodLink "KnockPipes$Sounds" 96 yX8_holds ∈ kp_wl := kp_t2 (i := 214) rfl rfl
theorem q2_215 : Cond.static yX8_holds ∈ kp_wl := kp_t2 (i := 215) rfl rfl
theorem q2_216 : Cond.code yX8_holds cX8_holds 2 (some .boolean) ∈ kp_wl := kp_t2 (i := 216) rfl rfl
theorem q2_217 : Cond.constantLong "KnockPipes$Sounds" 55 (-1) ∈ kp_wl := kp_t2 (i := 217) rfl rfl
theorem q2_218 : Cond.methodLink "KnockPipes$Sounds" 57 yX2_grows ∈ kp_wl := kp_t2 (i := 218) rfl rfl
theorem q2_219 : Cond.instanceMethod yX2_grows ∈ kp_wl := kp_t2 (i := 219) rfl rfl
theorem q2_220 : Cond.selects "KnockPipes$House" yX2_grows yX2_grows ∈ kp_wl := kp_t2 (i := 220) rfl rfl
theorem q2_221 : Cond.code yX2_grows cX2_grows 2 (some .boolean) ∈ kp_wl := kp_t2 (i := 221) rfl rfl
theorem q2_222 : Cond.methodLink "KnockPipes$Sounds" 64 yX6_addTo ∈ kp_wl := kp_t2 (i := 222) rfl rfl
theorem q2_223 : Cond.static yX6_addTo ∈ kp_wl := kp_t2 (i := 223) rfl rfl
theorem q2_224 : Cond.code yX6_addTo cX6_addTo 6 none ∈ kp_wl := kp_t2 (i := 224) rfl rfl
theorem q2_225 : Cond.methodLink "KnockPipes" 232 yX9_ring ∈ kp_wl := kp_t2 (i := 225) rfl rfl
theorem q2_227 : Cond.instanceMethod yX9_ring ∈ kp_wl := kp_t2 (i := 227) rfl rfl
theorem q2_228 : Cond.code yX9_ring cX9_ring 8 none ∈ kp_wl := kp_t2 (i := 228) rfl rfl
theorem q2_229 : Cond.methodLink "KnockPipes" 266 yX6_warm ∈ kp_wl := kp_t2 (i := 229) rfl rfl
theorem q2_230 : Cond.instanceMethod yX6_warm ∈ kp_wl := kp_t2 (i := 230) rfl rfl
theorem q2_231 : Cond.selects "KnockPipes$Sounds" yX6_warm yX6_warm ∈ kp_wl := kp_t2 (i := 231) rfl rfl
theorem q2_232 : Cond.code yX6_warm cX6_warm 8 none ∈ kp_wl := kp_t2 (i := 232) rfl rfl
theorem q2_233 : Cond.methodLink "KnockPipes$Sounds" 102 yJ9_min_7cf53 ∈ kp_wl := kp_t2 (i := 233) rfl rfl
theorem q2_234 : Cond.static yJ9_min_7cf53 ∈ kp_wl := kp_t2 (i := 234) rfl rfl
theorem q2_235 : Cond.code yJ9_min_7cf53 cJ9_min_7cf53 2 (some .int) ∈ kp_wl := kp_t2 (i := 235) rfl rfl
theorem q2_236 : Cond.methodLink "KnockPipes$Sounds" 31 yJ9_max_7cf53 ∈ kp_wl := kp_t2 (i := 236) rfl rfl
theorem q2_237 : Cond.static yJ9_max_7cf53 ∈ kp_wl := kp_t2 (i := 237) rfl rfl
theorem q2_238 : Cond.code yJ9_max_7cf53 cJ9_max_7cf53 2 (some .int) ∈ kp_wl := kp_t2 (i := 238) rfl rfl
theorem q2_239 : Cond.methodLink "KnockPipes" 240 yX6_knock ∈ kp_wl := kp_t2 (i := 239) rfl rfl
theorem q3_0 : Cond.instanceMethod yX6_knock ∈ kp_wl := kp_t3 (i := 0) rfl rfl
theorem q3_1 : Cond.selects "KnockPipes$Sounds" yX6_knock yX6_knock ∈ kp_wl := kp_t3 (i := 1) rfl rfl
theorem q3_2 : Cond.code yX6_knock cX6_knock 12 none ∈ kp_wl := kp_t3 (i := 2) rfl rfl
theorem q3_3 : Cond.methodLink "KnockPipes$Sounds" 105 yX6_tick ∈ kp_wl := kp_t3 (i := 3) rfl rfl
theorem q3_5 : Cond.instanceMethod yX6_tick ∈ kp_wl := kp_t3 (i := 5) rfl rfl
theorem q3_6 : Cond.code yX6_tick cX6_tick 8 none ∈ kp_wl := kp_t3 (i := 6) rfl rfl
theorem q3_7 : Cond.methodLink "KnockPipes$Sounds" 119 yX6_lengthOf ∈ kp_wl := kp_t3 (i := 7) rfl rfl
theorem q3_8 : Cond.instanceMethod yX6_lengthOf ∈ kp_wl := kp_t3 (i := 8) rfl rfl
theorem q3_9 : Cond.selects "KnockPipes$Sounds" yX6_lengthOf yX6_lengthOf ∈ kp_wl := kp_t3 (i := 9) rfl rfl
theorem q3_10 : Cond.code yX6_lengthOf cX6_lengthOf 3 (some .int) ∈ kp_wl := kp_t3 (i := 10) rfl rfl
theorem q3_11 : Cond.methodLink "KnockPipes$Sounds" 122 yJ9_abs_0f7a4 ∈ kp_wl := kp_t3 (i := 11) rfl rfl
theorem q3_12 : Cond.static yJ9_abs_0f7a4 ∈ kp_wl := kp_t3 (i := 12) rfl rfl
theorem q3_13 : Cond.code yJ9_abs_0f7a4 cJ9_abs_0f7a4 1 (some .int) ∈ kp_wl := kp_t3 (i := 13) rfl rfl
theorem q3_14 : Cond.methodLink "KnockPipes$Sounds" 125 yX6_holdOf ∈ kp_wl := kp_t3 (i := 14) rfl rfl
theorem q3_15 : Cond.instanceMethod yX6_holdOf ∈ kp_wl := kp_t3 (i := 15) rfl rfl
theorem q3_16 : Cond.selects "KnockPipes$Sounds" yX6_holdOf yX6_holdOf ∈ kp_wl := kp_t3 (i := 16) rfl rfl
theorem q3_17 : Cond.code yX6_holdOf cX6_holdOf 3 (some .int) ∈ kp_wl := kp_t3 (i := 17) rfl rfl
theorem q3_18 : Cond.methodLink "KnockPipes$Sounds" 109 yX6_mark ∈ kp_wl := kp_t3 (i := 18) rfl rfl
theorem q3_20 : Cond.instanceMethod yX6_mark ∈ kp_wl := kp_t3 (i := 20) rfl rfl
theorem q3_21 : Cond.code yX6_mark cX6_mark 9 none ∈ kp_wl := kp_t3 (i := 21) rfl rfl
theorem q3_22 : Cond.methodLink "KnockPipes$Sounds" 113 yX6_lasting ∈ kp_wl := kp_t3 (i := 22) rfl rfl
theorem q3_23 : Cond.static yX6_lasting ∈ kp_wl := kp_t3 (i := 23) rfl rfl
theorem q3_24 : Cond.code yX6_lasting cX6_lasting 6 (some .long) ∈ kp_wl := kp_t3 (i := 24) rfl rfl
theorem q3_25 : Cond.constantLong "KnockPipes$Sounds" 117 (1074791425) ∈ kp_wl := kp_t3 (i := 25) rfl rfl
theorem q3_26 : Cond.methodLink "KnockPipesLaw" 39 yX9_noise ∈ kp_wl := kp_t3 (i := 26) rfl rfl
theorem q3_27 : Cond.instanceMethod yX9_noise ∈ kp_wl := kp_t3 (i := 27) rfl rfl
theorem q3_28 : Cond.selects "KnockPipes" yX9_noise yX9_noise ∈ kp_wl := kp_t3 (i := 28) rfl rfl
theorem q3_29 : Cond.code yX9_noise cX9_noise 5 (some .int) ∈ kp_wl := kp_t3 (i := 29) rfl rfl
theorem q3_30 : Cond.methodLink "KnockPipes" 113 yX9_isKind ∈ kp_wl := kp_t3 (i := 30) rfl rfl
theorem q3_31 : Cond.static yX9_isKind ∈ kp_wl := kp_t3 (i := 31) rfl rfl
theorem q3_32 : Cond.code yX9_isKind cX9_isKind 1 (some .boolean) ∈ kp_wl := kp_t3 (i := 32) rfl rfl
theorem q3_33 : Cond.methodLink "KnockPipes" 116 yX9_isPlace ∈ kp_wl := kp_t3 (i := 33) rfl rfl
theorem q3_34 : Cond.static yX9_isPlace ∈ kp_wl := kp_t3 (i := 34) rfl rfl
theorem q3_35 : Cond.code yX9_isPlace cX9_isPlace 1 (some .boolean) ∈ kp_wl := kp_t3 (i := 35) rfl rfl
theorem q3_36 : Cond.methodLink "KnockPipes" 128 yX3_add ∈ kp_wl := kp_t3 (i := 36) rfl rfl
theorem q3_37 : Cond.instanceMethod yX3_add ∈ kp_wl := kp_t3 (i := 37) rfl rfl
theorem q3_38 : Cond.selects "KnockPipes$Noises" yX3_add yX3_add ∈ kp_wl := kp_t3 (i := 38) rfl rfl
theorem q3_39 : Cond.code yX3_add cX3_add 5 (some .int) ∈ kp_wl := kp_t3 (i := 39) rfl rfl
theorem q3_40 : Cond.methodLink "KnockPipesLaw" 44 yX9_of ∈ kp_wl := kp_t3 (i := 40) rfl rfl
theorem q3_41 : Cond.instanceMethod yX9_of ∈ kp_wl := kp_t3 (i := 41) rfl rfl
theorem q3_42 : Cond.selects "KnockPipes" yX9_of yX9_of ∈ kp_wl := kp_t3 (i := 42) rfl rfl
theorem q3_43 : Cond.code yX9_of cX9_of 3 (some .int) ∈ kp_wl := kp_t3 (i := 43) rfl rfl
theorem q3_44 : Cond.methodLink "KnockPipes" 131 yX3_has ∈ kp_wl := kp_t3 (i := 44) rfl rfl
theorem q3_45 : Cond.instanceMethod yX3_has ∈ kp_wl := kp_t3 (i := 45) rfl rfl
theorem q3_46 : Cond.selects "KnockPipes$Noises" yX3_has yX3_has ∈ kp_wl := kp_t3 (i := 46) rfl rfl
theorem q3_47 : Cond.code yX3_has cX3_has 2 (some .boolean) ∈ kp_wl := kp_t3 (i := 47) rfl rfl
theorem q3_48 : Cond.methodLink "KnockPipesLaw" 49 yX9_still ∈ kp_wl := kp_t3 (i := 48) rfl rfl
theorem q3_49 : Cond.instanceMethod yX9_still ∈ kp_wl := kp_t3 (i := 49) rfl rfl
theorem q3_50 : Cond.selects "KnockPipes" yX9_still yX9_still ∈ kp_wl := kp_t3 (i := 50) rfl rfl
theorem q3_51 : Cond.code yX9_still cX9_still 4 (some .int) ∈ kp_wl := kp_t3 (i := 51) rfl rfl
theorem q3_52 : Cond.methodLink "KnockPipesLaw" 54 yX9_knocks ∈ kp_wl := kp_t3 (i := 52) rfl rfl
theorem q3_53 : Cond.instanceMethod yX9_knocks ∈ kp_wl := kp_t3 (i := 53) rfl rfl
theorem q3_54 : Cond.selects "KnockPipes" yX9_knocks yX9_knocks ∈ kp_wl := kp_t3 (i := 54) rfl rfl
theorem q3_55 : Cond.code yX9_knocks cX9_knocks 4 (some .int) ∈ kp_wl := kp_t3 (i := 55) rfl rfl
theorem q3_56 : Cond.methodLink "KnockPipes" 149 yX6_lengthOf ∈ kp_wl := kp_t3 (i := 56) rfl rfl
theorem q3_57 : Cond.methodLink "KnockPipes" 153 yX6_holdOf ∈ kp_wl := kp_t3 (i := 57) rfl rfl
theorem q3_58 : Cond.methodLink "KnockPipes" 156 yX3_isLoose ∈ kp_wl := kp_t3 (i := 58) rfl rfl
theorem q3_59 : Cond.instanceMethod yX3_isLoose ∈ kp_wl := kp_t3 (i := 59) rfl rfl
theorem q3_60 : Cond.selects "KnockPipes$Noises" yX3_isLoose yX3_isLoose ∈ kp_wl := kp_t3 (i := 60) rfl rfl
theorem q3_61 : Cond.code yX3_isLoose cX3_isLoose 2 (some .boolean) ∈ kp_wl := kp_t3 (i := 61) rfl rfl
theorem q3_62 : Cond.methodLink "KnockPipes" 159 yX6_knocksOf ∈ kp_wl := kp_t3 (i := 62) rfl rfl
theorem q3_63 : Cond.instanceMethod yX6_knocksOf ∈ kp_wl := kp_t3 (i := 63) rfl rfl
theorem q3_64 : Cond.selects "KnockPipes$Sounds" yX6_knocksOf yX6_knocksOf ∈ kp_wl := kp_t3 (i := 64) rfl rfl
theorem q3_65 : Cond.code yX6_knocksOf cX6_knocksOf 3 (some .int) ∈ kp_wl := kp_t3 (i := 65) rfl rfl
theorem q3_66 : Cond.methodLink "KnockPipesLaw" 59 yX9_loud ∈ kp_wl := kp_t3 (i := 66) rfl rfl
theorem q3_67 : Cond.instanceMethod yX9_loud ∈ kp_wl := kp_t3 (i := 67) rfl rfl
theorem q3_68 : Cond.selects "KnockPipes" yX9_loud yX9_loud ∈ kp_wl := kp_t3 (i := 68) rfl rfl
theorem q3_69 : Cond.code yX9_loud cX9_loud 4 (some .int) ∈ kp_wl := kp_t3 (i := 69) rfl rfl
theorem q3_70 : Cond.methodLink "KnockPipes" 162 yX9_loudOf ∈ kp_wl := kp_t3 (i := 70) rfl rfl
theorem q3_72 : Cond.instanceMethod yX9_loudOf ∈ kp_wl := kp_t3 (i := 72) rfl rfl
theorem q3_73 : Cond.code yX9_loudOf cX9_loudOf 7 (some .int) ∈ kp_wl := kp_t3 (i := 73) rfl rfl
theorem q3_74 : Cond.methodLink "KnockPipes" 270 yJ9_abs_0f7a4 ∈ kp_wl := kp_t3 (i := 74) rfl rfl
theorem q3_75 : Cond.methodLink "KnockPipes" 221 yJ9_max_7cf53 ∈ kp_wl := kp_t3 (i := 75) rfl rfl
theorem q3_76 : Cond.methodLink "KnockPipes" 217 yX9_isUnder ∈ kp_wl := kp_t3 (i := 76) rfl rfl
theorem q3_77 : Cond.static yX9_isUnder ∈ kp_wl := kp_t3 (i := 77) rfl rfl
theorem q3_78 : Cond.code yX9_isUnder cX9_isUnder 2 (some .boolean) ∈ kp_wl := kp_t3 (i := 78) rfl rfl
theorem q3_79 : Cond.methodLink "KnockPipes" 263 yX9_above ∈ kp_wl := kp_t3 (i := 79) rfl rfl
theorem q3_80 : Cond.static yX9_above ∈ kp_wl := kp_t3 (i := 80) rfl rfl
theorem q3_81 : Cond.code yX9_above cX9_above 1 (some .int) ∈ kp_wl := kp_t3 (i := 81) rfl rfl
theorem q3_82 : Cond.methodLink "KnockPipesLaw" 63 yX9_heard ∈ kp_wl := kp_t3 (i := 82) rfl rfl
theorem q3_83 : Cond.instanceMethod yX9_heard ∈ kp_wl := kp_t3 (i := 83) rfl rfl
theorem q3_84 : Cond.selects "KnockPipes" yX9_heard yX9_heard ∈ kp_wl := kp_t3 (i := 84) rfl rfl
theorem q3_85 : Cond.code yX9_heard cX9_heard 3 (some .int) ∈ kp_wl := kp_t3 (i := 85) rfl rfl
theorem q3_86 : Cond.methodLink "KnockPipes" 166 yX9_heardInDay ∈ kp_wl := kp_t3 (i := 86) rfl rfl
theorem q3_88 : Cond.instanceMethod yX9_heardInDay ∈ kp_wl := kp_t3 (i := 88) rfl rfl
theorem q3_89 : Cond.code yX9_heardInDay cX9_heardInDay 4 (some .int) ∈ kp_wl := kp_t3 (i := 89) rfl rfl
theorem q3_90 : Cond.methodLink "KnockPipes" 170 yX9_heardAt ∈ kp_wl := kp_t3 (i := 90) rfl rfl
theorem q3_92 : Cond.instanceMethod yX9_heardAt ∈ kp_wl := kp_t3 (i := 92) rfl rfl
theorem q3_93 : Cond.code yX9_heardAt cX9_heardAt 5 (some .int) ∈ kp_wl := kp_t3 (i := 93) rfl rfl
theorem q3_94 : Cond.methodLink "KnockPipes" 273 yX9_heardAlone ∈ kp_wl := kp_t3 (i := 94) rfl rfl
theorem q3_96 : Cond.instanceMethod yX9_heardAlone ∈ kp_wl := kp_t3 (i := 96) rfl rfl
theorem q3_97 : Cond.code yX9_heardAlone cX9_heardAlone 4 (some .int) ∈ kp_wl := kp_t3 (i := 97) rfl rfl
theorem q3_98 : Cond.methodLink "KnockPipesLaw" 67 yX9_seems ∈ kp_wl := kp_t3 (i := 98) rfl rfl
theorem q3_99 : Cond.instanceMethod yX9_seems ∈ kp_wl := kp_t3 (i := 99) rfl rfl
theorem q3_100 : Cond.selects "KnockPipes" yX9_seems yX9_seems ∈ kp_wl := kp_t3 (i := 100) rfl rfl
theorem q3_101 : Cond.code yX9_seems cX9_seems 6 (some .int) ∈ kp_wl := kp_t3 (i := 101) rfl rfl
theorem q3_102 : Cond.methodLink "KnockPipes" 173 yX9_loudOfAll ∈ kp_wl := kp_t3 (i := 102) rfl rfl
theorem q3_104 : Cond.instanceMethod yX9_loudOfAll ∈ kp_wl := kp_t3 (i := 104) rfl rfl
theorem q3_105 : Cond.code yX9_loudOfAll cX9_loudOfAll 6 (some .int) ∈ kp_wl := kp_t3 (i := 105) rfl rfl
theorem q3_106 : Cond.methodLink "KnockPipesLaw" 71 yX9_note ∈ kp_wl := kp_t3 (i := 106) rfl rfl
theorem q3_107 : Cond.instanceMethod yX9_note ∈ kp_wl := kp_t3 (i := 107) rfl rfl
theorem q3_108 : Cond.selects "KnockPipes" yX9_note yX9_note ∈ kp_wl := kp_t3 (i := 108) rfl rfl
theorem q3_109 : Cond.code yX9_note cX9_note 4 (some .int) ∈ kp_wl := kp_t3 (i := 109) rfl rfl
theorem q3_110 : Cond.methodLink "KnockPipes" 183 yX4_add ∈ kp_wl := kp_t3 (i := 110) rfl rfl
theorem q3_111 : Cond.instanceMethod yX4_add ∈ kp_wl := kp_t3 (i := 111) rfl rfl
theorem q3_112 : Cond.selects "KnockPipes$Notebook" yX4_add yX4_add ∈ kp_wl := kp_t3 (i := 112) rfl rfl
theorem q3_113 : Cond.code yX4_add cX4_add 4 (some .int) ∈ kp_wl := kp_t3 (i := 113) rfl rfl
theorem q3_114 : Cond.methodLink "KnockPipesLaw" 75 yX9_clear ∈ kp_wl := kp_t3 (i := 114) rfl rfl
theorem q3_115 : Cond.instanceMethod yX9_clear ∈ kp_wl := kp_t3 (i := 115) rfl rfl
theorem q3_116 : Cond.selects "KnockPipes" yX9_clear yX9_clear ∈ kp_wl := kp_t3 (i := 116) rfl rfl
theorem q3_117 : Cond.code yX9_clear cX9_clear 2 (some .int) ∈ kp_wl := kp_t3 (i := 117) rfl rfl
theorem q3_118 : Cond.methodLink "KnockPipesLaw" 79 yX9_fits ∈ kp_wl := kp_t3 (i := 118) rfl rfl
theorem q3_119 : Cond.instanceMethod yX9_fits ∈ kp_wl := kp_t3 (i := 119) rfl rfl
theorem q3_120 : Cond.selects "KnockPipes" yX9_fits yX9_fits ∈ kp_wl := kp_t3 (i := 120) rfl rfl
theorem q3_121 : Cond.code yX9_fits cX9_fits 2 (some .int) ∈ kp_wl := kp_t3 (i := 121) rfl rfl
theorem q3_122 : Cond.methodLink "KnockPipes" 185 yX9_fittingRows ∈ kp_wl := kp_t3 (i := 122) rfl rfl
theorem q3_124 : Cond.instanceMethod yX9_fittingRows ∈ kp_wl := kp_t3 (i := 124) rfl rfl
theorem q3_125 : Cond.code yX9_fittingRows cX9_fittingRows 4 (some .int) ∈ kp_wl := kp_t3 (i := 125) rfl rfl
theorem q3_126 : Cond.methodLink "KnockPipesLaw" 83 yX9_odds ∈ kp_wl := kp_t3 (i := 126) rfl rfl
theorem q3_127 : Cond.instanceMethod yX9_odds ∈ kp_wl := kp_t3 (i := 127) rfl rfl
theorem q3_128 : Cond.selects "KnockPipes" yX9_odds yX9_odds ∈ kp_wl := kp_t3 (i := 128) rfl rfl
theorem q3_129 : Cond.code yX9_odds cX9_odds 6 (some .int) ∈ kp_wl := kp_t3 (i := 129) rfl rfl
theorem q3_130 : Cond.methodLink "KnockPipes" 188 yJ6_bitCount_0f7a4 ∈ kp_wl := kp_t3 (i := 130) rfl rfl
theorem q3_131 : Cond.static yJ6_bitCount_0f7a4 ∈ kp_wl := kp_t3 (i := 131) rfl rfl
theorem q3_132 : Cond.code yJ6_bitCount_0f7a4 cJ6_bitCount_0f7a4 1 (some .int) ∈ kp_wl := kp_t3 (i := 132) rfl rfl
theorem q3_133 : Cond.constant "java/lang/Integer" 265 (1431655765) ∈ kp_wl := kp_t3 (i := 133) rfl rfl
theorem q3_134 : Cond.constant "java/lang/Integer" 266 (858993459) ∈ kp_wl := kp_t3 (i := 134) rfl rfl
theorem q3_135 : Cond.constant "java/lang/Integer" 267 (252645135) ∈ kp_wl := kp_t3 (i := 135) rfl rfl
theorem q3_136 : Cond.methodLink "KnockPipes" 192 yX9_greatestShared ∈ kp_wl := kp_t3 (i := 136) rfl rfl
theorem q3_137 : Cond.static yX9_greatestShared ∈ kp_wl := kp_t3 (i := 137) rfl rfl
theorem q3_138 : Cond.code yX9_greatestShared cX9_greatestShared 6 (some .int) ∈ kp_wl := kp_t3 (i := 138) rfl rfl
theorem q3_139 : Cond.methodLink "KnockPipesLaw" 87 yX9_which ∈ kp_wl := kp_t3 (i := 139) rfl rfl
theorem q3_140 : Cond.instanceMethod yX9_which ∈ kp_wl := kp_t3 (i := 140) rfl rfl
theorem q3_141 : Cond.selects "KnockPipes" yX9_which yX9_which ∈ kp_wl := kp_t3 (i := 141) rfl rfl
theorem q3_142 : Cond.code yX9_which cX9_which 2 (some .int) ∈ kp_wl := kp_t3 (i := 142) rfl rfl
theorem q3_143 : Cond.methodLink "KnockPipes" 195 yX9_mostFitting ∈ kp_wl := kp_t3 (i := 143) rfl rfl
theorem q3_145 : Cond.instanceMethod yX9_mostFitting ∈ kp_wl := kp_t3 (i := 145) rfl rfl
theorem q3_146 : Cond.code yX9_mostFitting cX9_mostFitting 5 (some .int) ∈ kp_wl := kp_t3 (i := 146) rfl rfl
theorem q3_147 : Cond.methodLink "KnockPipes" 199 yX9_allFitting ∈ kp_wl := kp_t3 (i := 147) rfl rfl
theorem q3_149 : Cond.instanceMethod yX9_allFitting ∈ kp_wl := kp_t3 (i := 149) rfl rfl
theorem q3_150 : Cond.code yX9_allFitting cX9_allFitting 4 (some .int) ∈ kp_wl := kp_t3 (i := 150) rfl rfl
theorem q3_151 : Cond.methodLink "KnockPipes" 283 yX9_fitsAllRows ∈ kp_wl := kp_t3 (i := 151) rfl rfl
theorem q3_153 : Cond.instanceMethod yX9_fitsAllRows ∈ kp_wl := kp_t3 (i := 153) rfl rfl
theorem q3_154 : Cond.code yX9_fitsAllRows cX9_fitsAllRows 3 (some .boolean) ∈ kp_wl := kp_t3 (i := 154) rfl rfl
theorem q3_155 : Cond.methodLink "KnockPipes" 214 yX9_shareOf ∈ kp_wl := kp_t3 (i := 155) rfl rfl
theorem q3_157 : Cond.instanceMethod yX9_shareOf ∈ kp_wl := kp_t3 (i := 157) rfl rfl
theorem q3_158 : Cond.code yX9_shareOf cX9_shareOf 5 (some .int) ∈ kp_wl := kp_t3 (i := 158) rfl rfl
theorem q3_159 : Cond.methodLink "KnockPipes" 202 yX9_worst ∈ kp_wl := kp_t3 (i := 159) rfl rfl
theorem q3_161 : Cond.instanceMethod yX9_worst ∈ kp_wl := kp_t3 (i := 161) rfl rfl
theorem q3_162 : Cond.code yX9_worst cX9_worst 5 (some .int) ∈ kp_wl := kp_t3 (i := 162) rfl rfl
theorem q3_163 : Cond.methodLink "KnockPipes" 247 yX9_harmOf ∈ kp_wl := kp_t3 (i := 163) rfl rfl
theorem q3_165 : Cond.instanceMethod yX9_harmOf ∈ kp_wl := kp_t3 (i := 165) rfl rfl
theorem q3_166 : Cond.code yX9_harmOf cX9_harmOf 4 (some .int) ∈ kp_wl := kp_t3 (i := 166) rfl rfl
theorem q3_167 : Cond.methodLink "KnockPipesLaw" 91 yX9_next ∈ kp_wl := kp_t3 (i := 167) rfl rfl
theorem q3_168 : Cond.instanceMethod yX9_next ∈ kp_wl := kp_t3 (i := 168) rfl rfl
theorem q3_169 : Cond.selects "KnockPipes" yX9_next yX9_next ∈ kp_wl := kp_t3 (i := 169) rfl rfl
theorem q3_170 : Cond.code yX9_next cX9_next 6 (some .int) ∈ kp_wl := kp_t3 (i := 170) rfl rfl
theorem q3_171 : Cond.methodLink "KnockPipes" 205 yX9_mostAlike ∈ kp_wl := kp_t3 (i := 171) rfl rfl
theorem q3_173 : Cond.instanceMethod yX9_mostAlike ∈ kp_wl := kp_t3 (i := 173) rfl rfl
theorem q3_174 : Cond.code yX9_mostAlike cX9_mostAlike 7 (some .int) ∈ kp_wl := kp_t3 (i := 174) rfl rfl
theorem q3_175 : Cond.methodLink "KnockPipesLaw" 95 yX9_least ∈ kp_wl := kp_t3 (i := 175) rfl rfl
theorem q3_176 : Cond.instanceMethod yX9_least ∈ kp_wl := kp_t3 (i := 176) rfl rfl
theorem q3_177 : Cond.selects "KnockPipes" yX9_least yX9_least ∈ kp_wl := kp_t3 (i := 177) rfl rfl
theorem q3_178 : Cond.code yX9_least cX9_least 7 (some .int) ∈ kp_wl := kp_t3 (i := 178) rfl rfl
theorem q3_179 : Cond.methodLink "KnockPipes" 208 yX3_loose ∈ kp_wl := kp_t3 (i := 179) rfl rfl
theorem q3_180 : Cond.instanceMethod yX3_loose ∈ kp_wl := kp_t3 (i := 180) rfl rfl
theorem q3_181 : Cond.selects "KnockPipes$Noises" yX3_loose yX3_loose ∈ kp_wl := kp_t3 (i := 181) rfl rfl
theorem q3_182 : Cond.code yX3_loose cX3_loose 1 (some .int) ∈ kp_wl := kp_t3 (i := 182) rfl rfl
theorem q3_183 : Cond.methodLink "KnockPipes" 211 yX9_heardInDayOf ∈ kp_wl := kp_t3 (i := 183) rfl rfl
theorem q3_185 : Cond.instanceMethod yX9_heardInDayOf ∈ kp_wl := kp_t3 (i := 185) rfl rfl
theorem q3_186 : Cond.code yX9_heardInDayOf cX9_heardInDayOf 5 (some .int) ∈ kp_wl := kp_t3 (i := 186) rfl rfl
theorem q3_187 : Cond.methodLink "KnockPipesLaw" 99 yX9_eased ∈ kp_wl := kp_t3 (i := 187) rfl rfl
theorem q3_188 : Cond.instanceMethod yX9_eased ∈ kp_wl := kp_t3 (i := 188) rfl rfl
theorem q3_189 : Cond.selects "KnockPipes" yX9_eased yX9_eased ∈ kp_wl := kp_t3 (i := 189) rfl rfl
theorem q3_190 : Cond.code yX9_eased cX9_eased 6 (some .int) ∈ kp_wl := kp_t3 (i := 190) rfl rfl
theorem q3_191 : Cond.methodLink "KnockPipesLaw" 103 yX9_parted ∈ kp_wl := kp_t3 (i := 191) rfl rfl
theorem q3_192 : Cond.instanceMethod yX9_parted ∈ kp_wl := kp_t3 (i := 192) rfl rfl
theorem q3_193 : Cond.selects "KnockPipes" yX9_parted yX9_parted ∈ kp_wl := kp_t3 (i := 193) rfl rfl
theorem q3_194 : Cond.code yX9_parted cX9_parted 3 (some .long) ∈ kp_wl := kp_t3 (i := 194) rfl rfl
theorem q3_195 : Cond.constantLong "KnockPipes" 226 (-9223372036854775808) ∈ kp_wl := kp_t3 (i := 195) rfl rfl
theorem q3_196 : Cond.methodLink "KnockPipes" 228 yX6_knockingOf ∈ kp_wl := kp_t3 (i := 196) rfl rfl
theorem q3_197 : Cond.instanceMethod yX6_knockingOf ∈ kp_wl := kp_t3 (i := 197) rfl rfl
theorem q3_198 : Cond.selects "KnockPipes$Sounds" yX6_knockingOf yX6_knockingOf ∈ kp_wl := kp_t3 (i := 198) rfl rfl
theorem q3_199 : Cond.code yX6_knockingOf cX6_knockingOf 5 (some .long) ∈ kp_wl := kp_t3 (i := 199) rfl rfl
theorem q3_200 : Cond.methodLink "KnockPipes$Sounds" 37 yX6_knocksOf ∈ kp_wl := kp_t3 (i := 200) rfl rfl
theorem q3_201 : Cond.methodLink "KnockPipesLaw" 108 yX9_quiet ∈ kp_wl := kp_t3 (i := 201) rfl rfl
theorem q3_202 : Cond.instanceMethod yX9_quiet ∈ kp_wl := kp_t3 (i := 202) rfl rfl
theorem q3_203 : Cond.selects "KnockPipes" yX9_quiet yX9_quiet ∈ kp_wl := kp_t3 (i := 203) rfl rfl
theorem q3_204 : Cond.code yX9_quiet cX9_quiet 4 (some .int) ∈ kp_wl := kp_t3 (i := 204) rfl rfl
theorem q3_205 : Cond.methodLink "KnockPipesLaw" 112 yX9_moved ∈ kp_wl := kp_t3 (i := 205) rfl rfl
theorem q3_206 : Cond.instanceMethod yX9_moved ∈ kp_wl := kp_t3 (i := 206) rfl rfl
theorem q3_207 : Cond.selects "KnockPipes" yX9_moved yX9_moved ∈ kp_wl := kp_t3 (i := 207) rfl rfl
theorem q3_208 : Cond.code yX9_moved cX9_moved 8 (some .int) ∈ kp_wl := kp_t3 (i := 208) rfl rfl
theorem q3_209 : Cond.methodLink "KnockPipesLaw" 116 yX9_older ∈ kp_wl := kp_t3 (i := 209) rfl rfl
theorem q3_210 : Cond.instanceMethod yX9_older ∈ kp_wl := kp_t3 (i := 210) rfl rfl
theorem q3_211 : Cond.selects "KnockPipes" yX9_older yX9_older ∈ kp_wl := kp_t3 (i := 211) rfl rfl
theorem q3_212 : Cond.code yX9_older cX9_older 3 (some .int) ∈ kp_wl := kp_t3 (i := 212) rfl rfl
theorem q3_213 : Cond.methodLink "KnockPipes" 244 yX9_rowsHeard ∈ kp_wl := kp_t3 (i := 213) rfl rfl
theorem q3_215 : Cond.instanceMethod yX9_rowsHeard ∈ kp_wl := kp_t3 (i := 215) rfl rfl
theorem q3_216 : Cond.code yX9_rowsHeard cX9_rowsHeard 3 (some .int) ∈ kp_wl := kp_t3 (i := 216) rfl rfl
theorem q3_217 : Cond.methodLink "KnockPipesLaw" 120 yX9_harm ∈ kp_wl := kp_t3 (i := 217) rfl rfl
theorem q3_218 : Cond.instanceMethod yX9_harm ∈ kp_wl := kp_t3 (i := 218) rfl rfl
theorem q3_219 : Cond.selects "KnockPipes" yX9_harm yX9_harm ∈ kp_wl := kp_t3 (i := 219) rfl rfl
theorem q3_220 : Cond.code yX9_harm cX9_harm 2 (some .int) ∈ kp_wl := kp_t3 (i := 220) rfl rfl
theorem q3_221 : Cond.methodLink "KnockPipesLaw" 124 yX9_act ∈ kp_wl := kp_t3 (i := 221) rfl rfl
theorem q3_222 : Cond.instanceMethod yX9_act ∈ kp_wl := kp_t3 (i := 222) rfl rfl
theorem q3_223 : Cond.selects "KnockPipes" yX9_act yX9_act ∈ kp_wl := kp_t3 (i := 223) rfl rfl
theorem q3_224 : Cond.code yX9_act cX9_act 4 (some .int) ∈ kp_wl := kp_t3 (i := 224) rfl rfl
theorem q3_225 : Cond.methodLink "KnockPipes" 253 yX0_start ∈ kp_wl := kp_t3 (i := 225) rfl rfl
theorem q3_226 : Cond.instanceMethod yX0_start ∈ kp_wl := kp_t3 (i := 226) rfl rfl
theorem q3_227 : Cond.selects "KnockPipes$Acts" yX0_start yX0_start ∈ kp_wl := kp_t3 (i := 227) rfl rfl
theorem q3_228 : Cond.code yX0_start cX0_start 5 (some .int) ∈ kp_wl := kp_t3 (i := 228) rfl rfl
theorem q3_229 : Cond.methodLink "KnockPipes$Acts" 34 yX0_send ∈ kp_wl := kp_t3 (i := 229) rfl rfl
theorem q3_231 : Cond.instanceMethod yX0_send ∈ kp_wl := kp_t3 (i := 231) rfl rfl
theorem q3_232 : Cond.code yX0_send cX0_send 8 (some .int) ∈ kp_wl := kp_t3 (i := 232) rfl rfl
theorem q3_234 : Cond.methodLink "KnockPipes$Acts" 42 yX0_bodyOf ∈ kp_wl := kp_t3 (i := 234) rfl rfl
theorem q3_235 : Cond.static yX0_bodyOf ∈ kp_wl := kp_t3 (i := 235) rfl rfl
theorem q3_236 : Cond.code yX0_bodyOf cX0_bodyOf 2 (some .int) ∈ kp_wl := kp_t3 (i := 236) rfl rfl
theorem q3_238 : Cond.methodLink "KnockPipes$Acts" 50 yX0_run ∈ kp_wl := kp_t3 (i := 238) rfl rfl
theorem q4_0 : Cond.instanceMethod yX0_run ∈ kp_wl := kp_t4 (i := 0) rfl rfl
theorem q4_1 : Cond.code yX0_run cX0_run 5 (some .int) ∈ kp_wl := kp_t4 (i := 1) rfl rfl
theorem q4_2 : Cond.methodLink "KnockPipesLaw" 128 yX9_trace ∈ kp_wl := kp_t4 (i := 2) rfl rfl
theorem q4_3 : Cond.instanceMethod yX9_trace ∈ kp_wl := kp_t4 (i := 3) rfl rfl
theorem q4_4 : Cond.selects "KnockPipes" yX9_trace yX9_trace ∈ kp_wl := kp_t4 (i := 4) rfl rfl
theorem q4_5 : Cond.code yX9_trace cX9_trace 2 (some .int) ∈ kp_wl := kp_t4 (i := 5) rfl rfl
theorem q4_6 : Cond.methodLink "KnockPipesLaw" 132 yX9_as ∈ kp_wl := kp_t4 (i := 6) rfl rfl
theorem q4_7 : Cond.instanceMethod yX9_as ∈ kp_wl := kp_t4 (i := 7) rfl rfl
theorem q4_8 : Cond.selects "KnockPipes" yX9_as yX9_as ∈ kp_wl := kp_t4 (i := 8) rfl rfl
theorem q4_9 : Cond.code yX9_as cX9_as 3 (some .int) ∈ kp_wl := kp_t4 (i := 9) rfl rfl
theorem q4_10 : Cond.methodLink "KnockPipesLaw" 136 yX9_image ∈ kp_wl := kp_t4 (i := 10) rfl rfl
theorem q4_11 : Cond.instanceMethod yX9_image ∈ kp_wl := kp_t4 (i := 11) rfl rfl
theorem q4_12 : Cond.selects "KnockPipes" yX9_image yX9_image ∈ kp_wl := kp_t4 (i := 12) rfl rfl
theorem q4_13 : Cond.code yX9_image cX9_image 1 (some .int) ∈ kp_wl := kp_t4 (i := 13) rfl rfl
theorem q4_14 : Cond.methodLink "KnockPipes" 260 yX1_copy ∈ kp_wl := kp_t4 (i := 14) rfl rfl
theorem q4_15 : Cond.instanceMethod yX1_copy ∈ kp_wl := kp_t4 (i := 15) rfl rfl
theorem q4_16 : Cond.selects "KnockPipes$Home" yX1_copy yX1_copy ∈ kp_wl := kp_t4 (i := 16) rfl rfl
theorem q4_17 : Cond.code yX1_copy cX1_copy 2 none ∈ kp_wl := kp_t4 (i := 17) rfl rfl
theorem q4_18 : Cond.methodLink "KnockPipes$Home" 47 ⟨"java/lang/System", "arraycopy", "(Ljava/lang/Object;ILjava/lang/Object;II)V"⟩ ∈ kp_wl := kp_t4 (i := 18) rfl rfl
theorem q4_19 : Cond.methodLink "KnockPipes$Home" 53 yX7_copy ∈ kp_wl := kp_t4 (i := 19) rfl rfl
theorem q4_20 : Cond.methodLink "KnockPipes$Home" 57 yX2_copy ∈ kp_wl := kp_t4 (i := 20) rfl rfl
theorem q4_21 : Cond.methodLink "KnockPipes$Home" 60 yX3_copy ∈ kp_wl := kp_t4 (i := 21) rfl rfl
theorem q4_22 : Cond.instanceMethod yX3_copy ∈ kp_wl := kp_t4 (i := 22) rfl rfl
theorem q4_23 : Cond.selects "KnockPipes$Noises" yX3_copy yX3_copy ∈ kp_wl := kp_t4 (i := 23) rfl rfl
theorem q4_24 : Cond.code yX3_copy cX3_copy 2 none ∈ kp_wl := kp_t4 (i := 24) rfl rfl
theorem q4_25 : Cond.methodLink "KnockPipes$Noises" 31 ⟨"java/lang/System", "arraycopy", "(Ljava/lang/Object;ILjava/lang/Object;II)V"⟩ ∈ kp_wl := kp_t4 (i := 25) rfl rfl
theorem q4_26 : Cond.methodLink "KnockPipes$Home" 63 yX4_copy ∈ kp_wl := kp_t4 (i := 26) rfl rfl
theorem q4_27 : Cond.instanceMethod yX4_copy ∈ kp_wl := kp_t4 (i := 27) rfl rfl
theorem q4_28 : Cond.selects "KnockPipes$Notebook" yX4_copy yX4_copy ∈ kp_wl := kp_t4 (i := 28) rfl rfl
theorem q4_29 : Cond.code yX4_copy cX4_copy 2 none ∈ kp_wl := kp_t4 (i := 29) rfl rfl
theorem q4_30 : Cond.methodLink "KnockPipes$Notebook" 25 ⟨"java/lang/System", "arraycopy", "(Ljava/lang/Object;ILjava/lang/Object;II)V"⟩ ∈ kp_wl := kp_t4 (i := 30) rfl rfl
theorem q4_31 : Cond.methodLink "KnockPipesLaw" 140 yX9_undo ∈ kp_wl := kp_t4 (i := 31) rfl rfl
theorem q4_32 : Cond.instanceMethod yX9_undo ∈ kp_wl := kp_t4 (i := 32) rfl rfl
theorem q4_33 : Cond.selects "KnockPipes" yX9_undo yX9_undo ∈ kp_wl := kp_t4 (i := 33) rfl rfl
theorem q4_34 : Cond.code yX9_undo cX9_undo 1 (some .int) ∈ kp_wl := kp_t4 (i := 34) rfl rfl
theorem q4_35 : Cond.methodLink "KnockPipesLaw" 144 yX9_count ∈ kp_wl := kp_t4 (i := 35) rfl rfl
theorem q4_36 : Cond.instanceMethod yX9_count ∈ kp_wl := kp_t4 (i := 36) rfl rfl
theorem q4_37 : Cond.selects "KnockPipes" yX9_count yX9_count ∈ kp_wl := kp_t4 (i := 37) rfl rfl
theorem q4_38 : Cond.code yX9_count cX9_count 2 (some .int) ∈ kp_wl := kp_t4 (i := 38) rfl rfl
theorem q4_39 : Cond.classLink "KnockPipesLaw" 10 "KnockPipesModel" ∈ kp_wl := kp_t4 (i := 39) rfl rfl
theorem q4_40 : Cond.instantiable "KnockPipesModel" 26 ∈ kp_wl := kp_t4 (i := 40) rfl rfl
theorem q4_41 : Cond.methodLink "KnockPipesLaw" 12 yX10_init ∈ kp_wl := kp_t4 (i := 41) rfl rfl
theorem q4_42 : Cond.instanceMethod yX10_init ∈ kp_wl := kp_t4 (i := 42) rfl rfl
theorem q4_43 : Cond.code yX10_init cX10_init 1 none ∈ kp_wl := kp_t4 (i := 43) rfl rfl
theorem q4_44 : Cond.methodLink "KnockPipesModel" 3 objectInit ∈ kp_wl := kp_t4 (i := 44) rfl rfl
theorem q4_45 : Cond.fieldLink "KnockPipesModel" 9 "KnockPipesModel" "s" "[I" ∈ kp_wl := kp_t4 (i := 45) rfl rfl
theorem q4_46 : Cond.fieldLink "KnockPipesModel" 15 "KnockPipesModel" "image" "[I" ∈ kp_wl := kp_t4 (i := 46) rfl rfl
theorem q4_47 : Cond.fieldLink "KnockPipesModel" 289 "KnockPipesModel" "hasImage" "Z" ∈ kp_wl := kp_t4 (i := 47) rfl rfl
theorem q4_48 : Cond.fieldLink "KnockPipesModel" 79 "KnockPipesModel" "act" "I" ∈ kp_wl := kp_t4 (i := 48) rfl rfl
theorem q4_49 : Cond.fieldLink "KnockPipesModel" 52 "KnockPipesModel" "spot" "I" ∈ kp_wl := kp_t4 (i := 49) rfl rfl
theorem q4_50 : Cond.fieldLink "KnockPipesModel" 55 "KnockPipesModel" "end" "I" ∈ kp_wl := kp_t4 (i := 50) rfl rfl
theorem q4_51 : Cond.fieldLink "KnockPipesModel" 58 "KnockPipesModel" "isWrong" "Z" ∈ kp_wl := kp_t4 (i := 51) rfl rfl
theorem q4_52 : Cond.fieldLink "KnockPipesModel" 82 "KnockPipesModel" "open" "I" ∈ kp_wl := kp_t4 (i := 52) rfl rfl
theorem q4_53 : Cond.fieldLink "KnockPipesModel" 18 "KnockPipesModel" "by" "[I" ∈ kp_wl := kp_t4 (i := 53) rfl rfl
theorem q4_54 : Cond.fieldLink "KnockPipesModel" 21 "KnockPipesModel" "truths" "[Z" ∈ kp_wl := kp_t4 (i := 54) rfl rfl
theorem q4_55 : Cond.fieldLink "KnockPipesModel" 143 "KnockPipesModel" "grows" "I" ∈ kp_wl := kp_t4 (i := 55) rfl rfl
theorem q4_56 : Cond.fieldLink "KnockPipesModel" 146 "KnockPipesModel" "holds" "I" ∈ kp_wl := kp_t4 (i := 56) rfl rfl
theorem q4_57 : Cond.fieldLink "KnockPipesModel" 149 "KnockPipesModel" "anyHolds" "Z" ∈ kp_wl := kp_t4 (i := 57) rfl rfl
theorem q4_58 : Cond.fieldLink "KnockPipesModel" 25 "KnockPipesModel" "warmths" "[I" ∈ kp_wl := kp_t4 (i := 58) rfl rfl
theorem q4_59 : Cond.fieldLink "KnockPipesModel" 28 "KnockPipesModel" "beats" "[I" ∈ kp_wl := kp_t4 (i := 59) rfl rfl
theorem q4_60 : Cond.fieldLink "KnockPipesModel" 155 "KnockPipesModel" "isQuietDay" "Z" ∈ kp_wl := kp_t4 (i := 60) rfl rfl
theorem q4_61 : Cond.fieldLink "KnockPipesModel" 152 "KnockPipesModel" "late" "I" ∈ kp_wl := kp_t4 (i := 61) rfl rfl
theorem q4_62 : Cond.fieldLink "KnockPipesModel" 214 "KnockPipesModel" "easing" "I" ∈ kp_wl := kp_t4 (i := 62) rfl rfl
theorem q4_63 : Cond.fieldLink "KnockPipesModel" 31 "KnockPipesModel" "heardThere" "[I" ∈ kp_wl := kp_t4 (i := 63) rfl rfl
theorem q4_64 : Cond.fieldLink "KnockPipesModel" 34 "KnockPipesModel" "heardIn" "[I" ∈ kp_wl := kp_t4 (i := 64) rfl rfl
theorem q4_65 : Cond.fieldLink "KnockPipesModel" 37 "KnockPipesModel" "bodies" "[I" ∈ kp_wl := kp_t4 (i := 65) rfl rfl
theorem q4_66 : Cond.fieldLink "KnockPipesModel" 253 "KnockPipesModel" "ran" "I" ∈ kp_wl := kp_t4 (i := 66) rfl rfl
theorem q4_67 : Cond.fieldLink "KnockPipesModel" 262 "KnockPipesModel" "kind" "I" ∈ kp_wl := kp_t4 (i := 67) rfl rfl
theorem q4_68 : Cond.fieldLink "KnockPipesModel" 259 "KnockPipesModel" "number" "I" ∈ kp_wl := kp_t4 (i := 68) rfl rfl
theorem q4_69 : Cond.fieldLink "KnockPipesModel" 274 "KnockPipesModel" "tellsV" "I" ∈ kp_wl := kp_t4 (i := 69) rfl rfl
theorem q4_70 : Cond.lays "KnockPipesModel" "KnockPipesModel" "thrown" "I" ∈ kp_wl := kp_t4 (i := 70) rfl rfl
theorem q4_72 : Cond.laysFinal "KnockPipesModel" "KnockPipesModel" "s" "[I" ∈ kp_wl := kp_t4 (i := 72) rfl rfl
theorem q4_74 : Cond.laysFinal "KnockPipesModel" "KnockPipesModel" "image" "[I" ∈ kp_wl := kp_t4 (i := 74) rfl rfl
theorem q4_76 : Cond.lays "KnockPipesModel" "KnockPipesModel" "hasImage" "Z" ∈ kp_wl := kp_t4 (i := 76) rfl rfl
theorem q4_78 : Cond.lays "KnockPipesModel" "KnockPipesModel" "act" "I" ∈ kp_wl := kp_t4 (i := 78) rfl rfl
theorem q4_80 : Cond.lays "KnockPipesModel" "KnockPipesModel" "spot" "I" ∈ kp_wl := kp_t4 (i := 80) rfl rfl
theorem q4_82 : Cond.lays "KnockPipesModel" "KnockPipesModel" "end" "I" ∈ kp_wl := kp_t4 (i := 82) rfl rfl
theorem q4_84 : Cond.lays "KnockPipesModel" "KnockPipesModel" "isWrong" "Z" ∈ kp_wl := kp_t4 (i := 84) rfl rfl
theorem q4_86 : Cond.lays "KnockPipesModel" "KnockPipesModel" "open" "I" ∈ kp_wl := kp_t4 (i := 86) rfl rfl
theorem q4_88 : Cond.laysFinal "KnockPipesModel" "KnockPipesModel" "by" "[I" ∈ kp_wl := kp_t4 (i := 88) rfl rfl
theorem q4_90 : Cond.laysFinal "KnockPipesModel" "KnockPipesModel" "truths" "[Z" ∈ kp_wl := kp_t4 (i := 90) rfl rfl
theorem q4_92 : Cond.lays "KnockPipesModel" "KnockPipesModel" "grows" "I" ∈ kp_wl := kp_t4 (i := 92) rfl rfl
theorem q4_94 : Cond.lays "KnockPipesModel" "KnockPipesModel" "holds" "I" ∈ kp_wl := kp_t4 (i := 94) rfl rfl
theorem q4_96 : Cond.lays "KnockPipesModel" "KnockPipesModel" "anyHolds" "Z" ∈ kp_wl := kp_t4 (i := 96) rfl rfl
theorem q4_98 : Cond.laysFinal "KnockPipesModel" "KnockPipesModel" "warmths" "[I" ∈ kp_wl := kp_t4 (i := 98) rfl rfl
theorem q4_100 : Cond.laysFinal "KnockPipesModel" "KnockPipesModel" "beats" "[I" ∈ kp_wl := kp_t4 (i := 100) rfl rfl
theorem q4_102 : Cond.lays "KnockPipesModel" "KnockPipesModel" "isQuietDay" "Z" ∈ kp_wl := kp_t4 (i := 102) rfl rfl
theorem q4_104 : Cond.lays "KnockPipesModel" "KnockPipesModel" "late" "I" ∈ kp_wl := kp_t4 (i := 104) rfl rfl
theorem q4_106 : Cond.lays "KnockPipesModel" "KnockPipesModel" "easing" "I" ∈ kp_wl := kp_t4 (i := 106) rfl rfl
theorem q4_108 : Cond.laysFinal "KnockPipesModel" "KnockPipesModel" "heardThere" "[I" ∈ kp_wl := kp_t4 (i := 108) rfl rfl
theorem q4_110 : Cond.laysFinal "KnockPipesModel" "KnockPipesModel" "heardIn" "[I" ∈ kp_wl := kp_t4 (i := 110) rfl rfl
theorem q4_112 : Cond.laysFinal "KnockPipesModel" "KnockPipesModel" "bodies" "[I" ∈ kp_wl := kp_t4 (i := 112) rfl rfl
theorem q4_114 : Cond.lays "KnockPipesModel" "KnockPipesModel" "ran" "I" ∈ kp_wl := kp_t4 (i := 114) rfl rfl
theorem q4_116 : Cond.lays "KnockPipesModel" "KnockPipesModel" "kind" "I" ∈ kp_wl := kp_t4 (i := 116) rfl rfl
theorem q4_118 : Cond.lays "KnockPipesModel" "KnockPipesModel" "number" "I" ∈ kp_wl := kp_t4 (i := 118) rfl rfl
theorem q4_120 : Cond.lays "KnockPipesModel" "KnockPipesModel" "tellsV" "I" ∈ kp_wl := kp_t4 (i := 120) rfl rfl
theorem q4_123 : Cond.arrayClass .boolean ∈ kp_wl := kp_t4 (i := 123) rfl rfl
theorem q4_124 : Cond.methodLink "KnockPipesLaw" 19 yX10_day ∈ kp_wl := kp_t4 (i := 124) rfl rfl
theorem q4_125 : Cond.instanceMethod yX10_day ∈ kp_wl := kp_t4 (i := 125) rfl rfl
theorem q4_126 : Cond.selects "KnockPipesModel" yX10_day yX10_day ∈ kp_wl := kp_t4 (i := 126) rfl rfl
theorem q4_127 : Cond.code yX10_day cX10_day 7 (some .int) ∈ kp_wl := kp_t4 (i := 127) rfl rfl
theorem q4_128 : Cond.methodLink "KnockPipesModel" 44 yX10_in ∈ kp_wl := kp_t4 (i := 128) rfl rfl
theorem q4_129 : Cond.static yX10_in ∈ kp_wl := kp_t4 (i := 129) rfl rfl
theorem q4_130 : Cond.code yX10_in cX10_in 3 (some .boolean) ∈ kp_wl := kp_t4 (i := 130) rfl rfl
theorem q4_131 : Cond.constantLong "KnockPipesModel" 48 (1099511627776) ∈ kp_wl := kp_t4 (i := 131) rfl rfl
theorem q4_132 : Cond.methodLink "KnockPipesLaw" 24 yX10_feed ∈ kp_wl := kp_t4 (i := 132) rfl rfl
theorem q4_133 : Cond.instanceMethod yX10_feed ∈ kp_wl := kp_t4 (i := 133) rfl rfl
theorem q4_134 : Cond.selects "KnockPipesModel" yX10_feed yX10_feed ∈ kp_wl := kp_t4 (i := 134) rfl rfl
theorem q4_135 : Cond.code yX10_feed cX10_feed 5 (some .int) ∈ kp_wl := kp_t4 (i := 135) rfl rfl
theorem q4_136 : Cond.constantLong "KnockPipesModel" 50 (255) ∈ kp_wl := kp_t4 (i := 136) rfl rfl
theorem q4_137 : Cond.methodLink "KnockPipesLaw" 29 yX10_house ∈ kp_wl := kp_t4 (i := 137) rfl rfl
theorem q4_138 : Cond.instanceMethod yX10_house ∈ kp_wl := kp_t4 (i := 138) rfl rfl
theorem q4_139 : Cond.selects "KnockPipesModel" yX10_house yX10_house ∈ kp_wl := kp_t4 (i := 139) rfl rfl
theorem q4_140 : Cond.code yX10_house cX10_house 2 (some .int) ∈ kp_wl := kp_t4 (i := 140) rfl rfl
theorem q4_141 : Cond.methodLink "KnockPipesModel" 136 yX10_clauseHere ∈ kp_wl := kp_t4 (i := 141) rfl rfl
theorem q4_143 : Cond.instanceMethod yX10_clauseHere ∈ kp_wl := kp_t4 (i := 143) rfl rfl
theorem q4_144 : Cond.code yX10_clauseHere cX10_clauseHere 1 none ∈ kp_wl := kp_t4 (i := 144) rfl rfl
theorem q4_145 : Cond.methodLink "KnockPipesModel" 62 yX10_here ∈ kp_wl := kp_t4 (i := 145) rfl rfl
theorem q4_147 : Cond.instanceMethod yX10_here ∈ kp_wl := kp_t4 (i := 147) rfl rfl
theorem q4_148 : Cond.code yX10_here cX10_here 1 (some .int) ∈ kp_wl := kp_t4 (i := 148) rfl rfl
theorem q4_150 : Cond.methodLink "KnockPipesModel" 114 yX10_much ∈ kp_wl := kp_t4 (i := 150) rfl rfl
theorem q4_152 : Cond.instanceMethod yX10_much ∈ kp_wl := kp_t4 (i := 152) rfl rfl
theorem q4_153 : Cond.code yX10_much cX10_much 4 none ∈ kp_wl := kp_t4 (i := 153) rfl rfl
theorem q4_154 : Cond.methodLink "KnockPipesModel" 108 yX10_spells ∈ kp_wl := kp_t4 (i := 154) rfl rfl
theorem q4_156 : Cond.instanceMethod yX10_spells ∈ kp_wl := kp_t4 (i := 156) rfl rfl
theorem q4_157 : Cond.code yX10_spells cX10_spells 3 none ∈ kp_wl := kp_t4 (i := 157) rfl rfl
theorem q4_158 : Cond.methodLink "KnockPipesModel" 66 yJ0_length_8abf5 ∈ kp_wl := kp_t4 (i := 158) rfl rfl
theorem q4_159 : Cond.methodLink "KnockPipesModel" 71 yJ0_charAt_5068e ∈ kp_wl := kp_t4 (i := 159) rfl rfl
theorem q4_160 : Cond.methodLink "KnockPipesModel" 75 yX10_must ∈ kp_wl := kp_t4 (i := 160) rfl rfl
theorem q4_162 : Cond.instanceMethod yX10_must ∈ kp_wl := kp_t4 (i := 162) rfl rfl
theorem q4_163 : Cond.code yX10_must cX10_must 2 none ∈ kp_wl := kp_t4 (i := 163) rfl rfl
theorem q4_164 : Cond.methodLink "KnockPipesModel" 102 yX10_figures ∈ kp_wl := kp_t4 (i := 164) rfl rfl
theorem q4_166 : Cond.instanceMethod yX10_figures ∈ kp_wl := kp_t4 (i := 166) rfl rfl
theorem q4_167 : Cond.code yX10_figures cX10_figures 3 (some .int) ∈ kp_wl := kp_t4 (i := 167) rfl rfl
theorem q4_168 : Cond.methodLink "KnockPipesModel" 91 yX10_some ∈ kp_wl := kp_t4 (i := 168) rfl rfl
theorem q4_170 : Cond.instanceMethod yX10_some ∈ kp_wl := kp_t4 (i := 170) rfl rfl
theorem q4_171 : Cond.code yX10_some cX10_some 1 none ∈ kp_wl := kp_t4 (i := 171) rfl rfl
theorem q4_172 : Cond.methodLink "KnockPipesModel" 105 yX10_every ∈ kp_wl := kp_t4 (i := 172) rfl rfl
theorem q4_174 : Cond.instanceMethod yX10_every ∈ kp_wl := kp_t4 (i := 174) rfl rfl
theorem q4_175 : Cond.code yX10_every cX10_every 1 none ∈ kp_wl := kp_t4 (i := 175) rfl rfl
theorem q4_176 : Cond.methodLink "KnockPipesModel" 85 yX10_factor ∈ kp_wl := kp_t4 (i := 176) rfl rfl
theorem q4_178 : Cond.instanceMethod yX10_factor ∈ kp_wl := kp_t4 (i := 178) rfl rfl
theorem q4_179 : Cond.code yX10_factor cX10_factor 5 none ∈ kp_wl := kp_t4 (i := 179) rfl rfl
theorem q4_180 : Cond.methodLink "KnockPipesModel" 88 yX10_emits ∈ kp_wl := kp_t4 (i := 180) rfl rfl
theorem q4_182 : Cond.instanceMethod yX10_emits ∈ kp_wl := kp_t4 (i := 182) rfl rfl
theorem q4_183 : Cond.code yX10_emits cX10_emits 2 none ∈ kp_wl := kp_t4 (i := 183) rfl rfl
theorem q4_185 : Cond.methodLink "KnockPipesModel" 96 yX10_among ∈ kp_wl := kp_t4 (i := 185) rfl rfl
theorem q4_187 : Cond.instanceMethod yX10_among ∈ kp_wl := kp_t4 (i := 187) rfl rfl
theorem q4_188 : Cond.code yX10_among cX10_among 3 (some .int) ∈ kp_wl := kp_t4 (i := 188) rfl rfl
theorem q4_190 : Cond.methodLink "KnockPipesModel" 125 yX10_clauseOfH ∈ kp_wl := kp_t4 (i := 190) rfl rfl
theorem q4_192 : Cond.instanceMethod yX10_clauseOfH ∈ kp_wl := kp_t4 (i := 192) rfl rfl
theorem q4_193 : Cond.code yX10_clauseOfH cX10_clauseOfH 1 none ∈ kp_wl := kp_t4 (i := 193) rfl rfl
theorem q4_196 : Cond.methodLink "KnockPipesModel" 120 yX10_tellsHere ∈ kp_wl := kp_t4 (i := 196) rfl rfl
theorem q4_198 : Cond.instanceMethod yX10_tellsHere ∈ kp_wl := kp_t4 (i := 198) rfl rfl
theorem q4_199 : Cond.code yX10_tellsHere cX10_tellsHere 4 none ∈ kp_wl := kp_t4 (i := 199) rfl rfl
theorem q4_204 : Cond.methodLink "KnockPipesLaw" 34 yX10_told ∈ kp_wl := kp_t4 (i := 204) rfl rfl
theorem q4_205 : Cond.instanceMethod yX10_told ∈ kp_wl := kp_t4 (i := 205) rfl rfl
theorem q4_206 : Cond.selects "KnockPipesModel" yX10_told yX10_told ∈ kp_wl := kp_t4 (i := 206) rfl rfl
theorem q4_207 : Cond.code yX10_told cX10_told 2 (some .int) ∈ kp_wl := kp_t4 (i := 207) rfl rfl
theorem q4_208 : Cond.methodLink "KnockPipesModel" 139 yX10_tellsOf ∈ kp_wl := kp_t4 (i := 208) rfl rfl
theorem q4_210 : Cond.instanceMethod yX10_tellsOf ∈ kp_wl := kp_t4 (i := 210) rfl rfl
theorem q4_211 : Cond.code yX10_tellsOf cX10_tellsOf 3 (some .int) ∈ kp_wl := kp_t4 (i := 211) rfl rfl
theorem q4_212 : Cond.methodLink "KnockPipesLaw" 38 yX10_warmth ∈ kp_wl := kp_t4 (i := 212) rfl rfl
theorem q4_213 : Cond.instanceMethod yX10_warmth ∈ kp_wl := kp_t4 (i := 213) rfl rfl
theorem q4_214 : Cond.selects "KnockPipesModel" yX10_warmth yX10_warmth ∈ kp_wl := kp_t4 (i := 214) rfl rfl
theorem q4_215 : Cond.code yX10_warmth cX10_warmth 2 (some .int) ∈ kp_wl := kp_t4 (i := 215) rfl rfl
theorem q4_216 : Cond.methodLink "KnockPipesModel" 195 yX10_isMinute ∈ kp_wl := kp_t4 (i := 216) rfl rfl
theorem q4_217 : Cond.static yX10_isMinute ∈ kp_wl := kp_t4 (i := 217) rfl rfl
theorem q4_218 : Cond.code yX10_isMinute cX10_isMinute 1 (some .boolean) ∈ kp_wl := kp_t4 (i := 218) rfl rfl
theorem q4_219 : Cond.methodLink "KnockPipesModel" 189 yX10_warms ∈ kp_wl := kp_t4 (i := 219) rfl rfl
theorem q4_221 : Cond.instanceMethod yX10_warms ∈ kp_wl := kp_t4 (i := 221) rfl rfl
theorem q4_222 : Cond.code yX10_warms cX10_warms 3 none ∈ kp_wl := kp_t4 (i := 222) rfl rfl
theorem q4_223 : Cond.methodLink "KnockPipesModel" 158 yX10_isOn ∈ kp_wl := kp_t4 (i := 223) rfl rfl
theorem q4_225 : Cond.instanceMethod yX10_isOn ∈ kp_wl := kp_t4 (i := 225) rfl rfl
theorem q4_226 : Cond.code yX10_isOn cX10_isOn 4 (some .boolean) ∈ kp_wl := kp_t4 (i := 226) rfl rfl
theorem q4_227 : Cond.methodLink "KnockPipesModel" 162 yX10_told ∈ kp_wl := kp_t4 (i := 227) rfl rfl
theorem q4_228 : Cond.methodLink "KnockPipesLaw" 43 yX10_noise ∈ kp_wl := kp_t4 (i := 228) rfl rfl
theorem q4_229 : Cond.instanceMethod yX10_noise ∈ kp_wl := kp_t4 (i := 229) rfl rfl
theorem q4_230 : Cond.selects "KnockPipesModel" yX10_noise yX10_noise ∈ kp_wl := kp_t4 (i := 230) rfl rfl
theorem q4_231 : Cond.code yX10_noise cX10_noise 6 (some .int) ∈ kp_wl := kp_t4 (i := 231) rfl rfl
theorem q4_232 : Cond.methodLink "KnockPipesModel" 199 yX10_isPlace ∈ kp_wl := kp_t4 (i := 232) rfl rfl
theorem q4_233 : Cond.static yX10_isPlace ∈ kp_wl := kp_t4 (i := 233) rfl rfl
theorem q4_234 : Cond.code yX10_isPlace cX10_isPlace 1 (some .boolean) ∈ kp_wl := kp_t4 (i := 234) rfl rfl
theorem q4_235 : Cond.methodLink "KnockPipesLaw" 48 yX10_of ∈ kp_wl := kp_t4 (i := 235) rfl rfl
theorem q4_236 : Cond.instanceMethod yX10_of ∈ kp_wl := kp_t4 (i := 236) rfl rfl
theorem q4_237 : Cond.selects "KnockPipesModel" yX10_of yX10_of ∈ kp_wl := kp_t4 (i := 237) rfl rfl
theorem q4_238 : Cond.code yX10_of cX10_of 3 (some .int) ∈ kp_wl := kp_t4 (i := 238) rfl rfl
theorem q4_239 : Cond.methodLink "KnockPipesModel" 202 yX10_isNoise ∈ kp_wl := kp_t4 (i := 239) rfl rfl
theorem q5_1 : Cond.instanceMethod yX10_isNoise ∈ kp_wl := kp_t5 (i := 1) rfl rfl
theorem q5_2 : Cond.code yX10_isNoise cX10_isNoise 2 (some .boolean) ∈ kp_wl := kp_t5 (i := 2) rfl rfl
theorem q5_3 : Cond.methodLink "KnockPipesLaw" 53 yX10_still ∈ kp_wl := kp_t5 (i := 3) rfl rfl
theorem q5_4 : Cond.instanceMethod yX10_still ∈ kp_wl := kp_t5 (i := 4) rfl rfl
theorem q5_5 : Cond.selects "KnockPipesModel" yX10_still yX10_still ∈ kp_wl := kp_t5 (i := 5) rfl rfl
theorem q5_6 : Cond.code yX10_still cX10_still 4 (some .int) ∈ kp_wl := kp_t5 (i := 6) rfl rfl
theorem q5_7 : Cond.methodLink "KnockPipesLaw" 58 yX10_knocks ∈ kp_wl := kp_t5 (i := 7) rfl rfl
theorem q5_8 : Cond.instanceMethod yX10_knocks ∈ kp_wl := kp_t5 (i := 8) rfl rfl
theorem q5_9 : Cond.selects "KnockPipesModel" yX10_knocks yX10_knocks ∈ kp_wl := kp_t5 (i := 9) rfl rfl
theorem q5_10 : Cond.code yX10_knocks cX10_knocks 5 (some .int) ∈ kp_wl := kp_t5 (i := 10) rfl rfl
theorem q5_11 : Cond.methodLink "KnockPipesModel" 205 yX10_goes ∈ kp_wl := kp_t5 (i := 11) rfl rfl
theorem q5_13 : Cond.instanceMethod yX10_goes ∈ kp_wl := kp_t5 (i := 13) rfl rfl
theorem q5_14 : Cond.code yX10_goes cX10_goes 2 none ∈ kp_wl := kp_t5 (i := 14) rfl rfl
theorem q5_15 : Cond.methodLink "KnockPipesModel" 192 yX10_goesOf ∈ kp_wl := kp_t5 (i := 15) rfl rfl
theorem q5_17 : Cond.instanceMethod yX10_goesOf ∈ kp_wl := kp_t5 (i := 17) rfl rfl
theorem q5_18 : Cond.code yX10_goesOf cX10_goesOf 2 none ∈ kp_wl := kp_t5 (i := 18) rfl rfl
theorem q5_19 : Cond.methodLink "KnockPipesModel" 176 yX10_ticks ∈ kp_wl := kp_t5 (i := 19) rfl rfl
theorem q5_21 : Cond.instanceMethod yX10_ticks ∈ kp_wl := kp_t5 (i := 21) rfl rfl
theorem q5_22 : Cond.code yX10_ticks cX10_ticks 7 none ∈ kp_wl := kp_t5 (i := 22) rfl rfl
theorem q5_23 : Cond.methodLink "KnockPipesModel" 170 yX10_lengthOf ∈ kp_wl := kp_t5 (i := 23) rfl rfl
theorem q5_25 : Cond.instanceMethod yX10_lengthOf ∈ kp_wl := kp_t5 (i := 25) rfl rfl
theorem q5_26 : Cond.code yX10_lengthOf cX10_lengthOf 3 (some .int) ∈ kp_wl := kp_t5 (i := 26) rfl rfl
theorem q5_27 : Cond.methodLink "KnockPipesModel" 166 yX10_looksAt ∈ kp_wl := kp_t5 (i := 27) rfl rfl
theorem q5_29 : Cond.instanceMethod yX10_looksAt ∈ kp_wl := kp_t5 (i := 29) rfl rfl
theorem q5_30 : Cond.code yX10_looksAt cX10_looksAt 11 none ∈ kp_wl := kp_t5 (i := 30) rfl rfl
theorem q5_31 : Cond.methodLink "KnockPipesModel" 173 yX10_size ∈ kp_wl := kp_t5 (i := 31) rfl rfl
theorem q5_32 : Cond.static yX10_size ∈ kp_wl := kp_t5 (i := 32) rfl rfl
theorem q5_33 : Cond.code yX10_size cX10_size 1 (some .int) ∈ kp_wl := kp_t5 (i := 33) rfl rfl
theorem q5_34 : Cond.methodLink "KnockPipesModel" 179 yX10_strikesBy ∈ kp_wl := kp_t5 (i := 34) rfl rfl
theorem q5_36 : Cond.instanceMethod yX10_strikesBy ∈ kp_wl := kp_t5 (i := 36) rfl rfl
theorem q5_37 : Cond.code yX10_strikesBy cX10_strikesBy 5 none ∈ kp_wl := kp_t5 (i := 37) rfl rfl
theorem q5_38 : Cond.methodLink "KnockPipesModel" 182 yX10_hums ∈ kp_wl := kp_t5 (i := 38) rfl rfl
theorem q5_40 : Cond.instanceMethod yX10_hums ∈ kp_wl := kp_t5 (i := 40) rfl rfl
theorem q5_41 : Cond.code yX10_hums cX10_hums 6 none ∈ kp_wl := kp_t5 (i := 41) rfl rfl
theorem q5_42 : Cond.methodLink "KnockPipesModel" 186 yX10_plainly ∈ kp_wl := kp_t5 (i := 42) rfl rfl
theorem q5_44 : Cond.instanceMethod yX10_plainly ∈ kp_wl := kp_t5 (i := 44) rfl rfl
theorem q5_45 : Cond.code yX10_plainly cX10_plainly 3 none ∈ kp_wl := kp_t5 (i := 45) rfl rfl
theorem q5_46 : Cond.methodLink "KnockPipesModel" 208 yX10_isStill ∈ kp_wl := kp_t5 (i := 46) rfl rfl
theorem q5_48 : Cond.instanceMethod yX10_isStill ∈ kp_wl := kp_t5 (i := 48) rfl rfl
theorem q5_49 : Cond.code yX10_isStill cX10_isStill 2 (some .boolean) ∈ kp_wl := kp_t5 (i := 49) rfl rfl
theorem q5_50 : Cond.methodLink "KnockPipesLaw" 62 yX10_loud ∈ kp_wl := kp_t5 (i := 50) rfl rfl
theorem q5_51 : Cond.instanceMethod yX10_loud ∈ kp_wl := kp_t5 (i := 51) rfl rfl
theorem q5_52 : Cond.selects "KnockPipesModel" yX10_loud yX10_loud ∈ kp_wl := kp_t5 (i := 52) rfl rfl
theorem q5_53 : Cond.code yX10_loud cX10_loud 4 (some .int) ∈ kp_wl := kp_t5 (i := 53) rfl rfl
theorem q5_54 : Cond.methodLink "KnockPipesModel" 217 yX10_loudOf ∈ kp_wl := kp_t5 (i := 54) rfl rfl
theorem q5_56 : Cond.instanceMethod yX10_loudOf ∈ kp_wl := kp_t5 (i := 56) rfl rfl
theorem q5_57 : Cond.code yX10_loudOf cX10_loudOf 9 (some .int) ∈ kp_wl := kp_t5 (i := 57) rfl rfl
theorem q5_58 : Cond.methodLink "KnockPipesModel" 211 yX10_isStruck ∈ kp_wl := kp_t5 (i := 58) rfl rfl
theorem q5_60 : Cond.instanceMethod yX10_isStruck ∈ kp_wl := kp_t5 (i := 60) rfl rfl
theorem q5_61 : Cond.code yX10_isStruck cX10_isStruck 2 (some .boolean) ∈ kp_wl := kp_t5 (i := 61) rfl rfl
theorem q5_62 : Cond.methodLink "KnockPipesLaw" 66 yX10_heard ∈ kp_wl := kp_t5 (i := 62) rfl rfl
theorem q5_63 : Cond.instanceMethod yX10_heard ∈ kp_wl := kp_t5 (i := 63) rfl rfl
theorem q5_64 : Cond.selects "KnockPipesModel" yX10_heard yX10_heard ∈ kp_wl := kp_t5 (i := 64) rfl rfl
theorem q5_65 : Cond.code yX10_heard cX10_heard 3 (some .int) ∈ kp_wl := kp_t5 (i := 65) rfl rfl
theorem q5_66 : Cond.methodLink "KnockPipesModel" 224 yX10_moving ∈ kp_wl := kp_t5 (i := 66) rfl rfl
theorem q5_68 : Cond.instanceMethod yX10_moving ∈ kp_wl := kp_t5 (i := 68) rfl rfl
theorem q5_69 : Cond.code yX10_moving cX10_moving 3 (some .int) ∈ kp_wl := kp_t5 (i := 69) rfl rfl
theorem q5_70 : Cond.methodLink "KnockPipesModel" 227 yX10_heardAll ∈ kp_wl := kp_t5 (i := 70) rfl rfl
theorem q5_72 : Cond.instanceMethod yX10_heardAll ∈ kp_wl := kp_t5 (i := 72) rfl rfl
theorem q5_73 : Cond.code yX10_heardAll cX10_heardAll 5 (some .int) ∈ kp_wl := kp_t5 (i := 73) rfl rfl
theorem q5_74 : Cond.methodLink "KnockPipesModel" 221 yX10_heardOf ∈ kp_wl := kp_t5 (i := 74) rfl rfl
theorem q5_76 : Cond.instanceMethod yX10_heardOf ∈ kp_wl := kp_t5 (i := 76) rfl rfl
theorem q5_77 : Cond.code yX10_heardOf cX10_heardOf 7 (some .int) ∈ kp_wl := kp_t5 (i := 77) rfl rfl
theorem q5_78 : Cond.methodLink "KnockPipesLaw" 70 yX10_seems ∈ kp_wl := kp_t5 (i := 78) rfl rfl
theorem q5_79 : Cond.instanceMethod yX10_seems ∈ kp_wl := kp_t5 (i := 79) rfl rfl
theorem q5_80 : Cond.selects "KnockPipesModel" yX10_seems yX10_seems ∈ kp_wl := kp_t5 (i := 80) rfl rfl
theorem q5_81 : Cond.code yX10_seems cX10_seems 8 (some .int) ∈ kp_wl := kp_t5 (i := 81) rfl rfl
theorem q5_82 : Cond.methodLink "KnockPipesLaw" 74 yX10_note ∈ kp_wl := kp_t5 (i := 82) rfl rfl
theorem q5_83 : Cond.instanceMethod yX10_note ∈ kp_wl := kp_t5 (i := 83) rfl rfl
theorem q5_84 : Cond.selects "KnockPipesModel" yX10_note yX10_note ∈ kp_wl := kp_t5 (i := 84) rfl rfl
theorem q5_85 : Cond.code yX10_note cX10_note 4 (some .int) ∈ kp_wl := kp_t5 (i := 85) rfl rfl
theorem q5_86 : Cond.methodLink "KnockPipesLaw" 78 yX10_clear ∈ kp_wl := kp_t5 (i := 86) rfl rfl
theorem q5_87 : Cond.instanceMethod yX10_clear ∈ kp_wl := kp_t5 (i := 87) rfl rfl
theorem q5_88 : Cond.selects "KnockPipesModel" yX10_clear yX10_clear ∈ kp_wl := kp_t5 (i := 88) rfl rfl
theorem q5_89 : Cond.code yX10_clear cX10_clear 2 (some .int) ∈ kp_wl := kp_t5 (i := 89) rfl rfl
theorem q5_90 : Cond.methodLink "KnockPipesLaw" 82 yX10_fits ∈ kp_wl := kp_t5 (i := 90) rfl rfl
theorem q5_91 : Cond.instanceMethod yX10_fits ∈ kp_wl := kp_t5 (i := 91) rfl rfl
theorem q5_92 : Cond.selects "KnockPipesModel" yX10_fits yX10_fits ∈ kp_wl := kp_t5 (i := 92) rfl rfl
theorem q5_93 : Cond.code yX10_fits cX10_fits 2 (some .int) ∈ kp_wl := kp_t5 (i := 93) rfl rfl
theorem q5_94 : Cond.methodLink "KnockPipesModel" 230 yX10_fitsOf ∈ kp_wl := kp_t5 (i := 94) rfl rfl
theorem q5_96 : Cond.instanceMethod yX10_fitsOf ∈ kp_wl := kp_t5 (i := 96) rfl rfl
theorem q5_97 : Cond.code yX10_fitsOf cX10_fitsOf 4 (some .int) ∈ kp_wl := kp_t5 (i := 97) rfl rfl
theorem q5_98 : Cond.methodLink "KnockPipesLaw" 86 yX10_odds ∈ kp_wl := kp_t5 (i := 98) rfl rfl
theorem q5_99 : Cond.instanceMethod yX10_odds ∈ kp_wl := kp_t5 (i := 99) rfl rfl
theorem q5_100 : Cond.selects "KnockPipesModel" yX10_odds yX10_odds ∈ kp_wl := kp_t5 (i := 100) rfl rfl
theorem q5_101 : Cond.code yX10_odds cX10_odds 5 (some .int) ∈ kp_wl := kp_t5 (i := 101) rfl rfl
theorem q5_102 : Cond.methodLink "KnockPipesModel" 233 yX10_count1 ∈ kp_wl := kp_t5 (i := 102) rfl rfl
theorem q5_103 : Cond.static yX10_count1 ∈ kp_wl := kp_t5 (i := 103) rfl rfl
theorem q5_104 : Cond.code yX10_count1 cX10_count1 3 (some .int) ∈ kp_wl := kp_t5 (i := 104) rfl rfl
theorem q5_105 : Cond.methodLink "KnockPipesModel" 236 yX10_divisor ∈ kp_wl := kp_t5 (i := 105) rfl rfl
theorem q5_106 : Cond.static yX10_divisor ∈ kp_wl := kp_t5 (i := 106) rfl rfl
theorem q5_107 : Cond.code yX10_divisor cX10_divisor 5 (some .int) ∈ kp_wl := kp_t5 (i := 107) rfl rfl
theorem q5_108 : Cond.methodLink "KnockPipesLaw" 90 yX10_which ∈ kp_wl := kp_t5 (i := 108) rfl rfl
theorem q5_109 : Cond.instanceMethod yX10_which ∈ kp_wl := kp_t5 (i := 109) rfl rfl
theorem q5_110 : Cond.selects "KnockPipesModel" yX10_which yX10_which ∈ kp_wl := kp_t5 (i := 110) rfl rfl
theorem q5_111 : Cond.code yX10_which cX10_which 2 (some .int) ∈ kp_wl := kp_t5 (i := 111) rfl rfl
theorem q5_112 : Cond.methodLink "KnockPipesModel" 242 yX10_mostFitting ∈ kp_wl := kp_t5 (i := 112) rfl rfl
theorem q5_114 : Cond.instanceMethod yX10_mostFitting ∈ kp_wl := kp_t5 (i := 114) rfl rfl
theorem q5_115 : Cond.code yX10_mostFitting cX10_mostFitting 5 (some .int) ∈ kp_wl := kp_t5 (i := 115) rfl rfl
theorem q5_116 : Cond.methodLink "KnockPipesModel" 245 yX10_allFitting ∈ kp_wl := kp_t5 (i := 116) rfl rfl
theorem q5_118 : Cond.instanceMethod yX10_allFitting ∈ kp_wl := kp_t5 (i := 118) rfl rfl
theorem q5_119 : Cond.code yX10_allFitting cX10_allFitting 3 (some .int) ∈ kp_wl := kp_t5 (i := 119) rfl rfl
theorem q5_120 : Cond.methodLink "KnockPipesModel" 248 yX10_worst ∈ kp_wl := kp_t5 (i := 120) rfl rfl
theorem q5_122 : Cond.instanceMethod yX10_worst ∈ kp_wl := kp_t5 (i := 122) rfl rfl
theorem q5_123 : Cond.code yX10_worst cX10_worst 5 (some .int) ∈ kp_wl := kp_t5 (i := 123) rfl rfl
theorem q5_124 : Cond.methodLink "KnockPipesModel" 239 yX10_harmOf ∈ kp_wl := kp_t5 (i := 124) rfl rfl
theorem q5_126 : Cond.instanceMethod yX10_harmOf ∈ kp_wl := kp_t5 (i := 126) rfl rfl
theorem q5_127 : Cond.code yX10_harmOf cX10_harmOf 4 (some .int) ∈ kp_wl := kp_t5 (i := 127) rfl rfl
theorem q5_128 : Cond.methodLink "KnockPipesLaw" 94 yX10_next ∈ kp_wl := kp_t5 (i := 128) rfl rfl
theorem q5_129 : Cond.instanceMethod yX10_next ∈ kp_wl := kp_t5 (i := 129) rfl rfl
theorem q5_130 : Cond.selects "KnockPipesModel" yX10_next yX10_next ∈ kp_wl := kp_t5 (i := 130) rfl rfl
theorem q5_131 : Cond.code yX10_next cX10_next 9 (some .int) ∈ kp_wl := kp_t5 (i := 131) rfl rfl
theorem q5_132 : Cond.methodLink "KnockPipesLaw" 98 yX10_least ∈ kp_wl := kp_t5 (i := 132) rfl rfl
theorem q5_133 : Cond.instanceMethod yX10_least ∈ kp_wl := kp_t5 (i := 133) rfl rfl
theorem q5_134 : Cond.selects "KnockPipesModel" yX10_least yX10_least ∈ kp_wl := kp_t5 (i := 134) rfl rfl
theorem q5_135 : Cond.code yX10_least cX10_least 8 (some .int) ∈ kp_wl := kp_t5 (i := 135) rfl rfl
theorem q5_136 : Cond.methodLink "KnockPipesLaw" 102 yX10_eased ∈ kp_wl := kp_t5 (i := 136) rfl rfl
theorem q5_137 : Cond.instanceMethod yX10_eased ∈ kp_wl := kp_t5 (i := 137) rfl rfl
theorem q5_138 : Cond.selects "KnockPipesModel" yX10_eased yX10_eased ∈ kp_wl := kp_t5 (i := 138) rfl rfl
theorem q5_139 : Cond.code yX10_eased cX10_eased 5 (some .int) ∈ kp_wl := kp_t5 (i := 139) rfl rfl
theorem q5_140 : Cond.methodLink "KnockPipesLaw" 107 yX10_parted ∈ kp_wl := kp_t5 (i := 140) rfl rfl
theorem q5_141 : Cond.instanceMethod yX10_parted ∈ kp_wl := kp_t5 (i := 141) rfl rfl
theorem q5_142 : Cond.selects "KnockPipesModel" yX10_parted yX10_parted ∈ kp_wl := kp_t5 (i := 142) rfl rfl
theorem q5_143 : Cond.code yX10_parted cX10_parted 6 (some .long) ∈ kp_wl := kp_t5 (i := 143) rfl rfl
theorem q5_144 : Cond.constantLong "KnockPipesModel" 251 (-9223372036854775808) ∈ kp_wl := kp_t5 (i := 144) rfl rfl
theorem q5_145 : Cond.methodLink "KnockPipesLaw" 111 yX10_quiet ∈ kp_wl := kp_t5 (i := 145) rfl rfl
theorem q5_146 : Cond.instanceMethod yX10_quiet ∈ kp_wl := kp_t5 (i := 146) rfl rfl
theorem q5_147 : Cond.selects "KnockPipesModel" yX10_quiet yX10_quiet ∈ kp_wl := kp_t5 (i := 147) rfl rfl
theorem q5_148 : Cond.code yX10_quiet cX10_quiet 5 (some .int) ∈ kp_wl := kp_t5 (i := 148) rfl rfl
theorem q5_149 : Cond.methodLink "KnockPipesLaw" 115 yX10_moved ∈ kp_wl := kp_t5 (i := 149) rfl rfl
theorem q5_150 : Cond.instanceMethod yX10_moved ∈ kp_wl := kp_t5 (i := 150) rfl rfl
theorem q5_151 : Cond.selects "KnockPipesModel" yX10_moved yX10_moved ∈ kp_wl := kp_t5 (i := 151) rfl rfl
theorem q5_152 : Cond.code yX10_moved cX10_moved 8 (some .int) ∈ kp_wl := kp_t5 (i := 152) rfl rfl
theorem q5_153 : Cond.methodLink "KnockPipesLaw" 119 yX10_older ∈ kp_wl := kp_t5 (i := 153) rfl rfl
theorem q5_154 : Cond.instanceMethod yX10_older ∈ kp_wl := kp_t5 (i := 154) rfl rfl
theorem q5_155 : Cond.selects "KnockPipesModel" yX10_older yX10_older ∈ kp_wl := kp_t5 (i := 155) rfl rfl
theorem q5_156 : Cond.code yX10_older cX10_older 4 (some .int) ∈ kp_wl := kp_t5 (i := 156) rfl rfl
theorem q5_157 : Cond.methodLink "KnockPipesLaw" 123 yX10_harm ∈ kp_wl := kp_t5 (i := 157) rfl rfl
theorem q5_158 : Cond.instanceMethod yX10_harm ∈ kp_wl := kp_t5 (i := 158) rfl rfl
theorem q5_159 : Cond.selects "KnockPipesModel" yX10_harm yX10_harm ∈ kp_wl := kp_t5 (i := 159) rfl rfl
theorem q5_160 : Cond.code yX10_harm cX10_harm 2 (some .int) ∈ kp_wl := kp_t5 (i := 160) rfl rfl
theorem q5_161 : Cond.methodLink "KnockPipesLaw" 127 yX10_act ∈ kp_wl := kp_t5 (i := 161) rfl rfl
theorem q5_162 : Cond.instanceMethod yX10_act ∈ kp_wl := kp_t5 (i := 162) rfl rfl
theorem q5_163 : Cond.selects "KnockPipesModel" yX10_act yX10_act ∈ kp_wl := kp_t5 (i := 163) rfl rfl
theorem q5_164 : Cond.code yX10_act cX10_act 4 (some .int) ∈ kp_wl := kp_t5 (i := 164) rfl rfl
theorem q5_165 : Cond.methodLink "KnockPipesModel" 271 yX10_growsActs ∈ kp_wl := kp_t5 (i := 165) rfl rfl
theorem q5_167 : Cond.instanceMethod yX10_growsActs ∈ kp_wl := kp_t5 (i := 167) rfl rfl
theorem q5_168 : Cond.code yX10_growsActs cX10_growsActs 2 (some .int) ∈ kp_wl := kp_t5 (i := 168) rfl rfl
theorem q5_169 : Cond.methodLink "KnockPipesModel" 265 yX10_isUnder ∈ kp_wl := kp_t5 (i := 169) rfl rfl
theorem q5_170 : Cond.static yX10_isUnder ∈ kp_wl := kp_t5 (i := 170) rfl rfl
theorem q5_171 : Cond.code yX10_isUnder cX10_isUnder 2 (some .boolean) ∈ kp_wl := kp_t5 (i := 171) rfl rfl
theorem q5_172 : Cond.methodLink "KnockPipesModel" 256 yX10_runs ∈ kp_wl := kp_t5 (i := 172) rfl rfl
theorem q5_174 : Cond.instanceMethod yX10_runs ∈ kp_wl := kp_t5 (i := 174) rfl rfl
theorem q5_175 : Cond.code yX10_runs cX10_runs 2 none ∈ kp_wl := kp_t5 (i := 175) rfl rfl
theorem q5_176 : Cond.methodLink "KnockPipesModel" 268 yX10_plainGrows ∈ kp_wl := kp_t5 (i := 176) rfl rfl
theorem q5_178 : Cond.instanceMethod yX10_plainGrows ∈ kp_wl := kp_t5 (i := 178) rfl rfl
theorem q5_179 : Cond.code yX10_plainGrows cX10_plainGrows 2 (some .int) ∈ kp_wl := kp_t5 (i := 179) rfl rfl
theorem q5_180 : Cond.methodLink "KnockPipesModel" 280 yX10_strikesActs ∈ kp_wl := kp_t5 (i := 180) rfl rfl
theorem q5_182 : Cond.instanceMethod yX10_strikesActs ∈ kp_wl := kp_t5 (i := 182) rfl rfl
theorem q5_183 : Cond.code yX10_strikesActs cX10_strikesActs 2 (some .int) ∈ kp_wl := kp_t5 (i := 183) rfl rfl
theorem q5_184 : Cond.methodLink "KnockPipesModel" 277 yX10_plainStrikes ∈ kp_wl := kp_t5 (i := 184) rfl rfl
theorem q5_186 : Cond.instanceMethod yX10_plainStrikes ∈ kp_wl := kp_t5 (i := 186) rfl rfl
theorem q5_187 : Cond.code yX10_plainStrikes cX10_plainStrikes 2 (some .int) ∈ kp_wl := kp_t5 (i := 187) rfl rfl
theorem q5_188 : Cond.methodLink "KnockPipesModel" 286 yX10_tellsActs ∈ kp_wl := kp_t5 (i := 188) rfl rfl
theorem q5_190 : Cond.instanceMethod yX10_tellsActs ∈ kp_wl := kp_t5 (i := 190) rfl rfl
theorem q5_191 : Cond.code yX10_tellsActs cX10_tellsActs 3 (some .int) ∈ kp_wl := kp_t5 (i := 191) rfl rfl
theorem q5_192 : Cond.methodLink "KnockPipesModel" 283 yX10_plainTells ∈ kp_wl := kp_t5 (i := 192) rfl rfl
theorem q5_194 : Cond.instanceMethod yX10_plainTells ∈ kp_wl := kp_t5 (i := 194) rfl rfl
theorem q5_195 : Cond.code yX10_plainTells cX10_plainTells 2 (some .int) ∈ kp_wl := kp_t5 (i := 195) rfl rfl
theorem q5_196 : Cond.methodLink "KnockPipesLaw" 131 yX10_trace ∈ kp_wl := kp_t5 (i := 196) rfl rfl
theorem q5_197 : Cond.instanceMethod yX10_trace ∈ kp_wl := kp_t5 (i := 197) rfl rfl
theorem q5_198 : Cond.selects "KnockPipesModel" yX10_trace yX10_trace ∈ kp_wl := kp_t5 (i := 198) rfl rfl
theorem q5_199 : Cond.code yX10_trace cX10_trace 2 (some .int) ∈ kp_wl := kp_t5 (i := 199) rfl rfl
theorem q5_200 : Cond.methodLink "KnockPipesLaw" 135 yX10_as ∈ kp_wl := kp_t5 (i := 200) rfl rfl
theorem q5_201 : Cond.instanceMethod yX10_as ∈ kp_wl := kp_t5 (i := 201) rfl rfl
theorem q5_202 : Cond.selects "KnockPipesModel" yX10_as yX10_as ∈ kp_wl := kp_t5 (i := 202) rfl rfl
theorem q5_203 : Cond.code yX10_as cX10_as 3 (some .int) ∈ kp_wl := kp_t5 (i := 203) rfl rfl
theorem q5_204 : Cond.methodLink "KnockPipesLaw" 139 yX10_image ∈ kp_wl := kp_t5 (i := 204) rfl rfl
theorem q5_205 : Cond.instanceMethod yX10_image ∈ kp_wl := kp_t5 (i := 205) rfl rfl
theorem q5_206 : Cond.selects "KnockPipesModel" yX10_image yX10_image ∈ kp_wl := kp_t5 (i := 206) rfl rfl
theorem q5_207 : Cond.code yX10_image cX10_image 2 (some .int) ∈ kp_wl := kp_t5 (i := 207) rfl rfl
theorem q5_208 : Cond.methodLink "KnockPipesLaw" 143 yX10_undo ∈ kp_wl := kp_t5 (i := 208) rfl rfl
theorem q5_209 : Cond.instanceMethod yX10_undo ∈ kp_wl := kp_t5 (i := 209) rfl rfl
theorem q5_210 : Cond.selects "KnockPipesModel" yX10_undo yX10_undo ∈ kp_wl := kp_t5 (i := 210) rfl rfl
theorem q5_211 : Cond.code yX10_undo cX10_undo 2 (some .int) ∈ kp_wl := kp_t5 (i := 211) rfl rfl
theorem q5_212 : Cond.methodLink "KnockPipesLaw" 147 yX10_count ∈ kp_wl := kp_t5 (i := 212) rfl rfl
theorem q5_213 : Cond.instanceMethod yX10_count ∈ kp_wl := kp_t5 (i := 213) rfl rfl
theorem q5_214 : Cond.selects "KnockPipesModel" yX10_count yX10_count ∈ kp_wl := kp_t5 (i := 214) rfl rfl
theorem q5_215 : Cond.code yX10_count cX10_count 2 (some .int) ∈ kp_wl := kp_t5 (i := 215) rfl rfl
theorem q5_216 : Cond.constantLong "KnockPipesLaw" 13 (4294967295) ∈ kp_wl := kp_t5 (i := 216) rfl rfl
theorem q5_217 : Cond.fieldLink "java/lang/String" 15 "java/lang/String" "coder" "B" ∈ kp_wl := kp_t5 (i := 217) rfl rfl
theorem q5_218 : Cond.fieldLink "java/lang/String" 9 "java/lang/String" "value" "[B" ∈ kp_wl := kp_t5 (i := 218) rfl rfl
theorem q0_1_0 : Cond.selects "KnockPipes$Reader" yX5_clause yX5_clause ∈ kp_wl := kp_tp (List.mem_map.mpr ⟨(yX5_clause, 3), (List.mem_append_left _ (List.mem_of_getElem? (l := lw_privs_1) (i := 0) rfl)), rfl⟩) rfl
theorem q0_1_1 : Cond.selects "KnockPipes$Reader" yX5_word yX5_word ∈ kp_wl := kp_tp (List.mem_map.mpr ⟨(yX5_word, 3), (List.mem_append_left _ (List.mem_of_getElem? (l := lw_privs_1) (i := 1) rfl)), rfl⟩) rfl
theorem q0_1_2 : Cond.selects "KnockPipes$Reader" yX5_peek yX5_peek ∈ kp_wl := kp_tp (List.mem_map.mpr ⟨(yX5_peek, 3), (List.mem_append_left _ (List.mem_of_getElem? (l := lw_privs_1) (i := 2) rfl)), rfl⟩) rfl
theorem q0_1_3 : Cond.selects "KnockPipes$Reader" yX5_eats yX5_eats ∈ kp_wl := kp_tp (List.mem_map.mpr ⟨(yX5_eats, 3), (List.mem_append_left _ (List.mem_of_getElem? (l := lw_privs_1) (i := 3) rfl)), rfl⟩) rfl
theorem q0_1_4 : Cond.selects "KnockPipes$Reader" yX5_number yX5_number ∈ kp_wl := kp_tp (List.mem_map.mpr ⟨(yX5_number, 3), (List.mem_append_left _ (List.mem_of_getElem? (l := lw_privs_1) (i := 4) rfl)), rfl⟩) rfl
theorem q0_1_5 : Cond.selects "KnockPipes$Reader" yX5_either yX5_either ∈ kp_wl := kp_tp (List.mem_map.mpr ⟨(yX5_either, 3), (List.mem_append_left _ (List.mem_of_getElem? (l := lw_privs_1) (i := 5) rfl)), rfl⟩) rfl
theorem q0_1_6 : Cond.selects "KnockPipes$Reader" yX5_factor yX5_factor ∈ kp_wl := kp_tp (List.mem_map.mpr ⟨(yX5_factor, 3), (List.mem_append_left _ (List.mem_of_getElem? (l := lw_privs_1) (i := 6) rfl)), rfl⟩) rfl
theorem q0_1_7 : Cond.selects "KnockPipes$Reader" yX5_test yX5_test ∈ kp_wl := kp_tp (List.mem_map.mpr ⟨(yX5_test, 3), (List.mem_append_left _ (List.mem_of_getElem? (l := lw_privs_1) (i := 7) rfl)), rfl⟩) rfl
theorem q0_1_8 : Cond.selects "KnockPipes$Reader" yX5_oneOf yX5_oneOf ∈ kp_wl := kp_tp (List.mem_map.mpr ⟨(yX5_oneOf, 3), (List.mem_append_left _ (List.mem_of_getElem? (l := lw_privs_1) (i := 8) rfl)), rfl⟩) rfl
theorem q0_1_9 : Cond.selects "KnockPipes" yX9_settle yX9_settle ∈ kp_wl := kp_tp (List.mem_map.mpr ⟨(yX9_settle, 8), (List.mem_append_left _ (List.mem_of_getElem? (l := lw_privs_1) (i := 9) rfl)), rfl⟩) rfl
theorem q0_1_10 : Cond.selects "KnockPipes$Sounds" yX6_holds yX6_holds ∈ kp_wl := kp_tp (List.mem_map.mpr ⟨(yX6_holds, 6), (List.mem_append_left _ (List.mem_of_getElem? (l := lw_privs_1) (i := 10) rfl)), rfl⟩) rfl
theorem q0_1_11 : Cond.selects "KnockPipes" yX9_ring yX9_ring ∈ kp_wl := kp_tp (List.mem_map.mpr ⟨(yX9_ring, 8), (List.mem_append_left _ (List.mem_of_getElem? (l := lw_privs_1) (i := 11) rfl)), rfl⟩) rfl
theorem q0_1_12 : Cond.selects "KnockPipes$Sounds" yX6_tick yX6_tick ∈ kp_wl := kp_tp (List.mem_map.mpr ⟨(yX6_tick, 6), (List.mem_append_left _ (List.mem_of_getElem? (l := lw_privs_1) (i := 12) rfl)), rfl⟩) rfl
theorem q0_1_13 : Cond.selects "KnockPipes$Sounds" yX6_mark yX6_mark ∈ kp_wl := kp_tp (List.mem_map.mpr ⟨(yX6_mark, 6), (List.mem_append_left _ (List.mem_of_getElem? (l := lw_privs_1) (i := 13) rfl)), rfl⟩) rfl
theorem q0_1_14 : Cond.selects "KnockPipes" yX9_loudOf yX9_loudOf ∈ kp_wl := kp_tp (List.mem_map.mpr ⟨(yX9_loudOf, 8), (List.mem_append_left _ (List.mem_of_getElem? (l := lw_privs_1) (i := 14) rfl)), rfl⟩) rfl
theorem q0_1_15 : Cond.selects "KnockPipes" yX9_heardInDay yX9_heardInDay ∈ kp_wl := kp_tp (List.mem_map.mpr ⟨(yX9_heardInDay, 8), (List.mem_append_left _ (List.mem_of_getElem? (l := lw_privs_1) (i := 15) rfl)), rfl⟩) rfl
theorem q0_2_0 : Cond.selects "KnockPipes" yX9_heardAt yX9_heardAt ∈ kp_wl := kp_tp (List.mem_map.mpr ⟨(yX9_heardAt, 8), (List.mem_append_right _ (List.mem_append_left _ (List.mem_of_getElem? (l := lw_privs_2) (i := 0) rfl))), rfl⟩) rfl
theorem q0_2_1 : Cond.selects "KnockPipes" yX9_heardAlone yX9_heardAlone ∈ kp_wl := kp_tp (List.mem_map.mpr ⟨(yX9_heardAlone, 8), (List.mem_append_right _ (List.mem_append_left _ (List.mem_of_getElem? (l := lw_privs_2) (i := 1) rfl))), rfl⟩) rfl
theorem q0_2_2 : Cond.selects "KnockPipes" yX9_loudOfAll yX9_loudOfAll ∈ kp_wl := kp_tp (List.mem_map.mpr ⟨(yX9_loudOfAll, 8), (List.mem_append_right _ (List.mem_append_left _ (List.mem_of_getElem? (l := lw_privs_2) (i := 2) rfl))), rfl⟩) rfl
theorem q0_2_3 : Cond.selects "KnockPipes" yX9_fittingRows yX9_fittingRows ∈ kp_wl := kp_tp (List.mem_map.mpr ⟨(yX9_fittingRows, 8), (List.mem_append_right _ (List.mem_append_left _ (List.mem_of_getElem? (l := lw_privs_2) (i := 3) rfl))), rfl⟩) rfl
theorem q0_2_4 : Cond.selects "KnockPipes" yX9_mostFitting yX9_mostFitting ∈ kp_wl := kp_tp (List.mem_map.mpr ⟨(yX9_mostFitting, 8), (List.mem_append_right _ (List.mem_append_left _ (List.mem_of_getElem? (l := lw_privs_2) (i := 4) rfl))), rfl⟩) rfl
theorem q0_2_5 : Cond.selects "KnockPipes" yX9_allFitting yX9_allFitting ∈ kp_wl := kp_tp (List.mem_map.mpr ⟨(yX9_allFitting, 8), (List.mem_append_right _ (List.mem_append_left _ (List.mem_of_getElem? (l := lw_privs_2) (i := 5) rfl))), rfl⟩) rfl
theorem q0_2_6 : Cond.selects "KnockPipes" yX9_fitsAllRows yX9_fitsAllRows ∈ kp_wl := kp_tp (List.mem_map.mpr ⟨(yX9_fitsAllRows, 8), (List.mem_append_right _ (List.mem_append_left _ (List.mem_of_getElem? (l := lw_privs_2) (i := 6) rfl))), rfl⟩) rfl
theorem q0_2_7 : Cond.selects "KnockPipes" yX9_shareOf yX9_shareOf ∈ kp_wl := kp_tp (List.mem_map.mpr ⟨(yX9_shareOf, 8), (List.mem_append_right _ (List.mem_append_left _ (List.mem_of_getElem? (l := lw_privs_2) (i := 7) rfl))), rfl⟩) rfl
theorem q0_2_8 : Cond.selects "KnockPipes" yX9_worst yX9_worst ∈ kp_wl := kp_tp (List.mem_map.mpr ⟨(yX9_worst, 8), (List.mem_append_right _ (List.mem_append_left _ (List.mem_of_getElem? (l := lw_privs_2) (i := 8) rfl))), rfl⟩) rfl
theorem q0_2_9 : Cond.selects "KnockPipes" yX9_harmOf yX9_harmOf ∈ kp_wl := kp_tp (List.mem_map.mpr ⟨(yX9_harmOf, 8), (List.mem_append_right _ (List.mem_append_left _ (List.mem_of_getElem? (l := lw_privs_2) (i := 9) rfl))), rfl⟩) rfl
theorem q0_2_10 : Cond.selects "KnockPipes" yX9_mostAlike yX9_mostAlike ∈ kp_wl := kp_tp (List.mem_map.mpr ⟨(yX9_mostAlike, 8), (List.mem_append_right _ (List.mem_append_left _ (List.mem_of_getElem? (l := lw_privs_2) (i := 10) rfl))), rfl⟩) rfl
theorem q0_2_11 : Cond.selects "KnockPipes" yX9_heardInDayOf yX9_heardInDayOf ∈ kp_wl := kp_tp (List.mem_map.mpr ⟨(yX9_heardInDayOf, 8), (List.mem_append_right _ (List.mem_append_left _ (List.mem_of_getElem? (l := lw_privs_2) (i := 11) rfl))), rfl⟩) rfl
theorem q0_2_12 : Cond.selects "KnockPipes" yX9_rowsHeard yX9_rowsHeard ∈ kp_wl := kp_tp (List.mem_map.mpr ⟨(yX9_rowsHeard, 8), (List.mem_append_right _ (List.mem_append_left _ (List.mem_of_getElem? (l := lw_privs_2) (i := 12) rfl))), rfl⟩) rfl
theorem q0_2_13 : Cond.selects "KnockPipes$Acts" yX0_send yX0_send ∈ kp_wl := kp_tp (List.mem_map.mpr ⟨(yX0_send, 5), (List.mem_append_right _ (List.mem_append_left _ (List.mem_of_getElem? (l := lw_privs_2) (i := 13) rfl))), rfl⟩) rfl
theorem q0_2_14 : Cond.selects "KnockPipes$Acts" yX0_run yX0_run ∈ kp_wl := kp_tp (List.mem_map.mpr ⟨(yX0_run, 5), (List.mem_append_right _ (List.mem_append_left _ (List.mem_of_getElem? (l := lw_privs_2) (i := 14) rfl))), rfl⟩) rfl
theorem q0_2_15 : Cond.selects "KnockPipesModel" yX10_clauseHere yX10_clauseHere ∈ kp_wl := kp_tp (List.mem_map.mpr ⟨(yX10_clauseHere, 26), (List.mem_append_right _ (List.mem_append_left _ (List.mem_of_getElem? (l := lw_privs_2) (i := 15) rfl))), rfl⟩) rfl
theorem q0_3_0 : Cond.selects "KnockPipesModel" yX10_here yX10_here ∈ kp_wl := kp_tp (List.mem_map.mpr ⟨(yX10_here, 26), (List.mem_append_right _ (List.mem_append_right _ (List.mem_append_left _ (List.mem_of_getElem? (l := lw_privs_3) (i := 0) rfl)))), rfl⟩) rfl
theorem q0_3_1 : Cond.selects "KnockPipesModel" yX10_much yX10_much ∈ kp_wl := kp_tp (List.mem_map.mpr ⟨(yX10_much, 26), (List.mem_append_right _ (List.mem_append_right _ (List.mem_append_left _ (List.mem_of_getElem? (l := lw_privs_3) (i := 1) rfl)))), rfl⟩) rfl
theorem q0_3_2 : Cond.selects "KnockPipesModel" yX10_spells yX10_spells ∈ kp_wl := kp_tp (List.mem_map.mpr ⟨(yX10_spells, 26), (List.mem_append_right _ (List.mem_append_right _ (List.mem_append_left _ (List.mem_of_getElem? (l := lw_privs_3) (i := 2) rfl)))), rfl⟩) rfl
theorem q0_3_3 : Cond.selects "KnockPipesModel" yX10_must yX10_must ∈ kp_wl := kp_tp (List.mem_map.mpr ⟨(yX10_must, 26), (List.mem_append_right _ (List.mem_append_right _ (List.mem_append_left _ (List.mem_of_getElem? (l := lw_privs_3) (i := 3) rfl)))), rfl⟩) rfl
theorem q0_3_4 : Cond.selects "KnockPipesModel" yX10_figures yX10_figures ∈ kp_wl := kp_tp (List.mem_map.mpr ⟨(yX10_figures, 26), (List.mem_append_right _ (List.mem_append_right _ (List.mem_append_left _ (List.mem_of_getElem? (l := lw_privs_3) (i := 4) rfl)))), rfl⟩) rfl
theorem q0_3_5 : Cond.selects "KnockPipesModel" yX10_some yX10_some ∈ kp_wl := kp_tp (List.mem_map.mpr ⟨(yX10_some, 26), (List.mem_append_right _ (List.mem_append_right _ (List.mem_append_left _ (List.mem_of_getElem? (l := lw_privs_3) (i := 5) rfl)))), rfl⟩) rfl
theorem q0_3_6 : Cond.selects "KnockPipesModel" yX10_every yX10_every ∈ kp_wl := kp_tp (List.mem_map.mpr ⟨(yX10_every, 26), (List.mem_append_right _ (List.mem_append_right _ (List.mem_append_left _ (List.mem_of_getElem? (l := lw_privs_3) (i := 6) rfl)))), rfl⟩) rfl
theorem q0_3_7 : Cond.selects "KnockPipesModel" yX10_factor yX10_factor ∈ kp_wl := kp_tp (List.mem_map.mpr ⟨(yX10_factor, 26), (List.mem_append_right _ (List.mem_append_right _ (List.mem_append_left _ (List.mem_of_getElem? (l := lw_privs_3) (i := 7) rfl)))), rfl⟩) rfl
theorem q0_3_8 : Cond.selects "KnockPipesModel" yX10_emits yX10_emits ∈ kp_wl := kp_tp (List.mem_map.mpr ⟨(yX10_emits, 26), (List.mem_append_right _ (List.mem_append_right _ (List.mem_append_left _ (List.mem_of_getElem? (l := lw_privs_3) (i := 8) rfl)))), rfl⟩) rfl
theorem q0_3_9 : Cond.selects "KnockPipesModel" yX10_among yX10_among ∈ kp_wl := kp_tp (List.mem_map.mpr ⟨(yX10_among, 26), (List.mem_append_right _ (List.mem_append_right _ (List.mem_append_left _ (List.mem_of_getElem? (l := lw_privs_3) (i := 9) rfl)))), rfl⟩) rfl
theorem q0_3_10 : Cond.selects "KnockPipesModel" yX10_clauseOfH yX10_clauseOfH ∈ kp_wl := kp_tp (List.mem_map.mpr ⟨(yX10_clauseOfH, 26), (List.mem_append_right _ (List.mem_append_right _ (List.mem_append_left _ (List.mem_of_getElem? (l := lw_privs_3) (i := 10) rfl)))), rfl⟩) rfl
theorem q0_3_11 : Cond.selects "KnockPipesModel" yX10_tellsHere yX10_tellsHere ∈ kp_wl := kp_tp (List.mem_map.mpr ⟨(yX10_tellsHere, 26), (List.mem_append_right _ (List.mem_append_right _ (List.mem_append_left _ (List.mem_of_getElem? (l := lw_privs_3) (i := 11) rfl)))), rfl⟩) rfl
theorem q0_3_12 : Cond.selects "KnockPipesModel" yX10_tellsOf yX10_tellsOf ∈ kp_wl := kp_tp (List.mem_map.mpr ⟨(yX10_tellsOf, 26), (List.mem_append_right _ (List.mem_append_right _ (List.mem_append_left _ (List.mem_of_getElem? (l := lw_privs_3) (i := 12) rfl)))), rfl⟩) rfl
theorem q0_3_13 : Cond.selects "KnockPipesModel" yX10_warms yX10_warms ∈ kp_wl := kp_tp (List.mem_map.mpr ⟨(yX10_warms, 26), (List.mem_append_right _ (List.mem_append_right _ (List.mem_append_left _ (List.mem_of_getElem? (l := lw_privs_3) (i := 13) rfl)))), rfl⟩) rfl
theorem q0_3_14 : Cond.selects "KnockPipesModel" yX10_isOn yX10_isOn ∈ kp_wl := kp_tp (List.mem_map.mpr ⟨(yX10_isOn, 26), (List.mem_append_right _ (List.mem_append_right _ (List.mem_append_left _ (List.mem_of_getElem? (l := lw_privs_3) (i := 14) rfl)))), rfl⟩) rfl
theorem q0_3_15 : Cond.selects "KnockPipesModel" yX10_isNoise yX10_isNoise ∈ kp_wl := kp_tp (List.mem_map.mpr ⟨(yX10_isNoise, 26), (List.mem_append_right _ (List.mem_append_right _ (List.mem_append_left _ (List.mem_of_getElem? (l := lw_privs_3) (i := 15) rfl)))), rfl⟩) rfl
theorem q0_4_0 : Cond.selects "KnockPipesModel" yX10_goes yX10_goes ∈ kp_wl := kp_tp (List.mem_map.mpr ⟨(yX10_goes, 26), (List.mem_append_right _ (List.mem_append_right _ (List.mem_append_right _ (List.mem_append_left _ (List.mem_of_getElem? (l := lw_privs_4) (i := 0) rfl))))), rfl⟩) rfl
theorem q0_4_1 : Cond.selects "KnockPipesModel" yX10_goesOf yX10_goesOf ∈ kp_wl := kp_tp (List.mem_map.mpr ⟨(yX10_goesOf, 26), (List.mem_append_right _ (List.mem_append_right _ (List.mem_append_right _ (List.mem_append_left _ (List.mem_of_getElem? (l := lw_privs_4) (i := 1) rfl))))), rfl⟩) rfl
theorem q0_4_2 : Cond.selects "KnockPipesModel" yX10_ticks yX10_ticks ∈ kp_wl := kp_tp (List.mem_map.mpr ⟨(yX10_ticks, 26), (List.mem_append_right _ (List.mem_append_right _ (List.mem_append_right _ (List.mem_append_left _ (List.mem_of_getElem? (l := lw_privs_4) (i := 2) rfl))))), rfl⟩) rfl
theorem q0_4_3 : Cond.selects "KnockPipesModel" yX10_lengthOf yX10_lengthOf ∈ kp_wl := kp_tp (List.mem_map.mpr ⟨(yX10_lengthOf, 26), (List.mem_append_right _ (List.mem_append_right _ (List.mem_append_right _ (List.mem_append_left _ (List.mem_of_getElem? (l := lw_privs_4) (i := 3) rfl))))), rfl⟩) rfl
theorem q0_4_4 : Cond.selects "KnockPipesModel" yX10_looksAt yX10_looksAt ∈ kp_wl := kp_tp (List.mem_map.mpr ⟨(yX10_looksAt, 26), (List.mem_append_right _ (List.mem_append_right _ (List.mem_append_right _ (List.mem_append_left _ (List.mem_of_getElem? (l := lw_privs_4) (i := 4) rfl))))), rfl⟩) rfl
theorem q0_4_5 : Cond.selects "KnockPipesModel" yX10_strikesBy yX10_strikesBy ∈ kp_wl := kp_tp (List.mem_map.mpr ⟨(yX10_strikesBy, 26), (List.mem_append_right _ (List.mem_append_right _ (List.mem_append_right _ (List.mem_append_left _ (List.mem_of_getElem? (l := lw_privs_4) (i := 5) rfl))))), rfl⟩) rfl
theorem q0_4_6 : Cond.selects "KnockPipesModel" yX10_hums yX10_hums ∈ kp_wl := kp_tp (List.mem_map.mpr ⟨(yX10_hums, 26), (List.mem_append_right _ (List.mem_append_right _ (List.mem_append_right _ (List.mem_append_left _ (List.mem_of_getElem? (l := lw_privs_4) (i := 6) rfl))))), rfl⟩) rfl
theorem q0_4_7 : Cond.selects "KnockPipesModel" yX10_plainly yX10_plainly ∈ kp_wl := kp_tp (List.mem_map.mpr ⟨(yX10_plainly, 26), (List.mem_append_right _ (List.mem_append_right _ (List.mem_append_right _ (List.mem_append_left _ (List.mem_of_getElem? (l := lw_privs_4) (i := 7) rfl))))), rfl⟩) rfl
theorem q0_4_8 : Cond.selects "KnockPipesModel" yX10_isStill yX10_isStill ∈ kp_wl := kp_tp (List.mem_map.mpr ⟨(yX10_isStill, 26), (List.mem_append_right _ (List.mem_append_right _ (List.mem_append_right _ (List.mem_append_left _ (List.mem_of_getElem? (l := lw_privs_4) (i := 8) rfl))))), rfl⟩) rfl
theorem q0_4_9 : Cond.selects "KnockPipesModel" yX10_loudOf yX10_loudOf ∈ kp_wl := kp_tp (List.mem_map.mpr ⟨(yX10_loudOf, 26), (List.mem_append_right _ (List.mem_append_right _ (List.mem_append_right _ (List.mem_append_left _ (List.mem_of_getElem? (l := lw_privs_4) (i := 9) rfl))))), rfl⟩) rfl
theorem q0_4_10 : Cond.selects "KnockPipesModel" yX10_isStruck yX10_isStruck ∈ kp_wl := kp_tp (List.mem_map.mpr ⟨(yX10_isStruck, 26), (List.mem_append_right _ (List.mem_append_right _ (List.mem_append_right _ (List.mem_append_left _ (List.mem_of_getElem? (l := lw_privs_4) (i := 10) rfl))))), rfl⟩) rfl
theorem q0_4_11 : Cond.selects "KnockPipesModel" yX10_moving yX10_moving ∈ kp_wl := kp_tp (List.mem_map.mpr ⟨(yX10_moving, 26), (List.mem_append_right _ (List.mem_append_right _ (List.mem_append_right _ (List.mem_append_left _ (List.mem_of_getElem? (l := lw_privs_4) (i := 11) rfl))))), rfl⟩) rfl
theorem q0_4_12 : Cond.selects "KnockPipesModel" yX10_heardAll yX10_heardAll ∈ kp_wl := kp_tp (List.mem_map.mpr ⟨(yX10_heardAll, 26), (List.mem_append_right _ (List.mem_append_right _ (List.mem_append_right _ (List.mem_append_left _ (List.mem_of_getElem? (l := lw_privs_4) (i := 12) rfl))))), rfl⟩) rfl
theorem q0_4_13 : Cond.selects "KnockPipesModel" yX10_heardOf yX10_heardOf ∈ kp_wl := kp_tp (List.mem_map.mpr ⟨(yX10_heardOf, 26), (List.mem_append_right _ (List.mem_append_right _ (List.mem_append_right _ (List.mem_append_left _ (List.mem_of_getElem? (l := lw_privs_4) (i := 13) rfl))))), rfl⟩) rfl
theorem q0_4_14 : Cond.selects "KnockPipesModel" yX10_fitsOf yX10_fitsOf ∈ kp_wl := kp_tp (List.mem_map.mpr ⟨(yX10_fitsOf, 26), (List.mem_append_right _ (List.mem_append_right _ (List.mem_append_right _ (List.mem_append_left _ (List.mem_of_getElem? (l := lw_privs_4) (i := 14) rfl))))), rfl⟩) rfl
theorem q0_4_15 : Cond.selects "KnockPipesModel" yX10_mostFitting yX10_mostFitting ∈ kp_wl := kp_tp (List.mem_map.mpr ⟨(yX10_mostFitting, 26), (List.mem_append_right _ (List.mem_append_right _ (List.mem_append_right _ (List.mem_append_left _ (List.mem_of_getElem? (l := lw_privs_4) (i := 15) rfl))))), rfl⟩) rfl
theorem q0_5_0 : Cond.selects "KnockPipesModel" yX10_allFitting yX10_allFitting ∈ kp_wl := kp_tp (List.mem_map.mpr ⟨(yX10_allFitting, 26), (List.mem_append_right _ (List.mem_append_right _ (List.mem_append_right _ (List.mem_append_right _ ((List.mem_of_getElem? (l := lw_privs_5) (i := 0) rfl)))))), rfl⟩) rfl
theorem q0_5_1 : Cond.selects "KnockPipesModel" yX10_worst yX10_worst ∈ kp_wl := kp_tp (List.mem_map.mpr ⟨(yX10_worst, 26), (List.mem_append_right _ (List.mem_append_right _ (List.mem_append_right _ (List.mem_append_right _ ((List.mem_of_getElem? (l := lw_privs_5) (i := 1) rfl)))))), rfl⟩) rfl
theorem q0_5_2 : Cond.selects "KnockPipesModel" yX10_harmOf yX10_harmOf ∈ kp_wl := kp_tp (List.mem_map.mpr ⟨(yX10_harmOf, 26), (List.mem_append_right _ (List.mem_append_right _ (List.mem_append_right _ (List.mem_append_right _ ((List.mem_of_getElem? (l := lw_privs_5) (i := 2) rfl)))))), rfl⟩) rfl
theorem q0_5_3 : Cond.selects "KnockPipesModel" yX10_growsActs yX10_growsActs ∈ kp_wl := kp_tp (List.mem_map.mpr ⟨(yX10_growsActs, 26), (List.mem_append_right _ (List.mem_append_right _ (List.mem_append_right _ (List.mem_append_right _ ((List.mem_of_getElem? (l := lw_privs_5) (i := 3) rfl)))))), rfl⟩) rfl
theorem q0_5_4 : Cond.selects "KnockPipesModel" yX10_runs yX10_runs ∈ kp_wl := kp_tp (List.mem_map.mpr ⟨(yX10_runs, 26), (List.mem_append_right _ (List.mem_append_right _ (List.mem_append_right _ (List.mem_append_right _ ((List.mem_of_getElem? (l := lw_privs_5) (i := 4) rfl)))))), rfl⟩) rfl
theorem q0_5_5 : Cond.selects "KnockPipesModel" yX10_plainGrows yX10_plainGrows ∈ kp_wl := kp_tp (List.mem_map.mpr ⟨(yX10_plainGrows, 26), (List.mem_append_right _ (List.mem_append_right _ (List.mem_append_right _ (List.mem_append_right _ ((List.mem_of_getElem? (l := lw_privs_5) (i := 5) rfl)))))), rfl⟩) rfl
theorem q0_5_6 : Cond.selects "KnockPipesModel" yX10_strikesActs yX10_strikesActs ∈ kp_wl := kp_tp (List.mem_map.mpr ⟨(yX10_strikesActs, 26), (List.mem_append_right _ (List.mem_append_right _ (List.mem_append_right _ (List.mem_append_right _ ((List.mem_of_getElem? (l := lw_privs_5) (i := 6) rfl)))))), rfl⟩) rfl
theorem q0_5_7 : Cond.selects "KnockPipesModel" yX10_plainStrikes yX10_plainStrikes ∈ kp_wl := kp_tp (List.mem_map.mpr ⟨(yX10_plainStrikes, 26), (List.mem_append_right _ (List.mem_append_right _ (List.mem_append_right _ (List.mem_append_right _ ((List.mem_of_getElem? (l := lw_privs_5) (i := 7) rfl)))))), rfl⟩) rfl
theorem q0_5_8 : Cond.selects "KnockPipesModel" yX10_tellsActs yX10_tellsActs ∈ kp_wl := kp_tp (List.mem_map.mpr ⟨(yX10_tellsActs, 26), (List.mem_append_right _ (List.mem_append_right _ (List.mem_append_right _ (List.mem_append_right _ ((List.mem_of_getElem? (l := lw_privs_5) (i := 8) rfl)))))), rfl⟩) rfl
theorem q0_5_9 : Cond.selects "KnockPipesModel" yX10_plainTells yX10_plainTells ∈ kp_wl := kp_tp (List.mem_map.mpr ⟨(yX10_plainTells, 26), (List.mem_append_right _ (List.mem_append_right _ (List.mem_append_right _ (List.mem_append_right _ ((List.mem_of_getElem? (l := lw_privs_5) (i := 9) rfl)))))), rfl⟩) rfl
theorem inWX0 : ∀ w ∈ u_ws RX0 TX0 5, w ∈ kp_wl := (List.forall_mem_cons.mpr ⟨q2_1, (List.forall_mem_cons.mpr ⟨q2_3, (List.forall_mem_cons.mpr ⟨q2_5, (List.forall_mem_cons.mpr ⟨q2_7, (List.forall_mem_cons.mpr ⟨q2_9, (fun _ h => by cases h)⟩)⟩)⟩)⟩)⟩)
theorem inWX1 : ∀ w ∈ u_ws RX1 TX1 6, w ∈ kp_wl := (List.forall_mem_cons.mpr ⟨q1_167, (List.forall_mem_cons.mpr ⟨q1_169, (List.forall_mem_cons.mpr ⟨q1_171, (List.forall_mem_cons.mpr ⟨q1_173, (List.forall_mem_cons.mpr ⟨q1_175, (List.forall_mem_cons.mpr ⟨q1_177, (fun _ h => by cases h)⟩)⟩)⟩)⟩)⟩)⟩)
theorem inWX2 : ∀ w ∈ u_ws RX2 TX2 7, w ∈ kp_wl := (List.forall_mem_cons.mpr ⟨q1_81, (List.forall_mem_cons.mpr ⟨q1_83, (List.forall_mem_cons.mpr ⟨q1_85, (List.forall_mem_cons.mpr ⟨q1_87, (List.forall_mem_cons.mpr ⟨q1_89, (List.forall_mem_cons.mpr ⟨q1_91, (List.forall_mem_cons.mpr ⟨q1_93, (fun _ h => by cases h)⟩)⟩)⟩)⟩)⟩)⟩)⟩)
theorem inWX3 : ∀ w ∈ u_ws RX3 TX3 6, w ∈ kp_wl := (List.forall_mem_cons.mpr ⟨q1_119, (List.forall_mem_cons.mpr ⟨q1_121, (List.forall_mem_cons.mpr ⟨q1_123, (List.forall_mem_cons.mpr ⟨q1_125, (List.forall_mem_cons.mpr ⟨q1_127, (List.forall_mem_cons.mpr ⟨q1_129, (fun _ h => by cases h)⟩)⟩)⟩)⟩)⟩)⟩)
theorem inWX4 : ∀ w ∈ u_ws RX4 TX4 4, w ∈ kp_wl := (List.forall_mem_cons.mpr ⟨q1_146, (List.forall_mem_cons.mpr ⟨q1_148, (List.forall_mem_cons.mpr ⟨q1_150, (List.forall_mem_cons.mpr ⟨q1_152, (fun _ h => by cases h)⟩)⟩)⟩)⟩)
theorem inWX5 : ∀ w ∈ u_ws RX5 TX5 3, w ∈ kp_wl := (List.forall_mem_cons.mpr ⟨q1_195, (List.forall_mem_cons.mpr ⟨q1_197, (List.forall_mem_cons.mpr ⟨q1_199, (fun _ h => by cases h)⟩)⟩)⟩)
theorem inWX6 : ∀ w ∈ u_ws RX6 TX6 6, w ∈ kp_wl := (List.forall_mem_cons.mpr ⟨q1_215, (List.forall_mem_cons.mpr ⟨q1_217, (List.forall_mem_cons.mpr ⟨q1_219, (List.forall_mem_cons.mpr ⟨q1_221, (List.forall_mem_cons.mpr ⟨q1_223, (List.forall_mem_cons.mpr ⟨q1_225, (fun _ h => by cases h)⟩)⟩)⟩)⟩)⟩)⟩)
theorem inWX7 : ∀ w ∈ u_ws RX7 TX7 2, w ∈ kp_wl := (List.forall_mem_cons.mpr ⟨q1_45, (List.forall_mem_cons.mpr ⟨q1_47, (fun _ h => by cases h)⟩)⟩)
theorem inWX9 : ∀ w ∈ u_ws RX9 TX9 8, w ∈ kp_wl := (List.forall_mem_cons.mpr ⟨q2_20, (List.forall_mem_cons.mpr ⟨q2_22, (List.forall_mem_cons.mpr ⟨q2_24, (List.forall_mem_cons.mpr ⟨q2_26, (List.forall_mem_cons.mpr ⟨q2_28, (List.forall_mem_cons.mpr ⟨q2_30, (List.forall_mem_cons.mpr ⟨q2_32, (List.forall_mem_cons.mpr ⟨q2_34, (fun _ h => by cases h)⟩)⟩)⟩)⟩)⟩)⟩)⟩)⟩)
theorem inWX10 : ∀ w ∈ u_ws RX10 TX10 26, w ∈ kp_wl := (List.forall_mem_cons.mpr ⟨q4_70, (List.forall_mem_cons.mpr ⟨q4_72, (List.forall_mem_cons.mpr ⟨q4_74, (List.forall_mem_cons.mpr ⟨q4_76, (List.forall_mem_cons.mpr ⟨q4_78, (List.forall_mem_cons.mpr ⟨q4_80, (List.forall_mem_cons.mpr ⟨q4_82, (List.forall_mem_cons.mpr ⟨q4_84, (List.forall_mem_cons.mpr ⟨q4_86, (List.forall_mem_cons.mpr ⟨q4_88, (List.forall_mem_cons.mpr ⟨q4_90, (List.forall_mem_cons.mpr ⟨q4_92, (List.forall_mem_cons.mpr ⟨q4_94, (List.forall_mem_cons.mpr ⟨q4_96, (List.forall_mem_cons.mpr ⟨q4_98, (List.forall_mem_cons.mpr ⟨q4_100, (List.forall_mem_cons.mpr ⟨q4_102, (List.forall_mem_cons.mpr ⟨q4_104, (List.forall_mem_cons.mpr ⟨q4_106, (List.forall_mem_cons.mpr ⟨q4_108, (List.forall_mem_cons.mpr ⟨q4_110, (List.forall_mem_cons.mpr ⟨q4_112, (List.forall_mem_cons.mpr ⟨q4_114, (List.forall_mem_cons.mpr ⟨q4_116, (List.forall_mem_cons.mpr ⟨q4_118, (List.forall_mem_cons.mpr ⟨q4_120, (fun _ h => by cases h)⟩)⟩)⟩)⟩)⟩)⟩)⟩)⟩)⟩)⟩)⟩)⟩)⟩)⟩)⟩)⟩)⟩)⟩)⟩)⟩)⟩)⟩)⟩)⟩)⟩)⟩)
