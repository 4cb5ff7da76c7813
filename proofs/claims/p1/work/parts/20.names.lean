/-! by program (wip/p1): words, classes -/
theorem wd_1_75 : Cond.lays "SyntaxForge$Bytes" "SyntaxForge$Bytes" "at" "[B" ∈ tw_tbl := tw_t1 (List.mem_of_getElem? (i := 75) rfl) rfl
theorem wd_1_77 : Cond.lays "SyntaxForge$Bytes" "SyntaxForge$Bytes" "length" "I" ∈ tw_tbl := tw_t1 (List.mem_of_getElem? (i := 77) rfl) rfl
theorem wd_1_106 : Cond.lays "java/util/ArrayList" "java/util/ArrayList" "elementData" "[Ljava/lang/Object;" ∈ tw_tbl := tw_t1 (List.mem_of_getElem? (i := 106) rfl) rfl
theorem wd_1_108 : Cond.lays "java/util/ArrayList" "java/util/ArrayList" "size" "I" ∈ tw_tbl := tw_t1 (List.mem_of_getElem? (i := 108) rfl) rfl
theorem wd_1_110 : Cond.lays "java/util/ArrayList" "java/util/AbstractList" "modCount" "I" ∈ tw_tbl := tw_t1 (List.mem_of_getElem? (i := 110) rfl) rfl
theorem wd_1_138 : Cond.laysFinal "SyntaxForge$Values" "SyntaxForge$Values" "all" "Ljava/util/ArrayList;" ∈ tw_tbl := tw_t1 (List.mem_of_getElem? (i := 138) rfl) rfl
theorem wd_1_140 : Cond.laysFinal "SyntaxForge$Values" "SyntaxForge$Values" "data" "LSyntaxForge$Bytes;" ∈ tw_tbl := tw_t1 (List.mem_of_getElem? (i := 140) rfl) rfl
theorem wd_1_142 : Cond.lays "SyntaxForge$Values" "SyntaxForge$Values" "used" "I" ∈ tw_tbl := tw_t1 (List.mem_of_getElem? (i := 142) rfl) rfl
theorem wd_2_41 : Cond.laysFinal "SyntaxForge$Schema" "SyntaxForge$Schema" "assigned" "Ljava/util/ArrayList;" ∈ tw_tbl := tw_t2 (List.mem_of_getElem? (i := 41) rfl) rfl
theorem wd_2_43 : Cond.laysFinal "SyntaxForge$Schema" "SyntaxForge$Schema" "defaults" "LSyntaxForge$Values;" ∈ tw_tbl := tw_t2 (List.mem_of_getElem? (i := 43) rfl) rfl
theorem wd_2_45 : Cond.lays "SyntaxForge$Schema" "SyntaxForge$Schema" "mode" "I" ∈ tw_tbl := tw_t2 (List.mem_of_getElem? (i := 45) rfl) rfl
theorem wd_2_47 : Cond.lays "SyntaxForge$Schema" "SyntaxForge$Schema" "broken" "Z" ∈ tw_tbl := tw_t2 (List.mem_of_getElem? (i := 47) rfl) rfl
theorem wd_2_49 : Cond.laysFinal "SyntaxForge$Schema" "SyntaxForge$Schema" "types" "Ljava/util/ArrayList;" ∈ tw_tbl := tw_t2 (List.mem_of_getElem? (i := 49) rfl) rfl
theorem wd_2_51 : Cond.laysFinal "SyntaxForge$Schema" "SyntaxForge$Schema" "standards" "Ljava/util/ArrayList;" ∈ tw_tbl := tw_t2 (List.mem_of_getElem? (i := 51) rfl) rfl
theorem wd_2_53 : Cond.laysFinal "SyntaxForge$Schema" "SyntaxForge$Schema" "path" "Ljava/util/ArrayList;" ∈ tw_tbl := tw_t2 (List.mem_of_getElem? (i := 53) rfl) rfl
theorem wd_2_55 : Cond.laysFinal "SyntaxForge$Schema" "SyntaxForge$Schema" "words" "LSyntaxForge$Bytes;" ∈ tw_tbl := tw_t2 (List.mem_of_getElem? (i := 55) rfl) rfl
theorem wd_2_57 : Cond.laysFinal "SyntaxForge$Schema" "SyntaxForge$Schema" "letters" "LSyntaxForge$Bytes;" ∈ tw_tbl := tw_t2 (List.mem_of_getElem? (i := 57) rfl) rfl
theorem wd_2_59 : Cond.laysFinal "SyntaxForge$Schema" "SyntaxForge$Schema" "buckets" "[I" ∈ tw_tbl := tw_t2 (List.mem_of_getElem? (i := 59) rfl) rfl
theorem wd_2_61 : Cond.lays "SyntaxForge$Schema" "SyntaxForge$Schema" "starts" "[I" ∈ tw_tbl := tw_t2 (List.mem_of_getElem? (i := 61) rfl) rfl
theorem wd_2_63 : Cond.lays "SyntaxForge$Schema" "SyntaxForge$Schema" "lengths" "[I" ∈ tw_tbl := tw_t2 (List.mem_of_getElem? (i := 63) rfl) rfl
theorem wd_2_65 : Cond.lays "SyntaxForge$Schema" "SyntaxForge$Schema" "nexts" "[I" ∈ tw_tbl := tw_t2 (List.mem_of_getElem? (i := 65) rfl) rfl
theorem wd_2_67 : Cond.lays "SyntaxForge$Schema" "SyntaxForge$Schema" "owners" "[I" ∈ tw_tbl := tw_t2 (List.mem_of_getElem? (i := 67) rfl) rfl
theorem wd_2_69 : Cond.lays "SyntaxForge$Schema" "SyntaxForge$Schema" "symbols" "I" ∈ tw_tbl := tw_t2 (List.mem_of_getElem? (i := 69) rfl) rfl
theorem wd_2_71 : Cond.lays "SyntaxForge$Schema" "SyntaxForge$Schema" "steps" "[I" ∈ tw_tbl := tw_t2 (List.mem_of_getElem? (i := 71) rfl) rfl
theorem wd_2_73 : Cond.lays "SyntaxForge$Schema" "SyntaxForge$Schema" "keys" "[J" ∈ tw_tbl := tw_t2 (List.mem_of_getElem? (i := 73) rfl) rfl
theorem wd_2_75 : Cond.lays "SyntaxForge$Schema" "SyntaxForge$Schema" "stamps" "[I" ∈ tw_tbl := tw_t2 (List.mem_of_getElem? (i := 75) rfl) rfl
theorem wd_2_77 : Cond.lays "SyntaxForge$Schema" "SyntaxForge$Schema" "stamp" "I" ∈ tw_tbl := tw_t2 (List.mem_of_getElem? (i := 77) rfl) rfl
theorem wd_2_102 : Cond.lays "SyntaxForge$Scanner" "SyntaxForge$Scanner" "kinds" "[I" ∈ tw_tbl := tw_t2 (List.mem_of_getElem? (i := 102) rfl) rfl
theorem wd_2_104 : Cond.lays "SyntaxForge$Scanner" "SyntaxForge$Scanner" "places" "[I" ∈ tw_tbl := tw_t2 (List.mem_of_getElem? (i := 104) rfl) rfl
theorem wd_2_106 : Cond.lays "SyntaxForge$Scanner" "SyntaxForge$Scanner" "numbers" "[J" ∈ tw_tbl := tw_t2 (List.mem_of_getElem? (i := 106) rfl) rfl
theorem wd_2_108 : Cond.lays "SyntaxForge$Scanner" "SyntaxForge$Scanner" "count" "I" ∈ tw_tbl := tw_t2 (List.mem_of_getElem? (i := 108) rfl) rfl
theorem wd_2_110 : Cond.lays "SyntaxForge$Scanner" "SyntaxForge$Scanner" "told" "I" ∈ tw_tbl := tw_t2 (List.mem_of_getElem? (i := 110) rfl) rfl
theorem wd_2_112 : Cond.lays "SyntaxForge$Scanner" "SyntaxForge$Scanner" "tape" "LSyntaxForge$Bytes;" ∈ tw_tbl := tw_t2 (List.mem_of_getElem? (i := 112) rfl) rfl
theorem wd_2_114 : Cond.lays "SyntaxForge$Scanner" "SyntaxForge$Scanner" "names" "LSyntaxForge$Schema;" ∈ tw_tbl := tw_t2 (List.mem_of_getElem? (i := 114) rfl) rfl
theorem wd_2_116 : Cond.lays "SyntaxForge$Scanner" "SyntaxForge$Scanner" "adding" "Z" ∈ tw_tbl := tw_t2 (List.mem_of_getElem? (i := 116) rfl) rfl
theorem wd_2_134 : Cond.laysFinal "SyntaxForge$Parser" "SyntaxForge$Parser" "scanner" "LSyntaxForge$Scanner;" ∈ tw_tbl := tw_t2 (List.mem_of_getElem? (i := 134) rfl) rfl
theorem wd_2_136 : Cond.laysFinal "SyntaxForge$Parser" "SyntaxForge$Parser" "unended" "[LSyntaxForge$Value;" ∈ tw_tbl := tw_t2 (List.mem_of_getElem? (i := 136) rfl) rfl
theorem wd_2_138 : Cond.lays "SyntaxForge$Parser" "SyntaxForge$Parser" "tape" "LSyntaxForge$Bytes;" ∈ tw_tbl := tw_t2 (List.mem_of_getElem? (i := 138) rfl) rfl
theorem wd_2_140 : Cond.lays "SyntaxForge$Parser" "SyntaxForge$Parser" "schema" "LSyntaxForge$Schema;" ∈ tw_tbl := tw_t2 (List.mem_of_getElem? (i := 140) rfl) rfl
theorem wd_2_142 : Cond.lays "SyntaxForge$Parser" "SyntaxForge$Parser" "values" "LSyntaxForge$Values;" ∈ tw_tbl := tw_t2 (List.mem_of_getElem? (i := 142) rfl) rfl
theorem wd_2_144 : Cond.lays "SyntaxForge$Parser" "SyntaxForge$Parser" "at" "I" ∈ tw_tbl := tw_t2 (List.mem_of_getElem? (i := 144) rfl) rfl
theorem wd_2_146 : Cond.lays "SyntaxForge$Parser" "SyntaxForge$Parser" "label" "I" ∈ tw_tbl := tw_t2 (List.mem_of_getElem? (i := 146) rfl) rfl
theorem wd_2_161 : Cond.lays "SyntaxForge$Der" "SyntaxForge$Der" "row" "[LSyntaxForge$Value;" ∈ tw_tbl := tw_t2 (List.mem_of_getElem? (i := 161) rfl) rfl
theorem wd_2_163 : Cond.lays "SyntaxForge$Der" "SyntaxForge$Der" "merged" "[LSyntaxForge$Value;" ∈ tw_tbl := tw_t2 (List.mem_of_getElem? (i := 163) rfl) rfl
theorem wd_2_165 : Cond.lays "SyntaxForge$Der" "SyntaxForge$Der" "widths" "[I" ∈ tw_tbl := tw_t2 (List.mem_of_getElem? (i := 165) rfl) rfl
theorem wd_2_185 : Cond.laysFinal "SyntaxForge$BerReader" "SyntaxForge$BerReader" "values" "LSyntaxForge$Values;" ∈ tw_tbl := tw_t2 (List.mem_of_getElem? (i := 185) rfl) rfl
theorem wd_2_187 : Cond.laysFinal "SyntaxForge$BerReader" "SyntaxForge$BerReader" "order" "LSyntaxForge$Der;" ∈ tw_tbl := tw_t2 (List.mem_of_getElem? (i := 187) rfl) rfl
theorem wd_2_189 : Cond.laysFinal "SyntaxForge$BerReader" "SyntaxForge$BerReader" "ends" "[I" ∈ tw_tbl := tw_t2 (List.mem_of_getElem? (i := 189) rfl) rfl
theorem wd_2_191 : Cond.laysFinal "SyntaxForge$BerReader" "SyntaxForge$BerReader" "limits" "[I" ∈ tw_tbl := tw_t2 (List.mem_of_getElem? (i := 191) rfl) rfl
theorem wd_2_193 : Cond.lays "SyntaxForge$BerReader" "SyntaxForge$BerReader" "in" "LSyntaxForge$Bytes;" ∈ tw_tbl := tw_t2 (List.mem_of_getElem? (i := 193) rfl) rfl
theorem wd_2_195 : Cond.lays "SyntaxForge$BerReader" "SyntaxForge$BerReader" "schema" "LSyntaxForge$Schema;" ∈ tw_tbl := tw_t2 (List.mem_of_getElem? (i := 195) rfl) rfl
theorem wd_2_197 : Cond.lays "SyntaxForge$BerReader" "SyntaxForge$BerReader" "strict" "Z" ∈ tw_tbl := tw_t2 (List.mem_of_getElem? (i := 197) rfl) rfl
theorem wd_2_199 : Cond.lays "SyntaxForge$BerReader" "SyntaxForge$BerReader" "at" "I" ∈ tw_tbl := tw_t2 (List.mem_of_getElem? (i := 199) rfl) rfl
theorem wd_2_201 : Cond.lays "SyntaxForge$BerReader" "SyntaxForge$BerReader" "tag" "J" ∈ tw_tbl := tw_t2 (List.mem_of_getElem? (i := 201) rfl) rfl
theorem wd_2_203 : Cond.lays "SyntaxForge$BerReader" "SyntaxForge$BerReader" "constructed" "Z" ∈ tw_tbl := tw_t2 (List.mem_of_getElem? (i := 203) rfl) rfl
theorem wd_2_205 : Cond.lays "SyntaxForge$BerReader" "SyntaxForge$BerReader" "stop" "I" ∈ tw_tbl := tw_t2 (List.mem_of_getElem? (i := 205) rfl) rfl
theorem wd_2_216 : Cond.lays "SyntaxForge$PerWriter" "SyntaxForge$PerWriter" "out" "LSyntaxForge$Bytes;" ∈ tw_tbl := tw_t2 (List.mem_of_getElem? (i := 216) rfl) rfl
theorem wd_2_218 : Cond.lays "SyntaxForge$PerWriter" "SyntaxForge$PerWriter" "at" "I" ∈ tw_tbl := tw_t2 (List.mem_of_getElem? (i := 218) rfl) rfl
theorem wd_2_233 : Cond.laysFinal "SyntaxForge$PerReader" "SyntaxForge$PerReader" "values" "LSyntaxForge$Values;" ∈ tw_tbl := tw_t2 (List.mem_of_getElem? (i := 233) rfl) rfl
theorem wd_2_235 : Cond.lays "SyntaxForge$PerReader" "SyntaxForge$PerReader" "in" "LSyntaxForge$Bytes;" ∈ tw_tbl := tw_t2 (List.mem_of_getElem? (i := 235) rfl) rfl
theorem wd_2_237 : Cond.lays "SyntaxForge$PerReader" "SyntaxForge$PerReader" "at" "I" ∈ tw_tbl := tw_t2 (List.mem_of_getElem? (i := 237) rfl) rfl
theorem wd_2_239 : Cond.lays "SyntaxForge$PerReader" "SyntaxForge$PerReader" "limit" "I" ∈ tw_tbl := tw_t2 (List.mem_of_getElem? (i := 239) rfl) rfl
theorem wd_3_1 : Cond.lays "SyntaxForge$PerReader" "SyntaxForge$PerReader" "listed" "I" ∈ tw_tbl := tw_t3 (List.mem_of_getElem? (i := 1) rfl) rfl
theorem wd_3_3 : Cond.lays "SyntaxForge$PerReader" "SyntaxForge$PerReader" "strange" "I" ∈ tw_tbl := tw_t3 (List.mem_of_getElem? (i := 3) rfl) rfl
theorem wd_3_20 : Cond.lays "SyntaxForge" "SyntaxForge" "tape" "LSyntaxForge$Bytes;" ∈ tw_tbl := tw_t3 (List.mem_of_getElem? (i := 20) rfl) rfl
theorem wd_3_22 : Cond.lays "SyntaxForge" "SyntaxForge" "taken" "LSyntaxForge$Bytes;" ∈ tw_tbl := tw_t3 (List.mem_of_getElem? (i := 22) rfl) rfl
theorem wd_3_24 : Cond.lays "SyntaxForge" "SyntaxForge" "result" "LSyntaxForge$Bytes;" ∈ tw_tbl := tw_t3 (List.mem_of_getElem? (i := 24) rfl) rfl
theorem wd_3_26 : Cond.lays "SyntaxForge" "SyntaxForge" "out" "LSyntaxForge$Bytes;" ∈ tw_tbl := tw_t3 (List.mem_of_getElem? (i := 26) rfl) rfl
theorem wd_3_28 : Cond.lays "SyntaxForge" "SyntaxForge" "hasText" "Z" ∈ tw_tbl := tw_t3 (List.mem_of_getElem? (i := 28) rfl) rfl
theorem wd_3_30 : Cond.lays "SyntaxForge" "SyntaxForge" "schema" "LSyntaxForge$Schema;" ∈ tw_tbl := tw_t3 (List.mem_of_getElem? (i := 30) rfl) rfl
theorem wd_3_32 : Cond.lays "SyntaxForge" "SyntaxForge" "spare" "LSyntaxForge$Schema;" ∈ tw_tbl := tw_t3 (List.mem_of_getElem? (i := 32) rfl) rfl
theorem wd_3_34 : Cond.laysFinal "SyntaxForge" "SyntaxForge" "scanner" "LSyntaxForge$Scanner;" ∈ tw_tbl := tw_t3 (List.mem_of_getElem? (i := 34) rfl) rfl
theorem wd_3_36 : Cond.laysFinal "SyntaxForge" "SyntaxForge" "parser" "LSyntaxForge$Parser;" ∈ tw_tbl := tw_t3 (List.mem_of_getElem? (i := 36) rfl) rfl
theorem wd_3_38 : Cond.laysFinal "SyntaxForge" "SyntaxForge" "values" "LSyntaxForge$Values;" ∈ tw_tbl := tw_t3 (List.mem_of_getElem? (i := 38) rfl) rfl
theorem wd_3_40 : Cond.laysFinal "SyntaxForge" "SyntaxForge" "der" "LSyntaxForge$Der;" ∈ tw_tbl := tw_t3 (List.mem_of_getElem? (i := 40) rfl) rfl
theorem wd_3_42 : Cond.laysFinal "SyntaxForge" "SyntaxForge" "berReader" "LSyntaxForge$BerReader;" ∈ tw_tbl := tw_t3 (List.mem_of_getElem? (i := 42) rfl) rfl
theorem wd_3_44 : Cond.laysFinal "SyntaxForge" "SyntaxForge" "perWriter" "LSyntaxForge$PerWriter;" ∈ tw_tbl := tw_t3 (List.mem_of_getElem? (i := 44) rfl) rfl
theorem wd_3_46 : Cond.laysFinal "SyntaxForge" "SyntaxForge" "perReader" "LSyntaxForge$PerReader;" ∈ tw_tbl := tw_t3 (List.mem_of_getElem? (i := 46) rfl) rfl
theorem wd_10_104 : Cond.lays "SyntaxForgeModel" "SyntaxForgeModel" "failed" "I" ∈ tw_tbl := tw_t10 (List.mem_of_getElem? (i := 104) rfl) rfl
theorem wd_10_106 : Cond.laysFinal "SyntaxForgeModel" "SyntaxForgeModel" "tape" "[B" ∈ tw_tbl := tw_t10 (List.mem_of_getElem? (i := 106) rfl) rfl
theorem wd_10_108 : Cond.lays "SyntaxForgeModel" "SyntaxForgeModel" "taped" "I" ∈ tw_tbl := tw_t10 (List.mem_of_getElem? (i := 108) rfl) rfl
theorem wd_10_110 : Cond.laysFinal "SyntaxForgeModel" "SyntaxForgeModel" "result" "[B" ∈ tw_tbl := tw_t10 (List.mem_of_getElem? (i := 110) rfl) rfl
theorem wd_10_112 : Cond.lays "SyntaxForgeModel" "SyntaxForgeModel" "size" "I" ∈ tw_tbl := tw_t10 (List.mem_of_getElem? (i := 112) rfl) rfl
theorem wd_10_114 : Cond.lays "SyntaxForgeModel" "SyntaxForgeModel" "place" "I" ∈ tw_tbl := tw_t10 (List.mem_of_getElem? (i := 114) rfl) rfl
theorem wd_10_116 : Cond.laysFinal "SyntaxForgeModel" "SyntaxForgeModel" "signs" "[Ljava/lang/String;" ∈ tw_tbl := tw_t10 (List.mem_of_getElem? (i := 116) rfl) rfl
theorem wd_10_118 : Cond.laysFinal "SyntaxForgeModel" "SyntaxForgeModel" "keptWords" "[Ljava/lang/String;" ∈ tw_tbl := tw_t10 (List.mem_of_getElem? (i := 118) rfl) rfl
theorem wd_10_120 : Cond.lays "SyntaxForgeModel" "SyntaxForgeModel" "token" "I" ∈ tw_tbl := tw_t10 (List.mem_of_getElem? (i := 120) rfl) rfl
theorem wd_10_122 : Cond.lays "SyntaxForgeModel" "SyntaxForgeModel" "from" "I" ∈ tw_tbl := tw_t10 (List.mem_of_getElem? (i := 122) rfl) rfl
theorem wd_10_124 : Cond.lays "SyntaxForgeModel" "SyntaxForgeModel" "to" "I" ∈ tw_tbl := tw_t10 (List.mem_of_getElem? (i := 124) rfl) rfl
theorem wd_10_126 : Cond.lays "SyntaxForgeModel" "SyntaxForgeModel" "number" "J" ∈ tw_tbl := tw_t10 (List.mem_of_getElem? (i := 126) rfl) rfl
theorem wd_10_128 : Cond.lays "SyntaxForgeModel" "SyntaxForgeModel" "word" "Ljava/lang/String;" ∈ tw_tbl := tw_t10 (List.mem_of_getElem? (i := 128) rfl) rfl
theorem wd_10_130 : Cond.lays "SyntaxForgeModel" "SyntaxForgeModel" "at" "I" ∈ tw_tbl := tw_t10 (List.mem_of_getElem? (i := 130) rfl) rfl
theorem wd_10_132 : Cond.lays "SyntaxForgeModel" "SyntaxForgeModel" "valuesOpen" "I" ∈ tw_tbl := tw_t10 (List.mem_of_getElem? (i := 132) rfl) rfl
theorem wd_10_134 : Cond.lays "SyntaxForgeModel" "SyntaxForgeModel" "typesOpen" "I" ∈ tw_tbl := tw_t10 (List.mem_of_getElem? (i := 134) rfl) rfl
theorem wd_10_136 : Cond.laysFinal "SyntaxForgeModel" "SyntaxForgeModel" "spelled" "LSyntaxForgeModel$Chars;" ∈ tw_tbl := tw_t10 (List.mem_of_getElem? (i := 136) rfl) rfl
theorem wd_10_138 : Cond.laysFinal "SyntaxForgeModel" "SyntaxForgeModel" "pieced" "LSyntaxForgeModel$Chars;" ∈ tw_tbl := tw_t10 (List.mem_of_getElem? (i := 138) rfl) rfl
theorem wd_10_140 : Cond.laysFinal "SyntaxForgeModel" "SyntaxForgeModel" "hexes" "LSyntaxForgeModel$Chars;" ∈ tw_tbl := tw_t10 (List.mem_of_getElem? (i := 140) rfl) rfl
theorem wd_10_142 : Cond.lays "SyntaxForgeModel" "SyntaxForgeModel" "words" "[Ljava/lang/String;" ∈ tw_tbl := tw_t10 (List.mem_of_getElem? (i := 142) rfl) rfl
theorem wd_10_144 : Cond.lays "SyntaxForgeModel" "SyntaxForgeModel" "nextWords" "[I" ∈ tw_tbl := tw_t10 (List.mem_of_getElem? (i := 144) rfl) rfl
theorem wd_10_146 : Cond.laysFinal "SyntaxForgeModel" "SyntaxForgeModel" "firstWords" "[I" ∈ tw_tbl := tw_t10 (List.mem_of_getElem? (i := 146) rfl) rfl
theorem wd_10_148 : Cond.lays "SyntaxForgeModel" "SyntaxForgeModel" "wordCount" "I" ∈ tw_tbl := tw_t10 (List.mem_of_getElem? (i := 148) rfl) rfl
theorem wd_10_150 : Cond.lays "SyntaxForgeModel" "SyntaxForgeModel" "pool" "[LSyntaxForgeModel$Value;" ∈ tw_tbl := tw_t10 (List.mem_of_getElem? (i := 150) rfl) rfl
theorem wd_10_152 : Cond.lays "SyntaxForgeModel" "SyntaxForgeModel" "pooled" "I" ∈ tw_tbl := tw_t10 (List.mem_of_getElem? (i := 152) rfl) rfl
theorem wd_10_154 : Cond.lays "SyntaxForgeModel" "SyntaxForgeModel" "pooling" "Z" ∈ tw_tbl := tw_t10 (List.mem_of_getElem? (i := 154) rfl) rfl
theorem wd_10_156 : Cond.lays "SyntaxForgeModel" "SyntaxForgeModel" "module" "LSyntaxForgeModel$Module;" ∈ tw_tbl := tw_t10 (List.mem_of_getElem? (i := 156) rfl) rfl
theorem wd_10_158 : Cond.lays "SyntaxForgeModel" "SyntaxForgeModel" "reading" "LSyntaxForgeModel$Module;" ∈ tw_tbl := tw_t10 (List.mem_of_getElem? (i := 158) rfl) rfl
theorem wd_10_160 : Cond.lays "SyntaxForgeModel" "SyntaxForgeModel" "chain" "[LSyntaxForgeModel$Type;" ∈ tw_tbl := tw_t10 (List.mem_of_getElem? (i := 160) rfl) rfl
theorem wd_10_162 : Cond.lays "SyntaxForgeModel" "SyntaxForgeModel" "waiting" "[LSyntaxForgeModel$Type;" ∈ tw_tbl := tw_t10 (List.mem_of_getElem? (i := 162) rfl) rfl
theorem wd_10_164 : Cond.lays "SyntaxForgeModel" "SyntaxForgeModel" "stamp" "I" ∈ tw_tbl := tw_t10 (List.mem_of_getElem? (i := 164) rfl) rfl
theorem wd_10_166 : Cond.lays "SyntaxForgeModel" "SyntaxForgeModel" "settledNow" "Z" ∈ tw_tbl := tw_t10 (List.mem_of_getElem? (i := 166) rfl) rfl
theorem wd_10_168 : Cond.laysFinal "SyntaxForgeModel" "SyntaxForgeModel" "back" "[B" ∈ tw_tbl := tw_t10 (List.mem_of_getElem? (i := 168) rfl) rfl
theorem wd_10_170 : Cond.laysFinal "SyntaxForgeModel" "SyntaxForgeModel" "spare" "[B" ∈ tw_tbl := tw_t10 (List.mem_of_getElem? (i := 170) rfl) rfl
theorem wd_10_172 : Cond.lays "SyntaxForgeModel" "SyntaxForgeModel" "pos" "I" ∈ tw_tbl := tw_t10 (List.mem_of_getElem? (i := 172) rfl) rfl
theorem wd_10_174 : Cond.laysFinal "SyntaxForgeModel" "SyntaxForgeModel" "packed" "[B" ∈ tw_tbl := tw_t10 (List.mem_of_getElem? (i := 174) rfl) rfl
theorem wd_10_176 : Cond.lays "SyntaxForgeModel" "SyntaxForgeModel" "bits" "I" ∈ tw_tbl := tw_t10 (List.mem_of_getElem? (i := 176) rfl) rfl
theorem wd_10_178 : Cond.lays "SyntaxForgeModel" "SyntaxForgeModel" "in" "I" ∈ tw_tbl := tw_t10 (List.mem_of_getElem? (i := 178) rfl) rfl
theorem wd_10_180 : Cond.lays "SyntaxForgeModel" "SyntaxForgeModel" "end" "I" ∈ tw_tbl := tw_t10 (List.mem_of_getElem? (i := 180) rfl) rfl
theorem wd_10_182 : Cond.lays "SyntaxForgeModel" "SyntaxForgeModel" "strict" "Z" ∈ tw_tbl := tw_t10 (List.mem_of_getElem? (i := 182) rfl) rfl
theorem wd_10_184 : Cond.lays "SyntaxForgeModel" "SyntaxForgeModel" "within" "I" ∈ tw_tbl := tw_t10 (List.mem_of_getElem? (i := 184) rfl) rfl
theorem wd_10_186 : Cond.lays "SyntaxForgeModel" "SyntaxForgeModel" "gotTag" "J" ∈ tw_tbl := tw_t10 (List.mem_of_getElem? (i := 186) rfl) rfl
theorem wd_10_188 : Cond.lays "SyntaxForgeModel" "SyntaxForgeModel" "gotMany" "Z" ∈ tw_tbl := tw_t10 (List.mem_of_getElem? (i := 188) rfl) rfl
theorem wd_10_190 : Cond.lays "SyntaxForgeModel" "SyntaxForgeModel" "gotStop" "I" ∈ tw_tbl := tw_t10 (List.mem_of_getElem? (i := 190) rfl) rfl
theorem wd_10_192 : Cond.lays "SyntaxForgeModel" "SyntaxForgeModel" "closed" "Z" ∈ tw_tbl := tw_t10 (List.mem_of_getElem? (i := 192) rfl) rfl
theorem wd_10_194 : Cond.lays "SyntaxForgeModel" "SyntaxForgeModel" "bit" "J" ∈ tw_tbl := tw_t10 (List.mem_of_getElem? (i := 194) rfl) rfl
theorem wd_10_196 : Cond.lays "SyntaxForgeModel" "SyntaxForgeModel" "bitEnd" "J" ∈ tw_tbl := tw_t10 (List.mem_of_getElem? (i := 196) rfl) rfl
theorem wd_10_198 : Cond.laysFinal "SyntaxForgeModel" "SyntaxForgeModel" "theres" "[[Z" ∈ tw_tbl := tw_t10 (List.mem_of_getElem? (i := 198) rfl) rfl
theorem wd_10_200 : Cond.lays "SyntaxForgeModel" "SyntaxForgeModel" "goesOn" "Z" ∈ tw_tbl := tw_t10 (List.mem_of_getElem? (i := 200) rfl) rfl
theorem wd_10_202 : Cond.lays "SyntaxForgeModel" "SyntaxForgeModel" "lastPortion" "I" ∈ tw_tbl := tw_t10 (List.mem_of_getElem? (i := 202) rfl) rfl
theorem wd_10_204 : Cond.lays "SyntaxForgeModel" "SyntaxForgeModel" "begun" "I" ∈ tw_tbl := tw_t10 (List.mem_of_getElem? (i := 204) rfl) rfl
theorem wd_10_206 : Cond.lays "SyntaxForgeModel" "SyntaxForgeModel" "gathered" "J" ∈ tw_tbl := tw_t10 (List.mem_of_getElem? (i := 206) rfl) rfl
theorem wd_10_208 : Cond.lays "SyntaxForgeModel" "SyntaxForgeModel" "gatheredSize" "I" ∈ tw_tbl := tw_t10 (List.mem_of_getElem? (i := 208) rfl) rfl
theorem wd_10_38 : Cond.lays "SyntaxForgeModel$Chars" "SyntaxForgeModel$Chars" "row" "[C" ∈ tw_tbl := tw_t10 (List.mem_of_getElem? (i := 38) rfl) rfl
theorem wd_10_40 : Cond.lays "SyntaxForgeModel$Chars" "SyntaxForgeModel$Chars" "n" "I" ∈ tw_tbl := tw_t10 (List.mem_of_getElem? (i := 40) rfl) rfl
theorem wd_12_63 : Cond.lays "SyntaxForgeModel$Module" "SyntaxForgeModel$Module" "names" "[Ljava/lang/String;" ∈ tw_tbl := tw_t12 (List.mem_of_getElem? (i := 63) rfl) rfl
theorem wd_12_65 : Cond.lays "SyntaxForgeModel$Module" "SyntaxForgeModel$Module" "types" "[LSyntaxForgeModel$Type;" ∈ tw_tbl := tw_t12 (List.mem_of_getElem? (i := 65) rfl) rfl
theorem wd_12_67 : Cond.lays "SyntaxForgeModel$Module" "SyntaxForgeModel$Module" "count" "I" ∈ tw_tbl := tw_t12 (List.mem_of_getElem? (i := 67) rfl) rfl
theorem wd_12_69 : Cond.lays "SyntaxForgeModel$Module" "SyntaxForgeModel$Module" "tags" "I" ∈ tw_tbl := tw_t12 (List.mem_of_getElem? (i := 69) rfl) rfl
def R_Bytes : String := "SyntaxForge$Bytes"
def F_Bytes : u_T := fun k => match k with
  | 0 => ("SyntaxForge$Bytes", "at", "[B", false)
  | _ => ("SyntaxForge$Bytes", "length", "I", false)
def t_Bytes : Nat → FieldType := fun k => match k with
  | 0 => .array .byte
  | _ => .int
theorem n_Bytes : ∀ a, a < 2 → ∀ b, b < 2 → a ≠ b → (F_Bytes a).2.1 ≠ (F_Bytes b).2.1 := by decide +kernel
theorem t_Bytes_ok : ∀ k, k < 2 → parseFieldDescriptor (F_Bytes k).2.2.1 = some (t_Bytes k) := by decide +kernel
def R_AL : String := "java/util/ArrayList"
def F_AL : u_T := fun k => match k with
  | 0 => ("java/util/ArrayList", "elementData", "[Ljava/lang/Object;", false)
  | 1 => ("java/util/ArrayList", "size", "I", false)
  | _ => ("java/util/AbstractList", "modCount", "I", false)
def t_AL : Nat → FieldType := fun k => match k with
  | 0 => .array (.object "java/lang/Object")
  | 1 => .int
  | _ => .int
theorem n_AL : ∀ a, a < 3 → ∀ b, b < 3 → a ≠ b → (F_AL a).2.1 ≠ (F_AL b).2.1 := by decide +kernel
theorem t_AL_ok : ∀ k, k < 3 → parseFieldDescriptor (F_AL k).2.2.1 = some (t_AL k) := by decide +kernel
def R_Values : String := "SyntaxForge$Values"
def F_Values : u_T := fun k => match k with
  | 0 => ("SyntaxForge$Values", "all", "Ljava/util/ArrayList;", true)
  | 1 => ("SyntaxForge$Values", "data", "LSyntaxForge$Bytes;", true)
  | _ => ("SyntaxForge$Values", "used", "I", false)
def t_Values : Nat → FieldType := fun k => match k with
  | 0 => .object "java/util/ArrayList"
  | 1 => .object "SyntaxForge$Bytes"
  | _ => .int
theorem n_Values : ∀ a, a < 3 → ∀ b, b < 3 → a ≠ b → (F_Values a).2.1 ≠ (F_Values b).2.1 := by decide +kernel
theorem t_Values_ok : ∀ k, k < 3 → parseFieldDescriptor (F_Values k).2.2.1 = some (t_Values k) := by decide +kernel
def R_Schema : String := "SyntaxForge$Schema"
def F_Schema : u_T := fun k => match k with
  | 0 => ("SyntaxForge$Schema", "assigned", "Ljava/util/ArrayList;", true)
  | 1 => ("SyntaxForge$Schema", "defaults", "LSyntaxForge$Values;", true)
  | 2 => ("SyntaxForge$Schema", "mode", "I", false)
  | 3 => ("SyntaxForge$Schema", "broken", "Z", false)
  | 4 => ("SyntaxForge$Schema", "types", "Ljava/util/ArrayList;", true)
  | 5 => ("SyntaxForge$Schema", "standards", "Ljava/util/ArrayList;", true)
  | 6 => ("SyntaxForge$Schema", "path", "Ljava/util/ArrayList;", true)
  | 7 => ("SyntaxForge$Schema", "words", "LSyntaxForge$Bytes;", true)
  | 8 => ("SyntaxForge$Schema", "letters", "LSyntaxForge$Bytes;", true)
  | 9 => ("SyntaxForge$Schema", "buckets", "[I", true)
  | 10 => ("SyntaxForge$Schema", "starts", "[I", false)
  | 11 => ("SyntaxForge$Schema", "lengths", "[I", false)
  | 12 => ("SyntaxForge$Schema", "nexts", "[I", false)
  | 13 => ("SyntaxForge$Schema", "owners", "[I", false)
  | 14 => ("SyntaxForge$Schema", "symbols", "I", false)
  | 15 => ("SyntaxForge$Schema", "steps", "[I", false)
  | 16 => ("SyntaxForge$Schema", "keys", "[J", false)
  | 17 => ("SyntaxForge$Schema", "stamps", "[I", false)
  | _ => ("SyntaxForge$Schema", "stamp", "I", false)
def t_Schema : Nat → FieldType := fun k => match k with
  | 0 => .object "java/util/ArrayList"
  | 1 => .object "SyntaxForge$Values"
  | 2 => .int
  | 3 => .boolean
  | 4 => .object "java/util/ArrayList"
  | 5 => .object "java/util/ArrayList"
  | 6 => .object "java/util/ArrayList"
  | 7 => .object "SyntaxForge$Bytes"
  | 8 => .object "SyntaxForge$Bytes"
  | 9 => .array .int
  | 10 => .array .int
  | 11 => .array .int
  | 12 => .array .int
  | 13 => .array .int
  | 14 => .int
  | 15 => .array .int
  | 16 => .array .long
  | 17 => .array .int
  | _ => .int
theorem n_Schema : ∀ a, a < 19 → ∀ b, b < 19 → a ≠ b → (F_Schema a).2.1 ≠ (F_Schema b).2.1 := by decide +kernel
theorem t_Schema_ok : ∀ k, k < 19 → parseFieldDescriptor (F_Schema k).2.2.1 = some (t_Schema k) := by decide +kernel
def R_Scanner : String := "SyntaxForge$Scanner"
def F_Scanner : u_T := fun k => match k with
  | 0 => ("SyntaxForge$Scanner", "kinds", "[I", false)
  | 1 => ("SyntaxForge$Scanner", "places", "[I", false)
  | 2 => ("SyntaxForge$Scanner", "numbers", "[J", false)
  | 3 => ("SyntaxForge$Scanner", "count", "I", false)
  | 4 => ("SyntaxForge$Scanner", "told", "I", false)
  | 5 => ("SyntaxForge$Scanner", "tape", "LSyntaxForge$Bytes;", false)
  | 6 => ("SyntaxForge$Scanner", "names", "LSyntaxForge$Schema;", false)
  | _ => ("SyntaxForge$Scanner", "adding", "Z", false)
def t_Scanner : Nat → FieldType := fun k => match k with
  | 0 => .array .int
  | 1 => .array .int
  | 2 => .array .long
  | 3 => .int
  | 4 => .int
  | 5 => .object "SyntaxForge$Bytes"
  | 6 => .object "SyntaxForge$Schema"
  | _ => .boolean
theorem n_Scanner : ∀ a, a < 8 → ∀ b, b < 8 → a ≠ b → (F_Scanner a).2.1 ≠ (F_Scanner b).2.1 := by decide +kernel
theorem t_Scanner_ok : ∀ k, k < 8 → parseFieldDescriptor (F_Scanner k).2.2.1 = some (t_Scanner k) := by decide +kernel
def R_Parser : String := "SyntaxForge$Parser"
def F_Parser : u_T := fun k => match k with
  | 0 => ("SyntaxForge$Parser", "scanner", "LSyntaxForge$Scanner;", true)
  | 1 => ("SyntaxForge$Parser", "unended", "[LSyntaxForge$Value;", true)
  | 2 => ("SyntaxForge$Parser", "tape", "LSyntaxForge$Bytes;", false)
  | 3 => ("SyntaxForge$Parser", "schema", "LSyntaxForge$Schema;", false)
  | 4 => ("SyntaxForge$Parser", "values", "LSyntaxForge$Values;", false)
  | 5 => ("SyntaxForge$Parser", "at", "I", false)
  | _ => ("SyntaxForge$Parser", "label", "I", false)
def t_Parser : Nat → FieldType := fun k => match k with
  | 0 => .object "SyntaxForge$Scanner"
  | 1 => .array (.object "SyntaxForge$Value")
  | 2 => .object "SyntaxForge$Bytes"
  | 3 => .object "SyntaxForge$Schema"
  | 4 => .object "SyntaxForge$Values"
  | 5 => .int
  | _ => .int
theorem n_Parser : ∀ a, a < 7 → ∀ b, b < 7 → a ≠ b → (F_Parser a).2.1 ≠ (F_Parser b).2.1 := by decide +kernel
theorem t_Parser_ok : ∀ k, k < 7 → parseFieldDescriptor (F_Parser k).2.2.1 = some (t_Parser k) := by decide +kernel
def R_Der : String := "SyntaxForge$Der"
def F_Der : u_T := fun k => match k with
  | 0 => ("SyntaxForge$Der", "row", "[LSyntaxForge$Value;", false)
  | 1 => ("SyntaxForge$Der", "merged", "[LSyntaxForge$Value;", false)
  | _ => ("SyntaxForge$Der", "widths", "[I", false)
def t_Der : Nat → FieldType := fun k => match k with
  | 0 => .array (.object "SyntaxForge$Value")
  | 1 => .array (.object "SyntaxForge$Value")
  | _ => .array .int
theorem n_Der : ∀ a, a < 3 → ∀ b, b < 3 → a ≠ b → (F_Der a).2.1 ≠ (F_Der b).2.1 := by decide +kernel
theorem t_Der_ok : ∀ k, k < 3 → parseFieldDescriptor (F_Der k).2.2.1 = some (t_Der k) := by decide +kernel
def R_Ber : String := "SyntaxForge$BerReader"
def F_Ber : u_T := fun k => match k with
  | 0 => ("SyntaxForge$BerReader", "values", "LSyntaxForge$Values;", true)
  | 1 => ("SyntaxForge$BerReader", "order", "LSyntaxForge$Der;", true)
  | 2 => ("SyntaxForge$BerReader", "ends", "[I", true)
  | 3 => ("SyntaxForge$BerReader", "limits", "[I", true)
  | 4 => ("SyntaxForge$BerReader", "in", "LSyntaxForge$Bytes;", false)
  | 5 => ("SyntaxForge$BerReader", "schema", "LSyntaxForge$Schema;", false)
  | 6 => ("SyntaxForge$BerReader", "strict", "Z", false)
  | 7 => ("SyntaxForge$BerReader", "at", "I", false)
  | 8 => ("SyntaxForge$BerReader", "tag", "J", false)
  | 9 => ("SyntaxForge$BerReader", "constructed", "Z", false)
  | _ => ("SyntaxForge$BerReader", "stop", "I", false)
def t_Ber : Nat → FieldType := fun k => match k with
  | 0 => .object "SyntaxForge$Values"
  | 1 => .object "SyntaxForge$Der"
  | 2 => .array .int
  | 3 => .array .int
  | 4 => .object "SyntaxForge$Bytes"
  | 5 => .object "SyntaxForge$Schema"
  | 6 => .boolean
  | 7 => .int
  | 8 => .long
  | 9 => .boolean
  | _ => .int
theorem n_Ber : ∀ a, a < 11 → ∀ b, b < 11 → a ≠ b → (F_Ber a).2.1 ≠ (F_Ber b).2.1 := by decide +kernel
theorem t_Ber_ok : ∀ k, k < 11 → parseFieldDescriptor (F_Ber k).2.2.1 = some (t_Ber k) := by decide +kernel
def R_PerW : String := "SyntaxForge$PerWriter"
def F_PerW : u_T := fun k => match k with
  | 0 => ("SyntaxForge$PerWriter", "out", "LSyntaxForge$Bytes;", false)
  | _ => ("SyntaxForge$PerWriter", "at", "I", false)
def t_PerW : Nat → FieldType := fun k => match k with
  | 0 => .object "SyntaxForge$Bytes"
  | _ => .int
theorem n_PerW : ∀ a, a < 2 → ∀ b, b < 2 → a ≠ b → (F_PerW a).2.1 ≠ (F_PerW b).2.1 := by decide +kernel
theorem t_PerW_ok : ∀ k, k < 2 → parseFieldDescriptor (F_PerW k).2.2.1 = some (t_PerW k) := by decide +kernel
def R_PerR : String := "SyntaxForge$PerReader"
def F_PerR : u_T := fun k => match k with
  | 0 => ("SyntaxForge$PerReader", "values", "LSyntaxForge$Values;", true)
  | 1 => ("SyntaxForge$PerReader", "in", "LSyntaxForge$Bytes;", false)
  | 2 => ("SyntaxForge$PerReader", "at", "I", false)
  | 3 => ("SyntaxForge$PerReader", "limit", "I", false)
  | 4 => ("SyntaxForge$PerReader", "listed", "I", false)
  | _ => ("SyntaxForge$PerReader", "strange", "I", false)
def t_PerR : Nat → FieldType := fun k => match k with
  | 0 => .object "SyntaxForge$Values"
  | 1 => .object "SyntaxForge$Bytes"
  | 2 => .int
  | 3 => .int
  | 4 => .int
  | _ => .int
theorem n_PerR : ∀ a, a < 6 → ∀ b, b < 6 → a ≠ b → (F_PerR a).2.1 ≠ (F_PerR b).2.1 := by decide +kernel
theorem t_PerR_ok : ∀ k, k < 6 → parseFieldDescriptor (F_PerR k).2.2.1 = some (t_PerR k) := by decide +kernel
def R_SF : String := "SyntaxForge"
def F_SF : u_T := fun k => match k with
  | 0 => ("SyntaxForge", "tape", "LSyntaxForge$Bytes;", false)
  | 1 => ("SyntaxForge", "taken", "LSyntaxForge$Bytes;", false)
  | 2 => ("SyntaxForge", "result", "LSyntaxForge$Bytes;", false)
  | 3 => ("SyntaxForge", "out", "LSyntaxForge$Bytes;", false)
  | 4 => ("SyntaxForge", "hasText", "Z", false)
  | 5 => ("SyntaxForge", "schema", "LSyntaxForge$Schema;", false)
  | 6 => ("SyntaxForge", "spare", "LSyntaxForge$Schema;", false)
  | 7 => ("SyntaxForge", "scanner", "LSyntaxForge$Scanner;", true)
  | 8 => ("SyntaxForge", "parser", "LSyntaxForge$Parser;", true)
  | 9 => ("SyntaxForge", "values", "LSyntaxForge$Values;", true)
  | 10 => ("SyntaxForge", "der", "LSyntaxForge$Der;", true)
  | 11 => ("SyntaxForge", "berReader", "LSyntaxForge$BerReader;", true)
  | 12 => ("SyntaxForge", "perWriter", "LSyntaxForge$PerWriter;", true)
  | _ => ("SyntaxForge", "perReader", "LSyntaxForge$PerReader;", true)
def t_SF : Nat → FieldType := fun k => match k with
  | 0 => .object "SyntaxForge$Bytes"
  | 1 => .object "SyntaxForge$Bytes"
  | 2 => .object "SyntaxForge$Bytes"
  | 3 => .object "SyntaxForge$Bytes"
  | 4 => .boolean
  | 5 => .object "SyntaxForge$Schema"
  | 6 => .object "SyntaxForge$Schema"
  | 7 => .object "SyntaxForge$Scanner"
  | 8 => .object "SyntaxForge$Parser"
  | 9 => .object "SyntaxForge$Values"
  | 10 => .object "SyntaxForge$Der"
  | 11 => .object "SyntaxForge$BerReader"
  | 12 => .object "SyntaxForge$PerWriter"
  | _ => .object "SyntaxForge$PerReader"
theorem n_SF : ∀ a, a < 14 → ∀ b, b < 14 → a ≠ b → (F_SF a).2.1 ≠ (F_SF b).2.1 := by decide +kernel
theorem t_SF_ok : ∀ k, k < 14 → parseFieldDescriptor (F_SF k).2.2.1 = some (t_SF k) := by decide +kernel
def R_Mo : String := "SyntaxForgeModel"
def F_Mo : u_T := fun k => match k with
  | 0 => ("SyntaxForgeModel", "failed", "I", false)
  | 1 => ("SyntaxForgeModel", "tape", "[B", true)
  | 2 => ("SyntaxForgeModel", "taped", "I", false)
  | 3 => ("SyntaxForgeModel", "result", "[B", true)
  | 4 => ("SyntaxForgeModel", "size", "I", false)
  | 5 => ("SyntaxForgeModel", "place", "I", false)
  | 6 => ("SyntaxForgeModel", "signs", "[Ljava/lang/String;", true)
  | 7 => ("SyntaxForgeModel", "keptWords", "[Ljava/lang/String;", true)
  | 8 => ("SyntaxForgeModel", "token", "I", false)
  | 9 => ("SyntaxForgeModel", "from", "I", false)
  | 10 => ("SyntaxForgeModel", "to", "I", false)
  | 11 => ("SyntaxForgeModel", "number", "J", false)
  | 12 => ("SyntaxForgeModel", "word", "Ljava/lang/String;", false)
  | 13 => ("SyntaxForgeModel", "at", "I", false)
  | 14 => ("SyntaxForgeModel", "valuesOpen", "I", false)
  | 15 => ("SyntaxForgeModel", "typesOpen", "I", false)
  | 16 => ("SyntaxForgeModel", "spelled", "LSyntaxForgeModel$Chars;", true)
  | 17 => ("SyntaxForgeModel", "pieced", "LSyntaxForgeModel$Chars;", true)
  | 18 => ("SyntaxForgeModel", "hexes", "LSyntaxForgeModel$Chars;", true)
  | 19 => ("SyntaxForgeModel", "words", "[Ljava/lang/String;", false)
  | 20 => ("SyntaxForgeModel", "nextWords", "[I", false)
  | 21 => ("SyntaxForgeModel", "firstWords", "[I", true)
  | 22 => ("SyntaxForgeModel", "wordCount", "I", false)
  | 23 => ("SyntaxForgeModel", "pool", "[LSyntaxForgeModel$Value;", false)
  | 24 => ("SyntaxForgeModel", "pooled", "I", false)
  | 25 => ("SyntaxForgeModel", "pooling", "Z", false)
  | 26 => ("SyntaxForgeModel", "module", "LSyntaxForgeModel$Module;", false)
  | 27 => ("SyntaxForgeModel", "reading", "LSyntaxForgeModel$Module;", false)
  | 28 => ("SyntaxForgeModel", "chain", "[LSyntaxForgeModel$Type;", false)
  | 29 => ("SyntaxForgeModel", "waiting", "[LSyntaxForgeModel$Type;", false)
  | 30 => ("SyntaxForgeModel", "stamp", "I", false)
  | 31 => ("SyntaxForgeModel", "settledNow", "Z", false)
  | 32 => ("SyntaxForgeModel", "back", "[B", true)
  | 33 => ("SyntaxForgeModel", "spare", "[B", true)
  | 34 => ("SyntaxForgeModel", "pos", "I", false)
  | 35 => ("SyntaxForgeModel", "packed", "[B", true)
  | 36 => ("SyntaxForgeModel", "bits", "I", false)
  | 37 => ("SyntaxForgeModel", "in", "I", false)
  | 38 => ("SyntaxForgeModel", "end", "I", false)
  | 39 => ("SyntaxForgeModel", "strict", "Z", false)
  | 40 => ("SyntaxForgeModel", "within", "I", false)
  | 41 => ("SyntaxForgeModel", "gotTag", "J", false)
  | 42 => ("SyntaxForgeModel", "gotMany", "Z", false)
  | 43 => ("SyntaxForgeModel", "gotStop", "I", false)
  | 44 => ("SyntaxForgeModel", "closed", "Z", false)
  | 45 => ("SyntaxForgeModel", "bit", "J", false)
  | 46 => ("SyntaxForgeModel", "bitEnd", "J", false)
  | 47 => ("SyntaxForgeModel", "theres", "[[Z", true)
  | 48 => ("SyntaxForgeModel", "goesOn", "Z", false)
  | 49 => ("SyntaxForgeModel", "lastPortion", "I", false)
  | 50 => ("SyntaxForgeModel", "begun", "I", false)
  | 51 => ("SyntaxForgeModel", "gathered", "J", false)
  | _ => ("SyntaxForgeModel", "gatheredSize", "I", false)
def t_Mo : Nat → FieldType := fun k => match k with
  | 0 => .int
  | 1 => .array .byte
  | 2 => .int
  | 3 => .array .byte
  | 4 => .int
  | 5 => .int
  | 6 => .array (.object "java/lang/String")
  | 7 => .array (.object "java/lang/String")
  | 8 => .int
  | 9 => .int
  | 10 => .int
  | 11 => .long
  | 12 => .object "java/lang/String"
  | 13 => .int
  | 14 => .int
  | 15 => .int
  | 16 => .object "SyntaxForgeModel$Chars"
  | 17 => .object "SyntaxForgeModel$Chars"
  | 18 => .object "SyntaxForgeModel$Chars"
  | 19 => .array (.object "java/lang/String")
  | 20 => .array .int
  | 21 => .array .int
  | 22 => .int
  | 23 => .array (.object "SyntaxForgeModel$Value")
  | 24 => .int
  | 25 => .boolean
  | 26 => .object "SyntaxForgeModel$Module"
  | 27 => .object "SyntaxForgeModel$Module"
  | 28 => .array (.object "SyntaxForgeModel$Type")
  | 29 => .array (.object "SyntaxForgeModel$Type")
  | 30 => .int
  | 31 => .boolean
  | 32 => .array .byte
  | 33 => .array .byte
  | 34 => .int
  | 35 => .array .byte
  | 36 => .int
  | 37 => .int
  | 38 => .int
  | 39 => .boolean
  | 40 => .int
  | 41 => .long
  | 42 => .boolean
  | 43 => .int
  | 44 => .boolean
  | 45 => .long
  | 46 => .long
  | 47 => .array (.array .boolean)
  | 48 => .boolean
  | 49 => .int
  | 50 => .int
  | 51 => .long
  | _ => .int
theorem n_Mo : ∀ a, a < 53 → ∀ b, b < 53 → a ≠ b → (F_Mo a).2.1 ≠ (F_Mo b).2.1 := by decide +kernel
theorem t_Mo_ok : ∀ k, k < 53 → parseFieldDescriptor (F_Mo k).2.2.1 = some (t_Mo k) := by decide +kernel
def R_Chars : String := "SyntaxForgeModel$Chars"
def F_Chars : u_T := fun k => match k with
  | 0 => ("SyntaxForgeModel$Chars", "row", "[C", false)
  | _ => ("SyntaxForgeModel$Chars", "n", "I", false)
def t_Chars : Nat → FieldType := fun k => match k with
  | 0 => .array .char
  | _ => .int
theorem n_Chars : ∀ a, a < 2 → ∀ b, b < 2 → a ≠ b → (F_Chars a).2.1 ≠ (F_Chars b).2.1 := by decide +kernel
theorem t_Chars_ok : ∀ k, k < 2 → parseFieldDescriptor (F_Chars k).2.2.1 = some (t_Chars k) := by decide +kernel
def R_MoMod : String := "SyntaxForgeModel$Module"
def F_MoMod : u_T := fun k => match k with
  | 0 => ("SyntaxForgeModel$Module", "names", "[Ljava/lang/String;", false)
  | 1 => ("SyntaxForgeModel$Module", "types", "[LSyntaxForgeModel$Type;", false)
  | 2 => ("SyntaxForgeModel$Module", "count", "I", false)
  | _ => ("SyntaxForgeModel$Module", "tags", "I", false)
def t_MoMod : Nat → FieldType := fun k => match k with
  | 0 => .array (.object "java/lang/String")
  | 1 => .array (.object "SyntaxForgeModel$Type")
  | 2 => .int
  | _ => .int
theorem n_MoMod : ∀ a, a < 4 → ∀ b, b < 4 → a ≠ b → (F_MoMod a).2.1 ≠ (F_MoMod b).2.1 := by decide +kernel
theorem t_MoMod_ok : ∀ k, k < 4 → parseFieldDescriptor (F_MoMod k).2.2.1 = some (t_MoMod k) := by decide +kernel
def R_AbL : String := "java/util/AbstractList"
def R_AbC : String := "java/util/AbstractCollection"
def R_Obj : String := "java/lang/Object"
def R_Arrs : String := "java/util/Arrays"
def R_Str : String := "java/lang/String"
def R_Lat : String := "java/lang/StringLatin1"
def R_Prec : String := "jdk/internal/util/Preconditions"
def R_Law : String := "SyntaxForgeLaw"
theorem i_Bytes : ∀ w ∈ u_ws R_Bytes F_Bytes 2, w ∈ tw_tbl := by
  show ∀ w ∈ [Cond.lays "SyntaxForge$Bytes" "SyntaxForge$Bytes" "at" "[B", Cond.lays "SyntaxForge$Bytes" "SyntaxForge$Bytes" "length" "I"], w ∈ tw_tbl
  exact List.forall_mem_cons.mpr ⟨wd_1_75, List.forall_mem_cons.mpr ⟨wd_1_77, fun _ h => absurd h List.not_mem_nil⟩⟩
theorem i_AL : ∀ w ∈ u_ws R_AL F_AL 3, w ∈ tw_tbl := by
  show ∀ w ∈ [Cond.lays "java/util/ArrayList" "java/util/ArrayList" "elementData" "[Ljava/lang/Object;", Cond.lays "java/util/ArrayList" "java/util/ArrayList" "size" "I", Cond.lays "java/util/ArrayList" "java/util/AbstractList" "modCount" "I"], w ∈ tw_tbl
  exact List.forall_mem_cons.mpr ⟨wd_1_106, List.forall_mem_cons.mpr ⟨wd_1_108, List.forall_mem_cons.mpr ⟨wd_1_110, fun _ h => absurd h List.not_mem_nil⟩⟩⟩
theorem i_Values : ∀ w ∈ u_ws R_Values F_Values 3, w ∈ tw_tbl := by
  show ∀ w ∈ [Cond.laysFinal "SyntaxForge$Values" "SyntaxForge$Values" "all" "Ljava/util/ArrayList;", Cond.laysFinal "SyntaxForge$Values" "SyntaxForge$Values" "data" "LSyntaxForge$Bytes;", Cond.lays "SyntaxForge$Values" "SyntaxForge$Values" "used" "I"], w ∈ tw_tbl
  exact List.forall_mem_cons.mpr ⟨wd_1_138, List.forall_mem_cons.mpr ⟨wd_1_140, List.forall_mem_cons.mpr ⟨wd_1_142, fun _ h => absurd h List.not_mem_nil⟩⟩⟩
theorem i_Schema : ∀ w ∈ u_ws R_Schema F_Schema 19, w ∈ tw_tbl := by
  show ∀ w ∈ [Cond.laysFinal "SyntaxForge$Schema" "SyntaxForge$Schema" "assigned" "Ljava/util/ArrayList;", Cond.laysFinal "SyntaxForge$Schema" "SyntaxForge$Schema" "defaults" "LSyntaxForge$Values;", Cond.lays "SyntaxForge$Schema" "SyntaxForge$Schema" "mode" "I", Cond.lays "SyntaxForge$Schema" "SyntaxForge$Schema" "broken" "Z", Cond.laysFinal "SyntaxForge$Schema" "SyntaxForge$Schema" "types" "Ljava/util/ArrayList;", Cond.laysFinal "SyntaxForge$Schema" "SyntaxForge$Schema" "standards" "Ljava/util/ArrayList;", Cond.laysFinal "SyntaxForge$Schema" "SyntaxForge$Schema" "path" "Ljava/util/ArrayList;", Cond.laysFinal "SyntaxForge$Schema" "SyntaxForge$Schema" "words" "LSyntaxForge$Bytes;", Cond.laysFinal "SyntaxForge$Schema" "SyntaxForge$Schema" "letters" "LSyntaxForge$Bytes;", Cond.laysFinal "SyntaxForge$Schema" "SyntaxForge$Schema" "buckets" "[I", Cond.lays "SyntaxForge$Schema" "SyntaxForge$Schema" "starts" "[I", Cond.lays "SyntaxForge$Schema" "SyntaxForge$Schema" "lengths" "[I", Cond.lays "SyntaxForge$Schema" "SyntaxForge$Schema" "nexts" "[I", Cond.lays "SyntaxForge$Schema" "SyntaxForge$Schema" "owners" "[I", Cond.lays "SyntaxForge$Schema" "SyntaxForge$Schema" "symbols" "I", Cond.lays "SyntaxForge$Schema" "SyntaxForge$Schema" "steps" "[I", Cond.lays "SyntaxForge$Schema" "SyntaxForge$Schema" "keys" "[J", Cond.lays "SyntaxForge$Schema" "SyntaxForge$Schema" "stamps" "[I", Cond.lays "SyntaxForge$Schema" "SyntaxForge$Schema" "stamp" "I"], w ∈ tw_tbl
  exact List.forall_mem_cons.mpr ⟨wd_2_41, List.forall_mem_cons.mpr ⟨wd_2_43, List.forall_mem_cons.mpr ⟨wd_2_45, List.forall_mem_cons.mpr ⟨wd_2_47, List.forall_mem_cons.mpr ⟨wd_2_49, List.forall_mem_cons.mpr ⟨wd_2_51, List.forall_mem_cons.mpr ⟨wd_2_53, List.forall_mem_cons.mpr ⟨wd_2_55, List.forall_mem_cons.mpr ⟨wd_2_57, List.forall_mem_cons.mpr ⟨wd_2_59, List.forall_mem_cons.mpr ⟨wd_2_61, List.forall_mem_cons.mpr ⟨wd_2_63, List.forall_mem_cons.mpr ⟨wd_2_65, List.forall_mem_cons.mpr ⟨wd_2_67, List.forall_mem_cons.mpr ⟨wd_2_69, List.forall_mem_cons.mpr ⟨wd_2_71, List.forall_mem_cons.mpr ⟨wd_2_73, List.forall_mem_cons.mpr ⟨wd_2_75, List.forall_mem_cons.mpr ⟨wd_2_77, fun _ h => absurd h List.not_mem_nil⟩⟩⟩⟩⟩⟩⟩⟩⟩⟩⟩⟩⟩⟩⟩⟩⟩⟩⟩
theorem i_Scanner : ∀ w ∈ u_ws R_Scanner F_Scanner 8, w ∈ tw_tbl := by
  show ∀ w ∈ [Cond.lays "SyntaxForge$Scanner" "SyntaxForge$Scanner" "kinds" "[I", Cond.lays "SyntaxForge$Scanner" "SyntaxForge$Scanner" "places" "[I", Cond.lays "SyntaxForge$Scanner" "SyntaxForge$Scanner" "numbers" "[J", Cond.lays "SyntaxForge$Scanner" "SyntaxForge$Scanner" "count" "I", Cond.lays "SyntaxForge$Scanner" "SyntaxForge$Scanner" "told" "I", Cond.lays "SyntaxForge$Scanner" "SyntaxForge$Scanner" "tape" "LSyntaxForge$Bytes;", Cond.lays "SyntaxForge$Scanner" "SyntaxForge$Scanner" "names" "LSyntaxForge$Schema;", Cond.lays "SyntaxForge$Scanner" "SyntaxForge$Scanner" "adding" "Z"], w ∈ tw_tbl
  exact List.forall_mem_cons.mpr ⟨wd_2_102, List.forall_mem_cons.mpr ⟨wd_2_104, List.forall_mem_cons.mpr ⟨wd_2_106, List.forall_mem_cons.mpr ⟨wd_2_108, List.forall_mem_cons.mpr ⟨wd_2_110, List.forall_mem_cons.mpr ⟨wd_2_112, List.forall_mem_cons.mpr ⟨wd_2_114, List.forall_mem_cons.mpr ⟨wd_2_116, fun _ h => absurd h List.not_mem_nil⟩⟩⟩⟩⟩⟩⟩⟩
theorem i_Parser : ∀ w ∈ u_ws R_Parser F_Parser 7, w ∈ tw_tbl := by
  show ∀ w ∈ [Cond.laysFinal "SyntaxForge$Parser" "SyntaxForge$Parser" "scanner" "LSyntaxForge$Scanner;", Cond.laysFinal "SyntaxForge$Parser" "SyntaxForge$Parser" "unended" "[LSyntaxForge$Value;", Cond.lays "SyntaxForge$Parser" "SyntaxForge$Parser" "tape" "LSyntaxForge$Bytes;", Cond.lays "SyntaxForge$Parser" "SyntaxForge$Parser" "schema" "LSyntaxForge$Schema;", Cond.lays "SyntaxForge$Parser" "SyntaxForge$Parser" "values" "LSyntaxForge$Values;", Cond.lays "SyntaxForge$Parser" "SyntaxForge$Parser" "at" "I", Cond.lays "SyntaxForge$Parser" "SyntaxForge$Parser" "label" "I"], w ∈ tw_tbl
  exact List.forall_mem_cons.mpr ⟨wd_2_134, List.forall_mem_cons.mpr ⟨wd_2_136, List.forall_mem_cons.mpr ⟨wd_2_138, List.forall_mem_cons.mpr ⟨wd_2_140, List.forall_mem_cons.mpr ⟨wd_2_142, List.forall_mem_cons.mpr ⟨wd_2_144, List.forall_mem_cons.mpr ⟨wd_2_146, fun _ h => absurd h List.not_mem_nil⟩⟩⟩⟩⟩⟩⟩
theorem i_Der : ∀ w ∈ u_ws R_Der F_Der 3, w ∈ tw_tbl := by
  show ∀ w ∈ [Cond.lays "SyntaxForge$Der" "SyntaxForge$Der" "row" "[LSyntaxForge$Value;", Cond.lays "SyntaxForge$Der" "SyntaxForge$Der" "merged" "[LSyntaxForge$Value;", Cond.lays "SyntaxForge$Der" "SyntaxForge$Der" "widths" "[I"], w ∈ tw_tbl
  exact List.forall_mem_cons.mpr ⟨wd_2_161, List.forall_mem_cons.mpr ⟨wd_2_163, List.forall_mem_cons.mpr ⟨wd_2_165, fun _ h => absurd h List.not_mem_nil⟩⟩⟩
theorem i_Ber : ∀ w ∈ u_ws R_Ber F_Ber 11, w ∈ tw_tbl := by
  show ∀ w ∈ [Cond.laysFinal "SyntaxForge$BerReader" "SyntaxForge$BerReader" "values" "LSyntaxForge$Values;", Cond.laysFinal "SyntaxForge$BerReader" "SyntaxForge$BerReader" "order" "LSyntaxForge$Der;", Cond.laysFinal "SyntaxForge$BerReader" "SyntaxForge$BerReader" "ends" "[I", Cond.laysFinal "SyntaxForge$BerReader" "SyntaxForge$BerReader" "limits" "[I", Cond.lays "SyntaxForge$BerReader" "SyntaxForge$BerReader" "in" "LSyntaxForge$Bytes;", Cond.lays "SyntaxForge$BerReader" "SyntaxForge$BerReader" "schema" "LSyntaxForge$Schema;", Cond.lays "SyntaxForge$BerReader" "SyntaxForge$BerReader" "strict" "Z", Cond.lays "SyntaxForge$BerReader" "SyntaxForge$BerReader" "at" "I", Cond.lays "SyntaxForge$BerReader" "SyntaxForge$BerReader" "tag" "J", Cond.lays "SyntaxForge$BerReader" "SyntaxForge$BerReader" "constructed" "Z", Cond.lays "SyntaxForge$BerReader" "SyntaxForge$BerReader" "stop" "I"], w ∈ tw_tbl
  exact List.forall_mem_cons.mpr ⟨wd_2_185, List.forall_mem_cons.mpr ⟨wd_2_187, List.forall_mem_cons.mpr ⟨wd_2_189, List.forall_mem_cons.mpr ⟨wd_2_191, List.forall_mem_cons.mpr ⟨wd_2_193, List.forall_mem_cons.mpr ⟨wd_2_195, List.forall_mem_cons.mpr ⟨wd_2_197, List.forall_mem_cons.mpr ⟨wd_2_199, List.forall_mem_cons.mpr ⟨wd_2_201, List.forall_mem_cons.mpr ⟨wd_2_203, List.forall_mem_cons.mpr ⟨wd_2_205, fun _ h => absurd h List.not_mem_nil⟩⟩⟩⟩⟩⟩⟩⟩⟩⟩⟩
theorem i_PerW : ∀ w ∈ u_ws R_PerW F_PerW 2, w ∈ tw_tbl := by
  show ∀ w ∈ [Cond.lays "SyntaxForge$PerWriter" "SyntaxForge$PerWriter" "out" "LSyntaxForge$Bytes;", Cond.lays "SyntaxForge$PerWriter" "SyntaxForge$PerWriter" "at" "I"], w ∈ tw_tbl
  exact List.forall_mem_cons.mpr ⟨wd_2_216, List.forall_mem_cons.mpr ⟨wd_2_218, fun _ h => absurd h List.not_mem_nil⟩⟩
theorem i_PerR : ∀ w ∈ u_ws R_PerR F_PerR 6, w ∈ tw_tbl := by
  show ∀ w ∈ [Cond.laysFinal "SyntaxForge$PerReader" "SyntaxForge$PerReader" "values" "LSyntaxForge$Values;", Cond.lays "SyntaxForge$PerReader" "SyntaxForge$PerReader" "in" "LSyntaxForge$Bytes;", Cond.lays "SyntaxForge$PerReader" "SyntaxForge$PerReader" "at" "I", Cond.lays "SyntaxForge$PerReader" "SyntaxForge$PerReader" "limit" "I", Cond.lays "SyntaxForge$PerReader" "SyntaxForge$PerReader" "listed" "I", Cond.lays "SyntaxForge$PerReader" "SyntaxForge$PerReader" "strange" "I"], w ∈ tw_tbl
  exact List.forall_mem_cons.mpr ⟨wd_2_233, List.forall_mem_cons.mpr ⟨wd_2_235, List.forall_mem_cons.mpr ⟨wd_2_237, List.forall_mem_cons.mpr ⟨wd_2_239, List.forall_mem_cons.mpr ⟨wd_3_1, List.forall_mem_cons.mpr ⟨wd_3_3, fun _ h => absurd h List.not_mem_nil⟩⟩⟩⟩⟩⟩
theorem i_SF : ∀ w ∈ u_ws R_SF F_SF 14, w ∈ tw_tbl := by
  show ∀ w ∈ [Cond.lays "SyntaxForge" "SyntaxForge" "tape" "LSyntaxForge$Bytes;", Cond.lays "SyntaxForge" "SyntaxForge" "taken" "LSyntaxForge$Bytes;", Cond.lays "SyntaxForge" "SyntaxForge" "result" "LSyntaxForge$Bytes;", Cond.lays "SyntaxForge" "SyntaxForge" "out" "LSyntaxForge$Bytes;", Cond.lays "SyntaxForge" "SyntaxForge" "hasText" "Z", Cond.lays "SyntaxForge" "SyntaxForge" "schema" "LSyntaxForge$Schema;", Cond.lays "SyntaxForge" "SyntaxForge" "spare" "LSyntaxForge$Schema;", Cond.laysFinal "SyntaxForge" "SyntaxForge" "scanner" "LSyntaxForge$Scanner;", Cond.laysFinal "SyntaxForge" "SyntaxForge" "parser" "LSyntaxForge$Parser;", Cond.laysFinal "SyntaxForge" "SyntaxForge" "values" "LSyntaxForge$Values;", Cond.laysFinal "SyntaxForge" "SyntaxForge" "der" "LSyntaxForge$Der;", Cond.laysFinal "SyntaxForge" "SyntaxForge" "berReader" "LSyntaxForge$BerReader;", Cond.laysFinal "SyntaxForge" "SyntaxForge" "perWriter" "LSyntaxForge$PerWriter;", Cond.laysFinal "SyntaxForge" "SyntaxForge" "perReader" "LSyntaxForge$PerReader;"], w ∈ tw_tbl
  exact List.forall_mem_cons.mpr ⟨wd_3_20, List.forall_mem_cons.mpr ⟨wd_3_22, List.forall_mem_cons.mpr ⟨wd_3_24, List.forall_mem_cons.mpr ⟨wd_3_26, List.forall_mem_cons.mpr ⟨wd_3_28, List.forall_mem_cons.mpr ⟨wd_3_30, List.forall_mem_cons.mpr ⟨wd_3_32, List.forall_mem_cons.mpr ⟨wd_3_34, List.forall_mem_cons.mpr ⟨wd_3_36, List.forall_mem_cons.mpr ⟨wd_3_38, List.forall_mem_cons.mpr ⟨wd_3_40, List.forall_mem_cons.mpr ⟨wd_3_42, List.forall_mem_cons.mpr ⟨wd_3_44, List.forall_mem_cons.mpr ⟨wd_3_46, fun _ h => absurd h List.not_mem_nil⟩⟩⟩⟩⟩⟩⟩⟩⟩⟩⟩⟩⟩⟩
theorem i_Mo : ∀ w ∈ u_ws R_Mo F_Mo 53, w ∈ tw_tbl := by
  show ∀ w ∈ [Cond.lays "SyntaxForgeModel" "SyntaxForgeModel" "failed" "I", Cond.laysFinal "SyntaxForgeModel" "SyntaxForgeModel" "tape" "[B", Cond.lays "SyntaxForgeModel" "SyntaxForgeModel" "taped" "I", Cond.laysFinal "SyntaxForgeModel" "SyntaxForgeModel" "result" "[B", Cond.lays "SyntaxForgeModel" "SyntaxForgeModel" "size" "I", Cond.lays "SyntaxForgeModel" "SyntaxForgeModel" "place" "I", Cond.laysFinal "SyntaxForgeModel" "SyntaxForgeModel" "signs" "[Ljava/lang/String;", Cond.laysFinal "SyntaxForgeModel" "SyntaxForgeModel" "keptWords" "[Ljava/lang/String;", Cond.lays "SyntaxForgeModel" "SyntaxForgeModel" "token" "I", Cond.lays "SyntaxForgeModel" "SyntaxForgeModel" "from" "I", Cond.lays "SyntaxForgeModel" "SyntaxForgeModel" "to" "I", Cond.lays "SyntaxForgeModel" "SyntaxForgeModel" "number" "J", Cond.lays "SyntaxForgeModel" "SyntaxForgeModel" "word" "Ljava/lang/String;", Cond.lays "SyntaxForgeModel" "SyntaxForgeModel" "at" "I", Cond.lays "SyntaxForgeModel" "SyntaxForgeModel" "valuesOpen" "I", Cond.lays "SyntaxForgeModel" "SyntaxForgeModel" "typesOpen" "I", Cond.laysFinal "SyntaxForgeModel" "SyntaxForgeModel" "spelled" "LSyntaxForgeModel$Chars;", Cond.laysFinal "SyntaxForgeModel" "SyntaxForgeModel" "pieced" "LSyntaxForgeModel$Chars;", Cond.laysFinal "SyntaxForgeModel" "SyntaxForgeModel" "hexes" "LSyntaxForgeModel$Chars;", Cond.lays "SyntaxForgeModel" "SyntaxForgeModel" "words" "[Ljava/lang/String;", Cond.lays "SyntaxForgeModel" "SyntaxForgeModel" "nextWords" "[I", Cond.laysFinal "SyntaxForgeModel" "SyntaxForgeModel" "firstWords" "[I", Cond.lays "SyntaxForgeModel" "SyntaxForgeModel" "wordCount" "I", Cond.lays "SyntaxForgeModel" "SyntaxForgeModel" "pool" "[LSyntaxForgeModel$Value;", Cond.lays "SyntaxForgeModel" "SyntaxForgeModel" "pooled" "I", Cond.lays "SyntaxForgeModel" "SyntaxForgeModel" "pooling" "Z", Cond.lays "SyntaxForgeModel" "SyntaxForgeModel" "module" "LSyntaxForgeModel$Module;", Cond.lays "SyntaxForgeModel" "SyntaxForgeModel" "reading" "LSyntaxForgeModel$Module;", Cond.lays "SyntaxForgeModel" "SyntaxForgeModel" "chain" "[LSyntaxForgeModel$Type;", Cond.lays "SyntaxForgeModel" "SyntaxForgeModel" "waiting" "[LSyntaxForgeModel$Type;", Cond.lays "SyntaxForgeModel" "SyntaxForgeModel" "stamp" "I", Cond.lays "SyntaxForgeModel" "SyntaxForgeModel" "settledNow" "Z", Cond.laysFinal "SyntaxForgeModel" "SyntaxForgeModel" "back" "[B", Cond.laysFinal "SyntaxForgeModel" "SyntaxForgeModel" "spare" "[B", Cond.lays "SyntaxForgeModel" "SyntaxForgeModel" "pos" "I", Cond.laysFinal "SyntaxForgeModel" "SyntaxForgeModel" "packed" "[B", Cond.lays "SyntaxForgeModel" "SyntaxForgeModel" "bits" "I", Cond.lays "SyntaxForgeModel" "SyntaxForgeModel" "in" "I", Cond.lays "SyntaxForgeModel" "SyntaxForgeModel" "end" "I", Cond.lays "SyntaxForgeModel" "SyntaxForgeModel" "strict" "Z", Cond.lays "SyntaxForgeModel" "SyntaxForgeModel" "within" "I", Cond.lays "SyntaxForgeModel" "SyntaxForgeModel" "gotTag" "J", Cond.lays "SyntaxForgeModel" "SyntaxForgeModel" "gotMany" "Z", Cond.lays "SyntaxForgeModel" "SyntaxForgeModel" "gotStop" "I", Cond.lays "SyntaxForgeModel" "SyntaxForgeModel" "closed" "Z", Cond.lays "SyntaxForgeModel" "SyntaxForgeModel" "bit" "J", Cond.lays "SyntaxForgeModel" "SyntaxForgeModel" "bitEnd" "J", Cond.laysFinal "SyntaxForgeModel" "SyntaxForgeModel" "theres" "[[Z", Cond.lays "SyntaxForgeModel" "SyntaxForgeModel" "goesOn" "Z", Cond.lays "SyntaxForgeModel" "SyntaxForgeModel" "lastPortion" "I", Cond.lays "SyntaxForgeModel" "SyntaxForgeModel" "begun" "I", Cond.lays "SyntaxForgeModel" "SyntaxForgeModel" "gathered" "J", Cond.lays "SyntaxForgeModel" "SyntaxForgeModel" "gatheredSize" "I"], w ∈ tw_tbl
  exact List.forall_mem_cons.mpr ⟨wd_10_104, List.forall_mem_cons.mpr ⟨wd_10_106, List.forall_mem_cons.mpr ⟨wd_10_108, List.forall_mem_cons.mpr ⟨wd_10_110, List.forall_mem_cons.mpr ⟨wd_10_112, List.forall_mem_cons.mpr ⟨wd_10_114, List.forall_mem_cons.mpr ⟨wd_10_116, List.forall_mem_cons.mpr ⟨wd_10_118, List.forall_mem_cons.mpr ⟨wd_10_120, List.forall_mem_cons.mpr ⟨wd_10_122, List.forall_mem_cons.mpr ⟨wd_10_124, List.forall_mem_cons.mpr ⟨wd_10_126, List.forall_mem_cons.mpr ⟨wd_10_128, List.forall_mem_cons.mpr ⟨wd_10_130, List.forall_mem_cons.mpr ⟨wd_10_132, List.forall_mem_cons.mpr ⟨wd_10_134, List.forall_mem_cons.mpr ⟨wd_10_136, List.forall_mem_cons.mpr ⟨wd_10_138, List.forall_mem_cons.mpr ⟨wd_10_140, List.forall_mem_cons.mpr ⟨wd_10_142, List.forall_mem_cons.mpr ⟨wd_10_144, List.forall_mem_cons.mpr ⟨wd_10_146, List.forall_mem_cons.mpr ⟨wd_10_148, List.forall_mem_cons.mpr ⟨wd_10_150, List.forall_mem_cons.mpr ⟨wd_10_152, List.forall_mem_cons.mpr ⟨wd_10_154, List.forall_mem_cons.mpr ⟨wd_10_156, List.forall_mem_cons.mpr ⟨wd_10_158, List.forall_mem_cons.mpr ⟨wd_10_160, List.forall_mem_cons.mpr ⟨wd_10_162, List.forall_mem_cons.mpr ⟨wd_10_164, List.forall_mem_cons.mpr ⟨wd_10_166, List.forall_mem_cons.mpr ⟨wd_10_168, List.forall_mem_cons.mpr ⟨wd_10_170, List.forall_mem_cons.mpr ⟨wd_10_172, List.forall_mem_cons.mpr ⟨wd_10_174, List.forall_mem_cons.mpr ⟨wd_10_176, List.forall_mem_cons.mpr ⟨wd_10_178, List.forall_mem_cons.mpr ⟨wd_10_180, List.forall_mem_cons.mpr ⟨wd_10_182, List.forall_mem_cons.mpr ⟨wd_10_184, List.forall_mem_cons.mpr ⟨wd_10_186, List.forall_mem_cons.mpr ⟨wd_10_188, List.forall_mem_cons.mpr ⟨wd_10_190, List.forall_mem_cons.mpr ⟨wd_10_192, List.forall_mem_cons.mpr ⟨wd_10_194, List.forall_mem_cons.mpr ⟨wd_10_196, List.forall_mem_cons.mpr ⟨wd_10_198, List.forall_mem_cons.mpr ⟨wd_10_200, List.forall_mem_cons.mpr ⟨wd_10_202, List.forall_mem_cons.mpr ⟨wd_10_204, List.forall_mem_cons.mpr ⟨wd_10_206, List.forall_mem_cons.mpr ⟨wd_10_208, fun _ h => absurd h List.not_mem_nil⟩⟩⟩⟩⟩⟩⟩⟩⟩⟩⟩⟩⟩⟩⟩⟩⟩⟩⟩⟩⟩⟩⟩⟩⟩⟩⟩⟩⟩⟩⟩⟩⟩⟩⟩⟩⟩⟩⟩⟩⟩⟩⟩⟩⟩⟩⟩⟩⟩⟩⟩⟩⟩
theorem i_Chars : ∀ w ∈ u_ws R_Chars F_Chars 2, w ∈ tw_tbl := by
  show ∀ w ∈ [Cond.lays "SyntaxForgeModel$Chars" "SyntaxForgeModel$Chars" "row" "[C", Cond.lays "SyntaxForgeModel$Chars" "SyntaxForgeModel$Chars" "n" "I"], w ∈ tw_tbl
  exact List.forall_mem_cons.mpr ⟨wd_10_38, List.forall_mem_cons.mpr ⟨wd_10_40, fun _ h => absurd h List.not_mem_nil⟩⟩
theorem i_MoMod : ∀ w ∈ u_ws R_MoMod F_MoMod 4, w ∈ tw_tbl := by
  show ∀ w ∈ [Cond.lays "SyntaxForgeModel$Module" "SyntaxForgeModel$Module" "names" "[Ljava/lang/String;", Cond.lays "SyntaxForgeModel$Module" "SyntaxForgeModel$Module" "types" "[LSyntaxForgeModel$Type;", Cond.lays "SyntaxForgeModel$Module" "SyntaxForgeModel$Module" "count" "I", Cond.lays "SyntaxForgeModel$Module" "SyntaxForgeModel$Module" "tags" "I"], w ∈ tw_tbl
  exact List.forall_mem_cons.mpr ⟨wd_12_63, List.forall_mem_cons.mpr ⟨wd_12_65, List.forall_mem_cons.mpr ⟨wd_12_67, List.forall_mem_cons.mpr ⟨wd_12_69, fun _ h => absurd h List.not_mem_nil⟩⟩⟩⟩
abbrev classes : List vw_C := [(R_Bytes, F_Bytes, 2), (R_AL, F_AL, 3), (R_Values, F_Values, 3), (R_Schema, F_Schema, 19), (R_Scanner, F_Scanner, 8), (R_Parser, F_Parser, 7), (R_Der, F_Der, 3), (R_Ber, F_Ber, 11), (R_PerW, F_PerW, 2), (R_PerR, F_PerR, 6), (R_SF, F_SF, 14), (R_Mo, F_Mo, 53), (R_Chars, F_Chars, 2), (R_MoMod, F_MoMod, 4)]
