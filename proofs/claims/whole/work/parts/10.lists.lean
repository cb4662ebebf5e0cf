/-! names of lists and of the JDK methods that they reach: words by their places, records, decode rows, links (by program: wip/whole/mk10.py) -/
theorem iw_3 : Cond.initialized "java/util/AbstractCollection" ∈ xv_T := xv_in (List.mem_append_right _ (List.mem_of_getElem? (i := 3) (by decide +kernel))) (by decide +kernel)
theorem iw_4 : Cond.initialized "java/util/AbstractList" ∈ xv_T := xv_in (List.mem_append_right _ (List.mem_of_getElem? (i := 4) (by decide +kernel))) (by decide +kernel)
theorem iw_5 : Cond.initialized "java/util/ArrayList" ∈ xv_T := xv_in (List.mem_append_right _ (List.mem_of_getElem? (i := 5) (by decide +kernel))) (by decide +kernel)
theorem iw_15 : Cond.initialized "java/util/Objects" ∈ xv_T := xv_in (List.mem_append_right _ (List.mem_of_getElem? (i := 15) (by decide +kernel))) (by decide +kernel)
theorem iw_16 : Cond.initialized "jdk/internal/util/Preconditions" ∈ xv_T := xv_in (List.mem_append_right _ (List.mem_of_getElem? (i := 16) (by decide +kernel))) (by decide +kernel)
theorem iw_21 : Cond.initialized "java/lang/System" ∈ xv_T := xv_in (List.mem_append_right _ (List.mem_of_getElem? (i := 21) (by decide +kernel))) (by decide +kernel)
theorem iw_23 : Cond.initialized "jdk/internal/util/ArraysSupport" ∈ xv_T := xv_in (List.mem_append_right _ (List.mem_of_getElem? (i := 23) (by decide +kernel))) (by decide +kernel)
theorem iw_24 : Cond.initialized "java/lang/Math" ∈ xv_T := xv_in (List.mem_append_right _ (List.mem_of_getElem? (i := 24) (by decide +kernel))) (by decide +kernel)
theorem iw_25 : Cond.initialized "java/util/Arrays" ∈ xv_T := xv_in (List.mem_append_right _ (List.mem_of_getElem? (i := 25) (by decide +kernel))) (by decide +kernel)
theorem iw_39 : Cond.instanceMethod ⟨"java/lang/Object", "<init>", "()V"⟩ ∈ xv_T := xv_in (List.mem_append_right _ (List.mem_of_getElem? (i := 39) (by decide +kernel))) (by decide +kernel)
theorem iw_40 : Cond.code ⟨"java/lang/Object", "<init>", "()V"⟩ object_method_1_code 1 none ∈ xv_T := xv_in (List.mem_append_right _ (List.mem_of_getElem? (i := 40) (by decide +kernel))) (by decide +kernel)
theorem iw_51 : Cond.code ⟨"java/util/ArrayList", "<init>", "()V"⟩ prog_31_method_2_code 1 none ∈ xv_T := xv_in (List.mem_append_right _ (List.mem_of_getElem? (i := 51) (by decide +kernel))) (by decide +kernel)
theorem iw_52 : Cond.methodLink "java/util/ArrayList" 1 ⟨"java/util/AbstractList", "<init>", "()V"⟩ ∈ xv_T := xv_in (List.mem_append_right _ (List.mem_of_getElem? (i := 52) (by decide +kernel))) (by decide +kernel)
theorem iw_53 : Cond.instanceMethod ⟨"java/util/AbstractList", "<init>", "()V"⟩ ∈ xv_T := xv_in (List.mem_append_right _ (List.mem_of_getElem? (i := 53) (by decide +kernel))) (by decide +kernel)
theorem iw_54 : Cond.code ⟨"java/util/AbstractList", "<init>", "()V"⟩ prog_30_method_1_code 1 none ∈ xv_T := xv_in (List.mem_append_right _ (List.mem_of_getElem? (i := 54) (by decide +kernel))) (by decide +kernel)
theorem iw_55 : Cond.methodLink "java/util/AbstractList" 1 ⟨"java/util/AbstractCollection", "<init>", "()V"⟩ ∈ xv_T := xv_in (List.mem_append_right _ (List.mem_of_getElem? (i := 55) (by decide +kernel))) (by decide +kernel)
theorem iw_56 : Cond.instanceMethod ⟨"java/util/AbstractCollection", "<init>", "()V"⟩ ∈ xv_T := xv_in (List.mem_append_right _ (List.mem_of_getElem? (i := 56) (by decide +kernel))) (by decide +kernel)
theorem iw_57 : Cond.code ⟨"java/util/AbstractCollection", "<init>", "()V"⟩ prog_29_method_1_code 1 none ∈ xv_T := xv_in (List.mem_append_right _ (List.mem_of_getElem? (i := 57) (by decide +kernel))) (by decide +kernel)
theorem iw_58 : Cond.methodLink "java/util/AbstractCollection" 1 ⟨"java/lang/Object", "<init>", "()V"⟩ ∈ xv_T := xv_in (List.mem_append_right _ (List.mem_of_getElem? (i := 58) (by decide +kernel))) (by decide +kernel)
theorem iw_59 : Cond.fieldLink "java/util/ArrayList" 39 "java/util/ArrayList" "DEFAULTCAPACITY_EMPTY_ELEMENTDATA" "[Ljava/lang/Object;" ∈ xv_T := xv_in (List.mem_append_right _ (List.mem_of_getElem? (i := 59) (by decide +kernel))) (by decide +kernel)
theorem iw_61 : Cond.fieldLink "java/util/ArrayList" 9 "java/util/ArrayList" "elementData" "[Ljava/lang/Object;" ∈ xv_T := xv_in (List.mem_append_right _ (List.mem_of_getElem? (i := 61) (by decide +kernel))) (by decide +kernel)
theorem iw_62 : Cond.fieldLink "java/util/ArrayList" 48 "java/util/ArrayList" "size" "I" ∈ xv_T := xv_in (List.mem_append_right _ (List.mem_of_getElem? (i := 62) (by decide +kernel))) (by decide +kernel)
theorem iw_63 : Cond.fieldLink "java/util/AbstractList" 7 "java/util/AbstractList" "modCount" "I" ∈ xv_T := xv_in (List.mem_append_right _ (List.mem_of_getElem? (i := 63) (by decide +kernel))) (by decide +kernel)
theorem iw_64 : Cond.fieldLink "java/util/ArrayList" 63 "java/util/ArrayList" "modCount" "I" ∈ xv_T := xv_in (List.mem_append_right _ (List.mem_of_getElem? (i := 64) (by decide +kernel))) (by decide +kernel)
theorem iw_65 : Cond.sameField "java/util/ArrayList" "java/util/AbstractList" "modCount" "I" ∈ xv_T := xv_in (List.mem_append_right _ (List.mem_of_getElem? (i := 65) (by decide +kernel))) (by decide +kernel)
theorem iw_66 : Cond.lays "java/util/ArrayList" "java/util/ArrayList" "elementData" "[Ljava/lang/Object;" ∈ xv_T := xv_in (List.mem_append_right _ (List.mem_of_getElem? (i := 66) (by decide +kernel))) (by decide +kernel)
theorem iw_68 : Cond.lays "java/util/ArrayList" "java/util/ArrayList" "size" "I" ∈ xv_T := xv_in (List.mem_append_right _ (List.mem_of_getElem? (i := 68) (by decide +kernel))) (by decide +kernel)
theorem iw_70 : Cond.lays "java/util/ArrayList" "java/util/AbstractList" "modCount" "I" ∈ xv_T := xv_in (List.mem_append_right _ (List.mem_of_getElem? (i := 70) (by decide +kernel))) (by decide +kernel)
theorem iw_75 : Cond.laysFinal "NotedVolume$FileTable" "NotedVolume$FileTable" "rows" "Ljava/util/ArrayList;" ∈ xv_T := xv_in (List.mem_append_right _ (List.mem_of_getElem? (i := 75) (by decide +kernel))) (by decide +kernel)
theorem iw_77 : Cond.laysFinal "NotedVolume$FileTable" "NotedVolume$FileTable" "most" "I" ∈ xv_T := xv_in (List.mem_append_right _ (List.mem_of_getElem? (i := 77) (by decide +kernel))) (by decide +kernel)
theorem iw_90 : Cond.laysFinal "NotedVolume$Ring" "NotedVolume$Ring" "cells" "[LNotedVolume$Note;" ∈ xv_T := xv_in (List.mem_append_right _ (List.mem_of_getElem? (i := 90) (by decide +kernel))) (by decide +kernel)
theorem iw_92 : Cond.lays "NotedVolume$Ring" "NotedVolume$Ring" "next" "I" ∈ xv_T := xv_in (List.mem_append_right _ (List.mem_of_getElem? (i := 92) (by decide +kernel))) (by decide +kernel)
theorem iw_104 : Cond.laysFinal "NotedVolume$Gatherings" "NotedVolume$Gatherings" "open" "Ljava/util/ArrayList;" ∈ xv_T := xv_in (List.mem_append_right _ (List.mem_of_getElem? (i := 104) (by decide +kernel))) (by decide +kernel)
theorem iw_127 : Cond.laysFinal "NotedVolume$Subscriber" "NotedVolume$Subscriber" "copy" "LNotedVolume$FileTable;" ∈ xv_T := xv_in (List.mem_append_right _ (List.mem_of_getElem? (i := 127) (by decide +kernel))) (by decide +kernel)
theorem iw_129 : Cond.laysFinal "NotedVolume$Subscriber" "NotedVolume$Subscriber" "pageNumbers" "[I" ∈ xv_T := xv_in (List.mem_append_right _ (List.mem_of_getElem? (i := 129) (by decide +kernel))) (by decide +kernel)
theorem iw_131 : Cond.lays "NotedVolume$Subscriber" "NotedVolume$Subscriber" "cursor" "I" ∈ xv_T := xv_in (List.mem_append_right _ (List.mem_of_getElem? (i := 131) (by decide +kernel))) (by decide +kernel)
theorem iw_133 : Cond.lays "NotedVolume$Subscriber" "NotedVolume$Subscriber" "mask" "I" ∈ xv_T := xv_in (List.mem_append_right _ (List.mem_of_getElem? (i := 133) (by decide +kernel))) (by decide +kernel)
theorem iw_135 : Cond.lays "NotedVolume$Subscriber" "NotedVolume$Subscriber" "listing" "Z" ∈ xv_T := xv_in (List.mem_append_right _ (List.mem_of_getElem? (i := 135) (by decide +kernel))) (by decide +kernel)
theorem iw_137 : Cond.lays "NotedVolume$Subscriber" "NotedVolume$Subscriber" "greatestShown" "I" ∈ xv_T := xv_in (List.mem_append_right _ (List.mem_of_getElem? (i := 137) (by decide +kernel))) (by decide +kernel)
theorem iw_148 : Cond.laysFinal "NotedVolume" "NotedVolume" "files" "LNotedVolume$FileTable;" ∈ xv_T := xv_in (List.mem_append_right _ (List.mem_of_getElem? (i := 148) (by decide +kernel))) (by decide +kernel)
theorem iw_150 : Cond.laysFinal "NotedVolume" "NotedVolume" "ring" "LNotedVolume$Ring;" ∈ xv_T := xv_in (List.mem_append_right _ (List.mem_of_getElem? (i := 150) (by decide +kernel))) (by decide +kernel)
theorem iw_152 : Cond.laysFinal "NotedVolume" "NotedVolume" "gatherings" "LNotedVolume$Gatherings;" ∈ xv_T := xv_in (List.mem_append_right _ (List.mem_of_getElem? (i := 152) (by decide +kernel))) (by decide +kernel)
theorem iw_154 : Cond.laysFinal "NotedVolume" "NotedVolume" "subscribers" "[LNotedVolume$Subscriber;" ∈ xv_T := xv_in (List.mem_append_right _ (List.mem_of_getElem? (i := 154) (by decide +kernel))) (by decide +kernel)
theorem iw_156 : Cond.lays "NotedVolume" "NotedVolume" "nextNumber" "I" ∈ xv_T := xv_in (List.mem_append_right _ (List.mem_of_getElem? (i := 156) (by decide +kernel))) (by decide +kernel)
theorem iw_158 : Cond.lays "NotedVolume" "NotedVolume" "powered" "Z" ∈ xv_T := xv_in (List.mem_append_right _ (List.mem_of_getElem? (i := 158) (by decide +kernel))) (by decide +kernel)
theorem iw_160 : Cond.lays "NotedVolume" "NotedVolume" "writesLeft" "I" ∈ xv_T := xv_in (List.mem_append_right _ (List.mem_of_getElem? (i := 160) (by decide +kernel))) (by decide +kernel)
theorem iw_173 : Cond.selects "java/util/ArrayList" ⟨"java/util/ArrayList", "size", "()I"⟩ ⟨"java/util/ArrayList", "size", "()I"⟩ ∈ xv_T := xv_in (List.mem_append_right _ (List.mem_of_getElem? (i := 173) (by decide +kernel))) (by decide +kernel)
theorem iw_174 : Cond.code ⟨"java/util/ArrayList", "size", "()I"⟩ prog_31_method_8_code 1 (some .int) ∈ xv_T := xv_in (List.mem_append_right _ (List.mem_of_getElem? (i := 174) (by decide +kernel))) (by decide +kernel)
theorem iw_186 : Cond.selects "java/util/ArrayList" ⟨"java/util/ArrayList", "get", "(I)Ljava/lang/Object;"⟩ ⟨"java/util/ArrayList", "get", "(I)Ljava/lang/Object;"⟩ ∈ xv_T := xv_in (List.mem_append_right _ (List.mem_of_getElem? (i := 186) (by decide +kernel))) (by decide +kernel)
theorem iw_187 : Cond.code ⟨"java/util/ArrayList", "get", "(I)Ljava/lang/Object;"⟩ prog_31_method_20_code 2 (some (.object "java/lang/Object")) ∈ xv_T := xv_in (List.mem_append_right _ (List.mem_of_getElem? (i := 187) (by decide +kernel))) (by decide +kernel)
theorem iw_188 : Cond.methodLink "java/util/ArrayList" 118 ⟨"java/util/Objects", "checkIndex", "(II)I"⟩ ∈ xv_T := xv_in (List.mem_append_right _ (List.mem_of_getElem? (i := 188) (by decide +kernel))) (by decide +kernel)
theorem iw_189 : Cond.static ⟨"java/util/Objects", "checkIndex", "(II)I"⟩ ∈ xv_T := xv_in (List.mem_append_right _ (List.mem_of_getElem? (i := 189) (by decide +kernel))) (by decide +kernel)
theorem iw_190 : Cond.code ⟨"java/util/Objects", "checkIndex", "(II)I"⟩ prog_36_method_17_code 2 (some .int) ∈ xv_T := xv_in (List.mem_append_right _ (List.mem_of_getElem? (i := 190) (by decide +kernel))) (by decide +kernel)
theorem iw_191 : Cond.methodLink "java/util/Objects" 105 ⟨"jdk/internal/util/Preconditions", "checkIndex", "(IILjava/util/function/BiFunction;)I"⟩ ∈ xv_T := xv_in (List.mem_append_right _ (List.mem_of_getElem? (i := 191) (by decide +kernel))) (by decide +kernel)
theorem iw_192 : Cond.static ⟨"jdk/internal/util/Preconditions", "checkIndex", "(IILjava/util/function/BiFunction;)I"⟩ ∈ xv_T := xv_in (List.mem_append_right _ (List.mem_of_getElem? (i := 192) (by decide +kernel))) (by decide +kernel)
theorem iw_193 : Cond.code ⟨"jdk/internal/util/Preconditions", "checkIndex", "(IILjava/util/function/BiFunction;)I"⟩ prog_40_method_11_code 3 (some .int) ∈ xv_T := xv_in (List.mem_append_right _ (List.mem_of_getElem? (i := 193) (by decide +kernel))) (by decide +kernel)
theorem iw_194 : Cond.methodLink "java/util/ArrayList" 123 ⟨"java/util/ArrayList", "elementData", "(I)Ljava/lang/Object;"⟩ ∈ xv_T := xv_in (List.mem_append_right _ (List.mem_of_getElem? (i := 194) (by decide +kernel))) (by decide +kernel)
theorem iw_195 : Cond.instanceMethod ⟨"java/util/ArrayList", "elementData", "(I)Ljava/lang/Object;"⟩ ∈ xv_T := xv_in (List.mem_append_right _ (List.mem_of_getElem? (i := 195) (by decide +kernel))) (by decide +kernel)
theorem iw_196 : Cond.selects "java/util/ArrayList" ⟨"java/util/ArrayList", "elementData", "(I)Ljava/lang/Object;"⟩ ⟨"java/util/ArrayList", "elementData", "(I)Ljava/lang/Object;"⟩ ∈ xv_T := xv_in (List.mem_append_right _ (List.mem_of_getElem? (i := 196) (by decide +kernel))) (by decide +kernel)
theorem iw_197 : Cond.code ⟨"java/util/ArrayList", "elementData", "(I)Ljava/lang/Object;"⟩ prog_31_method_18_code 2 (some (.object "java/lang/Object")) ∈ xv_T := xv_in (List.mem_append_right _ (List.mem_of_getElem? (i := 197) (by decide +kernel))) (by decide +kernel)
theorem iw_233 : Cond.selects "java/util/ArrayList" ⟨"java/util/ArrayList", "clear", "()V"⟩ ⟨"java/util/ArrayList", "clear", "()V"⟩ ∈ xv_T := xv_in (List.mem_append_right _ (List.mem_of_getElem? (i := 233) (by decide +kernel))) (by decide +kernel)
theorem iw_234 : Cond.code ⟨"java/util/ArrayList", "clear", "()V"⟩ prog_31_method_40_code 4 none ∈ xv_T := xv_in (List.mem_append_right _ (List.mem_of_getElem? (i := 234) (by decide +kernel))) (by decide +kernel)
theorem iw_254 : Cond.selects "java/util/ArrayList" ⟨"java/util/ArrayList", "remove", "(I)Ljava/lang/Object;"⟩ ⟨"java/util/ArrayList", "remove", "(I)Ljava/lang/Object;"⟩ ∈ xv_T := xv_in (List.mem_append_right _ (List.mem_of_getElem? (i := 254) (by decide +kernel))) (by decide +kernel)
theorem iw_255 : Cond.code ⟨"java/util/ArrayList", "remove", "(I)Ljava/lang/Object;"⟩ prog_31_method_29_code 4 (some (.object "java/lang/Object")) ∈ xv_T := xv_in (List.mem_append_right _ (List.mem_of_getElem? (i := 255) (by decide +kernel))) (by decide +kernel)
theorem iw_256 : Cond.methodLink "java/util/ArrayList" 144 ⟨"java/util/ArrayList", "fastRemove", "([Ljava/lang/Object;I)V"⟩ ∈ xv_T := xv_in (List.mem_append_right _ (List.mem_of_getElem? (i := 256) (by decide +kernel))) (by decide +kernel)
theorem iw_258 : Cond.instanceMethod ⟨"java/util/ArrayList", "fastRemove", "([Ljava/lang/Object;I)V"⟩ ∈ xv_T := xv_in (List.mem_append_right _ (List.mem_of_getElem? (i := 258) (by decide +kernel))) (by decide +kernel)
theorem iw_259 : Cond.code ⟨"java/util/ArrayList", "fastRemove", "([Ljava/lang/Object;I)V"⟩ prog_31_method_39_code 4 none ∈ xv_T := xv_in (List.mem_append_right _ (List.mem_of_getElem? (i := 259) (by decide +kernel))) (by decide +kernel)
theorem iw_260 : Cond.methodLink "java/util/ArrayList" 112 ⟨"java/lang/System", "arraycopy", "(Ljava/lang/Object;ILjava/lang/Object;II)V"⟩ ∈ xv_T := xv_in (List.mem_append_right _ (List.mem_of_getElem? (i := 260) (by decide +kernel))) (by decide +kernel)
theorem iw_261 : Cond.static ⟨"java/lang/System", "arraycopy", "(Ljava/lang/Object;ILjava/lang/Object;II)V"⟩ ∈ xv_T := xv_in (List.mem_append_right _ (List.mem_of_getElem? (i := 261) (by decide +kernel))) (by decide +kernel)
theorem iw_262 : Cond.native ⟨"java/lang/System", "arraycopy", "(Ljava/lang/Object;ILjava/lang/Object;II)V"⟩ ∈ xv_T := xv_in (List.mem_append_right _ (List.mem_of_getElem? (i := 262) (by decide +kernel))) (by decide +kernel)
theorem iw_281 : Cond.laysFinal "NotedVolume$Gathering" "NotedVolume$Gathering" "file" "I" ∈ xv_T := xv_in (List.mem_append_right _ (List.mem_of_getElem? (i := 281) (by decide +kernel))) (by decide +kernel)
theorem iw_283 : Cond.lays "NotedVolume$Gathering" "NotedVolume$Gathering" "reasons" "I" ∈ xv_T := xv_in (List.mem_append_right _ (List.mem_of_getElem? (i := 283) (by decide +kernel))) (by decide +kernel)
theorem iw_288 : Cond.selects "java/util/ArrayList" ⟨"java/util/ArrayList", "add", "(Ljava/lang/Object;)Z"⟩ ⟨"java/util/ArrayList", "add", "(Ljava/lang/Object;)Z"⟩ ∈ xv_T := xv_in (List.mem_append_right _ (List.mem_of_getElem? (i := 288) (by decide +kernel))) (by decide +kernel)
theorem iw_289 : Cond.code ⟨"java/util/ArrayList", "add", "(Ljava/lang/Object;)Z"⟩ prog_31_method_25_code 2 (some .boolean) ∈ xv_T := xv_in (List.mem_append_right _ (List.mem_of_getElem? (i := 289) (by decide +kernel))) (by decide +kernel)
theorem iw_290 : Cond.methodLink "java/util/ArrayList" 131 ⟨"java/util/ArrayList", "add", "(Ljava/lang/Object;[Ljava/lang/Object;I)V"⟩ ∈ xv_T := xv_in (List.mem_append_right _ (List.mem_of_getElem? (i := 290) (by decide +kernel))) (by decide +kernel)
theorem iw_292 : Cond.instanceMethod ⟨"java/util/ArrayList", "add", "(Ljava/lang/Object;[Ljava/lang/Object;I)V"⟩ ∈ xv_T := xv_in (List.mem_append_right _ (List.mem_of_getElem? (i := 292) (by decide +kernel))) (by decide +kernel)
theorem iw_293 : Cond.code ⟨"java/util/ArrayList", "add", "(Ljava/lang/Object;[Ljava/lang/Object;I)V"⟩ prog_31_method_24_code 4 none ∈ xv_T := xv_in (List.mem_append_right _ (List.mem_of_getElem? (i := 293) (by decide +kernel))) (by decide +kernel)
theorem iw_294 : Cond.methodLink "java/util/ArrayList" 129 ⟨"java/util/ArrayList", "grow", "()[Ljava/lang/Object;"⟩ ∈ xv_T := xv_in (List.mem_append_right _ (List.mem_of_getElem? (i := 294) (by decide +kernel))) (by decide +kernel)
theorem iw_296 : Cond.instanceMethod ⟨"java/util/ArrayList", "grow", "()[Ljava/lang/Object;"⟩ ∈ xv_T := xv_in (List.mem_append_right _ (List.mem_of_getElem? (i := 296) (by decide +kernel))) (by decide +kernel)
theorem iw_297 : Cond.code ⟨"java/util/ArrayList", "grow", "()[Ljava/lang/Object;"⟩ prog_31_method_7_code 1 (some (.array (.object "java/lang/Object"))) ∈ xv_T := xv_in (List.mem_append_right _ (List.mem_of_getElem? (i := 297) (by decide +kernel))) (by decide +kernel)
theorem iw_298 : Cond.methodLink "java/util/ArrayList" 69 ⟨"java/util/ArrayList", "grow", "(I)[Ljava/lang/Object;"⟩ ∈ xv_T := xv_in (List.mem_append_right _ (List.mem_of_getElem? (i := 298) (by decide +kernel))) (by decide +kernel)
theorem iw_300 : Cond.instanceMethod ⟨"java/util/ArrayList", "grow", "(I)[Ljava/lang/Object;"⟩ ∈ xv_T := xv_in (List.mem_append_right _ (List.mem_of_getElem? (i := 300) (by decide +kernel))) (by decide +kernel)
theorem iw_301 : Cond.code ⟨"java/util/ArrayList", "grow", "(I)[Ljava/lang/Object;"⟩ prog_31_method_6_code 4 (some (.array (.object "java/lang/Object"))) ∈ xv_T := xv_in (List.mem_append_right _ (List.mem_of_getElem? (i := 301) (by decide +kernel))) (by decide +kernel)
theorem iw_302 : Cond.methodLink "java/util/ArrayList" 73 ⟨"jdk/internal/util/ArraysSupport", "newLength", "(III)I"⟩ ∈ xv_T := xv_in (List.mem_append_right _ (List.mem_of_getElem? (i := 302) (by decide +kernel))) (by decide +kernel)
theorem iw_303 : Cond.static ⟨"jdk/internal/util/ArraysSupport", "newLength", "(III)I"⟩ ∈ xv_T := xv_in (List.mem_append_right _ (List.mem_of_getElem? (i := 303) (by decide +kernel))) (by decide +kernel)
theorem iw_304 : Cond.code ⟨"jdk/internal/util/ArraysSupport", "newLength", "(III)I"⟩ prog_39_method_27_code 4 (some .int) ∈ xv_T := xv_in (List.mem_append_right _ (List.mem_of_getElem? (i := 304) (by decide +kernel))) (by decide +kernel)
theorem iw_305 : Cond.methodLink "jdk/internal/util/ArraysSupport" 194 ⟨"java/lang/Math", "max", "(II)I"⟩ ∈ xv_T := xv_in (List.mem_append_right _ (List.mem_of_getElem? (i := 305) (by decide +kernel))) (by decide +kernel)
theorem iw_306 : Cond.static ⟨"java/lang/Math", "max", "(II)I"⟩ ∈ xv_T := xv_in (List.mem_append_right _ (List.mem_of_getElem? (i := 306) (by decide +kernel))) (by decide +kernel)
theorem iw_307 : Cond.code ⟨"java/lang/Math", "max", "(II)I"⟩ prog_20_method_65_code 2 (some .int) ∈ xv_T := xv_in (List.mem_append_right _ (List.mem_of_getElem? (i := 307) (by decide +kernel))) (by decide +kernel)
theorem iw_308 : Cond.constant "jdk/internal/util/ArraysSupport" 200 (2147483639 : Int32) ∈ xv_T := xv_in (List.mem_append_right _ (List.mem_of_getElem? (i := 308) (by decide +kernel))) (by decide +kernel)
theorem iw_312 : Cond.methodLink "java/util/ArrayList" 66 ⟨"java/util/Arrays", "copyOf", "([Ljava/lang/Object;I)[Ljava/lang/Object;"⟩ ∈ xv_T := xv_in (List.mem_append_right _ (List.mem_of_getElem? (i := 312) (by decide +kernel))) (by decide +kernel)
theorem iw_313 : Cond.static ⟨"java/util/Arrays", "copyOf", "([Ljava/lang/Object;I)[Ljava/lang/Object;"⟩ ∈ xv_T := xv_in (List.mem_append_right _ (List.mem_of_getElem? (i := 313) (by decide +kernel))) (by decide +kernel)
theorem iw_314 : Cond.code ⟨"java/util/Arrays", "copyOf", "([Ljava/lang/Object;I)[Ljava/lang/Object;"⟩ prog_32_method_119_code 2 (some (.array (.object "java/lang/Object"))) ∈ xv_T := xv_in (List.mem_append_right _ (List.mem_of_getElem? (i := 314) (by decide +kernel))) (by decide +kernel)
theorem iw_315 : Cond.methodLink "java/util/Arrays" 86 ⟨"java/lang/Object", "getClass", "()Ljava/lang/Class;"⟩ ∈ xv_T := xv_in (List.mem_append_right _ (List.mem_of_getElem? (i := 315) (by decide +kernel))) (by decide +kernel)
theorem iw_316 : Cond.instanceMethod ⟨"java/lang/Object", "getClass", "()Ljava/lang/Class;"⟩ ∈ xv_T := xv_in (List.mem_append_right _ (List.mem_of_getElem? (i := 316) (by decide +kernel))) (by decide +kernel)
theorem iw_335 : Cond.native ⟨"java/lang/Object", "getClass", "()Ljava/lang/Class;"⟩ ∈ xv_T := xv_in (List.mem_append_right _ (List.mem_of_getElem? (i := 335) (by decide +kernel))) (by decide +kernel)
theorem iw_336 : Cond.methodLink "java/util/Arrays" 300 ⟨"java/util/Arrays", "copyOf", "([Ljava/lang/Object;ILjava/lang/Class;)[Ljava/lang/Object;"⟩ ∈ xv_T := xv_in (List.mem_append_right _ (List.mem_of_getElem? (i := 336) (by decide +kernel))) (by decide +kernel)
theorem iw_337 : Cond.static ⟨"java/util/Arrays", "copyOf", "([Ljava/lang/Object;ILjava/lang/Class;)[Ljava/lang/Object;"⟩ ∈ xv_T := xv_in (List.mem_append_right _ (List.mem_of_getElem? (i := 337) (by decide +kernel))) (by decide +kernel)
theorem iw_338 : Cond.code ⟨"java/util/Arrays", "copyOf", "([Ljava/lang/Object;ILjava/lang/Class;)[Ljava/lang/Object;"⟩ prog_32_method_120_code 4 (some (.array (.object "java/lang/Object"))) ∈ xv_T := xv_in (List.mem_append_right _ (List.mem_of_getElem? (i := 338) (by decide +kernel))) (by decide +kernel)
theorem iw_339 : Cond.classLink "java/util/Arrays" 110 "[Ljava/lang/Object;" ∈ xv_T := xv_in (List.mem_append_right _ (List.mem_of_getElem? (i := 339) (by decide +kernel))) (by decide +kernel)
theorem iw_341 : Cond.classLink "java/util/Arrays" 2 "java/lang/Object" ∈ xv_T := xv_in (List.mem_append_right _ (List.mem_of_getElem? (i := 341) (by decide +kernel))) (by decide +kernel)
theorem iw_342 : Cond.methodLink "java/util/Arrays" 304 ⟨"java/lang/Math", "min", "(II)I"⟩ ∈ xv_T := xv_in (List.mem_append_right _ (List.mem_of_getElem? (i := 342) (by decide +kernel))) (by decide +kernel)
theorem iw_343 : Cond.static ⟨"java/lang/Math", "min", "(II)I"⟩ ∈ xv_T := xv_in (List.mem_append_right _ (List.mem_of_getElem? (i := 343) (by decide +kernel))) (by decide +kernel)
theorem iw_344 : Cond.code ⟨"java/lang/Math", "min", "(II)I"⟩ prog_20_method_69_code 2 (some .int) ∈ xv_T := xv_in (List.mem_append_right _ (List.mem_of_getElem? (i := 344) (by decide +kernel))) (by decide +kernel)
theorem iw_345 : Cond.methodLink "java/util/Arrays" 150 ⟨"java/lang/System", "arraycopy", "(Ljava/lang/Object;ILjava/lang/Object;II)V"⟩ ∈ xv_T := xv_in (List.mem_append_right _ (List.mem_of_getElem? (i := 345) (by decide +kernel))) (by decide +kernel)
theorem iw_346 : Cond.methodLink "java/util/ArrayList" 79 ⟨"java/lang/Math", "max", "(II)I"⟩ ∈ xv_T := xv_in (List.mem_append_right _ (List.mem_of_getElem? (i := 346) (by decide +kernel))) (by decide +kernel)
theorem iw_347 : Cond.classLink "java/util/ArrayList" 7 "java/lang/Object" ∈ xv_T := xv_in (List.mem_append_right _ (List.mem_of_getElem? (i := 347) (by decide +kernel))) (by decide +kernel)
theorem iw_354 : Cond.selects "java/util/ArrayList" ⟨"java/util/ArrayList", "isEmpty", "()Z"⟩ ⟨"java/util/ArrayList", "isEmpty", "()Z"⟩ ∈ xv_T := xv_in (List.mem_append_right _ (List.mem_of_getElem? (i := 354) (by decide +kernel))) (by decide +kernel)
theorem iw_355 : Cond.code ⟨"java/util/ArrayList", "isEmpty", "()Z"⟩ prog_31_method_9_code 1 (some .boolean) ∈ xv_T := xv_in (List.mem_append_right _ (List.mem_of_getElem? (i := 355) (by decide +kernel))) (by decide +kernel)
theorem iw_386 : Cond.laysFinal "NotedVolume$Entry" "NotedVolume$Entry" "number" "I" ∈ xv_T := xv_in (List.mem_append_right _ (List.mem_of_getElem? (i := 386) (by decide +kernel))) (by decide +kernel)
theorem iw_388 : Cond.laysFinal "NotedVolume$Entry" "NotedVolume$Entry" "sort" "I" ∈ xv_T := xv_in (List.mem_append_right _ (List.mem_of_getElem? (i := 388) (by decide +kernel))) (by decide +kernel)
theorem iw_390 : Cond.laysFinal "NotedVolume$Entry" "NotedVolume$Entry" "parent" "I" ∈ xv_T := xv_in (List.mem_append_right _ (List.mem_of_getElem? (i := 390) (by decide +kernel))) (by decide +kernel)
theorem iw_392 : Cond.laysFinal "NotedVolume$Entry" "NotedVolume$Entry" "name" "I" ∈ xv_T := xv_in (List.mem_append_right _ (List.mem_of_getElem? (i := 392) (by decide +kernel))) (by decide +kernel)
theorem iw_394 : Cond.laysFinal "NotedVolume$Entry" "NotedVolume$Entry" "mark" "I" ∈ xv_T := xv_in (List.mem_append_right _ (List.mem_of_getElem? (i := 394) (by decide +kernel))) (by decide +kernel)
theorem iw_411 : Cond.laysFinal "NotedVolume$Note" "NotedVolume$Note" "entry" "LNotedVolume$Entry;" ∈ xv_T := xv_in (List.mem_append_right _ (List.mem_of_getElem? (i := 411) (by decide +kernel))) (by decide +kernel)
theorem iw_413 : Cond.laysFinal "NotedVolume$Note" "NotedVolume$Note" "reasons" "I" ∈ xv_T := xv_in (List.mem_append_right _ (List.mem_of_getElem? (i := 413) (by decide +kernel))) (by decide +kernel)
theorem iw_603 : Cond.selects "java/util/ArrayList" ⟨"java/util/ArrayList", "set", "(ILjava/lang/Object;)Ljava/lang/Object;"⟩ ⟨"java/util/ArrayList", "set", "(ILjava/lang/Object;)Ljava/lang/Object;"⟩ ∈ xv_T := xv_in (List.mem_append_right _ (List.mem_of_getElem? (i := 603) (by decide +kernel))) (by decide +kernel)
theorem iw_604 : Cond.code ⟨"java/util/ArrayList", "set", "(ILjava/lang/Object;)Ljava/lang/Object;"⟩ prog_31_method_23_code 4 (some (.object "java/lang/Object")) ∈ xv_T := xv_in (List.mem_append_right _ (List.mem_of_getElem? (i := 604) (by decide +kernel))) (by decide +kernel)
theorem iw_607 : Cond.selects "java/util/ArrayList" ⟨"java/util/ArrayList", "add", "(ILjava/lang/Object;)V"⟩ ⟨"java/util/ArrayList", "add", "(ILjava/lang/Object;)V"⟩ ∈ xv_T := xv_in (List.mem_append_right _ (List.mem_of_getElem? (i := 607) (by decide +kernel))) (by decide +kernel)
theorem iw_608 : Cond.code ⟨"java/util/ArrayList", "add", "(ILjava/lang/Object;)V"⟩ prog_31_method_26_code 5 none ∈ xv_T := xv_in (List.mem_append_right _ (List.mem_of_getElem? (i := 608) (by decide +kernel))) (by decide +kernel)
theorem iw_609 : Cond.methodLink "java/util/ArrayList" 135 ⟨"java/util/ArrayList", "rangeCheckForAdd", "(I)V"⟩ ∈ xv_T := xv_in (List.mem_append_right _ (List.mem_of_getElem? (i := 609) (by decide +kernel))) (by decide +kernel)
theorem iw_611 : Cond.instanceMethod ⟨"java/util/ArrayList", "rangeCheckForAdd", "(I)V"⟩ ∈ xv_T := xv_in (List.mem_append_right _ (List.mem_of_getElem? (i := 611) (by decide +kernel))) (by decide +kernel)
theorem iw_612 : Cond.code ⟨"java/util/ArrayList", "rangeCheckForAdd", "(I)V"⟩ prog_31_method_45_code 2 none ∈ xv_T := xv_in (List.mem_append_right _ (List.mem_of_getElem? (i := 612) (by decide +kernel))) (by decide +kernel)
theorem iw_1114 : Cond.lays "NotedVolumeModel" "NotedVolumeModel" "thrown" "I" ∈ xv_T := xv_in (List.mem_append_right _ (List.mem_of_getElem? (i := 1114) (by decide +kernel))) (by decide +kernel)
theorem iw_1116 : Cond.lays "NotedVolumeModel" "NotedVolumeModel" "count" "I" ∈ xv_T := xv_in (List.mem_append_right _ (List.mem_of_getElem? (i := 1116) (by decide +kernel))) (by decide +kernel)
theorem iw_1118 : Cond.laysFinal "NotedVolumeModel" "NotedVolumeModel" "files" "[I" ∈ xv_T := xv_in (List.mem_append_right _ (List.mem_of_getElem? (i := 1118) (by decide +kernel))) (by decide +kernel)
theorem iw_1120 : Cond.laysFinal "NotedVolumeModel" "NotedVolumeModel" "sorts" "[I" ∈ xv_T := xv_in (List.mem_append_right _ (List.mem_of_getElem? (i := 1120) (by decide +kernel))) (by decide +kernel)
theorem iw_1122 : Cond.laysFinal "NotedVolumeModel" "NotedVolumeModel" "parents" "[I" ∈ xv_T := xv_in (List.mem_append_right _ (List.mem_of_getElem? (i := 1122) (by decide +kernel))) (by decide +kernel)
theorem iw_1124 : Cond.laysFinal "NotedVolumeModel" "NotedVolumeModel" "names" "[I" ∈ xv_T := xv_in (List.mem_append_right _ (List.mem_of_getElem? (i := 1124) (by decide +kernel))) (by decide +kernel)
theorem iw_1126 : Cond.laysFinal "NotedVolumeModel" "NotedVolumeModel" "marks" "[I" ∈ xv_T := xv_in (List.mem_append_right _ (List.mem_of_getElem? (i := 1126) (by decide +kernel))) (by decide +kernel)
theorem iw_1128 : Cond.lays "NotedVolumeModel" "NotedVolumeModel" "latest" "I" ∈ xv_T := xv_in (List.mem_append_right _ (List.mem_of_getElem? (i := 1128) (by decide +kernel))) (by decide +kernel)
theorem iw_1130 : Cond.lays "NotedVolumeModel" "NotedVolumeModel" "head" "I" ∈ xv_T := xv_in (List.mem_append_right _ (List.mem_of_getElem? (i := 1130) (by decide +kernel))) (by decide +kernel)
theorem iw_1132 : Cond.laysFinal "NotedVolumeModel" "NotedVolumeModel" "notes" "[I" ∈ xv_T := xv_in (List.mem_append_right _ (List.mem_of_getElem? (i := 1132) (by decide +kernel))) (by decide +kernel)
theorem iw_1134 : Cond.lays "NotedVolumeModel" "NotedVolumeModel" "gatherings" "I" ∈ xv_T := xv_in (List.mem_append_right _ (List.mem_of_getElem? (i := 1134) (by decide +kernel))) (by decide +kernel)
theorem iw_1136 : Cond.laysFinal "NotedVolumeModel" "NotedVolumeModel" "gathered" "[I" ∈ xv_T := xv_in (List.mem_append_right _ (List.mem_of_getElem? (i := 1136) (by decide +kernel))) (by decide +kernel)
theorem iw_1138 : Cond.laysFinal "NotedVolumeModel" "NotedVolumeModel" "reasons" "[I" ∈ xv_T := xv_in (List.mem_append_right _ (List.mem_of_getElem? (i := 1138) (by decide +kernel))) (by decide +kernel)
theorem iw_1140 : Cond.lays "NotedVolumeModel" "NotedVolumeModel" "off" "Z" ∈ xv_T := xv_in (List.mem_append_right _ (List.mem_of_getElem? (i := 1140) (by decide +kernel))) (by decide +kernel)
theorem iw_1142 : Cond.lays "NotedVolumeModel" "NotedVolumeModel" "left" "I" ∈ xv_T := xv_in (List.mem_append_right _ (List.mem_of_getElem? (i := 1142) (by decide +kernel))) (by decide +kernel)
theorem iw_1144 : Cond.laysFinal "NotedVolumeModel" "NotedVolumeModel" "cursors" "[I" ∈ xv_T := xv_in (List.mem_append_right _ (List.mem_of_getElem? (i := 1144) (by decide +kernel))) (by decide +kernel)
theorem iw_1146 : Cond.laysFinal "NotedVolumeModel" "NotedVolumeModel" "masks" "[I" ∈ xv_T := xv_in (List.mem_append_right _ (List.mem_of_getElem? (i := 1146) (by decide +kernel))) (by decide +kernel)
theorem iw_1148 : Cond.laysFinal "NotedVolumeModel" "NotedVolumeModel" "lists" "[Z" ∈ xv_T := xv_in (List.mem_append_right _ (List.mem_of_getElem? (i := 1148) (by decide +kernel))) (by decide +kernel)
theorem iw_1150 : Cond.laysFinal "NotedVolumeModel" "NotedVolumeModel" "lasts" "[I" ∈ xv_T := xv_in (List.mem_append_right _ (List.mem_of_getElem? (i := 1150) (by decide +kernel))) (by decide +kernel)
theorem iw_1152 : Cond.laysFinal "NotedVolumeModel" "NotedVolumeModel" "pages" "[I" ∈ xv_T := xv_in (List.mem_append_right _ (List.mem_of_getElem? (i := 1152) (by decide +kernel))) (by decide +kernel)
theorem iw_1154 : Cond.laysFinal "NotedVolumeModel" "NotedVolumeModel" "copies" "[I" ∈ xv_T := xv_in (List.mem_append_right _ (List.mem_of_getElem? (i := 1154) (by decide +kernel))) (by decide +kernel)
theorem iw_1156 : Cond.laysFinal "NotedVolumeModel" "NotedVolumeModel" "copyFiles" "[I" ∈ xv_T := xv_in (List.mem_append_right _ (List.mem_of_getElem? (i := 1156) (by decide +kernel))) (by decide +kernel)
theorem iw_1158 : Cond.laysFinal "NotedVolumeModel" "NotedVolumeModel" "copySorts" "[I" ∈ xv_T := xv_in (List.mem_append_right _ (List.mem_of_getElem? (i := 1158) (by decide +kernel))) (by decide +kernel)
theorem iw_1160 : Cond.laysFinal "NotedVolumeModel" "NotedVolumeModel" "copyParents" "[I" ∈ xv_T := xv_in (List.mem_append_right _ (List.mem_of_getElem? (i := 1160) (by decide +kernel))) (by decide +kernel)
theorem iw_1162 : Cond.laysFinal "NotedVolumeModel" "NotedVolumeModel" "copyNames" "[I" ∈ xv_T := xv_in (List.mem_append_right _ (List.mem_of_getElem? (i := 1162) (by decide +kernel))) (by decide +kernel)
theorem iw_1164 : Cond.laysFinal "NotedVolumeModel" "NotedVolumeModel" "copyMarks" "[I" ∈ xv_T := xv_in (List.mem_append_right _ (List.mem_of_getElem? (i := 1164) (by decide +kernel))) (by decide +kernel)
theorem iw_1166 : Cond.laysFinal "NotedVolumeModel" "NotedVolumeModel" "toClose" "[I" ∈ xv_T := xv_in (List.mem_append_right _ (List.mem_of_getElem? (i := 1166) (by decide +kernel))) (by decide +kernel)
theorem iw_1168 : Cond.laysFinal "NotedVolumeModel" "NotedVolumeModel" "closing" "[I" ∈ xv_T := xv_in (List.mem_append_right _ (List.mem_of_getElem? (i := 1168) (by decide +kernel))) (by decide +kernel)
theorem iw_1400 : Cond.selects "[Ljava/lang/Object;" ⟨"java/lang/Object", "getClass", "()Ljava/lang/Class;"⟩ ⟨"java/lang/Object", "getClass", "()Ljava/lang/Class;"⟩ ∈ xv_T := xv_in (List.mem_append_right _ (List.mem_of_getElem? (i := 1400) (by decide +kernel))) (by decide +kernel)
theorem ps_0 : Cond.selects "java/util/ArrayList" ⟨"java/util/ArrayList", "fastRemove", "([Ljava/lang/Object;I)V"⟩ ⟨"java/util/ArrayList", "fastRemove", "([Ljava/lang/Object;I)V"⟩ ∈ xv_T := xv_in (List.mem_append_left _ (List.mem_of_getElem? (i := 0) (by decide +kernel))) (by decide +kernel)
theorem ps_1 : Cond.selects "java/util/ArrayList" ⟨"java/util/ArrayList", "add", "(Ljava/lang/Object;[Ljava/lang/Object;I)V"⟩ ⟨"java/util/ArrayList", "add", "(Ljava/lang/Object;[Ljava/lang/Object;I)V"⟩ ∈ xv_T := xv_in (List.mem_append_left _ (List.mem_of_getElem? (i := 1) (by decide +kernel))) (by decide +kernel)
theorem ps_2 : Cond.selects "java/util/ArrayList" ⟨"java/util/ArrayList", "grow", "()[Ljava/lang/Object;"⟩ ⟨"java/util/ArrayList", "grow", "()[Ljava/lang/Object;"⟩ ∈ xv_T := xv_in (List.mem_append_left _ (List.mem_of_getElem? (i := 2) (by decide +kernel))) (by decide +kernel)
theorem ps_3 : Cond.selects "java/util/ArrayList" ⟨"java/util/ArrayList", "grow", "(I)[Ljava/lang/Object;"⟩ ⟨"java/util/ArrayList", "grow", "(I)[Ljava/lang/Object;"⟩ ∈ xv_T := xv_in (List.mem_append_left _ (List.mem_of_getElem? (i := 3) (by decide +kernel))) (by decide +kernel)
theorem ps_14 : Cond.selects "java/util/ArrayList" ⟨"java/util/ArrayList", "rangeCheckForAdd", "(I)V"⟩ ⟨"java/util/ArrayList", "rangeCheckForAdd", "(I)V"⟩ ∈ xv_T := xv_in (List.mem_append_left _ (List.mem_of_getElem? (i := 14) (by decide +kernel))) (by decide +kernel)
theorem ly_0 : ∀ w ∈ u_ws "NotedVolume" tx_0 7, w ∈ xv_T := by
  intro w hw
  obtain ⟨k, hk, rfl⟩ := List.mem_map.mp hw
  have hk := List.mem_range.mp hk
  rcases (show k = 0 ∨ k = 1 ∨ k = 2 ∨ k = 3 ∨ k = 4 ∨ k = 5 ∨ k = 6 by omega) with rfl | rfl | rfl | rfl | rfl | rfl | rfl
  · exact iw_148
  · exact iw_150
  · exact iw_152
  · exact iw_154
  · exact iw_156
  · exact iw_158
  · exact iw_160
theorem tk_0 : ∀ k, k < 7 → parseFieldDescriptor (tx_0 k).2.2.1 = some (ty_0 k) := by decide +kernel
theorem nk_0 : ∀ a, a < 7 → ∀ b, b < 7 → a ≠ b → (tx_0 a).2.1 ≠ (tx_0 b).2.1 := by decide +kernel
theorem ly_1 : ∀ w ∈ u_ws "NotedVolume$Entry" tx_1 5, w ∈ xv_T := by
  intro w hw
  obtain ⟨k, hk, rfl⟩ := List.mem_map.mp hw
  have hk := List.mem_range.mp hk
  rcases (show k = 0 ∨ k = 1 ∨ k = 2 ∨ k = 3 ∨ k = 4 by omega) with rfl | rfl | rfl | rfl | rfl
  · exact iw_386
  · exact iw_388
  · exact iw_390
  · exact iw_392
  · exact iw_394
theorem tk_1 : ∀ k, k < 5 → parseFieldDescriptor (tx_1 k).2.2.1 = some (ty_1 k) := by decide +kernel
theorem nk_1 : ∀ a, a < 5 → ∀ b, b < 5 → a ≠ b → (tx_1 a).2.1 ≠ (tx_1 b).2.1 := by decide +kernel
theorem ly_2 : ∀ w ∈ u_ws "NotedVolume$FileTable" tx_2 2, w ∈ xv_T := by
  intro w hw
  obtain ⟨k, hk, rfl⟩ := List.mem_map.mp hw
  have hk := List.mem_range.mp hk
  rcases (show k = 0 ∨ k = 1 by omega) with rfl | rfl
  · exact iw_75
  · exact iw_77
theorem tk_2 : ∀ k, k < 2 → parseFieldDescriptor (tx_2 k).2.2.1 = some (ty_2 k) := by decide +kernel
theorem nk_2 : ∀ a, a < 2 → ∀ b, b < 2 → a ≠ b → (tx_2 a).2.1 ≠ (tx_2 b).2.1 := by decide +kernel
theorem ly_3 : ∀ w ∈ u_ws "NotedVolume$Note" tx_3 2, w ∈ xv_T := by
  intro w hw
  obtain ⟨k, hk, rfl⟩ := List.mem_map.mp hw
  have hk := List.mem_range.mp hk
  rcases (show k = 0 ∨ k = 1 by omega) with rfl | rfl
  · exact iw_411
  · exact iw_413
theorem tk_3 : ∀ k, k < 2 → parseFieldDescriptor (tx_3 k).2.2.1 = some (ty_3 k) := by decide +kernel
theorem nk_3 : ∀ a, a < 2 → ∀ b, b < 2 → a ≠ b → (tx_3 a).2.1 ≠ (tx_3 b).2.1 := by decide +kernel
theorem ly_4 : ∀ w ∈ u_ws "NotedVolume$Ring" tx_4 2, w ∈ xv_T := by
  intro w hw
  obtain ⟨k, hk, rfl⟩ := List.mem_map.mp hw
  have hk := List.mem_range.mp hk
  rcases (show k = 0 ∨ k = 1 by omega) with rfl | rfl
  · exact iw_90
  · exact iw_92
theorem tk_4 : ∀ k, k < 2 → parseFieldDescriptor (tx_4 k).2.2.1 = some (ty_4 k) := by decide +kernel
theorem nk_4 : ∀ a, a < 2 → ∀ b, b < 2 → a ≠ b → (tx_4 a).2.1 ≠ (tx_4 b).2.1 := by decide +kernel
theorem ly_5 : ∀ w ∈ u_ws "NotedVolume$Gathering" tx_5 2, w ∈ xv_T := by
  intro w hw
  obtain ⟨k, hk, rfl⟩ := List.mem_map.mp hw
  have hk := List.mem_range.mp hk
  rcases (show k = 0 ∨ k = 1 by omega) with rfl | rfl
  · exact iw_281
  · exact iw_283
theorem tk_5 : ∀ k, k < 2 → parseFieldDescriptor (tx_5 k).2.2.1 = some (ty_5 k) := by decide +kernel
theorem nk_5 : ∀ a, a < 2 → ∀ b, b < 2 → a ≠ b → (tx_5 a).2.1 ≠ (tx_5 b).2.1 := by decide +kernel
theorem ly_6 : ∀ w ∈ u_ws "NotedVolume$Gatherings" tx_6 1, w ∈ xv_T := by
  intro w hw
  obtain ⟨k, hk, rfl⟩ := List.mem_map.mp hw
  have hk := List.mem_range.mp hk
  rcases (show k = 0 by omega) with rfl
  · exact iw_104
theorem tk_6 : ∀ k, k < 1 → parseFieldDescriptor (tx_6 k).2.2.1 = some (ty_6 k) := by decide +kernel
theorem nk_6 : ∀ a, a < 1 → ∀ b, b < 1 → a ≠ b → (tx_6 a).2.1 ≠ (tx_6 b).2.1 := by decide +kernel
theorem ly_7 : ∀ w ∈ u_ws "NotedVolume$Subscriber" tx_7 6, w ∈ xv_T := by
  intro w hw
  obtain ⟨k, hk, rfl⟩ := List.mem_map.mp hw
  have hk := List.mem_range.mp hk
  rcases (show k = 0 ∨ k = 1 ∨ k = 2 ∨ k = 3 ∨ k = 4 ∨ k = 5 by omega) with rfl | rfl | rfl | rfl | rfl | rfl
  · exact iw_127
  · exact iw_129
  · exact iw_131
  · exact iw_133
  · exact iw_135
  · exact iw_137
theorem tk_7 : ∀ k, k < 6 → parseFieldDescriptor (tx_7 k).2.2.1 = some (ty_7 k) := by decide +kernel
theorem nk_7 : ∀ a, a < 6 → ∀ b, b < 6 → a ≠ b → (tx_7 a).2.1 ≠ (tx_7 b).2.1 := by decide +kernel
theorem ly_8 : ∀ w ∈ u_ws "java/util/ArrayList" tx_8 3, w ∈ xv_T := by
  intro w hw
  obtain ⟨k, hk, rfl⟩ := List.mem_map.mp hw
  have hk := List.mem_range.mp hk
  rcases (show k = 0 ∨ k = 1 ∨ k = 2 by omega) with rfl | rfl | rfl
  · exact iw_70
  · exact iw_66
  · exact iw_68
theorem tk_8 : ∀ k, k < 3 → parseFieldDescriptor (tx_8 k).2.2.1 = some (ty_8 k) := by decide +kernel
theorem nk_8 : ∀ a, a < 3 → ∀ b, b < 3 → a ≠ b → (tx_8 a).2.1 ≠ (tx_8 b).2.1 := by decide +kernel
theorem ly_9 : ∀ w ∈ u_ws "NotedVolumeModel" tx_9 28, w ∈ xv_T := by
  intro w hw
  obtain ⟨k, hk, rfl⟩ := List.mem_map.mp hw
  have hk := List.mem_range.mp hk
  rcases (show k = 0 ∨ k = 1 ∨ k = 2 ∨ k = 3 ∨ k = 4 ∨ k = 5 ∨ k = 6 ∨ k = 7 ∨ k = 8 ∨ k = 9 ∨ k = 10 ∨ k = 11 ∨ k = 12 ∨ k = 13 ∨ k = 14 ∨ k = 15 ∨ k = 16 ∨ k = 17 ∨ k = 18 ∨ k = 19 ∨ k = 20 ∨ k = 21 ∨ k = 22 ∨ k = 23 ∨ k = 24 ∨ k = 25 ∨ k = 26 ∨ k = 27 by omega) with rfl | rfl | rfl | rfl | rfl | rfl | rfl | rfl | rfl | rfl | rfl | rfl | rfl | rfl | rfl | rfl | rfl | rfl | rfl | rfl | rfl | rfl | rfl | rfl | rfl | rfl | rfl | rfl
  · exact iw_1114
  · exact iw_1116
  · exact iw_1118
  · exact iw_1120
  · exact iw_1122
  · exact iw_1124
  · exact iw_1126
  · exact iw_1128
  · exact iw_1130
  · exact iw_1132
  · exact iw_1134
  · exact iw_1136
  · exact iw_1138
  · exact iw_1140
  · exact iw_1142
  · exact iw_1144
  · exact iw_1146
  · exact iw_1148
  · exact iw_1150
  · exact iw_1152
  · exact iw_1154
  · exact iw_1156
  · exact iw_1158
  · exact iw_1160
  · exact iw_1162
  · exact iw_1164
  · exact iw_1166
  · exact iw_1168
theorem tk_9 : ∀ k, k < 28 → parseFieldDescriptor (tx_9 k).2.2.1 = some (ty_9 k) := by decide +kernel
theorem nk_9 : ∀ a, a < 28 → ∀ b, b < 28 → a ≠ b → (tx_9 a).2.1 ≠ (tx_9 b).2.1 := by decide +kernel
theorem ly_10 : ∀ w ∈ u_ws "java/lang/IllegalStateException" tx_10 0, w ∈ xv_T := by
  intro w hw
  obtain ⟨k, hk, rfl⟩ := List.mem_map.mp hw
  have hk := List.mem_range.mp hk
  omega
theorem tk_10 : ∀ k, k < 0 → parseFieldDescriptor (tx_10 k).2.2.1 = some (ty_10 k) := by decide +kernel
theorem nk_10 : ∀ a, a < 0 → ∀ b, b < 0 → a ≠ b → (tx_10 a).2.1 ≠ (tx_10 b).2.1 := by decide +kernel
theorem ly_11 : ∀ w ∈ u_ws "java/lang/IllegalArgumentException" tx_11 0, w ∈ xv_T := by
  intro w hw
  obtain ⟨k, hk, rfl⟩ := List.mem_map.mp hw
  have hk := List.mem_range.mp hk
  omega
theorem tk_11 : ∀ k, k < 0 → parseFieldDescriptor (tx_11 k).2.2.1 = some (ty_11 k) := by decide +kernel
theorem nk_11 : ∀ a, a < 0 → ∀ b, b < 0 → a ≠ b → (tx_11 a).2.1 ≠ (tx_11 b).2.1 := by decide +kernel
theorem ly_12 : ∀ w ∈ u_ws "java/util/NoSuchElementException" tx_12 0, w ∈ xv_T := by
  intro w hw
  obtain ⟨k, hk, rfl⟩ := List.mem_map.mp hw
  have hk := List.mem_range.mp hk
  omega
theorem tk_12 : ∀ k, k < 0 → parseFieldDescriptor (tx_12 k).2.2.1 = some (ty_12 k) := by decide +kernel
theorem nk_12 : ∀ a, a < 0 → ∀ b, b < 0 → a ≠ b → (tx_12 a).2.1 ≠ (tx_12 b).2.1 := by decide +kernel
theorem ly_13 : ∀ w ∈ u_ws "java/lang/UnsupportedOperationException" tx_13 0, w ∈ xv_T := by
  intro w hw
  obtain ⟨k, hk, rfl⟩ := List.mem_map.mp hw
  have hk := List.mem_range.mp hk
  omega
theorem tk_13 : ∀ k, k < 0 → parseFieldDescriptor (tx_13 k).2.2.1 = some (ty_13 k) := by decide +kernel
theorem nk_13 : ∀ a, a < 0 → ∀ b, b < 0 → a ≠ b → (tx_13 a).2.1 ≠ (tx_13 b).2.1 := by decide +kernel
theorem ly_14 : ∀ w ∈ u_ws "java/lang/IndexOutOfBoundsException" tx_14 0, w ∈ xv_T := by
  intro w hw
  obtain ⟨k, hk, rfl⟩ := List.mem_map.mp hw
  have hk := List.mem_range.mp hk
  omega
theorem tk_14 : ∀ k, k < 0 → parseFieldDescriptor (tx_14 k).2.2.1 = some (ty_14 k) := by decide +kernel
theorem nk_14 : ∀ a, a < 0 → ∀ b, b < 0 → a ≠ b → (tx_14 a).2.1 ≠ (tx_14 b).2.1 := by decide +kernel
def mm_C_init : xa_M := (⟨"java/util/AbstractCollection", "<init>", "()V"⟩, prog_29_method_1_code, 1, none, [])
theorem ok_C_init : xa_O mm_C_init := ⟨by decide, Or.inr ⟨rfl, iw_57⟩, iw_3, by decide, by decide⟩
def mm_B_init : xa_M := (⟨"java/util/AbstractList", "<init>", "()V"⟩, prog_30_method_1_code, 1, none, [])
theorem ok_B_init : xa_O mm_B_init := ⟨by decide, Or.inr ⟨rfl, iw_54⟩, iw_4, by decide, by decide⟩
def mm_A_init : xa_M := (⟨"java/util/ArrayList", "<init>", "()V"⟩, prog_31_method_2_code, 1, none, [])
theorem ok_A_init : xa_O mm_A_init := ⟨by decide, Or.inr ⟨rfl, iw_51⟩, iw_5, by decide, by decide⟩
def mm_A_add0 : xa_M := (⟨"java/util/ArrayList", "add", "(ILjava/lang/Object;)V"⟩, prog_31_method_26_code, 5, none, [])
theorem ok_A_add0 : xa_O mm_A_add0 := ⟨by decide, Or.inr ⟨rfl, iw_608⟩, iw_5, by decide, by decide⟩
def mm_A_add1 : xa_M := (⟨"java/util/ArrayList", "add", "(Ljava/lang/Object;)Z"⟩, prog_31_method_25_code, 2, (some .boolean), [])
theorem ok_A_add1 : xa_O mm_A_add1 := ⟨by decide, Or.inr ⟨rfl, iw_289⟩, iw_5, by decide, by decide⟩
def mm_A_add2 : xa_M := (⟨"java/util/ArrayList", "add", "(Ljava/lang/Object;[Ljava/lang/Object;I)V"⟩, prog_31_method_24_code, 4, none, [])
theorem ok_A_add2 : xa_O mm_A_add2 := ⟨by decide, Or.inr ⟨rfl, iw_293⟩, iw_5, by decide, by decide⟩
def mm_A_clear : xa_M := (⟨"java/util/ArrayList", "clear", "()V"⟩, prog_31_method_40_code, 4, none, [])
theorem ok_A_clear : xa_O mm_A_clear := ⟨by decide, Or.inr ⟨rfl, iw_234⟩, iw_5, by decide, by decide⟩
def mm_A_elementData : xa_M := (⟨"java/util/ArrayList", "elementData", "(I)Ljava/lang/Object;"⟩, prog_31_method_18_code, 2, (some (.object "java/lang/Object")), [])
theorem ok_A_elementData : xa_O mm_A_elementData := ⟨by decide, Or.inr ⟨rfl, iw_197⟩, iw_5, by decide, by decide⟩
def mm_A_fastRemove : xa_M := (⟨"java/util/ArrayList", "fastRemove", "([Ljava/lang/Object;I)V"⟩, prog_31_method_39_code, 4, none, [])
theorem ok_A_fastRemove : xa_O mm_A_fastRemove := ⟨by decide, Or.inr ⟨rfl, iw_259⟩, iw_5, by decide, by decide⟩
def mm_A_get : xa_M := (⟨"java/util/ArrayList", "get", "(I)Ljava/lang/Object;"⟩, prog_31_method_20_code, 2, (some (.object "java/lang/Object")), [])
theorem ok_A_get : xa_O mm_A_get := ⟨by decide, Or.inr ⟨rfl, iw_187⟩, iw_5, by decide, by decide⟩
def mm_A_grow0 : xa_M := (⟨"java/util/ArrayList", "grow", "()[Ljava/lang/Object;"⟩, prog_31_method_7_code, 1, (some (.array (.object "java/lang/Object"))), [])
theorem ok_A_grow0 : xa_O mm_A_grow0 := ⟨by decide, Or.inr ⟨rfl, iw_297⟩, iw_5, by decide, by decide⟩
def mm_A_grow1 : xa_M := (⟨"java/util/ArrayList", "grow", "(I)[Ljava/lang/Object;"⟩, prog_31_method_6_code, 4, (some (.array (.object "java/lang/Object"))), [])
theorem ok_A_grow1 : xa_O mm_A_grow1 := ⟨by decide, Or.inr ⟨rfl, iw_301⟩, iw_5, by decide, by decide⟩
def mm_A_isEmpty : xa_M := (⟨"java/util/ArrayList", "isEmpty", "()Z"⟩, prog_31_method_9_code, 1, (some .boolean), [])
theorem ok_A_isEmpty : xa_O mm_A_isEmpty := ⟨by decide, Or.inr ⟨rfl, iw_355⟩, iw_5, by decide, by decide⟩
def mm_A_rangeCheckForAdd : xa_M := (⟨"java/util/ArrayList", "rangeCheckForAdd", "(I)V"⟩, prog_31_method_45_code, 2, none, [])
theorem ok_A_rangeCheckForAdd : xa_O mm_A_rangeCheckForAdd := ⟨by decide, Or.inr ⟨rfl, iw_612⟩, iw_5, by decide, by decide⟩
def mm_A_remove : xa_M := (⟨"java/util/ArrayList", "remove", "(I)Ljava/lang/Object;"⟩, prog_31_method_29_code, 4, (some (.object "java/lang/Object")), [])
theorem ok_A_remove : xa_O mm_A_remove := ⟨by decide, Or.inr ⟨rfl, iw_255⟩, iw_5, by decide, by decide⟩
def mm_A_set : xa_M := (⟨"java/util/ArrayList", "set", "(ILjava/lang/Object;)Ljava/lang/Object;"⟩, prog_31_method_23_code, 4, (some (.object "java/lang/Object")), [])
theorem ok_A_set : xa_O mm_A_set := ⟨by decide, Or.inr ⟨rfl, iw_604⟩, iw_5, by decide, by decide⟩
def mm_A_size : xa_M := (⟨"java/util/ArrayList", "size", "()I"⟩, prog_31_method_8_code, 1, (some .int), [])
theorem ok_A_size : xa_O mm_A_size := ⟨by decide, Or.inr ⟨rfl, iw_174⟩, iw_5, by decide, by decide⟩
def mm_J_copyOf1 : xa_M := (⟨"java/util/Arrays", "copyOf", "([Ljava/lang/Object;I)[Ljava/lang/Object;"⟩, prog_32_method_119_code, 2, (some (.array (.object "java/lang/Object"))), [])
theorem ok_J_copyOf1 : xa_O mm_J_copyOf1 := ⟨by decide, Or.inr ⟨rfl, iw_314⟩, iw_25, by decide, by decide⟩
def mm_J_copyOf2 : xa_M := (⟨"java/util/Arrays", "copyOf", "([Ljava/lang/Object;ILjava/lang/Class;)[Ljava/lang/Object;"⟩, prog_32_method_120_code, 4, (some (.array (.object "java/lang/Object"))), [])
theorem ok_J_copyOf2 : xa_O mm_J_copyOf2 := ⟨by decide, Or.inr ⟨rfl, iw_338⟩, iw_25, by decide, by decide⟩
def mm_O_checkIndex : xa_M := (⟨"java/util/Objects", "checkIndex", "(II)I"⟩, prog_36_method_17_code, 2, (some .int), [])
theorem ok_O_checkIndex : xa_O mm_O_checkIndex := ⟨by decide, Or.inr ⟨rfl, iw_190⟩, iw_15, by decide, by decide⟩
def mm_Q_newLength : xa_M := (⟨"jdk/internal/util/ArraysSupport", "newLength", "(III)I"⟩, prog_39_method_27_code, 4, (some .int), [])
theorem ok_Q_newLength : xa_O mm_Q_newLength := ⟨by decide, Or.inr ⟨rfl, iw_304⟩, iw_23, by decide, by decide⟩
def mm_P_checkIndex : xa_M := (⟨"jdk/internal/util/Preconditions", "checkIndex", "(IILjava/util/function/BiFunction;)I"⟩, prog_40_method_11_code, 3, (some .int), [])
theorem ok_P_checkIndex : xa_O mm_P_checkIndex := ⟨by decide, Or.inr ⟨rfl, iw_193⟩, iw_16, by decide, by decide⟩
theorem dd_C_init_0 : decode mm_C_init.2.1 0 = .ok (.aload_n 0, 1) := by decide +kernel
theorem dd_C_init_1 : decode mm_C_init.2.1 1 = .ok (.invokespecial 1, 3) := by decide +kernel
theorem dd_C_init_4 : decode mm_C_init.2.1 4 = .ok (.return_, 1) := by decide +kernel
theorem dd_B_init_0 : decode mm_B_init.2.1 0 = .ok (.aload_n 0, 1) := by decide +kernel
theorem dd_B_init_1 : decode mm_B_init.2.1 1 = .ok (.invokespecial 1, 3) := by decide +kernel
theorem dd_B_init_4 : decode mm_B_init.2.1 4 = .ok (.aload_n 0, 1) := by decide +kernel
theorem dd_B_init_5 : decode mm_B_init.2.1 5 = .ok (.iconst 0, 1) := by decide +kernel
theorem dd_B_init_6 : decode mm_B_init.2.1 6 = .ok (.putfield 7, 3) := by decide +kernel
theorem dd_B_init_9 : decode mm_B_init.2.1 9 = .ok (.return_, 1) := by decide +kernel
theorem dd_A_init_0 : decode mm_A_init.2.1 0 = .ok (.aload_n 0, 1) := by decide +kernel
theorem dd_A_init_1 : decode mm_A_init.2.1 1 = .ok (.invokespecial 1, 3) := by decide +kernel
theorem dd_A_init_4 : decode mm_A_init.2.1 4 = .ok (.aload_n 0, 1) := by decide +kernel
theorem dd_A_init_5 : decode mm_A_init.2.1 5 = .ok (.getstatic 39, 3) := by decide +kernel
theorem dd_A_init_8 : decode mm_A_init.2.1 8 = .ok (.putfield 9, 3) := by decide +kernel
theorem dd_A_init_11 : decode mm_A_init.2.1 11 = .ok (.return_, 1) := by decide +kernel
theorem dd_A_add0_0 : decode mm_A_add0.2.1 0 = .ok (.aload_n 0, 1) := by decide +kernel
theorem dd_A_add0_1 : decode mm_A_add0.2.1 1 = .ok (.iload_n 1, 1) := by decide +kernel
theorem dd_A_add0_2 : decode mm_A_add0.2.1 2 = .ok (.invokevirtual 135, 3) := by decide +kernel
theorem dd_A_add0_5 : decode mm_A_add0.2.1 5 = .ok (.aload_n 0, 1) := by decide +kernel
theorem dd_A_add0_6 : decode mm_A_add0.2.1 6 = .ok (.dup, 1) := by decide +kernel
theorem dd_A_add0_7 : decode mm_A_add0.2.1 7 = .ok (.getfield 63, 3) := by decide +kernel
theorem dd_A_add0_10 : decode mm_A_add0.2.1 10 = .ok (.iconst 1, 1) := by decide +kernel
theorem dd_A_add0_11 : decode mm_A_add0.2.1 11 = .ok (.iadd, 1) := by decide +kernel
theorem dd_A_add0_12 : decode mm_A_add0.2.1 12 = .ok (.putfield 63, 3) := by decide +kernel
theorem dd_A_add0_15 : decode mm_A_add0.2.1 15 = .ok (.aload_n 0, 1) := by decide +kernel
theorem dd_A_add0_16 : decode mm_A_add0.2.1 16 = .ok (.getfield 48, 3) := by decide +kernel
theorem dd_A_add0_19 : decode mm_A_add0.2.1 19 = .ok (.dup, 1) := by decide +kernel
theorem dd_A_add0_20 : decode mm_A_add0.2.1 20 = .ok (.istore_n 3, 1) := by decide +kernel
theorem dd_A_add0_21 : decode mm_A_add0.2.1 21 = .ok (.aload_n 0, 1) := by decide +kernel
theorem dd_A_add0_22 : decode mm_A_add0.2.1 22 = .ok (.getfield 9, 3) := by decide +kernel
theorem dd_A_add0_25 : decode mm_A_add0.2.1 25 = .ok (.dup, 1) := by decide +kernel
theorem dd_A_add0_26 : decode mm_A_add0.2.1 26 = .ok (.astore 4, 2) := by decide +kernel
theorem dd_A_add0_28 : decode mm_A_add0.2.1 28 = .ok (.arraylength, 1) := by decide +kernel
theorem dd_A_add0_29 : decode mm_A_add0.2.1 29 = .ok (.if_icmp .ne 9, 3) := by decide +kernel
theorem dd_A_add0_32 : decode mm_A_add0.2.1 32 = .ok (.aload_n 0, 1) := by decide +kernel
theorem dd_A_add0_33 : decode mm_A_add0.2.1 33 = .ok (.invokevirtual 129, 3) := by decide +kernel
theorem dd_A_add0_36 : decode mm_A_add0.2.1 36 = .ok (.astore 4, 2) := by decide +kernel
theorem dd_A_add0_38 : decode mm_A_add0.2.1 38 = .ok (.aload 4, 2) := by decide +kernel
theorem dd_A_add0_40 : decode mm_A_add0.2.1 40 = .ok (.iload_n 1, 1) := by decide +kernel
theorem dd_A_add0_41 : decode mm_A_add0.2.1 41 = .ok (.aload 4, 2) := by decide +kernel
theorem dd_A_add0_43 : decode mm_A_add0.2.1 43 = .ok (.iload_n 1, 1) := by decide +kernel
theorem dd_A_add0_44 : decode mm_A_add0.2.1 44 = .ok (.iconst 1, 1) := by decide +kernel
theorem dd_A_add0_45 : decode mm_A_add0.2.1 45 = .ok (.iadd, 1) := by decide +kernel
theorem dd_A_add0_46 : decode mm_A_add0.2.1 46 = .ok (.iload_n 3, 1) := by decide +kernel
theorem dd_A_add0_47 : decode mm_A_add0.2.1 47 = .ok (.iload_n 1, 1) := by decide +kernel
theorem dd_A_add0_48 : decode mm_A_add0.2.1 48 = .ok (.isub, 1) := by decide +kernel
theorem dd_A_add0_49 : decode mm_A_add0.2.1 49 = .ok (.invokestatic 112, 3) := by decide +kernel
theorem dd_A_add0_52 : decode mm_A_add0.2.1 52 = .ok (.aload 4, 2) := by decide +kernel
theorem dd_A_add0_54 : decode mm_A_add0.2.1 54 = .ok (.iload_n 1, 1) := by decide +kernel
theorem dd_A_add0_55 : decode mm_A_add0.2.1 55 = .ok (.aload_n 2, 1) := by decide +kernel
theorem dd_A_add0_56 : decode mm_A_add0.2.1 56 = .ok (.aastore, 1) := by decide +kernel
theorem dd_A_add0_57 : decode mm_A_add0.2.1 57 = .ok (.aload_n 0, 1) := by decide +kernel
theorem dd_A_add0_58 : decode mm_A_add0.2.1 58 = .ok (.iload_n 3, 1) := by decide +kernel
theorem dd_A_add0_59 : decode mm_A_add0.2.1 59 = .ok (.iconst 1, 1) := by decide +kernel
theorem dd_A_add0_60 : decode mm_A_add0.2.1 60 = .ok (.iadd, 1) := by decide +kernel
theorem dd_A_add0_61 : decode mm_A_add0.2.1 61 = .ok (.putfield 48, 3) := by decide +kernel
theorem dd_A_add0_64 : decode mm_A_add0.2.1 64 = .ok (.return_, 1) := by decide +kernel
theorem dd_A_add1_0 : decode mm_A_add1.2.1 0 = .ok (.aload_n 0, 1) := by decide +kernel
theorem dd_A_add1_1 : decode mm_A_add1.2.1 1 = .ok (.dup, 1) := by decide +kernel
theorem dd_A_add1_2 : decode mm_A_add1.2.1 2 = .ok (.getfield 63, 3) := by decide +kernel
theorem dd_A_add1_5 : decode mm_A_add1.2.1 5 = .ok (.iconst 1, 1) := by decide +kernel
theorem dd_A_add1_6 : decode mm_A_add1.2.1 6 = .ok (.iadd, 1) := by decide +kernel
theorem dd_A_add1_7 : decode mm_A_add1.2.1 7 = .ok (.putfield 63, 3) := by decide +kernel
theorem dd_A_add1_10 : decode mm_A_add1.2.1 10 = .ok (.aload_n 0, 1) := by decide +kernel
theorem dd_A_add1_11 : decode mm_A_add1.2.1 11 = .ok (.aload_n 1, 1) := by decide +kernel
theorem dd_A_add1_12 : decode mm_A_add1.2.1 12 = .ok (.aload_n 0, 1) := by decide +kernel
theorem dd_A_add1_13 : decode mm_A_add1.2.1 13 = .ok (.getfield 9, 3) := by decide +kernel
theorem dd_A_add1_16 : decode mm_A_add1.2.1 16 = .ok (.aload_n 0, 1) := by decide +kernel
theorem dd_A_add1_17 : decode mm_A_add1.2.1 17 = .ok (.getfield 48, 3) := by decide +kernel
theorem dd_A_add1_20 : decode mm_A_add1.2.1 20 = .ok (.invokevirtual 131, 3) := by decide +kernel
theorem dd_A_add1_23 : decode mm_A_add1.2.1 23 = .ok (.iconst 1, 1) := by decide +kernel
theorem dd_A_add1_24 : decode mm_A_add1.2.1 24 = .ok (.ireturn, 1) := by decide +kernel
theorem dd_A_add2_0 : decode mm_A_add2.2.1 0 = .ok (.iload_n 3, 1) := by decide +kernel
theorem dd_A_add2_1 : decode mm_A_add2.2.1 1 = .ok (.aload_n 2, 1) := by decide +kernel
theorem dd_A_add2_2 : decode mm_A_add2.2.1 2 = .ok (.arraylength, 1) := by decide +kernel
theorem dd_A_add2_3 : decode mm_A_add2.2.1 3 = .ok (.if_icmp .ne 8, 3) := by decide +kernel
theorem dd_A_add2_6 : decode mm_A_add2.2.1 6 = .ok (.aload_n 0, 1) := by decide +kernel
theorem dd_A_add2_7 : decode mm_A_add2.2.1 7 = .ok (.invokevirtual 129, 3) := by decide +kernel
theorem dd_A_add2_10 : decode mm_A_add2.2.1 10 = .ok (.astore_n 2, 1) := by decide +kernel
theorem dd_A_add2_11 : decode mm_A_add2.2.1 11 = .ok (.aload_n 2, 1) := by decide +kernel
theorem dd_A_add2_12 : decode mm_A_add2.2.1 12 = .ok (.iload_n 3, 1) := by decide +kernel
theorem dd_A_add2_13 : decode mm_A_add2.2.1 13 = .ok (.aload_n 1, 1) := by decide +kernel
theorem dd_A_add2_14 : decode mm_A_add2.2.1 14 = .ok (.aastore, 1) := by decide +kernel
theorem dd_A_add2_15 : decode mm_A_add2.2.1 15 = .ok (.aload_n 0, 1) := by decide +kernel
theorem dd_A_add2_16 : decode mm_A_add2.2.1 16 = .ok (.iload_n 3, 1) := by decide +kernel
theorem dd_A_add2_17 : decode mm_A_add2.2.1 17 = .ok (.iconst 1, 1) := by decide +kernel
theorem dd_A_add2_18 : decode mm_A_add2.2.1 18 = .ok (.iadd, 1) := by decide +kernel
theorem dd_A_add2_19 : decode mm_A_add2.2.1 19 = .ok (.putfield 48, 3) := by decide +kernel
theorem dd_A_add2_22 : decode mm_A_add2.2.1 22 = .ok (.return_, 1) := by decide +kernel
theorem dd_A_clear_0 : decode mm_A_clear.2.1 0 = .ok (.aload_n 0, 1) := by decide +kernel
theorem dd_A_clear_1 : decode mm_A_clear.2.1 1 = .ok (.dup, 1) := by decide +kernel
theorem dd_A_clear_2 : decode mm_A_clear.2.1 2 = .ok (.getfield 63, 3) := by decide +kernel
theorem dd_A_clear_5 : decode mm_A_clear.2.1 5 = .ok (.iconst 1, 1) := by decide +kernel
theorem dd_A_clear_6 : decode mm_A_clear.2.1 6 = .ok (.iadd, 1) := by decide +kernel
theorem dd_A_clear_7 : decode mm_A_clear.2.1 7 = .ok (.putfield 63, 3) := by decide +kernel
theorem dd_A_clear_10 : decode mm_A_clear.2.1 10 = .ok (.aload_n 0, 1) := by decide +kernel
theorem dd_A_clear_11 : decode mm_A_clear.2.1 11 = .ok (.getfield 9, 3) := by decide +kernel
theorem dd_A_clear_14 : decode mm_A_clear.2.1 14 = .ok (.astore_n 1, 1) := by decide +kernel
theorem dd_A_clear_15 : decode mm_A_clear.2.1 15 = .ok (.aload_n 0, 1) := by decide +kernel
theorem dd_A_clear_16 : decode mm_A_clear.2.1 16 = .ok (.getfield 48, 3) := by decide +kernel
theorem dd_A_clear_19 : decode mm_A_clear.2.1 19 = .ok (.istore_n 2, 1) := by decide +kernel
theorem dd_A_clear_20 : decode mm_A_clear.2.1 20 = .ok (.aload_n 0, 1) := by decide +kernel
theorem dd_A_clear_21 : decode mm_A_clear.2.1 21 = .ok (.iconst 0, 1) := by decide +kernel
theorem dd_A_clear_22 : decode mm_A_clear.2.1 22 = .ok (.dup_x1, 1) := by decide +kernel
theorem dd_A_clear_23 : decode mm_A_clear.2.1 23 = .ok (.putfield 48, 3) := by decide +kernel
theorem dd_A_clear_26 : decode mm_A_clear.2.1 26 = .ok (.istore_n 3, 1) := by decide +kernel
theorem dd_A_clear_27 : decode mm_A_clear.2.1 27 = .ok (.iload_n 3, 1) := by decide +kernel
theorem dd_A_clear_28 : decode mm_A_clear.2.1 28 = .ok (.iload_n 2, 1) := by decide +kernel
theorem dd_A_clear_29 : decode mm_A_clear.2.1 29 = .ok (.if_icmp .ge 13, 3) := by decide +kernel
theorem dd_A_clear_32 : decode mm_A_clear.2.1 32 = .ok (.aload_n 1, 1) := by decide +kernel
theorem dd_A_clear_33 : decode mm_A_clear.2.1 33 = .ok (.iload_n 3, 1) := by decide +kernel
theorem dd_A_clear_34 : decode mm_A_clear.2.1 34 = .ok (.aconst_null, 1) := by decide +kernel
theorem dd_A_clear_35 : decode mm_A_clear.2.1 35 = .ok (.aastore, 1) := by decide +kernel
theorem dd_A_clear_36 : decode mm_A_clear.2.1 36 = .ok (.iinc 3 1, 3) := by decide +kernel
theorem dd_A_clear_39 : decode mm_A_clear.2.1 39 = .ok (.goto (-12), 3) := by decide +kernel
theorem dd_A_clear_42 : decode mm_A_clear.2.1 42 = .ok (.return_, 1) := by decide +kernel
theorem dd_A_elementData_0 : decode mm_A_elementData.2.1 0 = .ok (.aload_n 0, 1) := by decide +kernel
theorem dd_A_elementData_1 : decode mm_A_elementData.2.1 1 = .ok (.getfield 9, 3) := by decide +kernel
theorem dd_A_elementData_4 : decode mm_A_elementData.2.1 4 = .ok (.iload_n 1, 1) := by decide +kernel
theorem dd_A_elementData_5 : decode mm_A_elementData.2.1 5 = .ok (.aaload, 1) := by decide +kernel
theorem dd_A_elementData_6 : decode mm_A_elementData.2.1 6 = .ok (.areturn, 1) := by decide +kernel
theorem dd_A_fastRemove_0 : decode mm_A_fastRemove.2.1 0 = .ok (.aload_n 0, 1) := by decide +kernel
theorem dd_A_fastRemove_1 : decode mm_A_fastRemove.2.1 1 = .ok (.dup, 1) := by decide +kernel
theorem dd_A_fastRemove_2 : decode mm_A_fastRemove.2.1 2 = .ok (.getfield 63, 3) := by decide +kernel
theorem dd_A_fastRemove_5 : decode mm_A_fastRemove.2.1 5 = .ok (.iconst 1, 1) := by decide +kernel
theorem dd_A_fastRemove_6 : decode mm_A_fastRemove.2.1 6 = .ok (.iadd, 1) := by decide +kernel
theorem dd_A_fastRemove_7 : decode mm_A_fastRemove.2.1 7 = .ok (.putfield 63, 3) := by decide +kernel
theorem dd_A_fastRemove_10 : decode mm_A_fastRemove.2.1 10 = .ok (.aload_n 0, 1) := by decide +kernel
theorem dd_A_fastRemove_11 : decode mm_A_fastRemove.2.1 11 = .ok (.getfield 48, 3) := by decide +kernel
theorem dd_A_fastRemove_14 : decode mm_A_fastRemove.2.1 14 = .ok (.iconst 1, 1) := by decide +kernel
theorem dd_A_fastRemove_15 : decode mm_A_fastRemove.2.1 15 = .ok (.isub, 1) := by decide +kernel
theorem dd_A_fastRemove_16 : decode mm_A_fastRemove.2.1 16 = .ok (.dup, 1) := by decide +kernel
theorem dd_A_fastRemove_17 : decode mm_A_fastRemove.2.1 17 = .ok (.istore_n 3, 1) := by decide +kernel
theorem dd_A_fastRemove_18 : decode mm_A_fastRemove.2.1 18 = .ok (.iload_n 2, 1) := by decide +kernel
theorem dd_A_fastRemove_19 : decode mm_A_fastRemove.2.1 19 = .ok (.if_icmp .le 15, 3) := by decide +kernel
theorem dd_A_fastRemove_22 : decode mm_A_fastRemove.2.1 22 = .ok (.aload_n 1, 1) := by decide +kernel
theorem dd_A_fastRemove_23 : decode mm_A_fastRemove.2.1 23 = .ok (.iload_n 2, 1) := by decide +kernel
theorem dd_A_fastRemove_24 : decode mm_A_fastRemove.2.1 24 = .ok (.iconst 1, 1) := by decide +kernel
theorem dd_A_fastRemove_25 : decode mm_A_fastRemove.2.1 25 = .ok (.iadd, 1) := by decide +kernel
theorem dd_A_fastRemove_26 : decode mm_A_fastRemove.2.1 26 = .ok (.aload_n 1, 1) := by decide +kernel
theorem dd_A_fastRemove_27 : decode mm_A_fastRemove.2.1 27 = .ok (.iload_n 2, 1) := by decide +kernel
theorem dd_A_fastRemove_28 : decode mm_A_fastRemove.2.1 28 = .ok (.iload_n 3, 1) := by decide +kernel
theorem dd_A_fastRemove_29 : decode mm_A_fastRemove.2.1 29 = .ok (.iload_n 2, 1) := by decide +kernel
theorem dd_A_fastRemove_30 : decode mm_A_fastRemove.2.1 30 = .ok (.isub, 1) := by decide +kernel
theorem dd_A_fastRemove_31 : decode mm_A_fastRemove.2.1 31 = .ok (.invokestatic 112, 3) := by decide +kernel
theorem dd_A_fastRemove_34 : decode mm_A_fastRemove.2.1 34 = .ok (.aload_n 1, 1) := by decide +kernel
theorem dd_A_fastRemove_35 : decode mm_A_fastRemove.2.1 35 = .ok (.aload_n 0, 1) := by decide +kernel
theorem dd_A_fastRemove_36 : decode mm_A_fastRemove.2.1 36 = .ok (.iload_n 3, 1) := by decide +kernel
theorem dd_A_fastRemove_37 : decode mm_A_fastRemove.2.1 37 = .ok (.dup_x1, 1) := by decide +kernel
theorem dd_A_fastRemove_38 : decode mm_A_fastRemove.2.1 38 = .ok (.putfield 48, 3) := by decide +kernel
theorem dd_A_fastRemove_41 : decode mm_A_fastRemove.2.1 41 = .ok (.aconst_null, 1) := by decide +kernel
theorem dd_A_fastRemove_42 : decode mm_A_fastRemove.2.1 42 = .ok (.aastore, 1) := by decide +kernel
theorem dd_A_fastRemove_43 : decode mm_A_fastRemove.2.1 43 = .ok (.return_, 1) := by decide +kernel
theorem dd_A_get_0 : decode mm_A_get.2.1 0 = .ok (.iload_n 1, 1) := by decide +kernel
theorem dd_A_get_1 : decode mm_A_get.2.1 1 = .ok (.aload_n 0, 1) := by decide +kernel
theorem dd_A_get_2 : decode mm_A_get.2.1 2 = .ok (.getfield 48, 3) := by decide +kernel
theorem dd_A_get_5 : decode mm_A_get.2.1 5 = .ok (.invokestatic 118, 3) := by decide +kernel
theorem dd_A_get_8 : decode mm_A_get.2.1 8 = .ok (.pop, 1) := by decide +kernel
theorem dd_A_get_9 : decode mm_A_get.2.1 9 = .ok (.aload_n 0, 1) := by decide +kernel
theorem dd_A_get_10 : decode mm_A_get.2.1 10 = .ok (.iload_n 1, 1) := by decide +kernel
theorem dd_A_get_11 : decode mm_A_get.2.1 11 = .ok (.invokevirtual 123, 3) := by decide +kernel
theorem dd_A_get_14 : decode mm_A_get.2.1 14 = .ok (.areturn, 1) := by decide +kernel
theorem dd_A_grow0_0 : decode mm_A_grow0.2.1 0 = .ok (.aload_n 0, 1) := by decide +kernel
theorem dd_A_grow0_1 : decode mm_A_grow0.2.1 1 = .ok (.aload_n 0, 1) := by decide +kernel
theorem dd_A_grow0_2 : decode mm_A_grow0.2.1 2 = .ok (.getfield 48, 3) := by decide +kernel
theorem dd_A_grow0_5 : decode mm_A_grow0.2.1 5 = .ok (.iconst 1, 1) := by decide +kernel
theorem dd_A_grow0_6 : decode mm_A_grow0.2.1 6 = .ok (.iadd, 1) := by decide +kernel
theorem dd_A_grow0_7 : decode mm_A_grow0.2.1 7 = .ok (.invokevirtual 69, 3) := by decide +kernel
theorem dd_A_grow0_10 : decode mm_A_grow0.2.1 10 = .ok (.areturn, 1) := by decide +kernel
theorem dd_A_grow1_0 : decode mm_A_grow1.2.1 0 = .ok (.aload_n 0, 1) := by decide +kernel
theorem dd_A_grow1_1 : decode mm_A_grow1.2.1 1 = .ok (.getfield 9, 3) := by decide +kernel
theorem dd_A_grow1_4 : decode mm_A_grow1.2.1 4 = .ok (.arraylength, 1) := by decide +kernel
theorem dd_A_grow1_5 : decode mm_A_grow1.2.1 5 = .ok (.istore_n 2, 1) := by decide +kernel
theorem dd_A_grow1_6 : decode mm_A_grow1.2.1 6 = .ok (.iload_n 2, 1) := by decide +kernel
theorem dd_A_grow1_7 : decode mm_A_grow1.2.1 7 = .ok (.ifCond .gt 13, 3) := by decide +kernel
theorem dd_A_grow1_10 : decode mm_A_grow1.2.1 10 = .ok (.aload_n 0, 1) := by decide +kernel
theorem dd_A_grow1_11 : decode mm_A_grow1.2.1 11 = .ok (.getfield 9, 3) := by decide +kernel
theorem dd_A_grow1_14 : decode mm_A_grow1.2.1 14 = .ok (.getstatic 39, 3) := by decide +kernel
theorem dd_A_grow1_17 : decode mm_A_grow1.2.1 17 = .ok (.if_acmp .eq 28, 3) := by decide +kernel
theorem dd_A_grow1_20 : decode mm_A_grow1.2.1 20 = .ok (.iload_n 2, 1) := by decide +kernel
theorem dd_A_grow1_21 : decode mm_A_grow1.2.1 21 = .ok (.iload_n 1, 1) := by decide +kernel
theorem dd_A_grow1_22 : decode mm_A_grow1.2.1 22 = .ok (.iload_n 2, 1) := by decide +kernel
theorem dd_A_grow1_23 : decode mm_A_grow1.2.1 23 = .ok (.isub, 1) := by decide +kernel
theorem dd_A_grow1_24 : decode mm_A_grow1.2.1 24 = .ok (.iload_n 2, 1) := by decide +kernel
theorem dd_A_grow1_25 : decode mm_A_grow1.2.1 25 = .ok (.iconst 1, 1) := by decide +kernel
theorem dd_A_grow1_26 : decode mm_A_grow1.2.1 26 = .ok (.ishr, 1) := by decide +kernel
theorem dd_A_grow1_27 : decode mm_A_grow1.2.1 27 = .ok (.invokestatic 73, 3) := by decide +kernel
theorem dd_A_grow1_30 : decode mm_A_grow1.2.1 30 = .ok (.istore_n 3, 1) := by decide +kernel
theorem dd_A_grow1_31 : decode mm_A_grow1.2.1 31 = .ok (.aload_n 0, 1) := by decide +kernel
theorem dd_A_grow1_32 : decode mm_A_grow1.2.1 32 = .ok (.aload_n 0, 1) := by decide +kernel
theorem dd_A_grow1_33 : decode mm_A_grow1.2.1 33 = .ok (.getfield 9, 3) := by decide +kernel
theorem dd_A_grow1_36 : decode mm_A_grow1.2.1 36 = .ok (.iload_n 3, 1) := by decide +kernel
theorem dd_A_grow1_37 : decode mm_A_grow1.2.1 37 = .ok (.invokestatic 66, 3) := by decide +kernel
theorem dd_A_grow1_40 : decode mm_A_grow1.2.1 40 = .ok (.dup_x1, 1) := by decide +kernel
theorem dd_A_grow1_41 : decode mm_A_grow1.2.1 41 = .ok (.putfield 9, 3) := by decide +kernel
theorem dd_A_grow1_44 : decode mm_A_grow1.2.1 44 = .ok (.areturn, 1) := by decide +kernel
theorem dd_A_grow1_45 : decode mm_A_grow1.2.1 45 = .ok (.aload_n 0, 1) := by decide +kernel
theorem dd_A_grow1_46 : decode mm_A_grow1.2.1 46 = .ok (.bipush 10, 2) := by decide +kernel
theorem dd_A_grow1_48 : decode mm_A_grow1.2.1 48 = .ok (.iload_n 1, 1) := by decide +kernel
theorem dd_A_grow1_49 : decode mm_A_grow1.2.1 49 = .ok (.invokestatic 79, 3) := by decide +kernel
theorem dd_A_grow1_52 : decode mm_A_grow1.2.1 52 = .ok (.anewarray 7, 3) := by decide +kernel
theorem dd_A_grow1_55 : decode mm_A_grow1.2.1 55 = .ok (.dup_x1, 1) := by decide +kernel
theorem dd_A_grow1_56 : decode mm_A_grow1.2.1 56 = .ok (.putfield 9, 3) := by decide +kernel
theorem dd_A_grow1_59 : decode mm_A_grow1.2.1 59 = .ok (.areturn, 1) := by decide +kernel
theorem dd_A_isEmpty_0 : decode mm_A_isEmpty.2.1 0 = .ok (.aload_n 0, 1) := by decide +kernel
theorem dd_A_isEmpty_1 : decode mm_A_isEmpty.2.1 1 = .ok (.getfield 48, 3) := by decide +kernel
theorem dd_A_isEmpty_4 : decode mm_A_isEmpty.2.1 4 = .ok (.ifCond .ne 7, 3) := by decide +kernel
theorem dd_A_isEmpty_7 : decode mm_A_isEmpty.2.1 7 = .ok (.iconst 1, 1) := by decide +kernel
theorem dd_A_isEmpty_8 : decode mm_A_isEmpty.2.1 8 = .ok (.goto 4, 3) := by decide +kernel
theorem dd_A_isEmpty_11 : decode mm_A_isEmpty.2.1 11 = .ok (.iconst 0, 1) := by decide +kernel
theorem dd_A_isEmpty_12 : decode mm_A_isEmpty.2.1 12 = .ok (.ireturn, 1) := by decide +kernel
theorem dd_A_rangeCheckForAdd_0 : decode mm_A_rangeCheckForAdd.2.1 0 = .ok (.iload_n 1, 1) := by decide +kernel
theorem dd_A_rangeCheckForAdd_1 : decode mm_A_rangeCheckForAdd.2.1 1 = .ok (.aload_n 0, 1) := by decide +kernel
theorem dd_A_rangeCheckForAdd_2 : decode mm_A_rangeCheckForAdd.2.1 2 = .ok (.getfield 48, 3) := by decide +kernel
theorem dd_A_rangeCheckForAdd_5 : decode mm_A_rangeCheckForAdd.2.1 5 = .ok (.if_icmp .gt 7, 3) := by decide +kernel
theorem dd_A_rangeCheckForAdd_8 : decode mm_A_rangeCheckForAdd.2.1 8 = .ok (.iload_n 1, 1) := by decide +kernel
theorem dd_A_rangeCheckForAdd_9 : decode mm_A_rangeCheckForAdd.2.1 9 = .ok (.ifCond .ge 16, 3) := by decide +kernel
theorem dd_A_rangeCheckForAdd_12 : decode mm_A_rangeCheckForAdd.2.1 12 = .ok (.new 187, 3) := by decide +kernel
theorem dd_A_rangeCheckForAdd_15 : decode mm_A_rangeCheckForAdd.2.1 15 = .ok (.dup, 1) := by decide +kernel
theorem dd_A_rangeCheckForAdd_16 : decode mm_A_rangeCheckForAdd.2.1 16 = .ok (.aload_n 0, 1) := by decide +kernel
theorem dd_A_rangeCheckForAdd_17 : decode mm_A_rangeCheckForAdd.2.1 17 = .ok (.iload_n 1, 1) := by decide +kernel
theorem dd_A_rangeCheckForAdd_18 : decode mm_A_rangeCheckForAdd.2.1 18 = .ok (.invokevirtual 198, 3) := by decide +kernel
theorem dd_A_rangeCheckForAdd_21 : decode mm_A_rangeCheckForAdd.2.1 21 = .ok (.invokespecial 193, 3) := by decide +kernel
theorem dd_A_rangeCheckForAdd_24 : decode mm_A_rangeCheckForAdd.2.1 24 = .ok (.athrow, 1) := by decide +kernel
theorem dd_A_rangeCheckForAdd_25 : decode mm_A_rangeCheckForAdd.2.1 25 = .ok (.return_, 1) := by decide +kernel
theorem dd_A_remove_0 : decode mm_A_remove.2.1 0 = .ok (.iload_n 1, 1) := by decide +kernel
theorem dd_A_remove_1 : decode mm_A_remove.2.1 1 = .ok (.aload_n 0, 1) := by decide +kernel
theorem dd_A_remove_2 : decode mm_A_remove.2.1 2 = .ok (.getfield 48, 3) := by decide +kernel
theorem dd_A_remove_5 : decode mm_A_remove.2.1 5 = .ok (.invokestatic 118, 3) := by decide +kernel
theorem dd_A_remove_8 : decode mm_A_remove.2.1 8 = .ok (.pop, 1) := by decide +kernel
theorem dd_A_remove_9 : decode mm_A_remove.2.1 9 = .ok (.aload_n 0, 1) := by decide +kernel
theorem dd_A_remove_10 : decode mm_A_remove.2.1 10 = .ok (.getfield 9, 3) := by decide +kernel
theorem dd_A_remove_13 : decode mm_A_remove.2.1 13 = .ok (.astore_n 2, 1) := by decide +kernel
theorem dd_A_remove_14 : decode mm_A_remove.2.1 14 = .ok (.aload_n 2, 1) := by decide +kernel
theorem dd_A_remove_15 : decode mm_A_remove.2.1 15 = .ok (.iload_n 1, 1) := by decide +kernel
theorem dd_A_remove_16 : decode mm_A_remove.2.1 16 = .ok (.aaload, 1) := by decide +kernel
theorem dd_A_remove_17 : decode mm_A_remove.2.1 17 = .ok (.astore_n 3, 1) := by decide +kernel
theorem dd_A_remove_18 : decode mm_A_remove.2.1 18 = .ok (.aload_n 0, 1) := by decide +kernel
theorem dd_A_remove_19 : decode mm_A_remove.2.1 19 = .ok (.aload_n 2, 1) := by decide +kernel
theorem dd_A_remove_20 : decode mm_A_remove.2.1 20 = .ok (.iload_n 1, 1) := by decide +kernel
theorem dd_A_remove_21 : decode mm_A_remove.2.1 21 = .ok (.invokevirtual 144, 3) := by decide +kernel
theorem dd_A_remove_24 : decode mm_A_remove.2.1 24 = .ok (.aload_n 3, 1) := by decide +kernel
theorem dd_A_remove_25 : decode mm_A_remove.2.1 25 = .ok (.areturn, 1) := by decide +kernel
theorem dd_A_set_0 : decode mm_A_set.2.1 0 = .ok (.iload_n 1, 1) := by decide +kernel
theorem dd_A_set_1 : decode mm_A_set.2.1 1 = .ok (.aload_n 0, 1) := by decide +kernel
theorem dd_A_set_2 : decode mm_A_set.2.1 2 = .ok (.getfield 48, 3) := by decide +kernel
theorem dd_A_set_5 : decode mm_A_set.2.1 5 = .ok (.invokestatic 118, 3) := by decide +kernel
theorem dd_A_set_8 : decode mm_A_set.2.1 8 = .ok (.pop, 1) := by decide +kernel
theorem dd_A_set_9 : decode mm_A_set.2.1 9 = .ok (.aload_n 0, 1) := by decide +kernel
theorem dd_A_set_10 : decode mm_A_set.2.1 10 = .ok (.iload_n 1, 1) := by decide +kernel
theorem dd_A_set_11 : decode mm_A_set.2.1 11 = .ok (.invokevirtual 123, 3) := by decide +kernel
theorem dd_A_set_14 : decode mm_A_set.2.1 14 = .ok (.astore_n 3, 1) := by decide +kernel
theorem dd_A_set_15 : decode mm_A_set.2.1 15 = .ok (.aload_n 0, 1) := by decide +kernel
theorem dd_A_set_16 : decode mm_A_set.2.1 16 = .ok (.getfield 9, 3) := by decide +kernel
theorem dd_A_set_19 : decode mm_A_set.2.1 19 = .ok (.iload_n 1, 1) := by decide +kernel
theorem dd_A_set_20 : decode mm_A_set.2.1 20 = .ok (.aload_n 2, 1) := by decide +kernel
theorem dd_A_set_21 : decode mm_A_set.2.1 21 = .ok (.aastore, 1) := by decide +kernel
theorem dd_A_set_22 : decode mm_A_set.2.1 22 = .ok (.aload_n 3, 1) := by decide +kernel
theorem dd_A_set_23 : decode mm_A_set.2.1 23 = .ok (.areturn, 1) := by decide +kernel
theorem dd_A_size_0 : decode mm_A_size.2.1 0 = .ok (.aload_n 0, 1) := by decide +kernel
theorem dd_A_size_1 : decode mm_A_size.2.1 1 = .ok (.getfield 48, 3) := by decide +kernel
theorem dd_A_size_4 : decode mm_A_size.2.1 4 = .ok (.ireturn, 1) := by decide +kernel
theorem dd_J_copyOf1_0 : decode mm_J_copyOf1.2.1 0 = .ok (.aload_n 0, 1) := by decide +kernel
theorem dd_J_copyOf1_1 : decode mm_J_copyOf1.2.1 1 = .ok (.iload_n 1, 1) := by decide +kernel
theorem dd_J_copyOf1_2 : decode mm_J_copyOf1.2.1 2 = .ok (.aload_n 0, 1) := by decide +kernel
theorem dd_J_copyOf1_3 : decode mm_J_copyOf1.2.1 3 = .ok (.invokevirtual 86, 3) := by decide +kernel
theorem dd_J_copyOf1_6 : decode mm_J_copyOf1.2.1 6 = .ok (.invokestatic 300, 3) := by decide +kernel
theorem dd_J_copyOf1_9 : decode mm_J_copyOf1.2.1 9 = .ok (.areturn, 1) := by decide +kernel
theorem dd_J_copyOf2_0 : decode mm_J_copyOf2.2.1 0 = .ok (.aload_n 2, 1) := by decide +kernel
theorem dd_J_copyOf2_1 : decode mm_J_copyOf2.2.1 1 = .ok (.ldc 110, 2) := by decide +kernel
theorem dd_J_copyOf2_3 : decode mm_J_copyOf2.2.1 3 = .ok (.if_acmp .ne 10, 3) := by decide +kernel
theorem dd_J_copyOf2_6 : decode mm_J_copyOf2.2.1 6 = .ok (.iload_n 1, 1) := by decide +kernel
theorem dd_J_copyOf2_7 : decode mm_J_copyOf2.2.1 7 = .ok (.anewarray 2, 3) := by decide +kernel
theorem dd_J_copyOf2_10 : decode mm_J_copyOf2.2.1 10 = .ok (.goto 14, 3) := by decide +kernel
theorem dd_J_copyOf2_13 : decode mm_J_copyOf2.2.1 13 = .ok (.aload_n 2, 1) := by decide +kernel
theorem dd_J_copyOf2_14 : decode mm_J_copyOf2.2.1 14 = .ok (.invokevirtual 90, 3) := by decide +kernel
theorem dd_J_copyOf2_17 : decode mm_J_copyOf2.2.1 17 = .ok (.iload_n 1, 1) := by decide +kernel
theorem dd_J_copyOf2_18 : decode mm_J_copyOf2.2.1 18 = .ok (.invokestatic 95, 3) := by decide +kernel
theorem dd_J_copyOf2_21 : decode mm_J_copyOf2.2.1 21 = .ok (.checkcast 110, 3) := by decide +kernel
theorem dd_J_copyOf2_24 : decode mm_J_copyOf2.2.1 24 = .ok (.astore_n 3, 1) := by decide +kernel
theorem dd_J_copyOf2_25 : decode mm_J_copyOf2.2.1 25 = .ok (.aload_n 0, 1) := by decide +kernel
theorem dd_J_copyOf2_26 : decode mm_J_copyOf2.2.1 26 = .ok (.iconst 0, 1) := by decide +kernel
theorem dd_J_copyOf2_27 : decode mm_J_copyOf2.2.1 27 = .ok (.aload_n 3, 1) := by decide +kernel
theorem dd_J_copyOf2_28 : decode mm_J_copyOf2.2.1 28 = .ok (.iconst 0, 1) := by decide +kernel
theorem dd_J_copyOf2_29 : decode mm_J_copyOf2.2.1 29 = .ok (.aload_n 0, 1) := by decide +kernel
theorem dd_J_copyOf2_30 : decode mm_J_copyOf2.2.1 30 = .ok (.arraylength, 1) := by decide +kernel
theorem dd_J_copyOf2_31 : decode mm_J_copyOf2.2.1 31 = .ok (.iload_n 1, 1) := by decide +kernel
theorem dd_J_copyOf2_32 : decode mm_J_copyOf2.2.1 32 = .ok (.invokestatic 304, 3) := by decide +kernel
theorem dd_J_copyOf2_35 : decode mm_J_copyOf2.2.1 35 = .ok (.invokestatic 150, 3) := by decide +kernel
theorem dd_J_copyOf2_38 : decode mm_J_copyOf2.2.1 38 = .ok (.aload_n 3, 1) := by decide +kernel
theorem dd_J_copyOf2_39 : decode mm_J_copyOf2.2.1 39 = .ok (.areturn, 1) := by decide +kernel
theorem dd_O_checkIndex_0 : decode mm_O_checkIndex.2.1 0 = .ok (.iload_n 0, 1) := by decide +kernel
theorem dd_O_checkIndex_1 : decode mm_O_checkIndex.2.1 1 = .ok (.iload_n 1, 1) := by decide +kernel
theorem dd_O_checkIndex_2 : decode mm_O_checkIndex.2.1 2 = .ok (.aconst_null, 1) := by decide +kernel
theorem dd_O_checkIndex_3 : decode mm_O_checkIndex.2.1 3 = .ok (.invokestatic 105, 3) := by decide +kernel
theorem dd_O_checkIndex_6 : decode mm_O_checkIndex.2.1 6 = .ok (.ireturn, 1) := by decide +kernel
theorem dd_Q_newLength_0 : decode mm_Q_newLength.2.1 0 = .ok (.iload_n 0, 1) := by decide +kernel
theorem dd_Q_newLength_1 : decode mm_Q_newLength.2.1 1 = .ok (.iload_n 1, 1) := by decide +kernel
theorem dd_Q_newLength_2 : decode mm_Q_newLength.2.1 2 = .ok (.iload_n 2, 1) := by decide +kernel
theorem dd_Q_newLength_3 : decode mm_Q_newLength.2.1 3 = .ok (.invokestatic 194, 3) := by decide +kernel
theorem dd_Q_newLength_6 : decode mm_Q_newLength.2.1 6 = .ok (.iadd, 1) := by decide +kernel
theorem dd_Q_newLength_7 : decode mm_Q_newLength.2.1 7 = .ok (.istore_n 3, 1) := by decide +kernel
theorem dd_Q_newLength_8 : decode mm_Q_newLength.2.1 8 = .ok (.iconst 0, 1) := by decide +kernel
theorem dd_Q_newLength_9 : decode mm_Q_newLength.2.1 9 = .ok (.iload_n 3, 1) := by decide +kernel
theorem dd_Q_newLength_10 : decode mm_Q_newLength.2.1 10 = .ok (.if_icmp .ge 11, 3) := by decide +kernel
theorem dd_Q_newLength_13 : decode mm_Q_newLength.2.1 13 = .ok (.iload_n 3, 1) := by decide +kernel
theorem dd_Q_newLength_14 : decode mm_Q_newLength.2.1 14 = .ok (.ldc 200, 2) := by decide +kernel
theorem dd_Q_newLength_16 : decode mm_Q_newLength.2.1 16 = .ok (.if_icmp .gt 5, 3) := by decide +kernel
theorem dd_Q_newLength_19 : decode mm_Q_newLength.2.1 19 = .ok (.iload_n 3, 1) := by decide +kernel
theorem dd_Q_newLength_20 : decode mm_Q_newLength.2.1 20 = .ok (.ireturn, 1) := by decide +kernel
theorem dd_Q_newLength_21 : decode mm_Q_newLength.2.1 21 = .ok (.iload_n 0, 1) := by decide +kernel
theorem dd_Q_newLength_22 : decode mm_Q_newLength.2.1 22 = .ok (.iload_n 1, 1) := by decide +kernel
theorem dd_Q_newLength_23 : decode mm_Q_newLength.2.1 23 = .ok (.invokestatic 201, 3) := by decide +kernel
theorem dd_Q_newLength_26 : decode mm_Q_newLength.2.1 26 = .ok (.ireturn, 1) := by decide +kernel
theorem dd_P_checkIndex_0 : decode mm_P_checkIndex.2.1 0 = .ok (.iload_n 0, 1) := by decide +kernel
theorem dd_P_checkIndex_1 : decode mm_P_checkIndex.2.1 1 = .ok (.ifCond .lt 8, 3) := by decide +kernel
theorem dd_P_checkIndex_4 : decode mm_P_checkIndex.2.1 4 = .ok (.iload_n 0, 1) := by decide +kernel
theorem dd_P_checkIndex_5 : decode mm_P_checkIndex.2.1 5 = .ok (.iload_n 1, 1) := by decide +kernel
theorem dd_P_checkIndex_6 : decode mm_P_checkIndex.2.1 6 = .ok (.if_icmp .lt 10, 3) := by decide +kernel
theorem dd_P_checkIndex_9 : decode mm_P_checkIndex.2.1 9 = .ok (.aload_n 2, 1) := by decide +kernel
theorem dd_P_checkIndex_10 : decode mm_P_checkIndex.2.1 10 = .ok (.iload_n 0, 1) := by decide +kernel
theorem dd_P_checkIndex_11 : decode mm_P_checkIndex.2.1 11 = .ok (.iload_n 1, 1) := by decide +kernel
theorem dd_P_checkIndex_12 : decode mm_P_checkIndex.2.1 12 = .ok (.invokestatic 95, 3) := by decide +kernel
theorem dd_P_checkIndex_15 : decode mm_P_checkIndex.2.1 15 = .ok (.athrow, 1) := by decide +kernel
theorem dd_P_checkIndex_16 : decode mm_P_checkIndex.2.1 16 = .ok (.iload_n 0, 1) := by decide +kernel
theorem dd_P_checkIndex_17 : decode mm_P_checkIndex.2.1 17 = .ok (.ireturn, 1) := by decide +kernel
theorem fl_B_7 : xa_F "java/util/AbstractList" 7 8 0 := ⟨_, _, _, "java/util/AbstractList", rfl, by decide, ly_8, iw_63, Or.inl rfl⟩
theorem fz_B_7 : xa_Z 8 0 (.int) false "java/util/AbstractList" := ⟨_, _, _, ty_8, rfl, tk_8, nk_8, rfl, rfl, by decide⟩
theorem fl_A_9 : xa_F "java/util/ArrayList" 9 8 1 := ⟨_, _, _, "java/util/ArrayList", rfl, by decide, ly_8, iw_61, Or.inl rfl⟩
theorem fz_A_9 : xa_Z 8 1 (.array (.object "java/lang/Object")) false "java/util/ArrayList" := ⟨_, _, _, ty_8, rfl, tk_8, nk_8, rfl, rfl, by decide⟩
theorem fl_A_63 : xa_F "java/util/ArrayList" 63 8 0 := ⟨_, _, _, "java/util/ArrayList", rfl, by decide, ly_8, iw_64, Or.inr iw_65⟩
theorem fz_A_63 : xa_Z 8 0 (.int) false "java/util/ArrayList" := ⟨_, _, _, ty_8, rfl, tk_8, nk_8, rfl, rfl, by decide⟩
theorem fl_A_48 : xa_F "java/util/ArrayList" 48 8 2 := ⟨_, _, _, "java/util/ArrayList", rfl, by decide, ly_8, iw_62, Or.inl rfl⟩
theorem fz_A_48 : xa_Z 8 2 (.int) false "java/util/ArrayList" := ⟨_, _, _, ty_8, rfl, tk_8, nk_8, rfl, rfl, by decide⟩
theorem iv_B_init_1 {G : xa_G} {rest : List Value} {h : xa_H} {b : Nat} : xa_inv G mm_B_init mm_C_init 1 (.ref b :: rest) [.ref b] rest h := xi_I (n := 0) (As := []) dd_B_init_1 ok_C_init rfl iw_57 iw_55 iw_56 (by decide +kernel) rfl
theorem iv_A_init_1 {G : xa_G} {rest : List Value} {h : xa_H} {b : Nat} : xa_inv G mm_A_init mm_B_init 1 (.ref b :: rest) [.ref b] rest h := xi_I (n := 0) (As := []) dd_A_init_1 ok_B_init rfl iw_54 iw_52 iw_53 (by decide +kernel) rfl
theorem iv_A_add0_2 {G : xa_G} {rest fs : List Value} {h : xa_H} {b : Nat} {a1 : Value} (hb : h b = some (.inr (8, fs))) : xa_inv G mm_A_add0 mm_A_rangeCheckForAdd 2 (a1 :: .ref b :: rest) [.ref b, a1] rest h := xi_V (n := 1) (As := [a1]) dd_A_add0_2 ok_A_rangeCheckForAdd iw_609 iw_611 rfl ps_14 (by decide +kernel) rfl hb
theorem iv_A_add0_33 {G : xa_G} {rest fs : List Value} {h : xa_H} {b : Nat} (hb : h b = some (.inr (8, fs))) : xa_inv G mm_A_add0 mm_A_grow0 33 (.ref b :: rest) [.ref b] rest h := xi_V (n := 0) (As := []) dd_A_add0_33 ok_A_grow0 iw_294 iw_296 rfl ps_2 (by decide +kernel) rfl hb
theorem iv_A_add1_20 {G : xa_G} {rest fs : List Value} {h : xa_H} {b : Nat} {a1 a2 a3 : Value} (hb : h b = some (.inr (8, fs))) : xa_inv G mm_A_add1 mm_A_add2 20 (a3 :: a2 :: a1 :: .ref b :: rest) [.ref b, a1, a2, a3] rest h := xi_V (n := 3) (As := [a1, a2, a3]) dd_A_add1_20 ok_A_add2 iw_290 iw_292 rfl ps_1 (by decide +kernel) rfl hb
theorem iv_A_add2_7 {G : xa_G} {rest fs : List Value} {h : xa_H} {b : Nat} (hb : h b = some (.inr (8, fs))) : xa_inv G mm_A_add2 mm_A_grow0 7 (.ref b :: rest) [.ref b] rest h := xi_V (n := 0) (As := []) dd_A_add2_7 ok_A_grow0 iw_294 iw_296 rfl ps_2 (by decide +kernel) rfl hb
theorem iv_A_get_5 {G : xa_G} {rest : List Value} {h : xa_H} {a1 a2 : Value} : xa_inv G mm_A_get mm_O_checkIndex 5 (a2 :: a1 :: rest) [a1, a2] rest h := xi_S (n := 2) (as := [a1, a2]) dd_A_get_5 ok_O_checkIndex iw_188 iw_189 (by decide +kernel) rfl
theorem iv_A_get_11 {G : xa_G} {rest fs : List Value} {h : xa_H} {b : Nat} {a1 : Value} (hb : h b = some (.inr (8, fs))) : xa_inv G mm_A_get mm_A_elementData 11 (a1 :: .ref b :: rest) [.ref b, a1] rest h := xi_V (n := 1) (As := [a1]) dd_A_get_11 ok_A_elementData iw_194 iw_195 rfl iw_196 (by decide +kernel) rfl hb
theorem iv_A_grow0_7 {G : xa_G} {rest fs : List Value} {h : xa_H} {b : Nat} {a1 : Value} (hb : h b = some (.inr (8, fs))) : xa_inv G mm_A_grow0 mm_A_grow1 7 (a1 :: .ref b :: rest) [.ref b, a1] rest h := xi_V (n := 1) (As := [a1]) dd_A_grow0_7 ok_A_grow1 iw_298 iw_300 rfl ps_3 (by decide +kernel) rfl hb
theorem iv_A_grow1_27 {G : xa_G} {rest : List Value} {h : xa_H} {a1 a2 a3 : Value} : xa_inv G mm_A_grow1 mm_Q_newLength 27 (a3 :: a2 :: a1 :: rest) [a1, a2, a3] rest h := xi_S (n := 3) (as := [a1, a2, a3]) dd_A_grow1_27 ok_Q_newLength iw_302 iw_303 (by decide +kernel) rfl
theorem iv_A_grow1_37 {G : xa_G} {rest : List Value} {h : xa_H} {a1 a2 : Value} : xa_inv G mm_A_grow1 mm_J_copyOf1 37 (a2 :: a1 :: rest) [a1, a2] rest h := xi_S (n := 2) (as := [a1, a2]) dd_A_grow1_37 ok_J_copyOf1 iw_312 iw_313 (by decide +kernel) rfl
theorem iv_A_remove_5 {G : xa_G} {rest : List Value} {h : xa_H} {a1 a2 : Value} : xa_inv G mm_A_remove mm_O_checkIndex 5 (a2 :: a1 :: rest) [a1, a2] rest h := xi_S (n := 2) (as := [a1, a2]) dd_A_remove_5 ok_O_checkIndex iw_188 iw_189 (by decide +kernel) rfl
theorem iv_A_remove_21 {G : xa_G} {rest fs : List Value} {h : xa_H} {b : Nat} {a1 a2 : Value} (hb : h b = some (.inr (8, fs))) : xa_inv G mm_A_remove mm_A_fastRemove 21 (a2 :: a1 :: .ref b :: rest) [.ref b, a1, a2] rest h := xi_V (n := 2) (As := [a1, a2]) dd_A_remove_21 ok_A_fastRemove iw_256 iw_258 rfl ps_0 (by decide +kernel) rfl hb
theorem iv_A_set_5 {G : xa_G} {rest : List Value} {h : xa_H} {a1 a2 : Value} : xa_inv G mm_A_set mm_O_checkIndex 5 (a2 :: a1 :: rest) [a1, a2] rest h := xi_S (n := 2) (as := [a1, a2]) dd_A_set_5 ok_O_checkIndex iw_188 iw_189 (by decide +kernel) rfl
theorem iv_A_set_11 {G : xa_G} {rest fs : List Value} {h : xa_H} {b : Nat} {a1 : Value} (hb : h b = some (.inr (8, fs))) : xa_inv G mm_A_set mm_A_elementData 11 (a1 :: .ref b :: rest) [.ref b, a1] rest h := xi_V (n := 1) (As := [a1]) dd_A_set_11 ok_A_elementData iw_194 iw_195 rfl iw_196 (by decide +kernel) rfl hb
theorem iv_J_copyOf1_6 {G : xa_G} {rest : List Value} {h : xa_H} {a1 a2 a3 : Value} : xa_inv G mm_J_copyOf1 mm_J_copyOf2 6 (a3 :: a2 :: a1 :: rest) [a1, a2, a3] rest h := xi_S (n := 3) (as := [a1, a2, a3]) dd_J_copyOf1_6 ok_J_copyOf2 iw_336 iw_337 (by decide +kernel) rfl
theorem iv_O_checkIndex_3 {G : xa_G} {rest : List Value} {h : xa_H} {a1 a2 a3 : Value} : xa_inv G mm_O_checkIndex mm_P_checkIndex 3 (a3 :: a2 :: a1 :: rest) [a1, a2, a3] rest h := xi_S (n := 3) (as := [a1, a2, a3]) dd_O_checkIndex_3 ok_P_checkIndex iw_191 iw_192 (by decide +kernel) rfl
theorem wo_in : Cond.instanceMethod objectInit ∈ xv_T := iw_39
theorem wo_co : Cond.code objectInit ⟨#[0xb1]⟩ 1 none ∈ xv_T := iw_40

