/-! names, by program (wip/whole/mknames.py 22.names.lean.txt S,V) -/
theorem iw_1 : Cond.initialized "NotedVolume" ∈ xv_T := xv_in (List.mem_append_right _ (List.mem_of_getElem? (i := 1) (by decide +kernel))) (by decide +kernel)
theorem iw_8 : Cond.initialized "NotedVolume$Subscriber" ∈ xv_T := xv_in (List.mem_append_right _ (List.mem_of_getElem? (i := 8) (by decide +kernel))) (by decide +kernel)
theorem iw_37 : Cond.code ⟨"NotedVolume", "<init>", "()V"⟩ prog_1_method_1_code 2 none ∈ xv_T := xv_in (List.mem_append_right _ (List.mem_of_getElem? (i := 37) (by decide +kernel))) (by decide +kernel)
theorem iw_38 : Cond.methodLink "NotedVolume" 1 ⟨"java/lang/Object", "<init>", "()V"⟩ ∈ xv_T := xv_in (List.mem_append_right _ (List.mem_of_getElem? (i := 38) (by decide +kernel))) (by decide +kernel)
theorem iw_41 : Cond.classLink "NotedVolume" 7 "NotedVolume$FileTable" ∈ xv_T := xv_in (List.mem_append_right _ (List.mem_of_getElem? (i := 41) (by decide +kernel))) (by decide +kernel)
theorem iw_42 : Cond.instantiable "NotedVolume$FileTable" 2 ∈ xv_T := xv_in (List.mem_append_right _ (List.mem_of_getElem? (i := 42) (by decide +kernel))) (by decide +kernel)
theorem iw_43 : Cond.methodLink "NotedVolume" 11 ⟨"NotedVolume$FileTable", "<init>", "(I)V"⟩ ∈ xv_T := xv_in (List.mem_append_right _ (List.mem_of_getElem? (i := 43) (by decide +kernel))) (by decide +kernel)
theorem iw_44 : Cond.instanceMethod ⟨"NotedVolume$FileTable", "<init>", "(I)V"⟩ ∈ xv_T := xv_in (List.mem_append_right _ (List.mem_of_getElem? (i := 44) (by decide +kernel))) (by decide +kernel)
theorem iw_80 : Cond.classLink "NotedVolume" 18 "NotedVolume$Ring" ∈ xv_T := xv_in (List.mem_append_right _ (List.mem_of_getElem? (i := 80) (by decide +kernel))) (by decide +kernel)
theorem iw_81 : Cond.instantiable "NotedVolume$Ring" 2 ∈ xv_T := xv_in (List.mem_append_right _ (List.mem_of_getElem? (i := 81) (by decide +kernel))) (by decide +kernel)
theorem iw_82 : Cond.methodLink "NotedVolume" 20 ⟨"NotedVolume$Ring", "<init>", "()V"⟩ ∈ xv_T := xv_in (List.mem_append_right _ (List.mem_of_getElem? (i := 82) (by decide +kernel))) (by decide +kernel)
theorem iw_83 : Cond.instanceMethod ⟨"NotedVolume$Ring", "<init>", "()V"⟩ ∈ xv_T := xv_in (List.mem_append_right _ (List.mem_of_getElem? (i := 83) (by decide +kernel))) (by decide +kernel)
theorem iw_95 : Cond.classLink "NotedVolume" 25 "NotedVolume$Gatherings" ∈ xv_T := xv_in (List.mem_append_right _ (List.mem_of_getElem? (i := 95) (by decide +kernel))) (by decide +kernel)
theorem iw_96 : Cond.instantiable "NotedVolume$Gatherings" 1 ∈ xv_T := xv_in (List.mem_append_right _ (List.mem_of_getElem? (i := 96) (by decide +kernel))) (by decide +kernel)
theorem iw_97 : Cond.methodLink "NotedVolume" 27 ⟨"NotedVolume$Gatherings", "<init>", "()V"⟩ ∈ xv_T := xv_in (List.mem_append_right _ (List.mem_of_getElem? (i := 97) (by decide +kernel))) (by decide +kernel)
theorem iw_98 : Cond.instanceMethod ⟨"NotedVolume$Gatherings", "<init>", "()V"⟩ ∈ xv_T := xv_in (List.mem_append_right _ (List.mem_of_getElem? (i := 98) (by decide +kernel))) (by decide +kernel)
theorem iw_107 : Cond.classLink "NotedVolume" 32 "NotedVolume$Subscriber" ∈ xv_T := xv_in (List.mem_append_right _ (List.mem_of_getElem? (i := 107) (by decide +kernel))) (by decide +kernel)
theorem iw_109 : Cond.instantiable "NotedVolume$Subscriber" 6 ∈ xv_T := xv_in (List.mem_append_right _ (List.mem_of_getElem? (i := 109) (by decide +kernel))) (by decide +kernel)
theorem iw_110 : Cond.methodLink "NotedVolume" 38 ⟨"NotedVolume$Subscriber", "<init>", "()V"⟩ ∈ xv_T := xv_in (List.mem_append_right _ (List.mem_of_getElem? (i := 110) (by decide +kernel))) (by decide +kernel)
theorem iw_111 : Cond.instanceMethod ⟨"NotedVolume$Subscriber", "<init>", "()V"⟩ ∈ xv_T := xv_in (List.mem_append_right _ (List.mem_of_getElem? (i := 111) (by decide +kernel))) (by decide +kernel)
theorem iw_112 : Cond.code ⟨"NotedVolume$Subscriber", "<init>", "()V"⟩ prog_8_method_1_code 1 none ∈ xv_T := xv_in (List.mem_append_right _ (List.mem_of_getElem? (i := 112) (by decide +kernel))) (by decide +kernel)
theorem iw_113 : Cond.methodLink "NotedVolume$Subscriber" 3 ⟨"java/lang/Object", "<init>", "()V"⟩ ∈ xv_T := xv_in (List.mem_append_right _ (List.mem_of_getElem? (i := 113) (by decide +kernel))) (by decide +kernel)
theorem iw_114 : Cond.classLink "NotedVolume$Subscriber" 9 "NotedVolume$FileTable" ∈ xv_T := xv_in (List.mem_append_right _ (List.mem_of_getElem? (i := 114) (by decide +kernel))) (by decide +kernel)
theorem iw_115 : Cond.methodLink "NotedVolume$Subscriber" 11 ⟨"NotedVolume$FileTable", "<init>", "(I)V"⟩ ∈ xv_T := xv_in (List.mem_append_right _ (List.mem_of_getElem? (i := 115) (by decide +kernel))) (by decide +kernel)
theorem iw_116 : Cond.fieldLink "NotedVolume$Subscriber" 14 "NotedVolume$Subscriber" "copy" "LNotedVolume$FileTable;" ∈ xv_T := xv_in (List.mem_append_right _ (List.mem_of_getElem? (i := 116) (by decide +kernel))) (by decide +kernel)
theorem iw_117 : Cond.fieldLink "NotedVolume" 216 "NotedVolume$Subscriber" "copy" "LNotedVolume$FileTable;" ∈ xv_T := xv_in (List.mem_append_right _ (List.mem_of_getElem? (i := 117) (by decide +kernel))) (by decide +kernel)
theorem iw_118 : Cond.fieldLink "NotedVolume$Subscriber" 20 "NotedVolume$Subscriber" "pageNumbers" "[I" ∈ xv_T := xv_in (List.mem_append_right _ (List.mem_of_getElem? (i := 118) (by decide +kernel))) (by decide +kernel)
theorem iw_119 : Cond.fieldLink "NotedVolume" 206 "NotedVolume$Subscriber" "pageNumbers" "[I" ∈ xv_T := xv_in (List.mem_append_right _ (List.mem_of_getElem? (i := 119) (by decide +kernel))) (by decide +kernel)
theorem iw_120 : Cond.fieldLink "NotedVolume$Subscriber" 24 "NotedVolume$Subscriber" "cursor" "I" ∈ xv_T := xv_in (List.mem_append_right _ (List.mem_of_getElem? (i := 120) (by decide +kernel))) (by decide +kernel)
theorem iw_121 : Cond.fieldLink "NotedVolume" 183 "NotedVolume$Subscriber" "cursor" "I" ∈ xv_T := xv_in (List.mem_append_right _ (List.mem_of_getElem? (i := 121) (by decide +kernel))) (by decide +kernel)
theorem iw_122 : Cond.fieldLink "NotedVolume$Subscriber" 28 "NotedVolume$Subscriber" "mask" "I" ∈ xv_T := xv_in (List.mem_append_right _ (List.mem_of_getElem? (i := 122) (by decide +kernel))) (by decide +kernel)
theorem iw_123 : Cond.fieldLink "NotedVolume" 186 "NotedVolume$Subscriber" "mask" "I" ∈ xv_T := xv_in (List.mem_append_right _ (List.mem_of_getElem? (i := 123) (by decide +kernel))) (by decide +kernel)
theorem iw_124 : Cond.fieldLink "NotedVolume$Subscriber" 37 "NotedVolume$Subscriber" "listing" "Z" ∈ xv_T := xv_in (List.mem_append_right _ (List.mem_of_getElem? (i := 124) (by decide +kernel))) (by decide +kernel)
theorem iw_125 : Cond.fieldLink "NotedVolume" 197 "NotedVolume$Subscriber" "listing" "Z" ∈ xv_T := xv_in (List.mem_append_right _ (List.mem_of_getElem? (i := 125) (by decide +kernel))) (by decide +kernel)
theorem iw_126 : Cond.fieldLink "NotedVolume$Subscriber" 54 "NotedVolume$Subscriber" "greatestShown" "I" ∈ xv_T := xv_in (List.mem_append_right _ (List.mem_of_getElem? (i := 126) (by decide +kernel))) (by decide +kernel)
theorem iw_140 : Cond.arrayClass .int ∈ xv_T := xv_in (List.mem_append_right _ (List.mem_of_getElem? (i := 140) (by decide +kernel))) (by decide +kernel)
theorem iw_141 : Cond.fieldLink "NotedVolume" 14 "NotedVolume" "files" "LNotedVolume$FileTable;" ∈ xv_T := xv_in (List.mem_append_right _ (List.mem_of_getElem? (i := 141) (by decide +kernel))) (by decide +kernel)
theorem iw_142 : Cond.fieldLink "NotedVolume" 21 "NotedVolume" "ring" "LNotedVolume$Ring;" ∈ xv_T := xv_in (List.mem_append_right _ (List.mem_of_getElem? (i := 142) (by decide +kernel))) (by decide +kernel)
theorem iw_143 : Cond.fieldLink "NotedVolume" 28 "NotedVolume" "gatherings" "LNotedVolume$Gatherings;" ∈ xv_T := xv_in (List.mem_append_right _ (List.mem_of_getElem? (i := 143) (by decide +kernel))) (by decide +kernel)
theorem iw_144 : Cond.fieldLink "NotedVolume" 34 "NotedVolume" "subscribers" "[LNotedVolume$Subscriber;" ∈ xv_T := xv_in (List.mem_append_right _ (List.mem_of_getElem? (i := 144) (by decide +kernel))) (by decide +kernel)
theorem iw_145 : Cond.fieldLink "NotedVolume" 39 "NotedVolume" "nextNumber" "I" ∈ xv_T := xv_in (List.mem_append_right _ (List.mem_of_getElem? (i := 145) (by decide +kernel))) (by decide +kernel)
theorem iw_146 : Cond.fieldLink "NotedVolume" 43 "NotedVolume" "powered" "Z" ∈ xv_T := xv_in (List.mem_append_right _ (List.mem_of_getElem? (i := 146) (by decide +kernel))) (by decide +kernel)
theorem iw_147 : Cond.fieldLink "NotedVolume" 47 "NotedVolume" "writesLeft" "I" ∈ xv_T := xv_in (List.mem_append_right _ (List.mem_of_getElem? (i := 147) (by decide +kernel))) (by decide +kernel)
theorem iw_166 : Cond.code ⟨"NotedVolume", "open", "()I"⟩ prog_1_method_7_code 1 (some .int) ∈ xv_T := xv_in (List.mem_append_right _ (List.mem_of_getElem? (i := 166) (by decide +kernel))) (by decide +kernel)
theorem iw_167 : Cond.methodLink "NotedVolume" 142 ⟨"NotedVolume$Gatherings", "count", "()I"⟩ ∈ xv_T := xv_in (List.mem_append_right _ (List.mem_of_getElem? (i := 167) (by decide +kernel))) (by decide +kernel)
theorem iw_168 : Cond.instanceMethod ⟨"NotedVolume$Gatherings", "count", "()I"⟩ ∈ xv_T := xv_in (List.mem_append_right _ (List.mem_of_getElem? (i := 168) (by decide +kernel))) (by decide +kernel)
theorem iw_169 : Cond.selects "NotedVolume$Gatherings" ⟨"NotedVolume$Gatherings", "count", "()I"⟩ ⟨"NotedVolume$Gatherings", "count", "()I"⟩ ∈ xv_T := xv_in (List.mem_append_right _ (List.mem_of_getElem? (i := 169) (by decide +kernel))) (by decide +kernel)
theorem iw_178 : Cond.code ⟨"NotedVolume", "find", "(II)I"⟩ prog_1_method_9_code 4 (some .int) ∈ xv_T := xv_in (List.mem_append_right _ (List.mem_of_getElem? (i := 178) (by decide +kernel))) (by decide +kernel)
theorem iw_179 : Cond.methodLink "NotedVolume" 151 ⟨"NotedVolume$FileTable", "entryNamed", "(II)LNotedVolume$Entry;"⟩ ∈ xv_T := xv_in (List.mem_append_right _ (List.mem_of_getElem? (i := 179) (by decide +kernel))) (by decide +kernel)
theorem iw_180 : Cond.instanceMethod ⟨"NotedVolume$FileTable", "entryNamed", "(II)LNotedVolume$Entry;"⟩ ∈ xv_T := xv_in (List.mem_append_right _ (List.mem_of_getElem? (i := 180) (by decide +kernel))) (by decide +kernel)
theorem iw_181 : Cond.selects "NotedVolume$FileTable" ⟨"NotedVolume$FileTable", "entryNamed", "(II)LNotedVolume$Entry;"⟩ ⟨"NotedVolume$FileTable", "entryNamed", "(II)LNotedVolume$Entry;"⟩ ∈ xv_T := xv_in (List.mem_append_right _ (List.mem_of_getElem? (i := 181) (by decide +kernel))) (by decide +kernel)
theorem iw_202 : Cond.code ⟨"NotedVolume", "live", "()I"⟩ prog_1_method_10_code 1 (some .int) ∈ xv_T := xv_in (List.mem_append_right _ (List.mem_of_getElem? (i := 202) (by decide +kernel))) (by decide +kernel)
theorem iw_203 : Cond.methodLink "NotedVolume" 53 ⟨"NotedVolume$FileTable", "count", "()I"⟩ ∈ xv_T := xv_in (List.mem_append_right _ (List.mem_of_getElem? (i := 203) (by decide +kernel))) (by decide +kernel)
theorem iw_204 : Cond.instanceMethod ⟨"NotedVolume$FileTable", "count", "()I"⟩ ∈ xv_T := xv_in (List.mem_append_right _ (List.mem_of_getElem? (i := 204) (by decide +kernel))) (by decide +kernel)
theorem iw_205 : Cond.selects "NotedVolume$FileTable" ⟨"NotedVolume$FileTable", "count", "()I"⟩ ⟨"NotedVolume$FileTable", "count", "()I"⟩ ∈ xv_T := xv_in (List.mem_append_right _ (List.mem_of_getElem? (i := 205) (by decide +kernel))) (by decide +kernel)
theorem iw_210 : Cond.code ⟨"NotedVolume", "tail", "()I"⟩ prog_1_method_11_code 1 (some .int) ∈ xv_T := xv_in (List.mem_append_right _ (List.mem_of_getElem? (i := 210) (by decide +kernel))) (by decide +kernel)
theorem iw_211 : Cond.methodLink "NotedVolume" 155 ⟨"NotedVolume$Ring", "leastKept", "()I"⟩ ∈ xv_T := xv_in (List.mem_append_right _ (List.mem_of_getElem? (i := 211) (by decide +kernel))) (by decide +kernel)
theorem iw_218 : Cond.code ⟨"NotedVolume", "head", "()I"⟩ prog_1_method_12_code 1 (some .int) ∈ xv_T := xv_in (List.mem_append_right _ (List.mem_of_getElem? (i := 218) (by decide +kernel))) (by decide +kernel)
theorem iw_219 : Cond.methodLink "NotedVolume" 158 ⟨"NotedVolume$Ring", "nextSerial", "()I"⟩ ∈ xv_T := xv_in (List.mem_append_right _ (List.mem_of_getElem? (i := 219) (by decide +kernel))) (by decide +kernel)
theorem iw_226 : Cond.code ⟨"NotedVolume", "start", "()I"⟩ prog_1_method_24_code 4 (some .int) ∈ xv_T := xv_in (List.mem_append_right _ (List.mem_of_getElem? (i := 226) (by decide +kernel))) (by decide +kernel)
theorem iw_227 : Cond.methodLink "NotedVolume" 230 ⟨"NotedVolume$Gatherings", "recall", "(LNotedVolume$Ring;)V"⟩ ∈ xv_T := xv_in (List.mem_append_right _ (List.mem_of_getElem? (i := 227) (by decide +kernel))) (by decide +kernel)
theorem iw_228 : Cond.instanceMethod ⟨"NotedVolume$Gatherings", "recall", "(LNotedVolume$Ring;)V"⟩ ∈ xv_T := xv_in (List.mem_append_right _ (List.mem_of_getElem? (i := 228) (by decide +kernel))) (by decide +kernel)
theorem iw_229 : Cond.selects "NotedVolume$Gatherings" ⟨"NotedVolume$Gatherings", "recall", "(LNotedVolume$Ring;)V"⟩ ⟨"NotedVolume$Gatherings", "recall", "(LNotedVolume$Ring;)V"⟩ ∈ xv_T := xv_in (List.mem_append_right _ (List.mem_of_getElem? (i := 229) (by decide +kernel))) (by decide +kernel)
theorem iw_278 : Cond.fieldLink "NotedVolume" 276 "NotedVolume$Gathering" "file" "I" ∈ xv_T := xv_in (List.mem_append_right _ (List.mem_of_getElem? (i := 278) (by decide +kernel))) (by decide +kernel)
theorem iw_280 : Cond.fieldLink "NotedVolume" 281 "NotedVolume$Gathering" "reasons" "I" ∈ xv_T := xv_in (List.mem_append_right _ (List.mem_of_getElem? (i := 280) (by decide +kernel))) (by decide +kernel)
theorem iw_348 : Cond.methodLink "NotedVolume" 233 ⟨"NotedVolume$Gatherings", "first", "()LNotedVolume$Gathering;"⟩ ∈ xv_T := xv_in (List.mem_append_right _ (List.mem_of_getElem? (i := 348) (by decide +kernel))) (by decide +kernel)
theorem iw_356 : Cond.methodLink "NotedVolume" 237 ⟨"NotedVolume", "endGathering", "(LNotedVolume$Gathering;)V"⟩ ∈ xv_T := xv_in (List.mem_append_right _ (List.mem_of_getElem? (i := 356) (by decide +kernel))) (by decide +kernel)
theorem iw_358 : Cond.instanceMethod ⟨"NotedVolume", "endGathering", "(LNotedVolume$Gathering;)V"⟩ ∈ xv_T := xv_in (List.mem_append_right _ (List.mem_of_getElem? (i := 358) (by decide +kernel))) (by decide +kernel)
theorem iw_359 : Cond.code ⟨"NotedVolume", "endGathering", "(LNotedVolume$Gathering;)V"⟩ prog_1_method_38_code 4 none ∈ xv_T := xv_in (List.mem_append_right _ (List.mem_of_getElem? (i := 359) (by decide +kernel))) (by decide +kernel)
theorem iw_360 : Cond.methodLink "NotedVolume" 219 ⟨"NotedVolume$FileTable", "entryOf", "(I)LNotedVolume$Entry;"⟩ ∈ xv_T := xv_in (List.mem_append_right _ (List.mem_of_getElem? (i := 360) (by decide +kernel))) (by decide +kernel)
theorem iw_361 : Cond.instanceMethod ⟨"NotedVolume$FileTable", "entryOf", "(I)LNotedVolume$Entry;"⟩ ∈ xv_T := xv_in (List.mem_append_right _ (List.mem_of_getElem? (i := 361) (by decide +kernel))) (by decide +kernel)
theorem iw_362 : Cond.selects "NotedVolume$FileTable" ⟨"NotedVolume$FileTable", "entryOf", "(I)LNotedVolume$Entry;"⟩ ⟨"NotedVolume$FileTable", "entryOf", "(I)LNotedVolume$Entry;"⟩ ∈ xv_T := xv_in (List.mem_append_right _ (List.mem_of_getElem? (i := 362) (by decide +kernel))) (by decide +kernel)
theorem iw_364 : Cond.classLink "NotedVolume" 74 "NotedVolume$Entry" ∈ xv_T := xv_in (List.mem_append_right _ (List.mem_of_getElem? (i := 364) (by decide +kernel))) (by decide +kernel)
theorem iw_365 : Cond.instantiable "NotedVolume$Entry" 5 ∈ xv_T := xv_in (List.mem_append_right _ (List.mem_of_getElem? (i := 365) (by decide +kernel))) (by decide +kernel)
theorem iw_366 : Cond.methodLink "NotedVolume" 76 ⟨"NotedVolume$Entry", "<init>", "(IIIII)V"⟩ ∈ xv_T := xv_in (List.mem_append_right _ (List.mem_of_getElem? (i := 366) (by decide +kernel))) (by decide +kernel)
theorem iw_367 : Cond.instanceMethod ⟨"NotedVolume$Entry", "<init>", "(IIIII)V"⟩ ∈ xv_T := xv_in (List.mem_append_right _ (List.mem_of_getElem? (i := 367) (by decide +kernel))) (by decide +kernel)
theorem iw_371 : Cond.fieldLink "NotedVolume" 83 "NotedVolume$Entry" "number" "I" ∈ xv_T := xv_in (List.mem_append_right _ (List.mem_of_getElem? (i := 371) (by decide +kernel))) (by decide +kernel)
theorem iw_374 : Cond.fieldLink "NotedVolume$Subscriber" 61 "NotedVolume$Entry" "number" "I" ∈ xv_T := xv_in (List.mem_append_right _ (List.mem_of_getElem? (i := 374) (by decide +kernel))) (by decide +kernel)
theorem iw_377 : Cond.fieldLink "NotedVolume" 90 "NotedVolume$Entry" "sort" "I" ∈ xv_T := xv_in (List.mem_append_right _ (List.mem_of_getElem? (i := 377) (by decide +kernel))) (by decide +kernel)
theorem iw_379 : Cond.fieldLink "NotedVolume" 98 "NotedVolume$Entry" "parent" "I" ∈ xv_T := xv_in (List.mem_append_right _ (List.mem_of_getElem? (i := 379) (by decide +kernel))) (by decide +kernel)
theorem iw_382 : Cond.fieldLink "NotedVolume" 101 "NotedVolume$Entry" "name" "I" ∈ xv_T := xv_in (List.mem_append_right _ (List.mem_of_getElem? (i := 382) (by decide +kernel))) (by decide +kernel)
theorem iw_385 : Cond.fieldLink "NotedVolume" 104 "NotedVolume$Entry" "mark" "I" ∈ xv_T := xv_in (List.mem_append_right _ (List.mem_of_getElem? (i := 385) (by decide +kernel))) (by decide +kernel)
theorem iw_397 : Cond.methodLink "NotedVolume" 272 ⟨"NotedVolume$Ring", "append", "(LNotedVolume$Entry;I)V"⟩ ∈ xv_T := xv_in (List.mem_append_right _ (List.mem_of_getElem? (i := 397) (by decide +kernel))) (by decide +kernel)
theorem iw_398 : Cond.instanceMethod ⟨"NotedVolume$Ring", "append", "(LNotedVolume$Entry;I)V"⟩ ∈ xv_T := xv_in (List.mem_append_right _ (List.mem_of_getElem? (i := 398) (by decide +kernel))) (by decide +kernel)
theorem iw_399 : Cond.selects "NotedVolume$Ring" ⟨"NotedVolume$Ring", "append", "(LNotedVolume$Entry;I)V"⟩ ⟨"NotedVolume$Ring", "append", "(LNotedVolume$Entry;I)V"⟩ ∈ xv_T := xv_in (List.mem_append_right _ (List.mem_of_getElem? (i := 399) (by decide +kernel))) (by decide +kernel)
theorem iw_407 : Cond.fieldLink "NotedVolume$Subscriber" 95 "NotedVolume$Note" "entry" "LNotedVolume$Entry;" ∈ xv_T := xv_in (List.mem_append_right _ (List.mem_of_getElem? (i := 407) (by decide +kernel))) (by decide +kernel)
theorem iw_416 : Cond.methodLink "NotedVolume" 284 ⟨"NotedVolume$Gatherings", "take", "(I)V"⟩ ∈ xv_T := xv_in (List.mem_append_right _ (List.mem_of_getElem? (i := 416) (by decide +kernel))) (by decide +kernel)
theorem iw_420 : Cond.code ⟨"NotedVolume", "isOn", "()Z"⟩ prog_1_method_25_code 1 (some .boolean) ∈ xv_T := xv_in (List.mem_append_right _ (List.mem_of_getElem? (i := 420) (by decide +kernel))) (by decide +kernel)
theorem iw_431 : Cond.code ⟨"NotedVolume", "make", "(IZI)I"⟩ prog_1_method_2_code 5 (some .int) ∈ xv_T := xv_in (List.mem_append_right _ (List.mem_of_getElem? (i := 431) (by decide +kernel))) (by decide +kernel)
theorem iw_432 : Cond.methodLink "NotedVolume" 50 ⟨"NotedVolume", "checkPower", "()V"⟩ ∈ xv_T := xv_in (List.mem_append_right _ (List.mem_of_getElem? (i := 432) (by decide +kernel))) (by decide +kernel)
theorem iw_434 : Cond.instanceMethod ⟨"NotedVolume", "checkPower", "()V"⟩ ∈ xv_T := xv_in (List.mem_append_right _ (List.mem_of_getElem? (i := 434) (by decide +kernel))) (by decide +kernel)
theorem iw_435 : Cond.code ⟨"NotedVolume", "checkPower", "()V"⟩ prog_1_method_26_code 1 none ∈ xv_T := xv_in (List.mem_append_right _ (List.mem_of_getElem? (i := 435) (by decide +kernel))) (by decide +kernel)
theorem iw_436 : Cond.classLink "NotedVolume" 57 "java/lang/IllegalStateException" ∈ xv_T := xv_in (List.mem_append_right _ (List.mem_of_getElem? (i := 436) (by decide +kernel))) (by decide +kernel)
theorem iw_507 : Cond.methodLink "NotedVolume" 64 ⟨"NotedVolume", "checkName", "(I)V"⟩ ∈ xv_T := xv_in (List.mem_append_right _ (List.mem_of_getElem? (i := 507) (by decide +kernel))) (by decide +kernel)
theorem iw_508 : Cond.static ⟨"NotedVolume", "checkName", "(I)V"⟩ ∈ xv_T := xv_in (List.mem_append_right _ (List.mem_of_getElem? (i := 508) (by decide +kernel))) (by decide +kernel)
theorem iw_509 : Cond.code ⟨"NotedVolume", "checkName", "(I)V"⟩ prog_1_method_27_code 1 none ∈ xv_T := xv_in (List.mem_append_right _ (List.mem_of_getElem? (i := 509) (by decide +kernel))) (by decide +kernel)
theorem iw_510 : Cond.classLink "NotedVolume" 174 "java/lang/IllegalArgumentException" ∈ xv_T := xv_in (List.mem_append_right _ (List.mem_of_getElem? (i := 510) (by decide +kernel))) (by decide +kernel)
theorem iw_526 : Cond.methodLink "NotedVolume" 67 ⟨"NotedVolume", "checkFolder", "(I)V"⟩ ∈ xv_T := xv_in (List.mem_append_right _ (List.mem_of_getElem? (i := 526) (by decide +kernel))) (by decide +kernel)
theorem iw_528 : Cond.instanceMethod ⟨"NotedVolume", "checkFolder", "(I)V"⟩ ∈ xv_T := xv_in (List.mem_append_right _ (List.mem_of_getElem? (i := 528) (by decide +kernel))) (by decide +kernel)
theorem iw_529 : Cond.code ⟨"NotedVolume", "checkFolder", "(I)V"⟩ prog_1_method_29_code 2 none ∈ xv_T := xv_in (List.mem_append_right _ (List.mem_of_getElem? (i := 529) (by decide +kernel))) (by decide +kernel)
theorem iw_530 : Cond.methodLink "NotedVolume" 86 ⟨"NotedVolume", "liveEntry", "(I)LNotedVolume$Entry;"⟩ ∈ xv_T := xv_in (List.mem_append_right _ (List.mem_of_getElem? (i := 530) (by decide +kernel))) (by decide +kernel)
theorem iw_532 : Cond.instanceMethod ⟨"NotedVolume", "liveEntry", "(I)LNotedVolume$Entry;"⟩ ∈ xv_T := xv_in (List.mem_append_right _ (List.mem_of_getElem? (i := 532) (by decide +kernel))) (by decide +kernel)
theorem iw_533 : Cond.code ⟨"NotedVolume", "liveEntry", "(I)LNotedVolume$Entry;"⟩ prog_1_method_31_code 3 (some (.object "NotedVolume$Entry")) ∈ xv_T := xv_in (List.mem_append_right _ (List.mem_of_getElem? (i := 533) (by decide +kernel))) (by decide +kernel)
theorem iw_534 : Cond.classLink "NotedVolume" 133 "java/util/NoSuchElementException" ∈ xv_T := xv_in (List.mem_append_right _ (List.mem_of_getElem? (i := 534) (by decide +kernel))) (by decide +kernel)
theorem iw_550 : Cond.classLink "NotedVolume" 93 "java/lang/UnsupportedOperationException" ∈ xv_T := xv_in (List.mem_append_right _ (List.mem_of_getElem? (i := 550) (by decide +kernel))) (by decide +kernel)
theorem iw_566 : Cond.methodLink "NotedVolume" 70 ⟨"NotedVolume", "checkNameFree", "(III)V"⟩ ∈ xv_T := xv_in (List.mem_append_right _ (List.mem_of_getElem? (i := 566) (by decide +kernel))) (by decide +kernel)
theorem iw_568 : Cond.instanceMethod ⟨"NotedVolume", "checkNameFree", "(III)V"⟩ ∈ xv_T := xv_in (List.mem_append_right _ (List.mem_of_getElem? (i := 568) (by decide +kernel))) (by decide +kernel)
theorem iw_569 : Cond.code ⟨"NotedVolume", "checkNameFree", "(III)V"⟩ prog_1_method_30_code 5 none ∈ xv_T := xv_in (List.mem_append_right _ (List.mem_of_getElem? (i := 569) (by decide +kernel))) (by decide +kernel)
theorem iw_571 : Cond.methodLink "NotedVolume" 79 ⟨"NotedVolume", "noteAndDo", "(LNotedVolume$Entry;I)Z"⟩ ∈ xv_T := xv_in (List.mem_append_right _ (List.mem_of_getElem? (i := 571) (by decide +kernel))) (by decide +kernel)
theorem iw_573 : Cond.instanceMethod ⟨"NotedVolume", "noteAndDo", "(LNotedVolume$Entry;I)Z"⟩ ∈ xv_T := xv_in (List.mem_append_right _ (List.mem_of_getElem? (i := 573) (by decide +kernel))) (by decide +kernel)
theorem iw_574 : Cond.code ⟨"NotedVolume", "noteAndDo", "(LNotedVolume$Entry;I)Z"⟩ prog_1_method_35_code 3 (some .boolean) ∈ xv_T := xv_in (List.mem_append_right _ (List.mem_of_getElem? (i := 574) (by decide +kernel))) (by decide +kernel)
theorem iw_575 : Cond.methodLink "NotedVolume" 113 ⟨"NotedVolume", "writeChangeNote", "(LNotedVolume$Entry;I)Z"⟩ ∈ xv_T := xv_in (List.mem_append_right _ (List.mem_of_getElem? (i := 575) (by decide +kernel))) (by decide +kernel)
theorem iw_577 : Cond.instanceMethod ⟨"NotedVolume", "writeChangeNote", "(LNotedVolume$Entry;I)Z"⟩ ∈ xv_T := xv_in (List.mem_append_right _ (List.mem_of_getElem? (i := 577) (by decide +kernel))) (by decide +kernel)
theorem iw_578 : Cond.code ⟨"NotedVolume", "writeChangeNote", "(LNotedVolume$Entry;I)Z"⟩ prog_1_method_36_code 4 (some .boolean) ∈ xv_T := xv_in (List.mem_append_right _ (List.mem_of_getElem? (i := 578) (by decide +kernel))) (by decide +kernel)
theorem iw_579 : Cond.methodLink "NotedVolume" 265 ⟨"NotedVolume$Gatherings", "inTheWayOf", "(I)LNotedVolume$Gathering;"⟩ ∈ xv_T := xv_in (List.mem_append_right _ (List.mem_of_getElem? (i := 579) (by decide +kernel))) (by decide +kernel)
theorem iw_580 : Cond.instanceMethod ⟨"NotedVolume$Gatherings", "inTheWayOf", "(I)LNotedVolume$Gathering;"⟩ ∈ xv_T := xv_in (List.mem_append_right _ (List.mem_of_getElem? (i := 580) (by decide +kernel))) (by decide +kernel)
theorem iw_581 : Cond.selects "NotedVolume$Gatherings" ⟨"NotedVolume$Gatherings", "inTheWayOf", "(I)LNotedVolume$Gathering;"⟩ ⟨"NotedVolume$Gatherings", "inTheWayOf", "(I)LNotedVolume$Gathering;"⟩ ∈ xv_T := xv_in (List.mem_append_right _ (List.mem_of_getElem? (i := 581) (by decide +kernel))) (by decide +kernel)
theorem iw_584 : Cond.methodLink "NotedVolume" 138 ⟨"NotedVolume", "writeClosingNote", "(LNotedVolume$Gathering;)Z"⟩ ∈ xv_T := xv_in (List.mem_append_right _ (List.mem_of_getElem? (i := 584) (by decide +kernel))) (by decide +kernel)
theorem iw_586 : Cond.instanceMethod ⟨"NotedVolume", "writeClosingNote", "(LNotedVolume$Gathering;)Z"⟩ ∈ xv_T := xv_in (List.mem_append_right _ (List.mem_of_getElem? (i := 586) (by decide +kernel))) (by decide +kernel)
theorem iw_587 : Cond.code ⟨"NotedVolume", "writeClosingNote", "(LNotedVolume$Gathering;)Z"⟩ prog_1_method_37_code 2 (some .boolean) ∈ xv_T := xv_in (List.mem_append_right _ (List.mem_of_getElem? (i := 587) (by decide +kernel))) (by decide +kernel)
theorem iw_588 : Cond.methodLink "NotedVolume" 122 ⟨"NotedVolume", "spendWrite", "()Z"⟩ ∈ xv_T := xv_in (List.mem_append_right _ (List.mem_of_getElem? (i := 588) (by decide +kernel))) (by decide +kernel)
theorem iw_590 : Cond.instanceMethod ⟨"NotedVolume", "spendWrite", "()Z"⟩ ∈ xv_T := xv_in (List.mem_append_right _ (List.mem_of_getElem? (i := 590) (by decide +kernel))) (by decide +kernel)
theorem iw_591 : Cond.code ⟨"NotedVolume", "spendWrite", "()Z"⟩ prog_1_method_34_code 1 (some .boolean) ∈ xv_T := xv_in (List.mem_append_right _ (List.mem_of_getElem? (i := 591) (by decide +kernel))) (by decide +kernel)
theorem iw_592 : Cond.methodLink "NotedVolume" 258 ⟨"NotedVolume$Gatherings", "forget", "()V"⟩ ∈ xv_T := xv_in (List.mem_append_right _ (List.mem_of_getElem? (i := 592) (by decide +kernel))) (by decide +kernel)
theorem iw_593 : Cond.instanceMethod ⟨"NotedVolume$Gatherings", "forget", "()V"⟩ ∈ xv_T := xv_in (List.mem_append_right _ (List.mem_of_getElem? (i := 593) (by decide +kernel))) (by decide +kernel)
theorem iw_594 : Cond.selects "NotedVolume$Gatherings" ⟨"NotedVolume$Gatherings", "forget", "()V"⟩ ⟨"NotedVolume$Gatherings", "forget", "()V"⟩ ∈ xv_T := xv_in (List.mem_append_right _ (List.mem_of_getElem? (i := 594) (by decide +kernel))) (by decide +kernel)
theorem iw_596 : Cond.methodLink "NotedVolume" 268 ⟨"NotedVolume$Gatherings", "gather", "(II)I"⟩ ∈ xv_T := xv_in (List.mem_append_right _ (List.mem_of_getElem? (i := 596) (by decide +kernel))) (by decide +kernel)
theorem iw_597 : Cond.methodLink "NotedVolume" 261 ⟨"NotedVolume$FileTable", "put", "(LNotedVolume$Entry;)V"⟩ ∈ xv_T := xv_in (List.mem_append_right _ (List.mem_of_getElem? (i := 597) (by decide +kernel))) (by decide +kernel)
theorem iw_598 : Cond.instanceMethod ⟨"NotedVolume$FileTable", "put", "(LNotedVolume$Entry;)V"⟩ ∈ xv_T := xv_in (List.mem_append_right _ (List.mem_of_getElem? (i := 598) (by decide +kernel))) (by decide +kernel)
theorem iw_599 : Cond.selects "NotedVolume$FileTable" ⟨"NotedVolume$FileTable", "put", "(LNotedVolume$Entry;)V"⟩ ⟨"NotedVolume$FileTable", "put", "(LNotedVolume$Entry;)V"⟩ ∈ xv_T := xv_in (List.mem_append_right _ (List.mem_of_getElem? (i := 599) (by decide +kernel))) (by decide +kernel)
theorem iw_869 : Cond.code ⟨"NotedVolume", "change", "(I)I"⟩ prog_1_method_3_code 4 (some .int) ∈ xv_T := xv_in (List.mem_append_right _ (List.mem_of_getElem? (i := 869) (by decide +kernel))) (by decide +kernel)
theorem iw_877 : Cond.code ⟨"NotedVolume", "rename", "(III)Z"⟩ prog_1_method_4_code 7 (some .boolean) ∈ xv_T := xv_in (List.mem_append_right _ (List.mem_of_getElem? (i := 877) (by decide +kernel))) (by decide +kernel)
theorem iw_878 : Cond.methodLink "NotedVolume" 107 ⟨"NotedVolume", "isOrLiesIn", "(II)Z"⟩ ∈ xv_T := xv_in (List.mem_append_right _ (List.mem_of_getElem? (i := 878) (by decide +kernel))) (by decide +kernel)
theorem iw_880 : Cond.instanceMethod ⟨"NotedVolume", "isOrLiesIn", "(II)Z"⟩ ∈ xv_T := xv_in (List.mem_append_right _ (List.mem_of_getElem? (i := 880) (by decide +kernel))) (by decide +kernel)
theorem iw_881 : Cond.code ⟨"NotedVolume", "isOrLiesIn", "(II)Z"⟩ prog_1_method_33_code 6 (some .boolean) ∈ xv_T := xv_in (List.mem_append_right _ (List.mem_of_getElem? (i := 881) (by decide +kernel))) (by decide +kernel)
theorem iw_889 : Cond.code ⟨"NotedVolume", "remove", "(I)Z"⟩ prog_1_method_5_code 3 (some .boolean) ∈ xv_T := xv_in (List.mem_append_right _ (List.mem_of_getElem? (i := 889) (by decide +kernel))) (by decide +kernel)
theorem iw_890 : Cond.methodLink "NotedVolume" 116 ⟨"NotedVolume$FileTable", "hasFilesIn", "(I)Z"⟩ ∈ xv_T := xv_in (List.mem_append_right _ (List.mem_of_getElem? (i := 890) (by decide +kernel))) (by decide +kernel)
theorem iw_891 : Cond.instanceMethod ⟨"NotedVolume$FileTable", "hasFilesIn", "(I)Z"⟩ ∈ xv_T := xv_in (List.mem_append_right _ (List.mem_of_getElem? (i := 891) (by decide +kernel))) (by decide +kernel)
theorem iw_892 : Cond.selects "NotedVolume$FileTable" ⟨"NotedVolume$FileTable", "hasFilesIn", "(I)Z"⟩ ⟨"NotedVolume$FileTable", "hasFilesIn", "(I)Z"⟩ ∈ xv_T := xv_in (List.mem_append_right _ (List.mem_of_getElem? (i := 892) (by decide +kernel))) (by decide +kernel)
theorem iw_895 : Cond.methodLink "NotedVolume" 126 ⟨"NotedVolume$FileTable", "drop", "(I)V"⟩ ∈ xv_T := xv_in (List.mem_append_right _ (List.mem_of_getElem? (i := 895) (by decide +kernel))) (by decide +kernel)
theorem iw_896 : Cond.instanceMethod ⟨"NotedVolume$FileTable", "drop", "(I)V"⟩ ∈ xv_T := xv_in (List.mem_append_right _ (List.mem_of_getElem? (i := 896) (by decide +kernel))) (by decide +kernel)
theorem iw_897 : Cond.selects "NotedVolume$FileTable" ⟨"NotedVolume$FileTable", "drop", "(I)V"⟩ ⟨"NotedVolume$FileTable", "drop", "(I)V"⟩ ∈ xv_T := xv_in (List.mem_append_right _ (List.mem_of_getElem? (i := 897) (by decide +kernel))) (by decide +kernel)
theorem iw_906 : Cond.code ⟨"NotedVolume", "close", "(I)Z"⟩ prog_1_method_6_code 3 (some .boolean) ∈ xv_T := xv_in (List.mem_append_right _ (List.mem_of_getElem? (i := 906) (by decide +kernel))) (by decide +kernel)
theorem iw_907 : Cond.methodLink "NotedVolume" 129 ⟨"NotedVolume$Gatherings", "gatheringOf", "(I)LNotedVolume$Gathering;"⟩ ∈ xv_T := xv_in (List.mem_append_right _ (List.mem_of_getElem? (i := 907) (by decide +kernel))) (by decide +kernel)
theorem iw_916 : Cond.code ⟨"NotedVolume", "of", "(II)I"⟩ prog_1_method_8_code 4 (some .int) ∈ xv_T := xv_in (List.mem_append_right _ (List.mem_of_getElem? (i := 916) (by decide +kernel))) (by decide +kernel)
theorem iw_917 : Cond.methodLink "NotedVolume" 143 ⟨"NotedVolume", "checkItem", "(II)V"⟩ ∈ xv_T := xv_in (List.mem_append_right _ (List.mem_of_getElem? (i := 917) (by decide +kernel))) (by decide +kernel)
theorem iw_918 : Cond.static ⟨"NotedVolume", "checkItem", "(II)V"⟩ ∈ xv_T := xv_in (List.mem_append_right _ (List.mem_of_getElem? (i := 918) (by decide +kernel))) (by decide +kernel)
theorem iw_919 : Cond.code ⟨"NotedVolume", "checkItem", "(II)V"⟩ prog_1_method_28_code 2 none ∈ xv_T := xv_in (List.mem_append_right _ (List.mem_of_getElem? (i := 919) (by decide +kernel))) (by decide +kernel)
theorem iw_920 : Cond.classLink "NotedVolume" 245 "java/lang/IndexOutOfBoundsException" ∈ xv_T := xv_in (List.mem_append_right _ (List.mem_of_getElem? (i := 920) (by decide +kernel))) (by decide +kernel)
theorem iw_923 : Cond.methodLink "NotedVolume" 147 ⟨"NotedVolume$Entry", "item", "(I)I"⟩ ∈ xv_T := xv_in (List.mem_append_right _ (List.mem_of_getElem? (i := 923) (by decide +kernel))) (by decide +kernel)
theorem iw_933 : Cond.code ⟨"NotedVolume", "note", "(II)I"⟩ prog_1_method_13_code 4 (some .int) ∈ xv_T := xv_in (List.mem_append_right _ (List.mem_of_getElem? (i := 933) (by decide +kernel))) (by decide +kernel)
theorem iw_934 : Cond.methodLink "NotedVolume" 161 ⟨"NotedVolume$Ring", "noteAt", "(I)LNotedVolume$Note;"⟩ ∈ xv_T := xv_in (List.mem_append_right _ (List.mem_of_getElem? (i := 934) (by decide +kernel))) (by decide +kernel)
theorem iw_936 : Cond.methodLink "NotedVolume" 167 ⟨"NotedVolume$Note", "item", "(I)I"⟩ ∈ xv_T := xv_in (List.mem_append_right _ (List.mem_of_getElem? (i := 936) (by decide +kernel))) (by decide +kernel)
theorem iw_937 : Cond.instanceMethod ⟨"NotedVolume$Note", "item", "(I)I"⟩ ∈ xv_T := xv_in (List.mem_append_right _ (List.mem_of_getElem? (i := 937) (by decide +kernel))) (by decide +kernel)
theorem iw_938 : Cond.selects "NotedVolume$Note" ⟨"NotedVolume$Note", "item", "(I)I"⟩ ⟨"NotedVolume$Note", "item", "(I)I"⟩ ∈ xv_T := xv_in (List.mem_append_right _ (List.mem_of_getElem? (i := 938) (by decide +kernel))) (by decide +kernel)
theorem iw_947 : Cond.code ⟨"NotedVolume", "subscribe", "(II)V"⟩ prog_1_method_14_code 4 none ∈ xv_T := xv_in (List.mem_append_right _ (List.mem_of_getElem? (i := 947) (by decide +kernel))) (by decide +kernel)
theorem iw_948 : Cond.methodLink "NotedVolume" 170 ⟨"NotedVolume", "subscriberAt", "(I)LNotedVolume$Subscriber;"⟩ ∈ xv_T := xv_in (List.mem_append_right _ (List.mem_of_getElem? (i := 948) (by decide +kernel))) (by decide +kernel)
theorem iw_950 : Cond.instanceMethod ⟨"NotedVolume", "subscriberAt", "(I)LNotedVolume$Subscriber;"⟩ ∈ xv_T := xv_in (List.mem_append_right _ (List.mem_of_getElem? (i := 950) (by decide +kernel))) (by decide +kernel)
theorem iw_951 : Cond.code ⟨"NotedVolume", "subscriberAt", "(I)LNotedVolume$Subscriber;"⟩ prog_1_method_32_code 2 (some (.object "NotedVolume$Subscriber")) ∈ xv_T := xv_in (List.mem_append_right _ (List.mem_of_getElem? (i := 951) (by decide +kernel))) (by decide +kernel)
theorem iw_954 : Cond.methodLink "NotedVolume" 179 ⟨"NotedVolume$Subscriber", "beginAnew", "(ILNotedVolume$Ring;)V"⟩ ∈ xv_T := xv_in (List.mem_append_right _ (List.mem_of_getElem? (i := 954) (by decide +kernel))) (by decide +kernel)
theorem iw_955 : Cond.instanceMethod ⟨"NotedVolume$Subscriber", "beginAnew", "(ILNotedVolume$Ring;)V"⟩ ∈ xv_T := xv_in (List.mem_append_right _ (List.mem_of_getElem? (i := 955) (by decide +kernel))) (by decide +kernel)
theorem iw_956 : Cond.selects "NotedVolume$Subscriber" ⟨"NotedVolume$Subscriber", "beginAnew", "(ILNotedVolume$Ring;)V"⟩ ⟨"NotedVolume$Subscriber", "beginAnew", "(ILNotedVolume$Ring;)V"⟩ ∈ xv_T := xv_in (List.mem_append_right _ (List.mem_of_getElem? (i := 956) (by decide +kernel))) (by decide +kernel)
theorem iw_957 : Cond.code ⟨"NotedVolume$Subscriber", "beginAnew", "(ILNotedVolume$Ring;)V"⟩ prog_8_method_2_code 4 none ∈ xv_T := xv_in (List.mem_append_right _ (List.mem_of_getElem? (i := 957) (by decide +kernel))) (by decide +kernel)
theorem iw_958 : Cond.methodLink "NotedVolume$Subscriber" 31 ⟨"NotedVolume$Ring", "nextSerial", "()I"⟩ ∈ xv_T := xv_in (List.mem_append_right _ (List.mem_of_getElem? (i := 958) (by decide +kernel))) (by decide +kernel)
theorem iw_965 : Cond.code ⟨"NotedVolume", "cursor", "(I)I"⟩ prog_1_method_15_code 2 (some .int) ∈ xv_T := xv_in (List.mem_append_right _ (List.mem_of_getElem? (i := 965) (by decide +kernel))) (by decide +kernel)
theorem iw_972 : Cond.code ⟨"NotedVolume", "read", "(I)I"⟩ prog_1_method_16_code 3 (some .int) ∈ xv_T := xv_in (List.mem_append_right _ (List.mem_of_getElem? (i := 972) (by decide +kernel))) (by decide +kernel)
theorem iw_973 : Cond.methodLink "NotedVolume" 189 ⟨"NotedVolume$Subscriber", "takeNote", "(LNotedVolume$Ring;I)I"⟩ ∈ xv_T := xv_in (List.mem_append_right _ (List.mem_of_getElem? (i := 973) (by decide +kernel))) (by decide +kernel)
theorem iw_974 : Cond.instanceMethod ⟨"NotedVolume$Subscriber", "takeNote", "(LNotedVolume$Ring;I)I"⟩ ∈ xv_T := xv_in (List.mem_append_right _ (List.mem_of_getElem? (i := 974) (by decide +kernel))) (by decide +kernel)
theorem iw_975 : Cond.selects "NotedVolume$Subscriber" ⟨"NotedVolume$Subscriber", "takeNote", "(LNotedVolume$Ring;I)I"⟩ ⟨"NotedVolume$Subscriber", "takeNote", "(LNotedVolume$Ring;I)I"⟩ ∈ xv_T := xv_in (List.mem_append_right _ (List.mem_of_getElem? (i := 975) (by decide +kernel))) (by decide +kernel)
theorem iw_976 : Cond.code ⟨"NotedVolume$Subscriber", "takeNote", "(LNotedVolume$Ring;I)I"⟩ prog_8_method_3_code 5 (some .int) ∈ xv_T := xv_in (List.mem_append_right _ (List.mem_of_getElem? (i := 976) (by decide +kernel))) (by decide +kernel)
theorem iw_977 : Cond.methodLink "NotedVolume$Subscriber" 41 ⟨"NotedVolume$Ring", "leastKept", "()I"⟩ ∈ xv_T := xv_in (List.mem_append_right _ (List.mem_of_getElem? (i := 977) (by decide +kernel))) (by decide +kernel)
theorem iw_978 : Cond.methodLink "NotedVolume$Subscriber" 44 ⟨"NotedVolume$Ring", "noteAt", "(I)LNotedVolume$Note;"⟩ ∈ xv_T := xv_in (List.mem_append_right _ (List.mem_of_getElem? (i := 978) (by decide +kernel))) (by decide +kernel)
theorem iw_979 : Cond.methodLink "NotedVolume$Subscriber" 48 ⟨"NotedVolume$Note", "hasAny", "(I)Z"⟩ ∈ xv_T := xv_in (List.mem_append_right _ (List.mem_of_getElem? (i := 979) (by decide +kernel))) (by decide +kernel)
theorem iw_986 : Cond.code ⟨"NotedVolume", "list", "(I)V"⟩ prog_1_method_17_code 2 none ∈ xv_T := xv_in (List.mem_append_right _ (List.mem_of_getElem? (i := 986) (by decide +kernel))) (by decide +kernel)
theorem iw_987 : Cond.methodLink "NotedVolume" 193 ⟨"NotedVolume$Subscriber", "beginListing", "(LNotedVolume$Ring;)V"⟩ ∈ xv_T := xv_in (List.mem_append_right _ (List.mem_of_getElem? (i := 987) (by decide +kernel))) (by decide +kernel)
theorem iw_988 : Cond.instanceMethod ⟨"NotedVolume$Subscriber", "beginListing", "(LNotedVolume$Ring;)V"⟩ ∈ xv_T := xv_in (List.mem_append_right _ (List.mem_of_getElem? (i := 988) (by decide +kernel))) (by decide +kernel)
theorem iw_989 : Cond.selects "NotedVolume$Subscriber" ⟨"NotedVolume$Subscriber", "beginListing", "(LNotedVolume$Ring;)V"⟩ ⟨"NotedVolume$Subscriber", "beginListing", "(LNotedVolume$Ring;)V"⟩ ∈ xv_T := xv_in (List.mem_append_right _ (List.mem_of_getElem? (i := 989) (by decide +kernel))) (by decide +kernel)
theorem iw_990 : Cond.code ⟨"NotedVolume$Subscriber", "beginListing", "(LNotedVolume$Ring;)V"⟩ prog_8_method_4_code 2 none ∈ xv_T := xv_in (List.mem_append_right _ (List.mem_of_getElem? (i := 990) (by decide +kernel))) (by decide +kernel)
theorem iw_997 : Cond.code ⟨"NotedVolume", "page", "(I)I"⟩ prog_1_method_18_code 3 (some .int) ∈ xv_T := xv_in (List.mem_append_right _ (List.mem_of_getElem? (i := 997) (by decide +kernel))) (by decide +kernel)
theorem iw_999 : Cond.methodLink "NotedVolume" 202 ⟨"NotedVolume$Subscriber", "showPage", "(LNotedVolume$FileTable;)I"⟩ ∈ xv_T := xv_in (List.mem_append_right _ (List.mem_of_getElem? (i := 999) (by decide +kernel))) (by decide +kernel)
theorem iw_1000 : Cond.instanceMethod ⟨"NotedVolume$Subscriber", "showPage", "(LNotedVolume$FileTable;)I"⟩ ∈ xv_T := xv_in (List.mem_append_right _ (List.mem_of_getElem? (i := 1000) (by decide +kernel))) (by decide +kernel)
theorem iw_1001 : Cond.selects "NotedVolume$Subscriber" ⟨"NotedVolume$Subscriber", "showPage", "(LNotedVolume$FileTable;)I"⟩ ⟨"NotedVolume$Subscriber", "showPage", "(LNotedVolume$FileTable;)I"⟩ ∈ xv_T := xv_in (List.mem_append_right _ (List.mem_of_getElem? (i := 1001) (by decide +kernel))) (by decide +kernel)
theorem iw_1002 : Cond.code ⟨"NotedVolume$Subscriber", "showPage", "(LNotedVolume$FileTable;)I"⟩ prog_8_method_5_code 5 (some .int) ∈ xv_T := xv_in (List.mem_append_right _ (List.mem_of_getElem? (i := 1002) (by decide +kernel))) (by decide +kernel)
theorem iw_1003 : Cond.methodLink "NotedVolume$Subscriber" 57 ⟨"NotedVolume$FileTable", "entryAbove", "(I)LNotedVolume$Entry;"⟩ ∈ xv_T := xv_in (List.mem_append_right _ (List.mem_of_getElem? (i := 1003) (by decide +kernel))) (by decide +kernel)
theorem iw_1004 : Cond.instanceMethod ⟨"NotedVolume$FileTable", "entryAbove", "(I)LNotedVolume$Entry;"⟩ ∈ xv_T := xv_in (List.mem_append_right _ (List.mem_of_getElem? (i := 1004) (by decide +kernel))) (by decide +kernel)
theorem iw_1005 : Cond.selects "NotedVolume$FileTable" ⟨"NotedVolume$FileTable", "entryAbove", "(I)LNotedVolume$Entry;"⟩ ⟨"NotedVolume$FileTable", "entryAbove", "(I)LNotedVolume$Entry;"⟩ ∈ xv_T := xv_in (List.mem_append_right _ (List.mem_of_getElem? (i := 1005) (by decide +kernel))) (by decide +kernel)
theorem iw_1013 : Cond.code ⟨"NotedVolume", "shown", "(II)I"⟩ prog_1_method_19_code 4 (some .int) ∈ xv_T := xv_in (List.mem_append_right _ (List.mem_of_getElem? (i := 1013) (by decide +kernel))) (by decide +kernel)
theorem iw_1020 : Cond.code ⟨"NotedVolume", "follow", "(II)I"⟩ prog_1_method_20_code 6 (some .int) ∈ xv_T := xv_in (List.mem_append_right _ (List.mem_of_getElem? (i := 1020) (by decide +kernel))) (by decide +kernel)
theorem iw_1022 : Cond.methodLink "NotedVolume" 212 ⟨"NotedVolume$Subscriber", "act", "(LNotedVolume$Ring;LNotedVolume$FileTable;)Z"⟩ ∈ xv_T := xv_in (List.mem_append_right _ (List.mem_of_getElem? (i := 1022) (by decide +kernel))) (by decide +kernel)
theorem iw_1023 : Cond.instanceMethod ⟨"NotedVolume$Subscriber", "act", "(LNotedVolume$Ring;LNotedVolume$FileTable;)Z"⟩ ∈ xv_T := xv_in (List.mem_append_right _ (List.mem_of_getElem? (i := 1023) (by decide +kernel))) (by decide +kernel)
theorem iw_1024 : Cond.selects "NotedVolume$Subscriber" ⟨"NotedVolume$Subscriber", "act", "(LNotedVolume$Ring;LNotedVolume$FileTable;)Z"⟩ ⟨"NotedVolume$Subscriber", "act", "(LNotedVolume$Ring;LNotedVolume$FileTable;)Z"⟩ ∈ xv_T := xv_in (List.mem_append_right _ (List.mem_of_getElem? (i := 1024) (by decide +kernel))) (by decide +kernel)
theorem iw_1025 : Cond.code ⟨"NotedVolume$Subscriber", "act", "(LNotedVolume$Ring;LNotedVolume$FileTable;)Z"⟩ prog_8_method_6_code 5 (some .boolean) ∈ xv_T := xv_in (List.mem_append_right _ (List.mem_of_getElem? (i := 1025) (by decide +kernel))) (by decide +kernel)
theorem iw_1026 : Cond.methodLink "NotedVolume$Subscriber" 66 ⟨"NotedVolume$Subscriber", "copyPage", "(LNotedVolume$FileTable;)V"⟩ ∈ xv_T := xv_in (List.mem_append_right _ (List.mem_of_getElem? (i := 1026) (by decide +kernel))) (by decide +kernel)
theorem iw_1028 : Cond.instanceMethod ⟨"NotedVolume$Subscriber", "copyPage", "(LNotedVolume$FileTable;)V"⟩ ∈ xv_T := xv_in (List.mem_append_right _ (List.mem_of_getElem? (i := 1028) (by decide +kernel))) (by decide +kernel)
theorem iw_1029 : Cond.code ⟨"NotedVolume$Subscriber", "copyPage", "(LNotedVolume$FileTable;)V"⟩ prog_8_method_7_code 4 none ∈ xv_T := xv_in (List.mem_append_right _ (List.mem_of_getElem? (i := 1029) (by decide +kernel))) (by decide +kernel)
theorem iw_1030 : Cond.methodLink "NotedVolume$Subscriber" 82 ⟨"NotedVolume$Subscriber", "showPage", "(LNotedVolume$FileTable;)I"⟩ ∈ xv_T := xv_in (List.mem_append_right _ (List.mem_of_getElem? (i := 1030) (by decide +kernel))) (by decide +kernel)
theorem iw_1031 : Cond.constant "NotedVolume$Subscriber" 86 (2147483647 : Int32) ∈ xv_T := xv_in (List.mem_append_right _ (List.mem_of_getElem? (i := 1031) (by decide +kernel))) (by decide +kernel)
theorem iw_1032 : Cond.methodLink "NotedVolume$Subscriber" 87 ⟨"NotedVolume$FileTable", "dropRange", "(II)V"⟩ ∈ xv_T := xv_in (List.mem_append_right _ (List.mem_of_getElem? (i := 1032) (by decide +kernel))) (by decide +kernel)
theorem iw_1033 : Cond.instanceMethod ⟨"NotedVolume$FileTable", "dropRange", "(II)V"⟩ ∈ xv_T := xv_in (List.mem_append_right _ (List.mem_of_getElem? (i := 1033) (by decide +kernel))) (by decide +kernel)
theorem iw_1034 : Cond.selects "NotedVolume$FileTable" ⟨"NotedVolume$FileTable", "dropRange", "(II)V"⟩ ⟨"NotedVolume$FileTable", "dropRange", "(II)V"⟩ ∈ xv_T := xv_in (List.mem_append_right _ (List.mem_of_getElem? (i := 1034) (by decide +kernel))) (by decide +kernel)
theorem iw_1036 : Cond.methodLink "NotedVolume$Subscriber" 91 ⟨"NotedVolume$Subscriber", "copyAsItIs", "(ILNotedVolume$FileTable;)V"⟩ ∈ xv_T := xv_in (List.mem_append_right _ (List.mem_of_getElem? (i := 1036) (by decide +kernel))) (by decide +kernel)
theorem iw_1038 : Cond.instanceMethod ⟨"NotedVolume$Subscriber", "copyAsItIs", "(ILNotedVolume$FileTable;)V"⟩ ∈ xv_T := xv_in (List.mem_append_right _ (List.mem_of_getElem? (i := 1038) (by decide +kernel))) (by decide +kernel)
theorem iw_1039 : Cond.code ⟨"NotedVolume$Subscriber", "copyAsItIs", "(ILNotedVolume$FileTable;)V"⟩ prog_8_method_9_code 4 none ∈ xv_T := xv_in (List.mem_append_right _ (List.mem_of_getElem? (i := 1039) (by decide +kernel))) (by decide +kernel)
theorem iw_1040 : Cond.methodLink "NotedVolume$Subscriber" 106 ⟨"NotedVolume$FileTable", "entryOf", "(I)LNotedVolume$Entry;"⟩ ∈ xv_T := xv_in (List.mem_append_right _ (List.mem_of_getElem? (i := 1040) (by decide +kernel))) (by decide +kernel)
theorem iw_1041 : Cond.methodLink "NotedVolume$Subscriber" 102 ⟨"NotedVolume$FileTable", "put", "(LNotedVolume$Entry;)V"⟩ ∈ xv_T := xv_in (List.mem_append_right _ (List.mem_of_getElem? (i := 1041) (by decide +kernel))) (by decide +kernel)
theorem iw_1042 : Cond.methodLink "NotedVolume$Subscriber" 70 ⟨"NotedVolume$Subscriber", "takeNote", "(LNotedVolume$Ring;I)I"⟩ ∈ xv_T := xv_in (List.mem_append_right _ (List.mem_of_getElem? (i := 1042) (by decide +kernel))) (by decide +kernel)
theorem iw_1043 : Cond.methodLink "NotedVolume$Subscriber" 74 ⟨"NotedVolume$Subscriber", "beginListing", "(LNotedVolume$Ring;)V"⟩ ∈ xv_T := xv_in (List.mem_append_right _ (List.mem_of_getElem? (i := 1043) (by decide +kernel))) (by decide +kernel)
theorem iw_1044 : Cond.methodLink "NotedVolume$Subscriber" 78 ⟨"NotedVolume$Subscriber", "copyNote", "(LNotedVolume$Note;LNotedVolume$FileTable;)V"⟩ ∈ xv_T := xv_in (List.mem_append_right _ (List.mem_of_getElem? (i := 1044) (by decide +kernel))) (by decide +kernel)
theorem iw_1046 : Cond.instanceMethod ⟨"NotedVolume$Subscriber", "copyNote", "(LNotedVolume$Note;LNotedVolume$FileTable;)V"⟩ ∈ xv_T := xv_in (List.mem_append_right _ (List.mem_of_getElem? (i := 1046) (by decide +kernel))) (by decide +kernel)
theorem iw_1047 : Cond.code ⟨"NotedVolume$Subscriber", "copyNote", "(LNotedVolume$Note;LNotedVolume$FileTable;)V"⟩ prog_8_method_8_code 4 none ∈ xv_T := xv_in (List.mem_append_right _ (List.mem_of_getElem? (i := 1047) (by decide +kernel))) (by decide +kernel)
theorem iw_1048 : Cond.methodLink "NotedVolume$Subscriber" 99 ⟨"NotedVolume$FileTable", "drop", "(I)V"⟩ ∈ xv_T := xv_in (List.mem_append_right _ (List.mem_of_getElem? (i := 1048) (by decide +kernel))) (by decide +kernel)
theorem iw_1055 : Cond.code ⟨"NotedVolume", "copied", "(III)I"⟩ prog_1_method_21_code 6 (some .int) ∈ xv_T := xv_in (List.mem_append_right _ (List.mem_of_getElem? (i := 1055) (by decide +kernel))) (by decide +kernel)
theorem iw_1063 : Cond.code ⟨"NotedVolume", "inStep", "(I)Z"⟩ prog_1_method_22_code 2 (some .boolean) ∈ xv_T := xv_in (List.mem_append_right _ (List.mem_of_getElem? (i := 1063) (by decide +kernel))) (by decide +kernel)
theorem iw_1064 : Cond.methodLink "NotedVolume" 224 ⟨"NotedVolume$FileTable", "isLike", "(LNotedVolume$FileTable;)Z"⟩ ∈ xv_T := xv_in (List.mem_append_right _ (List.mem_of_getElem? (i := 1064) (by decide +kernel))) (by decide +kernel)
theorem iw_1065 : Cond.instanceMethod ⟨"NotedVolume$FileTable", "isLike", "(LNotedVolume$FileTable;)Z"⟩ ∈ xv_T := xv_in (List.mem_append_right _ (List.mem_of_getElem? (i := 1065) (by decide +kernel))) (by decide +kernel)
theorem iw_1066 : Cond.selects "NotedVolume$FileTable" ⟨"NotedVolume$FileTable", "isLike", "(LNotedVolume$FileTable;)Z"⟩ ⟨"NotedVolume$FileTable", "isLike", "(LNotedVolume$FileTable;)Z"⟩ ∈ xv_T := xv_in (List.mem_append_right _ (List.mem_of_getElem? (i := 1066) (by decide +kernel))) (by decide +kernel)
theorem iw_1078 : Cond.code ⟨"NotedVolume", "cutAfter", "(I)V"⟩ prog_1_method_23_code 2 none ∈ xv_T := xv_in (List.mem_append_right _ (List.mem_of_getElem? (i := 1078) (by decide +kernel))) (by decide +kernel)
theorem ps_4 : Cond.selects "NotedVolume" ⟨"NotedVolume", "endGathering", "(LNotedVolume$Gathering;)V"⟩ ⟨"NotedVolume", "endGathering", "(LNotedVolume$Gathering;)V"⟩ ∈ xv_T := xv_in (List.mem_append_left _ (List.mem_of_getElem? (i := 4) (by decide +kernel))) (by decide +kernel)
theorem ps_5 : Cond.selects "NotedVolume" ⟨"NotedVolume", "checkPower", "()V"⟩ ⟨"NotedVolume", "checkPower", "()V"⟩ ∈ xv_T := xv_in (List.mem_append_left _ (List.mem_of_getElem? (i := 5) (by decide +kernel))) (by decide +kernel)
theorem ps_7 : Cond.selects "NotedVolume" ⟨"NotedVolume", "checkFolder", "(I)V"⟩ ⟨"NotedVolume", "checkFolder", "(I)V"⟩ ∈ xv_T := xv_in (List.mem_append_left _ (List.mem_of_getElem? (i := 7) (by decide +kernel))) (by decide +kernel)
theorem ps_8 : Cond.selects "NotedVolume" ⟨"NotedVolume", "liveEntry", "(I)LNotedVolume$Entry;"⟩ ⟨"NotedVolume", "liveEntry", "(I)LNotedVolume$Entry;"⟩ ∈ xv_T := xv_in (List.mem_append_left _ (List.mem_of_getElem? (i := 8) (by decide +kernel))) (by decide +kernel)
theorem ps_9 : Cond.selects "NotedVolume" ⟨"NotedVolume", "checkNameFree", "(III)V"⟩ ⟨"NotedVolume", "checkNameFree", "(III)V"⟩ ∈ xv_T := xv_in (List.mem_append_left _ (List.mem_of_getElem? (i := 9) (by decide +kernel))) (by decide +kernel)
theorem ps_10 : Cond.selects "NotedVolume" ⟨"NotedVolume", "noteAndDo", "(LNotedVolume$Entry;I)Z"⟩ ⟨"NotedVolume", "noteAndDo", "(LNotedVolume$Entry;I)Z"⟩ ∈ xv_T := xv_in (List.mem_append_left _ (List.mem_of_getElem? (i := 10) (by decide +kernel))) (by decide +kernel)
theorem ps_11 : Cond.selects "NotedVolume" ⟨"NotedVolume", "writeChangeNote", "(LNotedVolume$Entry;I)Z"⟩ ⟨"NotedVolume", "writeChangeNote", "(LNotedVolume$Entry;I)Z"⟩ ∈ xv_T := xv_in (List.mem_append_left _ (List.mem_of_getElem? (i := 11) (by decide +kernel))) (by decide +kernel)
theorem ps_12 : Cond.selects "NotedVolume" ⟨"NotedVolume", "writeClosingNote", "(LNotedVolume$Gathering;)Z"⟩ ⟨"NotedVolume", "writeClosingNote", "(LNotedVolume$Gathering;)Z"⟩ ∈ xv_T := xv_in (List.mem_append_left _ (List.mem_of_getElem? (i := 12) (by decide +kernel))) (by decide +kernel)
theorem ps_13 : Cond.selects "NotedVolume" ⟨"NotedVolume", "spendWrite", "()Z"⟩ ⟨"NotedVolume", "spendWrite", "()Z"⟩ ∈ xv_T := xv_in (List.mem_append_left _ (List.mem_of_getElem? (i := 13) (by decide +kernel))) (by decide +kernel)
theorem ps_16 : Cond.selects "NotedVolume" ⟨"NotedVolume", "isOrLiesIn", "(II)Z"⟩ ⟨"NotedVolume", "isOrLiesIn", "(II)Z"⟩ ∈ xv_T := xv_in (List.mem_append_left _ (List.mem_of_getElem? (i := 16) (by decide +kernel))) (by decide +kernel)
theorem ps_17 : Cond.selects "NotedVolume" ⟨"NotedVolume", "subscriberAt", "(I)LNotedVolume$Subscriber;"⟩ ⟨"NotedVolume", "subscriberAt", "(I)LNotedVolume$Subscriber;"⟩ ∈ xv_T := xv_in (List.mem_append_left _ (List.mem_of_getElem? (i := 17) (by decide +kernel))) (by decide +kernel)
theorem ps_18 : Cond.selects "NotedVolume$Subscriber" ⟨"NotedVolume$Subscriber", "copyPage", "(LNotedVolume$FileTable;)V"⟩ ⟨"NotedVolume$Subscriber", "copyPage", "(LNotedVolume$FileTable;)V"⟩ ∈ xv_T := xv_in (List.mem_append_left _ (List.mem_of_getElem? (i := 18) (by decide +kernel))) (by decide +kernel)
theorem ps_19 : Cond.selects "NotedVolume$Subscriber" ⟨"NotedVolume$Subscriber", "copyAsItIs", "(ILNotedVolume$FileTable;)V"⟩ ⟨"NotedVolume$Subscriber", "copyAsItIs", "(ILNotedVolume$FileTable;)V"⟩ ∈ xv_T := xv_in (List.mem_append_left _ (List.mem_of_getElem? (i := 19) (by decide +kernel))) (by decide +kernel)
theorem ps_20 : Cond.selects "NotedVolume$Subscriber" ⟨"NotedVolume$Subscriber", "copyNote", "(LNotedVolume$Note;LNotedVolume$FileTable;)V"⟩ ⟨"NotedVolume$Subscriber", "copyNote", "(LNotedVolume$Note;LNotedVolume$FileTable;)V"⟩ ∈ xv_T := xv_in (List.mem_append_left _ (List.mem_of_getElem? (i := 20) (by decide +kernel))) (by decide +kernel)
def mm_S_init : xa_M := (⟨"NotedVolume$Subscriber", "<init>", "()V"⟩, prog_8_method_1_code, 1, none, [])
theorem ok_S_init : xa_O mm_S_init := ⟨by decide, Or.inr ⟨rfl, iw_112⟩, iw_8, by decide, by decide⟩
def mm_S_act : xa_M := (⟨"NotedVolume$Subscriber", "act", "(LNotedVolume$Ring;LNotedVolume$FileTable;)Z"⟩, prog_8_method_6_code, 5, (some .boolean), [])
theorem ok_S_act : xa_O mm_S_act := ⟨by decide, Or.inr ⟨rfl, iw_1025⟩, iw_8, by decide, by decide⟩
def mm_S_beginAnew : xa_M := (⟨"NotedVolume$Subscriber", "beginAnew", "(ILNotedVolume$Ring;)V"⟩, prog_8_method_2_code, 4, none, [])
theorem ok_S_beginAnew : xa_O mm_S_beginAnew := ⟨by decide, Or.inr ⟨rfl, iw_957⟩, iw_8, by decide, by decide⟩
def mm_S_beginListing : xa_M := (⟨"NotedVolume$Subscriber", "beginListing", "(LNotedVolume$Ring;)V"⟩, prog_8_method_4_code, 2, none, [])
theorem ok_S_beginListing : xa_O mm_S_beginListing := ⟨by decide, Or.inr ⟨rfl, iw_990⟩, iw_8, by decide, by decide⟩
def mm_S_copyAsItIs : xa_M := (⟨"NotedVolume$Subscriber", "copyAsItIs", "(ILNotedVolume$FileTable;)V"⟩, prog_8_method_9_code, 4, none, [])
theorem ok_S_copyAsItIs : xa_O mm_S_copyAsItIs := ⟨by decide, Or.inr ⟨rfl, iw_1039⟩, iw_8, by decide, by decide⟩
def mm_S_copyNote : xa_M := (⟨"NotedVolume$Subscriber", "copyNote", "(LNotedVolume$Note;LNotedVolume$FileTable;)V"⟩, prog_8_method_8_code, 4, none, [])
theorem ok_S_copyNote : xa_O mm_S_copyNote := ⟨by decide, Or.inr ⟨rfl, iw_1047⟩, iw_8, by decide, by decide⟩
def mm_S_copyPage : xa_M := (⟨"NotedVolume$Subscriber", "copyPage", "(LNotedVolume$FileTable;)V"⟩, prog_8_method_7_code, 4, none, [])
theorem ok_S_copyPage : xa_O mm_S_copyPage := ⟨by decide, Or.inr ⟨rfl, iw_1029⟩, iw_8, by decide, by decide⟩
def mm_S_showPage : xa_M := (⟨"NotedVolume$Subscriber", "showPage", "(LNotedVolume$FileTable;)I"⟩, prog_8_method_5_code, 5, (some .int), [])
theorem ok_S_showPage : xa_O mm_S_showPage := ⟨by decide, Or.inr ⟨rfl, iw_1002⟩, iw_8, by decide, by decide⟩
def mm_S_takeNote : xa_M := (⟨"NotedVolume$Subscriber", "takeNote", "(LNotedVolume$Ring;I)I"⟩, prog_8_method_3_code, 5, (some .int), [])
theorem ok_S_takeNote : xa_O mm_S_takeNote := ⟨by decide, Or.inr ⟨rfl, iw_976⟩, iw_8, by decide, by decide⟩
def mm_V_init : xa_M := (⟨"NotedVolume", "<init>", "()V"⟩, prog_1_method_1_code, 2, none, [])
theorem ok_V_init : xa_O mm_V_init := ⟨by decide, Or.inr ⟨rfl, iw_37⟩, iw_1, by decide, by decide⟩
def mm_V_change : xa_M := (⟨"NotedVolume", "change", "(I)I"⟩, prog_1_method_3_code, 4, (some .int), [])
theorem ok_V_change : xa_O mm_V_change := ⟨by decide, Or.inr ⟨rfl, iw_869⟩, iw_1, by decide, by decide⟩
def mm_V_checkFolder : xa_M := (⟨"NotedVolume", "checkFolder", "(I)V"⟩, prog_1_method_29_code, 2, none, [])
theorem ok_V_checkFolder : xa_O mm_V_checkFolder := ⟨by decide, Or.inr ⟨rfl, iw_529⟩, iw_1, by decide, by decide⟩
def mm_V_checkItem : xa_M := (⟨"NotedVolume", "checkItem", "(II)V"⟩, prog_1_method_28_code, 2, none, [])
theorem ok_V_checkItem : xa_O mm_V_checkItem := ⟨by decide, Or.inr ⟨rfl, iw_919⟩, iw_1, by decide, by decide⟩
def mm_V_checkName : xa_M := (⟨"NotedVolume", "checkName", "(I)V"⟩, prog_1_method_27_code, 1, none, [])
theorem ok_V_checkName : xa_O mm_V_checkName := ⟨by decide, Or.inr ⟨rfl, iw_509⟩, iw_1, by decide, by decide⟩
def mm_V_checkNameFree : xa_M := (⟨"NotedVolume", "checkNameFree", "(III)V"⟩, prog_1_method_30_code, 5, none, [])
theorem ok_V_checkNameFree : xa_O mm_V_checkNameFree := ⟨by decide, Or.inr ⟨rfl, iw_569⟩, iw_1, by decide, by decide⟩
def mm_V_checkPower : xa_M := (⟨"NotedVolume", "checkPower", "()V"⟩, prog_1_method_26_code, 1, none, [])
theorem ok_V_checkPower : xa_O mm_V_checkPower := ⟨by decide, Or.inr ⟨rfl, iw_435⟩, iw_1, by decide, by decide⟩
def mm_V_close : xa_M := (⟨"NotedVolume", "close", "(I)Z"⟩, prog_1_method_6_code, 3, (some .boolean), [])
theorem ok_V_close : xa_O mm_V_close := ⟨by decide, Or.inr ⟨rfl, iw_906⟩, iw_1, by decide, by decide⟩
def mm_V_copied : xa_M := (⟨"NotedVolume", "copied", "(III)I"⟩, prog_1_method_21_code, 6, (some .int), [])
theorem ok_V_copied : xa_O mm_V_copied := ⟨by decide, Or.inr ⟨rfl, iw_1055⟩, iw_1, by decide, by decide⟩
def mm_V_cursor : xa_M := (⟨"NotedVolume", "cursor", "(I)I"⟩, prog_1_method_15_code, 2, (some .int), [])
theorem ok_V_cursor : xa_O mm_V_cursor := ⟨by decide, Or.inr ⟨rfl, iw_965⟩, iw_1, by decide, by decide⟩
def mm_V_cutAfter : xa_M := (⟨"NotedVolume", "cutAfter", "(I)V"⟩, prog_1_method_23_code, 2, none, [])
theorem ok_V_cutAfter : xa_O mm_V_cutAfter := ⟨by decide, Or.inr ⟨rfl, iw_1078⟩, iw_1, by decide, by decide⟩
def mm_V_endGathering : xa_M := (⟨"NotedVolume", "endGathering", "(LNotedVolume$Gathering;)V"⟩, prog_1_method_38_code, 4, none, [])
theorem ok_V_endGathering : xa_O mm_V_endGathering := ⟨by decide, Or.inr ⟨rfl, iw_359⟩, iw_1, by decide, by decide⟩
def mm_V_find : xa_M := (⟨"NotedVolume", "find", "(II)I"⟩, prog_1_method_9_code, 4, (some .int), [])
theorem ok_V_find : xa_O mm_V_find := ⟨by decide, Or.inr ⟨rfl, iw_178⟩, iw_1, by decide, by decide⟩
def mm_V_follow : xa_M := (⟨"NotedVolume", "follow", "(II)I"⟩, prog_1_method_20_code, 6, (some .int), [])
theorem ok_V_follow : xa_O mm_V_follow := ⟨by decide, Or.inr ⟨rfl, iw_1020⟩, iw_1, by decide, by decide⟩
def mm_V_head : xa_M := (⟨"NotedVolume", "head", "()I"⟩, prog_1_method_12_code, 1, (some .int), [])
theorem ok_V_head : xa_O mm_V_head := ⟨by decide, Or.inr ⟨rfl, iw_218⟩, iw_1, by decide, by decide⟩
def mm_V_inStep : xa_M := (⟨"NotedVolume", "inStep", "(I)Z"⟩, prog_1_method_22_code, 2, (some .boolean), [])
theorem ok_V_inStep : xa_O mm_V_inStep := ⟨by decide, Or.inr ⟨rfl, iw_1063⟩, iw_1, by decide, by decide⟩
def mm_V_isOn : xa_M := (⟨"NotedVolume", "isOn", "()Z"⟩, prog_1_method_25_code, 1, (some .boolean), [])
theorem ok_V_isOn : xa_O mm_V_isOn := ⟨by decide, Or.inr ⟨rfl, iw_420⟩, iw_1, by decide, by decide⟩
def mm_V_isOrLiesIn : xa_M := (⟨"NotedVolume", "isOrLiesIn", "(II)Z"⟩, prog_1_method_33_code, 6, (some .boolean), [])
theorem ok_V_isOrLiesIn : xa_O mm_V_isOrLiesIn := ⟨by decide, Or.inr ⟨rfl, iw_881⟩, iw_1, by decide, by decide⟩
def mm_V_list : xa_M := (⟨"NotedVolume", "list", "(I)V"⟩, prog_1_method_17_code, 2, none, [])
theorem ok_V_list : xa_O mm_V_list := ⟨by decide, Or.inr ⟨rfl, iw_986⟩, iw_1, by decide, by decide⟩
def mm_V_live : xa_M := (⟨"NotedVolume", "live", "()I"⟩, prog_1_method_10_code, 1, (some .int), [])
theorem ok_V_live : xa_O mm_V_live := ⟨by decide, Or.inr ⟨rfl, iw_202⟩, iw_1, by decide, by decide⟩
def mm_V_liveEntry : xa_M := (⟨"NotedVolume", "liveEntry", "(I)LNotedVolume$Entry;"⟩, prog_1_method_31_code, 3, (some (.object "NotedVolume$Entry")), [])
theorem ok_V_liveEntry : xa_O mm_V_liveEntry := ⟨by decide, Or.inr ⟨rfl, iw_533⟩, iw_1, by decide, by decide⟩
def mm_V_make : xa_M := (⟨"NotedVolume", "make", "(IZI)I"⟩, prog_1_method_2_code, 5, (some .int), [])
theorem ok_V_make : xa_O mm_V_make := ⟨by decide, Or.inr ⟨rfl, iw_431⟩, iw_1, by decide, by decide⟩
def mm_V_note : xa_M := (⟨"NotedVolume", "note", "(II)I"⟩, prog_1_method_13_code, 4, (some .int), [])
theorem ok_V_note : xa_O mm_V_note := ⟨by decide, Or.inr ⟨rfl, iw_933⟩, iw_1, by decide, by decide⟩
def mm_V_noteAndDo : xa_M := (⟨"NotedVolume", "noteAndDo", "(LNotedVolume$Entry;I)Z"⟩, prog_1_method_35_code, 3, (some .boolean), [])
theorem ok_V_noteAndDo : xa_O mm_V_noteAndDo := ⟨by decide, Or.inr ⟨rfl, iw_574⟩, iw_1, by decide, by decide⟩
def mm_V_of : xa_M := (⟨"NotedVolume", "of", "(II)I"⟩, prog_1_method_8_code, 4, (some .int), [])
theorem ok_V_of : xa_O mm_V_of := ⟨by decide, Or.inr ⟨rfl, iw_916⟩, iw_1, by decide, by decide⟩
def mm_V_open : xa_M := (⟨"NotedVolume", "open", "()I"⟩, prog_1_method_7_code, 1, (some .int), [])
theorem ok_V_open : xa_O mm_V_open := ⟨by decide, Or.inr ⟨rfl, iw_166⟩, iw_1, by decide, by decide⟩
def mm_V_page : xa_M := (⟨"NotedVolume", "page", "(I)I"⟩, prog_1_method_18_code, 3, (some .int), [])
theorem ok_V_page : xa_O mm_V_page := ⟨by decide, Or.inr ⟨rfl, iw_997⟩, iw_1, by decide, by decide⟩
def mm_V_read : xa_M := (⟨"NotedVolume", "read", "(I)I"⟩, prog_1_method_16_code, 3, (some .int), [])
theorem ok_V_read : xa_O mm_V_read := ⟨by decide, Or.inr ⟨rfl, iw_972⟩, iw_1, by decide, by decide⟩
def mm_V_remove : xa_M := (⟨"NotedVolume", "remove", "(I)Z"⟩, prog_1_method_5_code, 3, (some .boolean), [])
theorem ok_V_remove : xa_O mm_V_remove := ⟨by decide, Or.inr ⟨rfl, iw_889⟩, iw_1, by decide, by decide⟩
def mm_V_rename : xa_M := (⟨"NotedVolume", "rename", "(III)Z"⟩, prog_1_method_4_code, 7, (some .boolean), [])
theorem ok_V_rename : xa_O mm_V_rename := ⟨by decide, Or.inr ⟨rfl, iw_877⟩, iw_1, by decide, by decide⟩
def mm_V_shown : xa_M := (⟨"NotedVolume", "shown", "(II)I"⟩, prog_1_method_19_code, 4, (some .int), [])
theorem ok_V_shown : xa_O mm_V_shown := ⟨by decide, Or.inr ⟨rfl, iw_1013⟩, iw_1, by decide, by decide⟩
def mm_V_spendWrite : xa_M := (⟨"NotedVolume", "spendWrite", "()Z"⟩, prog_1_method_34_code, 1, (some .boolean), [])
theorem ok_V_spendWrite : xa_O mm_V_spendWrite := ⟨by decide, Or.inr ⟨rfl, iw_591⟩, iw_1, by decide, by decide⟩
def mm_V_start : xa_M := (⟨"NotedVolume", "start", "()I"⟩, prog_1_method_24_code, 4, (some .int), [])
theorem ok_V_start : xa_O mm_V_start := ⟨by decide, Or.inr ⟨rfl, iw_226⟩, iw_1, by decide, by decide⟩
def mm_V_subscribe : xa_M := (⟨"NotedVolume", "subscribe", "(II)V"⟩, prog_1_method_14_code, 4, none, [])
theorem ok_V_subscribe : xa_O mm_V_subscribe := ⟨by decide, Or.inr ⟨rfl, iw_947⟩, iw_1, by decide, by decide⟩
def mm_V_subscriberAt : xa_M := (⟨"NotedVolume", "subscriberAt", "(I)LNotedVolume$Subscriber;"⟩, prog_1_method_32_code, 2, (some (.object "NotedVolume$Subscriber")), [])
theorem ok_V_subscriberAt : xa_O mm_V_subscriberAt := ⟨by decide, Or.inr ⟨rfl, iw_951⟩, iw_1, by decide, by decide⟩
def mm_V_tail : xa_M := (⟨"NotedVolume", "tail", "()I"⟩, prog_1_method_11_code, 1, (some .int), [])
theorem ok_V_tail : xa_O mm_V_tail := ⟨by decide, Or.inr ⟨rfl, iw_210⟩, iw_1, by decide, by decide⟩
def mm_V_writeChangeNote : xa_M := (⟨"NotedVolume", "writeChangeNote", "(LNotedVolume$Entry;I)Z"⟩, prog_1_method_36_code, 4, (some .boolean), [])
theorem ok_V_writeChangeNote : xa_O mm_V_writeChangeNote := ⟨by decide, Or.inr ⟨rfl, iw_578⟩, iw_1, by decide, by decide⟩
def mm_V_writeClosingNote : xa_M := (⟨"NotedVolume", "writeClosingNote", "(LNotedVolume$Gathering;)Z"⟩, prog_1_method_37_code, 2, (some .boolean), [])
theorem ok_V_writeClosingNote : xa_O mm_V_writeClosingNote := ⟨by decide, Or.inr ⟨rfl, iw_587⟩, iw_1, by decide, by decide⟩
theorem dd_S_init_0 : decode mm_S_init.2.1 0 = .ok (.aload_n 0, 1) := by decide +kernel
theorem dd_S_init_1 : decode mm_S_init.2.1 1 = .ok (.invokespecial 3, 3) := by decide +kernel
theorem dd_S_init_4 : decode mm_S_init.2.1 4 = .ok (.aload_n 0, 1) := by decide +kernel
theorem dd_S_init_5 : decode mm_S_init.2.1 5 = .ok (.new 9, 3) := by decide +kernel
theorem dd_S_init_8 : decode mm_S_init.2.1 8 = .ok (.dup, 1) := by decide +kernel
theorem dd_S_init_9 : decode mm_S_init.2.1 9 = .ok (.sipush 512, 3) := by decide +kernel
theorem dd_S_init_12 : decode mm_S_init.2.1 12 = .ok (.invokespecial 11, 3) := by decide +kernel
theorem dd_S_init_15 : decode mm_S_init.2.1 15 = .ok (.putfield 14, 3) := by decide +kernel
theorem dd_S_init_18 : decode mm_S_init.2.1 18 = .ok (.aload_n 0, 1) := by decide +kernel
theorem dd_S_init_19 : decode mm_S_init.2.1 19 = .ok (.iconst 4, 1) := by decide +kernel
theorem dd_S_init_20 : decode mm_S_init.2.1 20 = .ok (.newarray .int, 2) := by decide +kernel
theorem dd_S_init_22 : decode mm_S_init.2.1 22 = .ok (.dup, 1) := by decide +kernel
theorem dd_S_init_23 : decode mm_S_init.2.1 23 = .ok (.iconst 0, 1) := by decide +kernel
theorem dd_S_init_24 : decode mm_S_init.2.1 24 = .ok (.iconst (-1), 1) := by decide +kernel
theorem dd_S_init_25 : decode mm_S_init.2.1 25 = .ok (.iastore, 1) := by decide +kernel
theorem dd_S_init_26 : decode mm_S_init.2.1 26 = .ok (.dup, 1) := by decide +kernel
theorem dd_S_init_27 : decode mm_S_init.2.1 27 = .ok (.iconst 1, 1) := by decide +kernel
theorem dd_S_init_28 : decode mm_S_init.2.1 28 = .ok (.iconst (-1), 1) := by decide +kernel
theorem dd_S_init_29 : decode mm_S_init.2.1 29 = .ok (.iastore, 1) := by decide +kernel
theorem dd_S_init_30 : decode mm_S_init.2.1 30 = .ok (.dup, 1) := by decide +kernel
theorem dd_S_init_31 : decode mm_S_init.2.1 31 = .ok (.iconst 2, 1) := by decide +kernel
theorem dd_S_init_32 : decode mm_S_init.2.1 32 = .ok (.iconst (-1), 1) := by decide +kernel
theorem dd_S_init_33 : decode mm_S_init.2.1 33 = .ok (.iastore, 1) := by decide +kernel
theorem dd_S_init_34 : decode mm_S_init.2.1 34 = .ok (.dup, 1) := by decide +kernel
theorem dd_S_init_35 : decode mm_S_init.2.1 35 = .ok (.iconst 3, 1) := by decide +kernel
theorem dd_S_init_36 : decode mm_S_init.2.1 36 = .ok (.iconst (-1), 1) := by decide +kernel
theorem dd_S_init_37 : decode mm_S_init.2.1 37 = .ok (.iastore, 1) := by decide +kernel
theorem dd_S_init_38 : decode mm_S_init.2.1 38 = .ok (.putfield 20, 3) := by decide +kernel
theorem dd_S_init_41 : decode mm_S_init.2.1 41 = .ok (.aload_n 0, 1) := by decide +kernel
theorem dd_S_init_42 : decode mm_S_init.2.1 42 = .ok (.iconst 1, 1) := by decide +kernel
theorem dd_S_init_43 : decode mm_S_init.2.1 43 = .ok (.putfield 24, 3) := by decide +kernel
theorem dd_S_init_46 : decode mm_S_init.2.1 46 = .ok (.aload_n 0, 1) := by decide +kernel
theorem dd_S_init_47 : decode mm_S_init.2.1 47 = .ok (.bipush 127, 2) := by decide +kernel
theorem dd_S_init_49 : decode mm_S_init.2.1 49 = .ok (.putfield 28, 3) := by decide +kernel
theorem dd_S_init_52 : decode mm_S_init.2.1 52 = .ok (.return_, 1) := by decide +kernel
theorem dd_S_act_0 : decode mm_S_act.2.1 0 = .ok (.aload_n 0, 1) := by decide +kernel
theorem dd_S_act_1 : decode mm_S_act.2.1 1 = .ok (.getfield 37, 3) := by decide +kernel
theorem dd_S_act_4 : decode mm_S_act.2.1 4 = .ok (.ifCond .eq 10, 3) := by decide +kernel
theorem dd_S_act_7 : decode mm_S_act.2.1 7 = .ok (.aload_n 0, 1) := by decide +kernel
theorem dd_S_act_8 : decode mm_S_act.2.1 8 = .ok (.aload_n 2, 1) := by decide +kernel
theorem dd_S_act_9 : decode mm_S_act.2.1 9 = .ok (.invokevirtual 66, 3) := by decide +kernel
theorem dd_S_act_12 : decode mm_S_act.2.1 12 = .ok (.iconst 1, 1) := by decide +kernel
theorem dd_S_act_13 : decode mm_S_act.2.1 13 = .ok (.ireturn, 1) := by decide +kernel
theorem dd_S_act_14 : decode mm_S_act.2.1 14 = .ok (.aload_n 0, 1) := by decide +kernel
theorem dd_S_act_15 : decode mm_S_act.2.1 15 = .ok (.aload_n 1, 1) := by decide +kernel
theorem dd_S_act_16 : decode mm_S_act.2.1 16 = .ok (.bipush 127, 2) := by decide +kernel
theorem dd_S_act_18 : decode mm_S_act.2.1 18 = .ok (.invokevirtual 70, 3) := by decide +kernel
theorem dd_S_act_21 : decode mm_S_act.2.1 21 = .ok (.istore_n 3, 1) := by decide +kernel
theorem dd_S_act_22 : decode mm_S_act.2.1 22 = .ok (.iload_n 3, 1) := by decide +kernel
theorem dd_S_act_23 : decode mm_S_act.2.1 23 = .ok (.iconst (-1), 1) := by decide +kernel
theorem dd_S_act_24 : decode mm_S_act.2.1 24 = .ok (.if_icmp .ne 10, 3) := by decide +kernel
theorem dd_S_act_27 : decode mm_S_act.2.1 27 = .ok (.aload_n 0, 1) := by decide +kernel
theorem dd_S_act_28 : decode mm_S_act.2.1 28 = .ok (.aload_n 1, 1) := by decide +kernel
theorem dd_S_act_29 : decode mm_S_act.2.1 29 = .ok (.invokevirtual 74, 3) := by decide +kernel
theorem dd_S_act_32 : decode mm_S_act.2.1 32 = .ok (.iconst 1, 1) := by decide +kernel
theorem dd_S_act_33 : decode mm_S_act.2.1 33 = .ok (.ireturn, 1) := by decide +kernel
theorem dd_S_act_34 : decode mm_S_act.2.1 34 = .ok (.aload_n 1, 1) := by decide +kernel
theorem dd_S_act_35 : decode mm_S_act.2.1 35 = .ok (.iload_n 3, 1) := by decide +kernel
theorem dd_S_act_36 : decode mm_S_act.2.1 36 = .ok (.invokevirtual 44, 3) := by decide +kernel
theorem dd_S_act_39 : decode mm_S_act.2.1 39 = .ok (.astore 4, 2) := by decide +kernel
theorem dd_S_act_41 : decode mm_S_act.2.1 41 = .ok (.aload 4, 2) := by decide +kernel
theorem dd_S_act_43 : decode mm_S_act.2.1 43 = .ok (.ifnonnull 5, 3) := by decide +kernel
theorem dd_S_act_46 : decode mm_S_act.2.1 46 = .ok (.iconst 0, 1) := by decide +kernel
theorem dd_S_act_47 : decode mm_S_act.2.1 47 = .ok (.ireturn, 1) := by decide +kernel
theorem dd_S_act_48 : decode mm_S_act.2.1 48 = .ok (.aload_n 0, 1) := by decide +kernel
theorem dd_S_act_49 : decode mm_S_act.2.1 49 = .ok (.aload 4, 2) := by decide +kernel
theorem dd_S_act_51 : decode mm_S_act.2.1 51 = .ok (.aload_n 2, 1) := by decide +kernel
theorem dd_S_act_52 : decode mm_S_act.2.1 52 = .ok (.invokevirtual 78, 3) := by decide +kernel
theorem dd_S_act_55 : decode mm_S_act.2.1 55 = .ok (.iconst 1, 1) := by decide +kernel
theorem dd_S_act_56 : decode mm_S_act.2.1 56 = .ok (.ireturn, 1) := by decide +kernel
theorem dd_S_beginAnew_0 : decode mm_S_beginAnew.2.1 0 = .ok (.aload_n 0, 1) := by decide +kernel
theorem dd_S_beginAnew_1 : decode mm_S_beginAnew.2.1 1 = .ok (.iload_n 1, 1) := by decide +kernel
theorem dd_S_beginAnew_2 : decode mm_S_beginAnew.2.1 2 = .ok (.putfield 28, 3) := by decide +kernel
theorem dd_S_beginAnew_5 : decode mm_S_beginAnew.2.1 5 = .ok (.aload_n 0, 1) := by decide +kernel
theorem dd_S_beginAnew_6 : decode mm_S_beginAnew.2.1 6 = .ok (.aload_n 2, 1) := by decide +kernel
theorem dd_S_beginAnew_7 : decode mm_S_beginAnew.2.1 7 = .ok (.invokevirtual 31, 3) := by decide +kernel
theorem dd_S_beginAnew_10 : decode mm_S_beginAnew.2.1 10 = .ok (.putfield 24, 3) := by decide +kernel
theorem dd_S_beginAnew_13 : decode mm_S_beginAnew.2.1 13 = .ok (.aload_n 0, 1) := by decide +kernel
theorem dd_S_beginAnew_14 : decode mm_S_beginAnew.2.1 14 = .ok (.iconst 0, 1) := by decide +kernel
theorem dd_S_beginAnew_15 : decode mm_S_beginAnew.2.1 15 = .ok (.putfield 37, 3) := by decide +kernel
theorem dd_S_beginAnew_18 : decode mm_S_beginAnew.2.1 18 = .ok (.iconst 0, 1) := by decide +kernel
theorem dd_S_beginAnew_19 : decode mm_S_beginAnew.2.1 19 = .ok (.istore_n 3, 1) := by decide +kernel
theorem dd_S_beginAnew_20 : decode mm_S_beginAnew.2.1 20 = .ok (.iload_n 3, 1) := by decide +kernel
theorem dd_S_beginAnew_21 : decode mm_S_beginAnew.2.1 21 = .ok (.iconst 4, 1) := by decide +kernel
theorem dd_S_beginAnew_22 : decode mm_S_beginAnew.2.1 22 = .ok (.if_icmp .ge 16, 3) := by decide +kernel
theorem dd_S_beginAnew_25 : decode mm_S_beginAnew.2.1 25 = .ok (.aload_n 0, 1) := by decide +kernel
theorem dd_S_beginAnew_26 : decode mm_S_beginAnew.2.1 26 = .ok (.getfield 20, 3) := by decide +kernel
theorem dd_S_beginAnew_29 : decode mm_S_beginAnew.2.1 29 = .ok (.iload_n 3, 1) := by decide +kernel
theorem dd_S_beginAnew_30 : decode mm_S_beginAnew.2.1 30 = .ok (.iconst (-1), 1) := by decide +kernel
theorem dd_S_beginAnew_31 : decode mm_S_beginAnew.2.1 31 = .ok (.iastore, 1) := by decide +kernel
theorem dd_S_beginAnew_32 : decode mm_S_beginAnew.2.1 32 = .ok (.iinc 3 1, 3) := by decide +kernel
theorem dd_S_beginAnew_35 : decode mm_S_beginAnew.2.1 35 = .ok (.goto (-15), 3) := by decide +kernel
theorem dd_S_beginAnew_38 : decode mm_S_beginAnew.2.1 38 = .ok (.return_, 1) := by decide +kernel
theorem dd_S_beginListing_0 : decode mm_S_beginListing.2.1 0 = .ok (.aload_n 0, 1) := by decide +kernel
theorem dd_S_beginListing_1 : decode mm_S_beginListing.2.1 1 = .ok (.iconst 1, 1) := by decide +kernel
theorem dd_S_beginListing_2 : decode mm_S_beginListing.2.1 2 = .ok (.putfield 37, 3) := by decide +kernel
theorem dd_S_beginListing_5 : decode mm_S_beginListing.2.1 5 = .ok (.aload_n 0, 1) := by decide +kernel
theorem dd_S_beginListing_6 : decode mm_S_beginListing.2.1 6 = .ok (.iconst 0, 1) := by decide +kernel
theorem dd_S_beginListing_7 : decode mm_S_beginListing.2.1 7 = .ok (.putfield 54, 3) := by decide +kernel
theorem dd_S_beginListing_10 : decode mm_S_beginListing.2.1 10 = .ok (.aload_n 0, 1) := by decide +kernel
theorem dd_S_beginListing_11 : decode mm_S_beginListing.2.1 11 = .ok (.aload_n 1, 1) := by decide +kernel
theorem dd_S_beginListing_12 : decode mm_S_beginListing.2.1 12 = .ok (.invokevirtual 31, 3) := by decide +kernel
theorem dd_S_beginListing_15 : decode mm_S_beginListing.2.1 15 = .ok (.putfield 24, 3) := by decide +kernel
theorem dd_S_beginListing_18 : decode mm_S_beginListing.2.1 18 = .ok (.return_, 1) := by decide +kernel
theorem dd_S_copyAsItIs_0 : decode mm_S_copyAsItIs.2.1 0 = .ok (.aload_n 2, 1) := by decide +kernel
theorem dd_S_copyAsItIs_1 : decode mm_S_copyAsItIs.2.1 1 = .ok (.iload_n 1, 1) := by decide +kernel
theorem dd_S_copyAsItIs_2 : decode mm_S_copyAsItIs.2.1 2 = .ok (.invokevirtual 106, 3) := by decide +kernel
theorem dd_S_copyAsItIs_5 : decode mm_S_copyAsItIs.2.1 5 = .ok (.astore_n 3, 1) := by decide +kernel
theorem dd_S_copyAsItIs_6 : decode mm_S_copyAsItIs.2.1 6 = .ok (.aload_n 3, 1) := by decide +kernel
theorem dd_S_copyAsItIs_7 : decode mm_S_copyAsItIs.2.1 7 = .ok (.ifnull 11, 3) := by decide +kernel
theorem dd_S_copyAsItIs_10 : decode mm_S_copyAsItIs.2.1 10 = .ok (.aload_n 0, 1) := by decide +kernel
theorem dd_S_copyAsItIs_11 : decode mm_S_copyAsItIs.2.1 11 = .ok (.getfield 14, 3) := by decide +kernel
theorem dd_S_copyAsItIs_14 : decode mm_S_copyAsItIs.2.1 14 = .ok (.aload_n 3, 1) := by decide +kernel
theorem dd_S_copyAsItIs_15 : decode mm_S_copyAsItIs.2.1 15 = .ok (.invokevirtual 102, 3) := by decide +kernel
theorem dd_S_copyAsItIs_18 : decode mm_S_copyAsItIs.2.1 18 = .ok (.return_, 1) := by decide +kernel
theorem dd_S_copyNote_0 : decode mm_S_copyNote.2.1 0 = .ok (.aload_n 1, 1) := by decide +kernel
theorem dd_S_copyNote_1 : decode mm_S_copyNote.2.1 1 = .ok (.getfield 95, 3) := by decide +kernel
theorem dd_S_copyNote_4 : decode mm_S_copyNote.2.1 4 = .ok (.getfield 61, 3) := by decide +kernel
theorem dd_S_copyNote_7 : decode mm_S_copyNote.2.1 7 = .ok (.istore_n 3, 1) := by decide +kernel
theorem dd_S_copyNote_8 : decode mm_S_copyNote.2.1 8 = .ok (.aload_n 1, 1) := by decide +kernel
theorem dd_S_copyNote_9 : decode mm_S_copyNote.2.1 9 = .ok (.bipush 64, 2) := by decide +kernel
theorem dd_S_copyNote_11 : decode mm_S_copyNote.2.1 11 = .ok (.invokevirtual 48, 3) := by decide +kernel
theorem dd_S_copyNote_14 : decode mm_S_copyNote.2.1 14 = .ok (.ifCond .eq 20, 3) := by decide +kernel
theorem dd_S_copyNote_17 : decode mm_S_copyNote.2.1 17 = .ok (.aload_n 0, 1) := by decide +kernel
theorem dd_S_copyNote_18 : decode mm_S_copyNote.2.1 18 = .ok (.getfield 14, 3) := by decide +kernel
theorem dd_S_copyNote_21 : decode mm_S_copyNote.2.1 21 = .ok (.iload_n 3, 1) := by decide +kernel
theorem dd_S_copyNote_22 : decode mm_S_copyNote.2.1 22 = .ok (.invokevirtual 99, 3) := by decide +kernel
theorem dd_S_copyNote_25 : decode mm_S_copyNote.2.1 25 = .ok (.aload_n 0, 1) := by decide +kernel
theorem dd_S_copyNote_26 : decode mm_S_copyNote.2.1 26 = .ok (.iload_n 3, 1) := by decide +kernel
theorem dd_S_copyNote_27 : decode mm_S_copyNote.2.1 27 = .ok (.aload_n 2, 1) := by decide +kernel
theorem dd_S_copyNote_28 : decode mm_S_copyNote.2.1 28 = .ok (.invokevirtual 91, 3) := by decide +kernel
theorem dd_S_copyNote_31 : decode mm_S_copyNote.2.1 31 = .ok (.goto 34, 3) := by decide +kernel
theorem dd_S_copyNote_34 : decode mm_S_copyNote.2.1 34 = .ok (.aload_n 1, 1) := by decide +kernel
theorem dd_S_copyNote_35 : decode mm_S_copyNote.2.1 35 = .ok (.bipush 32, 2) := by decide +kernel
theorem dd_S_copyNote_37 : decode mm_S_copyNote.2.1 37 = .ok (.invokevirtual 48, 3) := by decide +kernel
theorem dd_S_copyNote_40 : decode mm_S_copyNote.2.1 40 = .ok (.ifCond .eq 14, 3) := by decide +kernel
theorem dd_S_copyNote_43 : decode mm_S_copyNote.2.1 43 = .ok (.aload_n 0, 1) := by decide +kernel
theorem dd_S_copyNote_44 : decode mm_S_copyNote.2.1 44 = .ok (.getfield 14, 3) := by decide +kernel
theorem dd_S_copyNote_47 : decode mm_S_copyNote.2.1 47 = .ok (.iload_n 3, 1) := by decide +kernel
theorem dd_S_copyNote_48 : decode mm_S_copyNote.2.1 48 = .ok (.invokevirtual 99, 3) := by decide +kernel
theorem dd_S_copyNote_51 : decode mm_S_copyNote.2.1 51 = .ok (.goto 14, 3) := by decide +kernel
theorem dd_S_copyNote_54 : decode mm_S_copyNote.2.1 54 = .ok (.aload_n 0, 1) := by decide +kernel
theorem dd_S_copyNote_55 : decode mm_S_copyNote.2.1 55 = .ok (.getfield 14, 3) := by decide +kernel
theorem dd_S_copyNote_58 : decode mm_S_copyNote.2.1 58 = .ok (.aload_n 1, 1) := by decide +kernel
theorem dd_S_copyNote_59 : decode mm_S_copyNote.2.1 59 = .ok (.getfield 95, 3) := by decide +kernel
theorem dd_S_copyNote_62 : decode mm_S_copyNote.2.1 62 = .ok (.invokevirtual 102, 3) := by decide +kernel
theorem dd_S_copyNote_65 : decode mm_S_copyNote.2.1 65 = .ok (.return_, 1) := by decide +kernel
theorem dd_S_copyPage_0 : decode mm_S_copyPage.2.1 0 = .ok (.aload_n 0, 1) := by decide +kernel
theorem dd_S_copyPage_1 : decode mm_S_copyPage.2.1 1 = .ok (.getfield 54, 3) := by decide +kernel
theorem dd_S_copyPage_4 : decode mm_S_copyPage.2.1 4 = .ok (.istore_n 2, 1) := by decide +kernel
theorem dd_S_copyPage_5 : decode mm_S_copyPage.2.1 5 = .ok (.aload_n 0, 1) := by decide +kernel
theorem dd_S_copyPage_6 : decode mm_S_copyPage.2.1 6 = .ok (.aload_n 1, 1) := by decide +kernel
theorem dd_S_copyPage_7 : decode mm_S_copyPage.2.1 7 = .ok (.invokevirtual 82, 3) := by decide +kernel
theorem dd_S_copyPage_10 : decode mm_S_copyPage.2.1 10 = .ok (.pop, 1) := by decide +kernel
theorem dd_S_copyPage_11 : decode mm_S_copyPage.2.1 11 = .ok (.aload_n 0, 1) := by decide +kernel
theorem dd_S_copyPage_12 : decode mm_S_copyPage.2.1 12 = .ok (.getfield 14, 3) := by decide +kernel
theorem dd_S_copyPage_15 : decode mm_S_copyPage.2.1 15 = .ok (.iload_n 2, 1) := by decide +kernel
theorem dd_S_copyPage_16 : decode mm_S_copyPage.2.1 16 = .ok (.aload_n 0, 1) := by decide +kernel
theorem dd_S_copyPage_17 : decode mm_S_copyPage.2.1 17 = .ok (.getfield 37, 3) := by decide +kernel
theorem dd_S_copyPage_20 : decode mm_S_copyPage.2.1 20 = .ok (.ifCond .eq 10, 3) := by decide +kernel
theorem dd_S_copyPage_23 : decode mm_S_copyPage.2.1 23 = .ok (.aload_n 0, 1) := by decide +kernel
theorem dd_S_copyPage_24 : decode mm_S_copyPage.2.1 24 = .ok (.getfield 54, 3) := by decide +kernel
theorem dd_S_copyPage_27 : decode mm_S_copyPage.2.1 27 = .ok (.goto 5, 3) := by decide +kernel
theorem dd_S_copyPage_30 : decode mm_S_copyPage.2.1 30 = .ok (.ldc 86, 2) := by decide +kernel
theorem dd_S_copyPage_32 : decode mm_S_copyPage.2.1 32 = .ok (.invokevirtual 87, 3) := by decide +kernel
theorem dd_S_copyPage_35 : decode mm_S_copyPage.2.1 35 = .ok (.iconst 0, 1) := by decide +kernel
theorem dd_S_copyPage_36 : decode mm_S_copyPage.2.1 36 = .ok (.istore_n 3, 1) := by decide +kernel
theorem dd_S_copyPage_37 : decode mm_S_copyPage.2.1 37 = .ok (.iload_n 3, 1) := by decide +kernel
theorem dd_S_copyPage_38 : decode mm_S_copyPage.2.1 38 = .ok (.iconst 4, 1) := by decide +kernel
theorem dd_S_copyPage_39 : decode mm_S_copyPage.2.1 39 = .ok (.if_icmp .ge 20, 3) := by decide +kernel
theorem dd_S_copyPage_42 : decode mm_S_copyPage.2.1 42 = .ok (.aload_n 0, 1) := by decide +kernel
theorem dd_S_copyPage_43 : decode mm_S_copyPage.2.1 43 = .ok (.aload_n 0, 1) := by decide +kernel
theorem dd_S_copyPage_44 : decode mm_S_copyPage.2.1 44 = .ok (.getfield 20, 3) := by decide +kernel
theorem dd_S_copyPage_47 : decode mm_S_copyPage.2.1 47 = .ok (.iload_n 3, 1) := by decide +kernel
theorem dd_S_copyPage_48 : decode mm_S_copyPage.2.1 48 = .ok (.iaload, 1) := by decide +kernel
theorem dd_S_copyPage_49 : decode mm_S_copyPage.2.1 49 = .ok (.aload_n 1, 1) := by decide +kernel
theorem dd_S_copyPage_50 : decode mm_S_copyPage.2.1 50 = .ok (.invokevirtual 91, 3) := by decide +kernel
theorem dd_S_copyPage_53 : decode mm_S_copyPage.2.1 53 = .ok (.iinc 3 1, 3) := by decide +kernel
theorem dd_S_copyPage_56 : decode mm_S_copyPage.2.1 56 = .ok (.goto (-19), 3) := by decide +kernel
theorem dd_S_copyPage_59 : decode mm_S_copyPage.2.1 59 = .ok (.return_, 1) := by decide +kernel
theorem dd_S_showPage_0 : decode mm_S_showPage.2.1 0 = .ok (.iconst 0, 1) := by decide +kernel
theorem dd_S_showPage_1 : decode mm_S_showPage.2.1 1 = .ok (.istore_n 2, 1) := by decide +kernel
theorem dd_S_showPage_2 : decode mm_S_showPage.2.1 2 = .ok (.iconst 0, 1) := by decide +kernel
theorem dd_S_showPage_3 : decode mm_S_showPage.2.1 3 = .ok (.istore_n 3, 1) := by decide +kernel
theorem dd_S_showPage_4 : decode mm_S_showPage.2.1 4 = .ok (.iload_n 3, 1) := by decide +kernel
theorem dd_S_showPage_5 : decode mm_S_showPage.2.1 5 = .ok (.iconst 4, 1) := by decide +kernel
theorem dd_S_showPage_6 : decode mm_S_showPage.2.1 6 = .ok (.if_icmp .ge 57, 3) := by decide +kernel
theorem dd_S_showPage_9 : decode mm_S_showPage.2.1 9 = .ok (.aload_n 1, 1) := by decide +kernel
theorem dd_S_showPage_10 : decode mm_S_showPage.2.1 10 = .ok (.aload_n 0, 1) := by decide +kernel
theorem dd_S_showPage_11 : decode mm_S_showPage.2.1 11 = .ok (.getfield 54, 3) := by decide +kernel
theorem dd_S_showPage_14 : decode mm_S_showPage.2.1 14 = .ok (.invokevirtual 57, 3) := by decide +kernel
theorem dd_S_showPage_17 : decode mm_S_showPage.2.1 17 = .ok (.astore 4, 2) := by decide +kernel
theorem dd_S_showPage_19 : decode mm_S_showPage.2.1 19 = .ok (.aload 4, 2) := by decide +kernel
theorem dd_S_showPage_21 : decode mm_S_showPage.2.1 21 = .ok (.ifnonnull 13, 3) := by decide +kernel
theorem dd_S_showPage_24 : decode mm_S_showPage.2.1 24 = .ok (.aload_n 0, 1) := by decide +kernel
theorem dd_S_showPage_25 : decode mm_S_showPage.2.1 25 = .ok (.getfield 20, 3) := by decide +kernel
theorem dd_S_showPage_28 : decode mm_S_showPage.2.1 28 = .ok (.iload_n 3, 1) := by decide +kernel
theorem dd_S_showPage_29 : decode mm_S_showPage.2.1 29 = .ok (.iconst (-1), 1) := by decide +kernel
theorem dd_S_showPage_30 : decode mm_S_showPage.2.1 30 = .ok (.iastore, 1) := by decide +kernel
theorem dd_S_showPage_31 : decode mm_S_showPage.2.1 31 = .ok (.goto 26, 3) := by decide +kernel
theorem dd_S_showPage_34 : decode mm_S_showPage.2.1 34 = .ok (.aload_n 0, 1) := by decide +kernel
theorem dd_S_showPage_35 : decode mm_S_showPage.2.1 35 = .ok (.getfield 20, 3) := by decide +kernel
theorem dd_S_showPage_38 : decode mm_S_showPage.2.1 38 = .ok (.iload_n 3, 1) := by decide +kernel
theorem dd_S_showPage_39 : decode mm_S_showPage.2.1 39 = .ok (.aload 4, 2) := by decide +kernel
theorem dd_S_showPage_41 : decode mm_S_showPage.2.1 41 = .ok (.getfield 61, 3) := by decide +kernel
theorem dd_S_showPage_44 : decode mm_S_showPage.2.1 44 = .ok (.iastore, 1) := by decide +kernel
theorem dd_S_showPage_45 : decode mm_S_showPage.2.1 45 = .ok (.aload_n 0, 1) := by decide +kernel
theorem dd_S_showPage_46 : decode mm_S_showPage.2.1 46 = .ok (.aload 4, 2) := by decide +kernel
theorem dd_S_showPage_48 : decode mm_S_showPage.2.1 48 = .ok (.getfield 61, 3) := by decide +kernel
theorem dd_S_showPage_51 : decode mm_S_showPage.2.1 51 = .ok (.putfield 54, 3) := by decide +kernel
theorem dd_S_showPage_54 : decode mm_S_showPage.2.1 54 = .ok (.iinc 2 1, 3) := by decide +kernel
theorem dd_S_showPage_57 : decode mm_S_showPage.2.1 57 = .ok (.iinc 3 1, 3) := by decide +kernel
theorem dd_S_showPage_60 : decode mm_S_showPage.2.1 60 = .ok (.goto (-56), 3) := by decide +kernel
theorem dd_S_showPage_63 : decode mm_S_showPage.2.1 63 = .ok (.aload_n 0, 1) := by decide +kernel
theorem dd_S_showPage_64 : decode mm_S_showPage.2.1 64 = .ok (.iload_n 2, 1) := by decide +kernel
theorem dd_S_showPage_65 : decode mm_S_showPage.2.1 65 = .ok (.iconst 4, 1) := by decide +kernel
theorem dd_S_showPage_66 : decode mm_S_showPage.2.1 66 = .ok (.if_icmp .ne 7, 3) := by decide +kernel
theorem dd_S_showPage_69 : decode mm_S_showPage.2.1 69 = .ok (.iconst 1, 1) := by decide +kernel
theorem dd_S_showPage_70 : decode mm_S_showPage.2.1 70 = .ok (.goto 4, 3) := by decide +kernel
theorem dd_S_showPage_73 : decode mm_S_showPage.2.1 73 = .ok (.iconst 0, 1) := by decide +kernel
theorem dd_S_showPage_74 : decode mm_S_showPage.2.1 74 = .ok (.putfield 37, 3) := by decide +kernel
theorem dd_S_showPage_77 : decode mm_S_showPage.2.1 77 = .ok (.iload_n 2, 1) := by decide +kernel
theorem dd_S_showPage_78 : decode mm_S_showPage.2.1 78 = .ok (.ireturn, 1) := by decide +kernel
theorem dd_S_takeNote_0 : decode mm_S_takeNote.2.1 0 = .ok (.aload_n 0, 1) := by decide +kernel
theorem dd_S_takeNote_1 : decode mm_S_takeNote.2.1 1 = .ok (.getfield 24, 3) := by decide +kernel
theorem dd_S_takeNote_4 : decode mm_S_takeNote.2.1 4 = .ok (.aload_n 1, 1) := by decide +kernel
theorem dd_S_takeNote_5 : decode mm_S_takeNote.2.1 5 = .ok (.invokevirtual 41, 3) := by decide +kernel
theorem dd_S_takeNote_8 : decode mm_S_takeNote.2.1 8 = .ok (.if_icmp .ge 5, 3) := by decide +kernel
theorem dd_S_takeNote_11 : decode mm_S_takeNote.2.1 11 = .ok (.iconst (-1), 1) := by decide +kernel
theorem dd_S_takeNote_12 : decode mm_S_takeNote.2.1 12 = .ok (.ireturn, 1) := by decide +kernel
theorem dd_S_takeNote_13 : decode mm_S_takeNote.2.1 13 = .ok (.aload_n 0, 1) := by decide +kernel
theorem dd_S_takeNote_14 : decode mm_S_takeNote.2.1 14 = .ok (.getfield 24, 3) := by decide +kernel
theorem dd_S_takeNote_17 : decode mm_S_takeNote.2.1 17 = .ok (.istore_n 3, 1) := by decide +kernel
theorem dd_S_takeNote_18 : decode mm_S_takeNote.2.1 18 = .ok (.iload_n 3, 1) := by decide +kernel
theorem dd_S_takeNote_19 : decode mm_S_takeNote.2.1 19 = .ok (.aload_n 1, 1) := by decide +kernel
theorem dd_S_takeNote_20 : decode mm_S_takeNote.2.1 20 = .ok (.invokevirtual 31, 3) := by decide +kernel
theorem dd_S_takeNote_23 : decode mm_S_takeNote.2.1 23 = .ok (.if_icmp .ge 39, 3) := by decide +kernel
theorem dd_S_takeNote_26 : decode mm_S_takeNote.2.1 26 = .ok (.aload_n 1, 1) := by decide +kernel
theorem dd_S_takeNote_27 : decode mm_S_takeNote.2.1 27 = .ok (.iload_n 3, 1) := by decide +kernel
theorem dd_S_takeNote_28 : decode mm_S_takeNote.2.1 28 = .ok (.invokevirtual 44, 3) := by decide +kernel
theorem dd_S_takeNote_31 : decode mm_S_takeNote.2.1 31 = .ok (.astore 4, 2) := by decide +kernel
theorem dd_S_takeNote_33 : decode mm_S_takeNote.2.1 33 = .ok (.aload 4, 2) := by decide +kernel
theorem dd_S_takeNote_35 : decode mm_S_takeNote.2.1 35 = .ok (.ifnull 21, 3) := by decide +kernel
theorem dd_S_takeNote_38 : decode mm_S_takeNote.2.1 38 = .ok (.aload 4, 2) := by decide +kernel
theorem dd_S_takeNote_40 : decode mm_S_takeNote.2.1 40 = .ok (.iload_n 2, 1) := by decide +kernel
theorem dd_S_takeNote_41 : decode mm_S_takeNote.2.1 41 = .ok (.invokevirtual 48, 3) := by decide +kernel
theorem dd_S_takeNote_44 : decode mm_S_takeNote.2.1 44 = .ok (.ifCond .eq 12, 3) := by decide +kernel
theorem dd_S_takeNote_47 : decode mm_S_takeNote.2.1 47 = .ok (.aload_n 0, 1) := by decide +kernel
theorem dd_S_takeNote_48 : decode mm_S_takeNote.2.1 48 = .ok (.iload_n 3, 1) := by decide +kernel
theorem dd_S_takeNote_49 : decode mm_S_takeNote.2.1 49 = .ok (.iconst 1, 1) := by decide +kernel
theorem dd_S_takeNote_50 : decode mm_S_takeNote.2.1 50 = .ok (.iadd, 1) := by decide +kernel
theorem dd_S_takeNote_51 : decode mm_S_takeNote.2.1 51 = .ok (.putfield 24, 3) := by decide +kernel
theorem dd_S_takeNote_54 : decode mm_S_takeNote.2.1 54 = .ok (.iload_n 3, 1) := by decide +kernel
theorem dd_S_takeNote_55 : decode mm_S_takeNote.2.1 55 = .ok (.ireturn, 1) := by decide +kernel
theorem dd_S_takeNote_56 : decode mm_S_takeNote.2.1 56 = .ok (.iinc 3 1, 3) := by decide +kernel
theorem dd_S_takeNote_59 : decode mm_S_takeNote.2.1 59 = .ok (.goto (-41), 3) := by decide +kernel
theorem dd_S_takeNote_62 : decode mm_S_takeNote.2.1 62 = .ok (.aload_n 0, 1) := by decide +kernel
theorem dd_S_takeNote_63 : decode mm_S_takeNote.2.1 63 = .ok (.aload_n 1, 1) := by decide +kernel
theorem dd_S_takeNote_64 : decode mm_S_takeNote.2.1 64 = .ok (.invokevirtual 31, 3) := by decide +kernel
theorem dd_S_takeNote_67 : decode mm_S_takeNote.2.1 67 = .ok (.putfield 24, 3) := by decide +kernel
theorem dd_S_takeNote_70 : decode mm_S_takeNote.2.1 70 = .ok (.iconst 0, 1) := by decide +kernel
theorem dd_S_takeNote_71 : decode mm_S_takeNote.2.1 71 = .ok (.ireturn, 1) := by decide +kernel
theorem dd_V_init_0 : decode mm_V_init.2.1 0 = .ok (.aload_n 0, 1) := by decide +kernel
theorem dd_V_init_1 : decode mm_V_init.2.1 1 = .ok (.invokespecial 1, 3) := by decide +kernel
theorem dd_V_init_4 : decode mm_V_init.2.1 4 = .ok (.aload_n 0, 1) := by decide +kernel
theorem dd_V_init_5 : decode mm_V_init.2.1 5 = .ok (.new 7, 3) := by decide +kernel
theorem dd_V_init_8 : decode mm_V_init.2.1 8 = .ok (.dup, 1) := by decide +kernel
theorem dd_V_init_9 : decode mm_V_init.2.1 9 = .ok (.bipush 20, 2) := by decide +kernel
theorem dd_V_init_11 : decode mm_V_init.2.1 11 = .ok (.invokespecial 11, 3) := by decide +kernel
theorem dd_V_init_14 : decode mm_V_init.2.1 14 = .ok (.putfield 14, 3) := by decide +kernel
theorem dd_V_init_17 : decode mm_V_init.2.1 17 = .ok (.aload_n 0, 1) := by decide +kernel
theorem dd_V_init_18 : decode mm_V_init.2.1 18 = .ok (.new 18, 3) := by decide +kernel
theorem dd_V_init_21 : decode mm_V_init.2.1 21 = .ok (.dup, 1) := by decide +kernel
theorem dd_V_init_22 : decode mm_V_init.2.1 22 = .ok (.invokespecial 20, 3) := by decide +kernel
theorem dd_V_init_25 : decode mm_V_init.2.1 25 = .ok (.putfield 21, 3) := by decide +kernel
theorem dd_V_init_28 : decode mm_V_init.2.1 28 = .ok (.aload_n 0, 1) := by decide +kernel
theorem dd_V_init_29 : decode mm_V_init.2.1 29 = .ok (.new 25, 3) := by decide +kernel
theorem dd_V_init_32 : decode mm_V_init.2.1 32 = .ok (.dup, 1) := by decide +kernel
theorem dd_V_init_33 : decode mm_V_init.2.1 33 = .ok (.invokespecial 27, 3) := by decide +kernel
theorem dd_V_init_36 : decode mm_V_init.2.1 36 = .ok (.putfield 28, 3) := by decide +kernel
theorem dd_V_init_39 : decode mm_V_init.2.1 39 = .ok (.aload_n 0, 1) := by decide +kernel
theorem dd_V_init_40 : decode mm_V_init.2.1 40 = .ok (.iconst 3, 1) := by decide +kernel
theorem dd_V_init_41 : decode mm_V_init.2.1 41 = .ok (.anewarray 32, 3) := by decide +kernel
theorem dd_V_init_44 : decode mm_V_init.2.1 44 = .ok (.putfield 34, 3) := by decide +kernel
theorem dd_V_init_47 : decode mm_V_init.2.1 47 = .ok (.iconst 0, 1) := by decide +kernel
theorem dd_V_init_48 : decode mm_V_init.2.1 48 = .ok (.istore_n 1, 1) := by decide +kernel
theorem dd_V_init_49 : decode mm_V_init.2.1 49 = .ok (.iload_n 1, 1) := by decide +kernel
theorem dd_V_init_50 : decode mm_V_init.2.1 50 = .ok (.iconst 3, 1) := by decide +kernel
theorem dd_V_init_51 : decode mm_V_init.2.1 51 = .ok (.if_icmp .ge 22, 3) := by decide +kernel
theorem dd_V_init_54 : decode mm_V_init.2.1 54 = .ok (.aload_n 0, 1) := by decide +kernel
theorem dd_V_init_55 : decode mm_V_init.2.1 55 = .ok (.getfield 34, 3) := by decide +kernel
theorem dd_V_init_58 : decode mm_V_init.2.1 58 = .ok (.iload_n 1, 1) := by decide +kernel
theorem dd_V_init_59 : decode mm_V_init.2.1 59 = .ok (.new 32, 3) := by decide +kernel
theorem dd_V_init_62 : decode mm_V_init.2.1 62 = .ok (.dup, 1) := by decide +kernel
theorem dd_V_init_63 : decode mm_V_init.2.1 63 = .ok (.invokespecial 38, 3) := by decide +kernel
theorem dd_V_init_66 : decode mm_V_init.2.1 66 = .ok (.aastore, 1) := by decide +kernel
theorem dd_V_init_67 : decode mm_V_init.2.1 67 = .ok (.iinc 1 1, 3) := by decide +kernel
theorem dd_V_init_70 : decode mm_V_init.2.1 70 = .ok (.goto (-21), 3) := by decide +kernel
theorem dd_V_init_73 : decode mm_V_init.2.1 73 = .ok (.aload_n 0, 1) := by decide +kernel
theorem dd_V_init_74 : decode mm_V_init.2.1 74 = .ok (.iconst 1, 1) := by decide +kernel
theorem dd_V_init_75 : decode mm_V_init.2.1 75 = .ok (.putfield 39, 3) := by decide +kernel
theorem dd_V_init_78 : decode mm_V_init.2.1 78 = .ok (.aload_n 0, 1) := by decide +kernel
theorem dd_V_init_79 : decode mm_V_init.2.1 79 = .ok (.iconst 1, 1) := by decide +kernel
theorem dd_V_init_80 : decode mm_V_init.2.1 80 = .ok (.putfield 43, 3) := by decide +kernel
theorem dd_V_init_83 : decode mm_V_init.2.1 83 = .ok (.aload_n 0, 1) := by decide +kernel
theorem dd_V_init_84 : decode mm_V_init.2.1 84 = .ok (.iconst (-1), 1) := by decide +kernel
theorem dd_V_init_85 : decode mm_V_init.2.1 85 = .ok (.putfield 47, 3) := by decide +kernel
theorem dd_V_init_88 : decode mm_V_init.2.1 88 = .ok (.return_, 1) := by decide +kernel
theorem dd_V_change_0 : decode mm_V_change.2.1 0 = .ok (.aload_n 0, 1) := by decide +kernel
theorem dd_V_change_1 : decode mm_V_change.2.1 1 = .ok (.invokevirtual 50, 3) := by decide +kernel
theorem dd_V_change_4 : decode mm_V_change.2.1 4 = .ok (.aload_n 0, 1) := by decide +kernel
theorem dd_V_change_5 : decode mm_V_change.2.1 5 = .ok (.iload_n 1, 1) := by decide +kernel
theorem dd_V_change_6 : decode mm_V_change.2.1 6 = .ok (.invokevirtual 86, 3) := by decide +kernel
theorem dd_V_change_9 : decode mm_V_change.2.1 9 = .ok (.astore_n 2, 1) := by decide +kernel
theorem dd_V_change_10 : decode mm_V_change.2.1 10 = .ok (.aload_n 2, 1) := by decide +kernel
theorem dd_V_change_11 : decode mm_V_change.2.1 11 = .ok (.getfield 90, 3) := by decide +kernel
theorem dd_V_change_14 : decode mm_V_change.2.1 14 = .ok (.iconst 1, 1) := by decide +kernel
theorem dd_V_change_15 : decode mm_V_change.2.1 15 = .ok (.if_icmp .ne 13, 3) := by decide +kernel
theorem dd_V_change_18 : decode mm_V_change.2.1 18 = .ok (.new 93, 3) := by decide +kernel
theorem dd_V_change_21 : decode mm_V_change.2.1 21 = .ok (.dup, 1) := by decide +kernel
theorem dd_V_change_22 : decode mm_V_change.2.1 22 = .ok (.ldc 95, 2) := by decide +kernel
theorem dd_V_change_24 : decode mm_V_change.2.1 24 = .ok (.invokespecial 97, 3) := by decide +kernel
theorem dd_V_change_27 : decode mm_V_change.2.1 27 = .ok (.athrow, 1) := by decide +kernel
theorem dd_V_change_28 : decode mm_V_change.2.1 28 = .ok (.new 74, 3) := by decide +kernel
theorem dd_V_change_31 : decode mm_V_change.2.1 31 = .ok (.dup, 1) := by decide +kernel
theorem dd_V_change_32 : decode mm_V_change.2.1 32 = .ok (.iload_n 1, 1) := by decide +kernel
theorem dd_V_change_33 : decode mm_V_change.2.1 33 = .ok (.aload_n 2, 1) := by decide +kernel
theorem dd_V_change_34 : decode mm_V_change.2.1 34 = .ok (.getfield 90, 3) := by decide +kernel
theorem dd_V_change_37 : decode mm_V_change.2.1 37 = .ok (.aload_n 2, 1) := by decide +kernel
theorem dd_V_change_38 : decode mm_V_change.2.1 38 = .ok (.getfield 98, 3) := by decide +kernel
theorem dd_V_change_41 : decode mm_V_change.2.1 41 = .ok (.aload_n 2, 1) := by decide +kernel
theorem dd_V_change_42 : decode mm_V_change.2.1 42 = .ok (.getfield 101, 3) := by decide +kernel
theorem dd_V_change_45 : decode mm_V_change.2.1 45 = .ok (.aload_n 2, 1) := by decide +kernel
theorem dd_V_change_46 : decode mm_V_change.2.1 46 = .ok (.getfield 104, 3) := by decide +kernel
theorem dd_V_change_49 : decode mm_V_change.2.1 49 = .ok (.iconst 1, 1) := by decide +kernel
theorem dd_V_change_50 : decode mm_V_change.2.1 50 = .ok (.iadd, 1) := by decide +kernel
theorem dd_V_change_51 : decode mm_V_change.2.1 51 = .ok (.invokespecial 76, 3) := by decide +kernel
theorem dd_V_change_54 : decode mm_V_change.2.1 54 = .ok (.astore_n 3, 1) := by decide +kernel
theorem dd_V_change_55 : decode mm_V_change.2.1 55 = .ok (.aload_n 0, 1) := by decide +kernel
theorem dd_V_change_56 : decode mm_V_change.2.1 56 = .ok (.aload_n 3, 1) := by decide +kernel
theorem dd_V_change_57 : decode mm_V_change.2.1 57 = .ok (.iconst 2, 1) := by decide +kernel
theorem dd_V_change_58 : decode mm_V_change.2.1 58 = .ok (.invokevirtual 79, 3) := by decide +kernel
theorem dd_V_change_61 : decode mm_V_change.2.1 61 = .ok (.ifCond .eq 10, 3) := by decide +kernel
theorem dd_V_change_64 : decode mm_V_change.2.1 64 = .ok (.aload_n 3, 1) := by decide +kernel
theorem dd_V_change_65 : decode mm_V_change.2.1 65 = .ok (.getfield 104, 3) := by decide +kernel
theorem dd_V_change_68 : decode mm_V_change.2.1 68 = .ok (.goto 5, 3) := by decide +kernel
theorem dd_V_change_71 : decode mm_V_change.2.1 71 = .ok (.bipush (-2), 2) := by decide +kernel
theorem dd_V_change_73 : decode mm_V_change.2.1 73 = .ok (.ireturn, 1) := by decide +kernel
theorem dd_V_checkFolder_0 : decode mm_V_checkFolder.2.1 0 = .ok (.iload_n 1, 1) := by decide +kernel
theorem dd_V_checkFolder_1 : decode mm_V_checkFolder.2.1 1 = .ok (.ifCond .ne 4, 3) := by decide +kernel
theorem dd_V_checkFolder_4 : decode mm_V_checkFolder.2.1 4 = .ok (.return_, 1) := by decide +kernel
theorem dd_V_checkFolder_5 : decode mm_V_checkFolder.2.1 5 = .ok (.aload_n 0, 1) := by decide +kernel
theorem dd_V_checkFolder_6 : decode mm_V_checkFolder.2.1 6 = .ok (.iload_n 1, 1) := by decide +kernel
theorem dd_V_checkFolder_7 : decode mm_V_checkFolder.2.1 7 = .ok (.invokevirtual 86, 3) := by decide +kernel
theorem dd_V_checkFolder_10 : decode mm_V_checkFolder.2.1 10 = .ok (.getfield 90, 3) := by decide +kernel
theorem dd_V_checkFolder_13 : decode mm_V_checkFolder.2.1 13 = .ok (.iconst 1, 1) := by decide +kernel
theorem dd_V_checkFolder_14 : decode mm_V_checkFolder.2.1 14 = .ok (.if_icmp .eq 13, 3) := by decide +kernel
theorem dd_V_checkFolder_17 : decode mm_V_checkFolder.2.1 17 = .ok (.new 93, 3) := by decide +kernel
theorem dd_V_checkFolder_20 : decode mm_V_checkFolder.2.1 20 = .ok (.dup, 1) := by decide +kernel
theorem dd_V_checkFolder_21 : decode mm_V_checkFolder.2.1 21 = .ok (.ldc 250, 2) := by decide +kernel
theorem dd_V_checkFolder_23 : decode mm_V_checkFolder.2.1 23 = .ok (.invokespecial 97, 3) := by decide +kernel
theorem dd_V_checkFolder_26 : decode mm_V_checkFolder.2.1 26 = .ok (.athrow, 1) := by decide +kernel
theorem dd_V_checkFolder_27 : decode mm_V_checkFolder.2.1 27 = .ok (.return_, 1) := by decide +kernel
theorem dd_V_checkItem_0 : decode mm_V_checkItem.2.1 0 = .ok (.iload_n 0, 1) := by decide +kernel
theorem dd_V_checkItem_1 : decode mm_V_checkItem.2.1 1 = .ok (.ifCond .lt 8, 3) := by decide +kernel
theorem dd_V_checkItem_4 : decode mm_V_checkItem.2.1 4 = .ok (.iload_n 0, 1) := by decide +kernel
theorem dd_V_checkItem_5 : decode mm_V_checkItem.2.1 5 = .ok (.iload_n 1, 1) := by decide +kernel
theorem dd_V_checkItem_6 : decode mm_V_checkItem.2.1 6 = .ok (.if_icmp .lt 13, 3) := by decide +kernel
theorem dd_V_checkItem_9 : decode mm_V_checkItem.2.1 9 = .ok (.new 245, 3) := by decide +kernel
theorem dd_V_checkItem_12 : decode mm_V_checkItem.2.1 12 = .ok (.dup, 1) := by decide +kernel
theorem dd_V_checkItem_13 : decode mm_V_checkItem.2.1 13 = .ok (.ldc 247, 2) := by decide +kernel
theorem dd_V_checkItem_15 : decode mm_V_checkItem.2.1 15 = .ok (.invokespecial 249, 3) := by decide +kernel
theorem dd_V_checkItem_18 : decode mm_V_checkItem.2.1 18 = .ok (.athrow, 1) := by decide +kernel
theorem dd_V_checkItem_19 : decode mm_V_checkItem.2.1 19 = .ok (.return_, 1) := by decide +kernel
theorem dd_V_checkName_0 : decode mm_V_checkName.2.1 0 = .ok (.iload_n 0, 1) := by decide +kernel
theorem dd_V_checkName_1 : decode mm_V_checkName.2.1 1 = .ok (.ifCond .ne 13, 3) := by decide +kernel
theorem dd_V_checkName_4 : decode mm_V_checkName.2.1 4 = .ok (.new 174, 3) := by decide +kernel
theorem dd_V_checkName_7 : decode mm_V_checkName.2.1 7 = .ok (.dup, 1) := by decide +kernel
theorem dd_V_checkName_8 : decode mm_V_checkName.2.1 8 = .ok (.ldc 243, 2) := by decide +kernel
theorem dd_V_checkName_10 : decode mm_V_checkName.2.1 10 = .ok (.invokespecial 178, 3) := by decide +kernel
theorem dd_V_checkName_13 : decode mm_V_checkName.2.1 13 = .ok (.athrow, 1) := by decide +kernel
theorem dd_V_checkName_14 : decode mm_V_checkName.2.1 14 = .ok (.return_, 1) := by decide +kernel
theorem dd_V_checkNameFree_0 : decode mm_V_checkNameFree.2.1 0 = .ok (.aload_n 0, 1) := by decide +kernel
theorem dd_V_checkNameFree_1 : decode mm_V_checkNameFree.2.1 1 = .ok (.getfield 14, 3) := by decide +kernel
theorem dd_V_checkNameFree_4 : decode mm_V_checkNameFree.2.1 4 = .ok (.iload_n 1, 1) := by decide +kernel
theorem dd_V_checkNameFree_5 : decode mm_V_checkNameFree.2.1 5 = .ok (.iload_n 2, 1) := by decide +kernel
theorem dd_V_checkNameFree_6 : decode mm_V_checkNameFree.2.1 6 = .ok (.invokevirtual 151, 3) := by decide +kernel
theorem dd_V_checkNameFree_9 : decode mm_V_checkNameFree.2.1 9 = .ok (.astore 4, 2) := by decide +kernel
theorem dd_V_checkNameFree_11 : decode mm_V_checkNameFree.2.1 11 = .ok (.aload 4, 2) := by decide +kernel
theorem dd_V_checkNameFree_13 : decode mm_V_checkNameFree.2.1 13 = .ok (.ifnull 22, 3) := by decide +kernel
theorem dd_V_checkNameFree_16 : decode mm_V_checkNameFree.2.1 16 = .ok (.aload 4, 2) := by decide +kernel
theorem dd_V_checkNameFree_18 : decode mm_V_checkNameFree.2.1 18 = .ok (.getfield 83, 3) := by decide +kernel
theorem dd_V_checkNameFree_21 : decode mm_V_checkNameFree.2.1 21 = .ok (.iload_n 3, 1) := by decide +kernel
theorem dd_V_checkNameFree_22 : decode mm_V_checkNameFree.2.1 22 = .ok (.if_icmp .eq 13, 3) := by decide +kernel
theorem dd_V_checkNameFree_25 : decode mm_V_checkNameFree.2.1 25 = .ok (.new 93, 3) := by decide +kernel
theorem dd_V_checkNameFree_28 : decode mm_V_checkNameFree.2.1 28 = .ok (.dup, 1) := by decide +kernel
theorem dd_V_checkNameFree_29 : decode mm_V_checkNameFree.2.1 29 = .ok (.ldc 252, 2) := by decide +kernel
theorem dd_V_checkNameFree_31 : decode mm_V_checkNameFree.2.1 31 = .ok (.invokespecial 97, 3) := by decide +kernel
theorem dd_V_checkNameFree_34 : decode mm_V_checkNameFree.2.1 34 = .ok (.athrow, 1) := by decide +kernel
theorem dd_V_checkNameFree_35 : decode mm_V_checkNameFree.2.1 35 = .ok (.return_, 1) := by decide +kernel
theorem dd_V_checkPower_0 : decode mm_V_checkPower.2.1 0 = .ok (.aload_n 0, 1) := by decide +kernel
theorem dd_V_checkPower_1 : decode mm_V_checkPower.2.1 1 = .ok (.getfield 43, 3) := by decide +kernel
theorem dd_V_checkPower_4 : decode mm_V_checkPower.2.1 4 = .ok (.ifCond .ne 13, 3) := by decide +kernel
theorem dd_V_checkPower_7 : decode mm_V_checkPower.2.1 7 = .ok (.new 57, 3) := by decide +kernel
theorem dd_V_checkPower_10 : decode mm_V_checkPower.2.1 10 = .ok (.dup, 1) := by decide +kernel
theorem dd_V_checkPower_11 : decode mm_V_checkPower.2.1 11 = .ok (.ldc 241, 2) := by decide +kernel
theorem dd_V_checkPower_13 : decode mm_V_checkPower.2.1 13 = .ok (.invokespecial 61, 3) := by decide +kernel
theorem dd_V_checkPower_16 : decode mm_V_checkPower.2.1 16 = .ok (.athrow, 1) := by decide +kernel
theorem dd_V_checkPower_17 : decode mm_V_checkPower.2.1 17 = .ok (.return_, 1) := by decide +kernel
theorem dd_V_close_0 : decode mm_V_close.2.1 0 = .ok (.aload_n 0, 1) := by decide +kernel
theorem dd_V_close_1 : decode mm_V_close.2.1 1 = .ok (.invokevirtual 50, 3) := by decide +kernel
theorem dd_V_close_4 : decode mm_V_close.2.1 4 = .ok (.aload_n 0, 1) := by decide +kernel
theorem dd_V_close_5 : decode mm_V_close.2.1 5 = .ok (.getfield 28, 3) := by decide +kernel
theorem dd_V_close_8 : decode mm_V_close.2.1 8 = .ok (.iload_n 1, 1) := by decide +kernel
theorem dd_V_close_9 : decode mm_V_close.2.1 9 = .ok (.invokevirtual 129, 3) := by decide +kernel
theorem dd_V_close_12 : decode mm_V_close.2.1 12 = .ok (.astore_n 2, 1) := by decide +kernel
theorem dd_V_close_13 : decode mm_V_close.2.1 13 = .ok (.aload_n 2, 1) := by decide +kernel
theorem dd_V_close_14 : decode mm_V_close.2.1 14 = .ok (.ifnonnull 13, 3) := by decide +kernel
theorem dd_V_close_17 : decode mm_V_close.2.1 17 = .ok (.new 133, 3) := by decide +kernel
theorem dd_V_close_20 : decode mm_V_close.2.1 20 = .ok (.dup, 1) := by decide +kernel
theorem dd_V_close_21 : decode mm_V_close.2.1 21 = .ok (.ldc 135, 2) := by decide +kernel
theorem dd_V_close_23 : decode mm_V_close.2.1 23 = .ok (.invokespecial 137, 3) := by decide +kernel
theorem dd_V_close_26 : decode mm_V_close.2.1 26 = .ok (.athrow, 1) := by decide +kernel
theorem dd_V_close_27 : decode mm_V_close.2.1 27 = .ok (.aload_n 0, 1) := by decide +kernel
theorem dd_V_close_28 : decode mm_V_close.2.1 28 = .ok (.aload_n 2, 1) := by decide +kernel
theorem dd_V_close_29 : decode mm_V_close.2.1 29 = .ok (.invokevirtual 138, 3) := by decide +kernel
theorem dd_V_close_32 : decode mm_V_close.2.1 32 = .ok (.ireturn, 1) := by decide +kernel
theorem dd_V_copied_0 : decode mm_V_copied.2.1 0 = .ok (.aload_n 0, 1) := by decide +kernel
theorem dd_V_copied_1 : decode mm_V_copied.2.1 1 = .ok (.iload_n 1, 1) := by decide +kernel
theorem dd_V_copied_2 : decode mm_V_copied.2.1 2 = .ok (.invokevirtual 170, 3) := by decide +kernel
theorem dd_V_copied_5 : decode mm_V_copied.2.1 5 = .ok (.astore 4, 2) := by decide +kernel
theorem dd_V_copied_7 : decode mm_V_copied.2.1 7 = .ok (.iload_n 3, 1) := by decide +kernel
theorem dd_V_copied_8 : decode mm_V_copied.2.1 8 = .ok (.iconst 4, 1) := by decide +kernel
theorem dd_V_copied_9 : decode mm_V_copied.2.1 9 = .ok (.invokestatic 143, 3) := by decide +kernel
theorem dd_V_copied_12 : decode mm_V_copied.2.1 12 = .ok (.aload 4, 2) := by decide +kernel
theorem dd_V_copied_14 : decode mm_V_copied.2.1 14 = .ok (.getfield 216, 3) := by decide +kernel
theorem dd_V_copied_17 : decode mm_V_copied.2.1 17 = .ok (.iload_n 2, 1) := by decide +kernel
theorem dd_V_copied_18 : decode mm_V_copied.2.1 18 = .ok (.invokevirtual 219, 3) := by decide +kernel
theorem dd_V_copied_21 : decode mm_V_copied.2.1 21 = .ok (.astore 5, 2) := by decide +kernel
theorem dd_V_copied_23 : decode mm_V_copied.2.1 23 = .ok (.aload 5, 2) := by decide +kernel
theorem dd_V_copied_25 : decode mm_V_copied.2.1 25 = .ok (.ifnonnull 13, 3) := by decide +kernel
theorem dd_V_copied_28 : decode mm_V_copied.2.1 28 = .ok (.new 133, 3) := by decide +kernel
theorem dd_V_copied_31 : decode mm_V_copied.2.1 31 = .ok (.dup, 1) := by decide +kernel
theorem dd_V_copied_32 : decode mm_V_copied.2.1 32 = .ok (.ldc 222, 2) := by decide +kernel
theorem dd_V_copied_34 : decode mm_V_copied.2.1 34 = .ok (.invokespecial 137, 3) := by decide +kernel
theorem dd_V_copied_37 : decode mm_V_copied.2.1 37 = .ok (.athrow, 1) := by decide +kernel
theorem dd_V_copied_38 : decode mm_V_copied.2.1 38 = .ok (.aload 5, 2) := by decide +kernel
theorem dd_V_copied_40 : decode mm_V_copied.2.1 40 = .ok (.iload_n 3, 1) := by decide +kernel
theorem dd_V_copied_41 : decode mm_V_copied.2.1 41 = .ok (.invokevirtual 147, 3) := by decide +kernel
theorem dd_V_copied_44 : decode mm_V_copied.2.1 44 = .ok (.ireturn, 1) := by decide +kernel
theorem dd_V_cursor_0 : decode mm_V_cursor.2.1 0 = .ok (.aload_n 0, 1) := by decide +kernel
theorem dd_V_cursor_1 : decode mm_V_cursor.2.1 1 = .ok (.iload_n 1, 1) := by decide +kernel
theorem dd_V_cursor_2 : decode mm_V_cursor.2.1 2 = .ok (.invokevirtual 170, 3) := by decide +kernel
theorem dd_V_cursor_5 : decode mm_V_cursor.2.1 5 = .ok (.getfield 183, 3) := by decide +kernel
theorem dd_V_cursor_8 : decode mm_V_cursor.2.1 8 = .ok (.ireturn, 1) := by decide +kernel
theorem dd_V_cutAfter_0 : decode mm_V_cutAfter.2.1 0 = .ok (.iload_n 1, 1) := by decide +kernel
theorem dd_V_cutAfter_1 : decode mm_V_cutAfter.2.1 1 = .ok (.iconst (-1), 1) := by decide +kernel
theorem dd_V_cutAfter_2 : decode mm_V_cutAfter.2.1 2 = .ok (.if_icmp .ge 13, 3) := by decide +kernel
theorem dd_V_cutAfter_5 : decode mm_V_cutAfter.2.1 5 = .ok (.new 174, 3) := by decide +kernel
theorem dd_V_cutAfter_8 : decode mm_V_cutAfter.2.1 8 = .ok (.dup, 1) := by decide +kernel
theorem dd_V_cutAfter_9 : decode mm_V_cutAfter.2.1 9 = .ok (.ldc 228, 2) := by decide +kernel
theorem dd_V_cutAfter_11 : decode mm_V_cutAfter.2.1 11 = .ok (.invokespecial 178, 3) := by decide +kernel
theorem dd_V_cutAfter_14 : decode mm_V_cutAfter.2.1 14 = .ok (.athrow, 1) := by decide +kernel
theorem dd_V_cutAfter_15 : decode mm_V_cutAfter.2.1 15 = .ok (.aload_n 0, 1) := by decide +kernel
theorem dd_V_cutAfter_16 : decode mm_V_cutAfter.2.1 16 = .ok (.iload_n 1, 1) := by decide +kernel
theorem dd_V_cutAfter_17 : decode mm_V_cutAfter.2.1 17 = .ok (.putfield 47, 3) := by decide +kernel
theorem dd_V_cutAfter_20 : decode mm_V_cutAfter.2.1 20 = .ok (.return_, 1) := by decide +kernel
theorem dd_V_endGathering_0 : decode mm_V_endGathering.2.1 0 = .ok (.aload_n 1, 1) := by decide +kernel
theorem dd_V_endGathering_1 : decode mm_V_endGathering.2.1 1 = .ok (.getfield 276, 3) := by decide +kernel
theorem dd_V_endGathering_4 : decode mm_V_endGathering.2.1 4 = .ok (.istore_n 2, 1) := by decide +kernel
theorem dd_V_endGathering_5 : decode mm_V_endGathering.2.1 5 = .ok (.aload_n 0, 1) := by decide +kernel
theorem dd_V_endGathering_6 : decode mm_V_endGathering.2.1 6 = .ok (.getfield 14, 3) := by decide +kernel
theorem dd_V_endGathering_9 : decode mm_V_endGathering.2.1 9 = .ok (.iload_n 2, 1) := by decide +kernel
theorem dd_V_endGathering_10 : decode mm_V_endGathering.2.1 10 = .ok (.invokevirtual 219, 3) := by decide +kernel
theorem dd_V_endGathering_13 : decode mm_V_endGathering.2.1 13 = .ok (.astore_n 3, 1) := by decide +kernel
theorem dd_V_endGathering_14 : decode mm_V_endGathering.2.1 14 = .ok (.aload_n 3, 1) := by decide +kernel
theorem dd_V_endGathering_15 : decode mm_V_endGathering.2.1 15 = .ok (.ifnonnull 16, 3) := by decide +kernel
theorem dd_V_endGathering_18 : decode mm_V_endGathering.2.1 18 = .ok (.new 74, 3) := by decide +kernel
theorem dd_V_endGathering_21 : decode mm_V_endGathering.2.1 21 = .ok (.dup, 1) := by decide +kernel
theorem dd_V_endGathering_22 : decode mm_V_endGathering.2.1 22 = .ok (.iload_n 2, 1) := by decide +kernel
theorem dd_V_endGathering_23 : decode mm_V_endGathering.2.1 23 = .ok (.iconst 0, 1) := by decide +kernel
theorem dd_V_endGathering_24 : decode mm_V_endGathering.2.1 24 = .ok (.iconst 0, 1) := by decide +kernel
theorem dd_V_endGathering_25 : decode mm_V_endGathering.2.1 25 = .ok (.iconst 0, 1) := by decide +kernel
theorem dd_V_endGathering_26 : decode mm_V_endGathering.2.1 26 = .ok (.iconst 0, 1) := by decide +kernel
theorem dd_V_endGathering_27 : decode mm_V_endGathering.2.1 27 = .ok (.invokespecial 76, 3) := by decide +kernel
theorem dd_V_endGathering_30 : decode mm_V_endGathering.2.1 30 = .ok (.astore_n 3, 1) := by decide +kernel
theorem dd_V_endGathering_31 : decode mm_V_endGathering.2.1 31 = .ok (.aload_n 0, 1) := by decide +kernel
theorem dd_V_endGathering_32 : decode mm_V_endGathering.2.1 32 = .ok (.getfield 21, 3) := by decide +kernel
theorem dd_V_endGathering_35 : decode mm_V_endGathering.2.1 35 = .ok (.aload_n 3, 1) := by decide +kernel
theorem dd_V_endGathering_36 : decode mm_V_endGathering.2.1 36 = .ok (.aload_n 1, 1) := by decide +kernel
theorem dd_V_endGathering_37 : decode mm_V_endGathering.2.1 37 = .ok (.getfield 281, 3) := by decide +kernel
theorem dd_V_endGathering_40 : decode mm_V_endGathering.2.1 40 = .ok (.bipush 64, 2) := by decide +kernel
theorem dd_V_endGathering_42 : decode mm_V_endGathering.2.1 42 = .ok (.ior, 1) := by decide +kernel
theorem dd_V_endGathering_43 : decode mm_V_endGathering.2.1 43 = .ok (.invokevirtual 272, 3) := by decide +kernel
theorem dd_V_endGathering_46 : decode mm_V_endGathering.2.1 46 = .ok (.aload_n 0, 1) := by decide +kernel
theorem dd_V_endGathering_47 : decode mm_V_endGathering.2.1 47 = .ok (.getfield 28, 3) := by decide +kernel
theorem dd_V_endGathering_50 : decode mm_V_endGathering.2.1 50 = .ok (.iload_n 2, 1) := by decide +kernel
theorem dd_V_endGathering_51 : decode mm_V_endGathering.2.1 51 = .ok (.invokevirtual 284, 3) := by decide +kernel
theorem dd_V_endGathering_54 : decode mm_V_endGathering.2.1 54 = .ok (.return_, 1) := by decide +kernel
theorem dd_V_find_0 : decode mm_V_find.2.1 0 = .ok (.aload_n 0, 1) := by decide +kernel
theorem dd_V_find_1 : decode mm_V_find.2.1 1 = .ok (.getfield 14, 3) := by decide +kernel
theorem dd_V_find_4 : decode mm_V_find.2.1 4 = .ok (.iload_n 1, 1) := by decide +kernel
theorem dd_V_find_5 : decode mm_V_find.2.1 5 = .ok (.iload_n 2, 1) := by decide +kernel
theorem dd_V_find_6 : decode mm_V_find.2.1 6 = .ok (.invokevirtual 151, 3) := by decide +kernel
theorem dd_V_find_9 : decode mm_V_find.2.1 9 = .ok (.astore_n 3, 1) := by decide +kernel
theorem dd_V_find_10 : decode mm_V_find.2.1 10 = .ok (.aload_n 3, 1) := by decide +kernel
theorem dd_V_find_11 : decode mm_V_find.2.1 11 = .ok (.ifnonnull 7, 3) := by decide +kernel
theorem dd_V_find_14 : decode mm_V_find.2.1 14 = .ok (.iconst (-1), 1) := by decide +kernel
theorem dd_V_find_15 : decode mm_V_find.2.1 15 = .ok (.goto 7, 3) := by decide +kernel
theorem dd_V_find_18 : decode mm_V_find.2.1 18 = .ok (.aload_n 3, 1) := by decide +kernel
theorem dd_V_find_19 : decode mm_V_find.2.1 19 = .ok (.getfield 83, 3) := by decide +kernel
theorem dd_V_find_22 : decode mm_V_find.2.1 22 = .ok (.ireturn, 1) := by decide +kernel
theorem dd_V_follow_0 : decode mm_V_follow.2.1 0 = .ok (.aload_n 0, 1) := by decide +kernel
theorem dd_V_follow_1 : decode mm_V_follow.2.1 1 = .ok (.iload_n 1, 1) := by decide +kernel
theorem dd_V_follow_2 : decode mm_V_follow.2.1 2 = .ok (.invokevirtual 170, 3) := by decide +kernel
theorem dd_V_follow_5 : decode mm_V_follow.2.1 5 = .ok (.astore_n 3, 1) := by decide +kernel
theorem dd_V_follow_6 : decode mm_V_follow.2.1 6 = .ok (.iload_n 2, 1) := by decide +kernel
theorem dd_V_follow_7 : decode mm_V_follow.2.1 7 = .ok (.ifCond .lt 9, 3) := by decide +kernel
theorem dd_V_follow_10 : decode mm_V_follow.2.1 10 = .ok (.iload_n 2, 1) := by decide +kernel
theorem dd_V_follow_11 : decode mm_V_follow.2.1 11 = .ok (.bipush 40, 2) := by decide +kernel
theorem dd_V_follow_13 : decode mm_V_follow.2.1 13 = .ok (.if_icmp .le 13, 3) := by decide +kernel
theorem dd_V_follow_16 : decode mm_V_follow.2.1 16 = .ok (.new 174, 3) := by decide +kernel
theorem dd_V_follow_19 : decode mm_V_follow.2.1 19 = .ok (.dup, 1) := by decide +kernel
theorem dd_V_follow_20 : decode mm_V_follow.2.1 20 = .ok (.ldc 210, 2) := by decide +kernel
theorem dd_V_follow_22 : decode mm_V_follow.2.1 22 = .ok (.invokespecial 178, 3) := by decide +kernel
theorem dd_V_follow_25 : decode mm_V_follow.2.1 25 = .ok (.athrow, 1) := by decide +kernel
theorem dd_V_follow_26 : decode mm_V_follow.2.1 26 = .ok (.iconst 0, 1) := by decide +kernel
theorem dd_V_follow_27 : decode mm_V_follow.2.1 27 = .ok (.istore 4, 2) := by decide +kernel
theorem dd_V_follow_29 : decode mm_V_follow.2.1 29 = .ok (.iconst 0, 1) := by decide +kernel
theorem dd_V_follow_30 : decode mm_V_follow.2.1 30 = .ok (.istore 5, 2) := by decide +kernel
theorem dd_V_follow_32 : decode mm_V_follow.2.1 32 = .ok (.iload 5, 2) := by decide +kernel
theorem dd_V_follow_34 : decode mm_V_follow.2.1 34 = .ok (.iload_n 2, 1) := by decide +kernel
theorem dd_V_follow_35 : decode mm_V_follow.2.1 35 = .ok (.if_icmp .ge 27, 3) := by decide +kernel
theorem dd_V_follow_38 : decode mm_V_follow.2.1 38 = .ok (.aload_n 3, 1) := by decide +kernel
theorem dd_V_follow_39 : decode mm_V_follow.2.1 39 = .ok (.aload_n 0, 1) := by decide +kernel
theorem dd_V_follow_40 : decode mm_V_follow.2.1 40 = .ok (.getfield 21, 3) := by decide +kernel
theorem dd_V_follow_43 : decode mm_V_follow.2.1 43 = .ok (.aload_n 0, 1) := by decide +kernel
theorem dd_V_follow_44 : decode mm_V_follow.2.1 44 = .ok (.getfield 14, 3) := by decide +kernel
theorem dd_V_follow_47 : decode mm_V_follow.2.1 47 = .ok (.invokevirtual 212, 3) := by decide +kernel
theorem dd_V_follow_50 : decode mm_V_follow.2.1 50 = .ok (.ifCond .eq 6, 3) := by decide +kernel
theorem dd_V_follow_53 : decode mm_V_follow.2.1 53 = .ok (.iinc 4 1, 3) := by decide +kernel
theorem dd_V_follow_56 : decode mm_V_follow.2.1 56 = .ok (.iinc 5 1, 3) := by decide +kernel
theorem dd_V_follow_59 : decode mm_V_follow.2.1 59 = .ok (.goto (-27), 3) := by decide +kernel
theorem dd_V_follow_62 : decode mm_V_follow.2.1 62 = .ok (.iload 4, 2) := by decide +kernel
theorem dd_V_follow_64 : decode mm_V_follow.2.1 64 = .ok (.ireturn, 1) := by decide +kernel
theorem dd_V_head_0 : decode mm_V_head.2.1 0 = .ok (.aload_n 0, 1) := by decide +kernel
theorem dd_V_head_1 : decode mm_V_head.2.1 1 = .ok (.getfield 21, 3) := by decide +kernel
theorem dd_V_head_4 : decode mm_V_head.2.1 4 = .ok (.invokevirtual 158, 3) := by decide +kernel
theorem dd_V_head_7 : decode mm_V_head.2.1 7 = .ok (.ireturn, 1) := by decide +kernel
theorem dd_V_inStep_0 : decode mm_V_inStep.2.1 0 = .ok (.aload_n 0, 1) := by decide +kernel
theorem dd_V_inStep_1 : decode mm_V_inStep.2.1 1 = .ok (.iload_n 1, 1) := by decide +kernel
theorem dd_V_inStep_2 : decode mm_V_inStep.2.1 2 = .ok (.invokevirtual 170, 3) := by decide +kernel
theorem dd_V_inStep_5 : decode mm_V_inStep.2.1 5 = .ok (.getfield 216, 3) := by decide +kernel
theorem dd_V_inStep_8 : decode mm_V_inStep.2.1 8 = .ok (.aload_n 0, 1) := by decide +kernel
theorem dd_V_inStep_9 : decode mm_V_inStep.2.1 9 = .ok (.getfield 14, 3) := by decide +kernel
theorem dd_V_inStep_12 : decode mm_V_inStep.2.1 12 = .ok (.invokevirtual 224, 3) := by decide +kernel
theorem dd_V_inStep_15 : decode mm_V_inStep.2.1 15 = .ok (.ireturn, 1) := by decide +kernel
theorem dd_V_isOn_0 : decode mm_V_isOn.2.1 0 = .ok (.aload_n 0, 1) := by decide +kernel
theorem dd_V_isOn_1 : decode mm_V_isOn.2.1 1 = .ok (.getfield 43, 3) := by decide +kernel
theorem dd_V_isOn_4 : decode mm_V_isOn.2.1 4 = .ok (.ireturn, 1) := by decide +kernel
theorem dd_V_isOrLiesIn_0 : decode mm_V_isOrLiesIn.2.1 0 = .ok (.iload_n 1, 1) := by decide +kernel
theorem dd_V_isOrLiesIn_1 : decode mm_V_isOrLiesIn.2.1 1 = .ok (.istore_n 3, 1) := by decide +kernel
theorem dd_V_isOrLiesIn_2 : decode mm_V_isOrLiesIn.2.1 2 = .ok (.iconst 0, 1) := by decide +kernel
theorem dd_V_isOrLiesIn_3 : decode mm_V_isOrLiesIn.2.1 3 = .ok (.istore 4, 2) := by decide +kernel
theorem dd_V_isOrLiesIn_5 : decode mm_V_isOrLiesIn.2.1 5 = .ok (.iload 4, 2) := by decide +kernel
theorem dd_V_isOrLiesIn_7 : decode mm_V_isOrLiesIn.2.1 7 = .ok (.bipush 20, 2) := by decide +kernel
theorem dd_V_isOrLiesIn_9 : decode mm_V_isOrLiesIn.2.1 9 = .ok (.if_icmp .gt 39, 3) := by decide +kernel
theorem dd_V_isOrLiesIn_12 : decode mm_V_isOrLiesIn.2.1 12 = .ok (.iload_n 3, 1) := by decide +kernel
theorem dd_V_isOrLiesIn_13 : decode mm_V_isOrLiesIn.2.1 13 = .ok (.iload_n 2, 1) := by decide +kernel
theorem dd_V_isOrLiesIn_14 : decode mm_V_isOrLiesIn.2.1 14 = .ok (.if_icmp .ne 5, 3) := by decide +kernel
theorem dd_V_isOrLiesIn_17 : decode mm_V_isOrLiesIn.2.1 17 = .ok (.iconst 1, 1) := by decide +kernel
theorem dd_V_isOrLiesIn_18 : decode mm_V_isOrLiesIn.2.1 18 = .ok (.ireturn, 1) := by decide +kernel
theorem dd_V_isOrLiesIn_19 : decode mm_V_isOrLiesIn.2.1 19 = .ok (.aload_n 0, 1) := by decide +kernel
theorem dd_V_isOrLiesIn_20 : decode mm_V_isOrLiesIn.2.1 20 = .ok (.getfield 14, 3) := by decide +kernel
theorem dd_V_isOrLiesIn_23 : decode mm_V_isOrLiesIn.2.1 23 = .ok (.iload_n 3, 1) := by decide +kernel
theorem dd_V_isOrLiesIn_24 : decode mm_V_isOrLiesIn.2.1 24 = .ok (.invokevirtual 219, 3) := by decide +kernel
theorem dd_V_isOrLiesIn_27 : decode mm_V_isOrLiesIn.2.1 27 = .ok (.astore 5, 2) := by decide +kernel
theorem dd_V_isOrLiesIn_29 : decode mm_V_isOrLiesIn.2.1 29 = .ok (.aload 5, 2) := by decide +kernel
theorem dd_V_isOrLiesIn_31 : decode mm_V_isOrLiesIn.2.1 31 = .ok (.ifnonnull 5, 3) := by decide +kernel
theorem dd_V_isOrLiesIn_34 : decode mm_V_isOrLiesIn.2.1 34 = .ok (.iconst 0, 1) := by decide +kernel
theorem dd_V_isOrLiesIn_35 : decode mm_V_isOrLiesIn.2.1 35 = .ok (.ireturn, 1) := by decide +kernel
theorem dd_V_isOrLiesIn_36 : decode mm_V_isOrLiesIn.2.1 36 = .ok (.aload 5, 2) := by decide +kernel
theorem dd_V_isOrLiesIn_38 : decode mm_V_isOrLiesIn.2.1 38 = .ok (.getfield 98, 3) := by decide +kernel
theorem dd_V_isOrLiesIn_41 : decode mm_V_isOrLiesIn.2.1 41 = .ok (.istore_n 3, 1) := by decide +kernel
theorem dd_V_isOrLiesIn_42 : decode mm_V_isOrLiesIn.2.1 42 = .ok (.iinc 4 1, 3) := by decide +kernel
theorem dd_V_isOrLiesIn_45 : decode mm_V_isOrLiesIn.2.1 45 = .ok (.goto (-40), 3) := by decide +kernel
theorem dd_V_isOrLiesIn_48 : decode mm_V_isOrLiesIn.2.1 48 = .ok (.iconst 0, 1) := by decide +kernel
theorem dd_V_isOrLiesIn_49 : decode mm_V_isOrLiesIn.2.1 49 = .ok (.ireturn, 1) := by decide +kernel
theorem dd_V_list_0 : decode mm_V_list.2.1 0 = .ok (.aload_n 0, 1) := by decide +kernel
theorem dd_V_list_1 : decode mm_V_list.2.1 1 = .ok (.iload_n 1, 1) := by decide +kernel
theorem dd_V_list_2 : decode mm_V_list.2.1 2 = .ok (.invokevirtual 170, 3) := by decide +kernel
theorem dd_V_list_5 : decode mm_V_list.2.1 5 = .ok (.aload_n 0, 1) := by decide +kernel
theorem dd_V_list_6 : decode mm_V_list.2.1 6 = .ok (.getfield 21, 3) := by decide +kernel
theorem dd_V_list_9 : decode mm_V_list.2.1 9 = .ok (.invokevirtual 193, 3) := by decide +kernel
theorem dd_V_list_12 : decode mm_V_list.2.1 12 = .ok (.return_, 1) := by decide +kernel
theorem dd_V_live_0 : decode mm_V_live.2.1 0 = .ok (.aload_n 0, 1) := by decide +kernel
theorem dd_V_live_1 : decode mm_V_live.2.1 1 = .ok (.getfield 14, 3) := by decide +kernel
theorem dd_V_live_4 : decode mm_V_live.2.1 4 = .ok (.invokevirtual 53, 3) := by decide +kernel
theorem dd_V_live_7 : decode mm_V_live.2.1 7 = .ok (.ireturn, 1) := by decide +kernel
theorem dd_V_liveEntry_0 : decode mm_V_liveEntry.2.1 0 = .ok (.aload_n 0, 1) := by decide +kernel
theorem dd_V_liveEntry_1 : decode mm_V_liveEntry.2.1 1 = .ok (.getfield 14, 3) := by decide +kernel
theorem dd_V_liveEntry_4 : decode mm_V_liveEntry.2.1 4 = .ok (.iload_n 1, 1) := by decide +kernel
theorem dd_V_liveEntry_5 : decode mm_V_liveEntry.2.1 5 = .ok (.invokevirtual 219, 3) := by decide +kernel
theorem dd_V_liveEntry_8 : decode mm_V_liveEntry.2.1 8 = .ok (.astore_n 2, 1) := by decide +kernel
theorem dd_V_liveEntry_9 : decode mm_V_liveEntry.2.1 9 = .ok (.aload_n 2, 1) := by decide +kernel
theorem dd_V_liveEntry_10 : decode mm_V_liveEntry.2.1 10 = .ok (.ifnonnull 13, 3) := by decide +kernel
theorem dd_V_liveEntry_13 : decode mm_V_liveEntry.2.1 13 = .ok (.new 133, 3) := by decide +kernel
theorem dd_V_liveEntry_16 : decode mm_V_liveEntry.2.1 16 = .ok (.dup, 1) := by decide +kernel
theorem dd_V_liveEntry_17 : decode mm_V_liveEntry.2.1 17 = .ok (.ldc 254, 2) := by decide +kernel
theorem dd_V_liveEntry_19 : decode mm_V_liveEntry.2.1 19 = .ok (.invokespecial 137, 3) := by decide +kernel
theorem dd_V_liveEntry_22 : decode mm_V_liveEntry.2.1 22 = .ok (.athrow, 1) := by decide +kernel
theorem dd_V_liveEntry_23 : decode mm_V_liveEntry.2.1 23 = .ok (.aload_n 2, 1) := by decide +kernel
theorem dd_V_liveEntry_24 : decode mm_V_liveEntry.2.1 24 = .ok (.areturn, 1) := by decide +kernel
theorem dd_V_make_0 : decode mm_V_make.2.1 0 = .ok (.aload_n 0, 1) := by decide +kernel
theorem dd_V_make_1 : decode mm_V_make.2.1 1 = .ok (.invokevirtual 50, 3) := by decide +kernel
theorem dd_V_make_4 : decode mm_V_make.2.1 4 = .ok (.aload_n 0, 1) := by decide +kernel
theorem dd_V_make_5 : decode mm_V_make.2.1 5 = .ok (.getfield 14, 3) := by decide +kernel
theorem dd_V_make_8 : decode mm_V_make.2.1 8 = .ok (.invokevirtual 53, 3) := by decide +kernel
theorem dd_V_make_11 : decode mm_V_make.2.1 11 = .ok (.bipush 20, 2) := by decide +kernel
theorem dd_V_make_13 : decode mm_V_make.2.1 13 = .ok (.if_icmp .lt 13, 3) := by decide +kernel
theorem dd_V_make_16 : decode mm_V_make.2.1 16 = .ok (.new 57, 3) := by decide +kernel
theorem dd_V_make_19 : decode mm_V_make.2.1 19 = .ok (.dup, 1) := by decide +kernel
theorem dd_V_make_20 : decode mm_V_make.2.1 20 = .ok (.ldc 59, 2) := by decide +kernel
theorem dd_V_make_22 : decode mm_V_make.2.1 22 = .ok (.invokespecial 61, 3) := by decide +kernel
theorem dd_V_make_25 : decode mm_V_make.2.1 25 = .ok (.athrow, 1) := by decide +kernel
theorem dd_V_make_26 : decode mm_V_make.2.1 26 = .ok (.iload_n 3, 1) := by decide +kernel
theorem dd_V_make_27 : decode mm_V_make.2.1 27 = .ok (.invokestatic 64, 3) := by decide +kernel
theorem dd_V_make_30 : decode mm_V_make.2.1 30 = .ok (.aload_n 0, 1) := by decide +kernel
theorem dd_V_make_31 : decode mm_V_make.2.1 31 = .ok (.iload_n 1, 1) := by decide +kernel
theorem dd_V_make_32 : decode mm_V_make.2.1 32 = .ok (.invokevirtual 67, 3) := by decide +kernel
theorem dd_V_make_35 : decode mm_V_make.2.1 35 = .ok (.aload_n 0, 1) := by decide +kernel
theorem dd_V_make_36 : decode mm_V_make.2.1 36 = .ok (.iload_n 1, 1) := by decide +kernel
theorem dd_V_make_37 : decode mm_V_make.2.1 37 = .ok (.iload_n 3, 1) := by decide +kernel
theorem dd_V_make_38 : decode mm_V_make.2.1 38 = .ok (.iconst (-1), 1) := by decide +kernel
theorem dd_V_make_39 : decode mm_V_make.2.1 39 = .ok (.invokevirtual 70, 3) := by decide +kernel
theorem dd_V_make_42 : decode mm_V_make.2.1 42 = .ok (.new 74, 3) := by decide +kernel
theorem dd_V_make_45 : decode mm_V_make.2.1 45 = .ok (.dup, 1) := by decide +kernel
theorem dd_V_make_46 : decode mm_V_make.2.1 46 = .ok (.aload_n 0, 1) := by decide +kernel
theorem dd_V_make_47 : decode mm_V_make.2.1 47 = .ok (.getfield 39, 3) := by decide +kernel
theorem dd_V_make_50 : decode mm_V_make.2.1 50 = .ok (.iload_n 2, 1) := by decide +kernel
theorem dd_V_make_51 : decode mm_V_make.2.1 51 = .ok (.ifCond .eq 7, 3) := by decide +kernel
theorem dd_V_make_54 : decode mm_V_make.2.1 54 = .ok (.iconst 1, 1) := by decide +kernel
theorem dd_V_make_55 : decode mm_V_make.2.1 55 = .ok (.goto 4, 3) := by decide +kernel
theorem dd_V_make_58 : decode mm_V_make.2.1 58 = .ok (.iconst 0, 1) := by decide +kernel
theorem dd_V_make_59 : decode mm_V_make.2.1 59 = .ok (.iload_n 1, 1) := by decide +kernel
theorem dd_V_make_60 : decode mm_V_make.2.1 60 = .ok (.iload_n 3, 1) := by decide +kernel
theorem dd_V_make_61 : decode mm_V_make.2.1 61 = .ok (.iconst 0, 1) := by decide +kernel
theorem dd_V_make_62 : decode mm_V_make.2.1 62 = .ok (.invokespecial 76, 3) := by decide +kernel
theorem dd_V_make_65 : decode mm_V_make.2.1 65 = .ok (.astore 4, 2) := by decide +kernel
theorem dd_V_make_67 : decode mm_V_make.2.1 67 = .ok (.aload_n 0, 1) := by decide +kernel
theorem dd_V_make_68 : decode mm_V_make.2.1 68 = .ok (.aload 4, 2) := by decide +kernel
theorem dd_V_make_70 : decode mm_V_make.2.1 70 = .ok (.iconst 1, 1) := by decide +kernel
theorem dd_V_make_71 : decode mm_V_make.2.1 71 = .ok (.invokevirtual 79, 3) := by decide +kernel
theorem dd_V_make_74 : decode mm_V_make.2.1 74 = .ok (.ifCond .ne 6, 3) := by decide +kernel
theorem dd_V_make_77 : decode mm_V_make.2.1 77 = .ok (.bipush (-2), 2) := by decide +kernel
theorem dd_V_make_79 : decode mm_V_make.2.1 79 = .ok (.ireturn, 1) := by decide +kernel
theorem dd_V_make_80 : decode mm_V_make.2.1 80 = .ok (.aload_n 0, 1) := by decide +kernel
theorem dd_V_make_81 : decode mm_V_make.2.1 81 = .ok (.dup, 1) := by decide +kernel
theorem dd_V_make_82 : decode mm_V_make.2.1 82 = .ok (.getfield 39, 3) := by decide +kernel
theorem dd_V_make_85 : decode mm_V_make.2.1 85 = .ok (.iconst 1, 1) := by decide +kernel
theorem dd_V_make_86 : decode mm_V_make.2.1 86 = .ok (.iadd, 1) := by decide +kernel
theorem dd_V_make_87 : decode mm_V_make.2.1 87 = .ok (.putfield 39, 3) := by decide +kernel
theorem dd_V_make_90 : decode mm_V_make.2.1 90 = .ok (.aload 4, 2) := by decide +kernel
theorem dd_V_make_92 : decode mm_V_make.2.1 92 = .ok (.getfield 83, 3) := by decide +kernel
theorem dd_V_make_95 : decode mm_V_make.2.1 95 = .ok (.ireturn, 1) := by decide +kernel
theorem dd_V_note_0 : decode mm_V_note.2.1 0 = .ok (.aload_n 0, 1) := by decide +kernel
theorem dd_V_note_1 : decode mm_V_note.2.1 1 = .ok (.getfield 21, 3) := by decide +kernel
theorem dd_V_note_4 : decode mm_V_note.2.1 4 = .ok (.iload_n 1, 1) := by decide +kernel
theorem dd_V_note_5 : decode mm_V_note.2.1 5 = .ok (.invokevirtual 161, 3) := by decide +kernel
theorem dd_V_note_8 : decode mm_V_note.2.1 8 = .ok (.astore_n 3, 1) := by decide +kernel
theorem dd_V_note_9 : decode mm_V_note.2.1 9 = .ok (.aload_n 3, 1) := by decide +kernel
theorem dd_V_note_10 : decode mm_V_note.2.1 10 = .ok (.ifnonnull 13, 3) := by decide +kernel
theorem dd_V_note_13 : decode mm_V_note.2.1 13 = .ok (.new 133, 3) := by decide +kernel
theorem dd_V_note_16 : decode mm_V_note.2.1 16 = .ok (.dup, 1) := by decide +kernel
theorem dd_V_note_17 : decode mm_V_note.2.1 17 = .ok (.ldc 165, 2) := by decide +kernel
theorem dd_V_note_19 : decode mm_V_note.2.1 19 = .ok (.invokespecial 137, 3) := by decide +kernel
theorem dd_V_note_22 : decode mm_V_note.2.1 22 = .ok (.athrow, 1) := by decide +kernel
theorem dd_V_note_23 : decode mm_V_note.2.1 23 = .ok (.iload_n 2, 1) := by decide +kernel
theorem dd_V_note_24 : decode mm_V_note.2.1 24 = .ok (.bipush 6, 2) := by decide +kernel
theorem dd_V_note_26 : decode mm_V_note.2.1 26 = .ok (.invokestatic 143, 3) := by decide +kernel
theorem dd_V_note_29 : decode mm_V_note.2.1 29 = .ok (.aload_n 3, 1) := by decide +kernel
theorem dd_V_note_30 : decode mm_V_note.2.1 30 = .ok (.iload_n 2, 1) := by decide +kernel
theorem dd_V_note_31 : decode mm_V_note.2.1 31 = .ok (.invokevirtual 167, 3) := by decide +kernel
theorem dd_V_note_34 : decode mm_V_note.2.1 34 = .ok (.ireturn, 1) := by decide +kernel
theorem dd_V_noteAndDo_0 : decode mm_V_noteAndDo.2.1 0 = .ok (.aload_n 0, 1) := by decide +kernel
theorem dd_V_noteAndDo_1 : decode mm_V_noteAndDo.2.1 1 = .ok (.aload_n 1, 1) := by decide +kernel
theorem dd_V_noteAndDo_2 : decode mm_V_noteAndDo.2.1 2 = .ok (.iload_n 2, 1) := by decide +kernel
theorem dd_V_noteAndDo_3 : decode mm_V_noteAndDo.2.1 3 = .ok (.invokevirtual 113, 3) := by decide +kernel
theorem dd_V_noteAndDo_6 : decode mm_V_noteAndDo.2.1 6 = .ok (.ifCond .eq 10, 3) := by decide +kernel
theorem dd_V_noteAndDo_9 : decode mm_V_noteAndDo.2.1 9 = .ok (.aload_n 0, 1) := by decide +kernel
theorem dd_V_noteAndDo_10 : decode mm_V_noteAndDo.2.1 10 = .ok (.invokevirtual 122, 3) := by decide +kernel
theorem dd_V_noteAndDo_13 : decode mm_V_noteAndDo.2.1 13 = .ok (.ifCond .ne 5, 3) := by decide +kernel
theorem dd_V_noteAndDo_16 : decode mm_V_noteAndDo.2.1 16 = .ok (.iconst 0, 1) := by decide +kernel
theorem dd_V_noteAndDo_17 : decode mm_V_noteAndDo.2.1 17 = .ok (.ireturn, 1) := by decide +kernel
theorem dd_V_noteAndDo_18 : decode mm_V_noteAndDo.2.1 18 = .ok (.aload_n 0, 1) := by decide +kernel
theorem dd_V_noteAndDo_19 : decode mm_V_noteAndDo.2.1 19 = .ok (.getfield 14, 3) := by decide +kernel
theorem dd_V_noteAndDo_22 : decode mm_V_noteAndDo.2.1 22 = .ok (.aload_n 1, 1) := by decide +kernel
theorem dd_V_noteAndDo_23 : decode mm_V_noteAndDo.2.1 23 = .ok (.invokevirtual 261, 3) := by decide +kernel
theorem dd_V_noteAndDo_26 : decode mm_V_noteAndDo.2.1 26 = .ok (.iconst 1, 1) := by decide +kernel
theorem dd_V_noteAndDo_27 : decode mm_V_noteAndDo.2.1 27 = .ok (.ireturn, 1) := by decide +kernel
theorem dd_V_of_0 : decode mm_V_of.2.1 0 = .ok (.aload_n 0, 1) := by decide +kernel
theorem dd_V_of_1 : decode mm_V_of.2.1 1 = .ok (.iload_n 1, 1) := by decide +kernel
theorem dd_V_of_2 : decode mm_V_of.2.1 2 = .ok (.invokevirtual 86, 3) := by decide +kernel
theorem dd_V_of_5 : decode mm_V_of.2.1 5 = .ok (.astore_n 3, 1) := by decide +kernel
theorem dd_V_of_6 : decode mm_V_of.2.1 6 = .ok (.iload_n 2, 1) := by decide +kernel
theorem dd_V_of_7 : decode mm_V_of.2.1 7 = .ok (.iconst 4, 1) := by decide +kernel
theorem dd_V_of_8 : decode mm_V_of.2.1 8 = .ok (.invokestatic 143, 3) := by decide +kernel
theorem dd_V_of_11 : decode mm_V_of.2.1 11 = .ok (.aload_n 3, 1) := by decide +kernel
theorem dd_V_of_12 : decode mm_V_of.2.1 12 = .ok (.iload_n 2, 1) := by decide +kernel
theorem dd_V_of_13 : decode mm_V_of.2.1 13 = .ok (.invokevirtual 147, 3) := by decide +kernel
theorem dd_V_of_16 : decode mm_V_of.2.1 16 = .ok (.ireturn, 1) := by decide +kernel
theorem dd_V_open_0 : decode mm_V_open.2.1 0 = .ok (.aload_n 0, 1) := by decide +kernel
theorem dd_V_open_1 : decode mm_V_open.2.1 1 = .ok (.getfield 28, 3) := by decide +kernel
theorem dd_V_open_4 : decode mm_V_open.2.1 4 = .ok (.invokevirtual 142, 3) := by decide +kernel
theorem dd_V_open_7 : decode mm_V_open.2.1 7 = .ok (.ireturn, 1) := by decide +kernel
theorem dd_V_page_0 : decode mm_V_page.2.1 0 = .ok (.aload_n 0, 1) := by decide +kernel
theorem dd_V_page_1 : decode mm_V_page.2.1 1 = .ok (.iload_n 1, 1) := by decide +kernel
theorem dd_V_page_2 : decode mm_V_page.2.1 2 = .ok (.invokevirtual 170, 3) := by decide +kernel
theorem dd_V_page_5 : decode mm_V_page.2.1 5 = .ok (.astore_n 2, 1) := by decide +kernel
theorem dd_V_page_6 : decode mm_V_page.2.1 6 = .ok (.aload_n 2, 1) := by decide +kernel
theorem dd_V_page_7 : decode mm_V_page.2.1 7 = .ok (.getfield 197, 3) := by decide +kernel
theorem dd_V_page_10 : decode mm_V_page.2.1 10 = .ok (.ifCond .ne 13, 3) := by decide +kernel
theorem dd_V_page_13 : decode mm_V_page.2.1 13 = .ok (.new 57, 3) := by decide +kernel
theorem dd_V_page_16 : decode mm_V_page.2.1 16 = .ok (.dup, 1) := by decide +kernel
theorem dd_V_page_17 : decode mm_V_page.2.1 17 = .ok (.ldc 200, 2) := by decide +kernel
theorem dd_V_page_19 : decode mm_V_page.2.1 19 = .ok (.invokespecial 61, 3) := by decide +kernel
theorem dd_V_page_22 : decode mm_V_page.2.1 22 = .ok (.athrow, 1) := by decide +kernel
theorem dd_V_page_23 : decode mm_V_page.2.1 23 = .ok (.aload_n 2, 1) := by decide +kernel
theorem dd_V_page_24 : decode mm_V_page.2.1 24 = .ok (.aload_n 0, 1) := by decide +kernel
theorem dd_V_page_25 : decode mm_V_page.2.1 25 = .ok (.getfield 14, 3) := by decide +kernel
theorem dd_V_page_28 : decode mm_V_page.2.1 28 = .ok (.invokevirtual 202, 3) := by decide +kernel
theorem dd_V_page_31 : decode mm_V_page.2.1 31 = .ok (.ireturn, 1) := by decide +kernel
theorem dd_V_read_0 : decode mm_V_read.2.1 0 = .ok (.aload_n 0, 1) := by decide +kernel
theorem dd_V_read_1 : decode mm_V_read.2.1 1 = .ok (.iload_n 1, 1) := by decide +kernel
theorem dd_V_read_2 : decode mm_V_read.2.1 2 = .ok (.invokevirtual 170, 3) := by decide +kernel
theorem dd_V_read_5 : decode mm_V_read.2.1 5 = .ok (.astore_n 2, 1) := by decide +kernel
theorem dd_V_read_6 : decode mm_V_read.2.1 6 = .ok (.aload_n 2, 1) := by decide +kernel
theorem dd_V_read_7 : decode mm_V_read.2.1 7 = .ok (.aload_n 0, 1) := by decide +kernel
theorem dd_V_read_8 : decode mm_V_read.2.1 8 = .ok (.getfield 21, 3) := by decide +kernel
theorem dd_V_read_11 : decode mm_V_read.2.1 11 = .ok (.aload_n 2, 1) := by decide +kernel
theorem dd_V_read_12 : decode mm_V_read.2.1 12 = .ok (.getfield 186, 3) := by decide +kernel
theorem dd_V_read_15 : decode mm_V_read.2.1 15 = .ok (.invokevirtual 189, 3) := by decide +kernel
theorem dd_V_read_18 : decode mm_V_read.2.1 18 = .ok (.ireturn, 1) := by decide +kernel
theorem dd_V_remove_0 : decode mm_V_remove.2.1 0 = .ok (.aload_n 0, 1) := by decide +kernel
theorem dd_V_remove_1 : decode mm_V_remove.2.1 1 = .ok (.invokevirtual 50, 3) := by decide +kernel
theorem dd_V_remove_4 : decode mm_V_remove.2.1 4 = .ok (.aload_n 0, 1) := by decide +kernel
theorem dd_V_remove_5 : decode mm_V_remove.2.1 5 = .ok (.iload_n 1, 1) := by decide +kernel
theorem dd_V_remove_6 : decode mm_V_remove.2.1 6 = .ok (.invokevirtual 86, 3) := by decide +kernel
theorem dd_V_remove_9 : decode mm_V_remove.2.1 9 = .ok (.astore_n 2, 1) := by decide +kernel
theorem dd_V_remove_10 : decode mm_V_remove.2.1 10 = .ok (.aload_n 0, 1) := by decide +kernel
theorem dd_V_remove_11 : decode mm_V_remove.2.1 11 = .ok (.getfield 14, 3) := by decide +kernel
theorem dd_V_remove_14 : decode mm_V_remove.2.1 14 = .ok (.iload_n 1, 1) := by decide +kernel
theorem dd_V_remove_15 : decode mm_V_remove.2.1 15 = .ok (.invokevirtual 116, 3) := by decide +kernel
theorem dd_V_remove_18 : decode mm_V_remove.2.1 18 = .ok (.ifCond .eq 13, 3) := by decide +kernel
theorem dd_V_remove_21 : decode mm_V_remove.2.1 21 = .ok (.new 93, 3) := by decide +kernel
theorem dd_V_remove_24 : decode mm_V_remove.2.1 24 = .ok (.dup, 1) := by decide +kernel
theorem dd_V_remove_25 : decode mm_V_remove.2.1 25 = .ok (.ldc 120, 2) := by decide +kernel
theorem dd_V_remove_27 : decode mm_V_remove.2.1 27 = .ok (.invokespecial 97, 3) := by decide +kernel
theorem dd_V_remove_30 : decode mm_V_remove.2.1 30 = .ok (.athrow, 1) := by decide +kernel
theorem dd_V_remove_31 : decode mm_V_remove.2.1 31 = .ok (.aload_n 0, 1) := by decide +kernel
theorem dd_V_remove_32 : decode mm_V_remove.2.1 32 = .ok (.aload_n 2, 1) := by decide +kernel
theorem dd_V_remove_33 : decode mm_V_remove.2.1 33 = .ok (.bipush 32, 2) := by decide +kernel
theorem dd_V_remove_35 : decode mm_V_remove.2.1 35 = .ok (.invokevirtual 113, 3) := by decide +kernel
theorem dd_V_remove_38 : decode mm_V_remove.2.1 38 = .ok (.ifCond .eq 10, 3) := by decide +kernel
theorem dd_V_remove_41 : decode mm_V_remove.2.1 41 = .ok (.aload_n 0, 1) := by decide +kernel
theorem dd_V_remove_42 : decode mm_V_remove.2.1 42 = .ok (.invokevirtual 122, 3) := by decide +kernel
theorem dd_V_remove_45 : decode mm_V_remove.2.1 45 = .ok (.ifCond .ne 5, 3) := by decide +kernel
theorem dd_V_remove_48 : decode mm_V_remove.2.1 48 = .ok (.iconst 0, 1) := by decide +kernel
theorem dd_V_remove_49 : decode mm_V_remove.2.1 49 = .ok (.ireturn, 1) := by decide +kernel
theorem dd_V_remove_50 : decode mm_V_remove.2.1 50 = .ok (.aload_n 0, 1) := by decide +kernel
theorem dd_V_remove_51 : decode mm_V_remove.2.1 51 = .ok (.getfield 14, 3) := by decide +kernel
theorem dd_V_remove_54 : decode mm_V_remove.2.1 54 = .ok (.iload_n 1, 1) := by decide +kernel
theorem dd_V_remove_55 : decode mm_V_remove.2.1 55 = .ok (.invokevirtual 126, 3) := by decide +kernel
theorem dd_V_remove_58 : decode mm_V_remove.2.1 58 = .ok (.iconst 1, 1) := by decide +kernel
theorem dd_V_remove_59 : decode mm_V_remove.2.1 59 = .ok (.ireturn, 1) := by decide +kernel
theorem dd_V_rename_0 : decode mm_V_rename.2.1 0 = .ok (.aload_n 0, 1) := by decide +kernel
theorem dd_V_rename_1 : decode mm_V_rename.2.1 1 = .ok (.invokevirtual 50, 3) := by decide +kernel
theorem dd_V_rename_4 : decode mm_V_rename.2.1 4 = .ok (.iload_n 3, 1) := by decide +kernel
theorem dd_V_rename_5 : decode mm_V_rename.2.1 5 = .ok (.invokestatic 64, 3) := by decide +kernel
theorem dd_V_rename_8 : decode mm_V_rename.2.1 8 = .ok (.aload_n 0, 1) := by decide +kernel
theorem dd_V_rename_9 : decode mm_V_rename.2.1 9 = .ok (.iload_n 1, 1) := by decide +kernel
theorem dd_V_rename_10 : decode mm_V_rename.2.1 10 = .ok (.invokevirtual 86, 3) := by decide +kernel
theorem dd_V_rename_13 : decode mm_V_rename.2.1 13 = .ok (.astore 4, 2) := by decide +kernel
theorem dd_V_rename_15 : decode mm_V_rename.2.1 15 = .ok (.aload_n 0, 1) := by decide +kernel
theorem dd_V_rename_16 : decode mm_V_rename.2.1 16 = .ok (.iload_n 2, 1) := by decide +kernel
theorem dd_V_rename_17 : decode mm_V_rename.2.1 17 = .ok (.invokevirtual 67, 3) := by decide +kernel
theorem dd_V_rename_20 : decode mm_V_rename.2.1 20 = .ok (.aload_n 0, 1) := by decide +kernel
theorem dd_V_rename_21 : decode mm_V_rename.2.1 21 = .ok (.iload_n 2, 1) := by decide +kernel
theorem dd_V_rename_22 : decode mm_V_rename.2.1 22 = .ok (.iload_n 1, 1) := by decide +kernel
theorem dd_V_rename_23 : decode mm_V_rename.2.1 23 = .ok (.invokevirtual 107, 3) := by decide +kernel
theorem dd_V_rename_26 : decode mm_V_rename.2.1 26 = .ok (.ifCond .eq 13, 3) := by decide +kernel
theorem dd_V_rename_29 : decode mm_V_rename.2.1 29 = .ok (.new 93, 3) := by decide +kernel
theorem dd_V_rename_32 : decode mm_V_rename.2.1 32 = .ok (.dup, 1) := by decide +kernel
theorem dd_V_rename_33 : decode mm_V_rename.2.1 33 = .ok (.ldc 111, 2) := by decide +kernel
theorem dd_V_rename_35 : decode mm_V_rename.2.1 35 = .ok (.invokespecial 97, 3) := by decide +kernel
theorem dd_V_rename_38 : decode mm_V_rename.2.1 38 = .ok (.athrow, 1) := by decide +kernel
theorem dd_V_rename_39 : decode mm_V_rename.2.1 39 = .ok (.aload_n 0, 1) := by decide +kernel
theorem dd_V_rename_40 : decode mm_V_rename.2.1 40 = .ok (.iload_n 2, 1) := by decide +kernel
theorem dd_V_rename_41 : decode mm_V_rename.2.1 41 = .ok (.iload_n 3, 1) := by decide +kernel
theorem dd_V_rename_42 : decode mm_V_rename.2.1 42 = .ok (.iload_n 1, 1) := by decide +kernel
theorem dd_V_rename_43 : decode mm_V_rename.2.1 43 = .ok (.invokevirtual 70, 3) := by decide +kernel
theorem dd_V_rename_46 : decode mm_V_rename.2.1 46 = .ok (.iload_n 2, 1) := by decide +kernel
theorem dd_V_rename_47 : decode mm_V_rename.2.1 47 = .ok (.aload 4, 2) := by decide +kernel
theorem dd_V_rename_49 : decode mm_V_rename.2.1 49 = .ok (.getfield 98, 3) := by decide +kernel
theorem dd_V_rename_52 : decode mm_V_rename.2.1 52 = .ok (.if_icmp .eq 7, 3) := by decide +kernel
theorem dd_V_rename_55 : decode mm_V_rename.2.1 55 = .ok (.iconst 1, 1) := by decide +kernel
theorem dd_V_rename_56 : decode mm_V_rename.2.1 56 = .ok (.goto 4, 3) := by decide +kernel
theorem dd_V_rename_59 : decode mm_V_rename.2.1 59 = .ok (.iconst 0, 1) := by decide +kernel
theorem dd_V_rename_60 : decode mm_V_rename.2.1 60 = .ok (.istore 5, 2) := by decide +kernel
theorem dd_V_rename_62 : decode mm_V_rename.2.1 62 = .ok (.iload 5, 2) := by decide +kernel
theorem dd_V_rename_64 : decode mm_V_rename.2.1 64 = .ok (.ifCond .ne 14, 3) := by decide +kernel
theorem dd_V_rename_67 : decode mm_V_rename.2.1 67 = .ok (.iload_n 3, 1) := by decide +kernel
theorem dd_V_rename_68 : decode mm_V_rename.2.1 68 = .ok (.aload 4, 2) := by decide +kernel
theorem dd_V_rename_70 : decode mm_V_rename.2.1 70 = .ok (.getfield 101, 3) := by decide +kernel
theorem dd_V_rename_73 : decode mm_V_rename.2.1 73 = .ok (.if_icmp .ne 5, 3) := by decide +kernel
theorem dd_V_rename_76 : decode mm_V_rename.2.1 76 = .ok (.iconst 0, 1) := by decide +kernel
theorem dd_V_rename_77 : decode mm_V_rename.2.1 77 = .ok (.ireturn, 1) := by decide +kernel
theorem dd_V_rename_78 : decode mm_V_rename.2.1 78 = .ok (.aload_n 0, 1) := by decide +kernel
theorem dd_V_rename_79 : decode mm_V_rename.2.1 79 = .ok (.aload 4, 2) := by decide +kernel
theorem dd_V_rename_81 : decode mm_V_rename.2.1 81 = .ok (.iconst 4, 1) := by decide +kernel
theorem dd_V_rename_82 : decode mm_V_rename.2.1 82 = .ok (.invokevirtual 113, 3) := by decide +kernel
theorem dd_V_rename_85 : decode mm_V_rename.2.1 85 = .ok (.ifCond .ne 5, 3) := by decide +kernel
theorem dd_V_rename_88 : decode mm_V_rename.2.1 88 = .ok (.iconst 0, 1) := by decide +kernel
theorem dd_V_rename_89 : decode mm_V_rename.2.1 89 = .ok (.ireturn, 1) := by decide +kernel
theorem dd_V_rename_90 : decode mm_V_rename.2.1 90 = .ok (.new 74, 3) := by decide +kernel
theorem dd_V_rename_93 : decode mm_V_rename.2.1 93 = .ok (.dup, 1) := by decide +kernel
theorem dd_V_rename_94 : decode mm_V_rename.2.1 94 = .ok (.iload_n 1, 1) := by decide +kernel
theorem dd_V_rename_95 : decode mm_V_rename.2.1 95 = .ok (.aload 4, 2) := by decide +kernel
theorem dd_V_rename_97 : decode mm_V_rename.2.1 97 = .ok (.getfield 90, 3) := by decide +kernel
theorem dd_V_rename_100 : decode mm_V_rename.2.1 100 = .ok (.iload_n 2, 1) := by decide +kernel
theorem dd_V_rename_101 : decode mm_V_rename.2.1 101 = .ok (.iload_n 3, 1) := by decide +kernel
theorem dd_V_rename_102 : decode mm_V_rename.2.1 102 = .ok (.aload 4, 2) := by decide +kernel
theorem dd_V_rename_104 : decode mm_V_rename.2.1 104 = .ok (.getfield 104, 3) := by decide +kernel
theorem dd_V_rename_107 : decode mm_V_rename.2.1 107 = .ok (.invokespecial 76, 3) := by decide +kernel
theorem dd_V_rename_110 : decode mm_V_rename.2.1 110 = .ok (.astore 6, 2) := by decide +kernel
theorem dd_V_rename_112 : decode mm_V_rename.2.1 112 = .ok (.aload_n 0, 1) := by decide +kernel
theorem dd_V_rename_113 : decode mm_V_rename.2.1 113 = .ok (.aload 6, 2) := by decide +kernel
theorem dd_V_rename_115 : decode mm_V_rename.2.1 115 = .ok (.iload 5, 2) := by decide +kernel
theorem dd_V_rename_117 : decode mm_V_rename.2.1 117 = .ok (.ifCond .eq 8, 3) := by decide +kernel
theorem dd_V_rename_120 : decode mm_V_rename.2.1 120 = .ok (.bipush 24, 2) := by decide +kernel
theorem dd_V_rename_122 : decode mm_V_rename.2.1 122 = .ok (.goto 5, 3) := by decide +kernel
theorem dd_V_rename_125 : decode mm_V_rename.2.1 125 = .ok (.bipush 8, 2) := by decide +kernel
theorem dd_V_rename_127 : decode mm_V_rename.2.1 127 = .ok (.invokevirtual 79, 3) := by decide +kernel
theorem dd_V_rename_130 : decode mm_V_rename.2.1 130 = .ok (.ireturn, 1) := by decide +kernel
theorem dd_V_shown_0 : decode mm_V_shown.2.1 0 = .ok (.aload_n 0, 1) := by decide +kernel
theorem dd_V_shown_1 : decode mm_V_shown.2.1 1 = .ok (.iload_n 1, 1) := by decide +kernel
theorem dd_V_shown_2 : decode mm_V_shown.2.1 2 = .ok (.invokevirtual 170, 3) := by decide +kernel
theorem dd_V_shown_5 : decode mm_V_shown.2.1 5 = .ok (.astore_n 3, 1) := by decide +kernel
theorem dd_V_shown_6 : decode mm_V_shown.2.1 6 = .ok (.iload_n 2, 1) := by decide +kernel
theorem dd_V_shown_7 : decode mm_V_shown.2.1 7 = .ok (.ifCond .lt 8, 3) := by decide +kernel
theorem dd_V_shown_10 : decode mm_V_shown.2.1 10 = .ok (.iload_n 2, 1) := by decide +kernel
theorem dd_V_shown_11 : decode mm_V_shown.2.1 11 = .ok (.iconst 4, 1) := by decide +kernel
theorem dd_V_shown_12 : decode mm_V_shown.2.1 12 = .ok (.if_icmp .lt 7, 3) := by decide +kernel
theorem dd_V_shown_15 : decode mm_V_shown.2.1 15 = .ok (.iconst (-1), 1) := by decide +kernel
theorem dd_V_shown_16 : decode mm_V_shown.2.1 16 = .ok (.goto 9, 3) := by decide +kernel
theorem dd_V_shown_19 : decode mm_V_shown.2.1 19 = .ok (.aload_n 3, 1) := by decide +kernel
theorem dd_V_shown_20 : decode mm_V_shown.2.1 20 = .ok (.getfield 206, 3) := by decide +kernel
theorem dd_V_shown_23 : decode mm_V_shown.2.1 23 = .ok (.iload_n 2, 1) := by decide +kernel
theorem dd_V_shown_24 : decode mm_V_shown.2.1 24 = .ok (.iaload, 1) := by decide +kernel
theorem dd_V_shown_25 : decode mm_V_shown.2.1 25 = .ok (.ireturn, 1) := by decide +kernel
theorem dd_V_spendWrite_0 : decode mm_V_spendWrite.2.1 0 = .ok (.aload_n 0, 1) := by decide +kernel
theorem dd_V_spendWrite_1 : decode mm_V_spendWrite.2.1 1 = .ok (.getfield 47, 3) := by decide +kernel
theorem dd_V_spendWrite_4 : decode mm_V_spendWrite.2.1 4 = .ok (.ifCond .ne 17, 3) := by decide +kernel
theorem dd_V_spendWrite_7 : decode mm_V_spendWrite.2.1 7 = .ok (.aload_n 0, 1) := by decide +kernel
theorem dd_V_spendWrite_8 : decode mm_V_spendWrite.2.1 8 = .ok (.iconst 0, 1) := by decide +kernel
theorem dd_V_spendWrite_9 : decode mm_V_spendWrite.2.1 9 = .ok (.putfield 43, 3) := by decide +kernel
theorem dd_V_spendWrite_12 : decode mm_V_spendWrite.2.1 12 = .ok (.aload_n 0, 1) := by decide +kernel
theorem dd_V_spendWrite_13 : decode mm_V_spendWrite.2.1 13 = .ok (.getfield 28, 3) := by decide +kernel
theorem dd_V_spendWrite_16 : decode mm_V_spendWrite.2.1 16 = .ok (.invokevirtual 258, 3) := by decide +kernel
theorem dd_V_spendWrite_19 : decode mm_V_spendWrite.2.1 19 = .ok (.iconst 0, 1) := by decide +kernel
theorem dd_V_spendWrite_20 : decode mm_V_spendWrite.2.1 20 = .ok (.ireturn, 1) := by decide +kernel
theorem dd_V_spendWrite_21 : decode mm_V_spendWrite.2.1 21 = .ok (.aload_n 0, 1) := by decide +kernel
theorem dd_V_spendWrite_22 : decode mm_V_spendWrite.2.1 22 = .ok (.getfield 47, 3) := by decide +kernel
theorem dd_V_spendWrite_25 : decode mm_V_spendWrite.2.1 25 = .ok (.ifCond .le 13, 3) := by decide +kernel
theorem dd_V_spendWrite_28 : decode mm_V_spendWrite.2.1 28 = .ok (.aload_n 0, 1) := by decide +kernel
theorem dd_V_spendWrite_29 : decode mm_V_spendWrite.2.1 29 = .ok (.dup, 1) := by decide +kernel
theorem dd_V_spendWrite_30 : decode mm_V_spendWrite.2.1 30 = .ok (.getfield 47, 3) := by decide +kernel
theorem dd_V_spendWrite_33 : decode mm_V_spendWrite.2.1 33 = .ok (.iconst 1, 1) := by decide +kernel
theorem dd_V_spendWrite_34 : decode mm_V_spendWrite.2.1 34 = .ok (.isub, 1) := by decide +kernel
theorem dd_V_spendWrite_35 : decode mm_V_spendWrite.2.1 35 = .ok (.putfield 47, 3) := by decide +kernel
theorem dd_V_spendWrite_38 : decode mm_V_spendWrite.2.1 38 = .ok (.iconst 1, 1) := by decide +kernel
theorem dd_V_spendWrite_39 : decode mm_V_spendWrite.2.1 39 = .ok (.ireturn, 1) := by decide +kernel
theorem dd_V_start_0 : decode mm_V_start.2.1 0 = .ok (.aload_n 0, 1) := by decide +kernel
theorem dd_V_start_1 : decode mm_V_start.2.1 1 = .ok (.getfield 43, 3) := by decide +kernel
theorem dd_V_start_4 : decode mm_V_start.2.1 4 = .ok (.ifCond .eq 5, 3) := by decide +kernel
theorem dd_V_start_7 : decode mm_V_start.2.1 7 = .ok (.iconst (-1), 1) := by decide +kernel
theorem dd_V_start_8 : decode mm_V_start.2.1 8 = .ok (.ireturn, 1) := by decide +kernel
theorem dd_V_start_9 : decode mm_V_start.2.1 9 = .ok (.aload_n 0, 1) := by decide +kernel
theorem dd_V_start_10 : decode mm_V_start.2.1 10 = .ok (.iconst 1, 1) := by decide +kernel
theorem dd_V_start_11 : decode mm_V_start.2.1 11 = .ok (.putfield 43, 3) := by decide +kernel
theorem dd_V_start_14 : decode mm_V_start.2.1 14 = .ok (.aload_n 0, 1) := by decide +kernel
theorem dd_V_start_15 : decode mm_V_start.2.1 15 = .ok (.iconst (-1), 1) := by decide +kernel
theorem dd_V_start_16 : decode mm_V_start.2.1 16 = .ok (.putfield 47, 3) := by decide +kernel
theorem dd_V_start_19 : decode mm_V_start.2.1 19 = .ok (.aload_n 0, 1) := by decide +kernel
theorem dd_V_start_20 : decode mm_V_start.2.1 20 = .ok (.getfield 28, 3) := by decide +kernel
theorem dd_V_start_23 : decode mm_V_start.2.1 23 = .ok (.aload_n 0, 1) := by decide +kernel
theorem dd_V_start_24 : decode mm_V_start.2.1 24 = .ok (.getfield 21, 3) := by decide +kernel
theorem dd_V_start_27 : decode mm_V_start.2.1 27 = .ok (.invokevirtual 230, 3) := by decide +kernel
theorem dd_V_start_30 : decode mm_V_start.2.1 30 = .ok (.aload_n 0, 1) := by decide +kernel
theorem dd_V_start_31 : decode mm_V_start.2.1 31 = .ok (.getfield 28, 3) := by decide +kernel
theorem dd_V_start_34 : decode mm_V_start.2.1 34 = .ok (.invokevirtual 142, 3) := by decide +kernel
theorem dd_V_start_37 : decode mm_V_start.2.1 37 = .ok (.istore_n 1, 1) := by decide +kernel
theorem dd_V_start_38 : decode mm_V_start.2.1 38 = .ok (.iconst 0, 1) := by decide +kernel
theorem dd_V_start_39 : decode mm_V_start.2.1 39 = .ok (.istore_n 2, 1) := by decide +kernel
theorem dd_V_start_40 : decode mm_V_start.2.1 40 = .ok (.iload_n 2, 1) := by decide +kernel
theorem dd_V_start_41 : decode mm_V_start.2.1 41 = .ok (.iload_n 1, 1) := by decide +kernel
theorem dd_V_start_42 : decode mm_V_start.2.1 42 = .ok (.if_icmp .ge 26, 3) := by decide +kernel
theorem dd_V_start_45 : decode mm_V_start.2.1 45 = .ok (.aload_n 0, 1) := by decide +kernel
theorem dd_V_start_46 : decode mm_V_start.2.1 46 = .ok (.getfield 28, 3) := by decide +kernel
theorem dd_V_start_49 : decode mm_V_start.2.1 49 = .ok (.invokevirtual 233, 3) := by decide +kernel
theorem dd_V_start_52 : decode mm_V_start.2.1 52 = .ok (.astore_n 3, 1) := by decide +kernel
theorem dd_V_start_53 : decode mm_V_start.2.1 53 = .ok (.aload_n 3, 1) := by decide +kernel
theorem dd_V_start_54 : decode mm_V_start.2.1 54 = .ok (.ifnull 8, 3) := by decide +kernel
theorem dd_V_start_57 : decode mm_V_start.2.1 57 = .ok (.aload_n 0, 1) := by decide +kernel
theorem dd_V_start_58 : decode mm_V_start.2.1 58 = .ok (.aload_n 3, 1) := by decide +kernel
theorem dd_V_start_59 : decode mm_V_start.2.1 59 = .ok (.invokevirtual 237, 3) := by decide +kernel
theorem dd_V_start_62 : decode mm_V_start.2.1 62 = .ok (.iinc 2 1, 3) := by decide +kernel
theorem dd_V_start_65 : decode mm_V_start.2.1 65 = .ok (.goto (-25), 3) := by decide +kernel
theorem dd_V_start_68 : decode mm_V_start.2.1 68 = .ok (.iload_n 1, 1) := by decide +kernel
theorem dd_V_start_69 : decode mm_V_start.2.1 69 = .ok (.ireturn, 1) := by decide +kernel
theorem dd_V_subscribe_0 : decode mm_V_subscribe.2.1 0 = .ok (.aload_n 0, 1) := by decide +kernel
theorem dd_V_subscribe_1 : decode mm_V_subscribe.2.1 1 = .ok (.iload_n 1, 1) := by decide +kernel
theorem dd_V_subscribe_2 : decode mm_V_subscribe.2.1 2 = .ok (.invokevirtual 170, 3) := by decide +kernel
theorem dd_V_subscribe_5 : decode mm_V_subscribe.2.1 5 = .ok (.astore_n 3, 1) := by decide +kernel
theorem dd_V_subscribe_6 : decode mm_V_subscribe.2.1 6 = .ok (.iload_n 2, 1) := by decide +kernel
theorem dd_V_subscribe_7 : decode mm_V_subscribe.2.1 7 = .ok (.ifCond .lt 9, 3) := by decide +kernel
theorem dd_V_subscribe_10 : decode mm_V_subscribe.2.1 10 = .ok (.iload_n 2, 1) := by decide +kernel
theorem dd_V_subscribe_11 : decode mm_V_subscribe.2.1 11 = .ok (.bipush 127, 2) := by decide +kernel
theorem dd_V_subscribe_13 : decode mm_V_subscribe.2.1 13 = .ok (.if_icmp .le 13, 3) := by decide +kernel
theorem dd_V_subscribe_16 : decode mm_V_subscribe.2.1 16 = .ok (.new 174, 3) := by decide +kernel
theorem dd_V_subscribe_19 : decode mm_V_subscribe.2.1 19 = .ok (.dup, 1) := by decide +kernel
theorem dd_V_subscribe_20 : decode mm_V_subscribe.2.1 20 = .ok (.ldc 176, 2) := by decide +kernel
theorem dd_V_subscribe_22 : decode mm_V_subscribe.2.1 22 = .ok (.invokespecial 178, 3) := by decide +kernel
theorem dd_V_subscribe_25 : decode mm_V_subscribe.2.1 25 = .ok (.athrow, 1) := by decide +kernel
theorem dd_V_subscribe_26 : decode mm_V_subscribe.2.1 26 = .ok (.aload_n 3, 1) := by decide +kernel
theorem dd_V_subscribe_27 : decode mm_V_subscribe.2.1 27 = .ok (.iload_n 2, 1) := by decide +kernel
theorem dd_V_subscribe_28 : decode mm_V_subscribe.2.1 28 = .ok (.aload_n 0, 1) := by decide +kernel
theorem dd_V_subscribe_29 : decode mm_V_subscribe.2.1 29 = .ok (.getfield 21, 3) := by decide +kernel
theorem dd_V_subscribe_32 : decode mm_V_subscribe.2.1 32 = .ok (.invokevirtual 179, 3) := by decide +kernel
theorem dd_V_subscribe_35 : decode mm_V_subscribe.2.1 35 = .ok (.return_, 1) := by decide +kernel
theorem dd_V_subscriberAt_0 : decode mm_V_subscriberAt.2.1 0 = .ok (.iload_n 1, 1) := by decide +kernel
theorem dd_V_subscriberAt_1 : decode mm_V_subscriberAt.2.1 1 = .ok (.ifCond .lt 8, 3) := by decide +kernel
theorem dd_V_subscriberAt_4 : decode mm_V_subscriberAt.2.1 4 = .ok (.iload_n 1, 1) := by decide +kernel
theorem dd_V_subscriberAt_5 : decode mm_V_subscriberAt.2.1 5 = .ok (.iconst 3, 1) := by decide +kernel
theorem dd_V_subscriberAt_6 : decode mm_V_subscriberAt.2.1 6 = .ok (.if_icmp .lt 14, 3) := by decide +kernel
theorem dd_V_subscriberAt_9 : decode mm_V_subscriberAt.2.1 9 = .ok (.new 245, 3) := by decide +kernel
theorem dd_V_subscriberAt_12 : decode mm_V_subscriberAt.2.1 12 = .ok (.dup, 1) := by decide +kernel
theorem dd_V_subscriberAt_13 : decode mm_V_subscriberAt.2.1 13 = .ok (.ldc_w 256, 3) := by decide +kernel
theorem dd_V_subscriberAt_16 : decode mm_V_subscriberAt.2.1 16 = .ok (.invokespecial 249, 3) := by decide +kernel
theorem dd_V_subscriberAt_19 : decode mm_V_subscriberAt.2.1 19 = .ok (.athrow, 1) := by decide +kernel
theorem dd_V_subscriberAt_20 : decode mm_V_subscriberAt.2.1 20 = .ok (.aload_n 0, 1) := by decide +kernel
theorem dd_V_subscriberAt_21 : decode mm_V_subscriberAt.2.1 21 = .ok (.getfield 34, 3) := by decide +kernel
theorem dd_V_subscriberAt_24 : decode mm_V_subscriberAt.2.1 24 = .ok (.iload_n 1, 1) := by decide +kernel
theorem dd_V_subscriberAt_25 : decode mm_V_subscriberAt.2.1 25 = .ok (.aaload, 1) := by decide +kernel
theorem dd_V_subscriberAt_26 : decode mm_V_subscriberAt.2.1 26 = .ok (.areturn, 1) := by decide +kernel
theorem dd_V_tail_0 : decode mm_V_tail.2.1 0 = .ok (.aload_n 0, 1) := by decide +kernel
theorem dd_V_tail_1 : decode mm_V_tail.2.1 1 = .ok (.getfield 21, 3) := by decide +kernel
theorem dd_V_tail_4 : decode mm_V_tail.2.1 4 = .ok (.invokevirtual 155, 3) := by decide +kernel
theorem dd_V_tail_7 : decode mm_V_tail.2.1 7 = .ok (.ireturn, 1) := by decide +kernel
theorem dd_V_writeChangeNote_0 : decode mm_V_writeChangeNote.2.1 0 = .ok (.aload_n 0, 1) := by decide +kernel
theorem dd_V_writeChangeNote_1 : decode mm_V_writeChangeNote.2.1 1 = .ok (.getfield 28, 3) := by decide +kernel
theorem dd_V_writeChangeNote_4 : decode mm_V_writeChangeNote.2.1 4 = .ok (.aload_n 1, 1) := by decide +kernel
theorem dd_V_writeChangeNote_5 : decode mm_V_writeChangeNote.2.1 5 = .ok (.getfield 83, 3) := by decide +kernel
theorem dd_V_writeChangeNote_8 : decode mm_V_writeChangeNote.2.1 8 = .ok (.invokevirtual 265, 3) := by decide +kernel
theorem dd_V_writeChangeNote_11 : decode mm_V_writeChangeNote.2.1 11 = .ok (.astore_n 3, 1) := by decide +kernel
theorem dd_V_writeChangeNote_12 : decode mm_V_writeChangeNote.2.1 12 = .ok (.aload_n 3, 1) := by decide +kernel
theorem dd_V_writeChangeNote_13 : decode mm_V_writeChangeNote.2.1 13 = .ok (.ifnull 13, 3) := by decide +kernel
theorem dd_V_writeChangeNote_16 : decode mm_V_writeChangeNote.2.1 16 = .ok (.aload_n 0, 1) := by decide +kernel
theorem dd_V_writeChangeNote_17 : decode mm_V_writeChangeNote.2.1 17 = .ok (.aload_n 3, 1) := by decide +kernel
theorem dd_V_writeChangeNote_18 : decode mm_V_writeChangeNote.2.1 18 = .ok (.invokevirtual 138, 3) := by decide +kernel
theorem dd_V_writeChangeNote_21 : decode mm_V_writeChangeNote.2.1 21 = .ok (.ifCond .ne 5, 3) := by decide +kernel
theorem dd_V_writeChangeNote_24 : decode mm_V_writeChangeNote.2.1 24 = .ok (.iconst 0, 1) := by decide +kernel
theorem dd_V_writeChangeNote_25 : decode mm_V_writeChangeNote.2.1 25 = .ok (.ireturn, 1) := by decide +kernel
theorem dd_V_writeChangeNote_26 : decode mm_V_writeChangeNote.2.1 26 = .ok (.aload_n 0, 1) := by decide +kernel
theorem dd_V_writeChangeNote_27 : decode mm_V_writeChangeNote.2.1 27 = .ok (.invokevirtual 122, 3) := by decide +kernel
theorem dd_V_writeChangeNote_30 : decode mm_V_writeChangeNote.2.1 30 = .ok (.ifCond .ne 5, 3) := by decide +kernel
theorem dd_V_writeChangeNote_33 : decode mm_V_writeChangeNote.2.1 33 = .ok (.iconst 0, 1) := by decide +kernel
theorem dd_V_writeChangeNote_34 : decode mm_V_writeChangeNote.2.1 34 = .ok (.ireturn, 1) := by decide +kernel
theorem dd_V_writeChangeNote_35 : decode mm_V_writeChangeNote.2.1 35 = .ok (.aload_n 0, 1) := by decide +kernel
theorem dd_V_writeChangeNote_36 : decode mm_V_writeChangeNote.2.1 36 = .ok (.getfield 21, 3) := by decide +kernel
theorem dd_V_writeChangeNote_39 : decode mm_V_writeChangeNote.2.1 39 = .ok (.aload_n 1, 1) := by decide +kernel
theorem dd_V_writeChangeNote_40 : decode mm_V_writeChangeNote.2.1 40 = .ok (.aload_n 0, 1) := by decide +kernel
theorem dd_V_writeChangeNote_41 : decode mm_V_writeChangeNote.2.1 41 = .ok (.getfield 28, 3) := by decide +kernel
theorem dd_V_writeChangeNote_44 : decode mm_V_writeChangeNote.2.1 44 = .ok (.aload_n 1, 1) := by decide +kernel
theorem dd_V_writeChangeNote_45 : decode mm_V_writeChangeNote.2.1 45 = .ok (.getfield 83, 3) := by decide +kernel
theorem dd_V_writeChangeNote_48 : decode mm_V_writeChangeNote.2.1 48 = .ok (.iload_n 2, 1) := by decide +kernel
theorem dd_V_writeChangeNote_49 : decode mm_V_writeChangeNote.2.1 49 = .ok (.invokevirtual 268, 3) := by decide +kernel
theorem dd_V_writeChangeNote_52 : decode mm_V_writeChangeNote.2.1 52 = .ok (.invokevirtual 272, 3) := by decide +kernel
theorem dd_V_writeChangeNote_55 : decode mm_V_writeChangeNote.2.1 55 = .ok (.iconst 1, 1) := by decide +kernel
theorem dd_V_writeChangeNote_56 : decode mm_V_writeChangeNote.2.1 56 = .ok (.ireturn, 1) := by decide +kernel
theorem dd_V_writeClosingNote_0 : decode mm_V_writeClosingNote.2.1 0 = .ok (.aload_n 0, 1) := by decide +kernel
theorem dd_V_writeClosingNote_1 : decode mm_V_writeClosingNote.2.1 1 = .ok (.invokevirtual 122, 3) := by decide +kernel
theorem dd_V_writeClosingNote_4 : decode mm_V_writeClosingNote.2.1 4 = .ok (.ifCond .ne 5, 3) := by decide +kernel
theorem dd_V_writeClosingNote_7 : decode mm_V_writeClosingNote.2.1 7 = .ok (.iconst 0, 1) := by decide +kernel
theorem dd_V_writeClosingNote_8 : decode mm_V_writeClosingNote.2.1 8 = .ok (.ireturn, 1) := by decide +kernel
theorem dd_V_writeClosingNote_9 : decode mm_V_writeClosingNote.2.1 9 = .ok (.aload_n 0, 1) := by decide +kernel
theorem dd_V_writeClosingNote_10 : decode mm_V_writeClosingNote.2.1 10 = .ok (.aload_n 1, 1) := by decide +kernel
theorem dd_V_writeClosingNote_11 : decode mm_V_writeClosingNote.2.1 11 = .ok (.invokevirtual 237, 3) := by decide +kernel
theorem dd_V_writeClosingNote_14 : decode mm_V_writeClosingNote.2.1 14 = .ok (.iconst 1, 1) := by decide +kernel
theorem dd_V_writeClosingNote_15 : decode mm_V_writeClosingNote.2.1 15 = .ok (.ireturn, 1) := by decide +kernel
theorem nw_S_9 : xa_N "NotedVolume$Subscriber" 9 2 [.null, .int 0] := ⟨_, _, _, ty_2, rfl, rfl, tk_2, by decide +kernel, ly_2, iw_114, iw_42, iw_2⟩
theorem fl_S_14 : xa_F "NotedVolume$Subscriber" 14 7 0 := ⟨_, _, _, "NotedVolume$Subscriber", rfl, by decide, ly_7, iw_116, Or.inl rfl⟩
theorem fz_S_14 : xa_Z 7 0 (.object "NotedVolume$FileTable") true "NotedVolume$Subscriber" := ⟨_, _, _, ty_7, rfl, tk_7, nk_7, rfl, rfl, by decide⟩
theorem fl_S_20 : xa_F "NotedVolume$Subscriber" 20 7 1 := ⟨_, _, _, "NotedVolume$Subscriber", rfl, by decide, ly_7, iw_118, Or.inl rfl⟩
theorem fz_S_20 : xa_Z 7 1 (.array .int) true "NotedVolume$Subscriber" := ⟨_, _, _, ty_7, rfl, tk_7, nk_7, rfl, rfl, by decide⟩
theorem fl_S_24 : xa_F "NotedVolume$Subscriber" 24 7 2 := ⟨_, _, _, "NotedVolume$Subscriber", rfl, by decide, ly_7, iw_120, Or.inl rfl⟩
theorem fz_S_24 : xa_Z 7 2 (.int) false "NotedVolume$Subscriber" := ⟨_, _, _, ty_7, rfl, tk_7, nk_7, rfl, rfl, by decide⟩
theorem fl_S_28 : xa_F "NotedVolume$Subscriber" 28 7 3 := ⟨_, _, _, "NotedVolume$Subscriber", rfl, by decide, ly_7, iw_122, Or.inl rfl⟩
theorem fz_S_28 : xa_Z 7 3 (.int) false "NotedVolume$Subscriber" := ⟨_, _, _, ty_7, rfl, tk_7, nk_7, rfl, rfl, by decide⟩
theorem fl_S_37 : xa_F "NotedVolume$Subscriber" 37 7 4 := ⟨_, _, _, "NotedVolume$Subscriber", rfl, by decide, ly_7, iw_124, Or.inl rfl⟩
theorem fz_S_37 : xa_Z 7 4 (.boolean) false "NotedVolume$Subscriber" := ⟨_, _, _, ty_7, rfl, tk_7, nk_7, rfl, rfl, by decide⟩
theorem fl_S_54 : xa_F "NotedVolume$Subscriber" 54 7 5 := ⟨_, _, _, "NotedVolume$Subscriber", rfl, by decide, ly_7, iw_126, Or.inl rfl⟩
theorem fz_S_54 : xa_Z 7 5 (.int) false "NotedVolume$Subscriber" := ⟨_, _, _, ty_7, rfl, tk_7, nk_7, rfl, rfl, by decide⟩
theorem fl_S_95 : xa_F "NotedVolume$Subscriber" 95 3 0 := ⟨_, _, _, "NotedVolume$Note", rfl, by decide, ly_3, iw_407, Or.inl rfl⟩
theorem fl_S_61 : xa_F "NotedVolume$Subscriber" 61 1 0 := ⟨_, _, _, "NotedVolume$Entry", rfl, by decide, ly_1, iw_374, Or.inl rfl⟩
theorem nw_V_7 : xa_N "NotedVolume" 7 2 [.null, .int 0] := ⟨_, _, _, ty_2, rfl, rfl, tk_2, by decide +kernel, ly_2, iw_41, iw_42, iw_2⟩
theorem fl_V_14 : xa_F "NotedVolume" 14 0 0 := ⟨_, _, _, "NotedVolume", rfl, by decide, ly_0, iw_141, Or.inl rfl⟩
theorem fz_V_14 : xa_Z 0 0 (.object "NotedVolume$FileTable") true "NotedVolume" := ⟨_, _, _, ty_0, rfl, tk_0, nk_0, rfl, rfl, by decide⟩
theorem nw_V_18 : xa_N "NotedVolume" 18 4 [.null, .int 0] := ⟨_, _, _, ty_4, rfl, rfl, tk_4, by decide +kernel, ly_4, iw_80, iw_81, iw_6⟩
theorem fl_V_21 : xa_F "NotedVolume" 21 0 1 := ⟨_, _, _, "NotedVolume", rfl, by decide, ly_0, iw_142, Or.inl rfl⟩
theorem fz_V_21 : xa_Z 0 1 (.object "NotedVolume$Ring") true "NotedVolume" := ⟨_, _, _, ty_0, rfl, tk_0, nk_0, rfl, rfl, by decide⟩
theorem nw_V_25 : xa_N "NotedVolume" 25 6 [.null] := ⟨_, _, _, ty_6, rfl, rfl, tk_6, by decide +kernel, ly_6, iw_95, iw_96, iw_7⟩
theorem fl_V_28 : xa_F "NotedVolume" 28 0 2 := ⟨_, _, _, "NotedVolume", rfl, by decide, ly_0, iw_143, Or.inl rfl⟩
theorem fz_V_28 : xa_Z 0 2 (.object "NotedVolume$Gatherings") true "NotedVolume" := ⟨_, _, _, ty_0, rfl, tk_0, nk_0, rfl, rfl, by decide⟩
theorem fl_V_34 : xa_F "NotedVolume" 34 0 3 := ⟨_, _, _, "NotedVolume", rfl, by decide, ly_0, iw_144, Or.inl rfl⟩
theorem fz_V_34 : xa_Z 0 3 (.array (.object "NotedVolume$Subscriber")) true "NotedVolume" := ⟨_, _, _, ty_0, rfl, tk_0, nk_0, rfl, rfl, by decide⟩
theorem nw_V_32 : xa_N "NotedVolume" 32 7 [.null, .null, .int 0, .int 0, .int 0, .int 0] := ⟨_, _, _, ty_7, rfl, rfl, tk_7, by decide +kernel, ly_7, iw_107, iw_109, iw_8⟩
theorem fl_V_39 : xa_F "NotedVolume" 39 0 4 := ⟨_, _, _, "NotedVolume", rfl, by decide, ly_0, iw_145, Or.inl rfl⟩
theorem fz_V_39 : xa_Z 0 4 (.int) false "NotedVolume" := ⟨_, _, _, ty_0, rfl, tk_0, nk_0, rfl, rfl, by decide⟩
theorem fl_V_43 : xa_F "NotedVolume" 43 0 5 := ⟨_, _, _, "NotedVolume", rfl, by decide, ly_0, iw_146, Or.inl rfl⟩
theorem fz_V_43 : xa_Z 0 5 (.boolean) false "NotedVolume" := ⟨_, _, _, ty_0, rfl, tk_0, nk_0, rfl, rfl, by decide⟩
theorem fl_V_47 : xa_F "NotedVolume" 47 0 6 := ⟨_, _, _, "NotedVolume", rfl, by decide, ly_0, iw_147, Or.inl rfl⟩
theorem fz_V_47 : xa_Z 0 6 (.int) false "NotedVolume" := ⟨_, _, _, ty_0, rfl, tk_0, nk_0, rfl, rfl, by decide⟩
theorem fl_V_90 : xa_F "NotedVolume" 90 1 1 := ⟨_, _, _, "NotedVolume$Entry", rfl, by decide, ly_1, iw_377, Or.inl rfl⟩
theorem nw_V_74 : xa_N "NotedVolume" 74 1 [.int 0, .int 0, .int 0, .int 0, .int 0] := ⟨_, _, _, ty_1, rfl, rfl, tk_1, by decide +kernel, ly_1, iw_364, iw_365, iw_19⟩
theorem fl_V_98 : xa_F "NotedVolume" 98 1 2 := ⟨_, _, _, "NotedVolume$Entry", rfl, by decide, ly_1, iw_379, Or.inl rfl⟩
theorem fl_V_101 : xa_F "NotedVolume" 101 1 3 := ⟨_, _, _, "NotedVolume$Entry", rfl, by decide, ly_1, iw_382, Or.inl rfl⟩
theorem fl_V_104 : xa_F "NotedVolume" 104 1 4 := ⟨_, _, _, "NotedVolume$Entry", rfl, by decide, ly_1, iw_385, Or.inl rfl⟩
theorem fl_V_83 : xa_F "NotedVolume" 83 1 0 := ⟨_, _, _, "NotedVolume$Entry", rfl, by decide, ly_1, iw_371, Or.inl rfl⟩
theorem fl_V_216 : xa_F "NotedVolume" 216 7 0 := ⟨_, _, _, "NotedVolume$Subscriber", rfl, by decide, ly_7, iw_117, Or.inl rfl⟩
theorem fl_V_183 : xa_F "NotedVolume" 183 7 2 := ⟨_, _, _, "NotedVolume$Subscriber", rfl, by decide, ly_7, iw_121, Or.inl rfl⟩
theorem fl_V_276 : xa_F "NotedVolume" 276 5 0 := ⟨_, _, _, "NotedVolume$Gathering", rfl, by decide, ly_5, iw_278, Or.inl rfl⟩
theorem fl_V_281 : xa_F "NotedVolume" 281 5 1 := ⟨_, _, _, "NotedVolume$Gathering", rfl, by decide, ly_5, iw_280, Or.inl rfl⟩
theorem fl_V_197 : xa_F "NotedVolume" 197 7 4 := ⟨_, _, _, "NotedVolume$Subscriber", rfl, by decide, ly_7, iw_125, Or.inl rfl⟩
theorem fl_V_186 : xa_F "NotedVolume" 186 7 3 := ⟨_, _, _, "NotedVolume$Subscriber", rfl, by decide, ly_7, iw_123, Or.inl rfl⟩
theorem fl_V_206 : xa_F "NotedVolume" 206 7 1 := ⟨_, _, _, "NotedVolume$Subscriber", rfl, by decide, ly_7, iw_119, Or.inl rfl⟩
theorem iv_S_init_12 {G : xa_G} {rest : List Value} {h : xa_H} {b : Nat} {a1 : Value} : xa_inv G mm_S_init mm_F_init 12 (a1 :: .ref b :: rest) [.ref b, a1] rest h := xi_I (n := 1) (As := [a1]) dd_S_init_12 ok_F_init rfl iw_45 iw_115 iw_44 (by decide +kernel) rfl
theorem iv_S_act_9 {G : xa_G} {rest fs : List Value} {h : xa_H} {b : Nat} {a1 : Value} (hb : h b = some (.inr (7, fs))) : xa_inv G mm_S_act mm_S_copyPage 9 (a1 :: .ref b :: rest) [.ref b, a1] rest h := xi_V (n := 1) (As := [a1]) dd_S_act_9 ok_S_copyPage iw_1026 iw_1028 rfl ps_18 (by decide +kernel) rfl hb
theorem iv_S_act_18 {G : xa_G} {rest fs : List Value} {h : xa_H} {b : Nat} {a1 a2 : Value} (hb : h b = some (.inr (7, fs))) : xa_inv G mm_S_act mm_S_takeNote 18 (a2 :: a1 :: .ref b :: rest) [.ref b, a1, a2] rest h := xi_V (n := 2) (As := [a1, a2]) dd_S_act_18 ok_S_takeNote iw_1042 iw_974 rfl iw_975 (by decide +kernel) rfl hb
theorem iv_S_act_29 {G : xa_G} {rest fs : List Value} {h : xa_H} {b : Nat} {a1 : Value} (hb : h b = some (.inr (7, fs))) : xa_inv G mm_S_act mm_S_beginListing 29 (a1 :: .ref b :: rest) [.ref b, a1] rest h := xi_V (n := 1) (As := [a1]) dd_S_act_29 ok_S_beginListing iw_1043 iw_988 rfl iw_989 (by decide +kernel) rfl hb
theorem iv_S_act_36 {G : xa_G} {rest fs : List Value} {h : xa_H} {b : Nat} {a1 : Value} (hb : h b = some (.inr (4, fs))) : xa_inv G mm_S_act mm_R_noteAt 36 (a1 :: .ref b :: rest) [.ref b, a1] rest h := xi_V (n := 1) (As := [a1]) dd_S_act_36 ok_R_noteAt iw_978 iw_238 rfl iw_239 (by decide +kernel) rfl hb
theorem iv_S_act_52 {G : xa_G} {rest fs : List Value} {h : xa_H} {b : Nat} {a1 a2 : Value} (hb : h b = some (.inr (7, fs))) : xa_inv G mm_S_act mm_S_copyNote 52 (a2 :: a1 :: .ref b :: rest) [.ref b, a1, a2] rest h := xi_V (n := 2) (As := [a1, a2]) dd_S_act_52 ok_S_copyNote iw_1044 iw_1046 rfl ps_20 (by decide +kernel) rfl hb
theorem iv_S_beginAnew_7 {G : xa_G} {rest fs : List Value} {h : xa_H} {b : Nat} (hb : h b = some (.inr (4, fs))) : xa_inv G mm_S_beginAnew mm_R_nextSerial 7 (.ref b :: rest) [.ref b] rest h := xi_V (n := 0) (As := []) dd_S_beginAnew_7 ok_R_nextSerial iw_958 iw_220 rfl iw_221 (by decide +kernel) rfl hb
theorem iv_S_beginListing_12 {G : xa_G} {rest fs : List Value} {h : xa_H} {b : Nat} (hb : h b = some (.inr (4, fs))) : xa_inv G mm_S_beginListing mm_R_nextSerial 12 (.ref b :: rest) [.ref b] rest h := xi_V (n := 0) (As := []) dd_S_beginListing_12 ok_R_nextSerial iw_958 iw_220 rfl iw_221 (by decide +kernel) rfl hb
theorem iv_S_copyAsItIs_2 {G : xa_G} {rest fs : List Value} {h : xa_H} {b : Nat} {a1 : Value} (hb : h b = some (.inr (2, fs))) : xa_inv G mm_S_copyAsItIs mm_F_entryOf 2 (a1 :: .ref b :: rest) [.ref b, a1] rest h := xi_V (n := 1) (As := [a1]) dd_S_copyAsItIs_2 ok_F_entryOf iw_1040 iw_361 rfl iw_362 (by decide +kernel) rfl hb
theorem iv_S_copyAsItIs_15 {G : xa_G} {rest fs : List Value} {h : xa_H} {b : Nat} {a1 : Value} (hb : h b = some (.inr (2, fs))) : xa_inv G mm_S_copyAsItIs mm_F_put 15 (a1 :: .ref b :: rest) [.ref b, a1] rest h := xi_V (n := 1) (As := [a1]) dd_S_copyAsItIs_15 ok_F_put iw_1041 iw_598 rfl iw_599 (by decide +kernel) rfl hb
theorem iv_S_copyNote_11 {G : xa_G} {rest fs : List Value} {h : xa_H} {b : Nat} {a1 : Value} (hb : h b = some (.inr (3, fs))) : xa_inv G mm_S_copyNote mm_N_hasAny 11 (a1 :: .ref b :: rest) [.ref b, a1] rest h := xi_V (n := 1) (As := [a1]) dd_S_copyNote_11 ok_N_hasAny iw_979 iw_243 rfl iw_244 (by decide +kernel) rfl hb
theorem iv_S_copyNote_22 {G : xa_G} {rest fs : List Value} {h : xa_H} {b : Nat} {a1 : Value} (hb : h b = some (.inr (2, fs))) : xa_inv G mm_S_copyNote mm_F_drop 22 (a1 :: .ref b :: rest) [.ref b, a1] rest h := xi_V (n := 1) (As := [a1]) dd_S_copyNote_22 ok_F_drop iw_1048 iw_896 rfl iw_897 (by decide +kernel) rfl hb
theorem iv_S_copyNote_28 {G : xa_G} {rest fs : List Value} {h : xa_H} {b : Nat} {a1 a2 : Value} (hb : h b = some (.inr (7, fs))) : xa_inv G mm_S_copyNote mm_S_copyAsItIs 28 (a2 :: a1 :: .ref b :: rest) [.ref b, a1, a2] rest h := xi_V (n := 2) (As := [a1, a2]) dd_S_copyNote_28 ok_S_copyAsItIs iw_1036 iw_1038 rfl ps_19 (by decide +kernel) rfl hb
theorem iv_S_copyNote_37 {G : xa_G} {rest fs : List Value} {h : xa_H} {b : Nat} {a1 : Value} (hb : h b = some (.inr (3, fs))) : xa_inv G mm_S_copyNote mm_N_hasAny 37 (a1 :: .ref b :: rest) [.ref b, a1] rest h := xi_V (n := 1) (As := [a1]) dd_S_copyNote_37 ok_N_hasAny iw_979 iw_243 rfl iw_244 (by decide +kernel) rfl hb
theorem iv_S_copyNote_48 {G : xa_G} {rest fs : List Value} {h : xa_H} {b : Nat} {a1 : Value} (hb : h b = some (.inr (2, fs))) : xa_inv G mm_S_copyNote mm_F_drop 48 (a1 :: .ref b :: rest) [.ref b, a1] rest h := xi_V (n := 1) (As := [a1]) dd_S_copyNote_48 ok_F_drop iw_1048 iw_896 rfl iw_897 (by decide +kernel) rfl hb
theorem iv_S_copyNote_62 {G : xa_G} {rest fs : List Value} {h : xa_H} {b : Nat} {a1 : Value} (hb : h b = some (.inr (2, fs))) : xa_inv G mm_S_copyNote mm_F_put 62 (a1 :: .ref b :: rest) [.ref b, a1] rest h := xi_V (n := 1) (As := [a1]) dd_S_copyNote_62 ok_F_put iw_1041 iw_598 rfl iw_599 (by decide +kernel) rfl hb
theorem iv_S_copyPage_7 {G : xa_G} {rest fs : List Value} {h : xa_H} {b : Nat} {a1 : Value} (hb : h b = some (.inr (7, fs))) : xa_inv G mm_S_copyPage mm_S_showPage 7 (a1 :: .ref b :: rest) [.ref b, a1] rest h := xi_V (n := 1) (As := [a1]) dd_S_copyPage_7 ok_S_showPage iw_1030 iw_1000 rfl iw_1001 (by decide +kernel) rfl hb
theorem iv_S_copyPage_32 {G : xa_G} {rest fs : List Value} {h : xa_H} {b : Nat} {a1 a2 : Value} (hb : h b = some (.inr (2, fs))) : xa_inv G mm_S_copyPage mm_F_dropRange 32 (a2 :: a1 :: .ref b :: rest) [.ref b, a1, a2] rest h := xi_V (n := 2) (As := [a1, a2]) dd_S_copyPage_32 ok_F_dropRange iw_1032 iw_1033 rfl iw_1034 (by decide +kernel) rfl hb
theorem iv_S_copyPage_50 {G : xa_G} {rest fs : List Value} {h : xa_H} {b : Nat} {a1 a2 : Value} (hb : h b = some (.inr (7, fs))) : xa_inv G mm_S_copyPage mm_S_copyAsItIs 50 (a2 :: a1 :: .ref b :: rest) [.ref b, a1, a2] rest h := xi_V (n := 2) (As := [a1, a2]) dd_S_copyPage_50 ok_S_copyAsItIs iw_1036 iw_1038 rfl ps_19 (by decide +kernel) rfl hb
theorem iv_S_showPage_14 {G : xa_G} {rest fs : List Value} {h : xa_H} {b : Nat} {a1 : Value} (hb : h b = some (.inr (2, fs))) : xa_inv G mm_S_showPage mm_F_entryAbove 14 (a1 :: .ref b :: rest) [.ref b, a1] rest h := xi_V (n := 1) (As := [a1]) dd_S_showPage_14 ok_F_entryAbove iw_1003 iw_1004 rfl iw_1005 (by decide +kernel) rfl hb
theorem iv_S_takeNote_5 {G : xa_G} {rest fs : List Value} {h : xa_H} {b : Nat} (hb : h b = some (.inr (4, fs))) : xa_inv G mm_S_takeNote mm_R_leastKept 5 (.ref b :: rest) [.ref b] rest h := xi_V (n := 0) (As := []) dd_S_takeNote_5 ok_R_leastKept iw_977 iw_212 rfl iw_213 (by decide +kernel) rfl hb
theorem iv_S_takeNote_20 {G : xa_G} {rest fs : List Value} {h : xa_H} {b : Nat} (hb : h b = some (.inr (4, fs))) : xa_inv G mm_S_takeNote mm_R_nextSerial 20 (.ref b :: rest) [.ref b] rest h := xi_V (n := 0) (As := []) dd_S_takeNote_20 ok_R_nextSerial iw_958 iw_220 rfl iw_221 (by decide +kernel) rfl hb
theorem iv_S_takeNote_28 {G : xa_G} {rest fs : List Value} {h : xa_H} {b : Nat} {a1 : Value} (hb : h b = some (.inr (4, fs))) : xa_inv G mm_S_takeNote mm_R_noteAt 28 (a1 :: .ref b :: rest) [.ref b, a1] rest h := xi_V (n := 1) (As := [a1]) dd_S_takeNote_28 ok_R_noteAt iw_978 iw_238 rfl iw_239 (by decide +kernel) rfl hb
theorem iv_S_takeNote_41 {G : xa_G} {rest fs : List Value} {h : xa_H} {b : Nat} {a1 : Value} (hb : h b = some (.inr (3, fs))) : xa_inv G mm_S_takeNote mm_N_hasAny 41 (a1 :: .ref b :: rest) [.ref b, a1] rest h := xi_V (n := 1) (As := [a1]) dd_S_takeNote_41 ok_N_hasAny iw_979 iw_243 rfl iw_244 (by decide +kernel) rfl hb
theorem iv_S_takeNote_64 {G : xa_G} {rest fs : List Value} {h : xa_H} {b : Nat} (hb : h b = some (.inr (4, fs))) : xa_inv G mm_S_takeNote mm_R_nextSerial 64 (.ref b :: rest) [.ref b] rest h := xi_V (n := 0) (As := []) dd_S_takeNote_64 ok_R_nextSerial iw_958 iw_220 rfl iw_221 (by decide +kernel) rfl hb
theorem iv_V_init_11 {G : xa_G} {rest : List Value} {h : xa_H} {b : Nat} {a1 : Value} : xa_inv G mm_V_init mm_F_init 11 (a1 :: .ref b :: rest) [.ref b, a1] rest h := xi_I (n := 1) (As := [a1]) dd_V_init_11 ok_F_init rfl iw_45 iw_43 iw_44 (by decide +kernel) rfl
theorem iv_V_init_22 {G : xa_G} {rest : List Value} {h : xa_H} {b : Nat} : xa_inv G mm_V_init mm_R_init 22 (.ref b :: rest) [.ref b] rest h := xi_I (n := 0) (As := []) dd_V_init_22 ok_R_init rfl iw_84 iw_82 iw_83 (by decide +kernel) rfl
theorem iv_V_init_33 {G : xa_G} {rest : List Value} {h : xa_H} {b : Nat} : xa_inv G mm_V_init mm_H_init 33 (.ref b :: rest) [.ref b] rest h := xi_I (n := 0) (As := []) dd_V_init_33 ok_H_init rfl iw_99 iw_97 iw_98 (by decide +kernel) rfl
theorem iv_V_init_63 {G : xa_G} {rest : List Value} {h : xa_H} {b : Nat} : xa_inv G mm_V_init mm_S_init 63 (.ref b :: rest) [.ref b] rest h := xi_I (n := 0) (As := []) dd_V_init_63 ok_S_init rfl iw_112 iw_110 iw_111 (by decide +kernel) rfl
theorem iv_V_change_1 {G : xa_G} {rest fs : List Value} {h : xa_H} {b : Nat} (hb : h b = some (.inr (0, fs))) : xa_inv G mm_V_change mm_V_checkPower 1 (.ref b :: rest) [.ref b] rest h := xi_V (n := 0) (As := []) dd_V_change_1 ok_V_checkPower iw_432 iw_434 rfl ps_5 (by decide +kernel) rfl hb
theorem iv_V_change_6 {G : xa_G} {rest fs : List Value} {h : xa_H} {b : Nat} {a1 : Value} (hb : h b = some (.inr (0, fs))) : xa_inv G mm_V_change mm_V_liveEntry 6 (a1 :: .ref b :: rest) [.ref b, a1] rest h := xi_V (n := 1) (As := [a1]) dd_V_change_6 ok_V_liveEntry iw_530 iw_532 rfl ps_8 (by decide +kernel) rfl hb
theorem iv_V_change_51 {G : xa_G} {rest : List Value} {h : xa_H} {b : Nat} {a1 a2 a3 a4 a5 : Value} : xa_inv G mm_V_change mm_E_init 51 (a5 :: a4 :: a3 :: a2 :: a1 :: .ref b :: rest) [.ref b, a1, a2, a3, a4, a5] rest h := xi_I (n := 5) (As := [a1, a2, a3, a4, a5]) dd_V_change_51 ok_E_init rfl iw_368 iw_366 iw_367 (by decide +kernel) rfl
theorem iv_V_change_58 {G : xa_G} {rest fs : List Value} {h : xa_H} {b : Nat} {a1 a2 : Value} (hb : h b = some (.inr (0, fs))) : xa_inv G mm_V_change mm_V_noteAndDo 58 (a2 :: a1 :: .ref b :: rest) [.ref b, a1, a2] rest h := xi_V (n := 2) (As := [a1, a2]) dd_V_change_58 ok_V_noteAndDo iw_571 iw_573 rfl ps_10 (by decide +kernel) rfl hb
theorem iv_V_checkFolder_7 {G : xa_G} {rest fs : List Value} {h : xa_H} {b : Nat} {a1 : Value} (hb : h b = some (.inr (0, fs))) : xa_inv G mm_V_checkFolder mm_V_liveEntry 7 (a1 :: .ref b :: rest) [.ref b, a1] rest h := xi_V (n := 1) (As := [a1]) dd_V_checkFolder_7 ok_V_liveEntry iw_530 iw_532 rfl ps_8 (by decide +kernel) rfl hb
theorem iv_V_checkNameFree_6 {G : xa_G} {rest fs : List Value} {h : xa_H} {b : Nat} {a1 a2 : Value} (hb : h b = some (.inr (2, fs))) : xa_inv G mm_V_checkNameFree mm_F_entryNamed 6 (a2 :: a1 :: .ref b :: rest) [.ref b, a1, a2] rest h := xi_V (n := 2) (As := [a1, a2]) dd_V_checkNameFree_6 ok_F_entryNamed iw_179 iw_180 rfl iw_181 (by decide +kernel) rfl hb
theorem iv_V_close_1 {G : xa_G} {rest fs : List Value} {h : xa_H} {b : Nat} (hb : h b = some (.inr (0, fs))) : xa_inv G mm_V_close mm_V_checkPower 1 (.ref b :: rest) [.ref b] rest h := xi_V (n := 0) (As := []) dd_V_close_1 ok_V_checkPower iw_432 iw_434 rfl ps_5 (by decide +kernel) rfl hb
theorem iv_V_close_9 {G : xa_G} {rest fs : List Value} {h : xa_H} {b : Nat} {a1 : Value} (hb : h b = some (.inr (6, fs))) : xa_inv G mm_V_close mm_H_gatheringOf 9 (a1 :: .ref b :: rest) [.ref b, a1] rest h := xi_V (n := 1) (As := [a1]) dd_V_close_9 ok_H_gatheringOf iw_907 iw_268 rfl iw_269 (by decide +kernel) rfl hb
theorem iv_V_close_29 {G : xa_G} {rest fs : List Value} {h : xa_H} {b : Nat} {a1 : Value} (hb : h b = some (.inr (0, fs))) : xa_inv G mm_V_close mm_V_writeClosingNote 29 (a1 :: .ref b :: rest) [.ref b, a1] rest h := xi_V (n := 1) (As := [a1]) dd_V_close_29 ok_V_writeClosingNote iw_584 iw_586 rfl ps_12 (by decide +kernel) rfl hb
theorem iv_V_copied_2 {G : xa_G} {rest fs : List Value} {h : xa_H} {b : Nat} {a1 : Value} (hb : h b = some (.inr (0, fs))) : xa_inv G mm_V_copied mm_V_subscriberAt 2 (a1 :: .ref b :: rest) [.ref b, a1] rest h := xi_V (n := 1) (As := [a1]) dd_V_copied_2 ok_V_subscriberAt iw_948 iw_950 rfl ps_17 (by decide +kernel) rfl hb
theorem iv_V_copied_9 {G : xa_G} {rest : List Value} {h : xa_H} {a1 a2 : Value} : xa_inv G mm_V_copied mm_V_checkItem 9 (a2 :: a1 :: rest) [a1, a2] rest h := xi_S (n := 2) (as := [a1, a2]) dd_V_copied_9 ok_V_checkItem iw_917 iw_918 (by decide +kernel) rfl
theorem iv_V_copied_18 {G : xa_G} {rest fs : List Value} {h : xa_H} {b : Nat} {a1 : Value} (hb : h b = some (.inr (2, fs))) : xa_inv G mm_V_copied mm_F_entryOf 18 (a1 :: .ref b :: rest) [.ref b, a1] rest h := xi_V (n := 1) (As := [a1]) dd_V_copied_18 ok_F_entryOf iw_360 iw_361 rfl iw_362 (by decide +kernel) rfl hb
theorem iv_V_copied_41 {G : xa_G} {rest fs : List Value} {h : xa_H} {b : Nat} {a1 : Value} (hb : h b = some (.inr (1, fs))) : xa_inv G mm_V_copied mm_E_item 41 (a1 :: .ref b :: rest) [.ref b, a1] rest h := xi_V (n := 1) (As := [a1]) dd_V_copied_41 ok_E_item iw_923 iw_924 rfl iw_925 (by decide +kernel) rfl hb
theorem iv_V_cursor_2 {G : xa_G} {rest fs : List Value} {h : xa_H} {b : Nat} {a1 : Value} (hb : h b = some (.inr (0, fs))) : xa_inv G mm_V_cursor mm_V_subscriberAt 2 (a1 :: .ref b :: rest) [.ref b, a1] rest h := xi_V (n := 1) (As := [a1]) dd_V_cursor_2 ok_V_subscriberAt iw_948 iw_950 rfl ps_17 (by decide +kernel) rfl hb
theorem iv_V_endGathering_10 {G : xa_G} {rest fs : List Value} {h : xa_H} {b : Nat} {a1 : Value} (hb : h b = some (.inr (2, fs))) : xa_inv G mm_V_endGathering mm_F_entryOf 10 (a1 :: .ref b :: rest) [.ref b, a1] rest h := xi_V (n := 1) (As := [a1]) dd_V_endGathering_10 ok_F_entryOf iw_360 iw_361 rfl iw_362 (by decide +kernel) rfl hb
theorem iv_V_endGathering_27 {G : xa_G} {rest : List Value} {h : xa_H} {b : Nat} {a1 a2 a3 a4 a5 : Value} : xa_inv G mm_V_endGathering mm_E_init 27 (a5 :: a4 :: a3 :: a2 :: a1 :: .ref b :: rest) [.ref b, a1, a2, a3, a4, a5] rest h := xi_I (n := 5) (As := [a1, a2, a3, a4, a5]) dd_V_endGathering_27 ok_E_init rfl iw_368 iw_366 iw_367 (by decide +kernel) rfl
theorem iv_V_endGathering_43 {G : xa_G} {rest fs : List Value} {h : xa_H} {b : Nat} {a1 a2 : Value} (hb : h b = some (.inr (4, fs))) : xa_inv G mm_V_endGathering mm_R_append 43 (a2 :: a1 :: .ref b :: rest) [.ref b, a1, a2] rest h := xi_V (n := 2) (As := [a1, a2]) dd_V_endGathering_43 ok_R_append iw_397 iw_398 rfl iw_399 (by decide +kernel) rfl hb
theorem iv_V_endGathering_51 {G : xa_G} {rest fs : List Value} {h : xa_H} {b : Nat} {a1 : Value} (hb : h b = some (.inr (6, fs))) : xa_inv G mm_V_endGathering mm_H_take 51 (a1 :: .ref b :: rest) [.ref b, a1] rest h := xi_V (n := 1) (As := [a1]) dd_V_endGathering_51 ok_H_take iw_416 iw_247 rfl iw_248 (by decide +kernel) rfl hb
theorem iv_V_find_6 {G : xa_G} {rest fs : List Value} {h : xa_H} {b : Nat} {a1 a2 : Value} (hb : h b = some (.inr (2, fs))) : xa_inv G mm_V_find mm_F_entryNamed 6 (a2 :: a1 :: .ref b :: rest) [.ref b, a1, a2] rest h := xi_V (n := 2) (As := [a1, a2]) dd_V_find_6 ok_F_entryNamed iw_179 iw_180 rfl iw_181 (by decide +kernel) rfl hb
theorem iv_V_follow_2 {G : xa_G} {rest fs : List Value} {h : xa_H} {b : Nat} {a1 : Value} (hb : h b = some (.inr (0, fs))) : xa_inv G mm_V_follow mm_V_subscriberAt 2 (a1 :: .ref b :: rest) [.ref b, a1] rest h := xi_V (n := 1) (As := [a1]) dd_V_follow_2 ok_V_subscriberAt iw_948 iw_950 rfl ps_17 (by decide +kernel) rfl hb
theorem iv_V_follow_47 {G : xa_G} {rest fs : List Value} {h : xa_H} {b : Nat} {a1 a2 : Value} (hb : h b = some (.inr (7, fs))) : xa_inv G mm_V_follow mm_S_act 47 (a2 :: a1 :: .ref b :: rest) [.ref b, a1, a2] rest h := xi_V (n := 2) (As := [a1, a2]) dd_V_follow_47 ok_S_act iw_1022 iw_1023 rfl iw_1024 (by decide +kernel) rfl hb
theorem iv_V_head_4 {G : xa_G} {rest fs : List Value} {h : xa_H} {b : Nat} (hb : h b = some (.inr (4, fs))) : xa_inv G mm_V_head mm_R_nextSerial 4 (.ref b :: rest) [.ref b] rest h := xi_V (n := 0) (As := []) dd_V_head_4 ok_R_nextSerial iw_219 iw_220 rfl iw_221 (by decide +kernel) rfl hb
theorem iv_V_inStep_2 {G : xa_G} {rest fs : List Value} {h : xa_H} {b : Nat} {a1 : Value} (hb : h b = some (.inr (0, fs))) : xa_inv G mm_V_inStep mm_V_subscriberAt 2 (a1 :: .ref b :: rest) [.ref b, a1] rest h := xi_V (n := 1) (As := [a1]) dd_V_inStep_2 ok_V_subscriberAt iw_948 iw_950 rfl ps_17 (by decide +kernel) rfl hb
theorem iv_V_inStep_12 {G : xa_G} {rest fs : List Value} {h : xa_H} {b : Nat} {a1 : Value} (hb : h b = some (.inr (2, fs))) : xa_inv G mm_V_inStep mm_F_isLike 12 (a1 :: .ref b :: rest) [.ref b, a1] rest h := xi_V (n := 1) (As := [a1]) dd_V_inStep_12 ok_F_isLike iw_1064 iw_1065 rfl iw_1066 (by decide +kernel) rfl hb
theorem iv_V_isOrLiesIn_24 {G : xa_G} {rest fs : List Value} {h : xa_H} {b : Nat} {a1 : Value} (hb : h b = some (.inr (2, fs))) : xa_inv G mm_V_isOrLiesIn mm_F_entryOf 24 (a1 :: .ref b :: rest) [.ref b, a1] rest h := xi_V (n := 1) (As := [a1]) dd_V_isOrLiesIn_24 ok_F_entryOf iw_360 iw_361 rfl iw_362 (by decide +kernel) rfl hb
theorem iv_V_list_2 {G : xa_G} {rest fs : List Value} {h : xa_H} {b : Nat} {a1 : Value} (hb : h b = some (.inr (0, fs))) : xa_inv G mm_V_list mm_V_subscriberAt 2 (a1 :: .ref b :: rest) [.ref b, a1] rest h := xi_V (n := 1) (As := [a1]) dd_V_list_2 ok_V_subscriberAt iw_948 iw_950 rfl ps_17 (by decide +kernel) rfl hb
theorem iv_V_list_9 {G : xa_G} {rest fs : List Value} {h : xa_H} {b : Nat} {a1 : Value} (hb : h b = some (.inr (7, fs))) : xa_inv G mm_V_list mm_S_beginListing 9 (a1 :: .ref b :: rest) [.ref b, a1] rest h := xi_V (n := 1) (As := [a1]) dd_V_list_9 ok_S_beginListing iw_987 iw_988 rfl iw_989 (by decide +kernel) rfl hb
theorem iv_V_live_4 {G : xa_G} {rest fs : List Value} {h : xa_H} {b : Nat} (hb : h b = some (.inr (2, fs))) : xa_inv G mm_V_live mm_F_count 4 (.ref b :: rest) [.ref b] rest h := xi_V (n := 0) (As := []) dd_V_live_4 ok_F_count iw_203 iw_204 rfl iw_205 (by decide +kernel) rfl hb
theorem iv_V_liveEntry_5 {G : xa_G} {rest fs : List Value} {h : xa_H} {b : Nat} {a1 : Value} (hb : h b = some (.inr (2, fs))) : xa_inv G mm_V_liveEntry mm_F_entryOf 5 (a1 :: .ref b :: rest) [.ref b, a1] rest h := xi_V (n := 1) (As := [a1]) dd_V_liveEntry_5 ok_F_entryOf iw_360 iw_361 rfl iw_362 (by decide +kernel) rfl hb
theorem iv_V_make_1 {G : xa_G} {rest fs : List Value} {h : xa_H} {b : Nat} (hb : h b = some (.inr (0, fs))) : xa_inv G mm_V_make mm_V_checkPower 1 (.ref b :: rest) [.ref b] rest h := xi_V (n := 0) (As := []) dd_V_make_1 ok_V_checkPower iw_432 iw_434 rfl ps_5 (by decide +kernel) rfl hb
theorem iv_V_make_8 {G : xa_G} {rest fs : List Value} {h : xa_H} {b : Nat} (hb : h b = some (.inr (2, fs))) : xa_inv G mm_V_make mm_F_count 8 (.ref b :: rest) [.ref b] rest h := xi_V (n := 0) (As := []) dd_V_make_8 ok_F_count iw_203 iw_204 rfl iw_205 (by decide +kernel) rfl hb
theorem iv_V_make_27 {G : xa_G} {rest : List Value} {h : xa_H} {a1 : Value} : xa_inv G mm_V_make mm_V_checkName 27 (a1 :: rest) [a1] rest h := xi_S (n := 1) (as := [a1]) dd_V_make_27 ok_V_checkName iw_507 iw_508 (by decide +kernel) rfl
theorem iv_V_make_32 {G : xa_G} {rest fs : List Value} {h : xa_H} {b : Nat} {a1 : Value} (hb : h b = some (.inr (0, fs))) : xa_inv G mm_V_make mm_V_checkFolder 32 (a1 :: .ref b :: rest) [.ref b, a1] rest h := xi_V (n := 1) (As := [a1]) dd_V_make_32 ok_V_checkFolder iw_526 iw_528 rfl ps_7 (by decide +kernel) rfl hb
theorem iv_V_make_39 {G : xa_G} {rest fs : List Value} {h : xa_H} {b : Nat} {a1 a2 a3 : Value} (hb : h b = some (.inr (0, fs))) : xa_inv G mm_V_make mm_V_checkNameFree 39 (a3 :: a2 :: a1 :: .ref b :: rest) [.ref b, a1, a2, a3] rest h := xi_V (n := 3) (As := [a1, a2, a3]) dd_V_make_39 ok_V_checkNameFree iw_566 iw_568 rfl ps_9 (by decide +kernel) rfl hb
theorem iv_V_make_62 {G : xa_G} {rest : List Value} {h : xa_H} {b : Nat} {a1 a2 a3 a4 a5 : Value} : xa_inv G mm_V_make mm_E_init 62 (a5 :: a4 :: a3 :: a2 :: a1 :: .ref b :: rest) [.ref b, a1, a2, a3, a4, a5] rest h := xi_I (n := 5) (As := [a1, a2, a3, a4, a5]) dd_V_make_62 ok_E_init rfl iw_368 iw_366 iw_367 (by decide +kernel) rfl
theorem iv_V_make_71 {G : xa_G} {rest fs : List Value} {h : xa_H} {b : Nat} {a1 a2 : Value} (hb : h b = some (.inr (0, fs))) : xa_inv G mm_V_make mm_V_noteAndDo 71 (a2 :: a1 :: .ref b :: rest) [.ref b, a1, a2] rest h := xi_V (n := 2) (As := [a1, a2]) dd_V_make_71 ok_V_noteAndDo iw_571 iw_573 rfl ps_10 (by decide +kernel) rfl hb
theorem iv_V_note_5 {G : xa_G} {rest fs : List Value} {h : xa_H} {b : Nat} {a1 : Value} (hb : h b = some (.inr (4, fs))) : xa_inv G mm_V_note mm_R_noteAt 5 (a1 :: .ref b :: rest) [.ref b, a1] rest h := xi_V (n := 1) (As := [a1]) dd_V_note_5 ok_R_noteAt iw_934 iw_238 rfl iw_239 (by decide +kernel) rfl hb
theorem iv_V_note_26 {G : xa_G} {rest : List Value} {h : xa_H} {a1 a2 : Value} : xa_inv G mm_V_note mm_V_checkItem 26 (a2 :: a1 :: rest) [a1, a2] rest h := xi_S (n := 2) (as := [a1, a2]) dd_V_note_26 ok_V_checkItem iw_917 iw_918 (by decide +kernel) rfl
theorem iv_V_note_31 {G : xa_G} {rest fs : List Value} {h : xa_H} {b : Nat} {a1 : Value} (hb : h b = some (.inr (3, fs))) : xa_inv G mm_V_note mm_N_item 31 (a1 :: .ref b :: rest) [.ref b, a1] rest h := xi_V (n := 1) (As := [a1]) dd_V_note_31 ok_N_item iw_936 iw_937 rfl iw_938 (by decide +kernel) rfl hb
theorem iv_V_noteAndDo_3 {G : xa_G} {rest fs : List Value} {h : xa_H} {b : Nat} {a1 a2 : Value} (hb : h b = some (.inr (0, fs))) : xa_inv G mm_V_noteAndDo mm_V_writeChangeNote 3 (a2 :: a1 :: .ref b :: rest) [.ref b, a1, a2] rest h := xi_V (n := 2) (As := [a1, a2]) dd_V_noteAndDo_3 ok_V_writeChangeNote iw_575 iw_577 rfl ps_11 (by decide +kernel) rfl hb
theorem iv_V_noteAndDo_10 {G : xa_G} {rest fs : List Value} {h : xa_H} {b : Nat} (hb : h b = some (.inr (0, fs))) : xa_inv G mm_V_noteAndDo mm_V_spendWrite 10 (.ref b :: rest) [.ref b] rest h := xi_V (n := 0) (As := []) dd_V_noteAndDo_10 ok_V_spendWrite iw_588 iw_590 rfl ps_13 (by decide +kernel) rfl hb
theorem iv_V_noteAndDo_23 {G : xa_G} {rest fs : List Value} {h : xa_H} {b : Nat} {a1 : Value} (hb : h b = some (.inr (2, fs))) : xa_inv G mm_V_noteAndDo mm_F_put 23 (a1 :: .ref b :: rest) [.ref b, a1] rest h := xi_V (n := 1) (As := [a1]) dd_V_noteAndDo_23 ok_F_put iw_597 iw_598 rfl iw_599 (by decide +kernel) rfl hb
theorem iv_V_of_2 {G : xa_G} {rest fs : List Value} {h : xa_H} {b : Nat} {a1 : Value} (hb : h b = some (.inr (0, fs))) : xa_inv G mm_V_of mm_V_liveEntry 2 (a1 :: .ref b :: rest) [.ref b, a1] rest h := xi_V (n := 1) (As := [a1]) dd_V_of_2 ok_V_liveEntry iw_530 iw_532 rfl ps_8 (by decide +kernel) rfl hb
theorem iv_V_of_8 {G : xa_G} {rest : List Value} {h : xa_H} {a1 a2 : Value} : xa_inv G mm_V_of mm_V_checkItem 8 (a2 :: a1 :: rest) [a1, a2] rest h := xi_S (n := 2) (as := [a1, a2]) dd_V_of_8 ok_V_checkItem iw_917 iw_918 (by decide +kernel) rfl
theorem iv_V_of_13 {G : xa_G} {rest fs : List Value} {h : xa_H} {b : Nat} {a1 : Value} (hb : h b = some (.inr (1, fs))) : xa_inv G mm_V_of mm_E_item 13 (a1 :: .ref b :: rest) [.ref b, a1] rest h := xi_V (n := 1) (As := [a1]) dd_V_of_13 ok_E_item iw_923 iw_924 rfl iw_925 (by decide +kernel) rfl hb
theorem iv_V_open_4 {G : xa_G} {rest fs : List Value} {h : xa_H} {b : Nat} (hb : h b = some (.inr (6, fs))) : xa_inv G mm_V_open mm_H_count 4 (.ref b :: rest) [.ref b] rest h := xi_V (n := 0) (As := []) dd_V_open_4 ok_H_count iw_167 iw_168 rfl iw_169 (by decide +kernel) rfl hb
theorem iv_V_page_2 {G : xa_G} {rest fs : List Value} {h : xa_H} {b : Nat} {a1 : Value} (hb : h b = some (.inr (0, fs))) : xa_inv G mm_V_page mm_V_subscriberAt 2 (a1 :: .ref b :: rest) [.ref b, a1] rest h := xi_V (n := 1) (As := [a1]) dd_V_page_2 ok_V_subscriberAt iw_948 iw_950 rfl ps_17 (by decide +kernel) rfl hb
theorem iv_V_page_28 {G : xa_G} {rest fs : List Value} {h : xa_H} {b : Nat} {a1 : Value} (hb : h b = some (.inr (7, fs))) : xa_inv G mm_V_page mm_S_showPage 28 (a1 :: .ref b :: rest) [.ref b, a1] rest h := xi_V (n := 1) (As := [a1]) dd_V_page_28 ok_S_showPage iw_999 iw_1000 rfl iw_1001 (by decide +kernel) rfl hb
theorem iv_V_read_2 {G : xa_G} {rest fs : List Value} {h : xa_H} {b : Nat} {a1 : Value} (hb : h b = some (.inr (0, fs))) : xa_inv G mm_V_read mm_V_subscriberAt 2 (a1 :: .ref b :: rest) [.ref b, a1] rest h := xi_V (n := 1) (As := [a1]) dd_V_read_2 ok_V_subscriberAt iw_948 iw_950 rfl ps_17 (by decide +kernel) rfl hb
theorem iv_V_read_15 {G : xa_G} {rest fs : List Value} {h : xa_H} {b : Nat} {a1 a2 : Value} (hb : h b = some (.inr (7, fs))) : xa_inv G mm_V_read mm_S_takeNote 15 (a2 :: a1 :: .ref b :: rest) [.ref b, a1, a2] rest h := xi_V (n := 2) (As := [a1, a2]) dd_V_read_15 ok_S_takeNote iw_973 iw_974 rfl iw_975 (by decide +kernel) rfl hb
theorem iv_V_remove_1 {G : xa_G} {rest fs : List Value} {h : xa_H} {b : Nat} (hb : h b = some (.inr (0, fs))) : xa_inv G mm_V_remove mm_V_checkPower 1 (.ref b :: rest) [.ref b] rest h := xi_V (n := 0) (As := []) dd_V_remove_1 ok_V_checkPower iw_432 iw_434 rfl ps_5 (by decide +kernel) rfl hb
theorem iv_V_remove_6 {G : xa_G} {rest fs : List Value} {h : xa_H} {b : Nat} {a1 : Value} (hb : h b = some (.inr (0, fs))) : xa_inv G mm_V_remove mm_V_liveEntry 6 (a1 :: .ref b :: rest) [.ref b, a1] rest h := xi_V (n := 1) (As := [a1]) dd_V_remove_6 ok_V_liveEntry iw_530 iw_532 rfl ps_8 (by decide +kernel) rfl hb
theorem iv_V_remove_15 {G : xa_G} {rest fs : List Value} {h : xa_H} {b : Nat} {a1 : Value} (hb : h b = some (.inr (2, fs))) : xa_inv G mm_V_remove mm_F_hasFilesIn 15 (a1 :: .ref b :: rest) [.ref b, a1] rest h := xi_V (n := 1) (As := [a1]) dd_V_remove_15 ok_F_hasFilesIn iw_890 iw_891 rfl iw_892 (by decide +kernel) rfl hb
theorem iv_V_remove_35 {G : xa_G} {rest fs : List Value} {h : xa_H} {b : Nat} {a1 a2 : Value} (hb : h b = some (.inr (0, fs))) : xa_inv G mm_V_remove mm_V_writeChangeNote 35 (a2 :: a1 :: .ref b :: rest) [.ref b, a1, a2] rest h := xi_V (n := 2) (As := [a1, a2]) dd_V_remove_35 ok_V_writeChangeNote iw_575 iw_577 rfl ps_11 (by decide +kernel) rfl hb
theorem iv_V_remove_42 {G : xa_G} {rest fs : List Value} {h : xa_H} {b : Nat} (hb : h b = some (.inr (0, fs))) : xa_inv G mm_V_remove mm_V_spendWrite 42 (.ref b :: rest) [.ref b] rest h := xi_V (n := 0) (As := []) dd_V_remove_42 ok_V_spendWrite iw_588 iw_590 rfl ps_13 (by decide +kernel) rfl hb
theorem iv_V_remove_55 {G : xa_G} {rest fs : List Value} {h : xa_H} {b : Nat} {a1 : Value} (hb : h b = some (.inr (2, fs))) : xa_inv G mm_V_remove mm_F_drop 55 (a1 :: .ref b :: rest) [.ref b, a1] rest h := xi_V (n := 1) (As := [a1]) dd_V_remove_55 ok_F_drop iw_895 iw_896 rfl iw_897 (by decide +kernel) rfl hb
theorem iv_V_rename_1 {G : xa_G} {rest fs : List Value} {h : xa_H} {b : Nat} (hb : h b = some (.inr (0, fs))) : xa_inv G mm_V_rename mm_V_checkPower 1 (.ref b :: rest) [.ref b] rest h := xi_V (n := 0) (As := []) dd_V_rename_1 ok_V_checkPower iw_432 iw_434 rfl ps_5 (by decide +kernel) rfl hb
theorem iv_V_rename_5 {G : xa_G} {rest : List Value} {h : xa_H} {a1 : Value} : xa_inv G mm_V_rename mm_V_checkName 5 (a1 :: rest) [a1] rest h := xi_S (n := 1) (as := [a1]) dd_V_rename_5 ok_V_checkName iw_507 iw_508 (by decide +kernel) rfl
theorem iv_V_rename_10 {G : xa_G} {rest fs : List Value} {h : xa_H} {b : Nat} {a1 : Value} (hb : h b = some (.inr (0, fs))) : xa_inv G mm_V_rename mm_V_liveEntry 10 (a1 :: .ref b :: rest) [.ref b, a1] rest h := xi_V (n := 1) (As := [a1]) dd_V_rename_10 ok_V_liveEntry iw_530 iw_532 rfl ps_8 (by decide +kernel) rfl hb
theorem iv_V_rename_17 {G : xa_G} {rest fs : List Value} {h : xa_H} {b : Nat} {a1 : Value} (hb : h b = some (.inr (0, fs))) : xa_inv G mm_V_rename mm_V_checkFolder 17 (a1 :: .ref b :: rest) [.ref b, a1] rest h := xi_V (n := 1) (As := [a1]) dd_V_rename_17 ok_V_checkFolder iw_526 iw_528 rfl ps_7 (by decide +kernel) rfl hb
theorem iv_V_rename_23 {G : xa_G} {rest fs : List Value} {h : xa_H} {b : Nat} {a1 a2 : Value} (hb : h b = some (.inr (0, fs))) : xa_inv G mm_V_rename mm_V_isOrLiesIn 23 (a2 :: a1 :: .ref b :: rest) [.ref b, a1, a2] rest h := xi_V (n := 2) (As := [a1, a2]) dd_V_rename_23 ok_V_isOrLiesIn iw_878 iw_880 rfl ps_16 (by decide +kernel) rfl hb
theorem iv_V_rename_43 {G : xa_G} {rest fs : List Value} {h : xa_H} {b : Nat} {a1 a2 a3 : Value} (hb : h b = some (.inr (0, fs))) : xa_inv G mm_V_rename mm_V_checkNameFree 43 (a3 :: a2 :: a1 :: .ref b :: rest) [.ref b, a1, a2, a3] rest h := xi_V (n := 3) (As := [a1, a2, a3]) dd_V_rename_43 ok_V_checkNameFree iw_566 iw_568 rfl ps_9 (by decide +kernel) rfl hb
theorem iv_V_rename_82 {G : xa_G} {rest fs : List Value} {h : xa_H} {b : Nat} {a1 a2 : Value} (hb : h b = some (.inr (0, fs))) : xa_inv G mm_V_rename mm_V_writeChangeNote 82 (a2 :: a1 :: .ref b :: rest) [.ref b, a1, a2] rest h := xi_V (n := 2) (As := [a1, a2]) dd_V_rename_82 ok_V_writeChangeNote iw_575 iw_577 rfl ps_11 (by decide +kernel) rfl hb
theorem iv_V_rename_107 {G : xa_G} {rest : List Value} {h : xa_H} {b : Nat} {a1 a2 a3 a4 a5 : Value} : xa_inv G mm_V_rename mm_E_init 107 (a5 :: a4 :: a3 :: a2 :: a1 :: .ref b :: rest) [.ref b, a1, a2, a3, a4, a5] rest h := xi_I (n := 5) (As := [a1, a2, a3, a4, a5]) dd_V_rename_107 ok_E_init rfl iw_368 iw_366 iw_367 (by decide +kernel) rfl
theorem iv_V_rename_127 {G : xa_G} {rest fs : List Value} {h : xa_H} {b : Nat} {a1 a2 : Value} (hb : h b = some (.inr (0, fs))) : xa_inv G mm_V_rename mm_V_noteAndDo 127 (a2 :: a1 :: .ref b :: rest) [.ref b, a1, a2] rest h := xi_V (n := 2) (As := [a1, a2]) dd_V_rename_127 ok_V_noteAndDo iw_571 iw_573 rfl ps_10 (by decide +kernel) rfl hb
theorem iv_V_shown_2 {G : xa_G} {rest fs : List Value} {h : xa_H} {b : Nat} {a1 : Value} (hb : h b = some (.inr (0, fs))) : xa_inv G mm_V_shown mm_V_subscriberAt 2 (a1 :: .ref b :: rest) [.ref b, a1] rest h := xi_V (n := 1) (As := [a1]) dd_V_shown_2 ok_V_subscriberAt iw_948 iw_950 rfl ps_17 (by decide +kernel) rfl hb
theorem iv_V_spendWrite_16 {G : xa_G} {rest fs : List Value} {h : xa_H} {b : Nat} (hb : h b = some (.inr (6, fs))) : xa_inv G mm_V_spendWrite mm_H_forget 16 (.ref b :: rest) [.ref b] rest h := xi_V (n := 0) (As := []) dd_V_spendWrite_16 ok_H_forget iw_592 iw_593 rfl iw_594 (by decide +kernel) rfl hb
theorem iv_V_start_27 {G : xa_G} {rest fs : List Value} {h : xa_H} {b : Nat} {a1 : Value} (hb : h b = some (.inr (6, fs))) : xa_inv G mm_V_start mm_H_recall 27 (a1 :: .ref b :: rest) [.ref b, a1] rest h := xi_V (n := 1) (As := [a1]) dd_V_start_27 ok_H_recall iw_227 iw_228 rfl iw_229 (by decide +kernel) rfl hb
theorem iv_V_start_34 {G : xa_G} {rest fs : List Value} {h : xa_H} {b : Nat} (hb : h b = some (.inr (6, fs))) : xa_inv G mm_V_start mm_H_count 34 (.ref b :: rest) [.ref b] rest h := xi_V (n := 0) (As := []) dd_V_start_34 ok_H_count iw_167 iw_168 rfl iw_169 (by decide +kernel) rfl hb
theorem iv_V_start_49 {G : xa_G} {rest fs : List Value} {h : xa_H} {b : Nat} (hb : h b = some (.inr (6, fs))) : xa_inv G mm_V_start mm_H_first 49 (.ref b :: rest) [.ref b] rest h := xi_V (n := 0) (As := []) dd_V_start_49 ok_H_first iw_348 iw_349 rfl iw_350 (by decide +kernel) rfl hb
theorem iv_V_start_59 {G : xa_G} {rest fs : List Value} {h : xa_H} {b : Nat} {a1 : Value} (hb : h b = some (.inr (0, fs))) : xa_inv G mm_V_start mm_V_endGathering 59 (a1 :: .ref b :: rest) [.ref b, a1] rest h := xi_V (n := 1) (As := [a1]) dd_V_start_59 ok_V_endGathering iw_356 iw_358 rfl ps_4 (by decide +kernel) rfl hb
theorem iv_V_subscribe_2 {G : xa_G} {rest fs : List Value} {h : xa_H} {b : Nat} {a1 : Value} (hb : h b = some (.inr (0, fs))) : xa_inv G mm_V_subscribe mm_V_subscriberAt 2 (a1 :: .ref b :: rest) [.ref b, a1] rest h := xi_V (n := 1) (As := [a1]) dd_V_subscribe_2 ok_V_subscriberAt iw_948 iw_950 rfl ps_17 (by decide +kernel) rfl hb
theorem iv_V_subscribe_32 {G : xa_G} {rest fs : List Value} {h : xa_H} {b : Nat} {a1 a2 : Value} (hb : h b = some (.inr (7, fs))) : xa_inv G mm_V_subscribe mm_S_beginAnew 32 (a2 :: a1 :: .ref b :: rest) [.ref b, a1, a2] rest h := xi_V (n := 2) (As := [a1, a2]) dd_V_subscribe_32 ok_S_beginAnew iw_954 iw_955 rfl iw_956 (by decide +kernel) rfl hb
theorem iv_V_tail_4 {G : xa_G} {rest fs : List Value} {h : xa_H} {b : Nat} (hb : h b = some (.inr (4, fs))) : xa_inv G mm_V_tail mm_R_leastKept 4 (.ref b :: rest) [.ref b] rest h := xi_V (n := 0) (As := []) dd_V_tail_4 ok_R_leastKept iw_211 iw_212 rfl iw_213 (by decide +kernel) rfl hb
theorem iv_V_writeChangeNote_8 {G : xa_G} {rest fs : List Value} {h : xa_H} {b : Nat} {a1 : Value} (hb : h b = some (.inr (6, fs))) : xa_inv G mm_V_writeChangeNote mm_H_inTheWayOf 8 (a1 :: .ref b :: rest) [.ref b, a1] rest h := xi_V (n := 1) (As := [a1]) dd_V_writeChangeNote_8 ok_H_inTheWayOf iw_579 iw_580 rfl iw_581 (by decide +kernel) rfl hb
theorem iv_V_writeChangeNote_18 {G : xa_G} {rest fs : List Value} {h : xa_H} {b : Nat} {a1 : Value} (hb : h b = some (.inr (0, fs))) : xa_inv G mm_V_writeChangeNote mm_V_writeClosingNote 18 (a1 :: .ref b :: rest) [.ref b, a1] rest h := xi_V (n := 1) (As := [a1]) dd_V_writeChangeNote_18 ok_V_writeClosingNote iw_584 iw_586 rfl ps_12 (by decide +kernel) rfl hb
theorem iv_V_writeChangeNote_27 {G : xa_G} {rest fs : List Value} {h : xa_H} {b : Nat} (hb : h b = some (.inr (0, fs))) : xa_inv G mm_V_writeChangeNote mm_V_spendWrite 27 (.ref b :: rest) [.ref b] rest h := xi_V (n := 0) (As := []) dd_V_writeChangeNote_27 ok_V_spendWrite iw_588 iw_590 rfl ps_13 (by decide +kernel) rfl hb
theorem iv_V_writeChangeNote_49 {G : xa_G} {rest fs : List Value} {h : xa_H} {b : Nat} {a1 a2 : Value} (hb : h b = some (.inr (6, fs))) : xa_inv G mm_V_writeChangeNote mm_H_gather 49 (a2 :: a1 :: .ref b :: rest) [.ref b, a1, a2] rest h := xi_V (n := 2) (As := [a1, a2]) dd_V_writeChangeNote_49 ok_H_gather iw_596 iw_264 rfl iw_265 (by decide +kernel) rfl hb
theorem iv_V_writeChangeNote_52 {G : xa_G} {rest fs : List Value} {h : xa_H} {b : Nat} {a1 a2 : Value} (hb : h b = some (.inr (4, fs))) : xa_inv G mm_V_writeChangeNote mm_R_append 52 (a2 :: a1 :: .ref b :: rest) [.ref b, a1, a2] rest h := xi_V (n := 2) (As := [a1, a2]) dd_V_writeChangeNote_52 ok_R_append iw_397 iw_398 rfl iw_399 (by decide +kernel) rfl hb
theorem iv_V_writeClosingNote_1 {G : xa_G} {rest fs : List Value} {h : xa_H} {b : Nat} (hb : h b = some (.inr (0, fs))) : xa_inv G mm_V_writeClosingNote mm_V_spendWrite 1 (.ref b :: rest) [.ref b] rest h := xi_V (n := 0) (As := []) dd_V_writeClosingNote_1 ok_V_spendWrite iw_588 iw_590 rfl ps_13 (by decide +kernel) rfl hb
theorem iv_V_writeClosingNote_11 {G : xa_G} {rest fs : List Value} {h : xa_H} {b : Nat} {a1 : Value} (hb : h b = some (.inr (0, fs))) : xa_inv G mm_V_writeClosingNote mm_V_endGathering 11 (a1 :: .ref b :: rest) [.ref b, a1] rest h := xi_V (n := 1) (As := [a1]) dd_V_writeClosingNote_11 ok_V_endGathering iw_356 iw_358 rfl ps_4 (by decide +kernel) rfl hb
theorem ol_S_3 : Cond.methodLink "NotedVolume$Subscriber" 3 ⟨"java/lang/Object", "<init>", "()V"⟩ ∈ xv_T := iw_113
theorem ar_int : Cond.arrayClass .int ∈ xv_T := iw_140
theorem ic_S_86 : Cond.constant "NotedVolume$Subscriber" 86 (2147483647 : Int32) ∈ xv_T := iw_1031
theorem ol_V_1 : Cond.methodLink "NotedVolume" 1 ⟨"java/lang/Object", "<init>", "()V"⟩ ∈ xv_T := iw_38
theorem an_V_32 : Cond.classLink "NotedVolume" 32 "NotedVolume$Subscriber" ∈ xv_T := iw_107
