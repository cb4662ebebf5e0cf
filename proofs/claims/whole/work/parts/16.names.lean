/-! names, by program (wip/whole/mknames.py 16.names.lean.txt E,N,R,G,F,H) -/
theorem iw_2 : Cond.initialized "NotedVolume$FileTable" ∈ xv_T := xv_in (List.mem_append_right _ (List.mem_of_getElem? (i := 2) (by decide +kernel))) (by decide +kernel)
theorem iw_6 : Cond.initialized "NotedVolume$Ring" ∈ xv_T := xv_in (List.mem_append_right _ (List.mem_of_getElem? (i := 6) (by decide +kernel))) (by decide +kernel)
theorem iw_7 : Cond.initialized "NotedVolume$Gatherings" ∈ xv_T := xv_in (List.mem_append_right _ (List.mem_of_getElem? (i := 7) (by decide +kernel))) (by decide +kernel)
theorem iw_19 : Cond.initialized "NotedVolume$Entry" ∈ xv_T := xv_in (List.mem_append_right _ (List.mem_of_getElem? (i := 19) (by decide +kernel))) (by decide +kernel)
theorem iw_20 : Cond.initialized "NotedVolume$Note" ∈ xv_T := xv_in (List.mem_append_right _ (List.mem_of_getElem? (i := 20) (by decide +kernel))) (by decide +kernel)
theorem iw_22 : Cond.initialized "NotedVolume$Gathering" ∈ xv_T := xv_in (List.mem_append_right _ (List.mem_of_getElem? (i := 22) (by decide +kernel))) (by decide +kernel)
theorem iw_45 : Cond.code ⟨"NotedVolume$FileTable", "<init>", "(I)V"⟩ prog_3_method_1_code 2 none ∈ xv_T := xv_in (List.mem_append_right _ (List.mem_of_getElem? (i := 45) (by decide +kernel))) (by decide +kernel)
theorem iw_46 : Cond.methodLink "NotedVolume$FileTable" 1 ⟨"java/lang/Object", "<init>", "()V"⟩ ∈ xv_T := xv_in (List.mem_append_right _ (List.mem_of_getElem? (i := 46) (by decide +kernel))) (by decide +kernel)
theorem iw_47 : Cond.classLink "NotedVolume$FileTable" 7 "java/util/ArrayList" ∈ xv_T := xv_in (List.mem_append_right _ (List.mem_of_getElem? (i := 47) (by decide +kernel))) (by decide +kernel)
theorem iw_48 : Cond.instantiable "java/util/ArrayList" 3 ∈ xv_T := xv_in (List.mem_append_right _ (List.mem_of_getElem? (i := 48) (by decide +kernel))) (by decide +kernel)
theorem iw_49 : Cond.methodLink "NotedVolume$FileTable" 9 ⟨"java/util/ArrayList", "<init>", "()V"⟩ ∈ xv_T := xv_in (List.mem_append_right _ (List.mem_of_getElem? (i := 49) (by decide +kernel))) (by decide +kernel)
theorem iw_50 : Cond.instanceMethod ⟨"java/util/ArrayList", "<init>", "()V"⟩ ∈ xv_T := xv_in (List.mem_append_right _ (List.mem_of_getElem? (i := 50) (by decide +kernel))) (by decide +kernel)
theorem iw_73 : Cond.fieldLink "NotedVolume$FileTable" 10 "NotedVolume$FileTable" "rows" "Ljava/util/ArrayList;" ∈ xv_T := xv_in (List.mem_append_right _ (List.mem_of_getElem? (i := 73) (by decide +kernel))) (by decide +kernel)
theorem iw_74 : Cond.fieldLink "NotedVolume$FileTable" 16 "NotedVolume$FileTable" "most" "I" ∈ xv_T := xv_in (List.mem_append_right _ (List.mem_of_getElem? (i := 74) (by decide +kernel))) (by decide +kernel)
theorem iw_84 : Cond.code ⟨"NotedVolume$Ring", "<init>", "()V"⟩ prog_7_method_1_code 1 none ∈ xv_T := xv_in (List.mem_append_right _ (List.mem_of_getElem? (i := 84) (by decide +kernel))) (by decide +kernel)
theorem iw_85 : Cond.methodLink "NotedVolume$Ring" 3 ⟨"java/lang/Object", "<init>", "()V"⟩ ∈ xv_T := xv_in (List.mem_append_right _ (List.mem_of_getElem? (i := 85) (by decide +kernel))) (by decide +kernel)
theorem iw_86 : Cond.classLink "NotedVolume$Ring" 9 "NotedVolume$Note" ∈ xv_T := xv_in (List.mem_append_right _ (List.mem_of_getElem? (i := 86) (by decide +kernel))) (by decide +kernel)
theorem iw_88 : Cond.fieldLink "NotedVolume$Ring" 11 "NotedVolume$Ring" "cells" "[LNotedVolume$Note;" ∈ xv_T := xv_in (List.mem_append_right _ (List.mem_of_getElem? (i := 88) (by decide +kernel))) (by decide +kernel)
theorem iw_89 : Cond.fieldLink "NotedVolume$Ring" 17 "NotedVolume$Ring" "next" "I" ∈ xv_T := xv_in (List.mem_append_right _ (List.mem_of_getElem? (i := 89) (by decide +kernel))) (by decide +kernel)
theorem iw_99 : Cond.code ⟨"NotedVolume$Gatherings", "<init>", "()V"⟩ prog_5_method_1_code 1 none ∈ xv_T := xv_in (List.mem_append_right _ (List.mem_of_getElem? (i := 99) (by decide +kernel))) (by decide +kernel)
theorem iw_100 : Cond.methodLink "NotedVolume$Gatherings" 3 ⟨"java/lang/Object", "<init>", "()V"⟩ ∈ xv_T := xv_in (List.mem_append_right _ (List.mem_of_getElem? (i := 100) (by decide +kernel))) (by decide +kernel)
theorem iw_101 : Cond.classLink "NotedVolume$Gatherings" 9 "java/util/ArrayList" ∈ xv_T := xv_in (List.mem_append_right _ (List.mem_of_getElem? (i := 101) (by decide +kernel))) (by decide +kernel)
theorem iw_102 : Cond.methodLink "NotedVolume$Gatherings" 11 ⟨"java/util/ArrayList", "<init>", "()V"⟩ ∈ xv_T := xv_in (List.mem_append_right _ (List.mem_of_getElem? (i := 102) (by decide +kernel))) (by decide +kernel)
theorem iw_103 : Cond.fieldLink "NotedVolume$Gatherings" 12 "NotedVolume$Gatherings" "open" "Ljava/util/ArrayList;" ∈ xv_T := xv_in (List.mem_append_right _ (List.mem_of_getElem? (i := 103) (by decide +kernel))) (by decide +kernel)
theorem iw_170 : Cond.code ⟨"NotedVolume$Gatherings", "count", "()I"⟩ prog_5_method_2_code 1 (some .int) ∈ xv_T := xv_in (List.mem_append_right _ (List.mem_of_getElem? (i := 170) (by decide +kernel))) (by decide +kernel)
theorem iw_171 : Cond.methodLink "NotedVolume$Gatherings" 18 ⟨"java/util/ArrayList", "size", "()I"⟩ ∈ xv_T := xv_in (List.mem_append_right _ (List.mem_of_getElem? (i := 171) (by decide +kernel))) (by decide +kernel)
theorem iw_172 : Cond.instanceMethod ⟨"java/util/ArrayList", "size", "()I"⟩ ∈ xv_T := xv_in (List.mem_append_right _ (List.mem_of_getElem? (i := 172) (by decide +kernel))) (by decide +kernel)
theorem iw_182 : Cond.code ⟨"NotedVolume$FileTable", "entryNamed", "(II)LNotedVolume$Entry;"⟩ prog_3_method_5_code 5 (some (.object "NotedVolume$Entry")) ∈ xv_T := xv_in (List.mem_append_right _ (List.mem_of_getElem? (i := 182) (by decide +kernel))) (by decide +kernel)
theorem iw_183 : Cond.methodLink "NotedVolume$FileTable" 20 ⟨"java/util/ArrayList", "size", "()I"⟩ ∈ xv_T := xv_in (List.mem_append_right _ (List.mem_of_getElem? (i := 183) (by decide +kernel))) (by decide +kernel)
theorem iw_184 : Cond.methodLink "NotedVolume$FileTable" 24 ⟨"java/util/ArrayList", "get", "(I)Ljava/lang/Object;"⟩ ∈ xv_T := xv_in (List.mem_append_right _ (List.mem_of_getElem? (i := 184) (by decide +kernel))) (by decide +kernel)
theorem iw_185 : Cond.instanceMethod ⟨"java/util/ArrayList", "get", "(I)Ljava/lang/Object;"⟩ ∈ xv_T := xv_in (List.mem_append_right _ (List.mem_of_getElem? (i := 185) (by decide +kernel))) (by decide +kernel)
theorem iw_198 : Cond.classLink "NotedVolume$FileTable" 28 "NotedVolume$Entry" ∈ xv_T := xv_in (List.mem_append_right _ (List.mem_of_getElem? (i := 198) (by decide +kernel))) (by decide +kernel)
theorem iw_206 : Cond.code ⟨"NotedVolume$FileTable", "count", "()I"⟩ prog_3_method_2_code 1 (some .int) ∈ xv_T := xv_in (List.mem_append_right _ (List.mem_of_getElem? (i := 206) (by decide +kernel))) (by decide +kernel)
theorem iw_212 : Cond.instanceMethod ⟨"NotedVolume$Ring", "leastKept", "()I"⟩ ∈ xv_T := xv_in (List.mem_append_right _ (List.mem_of_getElem? (i := 212) (by decide +kernel))) (by decide +kernel)
theorem iw_213 : Cond.selects "NotedVolume$Ring" ⟨"NotedVolume$Ring", "leastKept", "()I"⟩ ⟨"NotedVolume$Ring", "leastKept", "()I"⟩ ∈ xv_T := xv_in (List.mem_append_right _ (List.mem_of_getElem? (i := 213) (by decide +kernel))) (by decide +kernel)
theorem iw_214 : Cond.code ⟨"NotedVolume$Ring", "leastKept", "()I"⟩ prog_7_method_3_code 1 (some .int) ∈ xv_T := xv_in (List.mem_append_right _ (List.mem_of_getElem? (i := 214) (by decide +kernel))) (by decide +kernel)
theorem iw_220 : Cond.instanceMethod ⟨"NotedVolume$Ring", "nextSerial", "()I"⟩ ∈ xv_T := xv_in (List.mem_append_right _ (List.mem_of_getElem? (i := 220) (by decide +kernel))) (by decide +kernel)
theorem iw_221 : Cond.selects "NotedVolume$Ring" ⟨"NotedVolume$Ring", "nextSerial", "()I"⟩ ⟨"NotedVolume$Ring", "nextSerial", "()I"⟩ ∈ xv_T := xv_in (List.mem_append_right _ (List.mem_of_getElem? (i := 221) (by decide +kernel))) (by decide +kernel)
theorem iw_222 : Cond.code ⟨"NotedVolume$Ring", "nextSerial", "()I"⟩ prog_7_method_2_code 1 (some .int) ∈ xv_T := xv_in (List.mem_append_right _ (List.mem_of_getElem? (i := 222) (by decide +kernel))) (by decide +kernel)
theorem iw_230 : Cond.code ⟨"NotedVolume$Gatherings", "recall", "(LNotedVolume$Ring;)V"⟩ prog_5_method_9_code 4 none ∈ xv_T := xv_in (List.mem_append_right _ (List.mem_of_getElem? (i := 230) (by decide +kernel))) (by decide +kernel)
theorem iw_231 : Cond.methodLink "NotedVolume$Gatherings" 57 ⟨"java/util/ArrayList", "clear", "()V"⟩ ∈ xv_T := xv_in (List.mem_append_right _ (List.mem_of_getElem? (i := 231) (by decide +kernel))) (by decide +kernel)
theorem iw_232 : Cond.instanceMethod ⟨"java/util/ArrayList", "clear", "()V"⟩ ∈ xv_T := xv_in (List.mem_append_right _ (List.mem_of_getElem? (i := 232) (by decide +kernel))) (by decide +kernel)
theorem iw_235 : Cond.methodLink "NotedVolume$Gatherings" 60 ⟨"NotedVolume$Ring", "leastKept", "()I"⟩ ∈ xv_T := xv_in (List.mem_append_right _ (List.mem_of_getElem? (i := 235) (by decide +kernel))) (by decide +kernel)
theorem iw_236 : Cond.methodLink "NotedVolume$Gatherings" 65 ⟨"NotedVolume$Ring", "nextSerial", "()I"⟩ ∈ xv_T := xv_in (List.mem_append_right _ (List.mem_of_getElem? (i := 236) (by decide +kernel))) (by decide +kernel)
theorem iw_237 : Cond.methodLink "NotedVolume$Gatherings" 68 ⟨"NotedVolume$Ring", "noteAt", "(I)LNotedVolume$Note;"⟩ ∈ xv_T := xv_in (List.mem_append_right _ (List.mem_of_getElem? (i := 237) (by decide +kernel))) (by decide +kernel)
theorem iw_238 : Cond.instanceMethod ⟨"NotedVolume$Ring", "noteAt", "(I)LNotedVolume$Note;"⟩ ∈ xv_T := xv_in (List.mem_append_right _ (List.mem_of_getElem? (i := 238) (by decide +kernel))) (by decide +kernel)
theorem iw_239 : Cond.selects "NotedVolume$Ring" ⟨"NotedVolume$Ring", "noteAt", "(I)LNotedVolume$Note;"⟩ ⟨"NotedVolume$Ring", "noteAt", "(I)LNotedVolume$Note;"⟩ ∈ xv_T := xv_in (List.mem_append_right _ (List.mem_of_getElem? (i := 239) (by decide +kernel))) (by decide +kernel)
theorem iw_240 : Cond.code ⟨"NotedVolume$Ring", "noteAt", "(I)LNotedVolume$Note;"⟩ prog_7_method_4_code 2 (some (.object "NotedVolume$Note")) ∈ xv_T := xv_in (List.mem_append_right _ (List.mem_of_getElem? (i := 240) (by decide +kernel))) (by decide +kernel)
theorem iw_241 : Cond.methodLink "NotedVolume$Ring" 21 ⟨"NotedVolume$Ring", "leastKept", "()I"⟩ ∈ xv_T := xv_in (List.mem_append_right _ (List.mem_of_getElem? (i := 241) (by decide +kernel))) (by decide +kernel)
theorem iw_242 : Cond.methodLink "NotedVolume$Gatherings" 72 ⟨"NotedVolume$Note", "hasAny", "(I)Z"⟩ ∈ xv_T := xv_in (List.mem_append_right _ (List.mem_of_getElem? (i := 242) (by decide +kernel))) (by decide +kernel)
theorem iw_243 : Cond.instanceMethod ⟨"NotedVolume$Note", "hasAny", "(I)Z"⟩ ∈ xv_T := xv_in (List.mem_append_right _ (List.mem_of_getElem? (i := 243) (by decide +kernel))) (by decide +kernel)
theorem iw_244 : Cond.selects "NotedVolume$Note" ⟨"NotedVolume$Note", "hasAny", "(I)Z"⟩ ⟨"NotedVolume$Note", "hasAny", "(I)Z"⟩ ∈ xv_T := xv_in (List.mem_append_right _ (List.mem_of_getElem? (i := 244) (by decide +kernel))) (by decide +kernel)
theorem iw_245 : Cond.code ⟨"NotedVolume$Note", "hasAny", "(I)Z"⟩ prog_6_method_2_code 2 (some .boolean) ∈ xv_T := xv_in (List.mem_append_right _ (List.mem_of_getElem? (i := 245) (by decide +kernel))) (by decide +kernel)
theorem iw_246 : Cond.methodLink "NotedVolume$Gatherings" 87 ⟨"NotedVolume$Gatherings", "take", "(I)V"⟩ ∈ xv_T := xv_in (List.mem_append_right _ (List.mem_of_getElem? (i := 246) (by decide +kernel))) (by decide +kernel)
theorem iw_247 : Cond.instanceMethod ⟨"NotedVolume$Gatherings", "take", "(I)V"⟩ ∈ xv_T := xv_in (List.mem_append_right _ (List.mem_of_getElem? (i := 247) (by decide +kernel))) (by decide +kernel)
theorem iw_248 : Cond.selects "NotedVolume$Gatherings" ⟨"NotedVolume$Gatherings", "take", "(I)V"⟩ ⟨"NotedVolume$Gatherings", "take", "(I)V"⟩ ∈ xv_T := xv_in (List.mem_append_right _ (List.mem_of_getElem? (i := 248) (by decide +kernel))) (by decide +kernel)
theorem iw_249 : Cond.code ⟨"NotedVolume$Gatherings", "take", "(I)V"⟩ prog_5_method_7_code 3 none ∈ xv_T := xv_in (List.mem_append_right _ (List.mem_of_getElem? (i := 249) (by decide +kernel))) (by decide +kernel)
theorem iw_250 : Cond.methodLink "NotedVolume$Gatherings" 26 ⟨"java/util/ArrayList", "get", "(I)Ljava/lang/Object;"⟩ ∈ xv_T := xv_in (List.mem_append_right _ (List.mem_of_getElem? (i := 250) (by decide +kernel))) (by decide +kernel)
theorem iw_251 : Cond.classLink "NotedVolume$Gatherings" 30 "NotedVolume$Gathering" ∈ xv_T := xv_in (List.mem_append_right _ (List.mem_of_getElem? (i := 251) (by decide +kernel))) (by decide +kernel)
theorem iw_252 : Cond.methodLink "NotedVolume$Gatherings" 54 ⟨"java/util/ArrayList", "remove", "(I)Ljava/lang/Object;"⟩ ∈ xv_T := xv_in (List.mem_append_right _ (List.mem_of_getElem? (i := 252) (by decide +kernel))) (by decide +kernel)
theorem iw_253 : Cond.instanceMethod ⟨"java/util/ArrayList", "remove", "(I)Ljava/lang/Object;"⟩ ∈ xv_T := xv_in (List.mem_append_right _ (List.mem_of_getElem? (i := 253) (by decide +kernel))) (by decide +kernel)
theorem iw_263 : Cond.methodLink "NotedVolume$Gatherings" 91 ⟨"NotedVolume$Gatherings", "gather", "(II)I"⟩ ∈ xv_T := xv_in (List.mem_append_right _ (List.mem_of_getElem? (i := 263) (by decide +kernel))) (by decide +kernel)
theorem iw_264 : Cond.instanceMethod ⟨"NotedVolume$Gatherings", "gather", "(II)I"⟩ ∈ xv_T := xv_in (List.mem_append_right _ (List.mem_of_getElem? (i := 264) (by decide +kernel))) (by decide +kernel)
theorem iw_265 : Cond.selects "NotedVolume$Gatherings" ⟨"NotedVolume$Gatherings", "gather", "(II)I"⟩ ⟨"NotedVolume$Gatherings", "gather", "(II)I"⟩ ∈ xv_T := xv_in (List.mem_append_right _ (List.mem_of_getElem? (i := 265) (by decide +kernel))) (by decide +kernel)
theorem iw_266 : Cond.code ⟨"NotedVolume$Gatherings", "gather", "(II)I"⟩ prog_5_method_6_code 4 (some .int) ∈ xv_T := xv_in (List.mem_append_right _ (List.mem_of_getElem? (i := 266) (by decide +kernel))) (by decide +kernel)
theorem iw_267 : Cond.methodLink "NotedVolume$Gatherings" 36 ⟨"NotedVolume$Gatherings", "gatheringOf", "(I)LNotedVolume$Gathering;"⟩ ∈ xv_T := xv_in (List.mem_append_right _ (List.mem_of_getElem? (i := 267) (by decide +kernel))) (by decide +kernel)
theorem iw_268 : Cond.instanceMethod ⟨"NotedVolume$Gatherings", "gatheringOf", "(I)LNotedVolume$Gathering;"⟩ ∈ xv_T := xv_in (List.mem_append_right _ (List.mem_of_getElem? (i := 268) (by decide +kernel))) (by decide +kernel)
theorem iw_269 : Cond.selects "NotedVolume$Gatherings" ⟨"NotedVolume$Gatherings", "gatheringOf", "(I)LNotedVolume$Gathering;"⟩ ⟨"NotedVolume$Gatherings", "gatheringOf", "(I)LNotedVolume$Gathering;"⟩ ∈ xv_T := xv_in (List.mem_append_right _ (List.mem_of_getElem? (i := 269) (by decide +kernel))) (by decide +kernel)
theorem iw_270 : Cond.code ⟨"NotedVolume$Gatherings", "gatheringOf", "(I)LNotedVolume$Gathering;"⟩ prog_5_method_4_code 4 (some (.object "NotedVolume$Gathering")) ∈ xv_T := xv_in (List.mem_append_right _ (List.mem_of_getElem? (i := 270) (by decide +kernel))) (by decide +kernel)
theorem iw_271 : Cond.instantiable "NotedVolume$Gathering" 2 ∈ xv_T := xv_in (List.mem_append_right _ (List.mem_of_getElem? (i := 271) (by decide +kernel))) (by decide +kernel)
theorem iw_272 : Cond.methodLink "NotedVolume$Gatherings" 44 ⟨"NotedVolume$Gathering", "<init>", "(I)V"⟩ ∈ xv_T := xv_in (List.mem_append_right _ (List.mem_of_getElem? (i := 272) (by decide +kernel))) (by decide +kernel)
theorem iw_273 : Cond.instanceMethod ⟨"NotedVolume$Gathering", "<init>", "(I)V"⟩ ∈ xv_T := xv_in (List.mem_append_right _ (List.mem_of_getElem? (i := 273) (by decide +kernel))) (by decide +kernel)
theorem iw_274 : Cond.code ⟨"NotedVolume$Gathering", "<init>", "(I)V"⟩ prog_4_method_1_code 2 none ∈ xv_T := xv_in (List.mem_append_right _ (List.mem_of_getElem? (i := 274) (by decide +kernel))) (by decide +kernel)
theorem iw_275 : Cond.methodLink "NotedVolume$Gathering" 1 ⟨"java/lang/Object", "<init>", "()V"⟩ ∈ xv_T := xv_in (List.mem_append_right _ (List.mem_of_getElem? (i := 275) (by decide +kernel))) (by decide +kernel)
theorem iw_276 : Cond.fieldLink "NotedVolume$Gathering" 7 "NotedVolume$Gathering" "file" "I" ∈ xv_T := xv_in (List.mem_append_right _ (List.mem_of_getElem? (i := 276) (by decide +kernel))) (by decide +kernel)
theorem iw_277 : Cond.fieldLink "NotedVolume$Gatherings" 32 "NotedVolume$Gathering" "file" "I" ∈ xv_T := xv_in (List.mem_append_right _ (List.mem_of_getElem? (i := 277) (by decide +kernel))) (by decide +kernel)
theorem iw_279 : Cond.fieldLink "NotedVolume$Gatherings" 51 "NotedVolume$Gathering" "reasons" "I" ∈ xv_T := xv_in (List.mem_append_right _ (List.mem_of_getElem? (i := 279) (by decide +kernel))) (by decide +kernel)
theorem iw_286 : Cond.methodLink "NotedVolume$Gatherings" 47 ⟨"java/util/ArrayList", "add", "(Ljava/lang/Object;)Z"⟩ ∈ xv_T := xv_in (List.mem_append_right _ (List.mem_of_getElem? (i := 286) (by decide +kernel))) (by decide +kernel)
theorem iw_287 : Cond.instanceMethod ⟨"java/util/ArrayList", "add", "(Ljava/lang/Object;)Z"⟩ ∈ xv_T := xv_in (List.mem_append_right _ (List.mem_of_getElem? (i := 287) (by decide +kernel))) (by decide +kernel)
theorem iw_349 : Cond.instanceMethod ⟨"NotedVolume$Gatherings", "first", "()LNotedVolume$Gathering;"⟩ ∈ xv_T := xv_in (List.mem_append_right _ (List.mem_of_getElem? (i := 349) (by decide +kernel))) (by decide +kernel)
theorem iw_350 : Cond.selects "NotedVolume$Gatherings" ⟨"NotedVolume$Gatherings", "first", "()LNotedVolume$Gathering;"⟩ ⟨"NotedVolume$Gatherings", "first", "()LNotedVolume$Gathering;"⟩ ∈ xv_T := xv_in (List.mem_append_right _ (List.mem_of_getElem? (i := 350) (by decide +kernel))) (by decide +kernel)
theorem iw_351 : Cond.code ⟨"NotedVolume$Gatherings", "first", "()LNotedVolume$Gathering;"⟩ prog_5_method_3_code 1 (some (.object "NotedVolume$Gathering")) ∈ xv_T := xv_in (List.mem_append_right _ (List.mem_of_getElem? (i := 351) (by decide +kernel))) (by decide +kernel)
theorem iw_352 : Cond.methodLink "NotedVolume$Gatherings" 22 ⟨"java/util/ArrayList", "isEmpty", "()Z"⟩ ∈ xv_T := xv_in (List.mem_append_right _ (List.mem_of_getElem? (i := 352) (by decide +kernel))) (by decide +kernel)
theorem iw_353 : Cond.instanceMethod ⟨"java/util/ArrayList", "isEmpty", "()Z"⟩ ∈ xv_T := xv_in (List.mem_append_right _ (List.mem_of_getElem? (i := 353) (by decide +kernel))) (by decide +kernel)
theorem iw_363 : Cond.code ⟨"NotedVolume$FileTable", "entryOf", "(I)LNotedVolume$Entry;"⟩ prog_3_method_4_code 4 (some (.object "NotedVolume$Entry")) ∈ xv_T := xv_in (List.mem_append_right _ (List.mem_of_getElem? (i := 363) (by decide +kernel))) (by decide +kernel)
theorem iw_368 : Cond.code ⟨"NotedVolume$Entry", "<init>", "(IIIII)V"⟩ prog_2_method_1_code 6 none ∈ xv_T := xv_in (List.mem_append_right _ (List.mem_of_getElem? (i := 368) (by decide +kernel))) (by decide +kernel)
theorem iw_369 : Cond.methodLink "NotedVolume$Entry" 1 ⟨"java/lang/Object", "<init>", "()V"⟩ ∈ xv_T := xv_in (List.mem_append_right _ (List.mem_of_getElem? (i := 369) (by decide +kernel))) (by decide +kernel)
theorem iw_370 : Cond.fieldLink "NotedVolume$Entry" 7 "NotedVolume$Entry" "number" "I" ∈ xv_T := xv_in (List.mem_append_right _ (List.mem_of_getElem? (i := 370) (by decide +kernel))) (by decide +kernel)
theorem iw_372 : Cond.fieldLink "NotedVolume$FileTable" 30 "NotedVolume$Entry" "number" "I" ∈ xv_T := xv_in (List.mem_append_right _ (List.mem_of_getElem? (i := 372) (by decide +kernel))) (by decide +kernel)
theorem iw_373 : Cond.fieldLink "NotedVolume$Note" 17 "NotedVolume$Entry" "number" "I" ∈ xv_T := xv_in (List.mem_append_right _ (List.mem_of_getElem? (i := 373) (by decide +kernel))) (by decide +kernel)
theorem iw_375 : Cond.fieldLink "NotedVolume$Gatherings" 82 "NotedVolume$Entry" "number" "I" ∈ xv_T := xv_in (List.mem_append_right _ (List.mem_of_getElem? (i := 375) (by decide +kernel))) (by decide +kernel)
theorem iw_376 : Cond.fieldLink "NotedVolume$Entry" 13 "NotedVolume$Entry" "sort" "I" ∈ xv_T := xv_in (List.mem_append_right _ (List.mem_of_getElem? (i := 376) (by decide +kernel))) (by decide +kernel)
theorem iw_378 : Cond.fieldLink "NotedVolume$Entry" 16 "NotedVolume$Entry" "parent" "I" ∈ xv_T := xv_in (List.mem_append_right _ (List.mem_of_getElem? (i := 378) (by decide +kernel))) (by decide +kernel)
theorem iw_380 : Cond.fieldLink "NotedVolume$FileTable" 33 "NotedVolume$Entry" "parent" "I" ∈ xv_T := xv_in (List.mem_append_right _ (List.mem_of_getElem? (i := 380) (by decide +kernel))) (by decide +kernel)
theorem iw_381 : Cond.fieldLink "NotedVolume$Entry" 19 "NotedVolume$Entry" "name" "I" ∈ xv_T := xv_in (List.mem_append_right _ (List.mem_of_getElem? (i := 381) (by decide +kernel))) (by decide +kernel)
theorem iw_383 : Cond.fieldLink "NotedVolume$FileTable" 36 "NotedVolume$Entry" "name" "I" ∈ xv_T := xv_in (List.mem_append_right _ (List.mem_of_getElem? (i := 383) (by decide +kernel))) (by decide +kernel)
theorem iw_384 : Cond.fieldLink "NotedVolume$Entry" 22 "NotedVolume$Entry" "mark" "I" ∈ xv_T := xv_in (List.mem_append_right _ (List.mem_of_getElem? (i := 384) (by decide +kernel))) (by decide +kernel)
theorem iw_400 : Cond.code ⟨"NotedVolume$Ring", "append", "(LNotedVolume$Entry;I)V"⟩ prog_7_method_5_code 3 none ∈ xv_T := xv_in (List.mem_append_right _ (List.mem_of_getElem? (i := 400) (by decide +kernel))) (by decide +kernel)
theorem iw_401 : Cond.instantiable "NotedVolume$Note" 2 ∈ xv_T := xv_in (List.mem_append_right _ (List.mem_of_getElem? (i := 401) (by decide +kernel))) (by decide +kernel)
theorem iw_402 : Cond.methodLink "NotedVolume$Ring" 25 ⟨"NotedVolume$Note", "<init>", "(LNotedVolume$Entry;I)V"⟩ ∈ xv_T := xv_in (List.mem_append_right _ (List.mem_of_getElem? (i := 402) (by decide +kernel))) (by decide +kernel)
theorem iw_403 : Cond.instanceMethod ⟨"NotedVolume$Note", "<init>", "(LNotedVolume$Entry;I)V"⟩ ∈ xv_T := xv_in (List.mem_append_right _ (List.mem_of_getElem? (i := 403) (by decide +kernel))) (by decide +kernel)
theorem iw_404 : Cond.code ⟨"NotedVolume$Note", "<init>", "(LNotedVolume$Entry;I)V"⟩ prog_6_method_1_code 3 none ∈ xv_T := xv_in (List.mem_append_right _ (List.mem_of_getElem? (i := 404) (by decide +kernel))) (by decide +kernel)
theorem iw_405 : Cond.methodLink "NotedVolume$Note" 1 ⟨"java/lang/Object", "<init>", "()V"⟩ ∈ xv_T := xv_in (List.mem_append_right _ (List.mem_of_getElem? (i := 405) (by decide +kernel))) (by decide +kernel)
theorem iw_406 : Cond.fieldLink "NotedVolume$Note" 7 "NotedVolume$Note" "entry" "LNotedVolume$Entry;" ∈ xv_T := xv_in (List.mem_append_right _ (List.mem_of_getElem? (i := 406) (by decide +kernel))) (by decide +kernel)
theorem iw_408 : Cond.fieldLink "NotedVolume$Gatherings" 78 "NotedVolume$Note" "entry" "LNotedVolume$Entry;" ∈ xv_T := xv_in (List.mem_append_right _ (List.mem_of_getElem? (i := 408) (by decide +kernel))) (by decide +kernel)
theorem iw_409 : Cond.fieldLink "NotedVolume$Note" 13 "NotedVolume$Note" "reasons" "I" ∈ xv_T := xv_in (List.mem_append_right _ (List.mem_of_getElem? (i := 409) (by decide +kernel))) (by decide +kernel)
theorem iw_410 : Cond.fieldLink "NotedVolume$Gatherings" 90 "NotedVolume$Note" "reasons" "I" ∈ xv_T := xv_in (List.mem_append_right _ (List.mem_of_getElem? (i := 410) (by decide +kernel))) (by decide +kernel)
theorem iw_582 : Cond.code ⟨"NotedVolume$Gatherings", "inTheWayOf", "(I)LNotedVolume$Gathering;"⟩ prog_5_method_5_code 2 (some (.object "NotedVolume$Gathering")) ∈ xv_T := xv_in (List.mem_append_right _ (List.mem_of_getElem? (i := 582) (by decide +kernel))) (by decide +kernel)
theorem iw_583 : Cond.methodLink "NotedVolume$Gatherings" 40 ⟨"NotedVolume$Gatherings", "first", "()LNotedVolume$Gathering;"⟩ ∈ xv_T := xv_in (List.mem_append_right _ (List.mem_of_getElem? (i := 583) (by decide +kernel))) (by decide +kernel)
theorem iw_595 : Cond.code ⟨"NotedVolume$Gatherings", "forget", "()V"⟩ prog_5_method_8_code 1 none ∈ xv_T := xv_in (List.mem_append_right _ (List.mem_of_getElem? (i := 595) (by decide +kernel))) (by decide +kernel)
theorem iw_600 : Cond.code ⟨"NotedVolume$FileTable", "put", "(LNotedVolume$Entry;)V"⟩ prog_3_method_7_code 3 none ∈ xv_T := xv_in (List.mem_append_right _ (List.mem_of_getElem? (i := 600) (by decide +kernel))) (by decide +kernel)
theorem iw_601 : Cond.methodLink "NotedVolume$FileTable" 39 ⟨"java/util/ArrayList", "set", "(ILjava/lang/Object;)Ljava/lang/Object;"⟩ ∈ xv_T := xv_in (List.mem_append_right _ (List.mem_of_getElem? (i := 601) (by decide +kernel))) (by decide +kernel)
theorem iw_602 : Cond.instanceMethod ⟨"java/util/ArrayList", "set", "(ILjava/lang/Object;)Ljava/lang/Object;"⟩ ∈ xv_T := xv_in (List.mem_append_right _ (List.mem_of_getElem? (i := 602) (by decide +kernel))) (by decide +kernel)
theorem iw_605 : Cond.methodLink "NotedVolume$FileTable" 43 ⟨"java/util/ArrayList", "add", "(ILjava/lang/Object;)V"⟩ ∈ xv_T := xv_in (List.mem_append_right _ (List.mem_of_getElem? (i := 605) (by decide +kernel))) (by decide +kernel)
theorem iw_606 : Cond.instanceMethod ⟨"java/util/ArrayList", "add", "(ILjava/lang/Object;)V"⟩ ∈ xv_T := xv_in (List.mem_append_right _ (List.mem_of_getElem? (i := 606) (by decide +kernel))) (by decide +kernel)
theorem iw_893 : Cond.code ⟨"NotedVolume$FileTable", "hasFilesIn", "(I)Z"⟩ prog_3_method_6_code 3 (some .boolean) ∈ xv_T := xv_in (List.mem_append_right _ (List.mem_of_getElem? (i := 893) (by decide +kernel))) (by decide +kernel)
theorem iw_898 : Cond.code ⟨"NotedVolume$FileTable", "drop", "(I)V"⟩ prog_3_method_8_code 3 none ∈ xv_T := xv_in (List.mem_append_right _ (List.mem_of_getElem? (i := 898) (by decide +kernel))) (by decide +kernel)
theorem iw_899 : Cond.methodLink "NotedVolume$FileTable" 47 ⟨"java/util/ArrayList", "remove", "(I)Ljava/lang/Object;"⟩ ∈ xv_T := xv_in (List.mem_append_right _ (List.mem_of_getElem? (i := 899) (by decide +kernel))) (by decide +kernel)
theorem iw_924 : Cond.instanceMethod ⟨"NotedVolume$Entry", "item", "(I)I"⟩ ∈ xv_T := xv_in (List.mem_append_right _ (List.mem_of_getElem? (i := 924) (by decide +kernel))) (by decide +kernel)
theorem iw_925 : Cond.selects "NotedVolume$Entry" ⟨"NotedVolume$Entry", "item", "(I)I"⟩ ⟨"NotedVolume$Entry", "item", "(I)I"⟩ ∈ xv_T := xv_in (List.mem_append_right _ (List.mem_of_getElem? (i := 925) (by decide +kernel))) (by decide +kernel)
theorem iw_926 : Cond.code ⟨"NotedVolume$Entry", "item", "(I)I"⟩ prog_2_method_2_code 2 (some .int) ∈ xv_T := xv_in (List.mem_append_right _ (List.mem_of_getElem? (i := 926) (by decide +kernel))) (by decide +kernel)
theorem iw_939 : Cond.code ⟨"NotedVolume$Note", "item", "(I)I"⟩ prog_6_method_3_code 2 (some .int) ∈ xv_T := xv_in (List.mem_append_right _ (List.mem_of_getElem? (i := 939) (by decide +kernel))) (by decide +kernel)
theorem iw_940 : Cond.methodLink "NotedVolume$Note" 22 ⟨"NotedVolume$Entry", "item", "(I)I"⟩ ∈ xv_T := xv_in (List.mem_append_right _ (List.mem_of_getElem? (i := 940) (by decide +kernel))) (by decide +kernel)
theorem iw_1006 : Cond.code ⟨"NotedVolume$FileTable", "entryAbove", "(I)LNotedVolume$Entry;"⟩ prog_3_method_3_code 4 (some (.object "NotedVolume$Entry")) ∈ xv_T := xv_in (List.mem_append_right _ (List.mem_of_getElem? (i := 1006) (by decide +kernel))) (by decide +kernel)
theorem iw_1035 : Cond.code ⟨"NotedVolume$FileTable", "dropRange", "(II)V"⟩ prog_3_method_9_code 5 none ∈ xv_T := xv_in (List.mem_append_right _ (List.mem_of_getElem? (i := 1035) (by decide +kernel))) (by decide +kernel)
theorem iw_1067 : Cond.code ⟨"NotedVolume$FileTable", "isLike", "(LNotedVolume$FileTable;)Z"⟩ prog_3_method_10_code 3 (some .boolean) ∈ xv_T := xv_in (List.mem_append_right _ (List.mem_of_getElem? (i := 1067) (by decide +kernel))) (by decide +kernel)
theorem iw_1068 : Cond.methodLink "NotedVolume$FileTable" 50 ⟨"NotedVolume$Entry", "isLike", "(LNotedVolume$Entry;)Z"⟩ ∈ xv_T := xv_in (List.mem_append_right _ (List.mem_of_getElem? (i := 1068) (by decide +kernel))) (by decide +kernel)
theorem iw_1069 : Cond.instanceMethod ⟨"NotedVolume$Entry", "isLike", "(LNotedVolume$Entry;)Z"⟩ ∈ xv_T := xv_in (List.mem_append_right _ (List.mem_of_getElem? (i := 1069) (by decide +kernel))) (by decide +kernel)
theorem iw_1070 : Cond.selects "NotedVolume$Entry" ⟨"NotedVolume$Entry", "isLike", "(LNotedVolume$Entry;)Z"⟩ ⟨"NotedVolume$Entry", "isLike", "(LNotedVolume$Entry;)Z"⟩ ∈ xv_T := xv_in (List.mem_append_right _ (List.mem_of_getElem? (i := 1070) (by decide +kernel))) (by decide +kernel)
theorem iw_1071 : Cond.code ⟨"NotedVolume$Entry", "isLike", "(LNotedVolume$Entry;)Z"⟩ prog_2_method_3_code 2 (some .boolean) ∈ xv_T := xv_in (List.mem_append_right _ (List.mem_of_getElem? (i := 1071) (by decide +kernel))) (by decide +kernel)
def mm_E_init : xa_M := (⟨"NotedVolume$Entry", "<init>", "(IIIII)V"⟩, prog_2_method_1_code, 6, none, [])
theorem ok_E_init : xa_O mm_E_init := ⟨by decide, Or.inr ⟨rfl, iw_368⟩, iw_19, by decide, by decide⟩
def mm_E_isLike : xa_M := (⟨"NotedVolume$Entry", "isLike", "(LNotedVolume$Entry;)Z"⟩, prog_2_method_3_code, 2, (some .boolean), [])
theorem ok_E_isLike : xa_O mm_E_isLike := ⟨by decide, Or.inr ⟨rfl, iw_1071⟩, iw_19, by decide, by decide⟩
def mm_E_item : xa_M := (⟨"NotedVolume$Entry", "item", "(I)I"⟩, prog_2_method_2_code, 2, (some .int), [])
theorem ok_E_item : xa_O mm_E_item := ⟨by decide, Or.inr ⟨rfl, iw_926⟩, iw_19, by decide, by decide⟩
def mm_N_init : xa_M := (⟨"NotedVolume$Note", "<init>", "(LNotedVolume$Entry;I)V"⟩, prog_6_method_1_code, 3, none, [])
theorem ok_N_init : xa_O mm_N_init := ⟨by decide, Or.inr ⟨rfl, iw_404⟩, iw_20, by decide, by decide⟩
def mm_N_hasAny : xa_M := (⟨"NotedVolume$Note", "hasAny", "(I)Z"⟩, prog_6_method_2_code, 2, (some .boolean), [])
theorem ok_N_hasAny : xa_O mm_N_hasAny := ⟨by decide, Or.inr ⟨rfl, iw_245⟩, iw_20, by decide, by decide⟩
def mm_N_item : xa_M := (⟨"NotedVolume$Note", "item", "(I)I"⟩, prog_6_method_3_code, 2, (some .int), [])
theorem ok_N_item : xa_O mm_N_item := ⟨by decide, Or.inr ⟨rfl, iw_939⟩, iw_20, by decide, by decide⟩
def mm_R_init : xa_M := (⟨"NotedVolume$Ring", "<init>", "()V"⟩, prog_7_method_1_code, 1, none, [])
theorem ok_R_init : xa_O mm_R_init := ⟨by decide, Or.inr ⟨rfl, iw_84⟩, iw_6, by decide, by decide⟩
def mm_R_append : xa_M := (⟨"NotedVolume$Ring", "append", "(LNotedVolume$Entry;I)V"⟩, prog_7_method_5_code, 3, none, [])
theorem ok_R_append : xa_O mm_R_append := ⟨by decide, Or.inr ⟨rfl, iw_400⟩, iw_6, by decide, by decide⟩
def mm_R_leastKept : xa_M := (⟨"NotedVolume$Ring", "leastKept", "()I"⟩, prog_7_method_3_code, 1, (some .int), [])
theorem ok_R_leastKept : xa_O mm_R_leastKept := ⟨by decide, Or.inr ⟨rfl, iw_214⟩, iw_6, by decide, by decide⟩
def mm_R_nextSerial : xa_M := (⟨"NotedVolume$Ring", "nextSerial", "()I"⟩, prog_7_method_2_code, 1, (some .int), [])
theorem ok_R_nextSerial : xa_O mm_R_nextSerial := ⟨by decide, Or.inr ⟨rfl, iw_222⟩, iw_6, by decide, by decide⟩
def mm_R_noteAt : xa_M := (⟨"NotedVolume$Ring", "noteAt", "(I)LNotedVolume$Note;"⟩, prog_7_method_4_code, 2, (some (.object "NotedVolume$Note")), [])
theorem ok_R_noteAt : xa_O mm_R_noteAt := ⟨by decide, Or.inr ⟨rfl, iw_240⟩, iw_6, by decide, by decide⟩
def mm_G_init : xa_M := (⟨"NotedVolume$Gathering", "<init>", "(I)V"⟩, prog_4_method_1_code, 2, none, [])
theorem ok_G_init : xa_O mm_G_init := ⟨by decide, Or.inr ⟨rfl, iw_274⟩, iw_22, by decide, by decide⟩
def mm_F_init : xa_M := (⟨"NotedVolume$FileTable", "<init>", "(I)V"⟩, prog_3_method_1_code, 2, none, [])
theorem ok_F_init : xa_O mm_F_init := ⟨by decide, Or.inr ⟨rfl, iw_45⟩, iw_2, by decide, by decide⟩
def mm_F_count : xa_M := (⟨"NotedVolume$FileTable", "count", "()I"⟩, prog_3_method_2_code, 1, (some .int), [])
theorem ok_F_count : xa_O mm_F_count := ⟨by decide, Or.inr ⟨rfl, iw_206⟩, iw_2, by decide, by decide⟩
def mm_F_drop : xa_M := (⟨"NotedVolume$FileTable", "drop", "(I)V"⟩, prog_3_method_8_code, 3, none, [])
theorem ok_F_drop : xa_O mm_F_drop := ⟨by decide, Or.inr ⟨rfl, iw_898⟩, iw_2, by decide, by decide⟩
def mm_F_dropRange : xa_M := (⟨"NotedVolume$FileTable", "dropRange", "(II)V"⟩, prog_3_method_9_code, 5, none, [])
theorem ok_F_dropRange : xa_O mm_F_dropRange := ⟨by decide, Or.inr ⟨rfl, iw_1035⟩, iw_2, by decide, by decide⟩
def mm_F_entryAbove : xa_M := (⟨"NotedVolume$FileTable", "entryAbove", "(I)LNotedVolume$Entry;"⟩, prog_3_method_3_code, 4, (some (.object "NotedVolume$Entry")), [])
theorem ok_F_entryAbove : xa_O mm_F_entryAbove := ⟨by decide, Or.inr ⟨rfl, iw_1006⟩, iw_2, by decide, by decide⟩
def mm_F_entryNamed : xa_M := (⟨"NotedVolume$FileTable", "entryNamed", "(II)LNotedVolume$Entry;"⟩, prog_3_method_5_code, 5, (some (.object "NotedVolume$Entry")), [])
theorem ok_F_entryNamed : xa_O mm_F_entryNamed := ⟨by decide, Or.inr ⟨rfl, iw_182⟩, iw_2, by decide, by decide⟩
def mm_F_entryOf : xa_M := (⟨"NotedVolume$FileTable", "entryOf", "(I)LNotedVolume$Entry;"⟩, prog_3_method_4_code, 4, (some (.object "NotedVolume$Entry")), [])
theorem ok_F_entryOf : xa_O mm_F_entryOf := ⟨by decide, Or.inr ⟨rfl, iw_363⟩, iw_2, by decide, by decide⟩
def mm_F_hasFilesIn : xa_M := (⟨"NotedVolume$FileTable", "hasFilesIn", "(I)Z"⟩, prog_3_method_6_code, 3, (some .boolean), [])
theorem ok_F_hasFilesIn : xa_O mm_F_hasFilesIn := ⟨by decide, Or.inr ⟨rfl, iw_893⟩, iw_2, by decide, by decide⟩
def mm_F_isLike : xa_M := (⟨"NotedVolume$FileTable", "isLike", "(LNotedVolume$FileTable;)Z"⟩, prog_3_method_10_code, 3, (some .boolean), [])
theorem ok_F_isLike : xa_O mm_F_isLike := ⟨by decide, Or.inr ⟨rfl, iw_1067⟩, iw_2, by decide, by decide⟩
def mm_F_put : xa_M := (⟨"NotedVolume$FileTable", "put", "(LNotedVolume$Entry;)V"⟩, prog_3_method_7_code, 3, none, [])
theorem ok_F_put : xa_O mm_F_put := ⟨by decide, Or.inr ⟨rfl, iw_600⟩, iw_2, by decide, by decide⟩
def mm_H_init : xa_M := (⟨"NotedVolume$Gatherings", "<init>", "()V"⟩, prog_5_method_1_code, 1, none, [])
theorem ok_H_init : xa_O mm_H_init := ⟨by decide, Or.inr ⟨rfl, iw_99⟩, iw_7, by decide, by decide⟩
def mm_H_count : xa_M := (⟨"NotedVolume$Gatherings", "count", "()I"⟩, prog_5_method_2_code, 1, (some .int), [])
theorem ok_H_count : xa_O mm_H_count := ⟨by decide, Or.inr ⟨rfl, iw_170⟩, iw_7, by decide, by decide⟩
def mm_H_first : xa_M := (⟨"NotedVolume$Gatherings", "first", "()LNotedVolume$Gathering;"⟩, prog_5_method_3_code, 1, (some (.object "NotedVolume$Gathering")), [])
theorem ok_H_first : xa_O mm_H_first := ⟨by decide, Or.inr ⟨rfl, iw_351⟩, iw_7, by decide, by decide⟩
def mm_H_forget : xa_M := (⟨"NotedVolume$Gatherings", "forget", "()V"⟩, prog_5_method_8_code, 1, none, [])
theorem ok_H_forget : xa_O mm_H_forget := ⟨by decide, Or.inr ⟨rfl, iw_595⟩, iw_7, by decide, by decide⟩
def mm_H_gather : xa_M := (⟨"NotedVolume$Gatherings", "gather", "(II)I"⟩, prog_5_method_6_code, 4, (some .int), [])
theorem ok_H_gather : xa_O mm_H_gather := ⟨by decide, Or.inr ⟨rfl, iw_266⟩, iw_7, by decide, by decide⟩
def mm_H_gatheringOf : xa_M := (⟨"NotedVolume$Gatherings", "gatheringOf", "(I)LNotedVolume$Gathering;"⟩, prog_5_method_4_code, 4, (some (.object "NotedVolume$Gathering")), [])
theorem ok_H_gatheringOf : xa_O mm_H_gatheringOf := ⟨by decide, Or.inr ⟨rfl, iw_270⟩, iw_7, by decide, by decide⟩
def mm_H_inTheWayOf : xa_M := (⟨"NotedVolume$Gatherings", "inTheWayOf", "(I)LNotedVolume$Gathering;"⟩, prog_5_method_5_code, 2, (some (.object "NotedVolume$Gathering")), [])
theorem ok_H_inTheWayOf : xa_O mm_H_inTheWayOf := ⟨by decide, Or.inr ⟨rfl, iw_582⟩, iw_7, by decide, by decide⟩
def mm_H_recall : xa_M := (⟨"NotedVolume$Gatherings", "recall", "(LNotedVolume$Ring;)V"⟩, prog_5_method_9_code, 4, none, [])
theorem ok_H_recall : xa_O mm_H_recall := ⟨by decide, Or.inr ⟨rfl, iw_230⟩, iw_7, by decide, by decide⟩
def mm_H_take : xa_M := (⟨"NotedVolume$Gatherings", "take", "(I)V"⟩, prog_5_method_7_code, 3, none, [])
theorem ok_H_take : xa_O mm_H_take := ⟨by decide, Or.inr ⟨rfl, iw_249⟩, iw_7, by decide, by decide⟩
theorem dd_E_init_0 : decode mm_E_init.2.1 0 = .ok (.aload_n 0, 1) := by decide +kernel
theorem dd_E_init_1 : decode mm_E_init.2.1 1 = .ok (.invokespecial 1, 3) := by decide +kernel
theorem dd_E_init_4 : decode mm_E_init.2.1 4 = .ok (.aload_n 0, 1) := by decide +kernel
theorem dd_E_init_5 : decode mm_E_init.2.1 5 = .ok (.iload_n 1, 1) := by decide +kernel
theorem dd_E_init_6 : decode mm_E_init.2.1 6 = .ok (.putfield 7, 3) := by decide +kernel
theorem dd_E_init_9 : decode mm_E_init.2.1 9 = .ok (.aload_n 0, 1) := by decide +kernel
theorem dd_E_init_10 : decode mm_E_init.2.1 10 = .ok (.iload_n 2, 1) := by decide +kernel
theorem dd_E_init_11 : decode mm_E_init.2.1 11 = .ok (.putfield 13, 3) := by decide +kernel
theorem dd_E_init_14 : decode mm_E_init.2.1 14 = .ok (.aload_n 0, 1) := by decide +kernel
theorem dd_E_init_15 : decode mm_E_init.2.1 15 = .ok (.iload_n 3, 1) := by decide +kernel
theorem dd_E_init_16 : decode mm_E_init.2.1 16 = .ok (.putfield 16, 3) := by decide +kernel
theorem dd_E_init_19 : decode mm_E_init.2.1 19 = .ok (.aload_n 0, 1) := by decide +kernel
theorem dd_E_init_20 : decode mm_E_init.2.1 20 = .ok (.iload 4, 2) := by decide +kernel
theorem dd_E_init_22 : decode mm_E_init.2.1 22 = .ok (.putfield 19, 3) := by decide +kernel
theorem dd_E_init_25 : decode mm_E_init.2.1 25 = .ok (.aload_n 0, 1) := by decide +kernel
theorem dd_E_init_26 : decode mm_E_init.2.1 26 = .ok (.iload 5, 2) := by decide +kernel
theorem dd_E_init_28 : decode mm_E_init.2.1 28 = .ok (.putfield 22, 3) := by decide +kernel
theorem dd_E_init_31 : decode mm_E_init.2.1 31 = .ok (.return_, 1) := by decide +kernel
theorem dd_E_isLike_0 : decode mm_E_isLike.2.1 0 = .ok (.aload_n 0, 1) := by decide +kernel
theorem dd_E_isLike_1 : decode mm_E_isLike.2.1 1 = .ok (.getfield 7, 3) := by decide +kernel
theorem dd_E_isLike_4 : decode mm_E_isLike.2.1 4 = .ok (.aload_n 1, 1) := by decide +kernel
theorem dd_E_isLike_5 : decode mm_E_isLike.2.1 5 = .ok (.getfield 7, 3) := by decide +kernel
theorem dd_E_isLike_8 : decode mm_E_isLike.2.1 8 = .ok (.if_icmp .ne 51, 3) := by decide +kernel
theorem dd_E_isLike_11 : decode mm_E_isLike.2.1 11 = .ok (.aload_n 0, 1) := by decide +kernel
theorem dd_E_isLike_12 : decode mm_E_isLike.2.1 12 = .ok (.getfield 13, 3) := by decide +kernel
theorem dd_E_isLike_15 : decode mm_E_isLike.2.1 15 = .ok (.aload_n 1, 1) := by decide +kernel
theorem dd_E_isLike_16 : decode mm_E_isLike.2.1 16 = .ok (.getfield 13, 3) := by decide +kernel
theorem dd_E_isLike_19 : decode mm_E_isLike.2.1 19 = .ok (.if_icmp .ne 40, 3) := by decide +kernel
theorem dd_E_isLike_22 : decode mm_E_isLike.2.1 22 = .ok (.aload_n 0, 1) := by decide +kernel
theorem dd_E_isLike_23 : decode mm_E_isLike.2.1 23 = .ok (.getfield 16, 3) := by decide +kernel
theorem dd_E_isLike_26 : decode mm_E_isLike.2.1 26 = .ok (.aload_n 1, 1) := by decide +kernel
theorem dd_E_isLike_27 : decode mm_E_isLike.2.1 27 = .ok (.getfield 16, 3) := by decide +kernel
theorem dd_E_isLike_30 : decode mm_E_isLike.2.1 30 = .ok (.if_icmp .ne 29, 3) := by decide +kernel
theorem dd_E_isLike_33 : decode mm_E_isLike.2.1 33 = .ok (.aload_n 0, 1) := by decide +kernel
theorem dd_E_isLike_34 : decode mm_E_isLike.2.1 34 = .ok (.getfield 19, 3) := by decide +kernel
theorem dd_E_isLike_37 : decode mm_E_isLike.2.1 37 = .ok (.aload_n 1, 1) := by decide +kernel
theorem dd_E_isLike_38 : decode mm_E_isLike.2.1 38 = .ok (.getfield 19, 3) := by decide +kernel
theorem dd_E_isLike_41 : decode mm_E_isLike.2.1 41 = .ok (.if_icmp .ne 18, 3) := by decide +kernel
theorem dd_E_isLike_44 : decode mm_E_isLike.2.1 44 = .ok (.aload_n 0, 1) := by decide +kernel
theorem dd_E_isLike_45 : decode mm_E_isLike.2.1 45 = .ok (.getfield 22, 3) := by decide +kernel
theorem dd_E_isLike_48 : decode mm_E_isLike.2.1 48 = .ok (.aload_n 1, 1) := by decide +kernel
theorem dd_E_isLike_49 : decode mm_E_isLike.2.1 49 = .ok (.getfield 22, 3) := by decide +kernel
theorem dd_E_isLike_52 : decode mm_E_isLike.2.1 52 = .ok (.if_icmp .ne 7, 3) := by decide +kernel
theorem dd_E_isLike_55 : decode mm_E_isLike.2.1 55 = .ok (.iconst 1, 1) := by decide +kernel
theorem dd_E_isLike_56 : decode mm_E_isLike.2.1 56 = .ok (.goto 4, 3) := by decide +kernel
theorem dd_E_isLike_59 : decode mm_E_isLike.2.1 59 = .ok (.iconst 0, 1) := by decide +kernel
theorem dd_E_isLike_60 : decode mm_E_isLike.2.1 60 = .ok (.ireturn, 1) := by decide +kernel
theorem dd_E_item_0 : decode mm_E_item.2.1 0 = .ok (.iload_n 1, 1) := by decide +kernel
theorem dd_E_item_1 : decode mm_E_item.2.1 1 = .ok (.tableswitch 42 0 2 #[27, 32, 37], 27) := by decide +kernel
theorem dd_E_item_28 : decode mm_E_item.2.1 28 = .ok (.aload_n 0, 1) := by decide +kernel
theorem dd_E_item_29 : decode mm_E_item.2.1 29 = .ok (.getfield 13, 3) := by decide +kernel
theorem dd_E_item_32 : decode mm_E_item.2.1 32 = .ok (.ireturn, 1) := by decide +kernel
theorem dd_E_item_33 : decode mm_E_item.2.1 33 = .ok (.aload_n 0, 1) := by decide +kernel
theorem dd_E_item_34 : decode mm_E_item.2.1 34 = .ok (.getfield 16, 3) := by decide +kernel
theorem dd_E_item_37 : decode mm_E_item.2.1 37 = .ok (.ireturn, 1) := by decide +kernel
theorem dd_E_item_38 : decode mm_E_item.2.1 38 = .ok (.aload_n 0, 1) := by decide +kernel
theorem dd_E_item_39 : decode mm_E_item.2.1 39 = .ok (.getfield 19, 3) := by decide +kernel
theorem dd_E_item_42 : decode mm_E_item.2.1 42 = .ok (.ireturn, 1) := by decide +kernel
theorem dd_E_item_43 : decode mm_E_item.2.1 43 = .ok (.aload_n 0, 1) := by decide +kernel
theorem dd_E_item_44 : decode mm_E_item.2.1 44 = .ok (.getfield 22, 3) := by decide +kernel
theorem dd_E_item_47 : decode mm_E_item.2.1 47 = .ok (.ireturn, 1) := by decide +kernel
theorem dd_N_init_0 : decode mm_N_init.2.1 0 = .ok (.aload_n 0, 1) := by decide +kernel
theorem dd_N_init_1 : decode mm_N_init.2.1 1 = .ok (.invokespecial 1, 3) := by decide +kernel
theorem dd_N_init_4 : decode mm_N_init.2.1 4 = .ok (.aload_n 0, 1) := by decide +kernel
theorem dd_N_init_5 : decode mm_N_init.2.1 5 = .ok (.aload_n 1, 1) := by decide +kernel
theorem dd_N_init_6 : decode mm_N_init.2.1 6 = .ok (.putfield 7, 3) := by decide +kernel
theorem dd_N_init_9 : decode mm_N_init.2.1 9 = .ok (.aload_n 0, 1) := by decide +kernel
theorem dd_N_init_10 : decode mm_N_init.2.1 10 = .ok (.iload_n 2, 1) := by decide +kernel
theorem dd_N_init_11 : decode mm_N_init.2.1 11 = .ok (.putfield 13, 3) := by decide +kernel
theorem dd_N_init_14 : decode mm_N_init.2.1 14 = .ok (.return_, 1) := by decide +kernel
theorem dd_N_hasAny_0 : decode mm_N_hasAny.2.1 0 = .ok (.aload_n 0, 1) := by decide +kernel
theorem dd_N_hasAny_1 : decode mm_N_hasAny.2.1 1 = .ok (.getfield 13, 3) := by decide +kernel
theorem dd_N_hasAny_4 : decode mm_N_hasAny.2.1 4 = .ok (.iload_n 1, 1) := by decide +kernel
theorem dd_N_hasAny_5 : decode mm_N_hasAny.2.1 5 = .ok (.iand, 1) := by decide +kernel
theorem dd_N_hasAny_6 : decode mm_N_hasAny.2.1 6 = .ok (.ifCond .eq 7, 3) := by decide +kernel
theorem dd_N_hasAny_9 : decode mm_N_hasAny.2.1 9 = .ok (.iconst 1, 1) := by decide +kernel
theorem dd_N_hasAny_10 : decode mm_N_hasAny.2.1 10 = .ok (.goto 4, 3) := by decide +kernel
theorem dd_N_hasAny_13 : decode mm_N_hasAny.2.1 13 = .ok (.iconst 0, 1) := by decide +kernel
theorem dd_N_hasAny_14 : decode mm_N_hasAny.2.1 14 = .ok (.ireturn, 1) := by decide +kernel
theorem dd_N_item_0 : decode mm_N_item.2.1 0 = .ok (.iload_n 1, 1) := by decide +kernel
theorem dd_N_item_1 : decode mm_N_item.2.1 1 = .ok (.lookupswitch 40 #[(0, 27), (5, 35)], 27) := by decide +kernel
theorem dd_N_item_28 : decode mm_N_item.2.1 28 = .ok (.aload_n 0, 1) := by decide +kernel
theorem dd_N_item_29 : decode mm_N_item.2.1 29 = .ok (.getfield 7, 3) := by decide +kernel
theorem dd_N_item_32 : decode mm_N_item.2.1 32 = .ok (.getfield 17, 3) := by decide +kernel
theorem dd_N_item_35 : decode mm_N_item.2.1 35 = .ok (.ireturn, 1) := by decide +kernel
theorem dd_N_item_36 : decode mm_N_item.2.1 36 = .ok (.aload_n 0, 1) := by decide +kernel
theorem dd_N_item_37 : decode mm_N_item.2.1 37 = .ok (.getfield 13, 3) := by decide +kernel
theorem dd_N_item_40 : decode mm_N_item.2.1 40 = .ok (.ireturn, 1) := by decide +kernel
theorem dd_N_item_41 : decode mm_N_item.2.1 41 = .ok (.aload_n 0, 1) := by decide +kernel
theorem dd_N_item_42 : decode mm_N_item.2.1 42 = .ok (.getfield 7, 3) := by decide +kernel
theorem dd_N_item_45 : decode mm_N_item.2.1 45 = .ok (.iload_n 1, 1) := by decide +kernel
theorem dd_N_item_46 : decode mm_N_item.2.1 46 = .ok (.iconst 1, 1) := by decide +kernel
theorem dd_N_item_47 : decode mm_N_item.2.1 47 = .ok (.isub, 1) := by decide +kernel
theorem dd_N_item_48 : decode mm_N_item.2.1 48 = .ok (.invokevirtual 22, 3) := by decide +kernel
theorem dd_N_item_51 : decode mm_N_item.2.1 51 = .ok (.ireturn, 1) := by decide +kernel
theorem dd_R_init_0 : decode mm_R_init.2.1 0 = .ok (.aload_n 0, 1) := by decide +kernel
theorem dd_R_init_1 : decode mm_R_init.2.1 1 = .ok (.invokespecial 3, 3) := by decide +kernel
theorem dd_R_init_4 : decode mm_R_init.2.1 4 = .ok (.aload_n 0, 1) := by decide +kernel
theorem dd_R_init_5 : decode mm_R_init.2.1 5 = .ok (.bipush 16, 2) := by decide +kernel
theorem dd_R_init_7 : decode mm_R_init.2.1 7 = .ok (.anewarray 9, 3) := by decide +kernel
theorem dd_R_init_10 : decode mm_R_init.2.1 10 = .ok (.putfield 11, 3) := by decide +kernel
theorem dd_R_init_13 : decode mm_R_init.2.1 13 = .ok (.aload_n 0, 1) := by decide +kernel
theorem dd_R_init_14 : decode mm_R_init.2.1 14 = .ok (.iconst 1, 1) := by decide +kernel
theorem dd_R_init_15 : decode mm_R_init.2.1 15 = .ok (.putfield 17, 3) := by decide +kernel
theorem dd_R_init_18 : decode mm_R_init.2.1 18 = .ok (.return_, 1) := by decide +kernel
theorem dd_R_append_0 : decode mm_R_append.2.1 0 = .ok (.aload_n 0, 1) := by decide +kernel
theorem dd_R_append_1 : decode mm_R_append.2.1 1 = .ok (.getfield 11, 3) := by decide +kernel
theorem dd_R_append_4 : decode mm_R_append.2.1 4 = .ok (.aload_n 0, 1) := by decide +kernel
theorem dd_R_append_5 : decode mm_R_append.2.1 5 = .ok (.getfield 17, 3) := by decide +kernel
theorem dd_R_append_8 : decode mm_R_append.2.1 8 = .ok (.bipush 15, 2) := by decide +kernel
theorem dd_R_append_10 : decode mm_R_append.2.1 10 = .ok (.iand, 1) := by decide +kernel
theorem dd_R_append_11 : decode mm_R_append.2.1 11 = .ok (.new 9, 3) := by decide +kernel
theorem dd_R_append_14 : decode mm_R_append.2.1 14 = .ok (.dup, 1) := by decide +kernel
theorem dd_R_append_15 : decode mm_R_append.2.1 15 = .ok (.aload_n 1, 1) := by decide +kernel
theorem dd_R_append_16 : decode mm_R_append.2.1 16 = .ok (.iload_n 2, 1) := by decide +kernel
theorem dd_R_append_17 : decode mm_R_append.2.1 17 = .ok (.invokespecial 25, 3) := by decide +kernel
theorem dd_R_append_20 : decode mm_R_append.2.1 20 = .ok (.aastore, 1) := by decide +kernel
theorem dd_R_append_21 : decode mm_R_append.2.1 21 = .ok (.aload_n 0, 1) := by decide +kernel
theorem dd_R_append_22 : decode mm_R_append.2.1 22 = .ok (.dup, 1) := by decide +kernel
theorem dd_R_append_23 : decode mm_R_append.2.1 23 = .ok (.getfield 17, 3) := by decide +kernel
theorem dd_R_append_26 : decode mm_R_append.2.1 26 = .ok (.iconst 1, 1) := by decide +kernel
theorem dd_R_append_27 : decode mm_R_append.2.1 27 = .ok (.iadd, 1) := by decide +kernel
theorem dd_R_append_28 : decode mm_R_append.2.1 28 = .ok (.putfield 17, 3) := by decide +kernel
theorem dd_R_append_31 : decode mm_R_append.2.1 31 = .ok (.return_, 1) := by decide +kernel
theorem dd_R_leastKept_0 : decode mm_R_leastKept.2.1 0 = .ok (.aload_n 0, 1) := by decide +kernel
theorem dd_R_leastKept_1 : decode mm_R_leastKept.2.1 1 = .ok (.getfield 17, 3) := by decide +kernel
theorem dd_R_leastKept_4 : decode mm_R_leastKept.2.1 4 = .ok (.bipush 16, 2) := by decide +kernel
theorem dd_R_leastKept_6 : decode mm_R_leastKept.2.1 6 = .ok (.if_icmp .le 13, 3) := by decide +kernel
theorem dd_R_leastKept_9 : decode mm_R_leastKept.2.1 9 = .ok (.aload_n 0, 1) := by decide +kernel
theorem dd_R_leastKept_10 : decode mm_R_leastKept.2.1 10 = .ok (.getfield 17, 3) := by decide +kernel
theorem dd_R_leastKept_13 : decode mm_R_leastKept.2.1 13 = .ok (.bipush 16, 2) := by decide +kernel
theorem dd_R_leastKept_15 : decode mm_R_leastKept.2.1 15 = .ok (.isub, 1) := by decide +kernel
theorem dd_R_leastKept_16 : decode mm_R_leastKept.2.1 16 = .ok (.goto 4, 3) := by decide +kernel
theorem dd_R_leastKept_19 : decode mm_R_leastKept.2.1 19 = .ok (.iconst 1, 1) := by decide +kernel
theorem dd_R_leastKept_20 : decode mm_R_leastKept.2.1 20 = .ok (.ireturn, 1) := by decide +kernel
theorem dd_R_nextSerial_0 : decode mm_R_nextSerial.2.1 0 = .ok (.aload_n 0, 1) := by decide +kernel
theorem dd_R_nextSerial_1 : decode mm_R_nextSerial.2.1 1 = .ok (.getfield 17, 3) := by decide +kernel
theorem dd_R_nextSerial_4 : decode mm_R_nextSerial.2.1 4 = .ok (.ireturn, 1) := by decide +kernel
theorem dd_R_noteAt_0 : decode mm_R_noteAt.2.1 0 = .ok (.iload_n 1, 1) := by decide +kernel
theorem dd_R_noteAt_1 : decode mm_R_noteAt.2.1 1 = .ok (.aload_n 0, 1) := by decide +kernel
theorem dd_R_noteAt_2 : decode mm_R_noteAt.2.1 2 = .ok (.invokevirtual 21, 3) := by decide +kernel
theorem dd_R_noteAt_5 : decode mm_R_noteAt.2.1 5 = .ok (.if_icmp .lt 11, 3) := by decide +kernel
theorem dd_R_noteAt_8 : decode mm_R_noteAt.2.1 8 = .ok (.iload_n 1, 1) := by decide +kernel
theorem dd_R_noteAt_9 : decode mm_R_noteAt.2.1 9 = .ok (.aload_n 0, 1) := by decide +kernel
theorem dd_R_noteAt_10 : decode mm_R_noteAt.2.1 10 = .ok (.getfield 17, 3) := by decide +kernel
theorem dd_R_noteAt_13 : decode mm_R_noteAt.2.1 13 = .ok (.if_icmp .lt 5, 3) := by decide +kernel
theorem dd_R_noteAt_16 : decode mm_R_noteAt.2.1 16 = .ok (.aconst_null, 1) := by decide +kernel
theorem dd_R_noteAt_17 : decode mm_R_noteAt.2.1 17 = .ok (.areturn, 1) := by decide +kernel
theorem dd_R_noteAt_18 : decode mm_R_noteAt.2.1 18 = .ok (.aload_n 0, 1) := by decide +kernel
theorem dd_R_noteAt_19 : decode mm_R_noteAt.2.1 19 = .ok (.getfield 11, 3) := by decide +kernel
theorem dd_R_noteAt_22 : decode mm_R_noteAt.2.1 22 = .ok (.iload_n 1, 1) := by decide +kernel
theorem dd_R_noteAt_23 : decode mm_R_noteAt.2.1 23 = .ok (.bipush 15, 2) := by decide +kernel
theorem dd_R_noteAt_25 : decode mm_R_noteAt.2.1 25 = .ok (.iand, 1) := by decide +kernel
theorem dd_R_noteAt_26 : decode mm_R_noteAt.2.1 26 = .ok (.aaload, 1) := by decide +kernel
theorem dd_R_noteAt_27 : decode mm_R_noteAt.2.1 27 = .ok (.areturn, 1) := by decide +kernel
theorem dd_G_init_0 : decode mm_G_init.2.1 0 = .ok (.aload_n 0, 1) := by decide +kernel
theorem dd_G_init_1 : decode mm_G_init.2.1 1 = .ok (.invokespecial 1, 3) := by decide +kernel
theorem dd_G_init_4 : decode mm_G_init.2.1 4 = .ok (.aload_n 0, 1) := by decide +kernel
theorem dd_G_init_5 : decode mm_G_init.2.1 5 = .ok (.iload_n 1, 1) := by decide +kernel
theorem dd_G_init_6 : decode mm_G_init.2.1 6 = .ok (.putfield 7, 3) := by decide +kernel
theorem dd_G_init_9 : decode mm_G_init.2.1 9 = .ok (.return_, 1) := by decide +kernel
theorem dd_F_init_0 : decode mm_F_init.2.1 0 = .ok (.aload_n 0, 1) := by decide +kernel
theorem dd_F_init_1 : decode mm_F_init.2.1 1 = .ok (.invokespecial 1, 3) := by decide +kernel
theorem dd_F_init_4 : decode mm_F_init.2.1 4 = .ok (.aload_n 0, 1) := by decide +kernel
theorem dd_F_init_5 : decode mm_F_init.2.1 5 = .ok (.new 7, 3) := by decide +kernel
theorem dd_F_init_8 : decode mm_F_init.2.1 8 = .ok (.dup, 1) := by decide +kernel
theorem dd_F_init_9 : decode mm_F_init.2.1 9 = .ok (.invokespecial 9, 3) := by decide +kernel
theorem dd_F_init_12 : decode mm_F_init.2.1 12 = .ok (.putfield 10, 3) := by decide +kernel
theorem dd_F_init_15 : decode mm_F_init.2.1 15 = .ok (.aload_n 0, 1) := by decide +kernel
theorem dd_F_init_16 : decode mm_F_init.2.1 16 = .ok (.iload_n 1, 1) := by decide +kernel
theorem dd_F_init_17 : decode mm_F_init.2.1 17 = .ok (.putfield 16, 3) := by decide +kernel
theorem dd_F_init_20 : decode mm_F_init.2.1 20 = .ok (.return_, 1) := by decide +kernel
theorem dd_F_count_0 : decode mm_F_count.2.1 0 = .ok (.aload_n 0, 1) := by decide +kernel
theorem dd_F_count_1 : decode mm_F_count.2.1 1 = .ok (.getfield 10, 3) := by decide +kernel
theorem dd_F_count_4 : decode mm_F_count.2.1 4 = .ok (.invokevirtual 20, 3) := by decide +kernel
theorem dd_F_count_7 : decode mm_F_count.2.1 7 = .ok (.ireturn, 1) := by decide +kernel
theorem dd_F_drop_0 : decode mm_F_drop.2.1 0 = .ok (.iconst 0, 1) := by decide +kernel
theorem dd_F_drop_1 : decode mm_F_drop.2.1 1 = .ok (.istore_n 2, 1) := by decide +kernel
theorem dd_F_drop_2 : decode mm_F_drop.2.1 2 = .ok (.iload_n 2, 1) := by decide +kernel
theorem dd_F_drop_3 : decode mm_F_drop.2.1 3 = .ok (.aload_n 0, 1) := by decide +kernel
theorem dd_F_drop_4 : decode mm_F_drop.2.1 4 = .ok (.getfield 10, 3) := by decide +kernel
theorem dd_F_drop_7 : decode mm_F_drop.2.1 7 = .ok (.invokevirtual 20, 3) := by decide +kernel
theorem dd_F_drop_10 : decode mm_F_drop.2.1 10 = .ok (.if_icmp .ge 37, 3) := by decide +kernel
theorem dd_F_drop_13 : decode mm_F_drop.2.1 13 = .ok (.aload_n 0, 1) := by decide +kernel
theorem dd_F_drop_14 : decode mm_F_drop.2.1 14 = .ok (.getfield 10, 3) := by decide +kernel
theorem dd_F_drop_17 : decode mm_F_drop.2.1 17 = .ok (.iload_n 2, 1) := by decide +kernel
theorem dd_F_drop_18 : decode mm_F_drop.2.1 18 = .ok (.invokevirtual 24, 3) := by decide +kernel
theorem dd_F_drop_21 : decode mm_F_drop.2.1 21 = .ok (.checkcast 28, 3) := by decide +kernel
theorem dd_F_drop_24 : decode mm_F_drop.2.1 24 = .ok (.getfield 30, 3) := by decide +kernel
theorem dd_F_drop_27 : decode mm_F_drop.2.1 27 = .ok (.iload_n 1, 1) := by decide +kernel
theorem dd_F_drop_28 : decode mm_F_drop.2.1 28 = .ok (.if_icmp .ne 13, 3) := by decide +kernel
theorem dd_F_drop_31 : decode mm_F_drop.2.1 31 = .ok (.aload_n 0, 1) := by decide +kernel
theorem dd_F_drop_32 : decode mm_F_drop.2.1 32 = .ok (.getfield 10, 3) := by decide +kernel
theorem dd_F_drop_35 : decode mm_F_drop.2.1 35 = .ok (.iload_n 2, 1) := by decide +kernel
theorem dd_F_drop_36 : decode mm_F_drop.2.1 36 = .ok (.invokevirtual 47, 3) := by decide +kernel
theorem dd_F_drop_39 : decode mm_F_drop.2.1 39 = .ok (.pop, 1) := by decide +kernel
theorem dd_F_drop_40 : decode mm_F_drop.2.1 40 = .ok (.return_, 1) := by decide +kernel
theorem dd_F_drop_41 : decode mm_F_drop.2.1 41 = .ok (.iinc 2 1, 3) := by decide +kernel
theorem dd_F_drop_44 : decode mm_F_drop.2.1 44 = .ok (.goto (-42), 3) := by decide +kernel
theorem dd_F_drop_47 : decode mm_F_drop.2.1 47 = .ok (.return_, 1) := by decide +kernel
theorem dd_F_dropRange_0 : decode mm_F_dropRange.2.1 0 = .ok (.aload_n 0, 1) := by decide +kernel
theorem dd_F_dropRange_1 : decode mm_F_dropRange.2.1 1 = .ok (.getfield 10, 3) := by decide +kernel
theorem dd_F_dropRange_4 : decode mm_F_dropRange.2.1 4 = .ok (.invokevirtual 20, 3) := by decide +kernel
theorem dd_F_dropRange_7 : decode mm_F_dropRange.2.1 7 = .ok (.iconst 1, 1) := by decide +kernel
theorem dd_F_dropRange_8 : decode mm_F_dropRange.2.1 8 = .ok (.isub, 1) := by decide +kernel
theorem dd_F_dropRange_9 : decode mm_F_dropRange.2.1 9 = .ok (.istore_n 3, 1) := by decide +kernel
theorem dd_F_dropRange_10 : decode mm_F_dropRange.2.1 10 = .ok (.iload_n 3, 1) := by decide +kernel
theorem dd_F_dropRange_11 : decode mm_F_dropRange.2.1 11 = .ok (.ifCond .lt 46, 3) := by decide +kernel
theorem dd_F_dropRange_14 : decode mm_F_dropRange.2.1 14 = .ok (.aload_n 0, 1) := by decide +kernel
theorem dd_F_dropRange_15 : decode mm_F_dropRange.2.1 15 = .ok (.getfield 10, 3) := by decide +kernel
theorem dd_F_dropRange_18 : decode mm_F_dropRange.2.1 18 = .ok (.iload_n 3, 1) := by decide +kernel
theorem dd_F_dropRange_19 : decode mm_F_dropRange.2.1 19 = .ok (.invokevirtual 24, 3) := by decide +kernel
theorem dd_F_dropRange_22 : decode mm_F_dropRange.2.1 22 = .ok (.checkcast 28, 3) := by decide +kernel
theorem dd_F_dropRange_25 : decode mm_F_dropRange.2.1 25 = .ok (.getfield 30, 3) := by decide +kernel
theorem dd_F_dropRange_28 : decode mm_F_dropRange.2.1 28 = .ok (.istore 4, 2) := by decide +kernel
theorem dd_F_dropRange_30 : decode mm_F_dropRange.2.1 30 = .ok (.iload 4, 2) := by decide +kernel
theorem dd_F_dropRange_32 : decode mm_F_dropRange.2.1 32 = .ok (.iload_n 1, 1) := by decide +kernel
theorem dd_F_dropRange_33 : decode mm_F_dropRange.2.1 33 = .ok (.if_icmp .le 18, 3) := by decide +kernel
theorem dd_F_dropRange_36 : decode mm_F_dropRange.2.1 36 = .ok (.iload 4, 2) := by decide +kernel
theorem dd_F_dropRange_38 : decode mm_F_dropRange.2.1 38 = .ok (.iload_n 2, 1) := by decide +kernel
theorem dd_F_dropRange_39 : decode mm_F_dropRange.2.1 39 = .ok (.if_icmp .gt 12, 3) := by decide +kernel
theorem dd_F_dropRange_42 : decode mm_F_dropRange.2.1 42 = .ok (.aload_n 0, 1) := by decide +kernel
theorem dd_F_dropRange_43 : decode mm_F_dropRange.2.1 43 = .ok (.getfield 10, 3) := by decide +kernel
theorem dd_F_dropRange_46 : decode mm_F_dropRange.2.1 46 = .ok (.iload_n 3, 1) := by decide +kernel
theorem dd_F_dropRange_47 : decode mm_F_dropRange.2.1 47 = .ok (.invokevirtual 47, 3) := by decide +kernel
theorem dd_F_dropRange_50 : decode mm_F_dropRange.2.1 50 = .ok (.pop, 1) := by decide +kernel
theorem dd_F_dropRange_51 : decode mm_F_dropRange.2.1 51 = .ok (.iinc 3 (-1), 3) := by decide +kernel
theorem dd_F_dropRange_54 : decode mm_F_dropRange.2.1 54 = .ok (.goto (-44), 3) := by decide +kernel
theorem dd_F_dropRange_57 : decode mm_F_dropRange.2.1 57 = .ok (.return_, 1) := by decide +kernel
theorem dd_F_entryAbove_0 : decode mm_F_entryAbove.2.1 0 = .ok (.iconst 0, 1) := by decide +kernel
theorem dd_F_entryAbove_1 : decode mm_F_entryAbove.2.1 1 = .ok (.istore_n 2, 1) := by decide +kernel
theorem dd_F_entryAbove_2 : decode mm_F_entryAbove.2.1 2 = .ok (.iload_n 2, 1) := by decide +kernel
theorem dd_F_entryAbove_3 : decode mm_F_entryAbove.2.1 3 = .ok (.aload_n 0, 1) := by decide +kernel
theorem dd_F_entryAbove_4 : decode mm_F_entryAbove.2.1 4 = .ok (.getfield 10, 3) := by decide +kernel
theorem dd_F_entryAbove_7 : decode mm_F_entryAbove.2.1 7 = .ok (.invokevirtual 20, 3) := by decide +kernel
theorem dd_F_entryAbove_10 : decode mm_F_entryAbove.2.1 10 = .ok (.if_icmp .ge 31, 3) := by decide +kernel
theorem dd_F_entryAbove_13 : decode mm_F_entryAbove.2.1 13 = .ok (.aload_n 0, 1) := by decide +kernel
theorem dd_F_entryAbove_14 : decode mm_F_entryAbove.2.1 14 = .ok (.getfield 10, 3) := by decide +kernel
theorem dd_F_entryAbove_17 : decode mm_F_entryAbove.2.1 17 = .ok (.iload_n 2, 1) := by decide +kernel
theorem dd_F_entryAbove_18 : decode mm_F_entryAbove.2.1 18 = .ok (.invokevirtual 24, 3) := by decide +kernel
theorem dd_F_entryAbove_21 : decode mm_F_entryAbove.2.1 21 = .ok (.checkcast 28, 3) := by decide +kernel
theorem dd_F_entryAbove_24 : decode mm_F_entryAbove.2.1 24 = .ok (.astore_n 3, 1) := by decide +kernel
theorem dd_F_entryAbove_25 : decode mm_F_entryAbove.2.1 25 = .ok (.aload_n 3, 1) := by decide +kernel
theorem dd_F_entryAbove_26 : decode mm_F_entryAbove.2.1 26 = .ok (.getfield 30, 3) := by decide +kernel
theorem dd_F_entryAbove_29 : decode mm_F_entryAbove.2.1 29 = .ok (.iload_n 1, 1) := by decide +kernel
theorem dd_F_entryAbove_30 : decode mm_F_entryAbove.2.1 30 = .ok (.if_icmp .le 5, 3) := by decide +kernel
theorem dd_F_entryAbove_33 : decode mm_F_entryAbove.2.1 33 = .ok (.aload_n 3, 1) := by decide +kernel
theorem dd_F_entryAbove_34 : decode mm_F_entryAbove.2.1 34 = .ok (.areturn, 1) := by decide +kernel
theorem dd_F_entryAbove_35 : decode mm_F_entryAbove.2.1 35 = .ok (.iinc 2 1, 3) := by decide +kernel
theorem dd_F_entryAbove_38 : decode mm_F_entryAbove.2.1 38 = .ok (.goto (-36), 3) := by decide +kernel
theorem dd_F_entryAbove_41 : decode mm_F_entryAbove.2.1 41 = .ok (.aconst_null, 1) := by decide +kernel
theorem dd_F_entryAbove_42 : decode mm_F_entryAbove.2.1 42 = .ok (.areturn, 1) := by decide +kernel
theorem dd_F_entryNamed_0 : decode mm_F_entryNamed.2.1 0 = .ok (.iconst 0, 1) := by decide +kernel
theorem dd_F_entryNamed_1 : decode mm_F_entryNamed.2.1 1 = .ok (.istore_n 3, 1) := by decide +kernel
theorem dd_F_entryNamed_2 : decode mm_F_entryNamed.2.1 2 = .ok (.iload_n 3, 1) := by decide +kernel
theorem dd_F_entryNamed_3 : decode mm_F_entryNamed.2.1 3 = .ok (.aload_n 0, 1) := by decide +kernel
theorem dd_F_entryNamed_4 : decode mm_F_entryNamed.2.1 4 = .ok (.getfield 10, 3) := by decide +kernel
theorem dd_F_entryNamed_7 : decode mm_F_entryNamed.2.1 7 = .ok (.invokevirtual 20, 3) := by decide +kernel
theorem dd_F_entryNamed_10 : decode mm_F_entryNamed.2.1 10 = .ok (.if_icmp .ge 43, 3) := by decide +kernel
theorem dd_F_entryNamed_13 : decode mm_F_entryNamed.2.1 13 = .ok (.aload_n 0, 1) := by decide +kernel
theorem dd_F_entryNamed_14 : decode mm_F_entryNamed.2.1 14 = .ok (.getfield 10, 3) := by decide +kernel
theorem dd_F_entryNamed_17 : decode mm_F_entryNamed.2.1 17 = .ok (.iload_n 3, 1) := by decide +kernel
theorem dd_F_entryNamed_18 : decode mm_F_entryNamed.2.1 18 = .ok (.invokevirtual 24, 3) := by decide +kernel
theorem dd_F_entryNamed_21 : decode mm_F_entryNamed.2.1 21 = .ok (.checkcast 28, 3) := by decide +kernel
theorem dd_F_entryNamed_24 : decode mm_F_entryNamed.2.1 24 = .ok (.astore 4, 2) := by decide +kernel
theorem dd_F_entryNamed_26 : decode mm_F_entryNamed.2.1 26 = .ok (.aload 4, 2) := by decide +kernel
theorem dd_F_entryNamed_28 : decode mm_F_entryNamed.2.1 28 = .ok (.getfield 33, 3) := by decide +kernel
theorem dd_F_entryNamed_31 : decode mm_F_entryNamed.2.1 31 = .ok (.iload_n 1, 1) := by decide +kernel
theorem dd_F_entryNamed_32 : decode mm_F_entryNamed.2.1 32 = .ok (.if_icmp .ne 15, 3) := by decide +kernel
theorem dd_F_entryNamed_35 : decode mm_F_entryNamed.2.1 35 = .ok (.aload 4, 2) := by decide +kernel
theorem dd_F_entryNamed_37 : decode mm_F_entryNamed.2.1 37 = .ok (.getfield 36, 3) := by decide +kernel
theorem dd_F_entryNamed_40 : decode mm_F_entryNamed.2.1 40 = .ok (.iload_n 2, 1) := by decide +kernel
theorem dd_F_entryNamed_41 : decode mm_F_entryNamed.2.1 41 = .ok (.if_icmp .ne 6, 3) := by decide +kernel
theorem dd_F_entryNamed_44 : decode mm_F_entryNamed.2.1 44 = .ok (.aload 4, 2) := by decide +kernel
theorem dd_F_entryNamed_46 : decode mm_F_entryNamed.2.1 46 = .ok (.areturn, 1) := by decide +kernel
theorem dd_F_entryNamed_47 : decode mm_F_entryNamed.2.1 47 = .ok (.iinc 3 1, 3) := by decide +kernel
theorem dd_F_entryNamed_50 : decode mm_F_entryNamed.2.1 50 = .ok (.goto (-48), 3) := by decide +kernel
theorem dd_F_entryNamed_53 : decode mm_F_entryNamed.2.1 53 = .ok (.aconst_null, 1) := by decide +kernel
theorem dd_F_entryNamed_54 : decode mm_F_entryNamed.2.1 54 = .ok (.areturn, 1) := by decide +kernel
theorem dd_F_entryOf_0 : decode mm_F_entryOf.2.1 0 = .ok (.iconst 0, 1) := by decide +kernel
theorem dd_F_entryOf_1 : decode mm_F_entryOf.2.1 1 = .ok (.istore_n 2, 1) := by decide +kernel
theorem dd_F_entryOf_2 : decode mm_F_entryOf.2.1 2 = .ok (.iload_n 2, 1) := by decide +kernel
theorem dd_F_entryOf_3 : decode mm_F_entryOf.2.1 3 = .ok (.aload_n 0, 1) := by decide +kernel
theorem dd_F_entryOf_4 : decode mm_F_entryOf.2.1 4 = .ok (.getfield 10, 3) := by decide +kernel
theorem dd_F_entryOf_7 : decode mm_F_entryOf.2.1 7 = .ok (.invokevirtual 20, 3) := by decide +kernel
theorem dd_F_entryOf_10 : decode mm_F_entryOf.2.1 10 = .ok (.if_icmp .ge 31, 3) := by decide +kernel
theorem dd_F_entryOf_13 : decode mm_F_entryOf.2.1 13 = .ok (.aload_n 0, 1) := by decide +kernel
theorem dd_F_entryOf_14 : decode mm_F_entryOf.2.1 14 = .ok (.getfield 10, 3) := by decide +kernel
theorem dd_F_entryOf_17 : decode mm_F_entryOf.2.1 17 = .ok (.iload_n 2, 1) := by decide +kernel
theorem dd_F_entryOf_18 : decode mm_F_entryOf.2.1 18 = .ok (.invokevirtual 24, 3) := by decide +kernel
theorem dd_F_entryOf_21 : decode mm_F_entryOf.2.1 21 = .ok (.checkcast 28, 3) := by decide +kernel
theorem dd_F_entryOf_24 : decode mm_F_entryOf.2.1 24 = .ok (.astore_n 3, 1) := by decide +kernel
theorem dd_F_entryOf_25 : decode mm_F_entryOf.2.1 25 = .ok (.aload_n 3, 1) := by decide +kernel
theorem dd_F_entryOf_26 : decode mm_F_entryOf.2.1 26 = .ok (.getfield 30, 3) := by decide +kernel
theorem dd_F_entryOf_29 : decode mm_F_entryOf.2.1 29 = .ok (.iload_n 1, 1) := by decide +kernel
theorem dd_F_entryOf_30 : decode mm_F_entryOf.2.1 30 = .ok (.if_icmp .ne 5, 3) := by decide +kernel
theorem dd_F_entryOf_33 : decode mm_F_entryOf.2.1 33 = .ok (.aload_n 3, 1) := by decide +kernel
theorem dd_F_entryOf_34 : decode mm_F_entryOf.2.1 34 = .ok (.areturn, 1) := by decide +kernel
theorem dd_F_entryOf_35 : decode mm_F_entryOf.2.1 35 = .ok (.iinc 2 1, 3) := by decide +kernel
theorem dd_F_entryOf_38 : decode mm_F_entryOf.2.1 38 = .ok (.goto (-36), 3) := by decide +kernel
theorem dd_F_entryOf_41 : decode mm_F_entryOf.2.1 41 = .ok (.aconst_null, 1) := by decide +kernel
theorem dd_F_entryOf_42 : decode mm_F_entryOf.2.1 42 = .ok (.areturn, 1) := by decide +kernel
theorem dd_F_hasFilesIn_0 : decode mm_F_hasFilesIn.2.1 0 = .ok (.iconst 0, 1) := by decide +kernel
theorem dd_F_hasFilesIn_1 : decode mm_F_hasFilesIn.2.1 1 = .ok (.istore_n 2, 1) := by decide +kernel
theorem dd_F_hasFilesIn_2 : decode mm_F_hasFilesIn.2.1 2 = .ok (.iload_n 2, 1) := by decide +kernel
theorem dd_F_hasFilesIn_3 : decode mm_F_hasFilesIn.2.1 3 = .ok (.aload_n 0, 1) := by decide +kernel
theorem dd_F_hasFilesIn_4 : decode mm_F_hasFilesIn.2.1 4 = .ok (.getfield 10, 3) := by decide +kernel
theorem dd_F_hasFilesIn_7 : decode mm_F_hasFilesIn.2.1 7 = .ok (.invokevirtual 20, 3) := by decide +kernel
theorem dd_F_hasFilesIn_10 : decode mm_F_hasFilesIn.2.1 10 = .ok (.if_icmp .ge 29, 3) := by decide +kernel
theorem dd_F_hasFilesIn_13 : decode mm_F_hasFilesIn.2.1 13 = .ok (.aload_n 0, 1) := by decide +kernel
theorem dd_F_hasFilesIn_14 : decode mm_F_hasFilesIn.2.1 14 = .ok (.getfield 10, 3) := by decide +kernel
theorem dd_F_hasFilesIn_17 : decode mm_F_hasFilesIn.2.1 17 = .ok (.iload_n 2, 1) := by decide +kernel
theorem dd_F_hasFilesIn_18 : decode mm_F_hasFilesIn.2.1 18 = .ok (.invokevirtual 24, 3) := by decide +kernel
theorem dd_F_hasFilesIn_21 : decode mm_F_hasFilesIn.2.1 21 = .ok (.checkcast 28, 3) := by decide +kernel
theorem dd_F_hasFilesIn_24 : decode mm_F_hasFilesIn.2.1 24 = .ok (.getfield 33, 3) := by decide +kernel
theorem dd_F_hasFilesIn_27 : decode mm_F_hasFilesIn.2.1 27 = .ok (.iload_n 1, 1) := by decide +kernel
theorem dd_F_hasFilesIn_28 : decode mm_F_hasFilesIn.2.1 28 = .ok (.if_icmp .ne 5, 3) := by decide +kernel
theorem dd_F_hasFilesIn_31 : decode mm_F_hasFilesIn.2.1 31 = .ok (.iconst 1, 1) := by decide +kernel
theorem dd_F_hasFilesIn_32 : decode mm_F_hasFilesIn.2.1 32 = .ok (.ireturn, 1) := by decide +kernel
theorem dd_F_hasFilesIn_33 : decode mm_F_hasFilesIn.2.1 33 = .ok (.iinc 2 1, 3) := by decide +kernel
theorem dd_F_hasFilesIn_36 : decode mm_F_hasFilesIn.2.1 36 = .ok (.goto (-34), 3) := by decide +kernel
theorem dd_F_hasFilesIn_39 : decode mm_F_hasFilesIn.2.1 39 = .ok (.iconst 0, 1) := by decide +kernel
theorem dd_F_hasFilesIn_40 : decode mm_F_hasFilesIn.2.1 40 = .ok (.ireturn, 1) := by decide +kernel
theorem dd_F_isLike_0 : decode mm_F_isLike.2.1 0 = .ok (.aload_n 0, 1) := by decide +kernel
theorem dd_F_isLike_1 : decode mm_F_isLike.2.1 1 = .ok (.getfield 10, 3) := by decide +kernel
theorem dd_F_isLike_4 : decode mm_F_isLike.2.1 4 = .ok (.invokevirtual 20, 3) := by decide +kernel
theorem dd_F_isLike_7 : decode mm_F_isLike.2.1 7 = .ok (.aload_n 1, 1) := by decide +kernel
theorem dd_F_isLike_8 : decode mm_F_isLike.2.1 8 = .ok (.getfield 10, 3) := by decide +kernel
theorem dd_F_isLike_11 : decode mm_F_isLike.2.1 11 = .ok (.invokevirtual 20, 3) := by decide +kernel
theorem dd_F_isLike_14 : decode mm_F_isLike.2.1 14 = .ok (.if_icmp .eq 5, 3) := by decide +kernel
theorem dd_F_isLike_17 : decode mm_F_isLike.2.1 17 = .ok (.iconst 0, 1) := by decide +kernel
theorem dd_F_isLike_18 : decode mm_F_isLike.2.1 18 = .ok (.ireturn, 1) := by decide +kernel
theorem dd_F_isLike_19 : decode mm_F_isLike.2.1 19 = .ok (.iconst 0, 1) := by decide +kernel
theorem dd_F_isLike_20 : decode mm_F_isLike.2.1 20 = .ok (.istore_n 2, 1) := by decide +kernel
theorem dd_F_isLike_21 : decode mm_F_isLike.2.1 21 = .ok (.iload_n 2, 1) := by decide +kernel
theorem dd_F_isLike_22 : decode mm_F_isLike.2.1 22 = .ok (.aload_n 0, 1) := by decide +kernel
theorem dd_F_isLike_23 : decode mm_F_isLike.2.1 23 = .ok (.getfield 10, 3) := by decide +kernel
theorem dd_F_isLike_26 : decode mm_F_isLike.2.1 26 = .ok (.invokevirtual 20, 3) := by decide +kernel
theorem dd_F_isLike_29 : decode mm_F_isLike.2.1 29 = .ok (.if_icmp .ge 39, 3) := by decide +kernel
theorem dd_F_isLike_32 : decode mm_F_isLike.2.1 32 = .ok (.aload_n 0, 1) := by decide +kernel
theorem dd_F_isLike_33 : decode mm_F_isLike.2.1 33 = .ok (.getfield 10, 3) := by decide +kernel
theorem dd_F_isLike_36 : decode mm_F_isLike.2.1 36 = .ok (.iload_n 2, 1) := by decide +kernel
theorem dd_F_isLike_37 : decode mm_F_isLike.2.1 37 = .ok (.invokevirtual 24, 3) := by decide +kernel
theorem dd_F_isLike_40 : decode mm_F_isLike.2.1 40 = .ok (.checkcast 28, 3) := by decide +kernel
theorem dd_F_isLike_43 : decode mm_F_isLike.2.1 43 = .ok (.aload_n 1, 1) := by decide +kernel
theorem dd_F_isLike_44 : decode mm_F_isLike.2.1 44 = .ok (.getfield 10, 3) := by decide +kernel
theorem dd_F_isLike_47 : decode mm_F_isLike.2.1 47 = .ok (.iload_n 2, 1) := by decide +kernel
theorem dd_F_isLike_48 : decode mm_F_isLike.2.1 48 = .ok (.invokevirtual 24, 3) := by decide +kernel
theorem dd_F_isLike_51 : decode mm_F_isLike.2.1 51 = .ok (.checkcast 28, 3) := by decide +kernel
theorem dd_F_isLike_54 : decode mm_F_isLike.2.1 54 = .ok (.invokevirtual 50, 3) := by decide +kernel
theorem dd_F_isLike_57 : decode mm_F_isLike.2.1 57 = .ok (.ifCond .ne 5, 3) := by decide +kernel
theorem dd_F_isLike_60 : decode mm_F_isLike.2.1 60 = .ok (.iconst 0, 1) := by decide +kernel
theorem dd_F_isLike_61 : decode mm_F_isLike.2.1 61 = .ok (.ireturn, 1) := by decide +kernel
theorem dd_F_isLike_62 : decode mm_F_isLike.2.1 62 = .ok (.iinc 2 1, 3) := by decide +kernel
theorem dd_F_isLike_65 : decode mm_F_isLike.2.1 65 = .ok (.goto (-44), 3) := by decide +kernel
theorem dd_F_isLike_68 : decode mm_F_isLike.2.1 68 = .ok (.iconst 1, 1) := by decide +kernel
theorem dd_F_isLike_69 : decode mm_F_isLike.2.1 69 = .ok (.ireturn, 1) := by decide +kernel
theorem dd_F_put_0 : decode mm_F_put.2.1 0 = .ok (.iconst 0, 1) := by decide +kernel
theorem dd_F_put_1 : decode mm_F_put.2.1 1 = .ok (.istore_n 2, 1) := by decide +kernel
theorem dd_F_put_2 : decode mm_F_put.2.1 2 = .ok (.iload_n 2, 1) := by decide +kernel
theorem dd_F_put_3 : decode mm_F_put.2.1 3 = .ok (.aload_n 0, 1) := by decide +kernel
theorem dd_F_put_4 : decode mm_F_put.2.1 4 = .ok (.getfield 10, 3) := by decide +kernel
theorem dd_F_put_7 : decode mm_F_put.2.1 7 = .ok (.invokevirtual 20, 3) := by decide +kernel
theorem dd_F_put_10 : decode mm_F_put.2.1 10 = .ok (.if_icmp .ge 30, 3) := by decide +kernel
theorem dd_F_put_13 : decode mm_F_put.2.1 13 = .ok (.aload_n 0, 1) := by decide +kernel
theorem dd_F_put_14 : decode mm_F_put.2.1 14 = .ok (.getfield 10, 3) := by decide +kernel
theorem dd_F_put_17 : decode mm_F_put.2.1 17 = .ok (.iload_n 2, 1) := by decide +kernel
theorem dd_F_put_18 : decode mm_F_put.2.1 18 = .ok (.invokevirtual 24, 3) := by decide +kernel
theorem dd_F_put_21 : decode mm_F_put.2.1 21 = .ok (.checkcast 28, 3) := by decide +kernel
theorem dd_F_put_24 : decode mm_F_put.2.1 24 = .ok (.getfield 30, 3) := by decide +kernel
theorem dd_F_put_27 : decode mm_F_put.2.1 27 = .ok (.aload_n 1, 1) := by decide +kernel
theorem dd_F_put_28 : decode mm_F_put.2.1 28 = .ok (.getfield 30, 3) := by decide +kernel
theorem dd_F_put_31 : decode mm_F_put.2.1 31 = .ok (.if_icmp .ge 9, 3) := by decide +kernel
theorem dd_F_put_34 : decode mm_F_put.2.1 34 = .ok (.iinc 2 1, 3) := by decide +kernel
theorem dd_F_put_37 : decode mm_F_put.2.1 37 = .ok (.goto (-35), 3) := by decide +kernel
theorem dd_F_put_40 : decode mm_F_put.2.1 40 = .ok (.iload_n 2, 1) := by decide +kernel
theorem dd_F_put_41 : decode mm_F_put.2.1 41 = .ok (.aload_n 0, 1) := by decide +kernel
theorem dd_F_put_42 : decode mm_F_put.2.1 42 = .ok (.getfield 10, 3) := by decide +kernel
theorem dd_F_put_45 : decode mm_F_put.2.1 45 = .ok (.invokevirtual 20, 3) := by decide +kernel
theorem dd_F_put_48 : decode mm_F_put.2.1 48 = .ok (.if_icmp .ge 37, 3) := by decide +kernel
theorem dd_F_put_51 : decode mm_F_put.2.1 51 = .ok (.aload_n 0, 1) := by decide +kernel
theorem dd_F_put_52 : decode mm_F_put.2.1 52 = .ok (.getfield 10, 3) := by decide +kernel
theorem dd_F_put_55 : decode mm_F_put.2.1 55 = .ok (.iload_n 2, 1) := by decide +kernel
theorem dd_F_put_56 : decode mm_F_put.2.1 56 = .ok (.invokevirtual 24, 3) := by decide +kernel
theorem dd_F_put_59 : decode mm_F_put.2.1 59 = .ok (.checkcast 28, 3) := by decide +kernel
theorem dd_F_put_62 : decode mm_F_put.2.1 62 = .ok (.getfield 30, 3) := by decide +kernel
theorem dd_F_put_65 : decode mm_F_put.2.1 65 = .ok (.aload_n 1, 1) := by decide +kernel
theorem dd_F_put_66 : decode mm_F_put.2.1 66 = .ok (.getfield 30, 3) := by decide +kernel
theorem dd_F_put_69 : decode mm_F_put.2.1 69 = .ok (.if_icmp .ne 16, 3) := by decide +kernel
theorem dd_F_put_72 : decode mm_F_put.2.1 72 = .ok (.aload_n 0, 1) := by decide +kernel
theorem dd_F_put_73 : decode mm_F_put.2.1 73 = .ok (.getfield 10, 3) := by decide +kernel
theorem dd_F_put_76 : decode mm_F_put.2.1 76 = .ok (.iload_n 2, 1) := by decide +kernel
theorem dd_F_put_77 : decode mm_F_put.2.1 77 = .ok (.aload_n 1, 1) := by decide +kernel
theorem dd_F_put_78 : decode mm_F_put.2.1 78 = .ok (.invokevirtual 39, 3) := by decide +kernel
theorem dd_F_put_81 : decode mm_F_put.2.1 81 = .ok (.pop, 1) := by decide +kernel
theorem dd_F_put_82 : decode mm_F_put.2.1 82 = .ok (.goto 26, 3) := by decide +kernel
theorem dd_F_put_85 : decode mm_F_put.2.1 85 = .ok (.aload_n 0, 1) := by decide +kernel
theorem dd_F_put_86 : decode mm_F_put.2.1 86 = .ok (.getfield 10, 3) := by decide +kernel
theorem dd_F_put_89 : decode mm_F_put.2.1 89 = .ok (.invokevirtual 20, 3) := by decide +kernel
theorem dd_F_put_92 : decode mm_F_put.2.1 92 = .ok (.aload_n 0, 1) := by decide +kernel
theorem dd_F_put_93 : decode mm_F_put.2.1 93 = .ok (.getfield 16, 3) := by decide +kernel
theorem dd_F_put_96 : decode mm_F_put.2.1 96 = .ok (.if_icmp .ge 12, 3) := by decide +kernel
theorem dd_F_put_99 : decode mm_F_put.2.1 99 = .ok (.aload_n 0, 1) := by decide +kernel
theorem dd_F_put_100 : decode mm_F_put.2.1 100 = .ok (.getfield 10, 3) := by decide +kernel
theorem dd_F_put_103 : decode mm_F_put.2.1 103 = .ok (.iload_n 2, 1) := by decide +kernel
theorem dd_F_put_104 : decode mm_F_put.2.1 104 = .ok (.aload_n 1, 1) := by decide +kernel
theorem dd_F_put_105 : decode mm_F_put.2.1 105 = .ok (.invokevirtual 43, 3) := by decide +kernel
theorem dd_F_put_108 : decode mm_F_put.2.1 108 = .ok (.return_, 1) := by decide +kernel
theorem dd_H_init_0 : decode mm_H_init.2.1 0 = .ok (.aload_n 0, 1) := by decide +kernel
theorem dd_H_init_1 : decode mm_H_init.2.1 1 = .ok (.invokespecial 3, 3) := by decide +kernel
theorem dd_H_init_4 : decode mm_H_init.2.1 4 = .ok (.aload_n 0, 1) := by decide +kernel
theorem dd_H_init_5 : decode mm_H_init.2.1 5 = .ok (.new 9, 3) := by decide +kernel
theorem dd_H_init_8 : decode mm_H_init.2.1 8 = .ok (.dup, 1) := by decide +kernel
theorem dd_H_init_9 : decode mm_H_init.2.1 9 = .ok (.invokespecial 11, 3) := by decide +kernel
theorem dd_H_init_12 : decode mm_H_init.2.1 12 = .ok (.putfield 12, 3) := by decide +kernel
theorem dd_H_init_15 : decode mm_H_init.2.1 15 = .ok (.return_, 1) := by decide +kernel
theorem dd_H_count_0 : decode mm_H_count.2.1 0 = .ok (.aload_n 0, 1) := by decide +kernel
theorem dd_H_count_1 : decode mm_H_count.2.1 1 = .ok (.getfield 12, 3) := by decide +kernel
theorem dd_H_count_4 : decode mm_H_count.2.1 4 = .ok (.invokevirtual 18, 3) := by decide +kernel
theorem dd_H_count_7 : decode mm_H_count.2.1 7 = .ok (.ireturn, 1) := by decide +kernel
theorem dd_H_first_0 : decode mm_H_first.2.1 0 = .ok (.aload_n 0, 1) := by decide +kernel
theorem dd_H_first_1 : decode mm_H_first.2.1 1 = .ok (.getfield 12, 3) := by decide +kernel
theorem dd_H_first_4 : decode mm_H_first.2.1 4 = .ok (.invokevirtual 22, 3) := by decide +kernel
theorem dd_H_first_7 : decode mm_H_first.2.1 7 = .ok (.ifCond .eq 7, 3) := by decide +kernel
theorem dd_H_first_10 : decode mm_H_first.2.1 10 = .ok (.aconst_null, 1) := by decide +kernel
theorem dd_H_first_11 : decode mm_H_first.2.1 11 = .ok (.goto 14, 3) := by decide +kernel
theorem dd_H_first_14 : decode mm_H_first.2.1 14 = .ok (.aload_n 0, 1) := by decide +kernel
theorem dd_H_first_15 : decode mm_H_first.2.1 15 = .ok (.getfield 12, 3) := by decide +kernel
theorem dd_H_first_18 : decode mm_H_first.2.1 18 = .ok (.iconst 0, 1) := by decide +kernel
theorem dd_H_first_19 : decode mm_H_first.2.1 19 = .ok (.invokevirtual 26, 3) := by decide +kernel
theorem dd_H_first_22 : decode mm_H_first.2.1 22 = .ok (.checkcast 30, 3) := by decide +kernel
theorem dd_H_first_25 : decode mm_H_first.2.1 25 = .ok (.areturn, 1) := by decide +kernel
theorem dd_H_forget_0 : decode mm_H_forget.2.1 0 = .ok (.aload_n 0, 1) := by decide +kernel
theorem dd_H_forget_1 : decode mm_H_forget.2.1 1 = .ok (.getfield 12, 3) := by decide +kernel
theorem dd_H_forget_4 : decode mm_H_forget.2.1 4 = .ok (.invokevirtual 57, 3) := by decide +kernel
theorem dd_H_forget_7 : decode mm_H_forget.2.1 7 = .ok (.return_, 1) := by decide +kernel
theorem dd_H_gather_0 : decode mm_H_gather.2.1 0 = .ok (.aload_n 0, 1) := by decide +kernel
theorem dd_H_gather_1 : decode mm_H_gather.2.1 1 = .ok (.iload_n 1, 1) := by decide +kernel
theorem dd_H_gather_2 : decode mm_H_gather.2.1 2 = .ok (.invokevirtual 36, 3) := by decide +kernel
theorem dd_H_gather_5 : decode mm_H_gather.2.1 5 = .ok (.astore_n 3, 1) := by decide +kernel
theorem dd_H_gather_6 : decode mm_H_gather.2.1 6 = .ok (.aload_n 3, 1) := by decide +kernel
theorem dd_H_gather_7 : decode mm_H_gather.2.1 7 = .ok (.ifnonnull 21, 3) := by decide +kernel
theorem dd_H_gather_10 : decode mm_H_gather.2.1 10 = .ok (.new 30, 3) := by decide +kernel
theorem dd_H_gather_13 : decode mm_H_gather.2.1 13 = .ok (.dup, 1) := by decide +kernel
theorem dd_H_gather_14 : decode mm_H_gather.2.1 14 = .ok (.iload_n 1, 1) := by decide +kernel
theorem dd_H_gather_15 : decode mm_H_gather.2.1 15 = .ok (.invokespecial 44, 3) := by decide +kernel
theorem dd_H_gather_18 : decode mm_H_gather.2.1 18 = .ok (.astore_n 3, 1) := by decide +kernel
theorem dd_H_gather_19 : decode mm_H_gather.2.1 19 = .ok (.aload_n 0, 1) := by decide +kernel
theorem dd_H_gather_20 : decode mm_H_gather.2.1 20 = .ok (.getfield 12, 3) := by decide +kernel
theorem dd_H_gather_23 : decode mm_H_gather.2.1 23 = .ok (.aload_n 3, 1) := by decide +kernel
theorem dd_H_gather_24 : decode mm_H_gather.2.1 24 = .ok (.invokevirtual 47, 3) := by decide +kernel
theorem dd_H_gather_27 : decode mm_H_gather.2.1 27 = .ok (.pop, 1) := by decide +kernel
theorem dd_H_gather_28 : decode mm_H_gather.2.1 28 = .ok (.aload_n 3, 1) := by decide +kernel
theorem dd_H_gather_29 : decode mm_H_gather.2.1 29 = .ok (.dup, 1) := by decide +kernel
theorem dd_H_gather_30 : decode mm_H_gather.2.1 30 = .ok (.getfield 51, 3) := by decide +kernel
theorem dd_H_gather_33 : decode mm_H_gather.2.1 33 = .ok (.iload_n 2, 1) := by decide +kernel
theorem dd_H_gather_34 : decode mm_H_gather.2.1 34 = .ok (.ior, 1) := by decide +kernel
theorem dd_H_gather_35 : decode mm_H_gather.2.1 35 = .ok (.putfield 51, 3) := by decide +kernel
theorem dd_H_gather_38 : decode mm_H_gather.2.1 38 = .ok (.aload_n 3, 1) := by decide +kernel
theorem dd_H_gather_39 : decode mm_H_gather.2.1 39 = .ok (.getfield 51, 3) := by decide +kernel
theorem dd_H_gather_42 : decode mm_H_gather.2.1 42 = .ok (.ireturn, 1) := by decide +kernel
theorem dd_H_gatheringOf_0 : decode mm_H_gatheringOf.2.1 0 = .ok (.iconst 0, 1) := by decide +kernel
theorem dd_H_gatheringOf_1 : decode mm_H_gatheringOf.2.1 1 = .ok (.istore_n 2, 1) := by decide +kernel
theorem dd_H_gatheringOf_2 : decode mm_H_gatheringOf.2.1 2 = .ok (.iload_n 2, 1) := by decide +kernel
theorem dd_H_gatheringOf_3 : decode mm_H_gatheringOf.2.1 3 = .ok (.aload_n 0, 1) := by decide +kernel
theorem dd_H_gatheringOf_4 : decode mm_H_gatheringOf.2.1 4 = .ok (.getfield 12, 3) := by decide +kernel
theorem dd_H_gatheringOf_7 : decode mm_H_gatheringOf.2.1 7 = .ok (.invokevirtual 18, 3) := by decide +kernel
theorem dd_H_gatheringOf_10 : decode mm_H_gatheringOf.2.1 10 = .ok (.if_icmp .ge 31, 3) := by decide +kernel
theorem dd_H_gatheringOf_13 : decode mm_H_gatheringOf.2.1 13 = .ok (.aload_n 0, 1) := by decide +kernel
theorem dd_H_gatheringOf_14 : decode mm_H_gatheringOf.2.1 14 = .ok (.getfield 12, 3) := by decide +kernel
theorem dd_H_gatheringOf_17 : decode mm_H_gatheringOf.2.1 17 = .ok (.iload_n 2, 1) := by decide +kernel
theorem dd_H_gatheringOf_18 : decode mm_H_gatheringOf.2.1 18 = .ok (.invokevirtual 26, 3) := by decide +kernel
theorem dd_H_gatheringOf_21 : decode mm_H_gatheringOf.2.1 21 = .ok (.checkcast 30, 3) := by decide +kernel
theorem dd_H_gatheringOf_24 : decode mm_H_gatheringOf.2.1 24 = .ok (.astore_n 3, 1) := by decide +kernel
theorem dd_H_gatheringOf_25 : decode mm_H_gatheringOf.2.1 25 = .ok (.aload_n 3, 1) := by decide +kernel
theorem dd_H_gatheringOf_26 : decode mm_H_gatheringOf.2.1 26 = .ok (.getfield 32, 3) := by decide +kernel
theorem dd_H_gatheringOf_29 : decode mm_H_gatheringOf.2.1 29 = .ok (.iload_n 1, 1) := by decide +kernel
theorem dd_H_gatheringOf_30 : decode mm_H_gatheringOf.2.1 30 = .ok (.if_icmp .ne 5, 3) := by decide +kernel
theorem dd_H_gatheringOf_33 : decode mm_H_gatheringOf.2.1 33 = .ok (.aload_n 3, 1) := by decide +kernel
theorem dd_H_gatheringOf_34 : decode mm_H_gatheringOf.2.1 34 = .ok (.areturn, 1) := by decide +kernel
theorem dd_H_gatheringOf_35 : decode mm_H_gatheringOf.2.1 35 = .ok (.iinc 2 1, 3) := by decide +kernel
theorem dd_H_gatheringOf_38 : decode mm_H_gatheringOf.2.1 38 = .ok (.goto (-36), 3) := by decide +kernel
theorem dd_H_gatheringOf_41 : decode mm_H_gatheringOf.2.1 41 = .ok (.aconst_null, 1) := by decide +kernel
theorem dd_H_gatheringOf_42 : decode mm_H_gatheringOf.2.1 42 = .ok (.areturn, 1) := by decide +kernel
theorem dd_H_inTheWayOf_0 : decode mm_H_inTheWayOf.2.1 0 = .ok (.aload_n 0, 1) := by decide +kernel
theorem dd_H_inTheWayOf_1 : decode mm_H_inTheWayOf.2.1 1 = .ok (.getfield 12, 3) := by decide +kernel
theorem dd_H_inTheWayOf_4 : decode mm_H_inTheWayOf.2.1 4 = .ok (.invokevirtual 18, 3) := by decide +kernel
theorem dd_H_inTheWayOf_7 : decode mm_H_inTheWayOf.2.1 7 = .ok (.iconst 3, 1) := by decide +kernel
theorem dd_H_inTheWayOf_8 : decode mm_H_inTheWayOf.2.1 8 = .ok (.if_icmp .lt 11, 3) := by decide +kernel
theorem dd_H_inTheWayOf_11 : decode mm_H_inTheWayOf.2.1 11 = .ok (.aload_n 0, 1) := by decide +kernel
theorem dd_H_inTheWayOf_12 : decode mm_H_inTheWayOf.2.1 12 = .ok (.iload_n 1, 1) := by decide +kernel
theorem dd_H_inTheWayOf_13 : decode mm_H_inTheWayOf.2.1 13 = .ok (.invokevirtual 36, 3) := by decide +kernel
theorem dd_H_inTheWayOf_16 : decode mm_H_inTheWayOf.2.1 16 = .ok (.ifnull 7, 3) := by decide +kernel
theorem dd_H_inTheWayOf_19 : decode mm_H_inTheWayOf.2.1 19 = .ok (.aconst_null, 1) := by decide +kernel
theorem dd_H_inTheWayOf_20 : decode mm_H_inTheWayOf.2.1 20 = .ok (.goto 7, 3) := by decide +kernel
theorem dd_H_inTheWayOf_23 : decode mm_H_inTheWayOf.2.1 23 = .ok (.aload_n 0, 1) := by decide +kernel
theorem dd_H_inTheWayOf_24 : decode mm_H_inTheWayOf.2.1 24 = .ok (.invokevirtual 40, 3) := by decide +kernel
theorem dd_H_inTheWayOf_27 : decode mm_H_inTheWayOf.2.1 27 = .ok (.areturn, 1) := by decide +kernel
theorem dd_H_recall_0 : decode mm_H_recall.2.1 0 = .ok (.aload_n 0, 1) := by decide +kernel
theorem dd_H_recall_1 : decode mm_H_recall.2.1 1 = .ok (.getfield 12, 3) := by decide +kernel
theorem dd_H_recall_4 : decode mm_H_recall.2.1 4 = .ok (.invokevirtual 57, 3) := by decide +kernel
theorem dd_H_recall_7 : decode mm_H_recall.2.1 7 = .ok (.aload_n 1, 1) := by decide +kernel
theorem dd_H_recall_8 : decode mm_H_recall.2.1 8 = .ok (.invokevirtual 60, 3) := by decide +kernel
theorem dd_H_recall_11 : decode mm_H_recall.2.1 11 = .ok (.istore_n 2, 1) := by decide +kernel
theorem dd_H_recall_12 : decode mm_H_recall.2.1 12 = .ok (.iload_n 2, 1) := by decide +kernel
theorem dd_H_recall_13 : decode mm_H_recall.2.1 13 = .ok (.aload_n 1, 1) := by decide +kernel
theorem dd_H_recall_14 : decode mm_H_recall.2.1 14 = .ok (.invokevirtual 65, 3) := by decide +kernel
theorem dd_H_recall_17 : decode mm_H_recall.2.1 17 = .ok (.if_icmp .ge 61, 3) := by decide +kernel
theorem dd_H_recall_20 : decode mm_H_recall.2.1 20 = .ok (.aload_n 1, 1) := by decide +kernel
theorem dd_H_recall_21 : decode mm_H_recall.2.1 21 = .ok (.iload_n 2, 1) := by decide +kernel
theorem dd_H_recall_22 : decode mm_H_recall.2.1 22 = .ok (.invokevirtual 68, 3) := by decide +kernel
theorem dd_H_recall_25 : decode mm_H_recall.2.1 25 = .ok (.astore_n 3, 1) := by decide +kernel
theorem dd_H_recall_26 : decode mm_H_recall.2.1 26 = .ok (.aload_n 3, 1) := by decide +kernel
theorem dd_H_recall_27 : decode mm_H_recall.2.1 27 = .ok (.ifnonnull 6, 3) := by decide +kernel
theorem dd_H_recall_30 : decode mm_H_recall.2.1 30 = .ok (.goto 42, 3) := by decide +kernel
theorem dd_H_recall_33 : decode mm_H_recall.2.1 33 = .ok (.aload_n 3, 1) := by decide +kernel
theorem dd_H_recall_34 : decode mm_H_recall.2.1 34 = .ok (.bipush 64, 2) := by decide +kernel
theorem dd_H_recall_36 : decode mm_H_recall.2.1 36 = .ok (.invokevirtual 72, 3) := by decide +kernel
theorem dd_H_recall_39 : decode mm_H_recall.2.1 39 = .ok (.ifCond .eq 17, 3) := by decide +kernel
theorem dd_H_recall_42 : decode mm_H_recall.2.1 42 = .ok (.aload_n 0, 1) := by decide +kernel
theorem dd_H_recall_43 : decode mm_H_recall.2.1 43 = .ok (.aload_n 3, 1) := by decide +kernel
theorem dd_H_recall_44 : decode mm_H_recall.2.1 44 = .ok (.getfield 78, 3) := by decide +kernel
theorem dd_H_recall_47 : decode mm_H_recall.2.1 47 = .ok (.getfield 82, 3) := by decide +kernel
theorem dd_H_recall_50 : decode mm_H_recall.2.1 50 = .ok (.invokevirtual 87, 3) := by decide +kernel
theorem dd_H_recall_53 : decode mm_H_recall.2.1 53 = .ok (.goto 19, 3) := by decide +kernel
theorem dd_H_recall_56 : decode mm_H_recall.2.1 56 = .ok (.aload_n 0, 1) := by decide +kernel
theorem dd_H_recall_57 : decode mm_H_recall.2.1 57 = .ok (.aload_n 3, 1) := by decide +kernel
theorem dd_H_recall_58 : decode mm_H_recall.2.1 58 = .ok (.getfield 78, 3) := by decide +kernel
theorem dd_H_recall_61 : decode mm_H_recall.2.1 61 = .ok (.getfield 82, 3) := by decide +kernel
theorem dd_H_recall_64 : decode mm_H_recall.2.1 64 = .ok (.aload_n 3, 1) := by decide +kernel
theorem dd_H_recall_65 : decode mm_H_recall.2.1 65 = .ok (.getfield 90, 3) := by decide +kernel
theorem dd_H_recall_68 : decode mm_H_recall.2.1 68 = .ok (.invokevirtual 91, 3) := by decide +kernel
theorem dd_H_recall_71 : decode mm_H_recall.2.1 71 = .ok (.pop, 1) := by decide +kernel
theorem dd_H_recall_72 : decode mm_H_recall.2.1 72 = .ok (.iinc 2 1, 3) := by decide +kernel
theorem dd_H_recall_75 : decode mm_H_recall.2.1 75 = .ok (.goto (-63), 3) := by decide +kernel
theorem dd_H_recall_78 : decode mm_H_recall.2.1 78 = .ok (.return_, 1) := by decide +kernel
theorem dd_H_take_0 : decode mm_H_take.2.1 0 = .ok (.iconst 0, 1) := by decide +kernel
theorem dd_H_take_1 : decode mm_H_take.2.1 1 = .ok (.istore_n 2, 1) := by decide +kernel
theorem dd_H_take_2 : decode mm_H_take.2.1 2 = .ok (.iload_n 2, 1) := by decide +kernel
theorem dd_H_take_3 : decode mm_H_take.2.1 3 = .ok (.aload_n 0, 1) := by decide +kernel
theorem dd_H_take_4 : decode mm_H_take.2.1 4 = .ok (.getfield 12, 3) := by decide +kernel
theorem dd_H_take_7 : decode mm_H_take.2.1 7 = .ok (.invokevirtual 18, 3) := by decide +kernel
theorem dd_H_take_10 : decode mm_H_take.2.1 10 = .ok (.if_icmp .ge 37, 3) := by decide +kernel
theorem dd_H_take_13 : decode mm_H_take.2.1 13 = .ok (.aload_n 0, 1) := by decide +kernel
theorem dd_H_take_14 : decode mm_H_take.2.1 14 = .ok (.getfield 12, 3) := by decide +kernel
theorem dd_H_take_17 : decode mm_H_take.2.1 17 = .ok (.iload_n 2, 1) := by decide +kernel
theorem dd_H_take_18 : decode mm_H_take.2.1 18 = .ok (.invokevirtual 26, 3) := by decide +kernel
theorem dd_H_take_21 : decode mm_H_take.2.1 21 = .ok (.checkcast 30, 3) := by decide +kernel
theorem dd_H_take_24 : decode mm_H_take.2.1 24 = .ok (.getfield 32, 3) := by decide +kernel
theorem dd_H_take_27 : decode mm_H_take.2.1 27 = .ok (.iload_n 1, 1) := by decide +kernel
theorem dd_H_take_28 : decode mm_H_take.2.1 28 = .ok (.if_icmp .ne 13, 3) := by decide +kernel
theorem dd_H_take_31 : decode mm_H_take.2.1 31 = .ok (.aload_n 0, 1) := by decide +kernel
theorem dd_H_take_32 : decode mm_H_take.2.1 32 = .ok (.getfield 12, 3) := by decide +kernel
theorem dd_H_take_35 : decode mm_H_take.2.1 35 = .ok (.iload_n 2, 1) := by decide +kernel
theorem dd_H_take_36 : decode mm_H_take.2.1 36 = .ok (.invokevirtual 54, 3) := by decide +kernel
theorem dd_H_take_39 : decode mm_H_take.2.1 39 = .ok (.pop, 1) := by decide +kernel
theorem dd_H_take_40 : decode mm_H_take.2.1 40 = .ok (.return_, 1) := by decide +kernel
theorem dd_H_take_41 : decode mm_H_take.2.1 41 = .ok (.iinc 2 1, 3) := by decide +kernel
theorem dd_H_take_44 : decode mm_H_take.2.1 44 = .ok (.goto (-42), 3) := by decide +kernel
theorem dd_H_take_47 : decode mm_H_take.2.1 47 = .ok (.return_, 1) := by decide +kernel
theorem fl_E_7 : xa_F "NotedVolume$Entry" 7 1 0 := ⟨_, _, _, "NotedVolume$Entry", rfl, by decide, ly_1, iw_370, Or.inl rfl⟩
theorem fz_E_7 : xa_Z 1 0 (.int) true "NotedVolume$Entry" := ⟨_, _, _, ty_1, rfl, tk_1, nk_1, rfl, rfl, by decide⟩
theorem fl_E_13 : xa_F "NotedVolume$Entry" 13 1 1 := ⟨_, _, _, "NotedVolume$Entry", rfl, by decide, ly_1, iw_376, Or.inl rfl⟩
theorem fz_E_13 : xa_Z 1 1 (.int) true "NotedVolume$Entry" := ⟨_, _, _, ty_1, rfl, tk_1, nk_1, rfl, rfl, by decide⟩
theorem fl_E_16 : xa_F "NotedVolume$Entry" 16 1 2 := ⟨_, _, _, "NotedVolume$Entry", rfl, by decide, ly_1, iw_378, Or.inl rfl⟩
theorem fz_E_16 : xa_Z 1 2 (.int) true "NotedVolume$Entry" := ⟨_, _, _, ty_1, rfl, tk_1, nk_1, rfl, rfl, by decide⟩
theorem fl_E_19 : xa_F "NotedVolume$Entry" 19 1 3 := ⟨_, _, _, "NotedVolume$Entry", rfl, by decide, ly_1, iw_381, Or.inl rfl⟩
theorem fz_E_19 : xa_Z 1 3 (.int) true "NotedVolume$Entry" := ⟨_, _, _, ty_1, rfl, tk_1, nk_1, rfl, rfl, by decide⟩
theorem fl_E_22 : xa_F "NotedVolume$Entry" 22 1 4 := ⟨_, _, _, "NotedVolume$Entry", rfl, by decide, ly_1, iw_384, Or.inl rfl⟩
theorem fz_E_22 : xa_Z 1 4 (.int) true "NotedVolume$Entry" := ⟨_, _, _, ty_1, rfl, tk_1, nk_1, rfl, rfl, by decide⟩
theorem fl_N_7 : xa_F "NotedVolume$Note" 7 3 0 := ⟨_, _, _, "NotedVolume$Note", rfl, by decide, ly_3, iw_406, Or.inl rfl⟩
theorem fz_N_7 : xa_Z 3 0 (.object "NotedVolume$Entry") true "NotedVolume$Note" := ⟨_, _, _, ty_3, rfl, tk_3, nk_3, rfl, rfl, by decide⟩
theorem fl_N_13 : xa_F "NotedVolume$Note" 13 3 1 := ⟨_, _, _, "NotedVolume$Note", rfl, by decide, ly_3, iw_409, Or.inl rfl⟩
theorem fz_N_13 : xa_Z 3 1 (.int) true "NotedVolume$Note" := ⟨_, _, _, ty_3, rfl, tk_3, nk_3, rfl, rfl, by decide⟩
theorem fl_N_17 : xa_F "NotedVolume$Note" 17 1 0 := ⟨_, _, _, "NotedVolume$Entry", rfl, by decide, ly_1, iw_373, Or.inl rfl⟩
theorem fl_R_11 : xa_F "NotedVolume$Ring" 11 4 0 := ⟨_, _, _, "NotedVolume$Ring", rfl, by decide, ly_4, iw_88, Or.inl rfl⟩
theorem fz_R_11 : xa_Z 4 0 (.array (.object "NotedVolume$Note")) true "NotedVolume$Ring" := ⟨_, _, _, ty_4, rfl, tk_4, nk_4, rfl, rfl, by decide⟩
theorem fl_R_17 : xa_F "NotedVolume$Ring" 17 4 1 := ⟨_, _, _, "NotedVolume$Ring", rfl, by decide, ly_4, iw_89, Or.inl rfl⟩
theorem fz_R_17 : xa_Z 4 1 (.int) false "NotedVolume$Ring" := ⟨_, _, _, ty_4, rfl, tk_4, nk_4, rfl, rfl, by decide⟩
theorem nw_R_9 : xa_N "NotedVolume$Ring" 9 3 [.null, .int 0] := ⟨_, _, _, ty_3, rfl, rfl, tk_3, by decide +kernel, ly_3, iw_86, iw_401, iw_20⟩
theorem fl_G_7 : xa_F "NotedVolume$Gathering" 7 5 0 := ⟨_, _, _, "NotedVolume$Gathering", rfl, by decide, ly_5, iw_276, Or.inl rfl⟩
theorem fz_G_7 : xa_Z 5 0 (.int) true "NotedVolume$Gathering" := ⟨_, _, _, ty_5, rfl, tk_5, nk_5, rfl, rfl, by decide⟩
theorem nw_F_7 : xa_N "NotedVolume$FileTable" 7 8 [.int 0, .null, .int 0] := ⟨_, _, _, ty_8, rfl, rfl, tk_8, by decide +kernel, ly_8, iw_47, iw_48, iw_5⟩
theorem fl_F_10 : xa_F "NotedVolume$FileTable" 10 2 0 := ⟨_, _, _, "NotedVolume$FileTable", rfl, by decide, ly_2, iw_73, Or.inl rfl⟩
theorem fz_F_10 : xa_Z 2 0 (.object "java/util/ArrayList") true "NotedVolume$FileTable" := ⟨_, _, _, ty_2, rfl, tk_2, nk_2, rfl, rfl, by decide⟩
theorem fl_F_16 : xa_F "NotedVolume$FileTable" 16 2 1 := ⟨_, _, _, "NotedVolume$FileTable", rfl, by decide, ly_2, iw_74, Or.inl rfl⟩
theorem fz_F_16 : xa_Z 2 1 (.int) true "NotedVolume$FileTable" := ⟨_, _, _, ty_2, rfl, tk_2, nk_2, rfl, rfl, by decide⟩
theorem fl_F_30 : xa_F "NotedVolume$FileTable" 30 1 0 := ⟨_, _, _, "NotedVolume$Entry", rfl, by decide, ly_1, iw_372, Or.inl rfl⟩
theorem fl_F_33 : xa_F "NotedVolume$FileTable" 33 1 2 := ⟨_, _, _, "NotedVolume$Entry", rfl, by decide, ly_1, iw_380, Or.inl rfl⟩
theorem fl_F_36 : xa_F "NotedVolume$FileTable" 36 1 3 := ⟨_, _, _, "NotedVolume$Entry", rfl, by decide, ly_1, iw_383, Or.inl rfl⟩
theorem nw_H_9 : xa_N "NotedVolume$Gatherings" 9 8 [.int 0, .null, .int 0] := ⟨_, _, _, ty_8, rfl, rfl, tk_8, by decide +kernel, ly_8, iw_101, iw_48, iw_5⟩
theorem fl_H_12 : xa_F "NotedVolume$Gatherings" 12 6 0 := ⟨_, _, _, "NotedVolume$Gatherings", rfl, by decide, ly_6, iw_103, Or.inl rfl⟩
theorem fz_H_12 : xa_Z 6 0 (.object "java/util/ArrayList") true "NotedVolume$Gatherings" := ⟨_, _, _, ty_6, rfl, tk_6, nk_6, rfl, rfl, by decide⟩
theorem nw_H_30 : xa_N "NotedVolume$Gatherings" 30 5 [.int 0, .int 0] := ⟨_, _, _, ty_5, rfl, rfl, tk_5, by decide +kernel, ly_5, iw_251, iw_271, iw_22⟩
theorem fl_H_51 : xa_F "NotedVolume$Gatherings" 51 5 1 := ⟨_, _, _, "NotedVolume$Gathering", rfl, by decide, ly_5, iw_279, Or.inl rfl⟩
theorem fz_H_51 : xa_Z 5 1 (.int) false "NotedVolume$Gatherings" := ⟨_, _, _, ty_5, rfl, tk_5, nk_5, rfl, rfl, by decide⟩
theorem fl_H_32 : xa_F "NotedVolume$Gatherings" 32 5 0 := ⟨_, _, _, "NotedVolume$Gathering", rfl, by decide, ly_5, iw_277, Or.inl rfl⟩
theorem fl_H_78 : xa_F "NotedVolume$Gatherings" 78 3 0 := ⟨_, _, _, "NotedVolume$Note", rfl, by decide, ly_3, iw_408, Or.inl rfl⟩
theorem fl_H_82 : xa_F "NotedVolume$Gatherings" 82 1 0 := ⟨_, _, _, "NotedVolume$Entry", rfl, by decide, ly_1, iw_375, Or.inl rfl⟩
theorem fl_H_90 : xa_F "NotedVolume$Gatherings" 90 3 1 := ⟨_, _, _, "NotedVolume$Note", rfl, by decide, ly_3, iw_410, Or.inl rfl⟩
theorem iv_N_item_48 {G : xa_G} {rest fs : List Value} {h : xa_H} {b : Nat} {a1 : Value} (hb : h b = some (.inr (1, fs))) : xa_inv G mm_N_item mm_E_item 48 (a1 :: .ref b :: rest) [.ref b, a1] rest h := xi_V (n := 1) (As := [a1]) dd_N_item_48 ok_E_item iw_940 iw_924 rfl iw_925 (by decide +kernel) rfl hb
theorem iv_R_append_17 {G : xa_G} {rest : List Value} {h : xa_H} {b : Nat} {a1 a2 : Value} : xa_inv G mm_R_append mm_N_init 17 (a2 :: a1 :: .ref b :: rest) [.ref b, a1, a2] rest h := xi_I (n := 2) (As := [a1, a2]) dd_R_append_17 ok_N_init rfl iw_404 iw_402 iw_403 (by decide +kernel) rfl
theorem iv_R_noteAt_2 {G : xa_G} {rest fs : List Value} {h : xa_H} {b : Nat} (hb : h b = some (.inr (4, fs))) : xa_inv G mm_R_noteAt mm_R_leastKept 2 (.ref b :: rest) [.ref b] rest h := xi_V (n := 0) (As := []) dd_R_noteAt_2 ok_R_leastKept iw_241 iw_212 rfl iw_213 (by decide +kernel) rfl hb
theorem iv_F_init_9 {G : xa_G} {rest : List Value} {h : xa_H} {b : Nat} : xa_inv G mm_F_init mm_A_init 9 (.ref b :: rest) [.ref b] rest h := xi_I (n := 0) (As := []) dd_F_init_9 ok_A_init rfl iw_51 iw_49 iw_50 (by decide +kernel) rfl
theorem iv_F_count_4 {G : xa_G} {rest fs : List Value} {h : xa_H} {b : Nat} (hb : h b = some (.inr (8, fs))) : xa_inv G mm_F_count mm_A_size 4 (.ref b :: rest) [.ref b] rest h := xi_V (n := 0) (As := []) dd_F_count_4 ok_A_size iw_183 iw_172 rfl iw_173 (by decide +kernel) rfl hb
theorem iv_F_drop_7 {G : xa_G} {rest fs : List Value} {h : xa_H} {b : Nat} (hb : h b = some (.inr (8, fs))) : xa_inv G mm_F_drop mm_A_size 7 (.ref b :: rest) [.ref b] rest h := xi_V (n := 0) (As := []) dd_F_drop_7 ok_A_size iw_183 iw_172 rfl iw_173 (by decide +kernel) rfl hb
theorem iv_F_drop_18 {G : xa_G} {rest fs : List Value} {h : xa_H} {b : Nat} {a1 : Value} (hb : h b = some (.inr (8, fs))) : xa_inv G mm_F_drop mm_A_get 18 (a1 :: .ref b :: rest) [.ref b, a1] rest h := xi_V (n := 1) (As := [a1]) dd_F_drop_18 ok_A_get iw_184 iw_185 rfl iw_186 (by decide +kernel) rfl hb
theorem iv_F_drop_36 {G : xa_G} {rest fs : List Value} {h : xa_H} {b : Nat} {a1 : Value} (hb : h b = some (.inr (8, fs))) : xa_inv G mm_F_drop mm_A_remove 36 (a1 :: .ref b :: rest) [.ref b, a1] rest h := xi_V (n := 1) (As := [a1]) dd_F_drop_36 ok_A_remove iw_899 iw_253 rfl iw_254 (by decide +kernel) rfl hb
theorem iv_F_dropRange_4 {G : xa_G} {rest fs : List Value} {h : xa_H} {b : Nat} (hb : h b = some (.inr (8, fs))) : xa_inv G mm_F_dropRange mm_A_size 4 (.ref b :: rest) [.ref b] rest h := xi_V (n := 0) (As := []) dd_F_dropRange_4 ok_A_size iw_183 iw_172 rfl iw_173 (by decide +kernel) rfl hb
theorem iv_F_dropRange_19 {G : xa_G} {rest fs : List Value} {h : xa_H} {b : Nat} {a1 : Value} (hb : h b = some (.inr (8, fs))) : xa_inv G mm_F_dropRange mm_A_get 19 (a1 :: .ref b :: rest) [.ref b, a1] rest h := xi_V (n := 1) (As := [a1]) dd_F_dropRange_19 ok_A_get iw_184 iw_185 rfl iw_186 (by decide +kernel) rfl hb
theorem iv_F_dropRange_47 {G : xa_G} {rest fs : List Value} {h : xa_H} {b : Nat} {a1 : Value} (hb : h b = some (.inr (8, fs))) : xa_inv G mm_F_dropRange mm_A_remove 47 (a1 :: .ref b :: rest) [.ref b, a1] rest h := xi_V (n := 1) (As := [a1]) dd_F_dropRange_47 ok_A_remove iw_899 iw_253 rfl iw_254 (by decide +kernel) rfl hb
theorem iv_F_entryAbove_7 {G : xa_G} {rest fs : List Value} {h : xa_H} {b : Nat} (hb : h b = some (.inr (8, fs))) : xa_inv G mm_F_entryAbove mm_A_size 7 (.ref b :: rest) [.ref b] rest h := xi_V (n := 0) (As := []) dd_F_entryAbove_7 ok_A_size iw_183 iw_172 rfl iw_173 (by decide +kernel) rfl hb
theorem iv_F_entryAbove_18 {G : xa_G} {rest fs : List Value} {h : xa_H} {b : Nat} {a1 : Value} (hb : h b = some (.inr (8, fs))) : xa_inv G mm_F_entryAbove mm_A_get 18 (a1 :: .ref b :: rest) [.ref b, a1] rest h := xi_V (n := 1) (As := [a1]) dd_F_entryAbove_18 ok_A_get iw_184 iw_185 rfl iw_186 (by decide +kernel) rfl hb
theorem iv_F_entryNamed_7 {G : xa_G} {rest fs : List Value} {h : xa_H} {b : Nat} (hb : h b = some (.inr (8, fs))) : xa_inv G mm_F_entryNamed mm_A_size 7 (.ref b :: rest) [.ref b] rest h := xi_V (n := 0) (As := []) dd_F_entryNamed_7 ok_A_size iw_183 iw_172 rfl iw_173 (by decide +kernel) rfl hb
theorem iv_F_entryNamed_18 {G : xa_G} {rest fs : List Value} {h : xa_H} {b : Nat} {a1 : Value} (hb : h b = some (.inr (8, fs))) : xa_inv G mm_F_entryNamed mm_A_get 18 (a1 :: .ref b :: rest) [.ref b, a1] rest h := xi_V (n := 1) (As := [a1]) dd_F_entryNamed_18 ok_A_get iw_184 iw_185 rfl iw_186 (by decide +kernel) rfl hb
theorem iv_F_entryOf_7 {G : xa_G} {rest fs : List Value} {h : xa_H} {b : Nat} (hb : h b = some (.inr (8, fs))) : xa_inv G mm_F_entryOf mm_A_size 7 (.ref b :: rest) [.ref b] rest h := xi_V (n := 0) (As := []) dd_F_entryOf_7 ok_A_size iw_183 iw_172 rfl iw_173 (by decide +kernel) rfl hb
theorem iv_F_entryOf_18 {G : xa_G} {rest fs : List Value} {h : xa_H} {b : Nat} {a1 : Value} (hb : h b = some (.inr (8, fs))) : xa_inv G mm_F_entryOf mm_A_get 18 (a1 :: .ref b :: rest) [.ref b, a1] rest h := xi_V (n := 1) (As := [a1]) dd_F_entryOf_18 ok_A_get iw_184 iw_185 rfl iw_186 (by decide +kernel) rfl hb
theorem iv_F_hasFilesIn_7 {G : xa_G} {rest fs : List Value} {h : xa_H} {b : Nat} (hb : h b = some (.inr (8, fs))) : xa_inv G mm_F_hasFilesIn mm_A_size 7 (.ref b :: rest) [.ref b] rest h := xi_V (n := 0) (As := []) dd_F_hasFilesIn_7 ok_A_size iw_183 iw_172 rfl iw_173 (by decide +kernel) rfl hb
theorem iv_F_hasFilesIn_18 {G : xa_G} {rest fs : List Value} {h : xa_H} {b : Nat} {a1 : Value} (hb : h b = some (.inr (8, fs))) : xa_inv G mm_F_hasFilesIn mm_A_get 18 (a1 :: .ref b :: rest) [.ref b, a1] rest h := xi_V (n := 1) (As := [a1]) dd_F_hasFilesIn_18 ok_A_get iw_184 iw_185 rfl iw_186 (by decide +kernel) rfl hb
theorem iv_F_isLike_4 {G : xa_G} {rest fs : List Value} {h : xa_H} {b : Nat} (hb : h b = some (.inr (8, fs))) : xa_inv G mm_F_isLike mm_A_size 4 (.ref b :: rest) [.ref b] rest h := xi_V (n := 0) (As := []) dd_F_isLike_4 ok_A_size iw_183 iw_172 rfl iw_173 (by decide +kernel) rfl hb
theorem iv_F_isLike_11 {G : xa_G} {rest fs : List Value} {h : xa_H} {b : Nat} (hb : h b = some (.inr (8, fs))) : xa_inv G mm_F_isLike mm_A_size 11 (.ref b :: rest) [.ref b] rest h := xi_V (n := 0) (As := []) dd_F_isLike_11 ok_A_size iw_183 iw_172 rfl iw_173 (by decide +kernel) rfl hb
theorem iv_F_isLike_26 {G : xa_G} {rest fs : List Value} {h : xa_H} {b : Nat} (hb : h b = some (.inr (8, fs))) : xa_inv G mm_F_isLike mm_A_size 26 (.ref b :: rest) [.ref b] rest h := xi_V (n := 0) (As := []) dd_F_isLike_26 ok_A_size iw_183 iw_172 rfl iw_173 (by decide +kernel) rfl hb
theorem iv_F_isLike_37 {G : xa_G} {rest fs : List Value} {h : xa_H} {b : Nat} {a1 : Value} (hb : h b = some (.inr (8, fs))) : xa_inv G mm_F_isLike mm_A_get 37 (a1 :: .ref b :: rest) [.ref b, a1] rest h := xi_V (n := 1) (As := [a1]) dd_F_isLike_37 ok_A_get iw_184 iw_185 rfl iw_186 (by decide +kernel) rfl hb
theorem iv_F_isLike_48 {G : xa_G} {rest fs : List Value} {h : xa_H} {b : Nat} {a1 : Value} (hb : h b = some (.inr (8, fs))) : xa_inv G mm_F_isLike mm_A_get 48 (a1 :: .ref b :: rest) [.ref b, a1] rest h := xi_V (n := 1) (As := [a1]) dd_F_isLike_48 ok_A_get iw_184 iw_185 rfl iw_186 (by decide +kernel) rfl hb
theorem iv_F_isLike_54 {G : xa_G} {rest fs : List Value} {h : xa_H} {b : Nat} {a1 : Value} (hb : h b = some (.inr (1, fs))) : xa_inv G mm_F_isLike mm_E_isLike 54 (a1 :: .ref b :: rest) [.ref b, a1] rest h := xi_V (n := 1) (As := [a1]) dd_F_isLike_54 ok_E_isLike iw_1068 iw_1069 rfl iw_1070 (by decide +kernel) rfl hb
theorem iv_F_put_7 {G : xa_G} {rest fs : List Value} {h : xa_H} {b : Nat} (hb : h b = some (.inr (8, fs))) : xa_inv G mm_F_put mm_A_size 7 (.ref b :: rest) [.ref b] rest h := xi_V (n := 0) (As := []) dd_F_put_7 ok_A_size iw_183 iw_172 rfl iw_173 (by decide +kernel) rfl hb
theorem iv_F_put_18 {G : xa_G} {rest fs : List Value} {h : xa_H} {b : Nat} {a1 : Value} (hb : h b = some (.inr (8, fs))) : xa_inv G mm_F_put mm_A_get 18 (a1 :: .ref b :: rest) [.ref b, a1] rest h := xi_V (n := 1) (As := [a1]) dd_F_put_18 ok_A_get iw_184 iw_185 rfl iw_186 (by decide +kernel) rfl hb
theorem iv_F_put_45 {G : xa_G} {rest fs : List Value} {h : xa_H} {b : Nat} (hb : h b = some (.inr (8, fs))) : xa_inv G mm_F_put mm_A_size 45 (.ref b :: rest) [.ref b] rest h := xi_V (n := 0) (As := []) dd_F_put_45 ok_A_size iw_183 iw_172 rfl iw_173 (by decide +kernel) rfl hb
theorem iv_F_put_56 {G : xa_G} {rest fs : List Value} {h : xa_H} {b : Nat} {a1 : Value} (hb : h b = some (.inr (8, fs))) : xa_inv G mm_F_put mm_A_get 56 (a1 :: .ref b :: rest) [.ref b, a1] rest h := xi_V (n := 1) (As := [a1]) dd_F_put_56 ok_A_get iw_184 iw_185 rfl iw_186 (by decide +kernel) rfl hb
theorem iv_F_put_78 {G : xa_G} {rest fs : List Value} {h : xa_H} {b : Nat} {a1 a2 : Value} (hb : h b = some (.inr (8, fs))) : xa_inv G mm_F_put mm_A_set 78 (a2 :: a1 :: .ref b :: rest) [.ref b, a1, a2] rest h := xi_V (n := 2) (As := [a1, a2]) dd_F_put_78 ok_A_set iw_601 iw_602 rfl iw_603 (by decide +kernel) rfl hb
theorem iv_F_put_89 {G : xa_G} {rest fs : List Value} {h : xa_H} {b : Nat} (hb : h b = some (.inr (8, fs))) : xa_inv G mm_F_put mm_A_size 89 (.ref b :: rest) [.ref b] rest h := xi_V (n := 0) (As := []) dd_F_put_89 ok_A_size iw_183 iw_172 rfl iw_173 (by decide +kernel) rfl hb
theorem iv_F_put_105 {G : xa_G} {rest fs : List Value} {h : xa_H} {b : Nat} {a1 a2 : Value} (hb : h b = some (.inr (8, fs))) : xa_inv G mm_F_put mm_A_add0 105 (a2 :: a1 :: .ref b :: rest) [.ref b, a1, a2] rest h := xi_V (n := 2) (As := [a1, a2]) dd_F_put_105 ok_A_add0 iw_605 iw_606 rfl iw_607 (by decide +kernel) rfl hb
theorem iv_H_init_9 {G : xa_G} {rest : List Value} {h : xa_H} {b : Nat} : xa_inv G mm_H_init mm_A_init 9 (.ref b :: rest) [.ref b] rest h := xi_I (n := 0) (As := []) dd_H_init_9 ok_A_init rfl iw_51 iw_102 iw_50 (by decide +kernel) rfl
theorem iv_H_count_4 {G : xa_G} {rest fs : List Value} {h : xa_H} {b : Nat} (hb : h b = some (.inr (8, fs))) : xa_inv G mm_H_count mm_A_size 4 (.ref b :: rest) [.ref b] rest h := xi_V (n := 0) (As := []) dd_H_count_4 ok_A_size iw_171 iw_172 rfl iw_173 (by decide +kernel) rfl hb
theorem iv_H_first_4 {G : xa_G} {rest fs : List Value} {h : xa_H} {b : Nat} (hb : h b = some (.inr (8, fs))) : xa_inv G mm_H_first mm_A_isEmpty 4 (.ref b :: rest) [.ref b] rest h := xi_V (n := 0) (As := []) dd_H_first_4 ok_A_isEmpty iw_352 iw_353 rfl iw_354 (by decide +kernel) rfl hb
theorem iv_H_first_19 {G : xa_G} {rest fs : List Value} {h : xa_H} {b : Nat} {a1 : Value} (hb : h b = some (.inr (8, fs))) : xa_inv G mm_H_first mm_A_get 19 (a1 :: .ref b :: rest) [.ref b, a1] rest h := xi_V (n := 1) (As := [a1]) dd_H_first_19 ok_A_get iw_250 iw_185 rfl iw_186 (by decide +kernel) rfl hb
theorem iv_H_forget_4 {G : xa_G} {rest fs : List Value} {h : xa_H} {b : Nat} (hb : h b = some (.inr (8, fs))) : xa_inv G mm_H_forget mm_A_clear 4 (.ref b :: rest) [.ref b] rest h := xi_V (n := 0) (As := []) dd_H_forget_4 ok_A_clear iw_231 iw_232 rfl iw_233 (by decide +kernel) rfl hb
theorem iv_H_gather_2 {G : xa_G} {rest fs : List Value} {h : xa_H} {b : Nat} {a1 : Value} (hb : h b = some (.inr (6, fs))) : xa_inv G mm_H_gather mm_H_gatheringOf 2 (a1 :: .ref b :: rest) [.ref b, a1] rest h := xi_V (n := 1) (As := [a1]) dd_H_gather_2 ok_H_gatheringOf iw_267 iw_268 rfl iw_269 (by decide +kernel) rfl hb
theorem iv_H_gather_15 {G : xa_G} {rest : List Value} {h : xa_H} {b : Nat} {a1 : Value} : xa_inv G mm_H_gather mm_G_init 15 (a1 :: .ref b :: rest) [.ref b, a1] rest h := xi_I (n := 1) (As := [a1]) dd_H_gather_15 ok_G_init rfl iw_274 iw_272 iw_273 (by decide +kernel) rfl
theorem iv_H_gather_24 {G : xa_G} {rest fs : List Value} {h : xa_H} {b : Nat} {a1 : Value} (hb : h b = some (.inr (8, fs))) : xa_inv G mm_H_gather mm_A_add1 24 (a1 :: .ref b :: rest) [.ref b, a1] rest h := xi_V (n := 1) (As := [a1]) dd_H_gather_24 ok_A_add1 iw_286 iw_287 rfl iw_288 (by decide +kernel) rfl hb
theorem iv_H_gatheringOf_7 {G : xa_G} {rest fs : List Value} {h : xa_H} {b : Nat} (hb : h b = some (.inr (8, fs))) : xa_inv G mm_H_gatheringOf mm_A_size 7 (.ref b :: rest) [.ref b] rest h := xi_V (n := 0) (As := []) dd_H_gatheringOf_7 ok_A_size iw_171 iw_172 rfl iw_173 (by decide +kernel) rfl hb
theorem iv_H_gatheringOf_18 {G : xa_G} {rest fs : List Value} {h : xa_H} {b : Nat} {a1 : Value} (hb : h b = some (.inr (8, fs))) : xa_inv G mm_H_gatheringOf mm_A_get 18 (a1 :: .ref b :: rest) [.ref b, a1] rest h := xi_V (n := 1) (As := [a1]) dd_H_gatheringOf_18 ok_A_get iw_250 iw_185 rfl iw_186 (by decide +kernel) rfl hb
theorem iv_H_inTheWayOf_4 {G : xa_G} {rest fs : List Value} {h : xa_H} {b : Nat} (hb : h b = some (.inr (8, fs))) : xa_inv G mm_H_inTheWayOf mm_A_size 4 (.ref b :: rest) [.ref b] rest h := xi_V (n := 0) (As := []) dd_H_inTheWayOf_4 ok_A_size iw_171 iw_172 rfl iw_173 (by decide +kernel) rfl hb
theorem iv_H_inTheWayOf_13 {G : xa_G} {rest fs : List Value} {h : xa_H} {b : Nat} {a1 : Value} (hb : h b = some (.inr (6, fs))) : xa_inv G mm_H_inTheWayOf mm_H_gatheringOf 13 (a1 :: .ref b :: rest) [.ref b, a1] rest h := xi_V (n := 1) (As := [a1]) dd_H_inTheWayOf_13 ok_H_gatheringOf iw_267 iw_268 rfl iw_269 (by decide +kernel) rfl hb
theorem iv_H_inTheWayOf_24 {G : xa_G} {rest fs : List Value} {h : xa_H} {b : Nat} (hb : h b = some (.inr (6, fs))) : xa_inv G mm_H_inTheWayOf mm_H_first 24 (.ref b :: rest) [.ref b] rest h := xi_V (n := 0) (As := []) dd_H_inTheWayOf_24 ok_H_first iw_583 iw_349 rfl iw_350 (by decide +kernel) rfl hb
theorem iv_H_recall_4 {G : xa_G} {rest fs : List Value} {h : xa_H} {b : Nat} (hb : h b = some (.inr (8, fs))) : xa_inv G mm_H_recall mm_A_clear 4 (.ref b :: rest) [.ref b] rest h := xi_V (n := 0) (As := []) dd_H_recall_4 ok_A_clear iw_231 iw_232 rfl iw_233 (by decide +kernel) rfl hb
theorem iv_H_recall_8 {G : xa_G} {rest fs : List Value} {h : xa_H} {b : Nat} (hb : h b = some (.inr (4, fs))) : xa_inv G mm_H_recall mm_R_leastKept 8 (.ref b :: rest) [.ref b] rest h := xi_V (n := 0) (As := []) dd_H_recall_8 ok_R_leastKept iw_235 iw_212 rfl iw_213 (by decide +kernel) rfl hb
theorem iv_H_recall_14 {G : xa_G} {rest fs : List Value} {h : xa_H} {b : Nat} (hb : h b = some (.inr (4, fs))) : xa_inv G mm_H_recall mm_R_nextSerial 14 (.ref b :: rest) [.ref b] rest h := xi_V (n := 0) (As := []) dd_H_recall_14 ok_R_nextSerial iw_236 iw_220 rfl iw_221 (by decide +kernel) rfl hb
theorem iv_H_recall_22 {G : xa_G} {rest fs : List Value} {h : xa_H} {b : Nat} {a1 : Value} (hb : h b = some (.inr (4, fs))) : xa_inv G mm_H_recall mm_R_noteAt 22 (a1 :: .ref b :: rest) [.ref b, a1] rest h := xi_V (n := 1) (As := [a1]) dd_H_recall_22 ok_R_noteAt iw_237 iw_238 rfl iw_239 (by decide +kernel) rfl hb
theorem iv_H_recall_36 {G : xa_G} {rest fs : List Value} {h : xa_H} {b : Nat} {a1 : Value} (hb : h b = some (.inr (3, fs))) : xa_inv G mm_H_recall mm_N_hasAny 36 (a1 :: .ref b :: rest) [.ref b, a1] rest h := xi_V (n := 1) (As := [a1]) dd_H_recall_36 ok_N_hasAny iw_242 iw_243 rfl iw_244 (by decide +kernel) rfl hb
theorem iv_H_recall_50 {G : xa_G} {rest fs : List Value} {h : xa_H} {b : Nat} {a1 : Value} (hb : h b = some (.inr (6, fs))) : xa_inv G mm_H_recall mm_H_take 50 (a1 :: .ref b :: rest) [.ref b, a1] rest h := xi_V (n := 1) (As := [a1]) dd_H_recall_50 ok_H_take iw_246 iw_247 rfl iw_248 (by decide +kernel) rfl hb
theorem iv_H_recall_68 {G : xa_G} {rest fs : List Value} {h : xa_H} {b : Nat} {a1 a2 : Value} (hb : h b = some (.inr (6, fs))) : xa_inv G mm_H_recall mm_H_gather 68 (a2 :: a1 :: .ref b :: rest) [.ref b, a1, a2] rest h := xi_V (n := 2) (As := [a1, a2]) dd_H_recall_68 ok_H_gather iw_263 iw_264 rfl iw_265 (by decide +kernel) rfl hb
theorem iv_H_take_7 {G : xa_G} {rest fs : List Value} {h : xa_H} {b : Nat} (hb : h b = some (.inr (8, fs))) : xa_inv G mm_H_take mm_A_size 7 (.ref b :: rest) [.ref b] rest h := xi_V (n := 0) (As := []) dd_H_take_7 ok_A_size iw_171 iw_172 rfl iw_173 (by decide +kernel) rfl hb
theorem iv_H_take_18 {G : xa_G} {rest fs : List Value} {h : xa_H} {b : Nat} {a1 : Value} (hb : h b = some (.inr (8, fs))) : xa_inv G mm_H_take mm_A_get 18 (a1 :: .ref b :: rest) [.ref b, a1] rest h := xi_V (n := 1) (As := [a1]) dd_H_take_18 ok_A_get iw_250 iw_185 rfl iw_186 (by decide +kernel) rfl hb
theorem iv_H_take_36 {G : xa_G} {rest fs : List Value} {h : xa_H} {b : Nat} {a1 : Value} (hb : h b = some (.inr (8, fs))) : xa_inv G mm_H_take mm_A_remove 36 (a1 :: .ref b :: rest) [.ref b, a1] rest h := xi_V (n := 1) (As := [a1]) dd_H_take_36 ok_A_remove iw_252 iw_253 rfl iw_254 (by decide +kernel) rfl hb
theorem ol_E_1 : Cond.methodLink "NotedVolume$Entry" 1 ⟨"java/lang/Object", "<init>", "()V"⟩ ∈ xv_T := iw_369
theorem ol_N_1 : Cond.methodLink "NotedVolume$Note" 1 ⟨"java/lang/Object", "<init>", "()V"⟩ ∈ xv_T := iw_405
theorem ol_R_3 : Cond.methodLink "NotedVolume$Ring" 3 ⟨"java/lang/Object", "<init>", "()V"⟩ ∈ xv_T := iw_85
theorem an_R_9 : Cond.classLink "NotedVolume$Ring" 9 "NotedVolume$Note" ∈ xv_T := iw_86
theorem ol_G_1 : Cond.methodLink "NotedVolume$Gathering" 1 ⟨"java/lang/Object", "<init>", "()V"⟩ ∈ xv_T := iw_275
theorem ol_F_1 : Cond.methodLink "NotedVolume$FileTable" 1 ⟨"java/lang/Object", "<init>", "()V"⟩ ∈ xv_T := iw_46
theorem cc_F_28 : Cond.classLink "NotedVolume$FileTable" 28 "NotedVolume$Entry" ∈ xv_T := iw_198
theorem ol_H_3 : Cond.methodLink "NotedVolume$Gatherings" 3 ⟨"java/lang/Object", "<init>", "()V"⟩ ∈ xv_T := iw_100
theorem cc_H_30 : Cond.classLink "NotedVolume$Gatherings" 30 "NotedVolume$Gathering" ∈ xv_T := iw_251
