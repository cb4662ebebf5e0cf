/-! names, by program (wip/whole/mknames.py 34.mnames.lean.txt M) -/
theorem iw_9 : Cond.initialized "NotedVolumeModel" ∈ xv_T := xv_in (List.mem_append_right _ (List.mem_of_getElem? (i := 9) (by decide +kernel))) (by decide +kernel)
theorem iw_1084 : Cond.code ⟨"NotedVolumeModel", "<init>", "()V"⟩ prog_10_method_1_code 3 none ∈ xv_T := xv_in (List.mem_append_right _ (List.mem_of_getElem? (i := 1084) (by decide +kernel))) (by decide +kernel)
theorem iw_1085 : Cond.methodLink "NotedVolumeModel" 1 ⟨"java/lang/Object", "<init>", "()V"⟩ ∈ xv_T := xv_in (List.mem_append_right _ (List.mem_of_getElem? (i := 1085) (by decide +kernel))) (by decide +kernel)
theorem iw_1086 : Cond.fieldLink "NotedVolumeModel" 81 "NotedVolumeModel" "thrown" "I" ∈ xv_T := xv_in (List.mem_append_right _ (List.mem_of_getElem? (i := 1086) (by decide +kernel))) (by decide +kernel)
theorem iw_1087 : Cond.fieldLink "NotedVolumeModel" 84 "NotedVolumeModel" "count" "I" ∈ xv_T := xv_in (List.mem_append_right _ (List.mem_of_getElem? (i := 1087) (by decide +kernel))) (by decide +kernel)
theorem iw_1088 : Cond.fieldLink "NotedVolumeModel" 7 "NotedVolumeModel" "files" "[I" ∈ xv_T := xv_in (List.mem_append_right _ (List.mem_of_getElem? (i := 1088) (by decide +kernel))) (by decide +kernel)
theorem iw_1089 : Cond.fieldLink "NotedVolumeModel" 13 "NotedVolumeModel" "sorts" "[I" ∈ xv_T := xv_in (List.mem_append_right _ (List.mem_of_getElem? (i := 1089) (by decide +kernel))) (by decide +kernel)
theorem iw_1090 : Cond.fieldLink "NotedVolumeModel" 16 "NotedVolumeModel" "parents" "[I" ∈ xv_T := xv_in (List.mem_append_right _ (List.mem_of_getElem? (i := 1090) (by decide +kernel))) (by decide +kernel)
theorem iw_1091 : Cond.fieldLink "NotedVolumeModel" 19 "NotedVolumeModel" "names" "[I" ∈ xv_T := xv_in (List.mem_append_right _ (List.mem_of_getElem? (i := 1091) (by decide +kernel))) (by decide +kernel)
theorem iw_1092 : Cond.fieldLink "NotedVolumeModel" 22 "NotedVolumeModel" "marks" "[I" ∈ xv_T := xv_in (List.mem_append_right _ (List.mem_of_getElem? (i := 1092) (by decide +kernel))) (by decide +kernel)
theorem iw_1093 : Cond.fieldLink "NotedVolumeModel" 132 "NotedVolumeModel" "latest" "I" ∈ xv_T := xv_in (List.mem_append_right _ (List.mem_of_getElem? (i := 1093) (by decide +kernel))) (by decide +kernel)
theorem iw_1094 : Cond.fieldLink "NotedVolumeModel" 25 "NotedVolumeModel" "head" "I" ∈ xv_T := xv_in (List.mem_append_right _ (List.mem_of_getElem? (i := 1094) (by decide +kernel))) (by decide +kernel)
theorem iw_1095 : Cond.fieldLink "NotedVolumeModel" 29 "NotedVolumeModel" "notes" "[I" ∈ xv_T := xv_in (List.mem_append_right _ (List.mem_of_getElem? (i := 1095) (by decide +kernel))) (by decide +kernel)
theorem iw_1096 : Cond.fieldLink "NotedVolumeModel" 95 "NotedVolumeModel" "gatherings" "I" ∈ xv_T := xv_in (List.mem_append_right _ (List.mem_of_getElem? (i := 1096) (by decide +kernel))) (by decide +kernel)
theorem iw_1097 : Cond.fieldLink "NotedVolumeModel" 32 "NotedVolumeModel" "gathered" "[I" ∈ xv_T := xv_in (List.mem_append_right _ (List.mem_of_getElem? (i := 1097) (by decide +kernel))) (by decide +kernel)
theorem iw_1098 : Cond.fieldLink "NotedVolumeModel" 35 "NotedVolumeModel" "reasons" "[I" ∈ xv_T := xv_in (List.mem_append_right _ (List.mem_of_getElem? (i := 1098) (by decide +kernel))) (by decide +kernel)
theorem iw_1099 : Cond.fieldLink "NotedVolumeModel" 91 "NotedVolumeModel" "off" "Z" ∈ xv_T := xv_in (List.mem_append_right _ (List.mem_of_getElem? (i := 1099) (by decide +kernel))) (by decide +kernel)
theorem iw_1100 : Cond.fieldLink "NotedVolumeModel" 38 "NotedVolumeModel" "left" "I" ∈ xv_T := xv_in (List.mem_append_right _ (List.mem_of_getElem? (i := 1100) (by decide +kernel))) (by decide +kernel)
theorem iw_1101 : Cond.fieldLink "NotedVolumeModel" 41 "NotedVolumeModel" "cursors" "[I" ∈ xv_T := xv_in (List.mem_append_right _ (List.mem_of_getElem? (i := 1101) (by decide +kernel))) (by decide +kernel)
theorem iw_1102 : Cond.fieldLink "NotedVolumeModel" 44 "NotedVolumeModel" "masks" "[I" ∈ xv_T := xv_in (List.mem_append_right _ (List.mem_of_getElem? (i := 1102) (by decide +kernel))) (by decide +kernel)
theorem iw_1103 : Cond.fieldLink "NotedVolumeModel" 47 "NotedVolumeModel" "lists" "[Z" ∈ xv_T := xv_in (List.mem_append_right _ (List.mem_of_getElem? (i := 1103) (by decide +kernel))) (by decide +kernel)
theorem iw_1104 : Cond.fieldLink "NotedVolumeModel" 51 "NotedVolumeModel" "lasts" "[I" ∈ xv_T := xv_in (List.mem_append_right _ (List.mem_of_getElem? (i := 1104) (by decide +kernel))) (by decide +kernel)
theorem iw_1105 : Cond.fieldLink "NotedVolumeModel" 54 "NotedVolumeModel" "pages" "[I" ∈ xv_T := xv_in (List.mem_append_right _ (List.mem_of_getElem? (i := 1105) (by decide +kernel))) (by decide +kernel)
theorem iw_1106 : Cond.fieldLink "NotedVolumeModel" 57 "NotedVolumeModel" "copies" "[I" ∈ xv_T := xv_in (List.mem_append_right _ (List.mem_of_getElem? (i := 1106) (by decide +kernel))) (by decide +kernel)
theorem iw_1107 : Cond.fieldLink "NotedVolumeModel" 60 "NotedVolumeModel" "copyFiles" "[I" ∈ xv_T := xv_in (List.mem_append_right _ (List.mem_of_getElem? (i := 1107) (by decide +kernel))) (by decide +kernel)
theorem iw_1108 : Cond.fieldLink "NotedVolumeModel" 63 "NotedVolumeModel" "copySorts" "[I" ∈ xv_T := xv_in (List.mem_append_right _ (List.mem_of_getElem? (i := 1108) (by decide +kernel))) (by decide +kernel)
theorem iw_1109 : Cond.fieldLink "NotedVolumeModel" 66 "NotedVolumeModel" "copyParents" "[I" ∈ xv_T := xv_in (List.mem_append_right _ (List.mem_of_getElem? (i := 1109) (by decide +kernel))) (by decide +kernel)
theorem iw_1110 : Cond.fieldLink "NotedVolumeModel" 69 "NotedVolumeModel" "copyNames" "[I" ∈ xv_T := xv_in (List.mem_append_right _ (List.mem_of_getElem? (i := 1110) (by decide +kernel))) (by decide +kernel)
theorem iw_1111 : Cond.fieldLink "NotedVolumeModel" 72 "NotedVolumeModel" "copyMarks" "[I" ∈ xv_T := xv_in (List.mem_append_right _ (List.mem_of_getElem? (i := 1111) (by decide +kernel))) (by decide +kernel)
theorem iw_1112 : Cond.fieldLink "NotedVolumeModel" 75 "NotedVolumeModel" "toClose" "[I" ∈ xv_T := xv_in (List.mem_append_right _ (List.mem_of_getElem? (i := 1112) (by decide +kernel))) (by decide +kernel)
theorem iw_1113 : Cond.fieldLink "NotedVolumeModel" 78 "NotedVolumeModel" "closing" "[I" ∈ xv_T := xv_in (List.mem_append_right _ (List.mem_of_getElem? (i := 1113) (by decide +kernel))) (by decide +kernel)
theorem iw_1171 : Cond.arrayClass .boolean ∈ xv_T := xv_in (List.mem_append_right _ (List.mem_of_getElem? (i := 1171) (by decide +kernel))) (by decide +kernel)
theorem iw_1175 : Cond.code ⟨"NotedVolumeModel", "thrown", "()I"⟩ prog_10_method_2_code 1 (some .int) ∈ xv_T := xv_in (List.mem_append_right _ (List.mem_of_getElem? (i := 1175) (by decide +kernel))) (by decide +kernel)
theorem iw_1179 : Cond.code ⟨"NotedVolumeModel", "make", "(IZI)I"⟩ prog_10_method_17_code 7 (some .int) ∈ xv_T := xv_in (List.mem_append_right _ (List.mem_of_getElem? (i := 1179) (by decide +kernel))) (by decide +kernel)
theorem iw_1180 : Cond.methodLink "NotedVolumeModel" 87 ⟨"NotedVolumeModel", "placeOf", "(I)I"⟩ ∈ xv_T := xv_in (List.mem_append_right _ (List.mem_of_getElem? (i := 1180) (by decide +kernel))) (by decide +kernel)
theorem iw_1182 : Cond.instanceMethod ⟨"NotedVolumeModel", "placeOf", "(I)I"⟩ ∈ xv_T := xv_in (List.mem_append_right _ (List.mem_of_getElem? (i := 1182) (by decide +kernel))) (by decide +kernel)
theorem iw_1183 : Cond.code ⟨"NotedVolumeModel", "placeOf", "(I)I"⟩ prog_10_method_4_code 3 (some .int) ∈ xv_T := xv_in (List.mem_append_right _ (List.mem_of_getElem? (i := 1183) (by decide +kernel))) (by decide +kernel)
theorem iw_1184 : Cond.methodLink "NotedVolumeModel" 121 ⟨"NotedVolumeModel", "isFolder", "(I)Z"⟩ ∈ xv_T := xv_in (List.mem_append_right _ (List.mem_of_getElem? (i := 1184) (by decide +kernel))) (by decide +kernel)
theorem iw_1186 : Cond.instanceMethod ⟨"NotedVolumeModel", "isFolder", "(I)Z"⟩ ∈ xv_T := xv_in (List.mem_append_right _ (List.mem_of_getElem? (i := 1186) (by decide +kernel))) (by decide +kernel)
theorem iw_1187 : Cond.code ⟨"NotedVolumeModel", "isFolder", "(I)Z"⟩ prog_10_method_5_code 2 (some .boolean) ∈ xv_T := xv_in (List.mem_append_right _ (List.mem_of_getElem? (i := 1187) (by decide +kernel))) (by decide +kernel)
theorem iw_1188 : Cond.methodLink "NotedVolumeModel" 124 ⟨"NotedVolumeModel", "named", "(II)I"⟩ ∈ xv_T := xv_in (List.mem_append_right _ (List.mem_of_getElem? (i := 1188) (by decide +kernel))) (by decide +kernel)
theorem iw_1190 : Cond.instanceMethod ⟨"NotedVolumeModel", "named", "(II)I"⟩ ∈ xv_T := xv_in (List.mem_append_right _ (List.mem_of_getElem? (i := 1190) (by decide +kernel))) (by decide +kernel)
theorem iw_1191 : Cond.code ⟨"NotedVolumeModel", "named", "(II)I"⟩ prog_10_method_6_code 4 (some .int) ∈ xv_T := xv_in (List.mem_append_right _ (List.mem_of_getElem? (i := 1191) (by decide +kernel))) (by decide +kernel)
theorem iw_1192 : Cond.methodLink "NotedVolumeModel" 128 ⟨"NotedVolumeModel", "refused", "(ZZZZ)Z"⟩ ∈ xv_T := xv_in (List.mem_append_right _ (List.mem_of_getElem? (i := 1192) (by decide +kernel))) (by decide +kernel)
theorem iw_1194 : Cond.instanceMethod ⟨"NotedVolumeModel", "refused", "(ZZZZ)Z"⟩ ∈ xv_T := xv_in (List.mem_append_right _ (List.mem_of_getElem? (i := 1194) (by decide +kernel))) (by decide +kernel)
theorem iw_1195 : Cond.code ⟨"NotedVolumeModel", "refused", "(ZZZZ)Z"⟩ prog_10_method_3_code 5 (some .boolean) ∈ xv_T := xv_in (List.mem_append_right _ (List.mem_of_getElem? (i := 1195) (by decide +kernel))) (by decide +kernel)
theorem iw_1196 : Cond.methodLink "NotedVolumeModel" 135 ⟨"NotedVolumeModel", "opens", "(I)Z"⟩ ∈ xv_T := xv_in (List.mem_append_right _ (List.mem_of_getElem? (i := 1196) (by decide +kernel))) (by decide +kernel)
theorem iw_1198 : Cond.instanceMethod ⟨"NotedVolumeModel", "opens", "(I)Z"⟩ ∈ xv_T := xv_in (List.mem_append_right _ (List.mem_of_getElem? (i := 1198) (by decide +kernel))) (by decide +kernel)
theorem iw_1199 : Cond.code ⟨"NotedVolumeModel", "opens", "(I)Z"⟩ prog_10_method_15_code 2 (some .boolean) ∈ xv_T := xv_in (List.mem_append_right _ (List.mem_of_getElem? (i := 1199) (by decide +kernel))) (by decide +kernel)
theorem iw_1200 : Cond.methodLink "NotedVolumeModel" 114 ⟨"NotedVolumeModel", "gatheringOf", "(I)I"⟩ ∈ xv_T := xv_in (List.mem_append_right _ (List.mem_of_getElem? (i := 1200) (by decide +kernel))) (by decide +kernel)
theorem iw_1202 : Cond.instanceMethod ⟨"NotedVolumeModel", "gatheringOf", "(I)I"⟩ ∈ xv_T := xv_in (List.mem_append_right _ (List.mem_of_getElem? (i := 1202) (by decide +kernel))) (by decide +kernel)
theorem iw_1203 : Cond.code ⟨"NotedVolumeModel", "gatheringOf", "(I)I"⟩ prog_10_method_12_code 3 (some .int) ∈ xv_T := xv_in (List.mem_append_right _ (List.mem_of_getElem? (i := 1203) (by decide +kernel))) (by decide +kernel)
theorem iw_1204 : Cond.methodLink "NotedVolumeModel" 117 ⟨"NotedVolumeModel", "closeGathering", "(I)Z"⟩ ∈ xv_T := xv_in (List.mem_append_right _ (List.mem_of_getElem? (i := 1204) (by decide +kernel))) (by decide +kernel)
theorem iw_1206 : Cond.instanceMethod ⟨"NotedVolumeModel", "closeGathering", "(I)Z"⟩ ∈ xv_T := xv_in (List.mem_append_right _ (List.mem_of_getElem? (i := 1206) (by decide +kernel))) (by decide +kernel)
theorem iw_1207 : Cond.code ⟨"NotedVolumeModel", "closeGathering", "(I)Z"⟩ prog_10_method_14_code 2 (some .boolean) ∈ xv_T := xv_in (List.mem_append_right _ (List.mem_of_getElem? (i := 1207) (by decide +kernel))) (by decide +kernel)
theorem iw_1208 : Cond.methodLink "NotedVolumeModel" 102 ⟨"NotedVolumeModel", "writes", "()Z"⟩ ∈ xv_T := xv_in (List.mem_append_right _ (List.mem_of_getElem? (i := 1208) (by decide +kernel))) (by decide +kernel)
theorem iw_1210 : Cond.instanceMethod ⟨"NotedVolumeModel", "writes", "()Z"⟩ ∈ xv_T := xv_in (List.mem_append_right _ (List.mem_of_getElem? (i := 1210) (by decide +kernel))) (by decide +kernel)
theorem iw_1211 : Cond.code ⟨"NotedVolumeModel", "writes", "()Z"⟩ prog_10_method_9_code 1 (some .boolean) ∈ xv_T := xv_in (List.mem_append_right _ (List.mem_of_getElem? (i := 1211) (by decide +kernel))) (by decide +kernel)
theorem iw_1212 : Cond.methodLink "NotedVolumeModel" 106 ⟨"NotedVolumeModel", "noteClosing", "(II)V"⟩ ∈ xv_T := xv_in (List.mem_append_right _ (List.mem_of_getElem? (i := 1212) (by decide +kernel))) (by decide +kernel)
theorem iw_1214 : Cond.instanceMethod ⟨"NotedVolumeModel", "noteClosing", "(II)V"⟩ ∈ xv_T := xv_in (List.mem_append_right _ (List.mem_of_getElem? (i := 1214) (by decide +kernel))) (by decide +kernel)
theorem iw_1215 : Cond.code ⟨"NotedVolumeModel", "noteClosing", "(II)V"⟩ prog_10_method_11_code 4 none ∈ xv_T := xv_in (List.mem_append_right _ (List.mem_of_getElem? (i := 1215) (by decide +kernel))) (by decide +kernel)
theorem iw_1216 : Cond.methodLink "NotedVolumeModel" 98 ⟨"NotedVolumeModel", "writeNote", "(IIIIII)V"⟩ ∈ xv_T := xv_in (List.mem_append_right _ (List.mem_of_getElem? (i := 1216) (by decide +kernel))) (by decide +kernel)
theorem iw_1218 : Cond.instanceMethod ⟨"NotedVolumeModel", "writeNote", "(IIIIII)V"⟩ ∈ xv_T := xv_in (List.mem_append_right _ (List.mem_of_getElem? (i := 1218) (by decide +kernel))) (by decide +kernel)
theorem iw_1219 : Cond.code ⟨"NotedVolumeModel", "writeNote", "(IIIIII)V"⟩ prog_10_method_10_code 8 none ∈ xv_T := xv_in (List.mem_append_right _ (List.mem_of_getElem? (i := 1219) (by decide +kernel))) (by decide +kernel)
theorem iw_1220 : Cond.methodLink "NotedVolumeModel" 110 ⟨"NotedVolumeModel", "dropGathering", "(I)V"⟩ ∈ xv_T := xv_in (List.mem_append_right _ (List.mem_of_getElem? (i := 1220) (by decide +kernel))) (by decide +kernel)
theorem iw_1222 : Cond.instanceMethod ⟨"NotedVolumeModel", "dropGathering", "(I)V"⟩ ∈ xv_T := xv_in (List.mem_append_right _ (List.mem_of_getElem? (i := 1222) (by decide +kernel))) (by decide +kernel)
theorem iw_1223 : Cond.code ⟨"NotedVolumeModel", "dropGathering", "(I)V"⟩ prog_10_method_13_code 3 none ∈ xv_T := xv_in (List.mem_append_right _ (List.mem_of_getElem? (i := 1223) (by decide +kernel))) (by decide +kernel)
theorem iw_1224 : Cond.methodLink "NotedVolumeModel" 138 ⟨"NotedVolumeModel", "noteChange", "(IIIIII)Z"⟩ ∈ xv_T := xv_in (List.mem_append_right _ (List.mem_of_getElem? (i := 1224) (by decide +kernel))) (by decide +kernel)
theorem iw_1226 : Cond.instanceMethod ⟨"NotedVolumeModel", "noteChange", "(IIIIII)Z"⟩ ∈ xv_T := xv_in (List.mem_append_right _ (List.mem_of_getElem? (i := 1226) (by decide +kernel))) (by decide +kernel)
theorem iw_1227 : Cond.code ⟨"NotedVolumeModel", "noteChange", "(IIIIII)Z"⟩ prog_10_method_16_code 8 (some .boolean) ∈ xv_T := xv_in (List.mem_append_right _ (List.mem_of_getElem? (i := 1227) (by decide +kernel))) (by decide +kernel)
theorem iw_1231 : Cond.code ⟨"NotedVolumeModel", "change", "(I)I"⟩ prog_10_method_18_code 4 (some .int) ∈ xv_T := xv_in (List.mem_append_right _ (List.mem_of_getElem? (i := 1231) (by decide +kernel))) (by decide +kernel)
theorem iw_1235 : Cond.code ⟨"NotedVolumeModel", "rename", "(III)Z"⟩ prog_10_method_19_code 9 (some .boolean) ∈ xv_T := xv_in (List.mem_append_right _ (List.mem_of_getElem? (i := 1235) (by decide +kernel))) (by decide +kernel)
theorem iw_1236 : Cond.methodLink "NotedVolumeModel" 142 ⟨"NotedVolumeModel", "isIn", "(II)Z"⟩ ∈ xv_T := xv_in (List.mem_append_right _ (List.mem_of_getElem? (i := 1236) (by decide +kernel))) (by decide +kernel)
theorem iw_1238 : Cond.instanceMethod ⟨"NotedVolumeModel", "isIn", "(II)Z"⟩ ∈ xv_T := xv_in (List.mem_append_right _ (List.mem_of_getElem? (i := 1238) (by decide +kernel))) (by decide +kernel)
theorem iw_1239 : Cond.code ⟨"NotedVolumeModel", "isIn", "(II)Z"⟩ prog_10_method_7_code 5 (some .boolean) ∈ xv_T := xv_in (List.mem_append_right _ (List.mem_of_getElem? (i := 1239) (by decide +kernel))) (by decide +kernel)
theorem iw_1243 : Cond.code ⟨"NotedVolumeModel", "remove", "(I)Z"⟩ prog_10_method_20_code 4 (some .boolean) ∈ xv_T := xv_in (List.mem_append_right _ (List.mem_of_getElem? (i := 1243) (by decide +kernel))) (by decide +kernel)
theorem iw_1244 : Cond.methodLink "NotedVolumeModel" 146 ⟨"NotedVolumeModel", "hasFiles", "(I)Z"⟩ ∈ xv_T := xv_in (List.mem_append_right _ (List.mem_of_getElem? (i := 1244) (by decide +kernel))) (by decide +kernel)
theorem iw_1246 : Cond.instanceMethod ⟨"NotedVolumeModel", "hasFiles", "(I)Z"⟩ ∈ xv_T := xv_in (List.mem_append_right _ (List.mem_of_getElem? (i := 1246) (by decide +kernel))) (by decide +kernel)
theorem iw_1247 : Cond.code ⟨"NotedVolumeModel", "hasFiles", "(I)Z"⟩ prog_10_method_8_code 4 (some .boolean) ∈ xv_T := xv_in (List.mem_append_right _ (List.mem_of_getElem? (i := 1247) (by decide +kernel))) (by decide +kernel)
theorem iw_1251 : Cond.code ⟨"NotedVolumeModel", "close", "(I)Z"⟩ prog_10_method_21_code 3 (some .boolean) ∈ xv_T := xv_in (List.mem_append_right _ (List.mem_of_getElem? (i := 1251) (by decide +kernel))) (by decide +kernel)
theorem iw_1255 : Cond.code ⟨"NotedVolumeModel", "open", "()I"⟩ prog_10_method_22_code 1 (some .int) ∈ xv_T := xv_in (List.mem_append_right _ (List.mem_of_getElem? (i := 1255) (by decide +kernel))) (by decide +kernel)
theorem iw_1259 : Cond.code ⟨"NotedVolumeModel", "of", "(II)I"⟩ prog_10_method_23_code 4 (some .int) ∈ xv_T := xv_in (List.mem_append_right _ (List.mem_of_getElem? (i := 1259) (by decide +kernel))) (by decide +kernel)
theorem iw_1263 : Cond.code ⟨"NotedVolumeModel", "find", "(II)I"⟩ prog_10_method_24_code 3 (some .int) ∈ xv_T := xv_in (List.mem_append_right _ (List.mem_of_getElem? (i := 1263) (by decide +kernel))) (by decide +kernel)
theorem iw_1267 : Cond.code ⟨"NotedVolumeModel", "live", "()I"⟩ prog_10_method_25_code 1 (some .int) ∈ xv_T := xv_in (List.mem_append_right _ (List.mem_of_getElem? (i := 1267) (by decide +kernel))) (by decide +kernel)
theorem iw_1271 : Cond.code ⟨"NotedVolumeModel", "tail", "()I"⟩ prog_10_method_27_code 1 (some .int) ∈ xv_T := xv_in (List.mem_append_right _ (List.mem_of_getElem? (i := 1271) (by decide +kernel))) (by decide +kernel)
theorem iw_1272 : Cond.methodLink "NotedVolumeModel" 149 ⟨"NotedVolumeModel", "tailNow", "()I"⟩ ∈ xv_T := xv_in (List.mem_append_right _ (List.mem_of_getElem? (i := 1272) (by decide +kernel))) (by decide +kernel)
theorem iw_1274 : Cond.instanceMethod ⟨"NotedVolumeModel", "tailNow", "()I"⟩ ∈ xv_T := xv_in (List.mem_append_right _ (List.mem_of_getElem? (i := 1274) (by decide +kernel))) (by decide +kernel)
theorem iw_1275 : Cond.code ⟨"NotedVolumeModel", "tailNow", "()I"⟩ prog_10_method_26_code 1 (some .int) ∈ xv_T := xv_in (List.mem_append_right _ (List.mem_of_getElem? (i := 1275) (by decide +kernel))) (by decide +kernel)
theorem iw_1279 : Cond.code ⟨"NotedVolumeModel", "head", "()I"⟩ prog_10_method_28_code 1 (some .int) ∈ xv_T := xv_in (List.mem_append_right _ (List.mem_of_getElem? (i := 1279) (by decide +kernel))) (by decide +kernel)
theorem iw_1283 : Cond.code ⟨"NotedVolumeModel", "note", "(II)I"⟩ prog_10_method_29_code 3 (some .int) ∈ xv_T := xv_in (List.mem_append_right _ (List.mem_of_getElem? (i := 1283) (by decide +kernel))) (by decide +kernel)
theorem iw_1287 : Cond.code ⟨"NotedVolumeModel", "subscribe", "(II)V"⟩ prog_10_method_31_code 4 none ∈ xv_T := xv_in (List.mem_append_right _ (List.mem_of_getElem? (i := 1287) (by decide +kernel))) (by decide +kernel)
theorem iw_1288 : Cond.methodLink "NotedVolumeModel" 153 ⟨"NotedVolumeModel", "is", "(I)Z"⟩ ∈ xv_T := xv_in (List.mem_append_right _ (List.mem_of_getElem? (i := 1288) (by decide +kernel))) (by decide +kernel)
theorem iw_1289 : Cond.static ⟨"NotedVolumeModel", "is", "(I)Z"⟩ ∈ xv_T := xv_in (List.mem_append_right _ (List.mem_of_getElem? (i := 1289) (by decide +kernel))) (by decide +kernel)
theorem iw_1290 : Cond.code ⟨"NotedVolumeModel", "is", "(I)Z"⟩ prog_10_method_30_code 1 (some .boolean) ∈ xv_T := xv_in (List.mem_append_right _ (List.mem_of_getElem? (i := 1290) (by decide +kernel))) (by decide +kernel)
theorem iw_1294 : Cond.code ⟨"NotedVolumeModel", "cursor", "(I)I"⟩ prog_10_method_32_code 2 (some .int) ∈ xv_T := xv_in (List.mem_append_right _ (List.mem_of_getElem? (i := 1294) (by decide +kernel))) (by decide +kernel)
theorem iw_1298 : Cond.code ⟨"NotedVolumeModel", "read", "(I)I"⟩ prog_10_method_34_code 2 (some .int) ∈ xv_T := xv_in (List.mem_append_right _ (List.mem_of_getElem? (i := 1298) (by decide +kernel))) (by decide +kernel)
theorem iw_1299 : Cond.methodLink "NotedVolumeModel" 156 ⟨"NotedVolumeModel", "readBy", "(II)I"⟩ ∈ xv_T := xv_in (List.mem_append_right _ (List.mem_of_getElem? (i := 1299) (by decide +kernel))) (by decide +kernel)
theorem iw_1301 : Cond.instanceMethod ⟨"NotedVolumeModel", "readBy", "(II)I"⟩ ∈ xv_T := xv_in (List.mem_append_right _ (List.mem_of_getElem? (i := 1301) (by decide +kernel))) (by decide +kernel)
theorem iw_1302 : Cond.code ⟨"NotedVolumeModel", "readBy", "(II)I"⟩ prog_10_method_33_code 4 (some .int) ∈ xv_T := xv_in (List.mem_append_right _ (List.mem_of_getElem? (i := 1302) (by decide +kernel))) (by decide +kernel)
theorem iw_1306 : Cond.code ⟨"NotedVolumeModel", "list", "(I)V"⟩ prog_10_method_36_code 2 none ∈ xv_T := xv_in (List.mem_append_right _ (List.mem_of_getElem? (i := 1306) (by decide +kernel))) (by decide +kernel)
theorem iw_1307 : Cond.methodLink "NotedVolumeModel" 159 ⟨"NotedVolumeModel", "beginList", "(I)V"⟩ ∈ xv_T := xv_in (List.mem_append_right _ (List.mem_of_getElem? (i := 1307) (by decide +kernel))) (by decide +kernel)
theorem iw_1309 : Cond.instanceMethod ⟨"NotedVolumeModel", "beginList", "(I)V"⟩ ∈ xv_T := xv_in (List.mem_append_right _ (List.mem_of_getElem? (i := 1309) (by decide +kernel))) (by decide +kernel)
theorem iw_1310 : Cond.code ⟨"NotedVolumeModel", "beginList", "(I)V"⟩ prog_10_method_35_code 2 none ∈ xv_T := xv_in (List.mem_append_right _ (List.mem_of_getElem? (i := 1310) (by decide +kernel))) (by decide +kernel)
theorem iw_1314 : Cond.code ⟨"NotedVolumeModel", "page", "(I)I"⟩ prog_10_method_39_code 2 (some .int) ∈ xv_T := xv_in (List.mem_append_right _ (List.mem_of_getElem? (i := 1314) (by decide +kernel))) (by decide +kernel)
theorem iw_1315 : Cond.methodLink "NotedVolumeModel" 165 ⟨"NotedVolumeModel", "pageOf", "(I)I"⟩ ∈ xv_T := xv_in (List.mem_append_right _ (List.mem_of_getElem? (i := 1315) (by decide +kernel))) (by decide +kernel)
theorem iw_1317 : Cond.instanceMethod ⟨"NotedVolumeModel", "pageOf", "(I)I"⟩ ∈ xv_T := xv_in (List.mem_append_right _ (List.mem_of_getElem? (i := 1317) (by decide +kernel))) (by decide +kernel)
theorem iw_1318 : Cond.code ⟨"NotedVolumeModel", "pageOf", "(I)I"⟩ prog_10_method_38_code 5 (some .int) ∈ xv_T := xv_in (List.mem_append_right _ (List.mem_of_getElem? (i := 1318) (by decide +kernel))) (by decide +kernel)
theorem iw_1319 : Cond.methodLink "NotedVolumeModel" 162 ⟨"NotedVolumeModel", "placeAbove", "(I)I"⟩ ∈ xv_T := xv_in (List.mem_append_right _ (List.mem_of_getElem? (i := 1319) (by decide +kernel))) (by decide +kernel)
theorem iw_1321 : Cond.instanceMethod ⟨"NotedVolumeModel", "placeAbove", "(I)I"⟩ ∈ xv_T := xv_in (List.mem_append_right _ (List.mem_of_getElem? (i := 1321) (by decide +kernel))) (by decide +kernel)
theorem iw_1322 : Cond.code ⟨"NotedVolumeModel", "placeAbove", "(I)I"⟩ prog_10_method_37_code 4 (some .int) ∈ xv_T := xv_in (List.mem_append_right _ (List.mem_of_getElem? (i := 1322) (by decide +kernel))) (by decide +kernel)
theorem iw_1326 : Cond.code ⟨"NotedVolumeModel", "shown", "(II)I"⟩ prog_10_method_40_code 3 (some .int) ∈ xv_T := xv_in (List.mem_append_right _ (List.mem_of_getElem? (i := 1326) (by decide +kernel))) (by decide +kernel)
theorem iw_1330 : Cond.code ⟨"NotedVolumeModel", "follow", "(II)I"⟩ prog_10_method_48_code 5 (some .int) ∈ xv_T := xv_in (List.mem_append_right _ (List.mem_of_getElem? (i := 1330) (by decide +kernel))) (by decide +kernel)
theorem iw_1331 : Cond.methodLink "NotedVolumeModel" 186 ⟨"NotedVolumeModel", "act", "(I)Z"⟩ ∈ xv_T := xv_in (List.mem_append_right _ (List.mem_of_getElem? (i := 1331) (by decide +kernel))) (by decide +kernel)
theorem iw_1333 : Cond.instanceMethod ⟨"NotedVolumeModel", "act", "(I)Z"⟩ ∈ xv_T := xv_in (List.mem_append_right _ (List.mem_of_getElem? (i := 1333) (by decide +kernel))) (by decide +kernel)
theorem iw_1334 : Cond.code ⟨"NotedVolumeModel", "act", "(I)Z"⟩ prog_10_method_47_code 3 (some .boolean) ∈ xv_T := xv_in (List.mem_append_right _ (List.mem_of_getElem? (i := 1334) (by decide +kernel))) (by decide +kernel)
theorem iw_1335 : Cond.methodLink "NotedVolumeModel" 180 ⟨"NotedVolumeModel", "followPage", "(I)V"⟩ ∈ xv_T := xv_in (List.mem_append_right _ (List.mem_of_getElem? (i := 1335) (by decide +kernel))) (by decide +kernel)
theorem iw_1337 : Cond.instanceMethod ⟨"NotedVolumeModel", "followPage", "(I)V"⟩ ∈ xv_T := xv_in (List.mem_append_right _ (List.mem_of_getElem? (i := 1337) (by decide +kernel))) (by decide +kernel)
theorem iw_1338 : Cond.code ⟨"NotedVolumeModel", "followPage", "(I)V"⟩ prog_10_method_45_code 6 none ∈ xv_T := xv_in (List.mem_append_right _ (List.mem_of_getElem? (i := 1338) (by decide +kernel))) (by decide +kernel)
theorem iw_1339 : Cond.methodLink "NotedVolumeModel" 174 ⟨"NotedVolumeModel", "copyOut", "(II)V"⟩ ∈ xv_T := xv_in (List.mem_append_right _ (List.mem_of_getElem? (i := 1339) (by decide +kernel))) (by decide +kernel)
theorem iw_1341 : Cond.instanceMethod ⟨"NotedVolumeModel", "copyOut", "(II)V"⟩ ∈ xv_T := xv_in (List.mem_append_right _ (List.mem_of_getElem? (i := 1341) (by decide +kernel))) (by decide +kernel)
theorem iw_1342 : Cond.code ⟨"NotedVolumeModel", "copyOut", "(II)V"⟩ prog_10_method_43_code 4 none ∈ xv_T := xv_in (List.mem_append_right _ (List.mem_of_getElem? (i := 1342) (by decide +kernel))) (by decide +kernel)
theorem iw_1343 : Cond.methodLink "NotedVolumeModel" 177 ⟨"NotedVolumeModel", "copyNow", "(II)V"⟩ ∈ xv_T := xv_in (List.mem_append_right _ (List.mem_of_getElem? (i := 1343) (by decide +kernel))) (by decide +kernel)
theorem iw_1345 : Cond.instanceMethod ⟨"NotedVolumeModel", "copyNow", "(II)V"⟩ ∈ xv_T := xv_in (List.mem_append_right _ (List.mem_of_getElem? (i := 1345) (by decide +kernel))) (by decide +kernel)
theorem iw_1346 : Cond.code ⟨"NotedVolumeModel", "copyNow", "(II)V"⟩ prog_10_method_44_code 5 none ∈ xv_T := xv_in (List.mem_append_right _ (List.mem_of_getElem? (i := 1346) (by decide +kernel))) (by decide +kernel)
theorem iw_1347 : Cond.methodLink "NotedVolumeModel" 168 ⟨"NotedVolumeModel", "copyPlace", "(II)I"⟩ ∈ xv_T := xv_in (List.mem_append_right _ (List.mem_of_getElem? (i := 1347) (by decide +kernel))) (by decide +kernel)
theorem iw_1349 : Cond.instanceMethod ⟨"NotedVolumeModel", "copyPlace", "(II)I"⟩ ∈ xv_T := xv_in (List.mem_append_right _ (List.mem_of_getElem? (i := 1349) (by decide +kernel))) (by decide +kernel)
theorem iw_1350 : Cond.code ⟨"NotedVolumeModel", "copyPlace", "(II)I"⟩ prog_10_method_41_code 4 (some .int) ∈ xv_T := xv_in (List.mem_append_right _ (List.mem_of_getElem? (i := 1350) (by decide +kernel))) (by decide +kernel)
theorem iw_1351 : Cond.methodLink "NotedVolumeModel" 171 ⟨"NotedVolumeModel", "copyIn", "(IIIIII)V"⟩ ∈ xv_T := xv_in (List.mem_append_right _ (List.mem_of_getElem? (i := 1351) (by decide +kernel))) (by decide +kernel)
theorem iw_1353 : Cond.instanceMethod ⟨"NotedVolumeModel", "copyIn", "(IIIIII)V"⟩ ∈ xv_T := xv_in (List.mem_append_right _ (List.mem_of_getElem? (i := 1353) (by decide +kernel))) (by decide +kernel)
theorem iw_1354 : Cond.code ⟨"NotedVolumeModel", "copyIn", "(IIIIII)V"⟩ prog_10_method_42_code 8 none ∈ xv_T := xv_in (List.mem_append_right _ (List.mem_of_getElem? (i := 1354) (by decide +kernel))) (by decide +kernel)
theorem iw_1355 : Cond.methodLink "NotedVolumeModel" 183 ⟨"NotedVolumeModel", "followNote", "(II)V"⟩ ∈ xv_T := xv_in (List.mem_append_right _ (List.mem_of_getElem? (i := 1355) (by decide +kernel))) (by decide +kernel)
theorem iw_1357 : Cond.instanceMethod ⟨"NotedVolumeModel", "followNote", "(II)V"⟩ ∈ xv_T := xv_in (List.mem_append_right _ (List.mem_of_getElem? (i := 1357) (by decide +kernel))) (by decide +kernel)
theorem iw_1358 : Cond.code ⟨"NotedVolumeModel", "followNote", "(II)V"⟩ prog_10_method_46_code 6 none ∈ xv_T := xv_in (List.mem_append_right _ (List.mem_of_getElem? (i := 1358) (by decide +kernel))) (by decide +kernel)
theorem iw_1362 : Cond.code ⟨"NotedVolumeModel", "copied", "(III)I"⟩ prog_10_method_49_code 6 (some .int) ∈ xv_T := xv_in (List.mem_append_right _ (List.mem_of_getElem? (i := 1362) (by decide +kernel))) (by decide +kernel)
theorem iw_1366 : Cond.code ⟨"NotedVolumeModel", "inStep", "(I)Z"⟩ prog_10_method_50_code 5 (some .boolean) ∈ xv_T := xv_in (List.mem_append_right _ (List.mem_of_getElem? (i := 1366) (by decide +kernel))) (by decide +kernel)
theorem iw_1370 : Cond.code ⟨"NotedVolumeModel", "cutAfter", "(I)V"⟩ prog_10_method_51_code 2 none ∈ xv_T := xv_in (List.mem_append_right _ (List.mem_of_getElem? (i := 1370) (by decide +kernel))) (by decide +kernel)
theorem iw_1374 : Cond.code ⟨"NotedVolumeModel", "start", "()I"⟩ prog_10_method_54_code 6 (some .int) ∈ xv_T := xv_in (List.mem_append_right _ (List.mem_of_getElem? (i := 1374) (by decide +kernel))) (by decide +kernel)
theorem iw_1375 : Cond.methodLink "NotedVolumeModel" 189 ⟨"NotedVolumeModel", "latestOf", "(I)I"⟩ ∈ xv_T := xv_in (List.mem_append_right _ (List.mem_of_getElem? (i := 1375) (by decide +kernel))) (by decide +kernel)
theorem iw_1377 : Cond.instanceMethod ⟨"NotedVolumeModel", "latestOf", "(I)I"⟩ ∈ xv_T := xv_in (List.mem_append_right _ (List.mem_of_getElem? (i := 1377) (by decide +kernel))) (by decide +kernel)
theorem iw_1378 : Cond.code ⟨"NotedVolumeModel", "latestOf", "(I)I"⟩ prog_10_method_53_code 3 (some .int) ∈ xv_T := xv_in (List.mem_append_right _ (List.mem_of_getElem? (i := 1378) (by decide +kernel))) (by decide +kernel)
theorem iw_1379 : Cond.methodLink "NotedVolumeModel" 192 ⟨"NotedVolumeModel", "isFirst", "(I)Z"⟩ ∈ xv_T := xv_in (List.mem_append_right _ (List.mem_of_getElem? (i := 1379) (by decide +kernel))) (by decide +kernel)
theorem iw_1381 : Cond.instanceMethod ⟨"NotedVolumeModel", "isFirst", "(I)Z"⟩ ∈ xv_T := xv_in (List.mem_append_right _ (List.mem_of_getElem? (i := 1381) (by decide +kernel))) (by decide +kernel)
theorem iw_1382 : Cond.code ⟨"NotedVolumeModel", "isFirst", "(I)Z"⟩ prog_10_method_52_code 3 (some .boolean) ∈ xv_T := xv_in (List.mem_append_right _ (List.mem_of_getElem? (i := 1382) (by decide +kernel))) (by decide +kernel)
theorem iw_1386 : Cond.code ⟨"NotedVolumeModel", "isOn", "()Z"⟩ prog_10_method_55_code 1 (some .boolean) ∈ xv_T := xv_in (List.mem_append_right _ (List.mem_of_getElem? (i := 1386) (by decide +kernel))) (by decide +kernel)
theorem ps_21 : Cond.selects "NotedVolumeModel" ⟨"NotedVolumeModel", "placeOf", "(I)I"⟩ ⟨"NotedVolumeModel", "placeOf", "(I)I"⟩ ∈ xv_T := xv_in (List.mem_append_left _ (List.mem_of_getElem? (i := 21) (by decide +kernel))) (by decide +kernel)
theorem ps_22 : Cond.selects "NotedVolumeModel" ⟨"NotedVolumeModel", "isFolder", "(I)Z"⟩ ⟨"NotedVolumeModel", "isFolder", "(I)Z"⟩ ∈ xv_T := xv_in (List.mem_append_left _ (List.mem_of_getElem? (i := 22) (by decide +kernel))) (by decide +kernel)
theorem ps_23 : Cond.selects "NotedVolumeModel" ⟨"NotedVolumeModel", "named", "(II)I"⟩ ⟨"NotedVolumeModel", "named", "(II)I"⟩ ∈ xv_T := xv_in (List.mem_append_left _ (List.mem_of_getElem? (i := 23) (by decide +kernel))) (by decide +kernel)
theorem ps_24 : Cond.selects "NotedVolumeModel" ⟨"NotedVolumeModel", "refused", "(ZZZZ)Z"⟩ ⟨"NotedVolumeModel", "refused", "(ZZZZ)Z"⟩ ∈ xv_T := xv_in (List.mem_append_left _ (List.mem_of_getElem? (i := 24) (by decide +kernel))) (by decide +kernel)
theorem ps_25 : Cond.selects "NotedVolumeModel" ⟨"NotedVolumeModel", "opens", "(I)Z"⟩ ⟨"NotedVolumeModel", "opens", "(I)Z"⟩ ∈ xv_T := xv_in (List.mem_append_left _ (List.mem_of_getElem? (i := 25) (by decide +kernel))) (by decide +kernel)
theorem ps_26 : Cond.selects "NotedVolumeModel" ⟨"NotedVolumeModel", "gatheringOf", "(I)I"⟩ ⟨"NotedVolumeModel", "gatheringOf", "(I)I"⟩ ∈ xv_T := xv_in (List.mem_append_left _ (List.mem_of_getElem? (i := 26) (by decide +kernel))) (by decide +kernel)
theorem ps_27 : Cond.selects "NotedVolumeModel" ⟨"NotedVolumeModel", "closeGathering", "(I)Z"⟩ ⟨"NotedVolumeModel", "closeGathering", "(I)Z"⟩ ∈ xv_T := xv_in (List.mem_append_left _ (List.mem_of_getElem? (i := 27) (by decide +kernel))) (by decide +kernel)
theorem ps_28 : Cond.selects "NotedVolumeModel" ⟨"NotedVolumeModel", "writes", "()Z"⟩ ⟨"NotedVolumeModel", "writes", "()Z"⟩ ∈ xv_T := xv_in (List.mem_append_left _ (List.mem_of_getElem? (i := 28) (by decide +kernel))) (by decide +kernel)
theorem ps_29 : Cond.selects "NotedVolumeModel" ⟨"NotedVolumeModel", "noteClosing", "(II)V"⟩ ⟨"NotedVolumeModel", "noteClosing", "(II)V"⟩ ∈ xv_T := xv_in (List.mem_append_left _ (List.mem_of_getElem? (i := 29) (by decide +kernel))) (by decide +kernel)
theorem ps_30 : Cond.selects "NotedVolumeModel" ⟨"NotedVolumeModel", "writeNote", "(IIIIII)V"⟩ ⟨"NotedVolumeModel", "writeNote", "(IIIIII)V"⟩ ∈ xv_T := xv_in (List.mem_append_left _ (List.mem_of_getElem? (i := 30) (by decide +kernel))) (by decide +kernel)
theorem ps_31 : Cond.selects "NotedVolumeModel" ⟨"NotedVolumeModel", "dropGathering", "(I)V"⟩ ⟨"NotedVolumeModel", "dropGathering", "(I)V"⟩ ∈ xv_T := xv_in (List.mem_append_left _ (List.mem_of_getElem? (i := 31) (by decide +kernel))) (by decide +kernel)
theorem ps_32 : Cond.selects "NotedVolumeModel" ⟨"NotedVolumeModel", "noteChange", "(IIIIII)Z"⟩ ⟨"NotedVolumeModel", "noteChange", "(IIIIII)Z"⟩ ∈ xv_T := xv_in (List.mem_append_left _ (List.mem_of_getElem? (i := 32) (by decide +kernel))) (by decide +kernel)
theorem ps_33 : Cond.selects "NotedVolumeModel" ⟨"NotedVolumeModel", "isIn", "(II)Z"⟩ ⟨"NotedVolumeModel", "isIn", "(II)Z"⟩ ∈ xv_T := xv_in (List.mem_append_left _ (List.mem_of_getElem? (i := 33) (by decide +kernel))) (by decide +kernel)
theorem ps_34 : Cond.selects "NotedVolumeModel" ⟨"NotedVolumeModel", "hasFiles", "(I)Z"⟩ ⟨"NotedVolumeModel", "hasFiles", "(I)Z"⟩ ∈ xv_T := xv_in (List.mem_append_left _ (List.mem_of_getElem? (i := 34) (by decide +kernel))) (by decide +kernel)
theorem ps_35 : Cond.selects "NotedVolumeModel" ⟨"NotedVolumeModel", "tailNow", "()I"⟩ ⟨"NotedVolumeModel", "tailNow", "()I"⟩ ∈ xv_T := xv_in (List.mem_append_left _ (List.mem_of_getElem? (i := 35) (by decide +kernel))) (by decide +kernel)
theorem ps_36 : Cond.selects "NotedVolumeModel" ⟨"NotedVolumeModel", "readBy", "(II)I"⟩ ⟨"NotedVolumeModel", "readBy", "(II)I"⟩ ∈ xv_T := xv_in (List.mem_append_left _ (List.mem_of_getElem? (i := 36) (by decide +kernel))) (by decide +kernel)
theorem ps_37 : Cond.selects "NotedVolumeModel" ⟨"NotedVolumeModel", "beginList", "(I)V"⟩ ⟨"NotedVolumeModel", "beginList", "(I)V"⟩ ∈ xv_T := xv_in (List.mem_append_left _ (List.mem_of_getElem? (i := 37) (by decide +kernel))) (by decide +kernel)
theorem ps_38 : Cond.selects "NotedVolumeModel" ⟨"NotedVolumeModel", "pageOf", "(I)I"⟩ ⟨"NotedVolumeModel", "pageOf", "(I)I"⟩ ∈ xv_T := xv_in (List.mem_append_left _ (List.mem_of_getElem? (i := 38) (by decide +kernel))) (by decide +kernel)
theorem ps_39 : Cond.selects "NotedVolumeModel" ⟨"NotedVolumeModel", "placeAbove", "(I)I"⟩ ⟨"NotedVolumeModel", "placeAbove", "(I)I"⟩ ∈ xv_T := xv_in (List.mem_append_left _ (List.mem_of_getElem? (i := 39) (by decide +kernel))) (by decide +kernel)
theorem ps_40 : Cond.selects "NotedVolumeModel" ⟨"NotedVolumeModel", "act", "(I)Z"⟩ ⟨"NotedVolumeModel", "act", "(I)Z"⟩ ∈ xv_T := xv_in (List.mem_append_left _ (List.mem_of_getElem? (i := 40) (by decide +kernel))) (by decide +kernel)
theorem ps_41 : Cond.selects "NotedVolumeModel" ⟨"NotedVolumeModel", "followPage", "(I)V"⟩ ⟨"NotedVolumeModel", "followPage", "(I)V"⟩ ∈ xv_T := xv_in (List.mem_append_left _ (List.mem_of_getElem? (i := 41) (by decide +kernel))) (by decide +kernel)
theorem ps_42 : Cond.selects "NotedVolumeModel" ⟨"NotedVolumeModel", "copyOut", "(II)V"⟩ ⟨"NotedVolumeModel", "copyOut", "(II)V"⟩ ∈ xv_T := xv_in (List.mem_append_left _ (List.mem_of_getElem? (i := 42) (by decide +kernel))) (by decide +kernel)
theorem ps_43 : Cond.selects "NotedVolumeModel" ⟨"NotedVolumeModel", "copyNow", "(II)V"⟩ ⟨"NotedVolumeModel", "copyNow", "(II)V"⟩ ∈ xv_T := xv_in (List.mem_append_left _ (List.mem_of_getElem? (i := 43) (by decide +kernel))) (by decide +kernel)
theorem ps_44 : Cond.selects "NotedVolumeModel" ⟨"NotedVolumeModel", "copyPlace", "(II)I"⟩ ⟨"NotedVolumeModel", "copyPlace", "(II)I"⟩ ∈ xv_T := xv_in (List.mem_append_left _ (List.mem_of_getElem? (i := 44) (by decide +kernel))) (by decide +kernel)
theorem ps_45 : Cond.selects "NotedVolumeModel" ⟨"NotedVolumeModel", "copyIn", "(IIIIII)V"⟩ ⟨"NotedVolumeModel", "copyIn", "(IIIIII)V"⟩ ∈ xv_T := xv_in (List.mem_append_left _ (List.mem_of_getElem? (i := 45) (by decide +kernel))) (by decide +kernel)
theorem ps_46 : Cond.selects "NotedVolumeModel" ⟨"NotedVolumeModel", "followNote", "(II)V"⟩ ⟨"NotedVolumeModel", "followNote", "(II)V"⟩ ∈ xv_T := xv_in (List.mem_append_left _ (List.mem_of_getElem? (i := 46) (by decide +kernel))) (by decide +kernel)
theorem ps_47 : Cond.selects "NotedVolumeModel" ⟨"NotedVolumeModel", "latestOf", "(I)I"⟩ ⟨"NotedVolumeModel", "latestOf", "(I)I"⟩ ∈ xv_T := xv_in (List.mem_append_left _ (List.mem_of_getElem? (i := 47) (by decide +kernel))) (by decide +kernel)
theorem ps_48 : Cond.selects "NotedVolumeModel" ⟨"NotedVolumeModel", "isFirst", "(I)Z"⟩ ⟨"NotedVolumeModel", "isFirst", "(I)Z"⟩ ∈ xv_T := xv_in (List.mem_append_left _ (List.mem_of_getElem? (i := 48) (by decide +kernel))) (by decide +kernel)
def mm_M_init : xa_M := (⟨"NotedVolumeModel", "<init>", "()V"⟩, prog_10_method_1_code, 3, none, [])
theorem ok_M_init : xa_O mm_M_init := ⟨by decide, Or.inr ⟨rfl, iw_1084⟩, iw_9, by decide, by decide⟩
def mm_M_act : xa_M := (⟨"NotedVolumeModel", "act", "(I)Z"⟩, prog_10_method_47_code, 3, (some .boolean), [])
theorem ok_M_act : xa_O mm_M_act := ⟨by decide, Or.inr ⟨rfl, iw_1334⟩, iw_9, by decide, by decide⟩
def mm_M_beginList : xa_M := (⟨"NotedVolumeModel", "beginList", "(I)V"⟩, prog_10_method_35_code, 2, none, [])
theorem ok_M_beginList : xa_O mm_M_beginList := ⟨by decide, Or.inr ⟨rfl, iw_1310⟩, iw_9, by decide, by decide⟩
def mm_M_change : xa_M := (⟨"NotedVolumeModel", "change", "(I)I"⟩, prog_10_method_18_code, 4, (some .int), [])
theorem ok_M_change : xa_O mm_M_change := ⟨by decide, Or.inr ⟨rfl, iw_1231⟩, iw_9, by decide, by decide⟩
def mm_M_close : xa_M := (⟨"NotedVolumeModel", "close", "(I)Z"⟩, prog_10_method_21_code, 3, (some .boolean), [])
theorem ok_M_close : xa_O mm_M_close := ⟨by decide, Or.inr ⟨rfl, iw_1251⟩, iw_9, by decide, by decide⟩
def mm_M_closeGathering : xa_M := (⟨"NotedVolumeModel", "closeGathering", "(I)Z"⟩, prog_10_method_14_code, 2, (some .boolean), [])
theorem ok_M_closeGathering : xa_O mm_M_closeGathering := ⟨by decide, Or.inr ⟨rfl, iw_1207⟩, iw_9, by decide, by decide⟩
def mm_M_copied : xa_M := (⟨"NotedVolumeModel", "copied", "(III)I"⟩, prog_10_method_49_code, 6, (some .int), [])
theorem ok_M_copied : xa_O mm_M_copied := ⟨by decide, Or.inr ⟨rfl, iw_1362⟩, iw_9, by decide, by decide⟩
def mm_M_copyIn : xa_M := (⟨"NotedVolumeModel", "copyIn", "(IIIIII)V"⟩, prog_10_method_42_code, 8, none, [])
theorem ok_M_copyIn : xa_O mm_M_copyIn := ⟨by decide, Or.inr ⟨rfl, iw_1354⟩, iw_9, by decide, by decide⟩
def mm_M_copyNow : xa_M := (⟨"NotedVolumeModel", "copyNow", "(II)V"⟩, prog_10_method_44_code, 5, none, [])
theorem ok_M_copyNow : xa_O mm_M_copyNow := ⟨by decide, Or.inr ⟨rfl, iw_1346⟩, iw_9, by decide, by decide⟩
def mm_M_copyOut : xa_M := (⟨"NotedVolumeModel", "copyOut", "(II)V"⟩, prog_10_method_43_code, 4, none, [])
theorem ok_M_copyOut : xa_O mm_M_copyOut := ⟨by decide, Or.inr ⟨rfl, iw_1342⟩, iw_9, by decide, by decide⟩
def mm_M_copyPlace : xa_M := (⟨"NotedVolumeModel", "copyPlace", "(II)I"⟩, prog_10_method_41_code, 4, (some .int), [])
theorem ok_M_copyPlace : xa_O mm_M_copyPlace := ⟨by decide, Or.inr ⟨rfl, iw_1350⟩, iw_9, by decide, by decide⟩
def mm_M_cursor : xa_M := (⟨"NotedVolumeModel", "cursor", "(I)I"⟩, prog_10_method_32_code, 2, (some .int), [])
theorem ok_M_cursor : xa_O mm_M_cursor := ⟨by decide, Or.inr ⟨rfl, iw_1294⟩, iw_9, by decide, by decide⟩
def mm_M_cutAfter : xa_M := (⟨"NotedVolumeModel", "cutAfter", "(I)V"⟩, prog_10_method_51_code, 2, none, [])
theorem ok_M_cutAfter : xa_O mm_M_cutAfter := ⟨by decide, Or.inr ⟨rfl, iw_1370⟩, iw_9, by decide, by decide⟩
def mm_M_dropGathering : xa_M := (⟨"NotedVolumeModel", "dropGathering", "(I)V"⟩, prog_10_method_13_code, 3, none, [])
theorem ok_M_dropGathering : xa_O mm_M_dropGathering := ⟨by decide, Or.inr ⟨rfl, iw_1223⟩, iw_9, by decide, by decide⟩
def mm_M_find : xa_M := (⟨"NotedVolumeModel", "find", "(II)I"⟩, prog_10_method_24_code, 3, (some .int), [])
theorem ok_M_find : xa_O mm_M_find := ⟨by decide, Or.inr ⟨rfl, iw_1263⟩, iw_9, by decide, by decide⟩
def mm_M_follow : xa_M := (⟨"NotedVolumeModel", "follow", "(II)I"⟩, prog_10_method_48_code, 5, (some .int), [])
theorem ok_M_follow : xa_O mm_M_follow := ⟨by decide, Or.inr ⟨rfl, iw_1330⟩, iw_9, by decide, by decide⟩
def mm_M_followNote : xa_M := (⟨"NotedVolumeModel", "followNote", "(II)V"⟩, prog_10_method_46_code, 6, none, [])
theorem ok_M_followNote : xa_O mm_M_followNote := ⟨by decide, Or.inr ⟨rfl, iw_1358⟩, iw_9, by decide, by decide⟩
def mm_M_followPage : xa_M := (⟨"NotedVolumeModel", "followPage", "(I)V"⟩, prog_10_method_45_code, 6, none, [])
theorem ok_M_followPage : xa_O mm_M_followPage := ⟨by decide, Or.inr ⟨rfl, iw_1338⟩, iw_9, by decide, by decide⟩
def mm_M_gatheringOf : xa_M := (⟨"NotedVolumeModel", "gatheringOf", "(I)I"⟩, prog_10_method_12_code, 3, (some .int), [])
theorem ok_M_gatheringOf : xa_O mm_M_gatheringOf := ⟨by decide, Or.inr ⟨rfl, iw_1203⟩, iw_9, by decide, by decide⟩
def mm_M_hasFiles : xa_M := (⟨"NotedVolumeModel", "hasFiles", "(I)Z"⟩, prog_10_method_8_code, 4, (some .boolean), [])
theorem ok_M_hasFiles : xa_O mm_M_hasFiles := ⟨by decide, Or.inr ⟨rfl, iw_1247⟩, iw_9, by decide, by decide⟩
def mm_M_head : xa_M := (⟨"NotedVolumeModel", "head", "()I"⟩, prog_10_method_28_code, 1, (some .int), [])
theorem ok_M_head : xa_O mm_M_head := ⟨by decide, Or.inr ⟨rfl, iw_1279⟩, iw_9, by decide, by decide⟩
def mm_M_inStep : xa_M := (⟨"NotedVolumeModel", "inStep", "(I)Z"⟩, prog_10_method_50_code, 5, (some .boolean), [])
theorem ok_M_inStep : xa_O mm_M_inStep := ⟨by decide, Or.inr ⟨rfl, iw_1366⟩, iw_9, by decide, by decide⟩
def mm_M_is : xa_M := (⟨"NotedVolumeModel", "is", "(I)Z"⟩, prog_10_method_30_code, 1, (some .boolean), [])
theorem ok_M_is : xa_O mm_M_is := ⟨by decide, Or.inr ⟨rfl, iw_1290⟩, iw_9, by decide, by decide⟩
def mm_M_isFirst : xa_M := (⟨"NotedVolumeModel", "isFirst", "(I)Z"⟩, prog_10_method_52_code, 3, (some .boolean), [])
theorem ok_M_isFirst : xa_O mm_M_isFirst := ⟨by decide, Or.inr ⟨rfl, iw_1382⟩, iw_9, by decide, by decide⟩
def mm_M_isFolder : xa_M := (⟨"NotedVolumeModel", "isFolder", "(I)Z"⟩, prog_10_method_5_code, 2, (some .boolean), [])
theorem ok_M_isFolder : xa_O mm_M_isFolder := ⟨by decide, Or.inr ⟨rfl, iw_1187⟩, iw_9, by decide, by decide⟩
def mm_M_isIn : xa_M := (⟨"NotedVolumeModel", "isIn", "(II)Z"⟩, prog_10_method_7_code, 5, (some .boolean), [])
theorem ok_M_isIn : xa_O mm_M_isIn := ⟨by decide, Or.inr ⟨rfl, iw_1239⟩, iw_9, by decide, by decide⟩
def mm_M_isOn : xa_M := (⟨"NotedVolumeModel", "isOn", "()Z"⟩, prog_10_method_55_code, 1, (some .boolean), [])
theorem ok_M_isOn : xa_O mm_M_isOn := ⟨by decide, Or.inr ⟨rfl, iw_1386⟩, iw_9, by decide, by decide⟩
def mm_M_latestOf : xa_M := (⟨"NotedVolumeModel", "latestOf", "(I)I"⟩, prog_10_method_53_code, 3, (some .int), [])
theorem ok_M_latestOf : xa_O mm_M_latestOf := ⟨by decide, Or.inr ⟨rfl, iw_1378⟩, iw_9, by decide, by decide⟩
def mm_M_list : xa_M := (⟨"NotedVolumeModel", "list", "(I)V"⟩, prog_10_method_36_code, 2, none, [])
theorem ok_M_list : xa_O mm_M_list := ⟨by decide, Or.inr ⟨rfl, iw_1306⟩, iw_9, by decide, by decide⟩
def mm_M_live : xa_M := (⟨"NotedVolumeModel", "live", "()I"⟩, prog_10_method_25_code, 1, (some .int), [])
theorem ok_M_live : xa_O mm_M_live := ⟨by decide, Or.inr ⟨rfl, iw_1267⟩, iw_9, by decide, by decide⟩
def mm_M_make : xa_M := (⟨"NotedVolumeModel", "make", "(IZI)I"⟩, prog_10_method_17_code, 7, (some .int), [])
theorem ok_M_make : xa_O mm_M_make := ⟨by decide, Or.inr ⟨rfl, iw_1179⟩, iw_9, by decide, by decide⟩
def mm_M_named : xa_M := (⟨"NotedVolumeModel", "named", "(II)I"⟩, prog_10_method_6_code, 4, (some .int), [])
theorem ok_M_named : xa_O mm_M_named := ⟨by decide, Or.inr ⟨rfl, iw_1191⟩, iw_9, by decide, by decide⟩
def mm_M_note : xa_M := (⟨"NotedVolumeModel", "note", "(II)I"⟩, prog_10_method_29_code, 3, (some .int), [])
theorem ok_M_note : xa_O mm_M_note := ⟨by decide, Or.inr ⟨rfl, iw_1283⟩, iw_9, by decide, by decide⟩
def mm_M_noteChange : xa_M := (⟨"NotedVolumeModel", "noteChange", "(IIIIII)Z"⟩, prog_10_method_16_code, 8, (some .boolean), [])
theorem ok_M_noteChange : xa_O mm_M_noteChange := ⟨by decide, Or.inr ⟨rfl, iw_1227⟩, iw_9, by decide, by decide⟩
def mm_M_noteClosing : xa_M := (⟨"NotedVolumeModel", "noteClosing", "(II)V"⟩, prog_10_method_11_code, 4, none, [])
theorem ok_M_noteClosing : xa_O mm_M_noteClosing := ⟨by decide, Or.inr ⟨rfl, iw_1215⟩, iw_9, by decide, by decide⟩
def mm_M_of : xa_M := (⟨"NotedVolumeModel", "of", "(II)I"⟩, prog_10_method_23_code, 4, (some .int), [])
theorem ok_M_of : xa_O mm_M_of := ⟨by decide, Or.inr ⟨rfl, iw_1259⟩, iw_9, by decide, by decide⟩
def mm_M_open : xa_M := (⟨"NotedVolumeModel", "open", "()I"⟩, prog_10_method_22_code, 1, (some .int), [])
theorem ok_M_open : xa_O mm_M_open := ⟨by decide, Or.inr ⟨rfl, iw_1255⟩, iw_9, by decide, by decide⟩
def mm_M_opens : xa_M := (⟨"NotedVolumeModel", "opens", "(I)Z"⟩, prog_10_method_15_code, 2, (some .boolean), [])
theorem ok_M_opens : xa_O mm_M_opens := ⟨by decide, Or.inr ⟨rfl, iw_1199⟩, iw_9, by decide, by decide⟩
def mm_M_page : xa_M := (⟨"NotedVolumeModel", "page", "(I)I"⟩, prog_10_method_39_code, 2, (some .int), [])
theorem ok_M_page : xa_O mm_M_page := ⟨by decide, Or.inr ⟨rfl, iw_1314⟩, iw_9, by decide, by decide⟩
def mm_M_pageOf : xa_M := (⟨"NotedVolumeModel", "pageOf", "(I)I"⟩, prog_10_method_38_code, 5, (some .int), [])
theorem ok_M_pageOf : xa_O mm_M_pageOf := ⟨by decide, Or.inr ⟨rfl, iw_1318⟩, iw_9, by decide, by decide⟩
def mm_M_placeAbove : xa_M := (⟨"NotedVolumeModel", "placeAbove", "(I)I"⟩, prog_10_method_37_code, 4, (some .int), [])
theorem ok_M_placeAbove : xa_O mm_M_placeAbove := ⟨by decide, Or.inr ⟨rfl, iw_1322⟩, iw_9, by decide, by decide⟩
def mm_M_placeOf : xa_M := (⟨"NotedVolumeModel", "placeOf", "(I)I"⟩, prog_10_method_4_code, 3, (some .int), [])
theorem ok_M_placeOf : xa_O mm_M_placeOf := ⟨by decide, Or.inr ⟨rfl, iw_1183⟩, iw_9, by decide, by decide⟩
def mm_M_read : xa_M := (⟨"NotedVolumeModel", "read", "(I)I"⟩, prog_10_method_34_code, 2, (some .int), [])
theorem ok_M_read : xa_O mm_M_read := ⟨by decide, Or.inr ⟨rfl, iw_1298⟩, iw_9, by decide, by decide⟩
def mm_M_readBy : xa_M := (⟨"NotedVolumeModel", "readBy", "(II)I"⟩, prog_10_method_33_code, 4, (some .int), [])
theorem ok_M_readBy : xa_O mm_M_readBy := ⟨by decide, Or.inr ⟨rfl, iw_1302⟩, iw_9, by decide, by decide⟩
def mm_M_refused : xa_M := (⟨"NotedVolumeModel", "refused", "(ZZZZ)Z"⟩, prog_10_method_3_code, 5, (some .boolean), [])
theorem ok_M_refused : xa_O mm_M_refused := ⟨by decide, Or.inr ⟨rfl, iw_1195⟩, iw_9, by decide, by decide⟩
def mm_M_remove : xa_M := (⟨"NotedVolumeModel", "remove", "(I)Z"⟩, prog_10_method_20_code, 4, (some .boolean), [])
theorem ok_M_remove : xa_O mm_M_remove := ⟨by decide, Or.inr ⟨rfl, iw_1243⟩, iw_9, by decide, by decide⟩
def mm_M_rename : xa_M := (⟨"NotedVolumeModel", "rename", "(III)Z"⟩, prog_10_method_19_code, 9, (some .boolean), [])
theorem ok_M_rename : xa_O mm_M_rename := ⟨by decide, Or.inr ⟨rfl, iw_1235⟩, iw_9, by decide, by decide⟩
def mm_M_shown : xa_M := (⟨"NotedVolumeModel", "shown", "(II)I"⟩, prog_10_method_40_code, 3, (some .int), [])
theorem ok_M_shown : xa_O mm_M_shown := ⟨by decide, Or.inr ⟨rfl, iw_1326⟩, iw_9, by decide, by decide⟩
def mm_M_start : xa_M := (⟨"NotedVolumeModel", "start", "()I"⟩, prog_10_method_54_code, 6, (some .int), [])
theorem ok_M_start : xa_O mm_M_start := ⟨by decide, Or.inr ⟨rfl, iw_1374⟩, iw_9, by decide, by decide⟩
def mm_M_subscribe : xa_M := (⟨"NotedVolumeModel", "subscribe", "(II)V"⟩, prog_10_method_31_code, 4, none, [])
theorem ok_M_subscribe : xa_O mm_M_subscribe := ⟨by decide, Or.inr ⟨rfl, iw_1287⟩, iw_9, by decide, by decide⟩
def mm_M_tail : xa_M := (⟨"NotedVolumeModel", "tail", "()I"⟩, prog_10_method_27_code, 1, (some .int), [])
theorem ok_M_tail : xa_O mm_M_tail := ⟨by decide, Or.inr ⟨rfl, iw_1271⟩, iw_9, by decide, by decide⟩
def mm_M_tailNow : xa_M := (⟨"NotedVolumeModel", "tailNow", "()I"⟩, prog_10_method_26_code, 1, (some .int), [])
theorem ok_M_tailNow : xa_O mm_M_tailNow := ⟨by decide, Or.inr ⟨rfl, iw_1275⟩, iw_9, by decide, by decide⟩
def mm_M_thrown : xa_M := (⟨"NotedVolumeModel", "thrown", "()I"⟩, prog_10_method_2_code, 1, (some .int), [])
theorem ok_M_thrown : xa_O mm_M_thrown := ⟨by decide, Or.inr ⟨rfl, iw_1175⟩, iw_9, by decide, by decide⟩
def mm_M_writeNote : xa_M := (⟨"NotedVolumeModel", "writeNote", "(IIIIII)V"⟩, prog_10_method_10_code, 8, none, [])
theorem ok_M_writeNote : xa_O mm_M_writeNote := ⟨by decide, Or.inr ⟨rfl, iw_1219⟩, iw_9, by decide, by decide⟩
def mm_M_writes : xa_M := (⟨"NotedVolumeModel", "writes", "()Z"⟩, prog_10_method_9_code, 1, (some .boolean), [])
theorem ok_M_writes : xa_O mm_M_writes := ⟨by decide, Or.inr ⟨rfl, iw_1211⟩, iw_9, by decide, by decide⟩
theorem dd_M_init_0 : decode mm_M_init.2.1 0 = .ok (.aload_n 0, 1) := by decide +kernel
theorem dd_M_init_1 : decode mm_M_init.2.1 1 = .ok (.invokespecial 1, 3) := by decide +kernel
theorem dd_M_init_4 : decode mm_M_init.2.1 4 = .ok (.aload_n 0, 1) := by decide +kernel
theorem dd_M_init_5 : decode mm_M_init.2.1 5 = .ok (.bipush 20, 2) := by decide +kernel
theorem dd_M_init_7 : decode mm_M_init.2.1 7 = .ok (.newarray .int, 2) := by decide +kernel
theorem dd_M_init_9 : decode mm_M_init.2.1 9 = .ok (.putfield 7, 3) := by decide +kernel
theorem dd_M_init_12 : decode mm_M_init.2.1 12 = .ok (.aload_n 0, 1) := by decide +kernel
theorem dd_M_init_13 : decode mm_M_init.2.1 13 = .ok (.bipush 20, 2) := by decide +kernel
theorem dd_M_init_15 : decode mm_M_init.2.1 15 = .ok (.newarray .int, 2) := by decide +kernel
theorem dd_M_init_17 : decode mm_M_init.2.1 17 = .ok (.putfield 13, 3) := by decide +kernel
theorem dd_M_init_20 : decode mm_M_init.2.1 20 = .ok (.aload_n 0, 1) := by decide +kernel
theorem dd_M_init_21 : decode mm_M_init.2.1 21 = .ok (.bipush 20, 2) := by decide +kernel
theorem dd_M_init_23 : decode mm_M_init.2.1 23 = .ok (.newarray .int, 2) := by decide +kernel
theorem dd_M_init_25 : decode mm_M_init.2.1 25 = .ok (.putfield 16, 3) := by decide +kernel
theorem dd_M_init_28 : decode mm_M_init.2.1 28 = .ok (.aload_n 0, 1) := by decide +kernel
theorem dd_M_init_29 : decode mm_M_init.2.1 29 = .ok (.bipush 20, 2) := by decide +kernel
theorem dd_M_init_31 : decode mm_M_init.2.1 31 = .ok (.newarray .int, 2) := by decide +kernel
theorem dd_M_init_33 : decode mm_M_init.2.1 33 = .ok (.putfield 19, 3) := by decide +kernel
theorem dd_M_init_36 : decode mm_M_init.2.1 36 = .ok (.aload_n 0, 1) := by decide +kernel
theorem dd_M_init_37 : decode mm_M_init.2.1 37 = .ok (.bipush 20, 2) := by decide +kernel
theorem dd_M_init_39 : decode mm_M_init.2.1 39 = .ok (.newarray .int, 2) := by decide +kernel
theorem dd_M_init_41 : decode mm_M_init.2.1 41 = .ok (.putfield 22, 3) := by decide +kernel
theorem dd_M_init_44 : decode mm_M_init.2.1 44 = .ok (.aload_n 0, 1) := by decide +kernel
theorem dd_M_init_45 : decode mm_M_init.2.1 45 = .ok (.iconst 1, 1) := by decide +kernel
theorem dd_M_init_46 : decode mm_M_init.2.1 46 = .ok (.putfield 25, 3) := by decide +kernel
theorem dd_M_init_49 : decode mm_M_init.2.1 49 = .ok (.aload_n 0, 1) := by decide +kernel
theorem dd_M_init_50 : decode mm_M_init.2.1 50 = .ok (.bipush 96, 2) := by decide +kernel
theorem dd_M_init_52 : decode mm_M_init.2.1 52 = .ok (.newarray .int, 2) := by decide +kernel
theorem dd_M_init_54 : decode mm_M_init.2.1 54 = .ok (.putfield 29, 3) := by decide +kernel
theorem dd_M_init_57 : decode mm_M_init.2.1 57 = .ok (.aload_n 0, 1) := by decide +kernel
theorem dd_M_init_58 : decode mm_M_init.2.1 58 = .ok (.iconst 4, 1) := by decide +kernel
theorem dd_M_init_59 : decode mm_M_init.2.1 59 = .ok (.newarray .int, 2) := by decide +kernel
theorem dd_M_init_61 : decode mm_M_init.2.1 61 = .ok (.putfield 32, 3) := by decide +kernel
theorem dd_M_init_64 : decode mm_M_init.2.1 64 = .ok (.aload_n 0, 1) := by decide +kernel
theorem dd_M_init_65 : decode mm_M_init.2.1 65 = .ok (.iconst 4, 1) := by decide +kernel
theorem dd_M_init_66 : decode mm_M_init.2.1 66 = .ok (.newarray .int, 2) := by decide +kernel
theorem dd_M_init_68 : decode mm_M_init.2.1 68 = .ok (.putfield 35, 3) := by decide +kernel
theorem dd_M_init_71 : decode mm_M_init.2.1 71 = .ok (.aload_n 0, 1) := by decide +kernel
theorem dd_M_init_72 : decode mm_M_init.2.1 72 = .ok (.iconst (-1), 1) := by decide +kernel
theorem dd_M_init_73 : decode mm_M_init.2.1 73 = .ok (.putfield 38, 3) := by decide +kernel
theorem dd_M_init_76 : decode mm_M_init.2.1 76 = .ok (.aload_n 0, 1) := by decide +kernel
theorem dd_M_init_77 : decode mm_M_init.2.1 77 = .ok (.iconst 3, 1) := by decide +kernel
theorem dd_M_init_78 : decode mm_M_init.2.1 78 = .ok (.newarray .int, 2) := by decide +kernel
theorem dd_M_init_80 : decode mm_M_init.2.1 80 = .ok (.putfield 41, 3) := by decide +kernel
theorem dd_M_init_83 : decode mm_M_init.2.1 83 = .ok (.aload_n 0, 1) := by decide +kernel
theorem dd_M_init_84 : decode mm_M_init.2.1 84 = .ok (.iconst 3, 1) := by decide +kernel
theorem dd_M_init_85 : decode mm_M_init.2.1 85 = .ok (.newarray .int, 2) := by decide +kernel
theorem dd_M_init_87 : decode mm_M_init.2.1 87 = .ok (.putfield 44, 3) := by decide +kernel
theorem dd_M_init_90 : decode mm_M_init.2.1 90 = .ok (.aload_n 0, 1) := by decide +kernel
theorem dd_M_init_91 : decode mm_M_init.2.1 91 = .ok (.iconst 3, 1) := by decide +kernel
theorem dd_M_init_92 : decode mm_M_init.2.1 92 = .ok (.newarray .boolean, 2) := by decide +kernel
theorem dd_M_init_94 : decode mm_M_init.2.1 94 = .ok (.putfield 47, 3) := by decide +kernel
theorem dd_M_init_97 : decode mm_M_init.2.1 97 = .ok (.aload_n 0, 1) := by decide +kernel
theorem dd_M_init_98 : decode mm_M_init.2.1 98 = .ok (.iconst 3, 1) := by decide +kernel
theorem dd_M_init_99 : decode mm_M_init.2.1 99 = .ok (.newarray .int, 2) := by decide +kernel
theorem dd_M_init_101 : decode mm_M_init.2.1 101 = .ok (.putfield 51, 3) := by decide +kernel
theorem dd_M_init_104 : decode mm_M_init.2.1 104 = .ok (.aload_n 0, 1) := by decide +kernel
theorem dd_M_init_105 : decode mm_M_init.2.1 105 = .ok (.bipush 12, 2) := by decide +kernel
theorem dd_M_init_107 : decode mm_M_init.2.1 107 = .ok (.newarray .int, 2) := by decide +kernel
theorem dd_M_init_109 : decode mm_M_init.2.1 109 = .ok (.putfield 54, 3) := by decide +kernel
theorem dd_M_init_112 : decode mm_M_init.2.1 112 = .ok (.aload_n 0, 1) := by decide +kernel
theorem dd_M_init_113 : decode mm_M_init.2.1 113 = .ok (.iconst 3, 1) := by decide +kernel
theorem dd_M_init_114 : decode mm_M_init.2.1 114 = .ok (.newarray .int, 2) := by decide +kernel
theorem dd_M_init_116 : decode mm_M_init.2.1 116 = .ok (.putfield 57, 3) := by decide +kernel
theorem dd_M_init_119 : decode mm_M_init.2.1 119 = .ok (.aload_n 0, 1) := by decide +kernel
theorem dd_M_init_120 : decode mm_M_init.2.1 120 = .ok (.sipush 840, 3) := by decide +kernel
theorem dd_M_init_123 : decode mm_M_init.2.1 123 = .ok (.newarray .int, 2) := by decide +kernel
theorem dd_M_init_125 : decode mm_M_init.2.1 125 = .ok (.putfield 60, 3) := by decide +kernel
theorem dd_M_init_128 : decode mm_M_init.2.1 128 = .ok (.aload_n 0, 1) := by decide +kernel
theorem dd_M_init_129 : decode mm_M_init.2.1 129 = .ok (.sipush 840, 3) := by decide +kernel
theorem dd_M_init_132 : decode mm_M_init.2.1 132 = .ok (.newarray .int, 2) := by decide +kernel
theorem dd_M_init_134 : decode mm_M_init.2.1 134 = .ok (.putfield 63, 3) := by decide +kernel
theorem dd_M_init_137 : decode mm_M_init.2.1 137 = .ok (.aload_n 0, 1) := by decide +kernel
theorem dd_M_init_138 : decode mm_M_init.2.1 138 = .ok (.sipush 840, 3) := by decide +kernel
theorem dd_M_init_141 : decode mm_M_init.2.1 141 = .ok (.newarray .int, 2) := by decide +kernel
theorem dd_M_init_143 : decode mm_M_init.2.1 143 = .ok (.putfield 66, 3) := by decide +kernel
theorem dd_M_init_146 : decode mm_M_init.2.1 146 = .ok (.aload_n 0, 1) := by decide +kernel
theorem dd_M_init_147 : decode mm_M_init.2.1 147 = .ok (.sipush 840, 3) := by decide +kernel
theorem dd_M_init_150 : decode mm_M_init.2.1 150 = .ok (.newarray .int, 2) := by decide +kernel
theorem dd_M_init_152 : decode mm_M_init.2.1 152 = .ok (.putfield 69, 3) := by decide +kernel
theorem dd_M_init_155 : decode mm_M_init.2.1 155 = .ok (.aload_n 0, 1) := by decide +kernel
theorem dd_M_init_156 : decode mm_M_init.2.1 156 = .ok (.sipush 840, 3) := by decide +kernel
theorem dd_M_init_159 : decode mm_M_init.2.1 159 = .ok (.newarray .int, 2) := by decide +kernel
theorem dd_M_init_161 : decode mm_M_init.2.1 161 = .ok (.putfield 72, 3) := by decide +kernel
theorem dd_M_init_164 : decode mm_M_init.2.1 164 = .ok (.aload_n 0, 1) := by decide +kernel
theorem dd_M_init_165 : decode mm_M_init.2.1 165 = .ok (.bipush 16, 2) := by decide +kernel
theorem dd_M_init_167 : decode mm_M_init.2.1 167 = .ok (.newarray .int, 2) := by decide +kernel
theorem dd_M_init_169 : decode mm_M_init.2.1 169 = .ok (.putfield 75, 3) := by decide +kernel
theorem dd_M_init_172 : decode mm_M_init.2.1 172 = .ok (.aload_n 0, 1) := by decide +kernel
theorem dd_M_init_173 : decode mm_M_init.2.1 173 = .ok (.bipush 16, 2) := by decide +kernel
theorem dd_M_init_175 : decode mm_M_init.2.1 175 = .ok (.newarray .int, 2) := by decide +kernel
theorem dd_M_init_177 : decode mm_M_init.2.1 177 = .ok (.putfield 78, 3) := by decide +kernel
theorem dd_M_init_180 : decode mm_M_init.2.1 180 = .ok (.iconst 0, 1) := by decide +kernel
theorem dd_M_init_181 : decode mm_M_init.2.1 181 = .ok (.istore_n 1, 1) := by decide +kernel
theorem dd_M_init_182 : decode mm_M_init.2.1 182 = .ok (.iload_n 1, 1) := by decide +kernel
theorem dd_M_init_183 : decode mm_M_init.2.1 183 = .ok (.iconst 3, 1) := by decide +kernel
theorem dd_M_init_184 : decode mm_M_init.2.1 184 = .ok (.if_icmp .ge 48, 3) := by decide +kernel
theorem dd_M_init_187 : decode mm_M_init.2.1 187 = .ok (.aload_n 0, 1) := by decide +kernel
theorem dd_M_init_188 : decode mm_M_init.2.1 188 = .ok (.getfield 41, 3) := by decide +kernel
theorem dd_M_init_191 : decode mm_M_init.2.1 191 = .ok (.iload_n 1, 1) := by decide +kernel
theorem dd_M_init_192 : decode mm_M_init.2.1 192 = .ok (.iconst 1, 1) := by decide +kernel
theorem dd_M_init_193 : decode mm_M_init.2.1 193 = .ok (.iastore, 1) := by decide +kernel
theorem dd_M_init_194 : decode mm_M_init.2.1 194 = .ok (.aload_n 0, 1) := by decide +kernel
theorem dd_M_init_195 : decode mm_M_init.2.1 195 = .ok (.getfield 44, 3) := by decide +kernel
theorem dd_M_init_198 : decode mm_M_init.2.1 198 = .ok (.iload_n 1, 1) := by decide +kernel
theorem dd_M_init_199 : decode mm_M_init.2.1 199 = .ok (.bipush 127, 2) := by decide +kernel
theorem dd_M_init_201 : decode mm_M_init.2.1 201 = .ok (.iastore, 1) := by decide +kernel
theorem dd_M_init_202 : decode mm_M_init.2.1 202 = .ok (.iconst 0, 1) := by decide +kernel
theorem dd_M_init_203 : decode mm_M_init.2.1 203 = .ok (.istore_n 2, 1) := by decide +kernel
theorem dd_M_init_204 : decode mm_M_init.2.1 204 = .ok (.iload_n 2, 1) := by decide +kernel
theorem dd_M_init_205 : decode mm_M_init.2.1 205 = .ok (.iconst 4, 1) := by decide +kernel
theorem dd_M_init_206 : decode mm_M_init.2.1 206 = .ok (.if_icmp .ge 20, 3) := by decide +kernel
theorem dd_M_init_209 : decode mm_M_init.2.1 209 = .ok (.aload_n 0, 1) := by decide +kernel
theorem dd_M_init_210 : decode mm_M_init.2.1 210 = .ok (.getfield 54, 3) := by decide +kernel
theorem dd_M_init_213 : decode mm_M_init.2.1 213 = .ok (.iconst 4, 1) := by decide +kernel
theorem dd_M_init_214 : decode mm_M_init.2.1 214 = .ok (.iload_n 1, 1) := by decide +kernel
theorem dd_M_init_215 : decode mm_M_init.2.1 215 = .ok (.imul, 1) := by decide +kernel
theorem dd_M_init_216 : decode mm_M_init.2.1 216 = .ok (.iload_n 2, 1) := by decide +kernel
theorem dd_M_init_217 : decode mm_M_init.2.1 217 = .ok (.iadd, 1) := by decide +kernel
theorem dd_M_init_218 : decode mm_M_init.2.1 218 = .ok (.iconst (-1), 1) := by decide +kernel
theorem dd_M_init_219 : decode mm_M_init.2.1 219 = .ok (.iastore, 1) := by decide +kernel
theorem dd_M_init_220 : decode mm_M_init.2.1 220 = .ok (.iinc 2 1, 3) := by decide +kernel
theorem dd_M_init_223 : decode mm_M_init.2.1 223 = .ok (.goto (-19), 3) := by decide +kernel
theorem dd_M_init_226 : decode mm_M_init.2.1 226 = .ok (.iinc 1 1, 3) := by decide +kernel
theorem dd_M_init_229 : decode mm_M_init.2.1 229 = .ok (.goto (-47), 3) := by decide +kernel
theorem dd_M_init_232 : decode mm_M_init.2.1 232 = .ok (.return_, 1) := by decide +kernel
theorem dd_M_act_0 : decode mm_M_act.2.1 0 = .ok (.aload_n 0, 1) := by decide +kernel
theorem dd_M_act_1 : decode mm_M_act.2.1 1 = .ok (.getfield 47, 3) := by decide +kernel
theorem dd_M_act_4 : decode mm_M_act.2.1 4 = .ok (.iload_n 1, 1) := by decide +kernel
theorem dd_M_act_5 : decode mm_M_act.2.1 5 = .ok (.baload, 1) := by decide +kernel
theorem dd_M_act_6 : decode mm_M_act.2.1 6 = .ok (.ifCond .eq 10, 3) := by decide +kernel
theorem dd_M_act_9 : decode mm_M_act.2.1 9 = .ok (.aload_n 0, 1) := by decide +kernel
theorem dd_M_act_10 : decode mm_M_act.2.1 10 = .ok (.iload_n 1, 1) := by decide +kernel
theorem dd_M_act_11 : decode mm_M_act.2.1 11 = .ok (.invokevirtual 180, 3) := by decide +kernel
theorem dd_M_act_14 : decode mm_M_act.2.1 14 = .ok (.iconst 1, 1) := by decide +kernel
theorem dd_M_act_15 : decode mm_M_act.2.1 15 = .ok (.ireturn, 1) := by decide +kernel
theorem dd_M_act_16 : decode mm_M_act.2.1 16 = .ok (.aload_n 0, 1) := by decide +kernel
theorem dd_M_act_17 : decode mm_M_act.2.1 17 = .ok (.iload_n 1, 1) := by decide +kernel
theorem dd_M_act_18 : decode mm_M_act.2.1 18 = .ok (.bipush 127, 2) := by decide +kernel
theorem dd_M_act_20 : decode mm_M_act.2.1 20 = .ok (.invokevirtual 156, 3) := by decide +kernel
theorem dd_M_act_23 : decode mm_M_act.2.1 23 = .ok (.istore_n 2, 1) := by decide +kernel
theorem dd_M_act_24 : decode mm_M_act.2.1 24 = .ok (.iload_n 2, 1) := by decide +kernel
theorem dd_M_act_25 : decode mm_M_act.2.1 25 = .ok (.iconst (-1), 1) := by decide +kernel
theorem dd_M_act_26 : decode mm_M_act.2.1 26 = .ok (.if_icmp .ne 10, 3) := by decide +kernel
theorem dd_M_act_29 : decode mm_M_act.2.1 29 = .ok (.aload_n 0, 1) := by decide +kernel
theorem dd_M_act_30 : decode mm_M_act.2.1 30 = .ok (.iload_n 1, 1) := by decide +kernel
theorem dd_M_act_31 : decode mm_M_act.2.1 31 = .ok (.invokevirtual 159, 3) := by decide +kernel
theorem dd_M_act_34 : decode mm_M_act.2.1 34 = .ok (.iconst 1, 1) := by decide +kernel
theorem dd_M_act_35 : decode mm_M_act.2.1 35 = .ok (.ireturn, 1) := by decide +kernel
theorem dd_M_act_36 : decode mm_M_act.2.1 36 = .ok (.iload_n 2, 1) := by decide +kernel
theorem dd_M_act_37 : decode mm_M_act.2.1 37 = .ok (.ifCond .le 9, 3) := by decide +kernel
theorem dd_M_act_40 : decode mm_M_act.2.1 40 = .ok (.aload_n 0, 1) := by decide +kernel
theorem dd_M_act_41 : decode mm_M_act.2.1 41 = .ok (.iload_n 1, 1) := by decide +kernel
theorem dd_M_act_42 : decode mm_M_act.2.1 42 = .ok (.iload_n 2, 1) := by decide +kernel
theorem dd_M_act_43 : decode mm_M_act.2.1 43 = .ok (.invokevirtual 183, 3) := by decide +kernel
theorem dd_M_act_46 : decode mm_M_act.2.1 46 = .ok (.iload_n 2, 1) := by decide +kernel
theorem dd_M_act_47 : decode mm_M_act.2.1 47 = .ok (.ifCond .le 7, 3) := by decide +kernel
theorem dd_M_act_50 : decode mm_M_act.2.1 50 = .ok (.iconst 1, 1) := by decide +kernel
theorem dd_M_act_51 : decode mm_M_act.2.1 51 = .ok (.goto 4, 3) := by decide +kernel
theorem dd_M_act_54 : decode mm_M_act.2.1 54 = .ok (.iconst 0, 1) := by decide +kernel
theorem dd_M_act_55 : decode mm_M_act.2.1 55 = .ok (.ireturn, 1) := by decide +kernel
theorem dd_M_beginList_0 : decode mm_M_beginList.2.1 0 = .ok (.aload_n 0, 1) := by decide +kernel
theorem dd_M_beginList_1 : decode mm_M_beginList.2.1 1 = .ok (.getfield 47, 3) := by decide +kernel
theorem dd_M_beginList_4 : decode mm_M_beginList.2.1 4 = .ok (.iload_n 1, 1) := by decide +kernel
theorem dd_M_beginList_5 : decode mm_M_beginList.2.1 5 = .ok (.iconst 1, 1) := by decide +kernel
theorem dd_M_beginList_6 : decode mm_M_beginList.2.1 6 = .ok (.bastore, 1) := by decide +kernel
theorem dd_M_beginList_7 : decode mm_M_beginList.2.1 7 = .ok (.aload_n 0, 1) := by decide +kernel
theorem dd_M_beginList_8 : decode mm_M_beginList.2.1 8 = .ok (.getfield 51, 3) := by decide +kernel
theorem dd_M_beginList_11 : decode mm_M_beginList.2.1 11 = .ok (.iload_n 1, 1) := by decide +kernel
theorem dd_M_beginList_12 : decode mm_M_beginList.2.1 12 = .ok (.iconst 0, 1) := by decide +kernel
theorem dd_M_beginList_13 : decode mm_M_beginList.2.1 13 = .ok (.iastore, 1) := by decide +kernel
theorem dd_M_beginList_14 : decode mm_M_beginList.2.1 14 = .ok (.aload_n 0, 1) := by decide +kernel
theorem dd_M_beginList_15 : decode mm_M_beginList.2.1 15 = .ok (.getfield 41, 3) := by decide +kernel
theorem dd_M_beginList_18 : decode mm_M_beginList.2.1 18 = .ok (.iload_n 1, 1) := by decide +kernel
theorem dd_M_beginList_19 : decode mm_M_beginList.2.1 19 = .ok (.aload_n 0, 1) := by decide +kernel
theorem dd_M_beginList_20 : decode mm_M_beginList.2.1 20 = .ok (.getfield 25, 3) := by decide +kernel
theorem dd_M_beginList_23 : decode mm_M_beginList.2.1 23 = .ok (.iastore, 1) := by decide +kernel
theorem dd_M_beginList_24 : decode mm_M_beginList.2.1 24 = .ok (.return_, 1) := by decide +kernel
theorem dd_M_change_0 : decode mm_M_change.2.1 0 = .ok (.aload_n 0, 1) := by decide +kernel
theorem dd_M_change_1 : decode mm_M_change.2.1 1 = .ok (.iload_n 1, 1) := by decide +kernel
theorem dd_M_change_2 : decode mm_M_change.2.1 2 = .ok (.invokevirtual 87, 3) := by decide +kernel
theorem dd_M_change_5 : decode mm_M_change.2.1 5 = .ok (.istore_n 2, 1) := by decide +kernel
theorem dd_M_change_6 : decode mm_M_change.2.1 6 = .ok (.aload_n 0, 1) := by decide +kernel
theorem dd_M_change_7 : decode mm_M_change.2.1 7 = .ok (.aload_n 0, 1) := by decide +kernel
theorem dd_M_change_8 : decode mm_M_change.2.1 8 = .ok (.getfield 91, 3) := by decide +kernel
theorem dd_M_change_11 : decode mm_M_change.2.1 11 = .ok (.iload_n 2, 1) := by decide +kernel
theorem dd_M_change_12 : decode mm_M_change.2.1 12 = .ok (.ifCond .ge 7, 3) := by decide +kernel
theorem dd_M_change_15 : decode mm_M_change.2.1 15 = .ok (.iconst 1, 1) := by decide +kernel
theorem dd_M_change_16 : decode mm_M_change.2.1 16 = .ok (.goto 4, 3) := by decide +kernel
theorem dd_M_change_19 : decode mm_M_change.2.1 19 = .ok (.iconst 0, 1) := by decide +kernel
theorem dd_M_change_20 : decode mm_M_change.2.1 20 = .ok (.iload_n 2, 1) := by decide +kernel
theorem dd_M_change_21 : decode mm_M_change.2.1 21 = .ok (.ifCond .lt 17, 3) := by decide +kernel
theorem dd_M_change_24 : decode mm_M_change.2.1 24 = .ok (.aload_n 0, 1) := by decide +kernel
theorem dd_M_change_25 : decode mm_M_change.2.1 25 = .ok (.getfield 13, 3) := by decide +kernel
theorem dd_M_change_28 : decode mm_M_change.2.1 28 = .ok (.iload_n 2, 1) := by decide +kernel
theorem dd_M_change_29 : decode mm_M_change.2.1 29 = .ok (.iaload, 1) := by decide +kernel
theorem dd_M_change_30 : decode mm_M_change.2.1 30 = .ok (.iconst 1, 1) := by decide +kernel
theorem dd_M_change_31 : decode mm_M_change.2.1 31 = .ok (.if_icmp .ne 7, 3) := by decide +kernel
theorem dd_M_change_34 : decode mm_M_change.2.1 34 = .ok (.iconst 1, 1) := by decide +kernel
theorem dd_M_change_35 : decode mm_M_change.2.1 35 = .ok (.goto 4, 3) := by decide +kernel
theorem dd_M_change_38 : decode mm_M_change.2.1 38 = .ok (.iconst 0, 1) := by decide +kernel
theorem dd_M_change_39 : decode mm_M_change.2.1 39 = .ok (.iconst 0, 1) := by decide +kernel
theorem dd_M_change_40 : decode mm_M_change.2.1 40 = .ok (.invokevirtual 128, 3) := by decide +kernel
theorem dd_M_change_43 : decode mm_M_change.2.1 43 = .ok (.ifCond .eq 5, 3) := by decide +kernel
theorem dd_M_change_46 : decode mm_M_change.2.1 46 = .ok (.iconst 0, 1) := by decide +kernel
theorem dd_M_change_47 : decode mm_M_change.2.1 47 = .ok (.ireturn, 1) := by decide +kernel
theorem dd_M_change_48 : decode mm_M_change.2.1 48 = .ok (.aload_n 0, 1) := by decide +kernel
theorem dd_M_change_49 : decode mm_M_change.2.1 49 = .ok (.getfield 22, 3) := by decide +kernel
theorem dd_M_change_52 : decode mm_M_change.2.1 52 = .ok (.iload_n 2, 1) := by decide +kernel
theorem dd_M_change_53 : decode mm_M_change.2.1 53 = .ok (.iaload, 1) := by decide +kernel
theorem dd_M_change_54 : decode mm_M_change.2.1 54 = .ok (.iconst 1, 1) := by decide +kernel
theorem dd_M_change_55 : decode mm_M_change.2.1 55 = .ok (.iadd, 1) := by decide +kernel
theorem dd_M_change_56 : decode mm_M_change.2.1 56 = .ok (.istore_n 3, 1) := by decide +kernel
theorem dd_M_change_57 : decode mm_M_change.2.1 57 = .ok (.aload_n 0, 1) := by decide +kernel
theorem dd_M_change_58 : decode mm_M_change.2.1 58 = .ok (.iload_n 1, 1) := by decide +kernel
theorem dd_M_change_59 : decode mm_M_change.2.1 59 = .ok (.invokevirtual 135, 3) := by decide +kernel
theorem dd_M_change_62 : decode mm_M_change.2.1 62 = .ok (.ifCond .eq 33, 3) := by decide +kernel
theorem dd_M_change_65 : decode mm_M_change.2.1 65 = .ok (.aload_n 0, 1) := by decide +kernel
theorem dd_M_change_66 : decode mm_M_change.2.1 66 = .ok (.iload_n 1, 1) := by decide +kernel
theorem dd_M_change_67 : decode mm_M_change.2.1 67 = .ok (.iconst 0, 1) := by decide +kernel
theorem dd_M_change_68 : decode mm_M_change.2.1 68 = .ok (.aload_n 0, 1) := by decide +kernel
theorem dd_M_change_69 : decode mm_M_change.2.1 69 = .ok (.getfield 16, 3) := by decide +kernel
theorem dd_M_change_72 : decode mm_M_change.2.1 72 = .ok (.iload_n 2, 1) := by decide +kernel
theorem dd_M_change_73 : decode mm_M_change.2.1 73 = .ok (.iaload, 1) := by decide +kernel
theorem dd_M_change_74 : decode mm_M_change.2.1 74 = .ok (.aload_n 0, 1) := by decide +kernel
theorem dd_M_change_75 : decode mm_M_change.2.1 75 = .ok (.getfield 19, 3) := by decide +kernel
theorem dd_M_change_78 : decode mm_M_change.2.1 78 = .ok (.iload_n 2, 1) := by decide +kernel
theorem dd_M_change_79 : decode mm_M_change.2.1 79 = .ok (.iaload, 1) := by decide +kernel
theorem dd_M_change_80 : decode mm_M_change.2.1 80 = .ok (.iload_n 3, 1) := by decide +kernel
theorem dd_M_change_81 : decode mm_M_change.2.1 81 = .ok (.iconst 2, 1) := by decide +kernel
theorem dd_M_change_82 : decode mm_M_change.2.1 82 = .ok (.invokevirtual 138, 3) := by decide +kernel
theorem dd_M_change_85 : decode mm_M_change.2.1 85 = .ok (.ifCond .eq 10, 3) := by decide +kernel
theorem dd_M_change_88 : decode mm_M_change.2.1 88 = .ok (.aload_n 0, 1) := by decide +kernel
theorem dd_M_change_89 : decode mm_M_change.2.1 89 = .ok (.invokevirtual 102, 3) := by decide +kernel
theorem dd_M_change_92 : decode mm_M_change.2.1 92 = .ok (.ifCond .ne 6, 3) := by decide +kernel
theorem dd_M_change_95 : decode mm_M_change.2.1 95 = .ok (.bipush (-2), 2) := by decide +kernel
theorem dd_M_change_97 : decode mm_M_change.2.1 97 = .ok (.ireturn, 1) := by decide +kernel
theorem dd_M_change_98 : decode mm_M_change.2.1 98 = .ok (.aload_n 0, 1) := by decide +kernel
theorem dd_M_change_99 : decode mm_M_change.2.1 99 = .ok (.getfield 22, 3) := by decide +kernel
theorem dd_M_change_102 : decode mm_M_change.2.1 102 = .ok (.iload_n 2, 1) := by decide +kernel
theorem dd_M_change_103 : decode mm_M_change.2.1 103 = .ok (.iload_n 3, 1) := by decide +kernel
theorem dd_M_change_104 : decode mm_M_change.2.1 104 = .ok (.iastore, 1) := by decide +kernel
theorem dd_M_change_105 : decode mm_M_change.2.1 105 = .ok (.iload_n 3, 1) := by decide +kernel
theorem dd_M_change_106 : decode mm_M_change.2.1 106 = .ok (.ireturn, 1) := by decide +kernel
theorem dd_M_close_0 : decode mm_M_close.2.1 0 = .ok (.aload_n 0, 1) := by decide +kernel
theorem dd_M_close_1 : decode mm_M_close.2.1 1 = .ok (.iload_n 1, 1) := by decide +kernel
theorem dd_M_close_2 : decode mm_M_close.2.1 2 = .ok (.invokevirtual 114, 3) := by decide +kernel
theorem dd_M_close_5 : decode mm_M_close.2.1 5 = .ok (.istore_n 2, 1) := by decide +kernel
theorem dd_M_close_6 : decode mm_M_close.2.1 6 = .ok (.aload_n 0, 1) := by decide +kernel
theorem dd_M_close_7 : decode mm_M_close.2.1 7 = .ok (.aload_n 0, 1) := by decide +kernel
theorem dd_M_close_8 : decode mm_M_close.2.1 8 = .ok (.getfield 91, 3) := by decide +kernel
theorem dd_M_close_11 : decode mm_M_close.2.1 11 = .ok (.iload_n 2, 1) := by decide +kernel
theorem dd_M_close_12 : decode mm_M_close.2.1 12 = .ok (.ifCond .ge 7, 3) := by decide +kernel
theorem dd_M_close_15 : decode mm_M_close.2.1 15 = .ok (.iconst 1, 1) := by decide +kernel
theorem dd_M_close_16 : decode mm_M_close.2.1 16 = .ok (.goto 4, 3) := by decide +kernel
theorem dd_M_close_19 : decode mm_M_close.2.1 19 = .ok (.iconst 0, 1) := by decide +kernel
theorem dd_M_close_20 : decode mm_M_close.2.1 20 = .ok (.iconst 0, 1) := by decide +kernel
theorem dd_M_close_21 : decode mm_M_close.2.1 21 = .ok (.iconst 0, 1) := by decide +kernel
theorem dd_M_close_22 : decode mm_M_close.2.1 22 = .ok (.invokevirtual 128, 3) := by decide +kernel
theorem dd_M_close_25 : decode mm_M_close.2.1 25 = .ok (.ifCond .ne 15, 3) := by decide +kernel
theorem dd_M_close_28 : decode mm_M_close.2.1 28 = .ok (.aload_n 0, 1) := by decide +kernel
theorem dd_M_close_29 : decode mm_M_close.2.1 29 = .ok (.iload_n 2, 1) := by decide +kernel
theorem dd_M_close_30 : decode mm_M_close.2.1 30 = .ok (.invokevirtual 117, 3) := by decide +kernel
theorem dd_M_close_33 : decode mm_M_close.2.1 33 = .ok (.ifCond .eq 7, 3) := by decide +kernel
theorem dd_M_close_36 : decode mm_M_close.2.1 36 = .ok (.iconst 1, 1) := by decide +kernel
theorem dd_M_close_37 : decode mm_M_close.2.1 37 = .ok (.goto 4, 3) := by decide +kernel
theorem dd_M_close_40 : decode mm_M_close.2.1 40 = .ok (.iconst 0, 1) := by decide +kernel
theorem dd_M_close_41 : decode mm_M_close.2.1 41 = .ok (.ireturn, 1) := by decide +kernel
theorem dd_M_closeGathering_0 : decode mm_M_closeGathering.2.1 0 = .ok (.aload_n 0, 1) := by decide +kernel
theorem dd_M_closeGathering_1 : decode mm_M_closeGathering.2.1 1 = .ok (.invokevirtual 102, 3) := by decide +kernel
theorem dd_M_closeGathering_4 : decode mm_M_closeGathering.2.1 4 = .ok (.ifCond .ne 5, 3) := by decide +kernel
theorem dd_M_closeGathering_7 : decode mm_M_closeGathering.2.1 7 = .ok (.iconst 0, 1) := by decide +kernel
theorem dd_M_closeGathering_8 : decode mm_M_closeGathering.2.1 8 = .ok (.ireturn, 1) := by decide +kernel
theorem dd_M_closeGathering_9 : decode mm_M_closeGathering.2.1 9 = .ok (.aload_n 0, 1) := by decide +kernel
theorem dd_M_closeGathering_10 : decode mm_M_closeGathering.2.1 10 = .ok (.aload_n 0, 1) := by decide +kernel
theorem dd_M_closeGathering_11 : decode mm_M_closeGathering.2.1 11 = .ok (.getfield 32, 3) := by decide +kernel
theorem dd_M_closeGathering_14 : decode mm_M_closeGathering.2.1 14 = .ok (.iload_n 1, 1) := by decide +kernel
theorem dd_M_closeGathering_15 : decode mm_M_closeGathering.2.1 15 = .ok (.iaload, 1) := by decide +kernel
theorem dd_M_closeGathering_16 : decode mm_M_closeGathering.2.1 16 = .ok (.aload_n 0, 1) := by decide +kernel
theorem dd_M_closeGathering_17 : decode mm_M_closeGathering.2.1 17 = .ok (.getfield 35, 3) := by decide +kernel
theorem dd_M_closeGathering_20 : decode mm_M_closeGathering.2.1 20 = .ok (.iload_n 1, 1) := by decide +kernel
theorem dd_M_closeGathering_21 : decode mm_M_closeGathering.2.1 21 = .ok (.iaload, 1) := by decide +kernel
theorem dd_M_closeGathering_22 : decode mm_M_closeGathering.2.1 22 = .ok (.invokevirtual 106, 3) := by decide +kernel
theorem dd_M_closeGathering_25 : decode mm_M_closeGathering.2.1 25 = .ok (.aload_n 0, 1) := by decide +kernel
theorem dd_M_closeGathering_26 : decode mm_M_closeGathering.2.1 26 = .ok (.iload_n 1, 1) := by decide +kernel
theorem dd_M_closeGathering_27 : decode mm_M_closeGathering.2.1 27 = .ok (.invokevirtual 110, 3) := by decide +kernel
theorem dd_M_closeGathering_30 : decode mm_M_closeGathering.2.1 30 = .ok (.iconst 1, 1) := by decide +kernel
theorem dd_M_closeGathering_31 : decode mm_M_closeGathering.2.1 31 = .ok (.ireturn, 1) := by decide +kernel
theorem dd_M_copied_0 : decode mm_M_copied.2.1 0 = .ok (.iload_n 1, 1) := by decide +kernel
theorem dd_M_copied_1 : decode mm_M_copied.2.1 1 = .ok (.invokestatic 153, 3) := by decide +kernel
theorem dd_M_copied_4 : decode mm_M_copied.2.1 4 = .ok (.ifCond .eq 12, 3) := by decide +kernel
theorem dd_M_copied_7 : decode mm_M_copied.2.1 7 = .ok (.iload_n 3, 1) := by decide +kernel
theorem dd_M_copied_8 : decode mm_M_copied.2.1 8 = .ok (.ifCond .lt 8, 3) := by decide +kernel
theorem dd_M_copied_11 : decode mm_M_copied.2.1 11 = .ok (.iload_n 3, 1) := by decide +kernel
theorem dd_M_copied_12 : decode mm_M_copied.2.1 12 = .ok (.iconst 3, 1) := by decide +kernel
theorem dd_M_copied_13 : decode mm_M_copied.2.1 13 = .ok (.if_icmp .le 7, 3) := by decide +kernel
theorem dd_M_copied_16 : decode mm_M_copied.2.1 16 = .ok (.iconst 1, 1) := by decide +kernel
theorem dd_M_copied_17 : decode mm_M_copied.2.1 17 = .ok (.goto 4, 3) := by decide +kernel
theorem dd_M_copied_20 : decode mm_M_copied.2.1 20 = .ok (.iconst 0, 1) := by decide +kernel
theorem dd_M_copied_21 : decode mm_M_copied.2.1 21 = .ok (.istore 4, 2) := by decide +kernel
theorem dd_M_copied_23 : decode mm_M_copied.2.1 23 = .ok (.iload 4, 2) := by decide +kernel
theorem dd_M_copied_25 : decode mm_M_copied.2.1 25 = .ok (.ifCond .eq 7, 3) := by decide +kernel
theorem dd_M_copied_28 : decode mm_M_copied.2.1 28 = .ok (.iconst (-1), 1) := by decide +kernel
theorem dd_M_copied_29 : decode mm_M_copied.2.1 29 = .ok (.goto 9, 3) := by decide +kernel
theorem dd_M_copied_32 : decode mm_M_copied.2.1 32 = .ok (.aload_n 0, 1) := by decide +kernel
theorem dd_M_copied_33 : decode mm_M_copied.2.1 33 = .ok (.iload_n 1, 1) := by decide +kernel
theorem dd_M_copied_34 : decode mm_M_copied.2.1 34 = .ok (.iload_n 2, 1) := by decide +kernel
theorem dd_M_copied_35 : decode mm_M_copied.2.1 35 = .ok (.invokevirtual 168, 3) := by decide +kernel
theorem dd_M_copied_38 : decode mm_M_copied.2.1 38 = .ok (.istore 5, 2) := by decide +kernel
theorem dd_M_copied_40 : decode mm_M_copied.2.1 40 = .ok (.aload_n 0, 1) := by decide +kernel
theorem dd_M_copied_41 : decode mm_M_copied.2.1 41 = .ok (.iload 4, 2) := by decide +kernel
theorem dd_M_copied_43 : decode mm_M_copied.2.1 43 = .ok (.iload 5, 2) := by decide +kernel
theorem dd_M_copied_45 : decode mm_M_copied.2.1 45 = .ok (.ifCond .ge 7, 3) := by decide +kernel
theorem dd_M_copied_48 : decode mm_M_copied.2.1 48 = .ok (.iconst 1, 1) := by decide +kernel
theorem dd_M_copied_49 : decode mm_M_copied.2.1 49 = .ok (.goto 4, 3) := by decide +kernel
theorem dd_M_copied_52 : decode mm_M_copied.2.1 52 = .ok (.iconst 0, 1) := by decide +kernel
theorem dd_M_copied_53 : decode mm_M_copied.2.1 53 = .ok (.iconst 0, 1) := by decide +kernel
theorem dd_M_copied_54 : decode mm_M_copied.2.1 54 = .ok (.iconst 0, 1) := by decide +kernel
theorem dd_M_copied_55 : decode mm_M_copied.2.1 55 = .ok (.invokevirtual 128, 3) := by decide +kernel
theorem dd_M_copied_58 : decode mm_M_copied.2.1 58 = .ok (.ifCond .eq 5, 3) := by decide +kernel
theorem dd_M_copied_61 : decode mm_M_copied.2.1 61 = .ok (.iconst 0, 1) := by decide +kernel
theorem dd_M_copied_62 : decode mm_M_copied.2.1 62 = .ok (.ireturn, 1) := by decide +kernel
theorem dd_M_copied_63 : decode mm_M_copied.2.1 63 = .ok (.iload_n 3, 1) := by decide +kernel
theorem dd_M_copied_64 : decode mm_M_copied.2.1 64 = .ok (.ifCond .ne 13, 3) := by decide +kernel
theorem dd_M_copied_67 : decode mm_M_copied.2.1 67 = .ok (.aload_n 0, 1) := by decide +kernel
theorem dd_M_copied_68 : decode mm_M_copied.2.1 68 = .ok (.getfield 63, 3) := by decide +kernel
theorem dd_M_copied_71 : decode mm_M_copied.2.1 71 = .ok (.iload 5, 2) := by decide +kernel
theorem dd_M_copied_73 : decode mm_M_copied.2.1 73 = .ok (.iaload, 1) := by decide +kernel
theorem dd_M_copied_74 : decode mm_M_copied.2.1 74 = .ok (.goto 40, 3) := by decide +kernel
theorem dd_M_copied_77 : decode mm_M_copied.2.1 77 = .ok (.iload_n 3, 1) := by decide +kernel
theorem dd_M_copied_78 : decode mm_M_copied.2.1 78 = .ok (.iconst 1, 1) := by decide +kernel
theorem dd_M_copied_79 : decode mm_M_copied.2.1 79 = .ok (.if_icmp .ne 13, 3) := by decide +kernel
theorem dd_M_copied_82 : decode mm_M_copied.2.1 82 = .ok (.aload_n 0, 1) := by decide +kernel
theorem dd_M_copied_83 : decode mm_M_copied.2.1 83 = .ok (.getfield 66, 3) := by decide +kernel
theorem dd_M_copied_86 : decode mm_M_copied.2.1 86 = .ok (.iload 5, 2) := by decide +kernel
theorem dd_M_copied_88 : decode mm_M_copied.2.1 88 = .ok (.iaload, 1) := by decide +kernel
theorem dd_M_copied_89 : decode mm_M_copied.2.1 89 = .ok (.goto 25, 3) := by decide +kernel
theorem dd_M_copied_92 : decode mm_M_copied.2.1 92 = .ok (.iload_n 3, 1) := by decide +kernel
theorem dd_M_copied_93 : decode mm_M_copied.2.1 93 = .ok (.iconst 2, 1) := by decide +kernel
theorem dd_M_copied_94 : decode mm_M_copied.2.1 94 = .ok (.if_icmp .ne 13, 3) := by decide +kernel
theorem dd_M_copied_97 : decode mm_M_copied.2.1 97 = .ok (.aload_n 0, 1) := by decide +kernel
theorem dd_M_copied_98 : decode mm_M_copied.2.1 98 = .ok (.getfield 69, 3) := by decide +kernel
theorem dd_M_copied_101 : decode mm_M_copied.2.1 101 = .ok (.iload 5, 2) := by decide +kernel
theorem dd_M_copied_103 : decode mm_M_copied.2.1 103 = .ok (.iaload, 1) := by decide +kernel
theorem dd_M_copied_104 : decode mm_M_copied.2.1 104 = .ok (.goto 10, 3) := by decide +kernel
theorem dd_M_copied_107 : decode mm_M_copied.2.1 107 = .ok (.aload_n 0, 1) := by decide +kernel
theorem dd_M_copied_108 : decode mm_M_copied.2.1 108 = .ok (.getfield 72, 3) := by decide +kernel
theorem dd_M_copied_111 : decode mm_M_copied.2.1 111 = .ok (.iload 5, 2) := by decide +kernel
theorem dd_M_copied_113 : decode mm_M_copied.2.1 113 = .ok (.iaload, 1) := by decide +kernel
theorem dd_M_copied_114 : decode mm_M_copied.2.1 114 = .ok (.ireturn, 1) := by decide +kernel
theorem dd_M_copyIn_0 : decode mm_M_copyIn.2.1 0 = .ok (.aload_n 0, 1) := by decide +kernel
theorem dd_M_copyIn_1 : decode mm_M_copyIn.2.1 1 = .ok (.iload_n 1, 1) := by decide +kernel
theorem dd_M_copyIn_2 : decode mm_M_copyIn.2.1 2 = .ok (.iload_n 2, 1) := by decide +kernel
theorem dd_M_copyIn_3 : decode mm_M_copyIn.2.1 3 = .ok (.invokevirtual 168, 3) := by decide +kernel
theorem dd_M_copyIn_6 : decode mm_M_copyIn.2.1 6 = .ok (.istore 7, 2) := by decide +kernel
theorem dd_M_copyIn_8 : decode mm_M_copyIn.2.1 8 = .ok (.iload 7, 2) := by decide +kernel
theorem dd_M_copyIn_10 : decode mm_M_copyIn.2.1 10 = .ok (.ifCond .ge 27, 3) := by decide +kernel
theorem dd_M_copyIn_13 : decode mm_M_copyIn.2.1 13 = .ok (.sipush 280, 3) := by decide +kernel
theorem dd_M_copyIn_16 : decode mm_M_copyIn.2.1 16 = .ok (.iload_n 1, 1) := by decide +kernel
theorem dd_M_copyIn_17 : decode mm_M_copyIn.2.1 17 = .ok (.imul, 1) := by decide +kernel
theorem dd_M_copyIn_18 : decode mm_M_copyIn.2.1 18 = .ok (.aload_n 0, 1) := by decide +kernel
theorem dd_M_copyIn_19 : decode mm_M_copyIn.2.1 19 = .ok (.getfield 57, 3) := by decide +kernel
theorem dd_M_copyIn_22 : decode mm_M_copyIn.2.1 22 = .ok (.iload_n 1, 1) := by decide +kernel
theorem dd_M_copyIn_23 : decode mm_M_copyIn.2.1 23 = .ok (.iaload, 1) := by decide +kernel
theorem dd_M_copyIn_24 : decode mm_M_copyIn.2.1 24 = .ok (.iadd, 1) := by decide +kernel
theorem dd_M_copyIn_25 : decode mm_M_copyIn.2.1 25 = .ok (.istore 7, 2) := by decide +kernel
theorem dd_M_copyIn_27 : decode mm_M_copyIn.2.1 27 = .ok (.aload_n 0, 1) := by decide +kernel
theorem dd_M_copyIn_28 : decode mm_M_copyIn.2.1 28 = .ok (.getfield 57, 3) := by decide +kernel
theorem dd_M_copyIn_31 : decode mm_M_copyIn.2.1 31 = .ok (.iload_n 1, 1) := by decide +kernel
theorem dd_M_copyIn_32 : decode mm_M_copyIn.2.1 32 = .ok (.dup2, 1) := by decide +kernel
theorem dd_M_copyIn_33 : decode mm_M_copyIn.2.1 33 = .ok (.iaload, 1) := by decide +kernel
theorem dd_M_copyIn_34 : decode mm_M_copyIn.2.1 34 = .ok (.iconst 1, 1) := by decide +kernel
theorem dd_M_copyIn_35 : decode mm_M_copyIn.2.1 35 = .ok (.iadd, 1) := by decide +kernel
theorem dd_M_copyIn_36 : decode mm_M_copyIn.2.1 36 = .ok (.iastore, 1) := by decide +kernel
theorem dd_M_copyIn_37 : decode mm_M_copyIn.2.1 37 = .ok (.aload_n 0, 1) := by decide +kernel
theorem dd_M_copyIn_38 : decode mm_M_copyIn.2.1 38 = .ok (.getfield 60, 3) := by decide +kernel
theorem dd_M_copyIn_41 : decode mm_M_copyIn.2.1 41 = .ok (.iload 7, 2) := by decide +kernel
theorem dd_M_copyIn_43 : decode mm_M_copyIn.2.1 43 = .ok (.iload_n 2, 1) := by decide +kernel
theorem dd_M_copyIn_44 : decode mm_M_copyIn.2.1 44 = .ok (.iastore, 1) := by decide +kernel
theorem dd_M_copyIn_45 : decode mm_M_copyIn.2.1 45 = .ok (.aload_n 0, 1) := by decide +kernel
theorem dd_M_copyIn_46 : decode mm_M_copyIn.2.1 46 = .ok (.getfield 63, 3) := by decide +kernel
theorem dd_M_copyIn_49 : decode mm_M_copyIn.2.1 49 = .ok (.iload 7, 2) := by decide +kernel
theorem dd_M_copyIn_51 : decode mm_M_copyIn.2.1 51 = .ok (.iload_n 3, 1) := by decide +kernel
theorem dd_M_copyIn_52 : decode mm_M_copyIn.2.1 52 = .ok (.iastore, 1) := by decide +kernel
theorem dd_M_copyIn_53 : decode mm_M_copyIn.2.1 53 = .ok (.aload_n 0, 1) := by decide +kernel
theorem dd_M_copyIn_54 : decode mm_M_copyIn.2.1 54 = .ok (.getfield 66, 3) := by decide +kernel
theorem dd_M_copyIn_57 : decode mm_M_copyIn.2.1 57 = .ok (.iload 7, 2) := by decide +kernel
theorem dd_M_copyIn_59 : decode mm_M_copyIn.2.1 59 = .ok (.iload 4, 2) := by decide +kernel
theorem dd_M_copyIn_61 : decode mm_M_copyIn.2.1 61 = .ok (.iastore, 1) := by decide +kernel
theorem dd_M_copyIn_62 : decode mm_M_copyIn.2.1 62 = .ok (.aload_n 0, 1) := by decide +kernel
theorem dd_M_copyIn_63 : decode mm_M_copyIn.2.1 63 = .ok (.getfield 69, 3) := by decide +kernel
theorem dd_M_copyIn_66 : decode mm_M_copyIn.2.1 66 = .ok (.iload 7, 2) := by decide +kernel
theorem dd_M_copyIn_68 : decode mm_M_copyIn.2.1 68 = .ok (.iload 5, 2) := by decide +kernel
theorem dd_M_copyIn_70 : decode mm_M_copyIn.2.1 70 = .ok (.iastore, 1) := by decide +kernel
theorem dd_M_copyIn_71 : decode mm_M_copyIn.2.1 71 = .ok (.aload_n 0, 1) := by decide +kernel
theorem dd_M_copyIn_72 : decode mm_M_copyIn.2.1 72 = .ok (.getfield 72, 3) := by decide +kernel
theorem dd_M_copyIn_75 : decode mm_M_copyIn.2.1 75 = .ok (.iload 7, 2) := by decide +kernel
theorem dd_M_copyIn_77 : decode mm_M_copyIn.2.1 77 = .ok (.iload 6, 2) := by decide +kernel
theorem dd_M_copyIn_79 : decode mm_M_copyIn.2.1 79 = .ok (.iastore, 1) := by decide +kernel
theorem dd_M_copyIn_80 : decode mm_M_copyIn.2.1 80 = .ok (.return_, 1) := by decide +kernel
theorem dd_M_copyNow_0 : decode mm_M_copyNow.2.1 0 = .ok (.aload_n 0, 1) := by decide +kernel
theorem dd_M_copyNow_1 : decode mm_M_copyNow.2.1 1 = .ok (.iload_n 2, 1) := by decide +kernel
theorem dd_M_copyNow_2 : decode mm_M_copyNow.2.1 2 = .ok (.invokevirtual 87, 3) := by decide +kernel
theorem dd_M_copyNow_5 : decode mm_M_copyNow.2.1 5 = .ok (.istore_n 3, 1) := by decide +kernel
theorem dd_M_copyNow_6 : decode mm_M_copyNow.2.1 6 = .ok (.aload_n 0, 1) := by decide +kernel
theorem dd_M_copyNow_7 : decode mm_M_copyNow.2.1 7 = .ok (.iload_n 1, 1) := by decide +kernel
theorem dd_M_copyNow_8 : decode mm_M_copyNow.2.1 8 = .ok (.iload_n 2, 1) := by decide +kernel
theorem dd_M_copyNow_9 : decode mm_M_copyNow.2.1 9 = .ok (.invokevirtual 168, 3) := by decide +kernel
theorem dd_M_copyNow_12 : decode mm_M_copyNow.2.1 12 = .ok (.istore 4, 2) := by decide +kernel
theorem dd_M_copyNow_14 : decode mm_M_copyNow.2.1 14 = .ok (.iload_n 3, 1) := by decide +kernel
theorem dd_M_copyNow_15 : decode mm_M_copyNow.2.1 15 = .ok (.ifCond .lt 36, 3) := by decide +kernel
theorem dd_M_copyNow_18 : decode mm_M_copyNow.2.1 18 = .ok (.aload_n 0, 1) := by decide +kernel
theorem dd_M_copyNow_19 : decode mm_M_copyNow.2.1 19 = .ok (.iload_n 1, 1) := by decide +kernel
theorem dd_M_copyNow_20 : decode mm_M_copyNow.2.1 20 = .ok (.iload_n 2, 1) := by decide +kernel
theorem dd_M_copyNow_21 : decode mm_M_copyNow.2.1 21 = .ok (.aload_n 0, 1) := by decide +kernel
theorem dd_M_copyNow_22 : decode mm_M_copyNow.2.1 22 = .ok (.getfield 13, 3) := by decide +kernel
theorem dd_M_copyNow_25 : decode mm_M_copyNow.2.1 25 = .ok (.iload_n 3, 1) := by decide +kernel
theorem dd_M_copyNow_26 : decode mm_M_copyNow.2.1 26 = .ok (.iaload, 1) := by decide +kernel
theorem dd_M_copyNow_27 : decode mm_M_copyNow.2.1 27 = .ok (.aload_n 0, 1) := by decide +kernel
theorem dd_M_copyNow_28 : decode mm_M_copyNow.2.1 28 = .ok (.getfield 16, 3) := by decide +kernel
theorem dd_M_copyNow_31 : decode mm_M_copyNow.2.1 31 = .ok (.iload_n 3, 1) := by decide +kernel
theorem dd_M_copyNow_32 : decode mm_M_copyNow.2.1 32 = .ok (.iaload, 1) := by decide +kernel
theorem dd_M_copyNow_33 : decode mm_M_copyNow.2.1 33 = .ok (.aload_n 0, 1) := by decide +kernel
theorem dd_M_copyNow_34 : decode mm_M_copyNow.2.1 34 = .ok (.getfield 19, 3) := by decide +kernel
theorem dd_M_copyNow_37 : decode mm_M_copyNow.2.1 37 = .ok (.iload_n 3, 1) := by decide +kernel
theorem dd_M_copyNow_38 : decode mm_M_copyNow.2.1 38 = .ok (.iaload, 1) := by decide +kernel
theorem dd_M_copyNow_39 : decode mm_M_copyNow.2.1 39 = .ok (.aload_n 0, 1) := by decide +kernel
theorem dd_M_copyNow_40 : decode mm_M_copyNow.2.1 40 = .ok (.getfield 22, 3) := by decide +kernel
theorem dd_M_copyNow_43 : decode mm_M_copyNow.2.1 43 = .ok (.iload_n 3, 1) := by decide +kernel
theorem dd_M_copyNow_44 : decode mm_M_copyNow.2.1 44 = .ok (.iaload, 1) := by decide +kernel
theorem dd_M_copyNow_45 : decode mm_M_copyNow.2.1 45 = .ok (.invokevirtual 171, 3) := by decide +kernel
theorem dd_M_copyNow_48 : decode mm_M_copyNow.2.1 48 = .ok (.goto 15, 3) := by decide +kernel
theorem dd_M_copyNow_51 : decode mm_M_copyNow.2.1 51 = .ok (.iload 4, 2) := by decide +kernel
theorem dd_M_copyNow_53 : decode mm_M_copyNow.2.1 53 = .ok (.ifCond .lt 10, 3) := by decide +kernel
theorem dd_M_copyNow_56 : decode mm_M_copyNow.2.1 56 = .ok (.aload_n 0, 1) := by decide +kernel
theorem dd_M_copyNow_57 : decode mm_M_copyNow.2.1 57 = .ok (.iload_n 1, 1) := by decide +kernel
theorem dd_M_copyNow_58 : decode mm_M_copyNow.2.1 58 = .ok (.iload 4, 2) := by decide +kernel
theorem dd_M_copyNow_60 : decode mm_M_copyNow.2.1 60 = .ok (.invokevirtual 174, 3) := by decide +kernel
theorem dd_M_copyNow_63 : decode mm_M_copyNow.2.1 63 = .ok (.return_, 1) := by decide +kernel
theorem dd_M_copyOut_0 : decode mm_M_copyOut.2.1 0 = .ok (.aload_n 0, 1) := by decide +kernel
theorem dd_M_copyOut_1 : decode mm_M_copyOut.2.1 1 = .ok (.getfield 57, 3) := by decide +kernel
theorem dd_M_copyOut_4 : decode mm_M_copyOut.2.1 4 = .ok (.iload_n 1, 1) := by decide +kernel
theorem dd_M_copyOut_5 : decode mm_M_copyOut.2.1 5 = .ok (.dup2, 1) := by decide +kernel
theorem dd_M_copyOut_6 : decode mm_M_copyOut.2.1 6 = .ok (.iaload, 1) := by decide +kernel
theorem dd_M_copyOut_7 : decode mm_M_copyOut.2.1 7 = .ok (.iconst 1, 1) := by decide +kernel
theorem dd_M_copyOut_8 : decode mm_M_copyOut.2.1 8 = .ok (.isub, 1) := by decide +kernel
theorem dd_M_copyOut_9 : decode mm_M_copyOut.2.1 9 = .ok (.iastore, 1) := by decide +kernel
theorem dd_M_copyOut_10 : decode mm_M_copyOut.2.1 10 = .ok (.sipush 280, 3) := by decide +kernel
theorem dd_M_copyOut_13 : decode mm_M_copyOut.2.1 13 = .ok (.iload_n 1, 1) := by decide +kernel
theorem dd_M_copyOut_14 : decode mm_M_copyOut.2.1 14 = .ok (.imul, 1) := by decide +kernel
theorem dd_M_copyOut_15 : decode mm_M_copyOut.2.1 15 = .ok (.aload_n 0, 1) := by decide +kernel
theorem dd_M_copyOut_16 : decode mm_M_copyOut.2.1 16 = .ok (.getfield 57, 3) := by decide +kernel
theorem dd_M_copyOut_19 : decode mm_M_copyOut.2.1 19 = .ok (.iload_n 1, 1) := by decide +kernel
theorem dd_M_copyOut_20 : decode mm_M_copyOut.2.1 20 = .ok (.iaload, 1) := by decide +kernel
theorem dd_M_copyOut_21 : decode mm_M_copyOut.2.1 21 = .ok (.iadd, 1) := by decide +kernel
theorem dd_M_copyOut_22 : decode mm_M_copyOut.2.1 22 = .ok (.istore_n 3, 1) := by decide +kernel
theorem dd_M_copyOut_23 : decode mm_M_copyOut.2.1 23 = .ok (.aload_n 0, 1) := by decide +kernel
theorem dd_M_copyOut_24 : decode mm_M_copyOut.2.1 24 = .ok (.getfield 60, 3) := by decide +kernel
theorem dd_M_copyOut_27 : decode mm_M_copyOut.2.1 27 = .ok (.iload_n 2, 1) := by decide +kernel
theorem dd_M_copyOut_28 : decode mm_M_copyOut.2.1 28 = .ok (.aload_n 0, 1) := by decide +kernel
theorem dd_M_copyOut_29 : decode mm_M_copyOut.2.1 29 = .ok (.getfield 60, 3) := by decide +kernel
theorem dd_M_copyOut_32 : decode mm_M_copyOut.2.1 32 = .ok (.iload_n 3, 1) := by decide +kernel
theorem dd_M_copyOut_33 : decode mm_M_copyOut.2.1 33 = .ok (.iaload, 1) := by decide +kernel
theorem dd_M_copyOut_34 : decode mm_M_copyOut.2.1 34 = .ok (.iastore, 1) := by decide +kernel
theorem dd_M_copyOut_35 : decode mm_M_copyOut.2.1 35 = .ok (.aload_n 0, 1) := by decide +kernel
theorem dd_M_copyOut_36 : decode mm_M_copyOut.2.1 36 = .ok (.getfield 63, 3) := by decide +kernel
theorem dd_M_copyOut_39 : decode mm_M_copyOut.2.1 39 = .ok (.iload_n 2, 1) := by decide +kernel
theorem dd_M_copyOut_40 : decode mm_M_copyOut.2.1 40 = .ok (.aload_n 0, 1) := by decide +kernel
theorem dd_M_copyOut_41 : decode mm_M_copyOut.2.1 41 = .ok (.getfield 63, 3) := by decide +kernel
theorem dd_M_copyOut_44 : decode mm_M_copyOut.2.1 44 = .ok (.iload_n 3, 1) := by decide +kernel
theorem dd_M_copyOut_45 : decode mm_M_copyOut.2.1 45 = .ok (.iaload, 1) := by decide +kernel
theorem dd_M_copyOut_46 : decode mm_M_copyOut.2.1 46 = .ok (.iastore, 1) := by decide +kernel
theorem dd_M_copyOut_47 : decode mm_M_copyOut.2.1 47 = .ok (.aload_n 0, 1) := by decide +kernel
theorem dd_M_copyOut_48 : decode mm_M_copyOut.2.1 48 = .ok (.getfield 66, 3) := by decide +kernel
theorem dd_M_copyOut_51 : decode mm_M_copyOut.2.1 51 = .ok (.iload_n 2, 1) := by decide +kernel
theorem dd_M_copyOut_52 : decode mm_M_copyOut.2.1 52 = .ok (.aload_n 0, 1) := by decide +kernel
theorem dd_M_copyOut_53 : decode mm_M_copyOut.2.1 53 = .ok (.getfield 66, 3) := by decide +kernel
theorem dd_M_copyOut_56 : decode mm_M_copyOut.2.1 56 = .ok (.iload_n 3, 1) := by decide +kernel
theorem dd_M_copyOut_57 : decode mm_M_copyOut.2.1 57 = .ok (.iaload, 1) := by decide +kernel
theorem dd_M_copyOut_58 : decode mm_M_copyOut.2.1 58 = .ok (.iastore, 1) := by decide +kernel
theorem dd_M_copyOut_59 : decode mm_M_copyOut.2.1 59 = .ok (.aload_n 0, 1) := by decide +kernel
theorem dd_M_copyOut_60 : decode mm_M_copyOut.2.1 60 = .ok (.getfield 69, 3) := by decide +kernel
theorem dd_M_copyOut_63 : decode mm_M_copyOut.2.1 63 = .ok (.iload_n 2, 1) := by decide +kernel
theorem dd_M_copyOut_64 : decode mm_M_copyOut.2.1 64 = .ok (.aload_n 0, 1) := by decide +kernel
theorem dd_M_copyOut_65 : decode mm_M_copyOut.2.1 65 = .ok (.getfield 69, 3) := by decide +kernel
theorem dd_M_copyOut_68 : decode mm_M_copyOut.2.1 68 = .ok (.iload_n 3, 1) := by decide +kernel
theorem dd_M_copyOut_69 : decode mm_M_copyOut.2.1 69 = .ok (.iaload, 1) := by decide +kernel
theorem dd_M_copyOut_70 : decode mm_M_copyOut.2.1 70 = .ok (.iastore, 1) := by decide +kernel
theorem dd_M_copyOut_71 : decode mm_M_copyOut.2.1 71 = .ok (.aload_n 0, 1) := by decide +kernel
theorem dd_M_copyOut_72 : decode mm_M_copyOut.2.1 72 = .ok (.getfield 72, 3) := by decide +kernel
theorem dd_M_copyOut_75 : decode mm_M_copyOut.2.1 75 = .ok (.iload_n 2, 1) := by decide +kernel
theorem dd_M_copyOut_76 : decode mm_M_copyOut.2.1 76 = .ok (.aload_n 0, 1) := by decide +kernel
theorem dd_M_copyOut_77 : decode mm_M_copyOut.2.1 77 = .ok (.getfield 72, 3) := by decide +kernel
theorem dd_M_copyOut_80 : decode mm_M_copyOut.2.1 80 = .ok (.iload_n 3, 1) := by decide +kernel
theorem dd_M_copyOut_81 : decode mm_M_copyOut.2.1 81 = .ok (.iaload, 1) := by decide +kernel
theorem dd_M_copyOut_82 : decode mm_M_copyOut.2.1 82 = .ok (.iastore, 1) := by decide +kernel
theorem dd_M_copyOut_83 : decode mm_M_copyOut.2.1 83 = .ok (.return_, 1) := by decide +kernel
theorem dd_M_copyPlace_0 : decode mm_M_copyPlace.2.1 0 = .ok (.sipush 280, 3) := by decide +kernel
theorem dd_M_copyPlace_3 : decode mm_M_copyPlace.2.1 3 = .ok (.iload_n 1, 1) := by decide +kernel
theorem dd_M_copyPlace_4 : decode mm_M_copyPlace.2.1 4 = .ok (.imul, 1) := by decide +kernel
theorem dd_M_copyPlace_5 : decode mm_M_copyPlace.2.1 5 = .ok (.istore_n 3, 1) := by decide +kernel
theorem dd_M_copyPlace_6 : decode mm_M_copyPlace.2.1 6 = .ok (.iload_n 3, 1) := by decide +kernel
theorem dd_M_copyPlace_7 : decode mm_M_copyPlace.2.1 7 = .ok (.sipush 280, 3) := by decide +kernel
theorem dd_M_copyPlace_10 : decode mm_M_copyPlace.2.1 10 = .ok (.iload_n 1, 1) := by decide +kernel
theorem dd_M_copyPlace_11 : decode mm_M_copyPlace.2.1 11 = .ok (.imul, 1) := by decide +kernel
theorem dd_M_copyPlace_12 : decode mm_M_copyPlace.2.1 12 = .ok (.aload_n 0, 1) := by decide +kernel
theorem dd_M_copyPlace_13 : decode mm_M_copyPlace.2.1 13 = .ok (.getfield 57, 3) := by decide +kernel
theorem dd_M_copyPlace_16 : decode mm_M_copyPlace.2.1 16 = .ok (.iload_n 1, 1) := by decide +kernel
theorem dd_M_copyPlace_17 : decode mm_M_copyPlace.2.1 17 = .ok (.iaload, 1) := by decide +kernel
theorem dd_M_copyPlace_18 : decode mm_M_copyPlace.2.1 18 = .ok (.iadd, 1) := by decide +kernel
theorem dd_M_copyPlace_19 : decode mm_M_copyPlace.2.1 19 = .ok (.if_icmp .ge 21, 3) := by decide +kernel
theorem dd_M_copyPlace_22 : decode mm_M_copyPlace.2.1 22 = .ok (.aload_n 0, 1) := by decide +kernel
theorem dd_M_copyPlace_23 : decode mm_M_copyPlace.2.1 23 = .ok (.getfield 60, 3) := by decide +kernel
theorem dd_M_copyPlace_26 : decode mm_M_copyPlace.2.1 26 = .ok (.iload_n 3, 1) := by decide +kernel
theorem dd_M_copyPlace_27 : decode mm_M_copyPlace.2.1 27 = .ok (.iaload, 1) := by decide +kernel
theorem dd_M_copyPlace_28 : decode mm_M_copyPlace.2.1 28 = .ok (.iload_n 2, 1) := by decide +kernel
theorem dd_M_copyPlace_29 : decode mm_M_copyPlace.2.1 29 = .ok (.if_icmp .ne 5, 3) := by decide +kernel
theorem dd_M_copyPlace_32 : decode mm_M_copyPlace.2.1 32 = .ok (.iload_n 3, 1) := by decide +kernel
theorem dd_M_copyPlace_33 : decode mm_M_copyPlace.2.1 33 = .ok (.ireturn, 1) := by decide +kernel
theorem dd_M_copyPlace_34 : decode mm_M_copyPlace.2.1 34 = .ok (.iinc 3 1, 3) := by decide +kernel
theorem dd_M_copyPlace_37 : decode mm_M_copyPlace.2.1 37 = .ok (.goto (-31), 3) := by decide +kernel
theorem dd_M_copyPlace_40 : decode mm_M_copyPlace.2.1 40 = .ok (.iconst (-1), 1) := by decide +kernel
theorem dd_M_copyPlace_41 : decode mm_M_copyPlace.2.1 41 = .ok (.ireturn, 1) := by decide +kernel
theorem dd_M_cursor_0 : decode mm_M_cursor.2.1 0 = .ok (.aload_n 0, 1) := by decide +kernel
theorem dd_M_cursor_1 : decode mm_M_cursor.2.1 1 = .ok (.iload_n 1, 1) := by decide +kernel
theorem dd_M_cursor_2 : decode mm_M_cursor.2.1 2 = .ok (.invokestatic 153, 3) := by decide +kernel
theorem dd_M_cursor_5 : decode mm_M_cursor.2.1 5 = .ok (.ifCond .ne 7, 3) := by decide +kernel
theorem dd_M_cursor_8 : decode mm_M_cursor.2.1 8 = .ok (.iconst 1, 1) := by decide +kernel
theorem dd_M_cursor_9 : decode mm_M_cursor.2.1 9 = .ok (.goto 4, 3) := by decide +kernel
theorem dd_M_cursor_12 : decode mm_M_cursor.2.1 12 = .ok (.iconst 0, 1) := by decide +kernel
theorem dd_M_cursor_13 : decode mm_M_cursor.2.1 13 = .ok (.iconst 0, 1) := by decide +kernel
theorem dd_M_cursor_14 : decode mm_M_cursor.2.1 14 = .ok (.iconst 0, 1) := by decide +kernel
theorem dd_M_cursor_15 : decode mm_M_cursor.2.1 15 = .ok (.iconst 0, 1) := by decide +kernel
theorem dd_M_cursor_16 : decode mm_M_cursor.2.1 16 = .ok (.invokevirtual 128, 3) := by decide +kernel
theorem dd_M_cursor_19 : decode mm_M_cursor.2.1 19 = .ok (.ifCond .eq 7, 3) := by decide +kernel
theorem dd_M_cursor_22 : decode mm_M_cursor.2.1 22 = .ok (.iconst 0, 1) := by decide +kernel
theorem dd_M_cursor_23 : decode mm_M_cursor.2.1 23 = .ok (.goto 9, 3) := by decide +kernel
theorem dd_M_cursor_26 : decode mm_M_cursor.2.1 26 = .ok (.aload_n 0, 1) := by decide +kernel
theorem dd_M_cursor_27 : decode mm_M_cursor.2.1 27 = .ok (.getfield 41, 3) := by decide +kernel
theorem dd_M_cursor_30 : decode mm_M_cursor.2.1 30 = .ok (.iload_n 1, 1) := by decide +kernel
theorem dd_M_cursor_31 : decode mm_M_cursor.2.1 31 = .ok (.iaload, 1) := by decide +kernel
theorem dd_M_cursor_32 : decode mm_M_cursor.2.1 32 = .ok (.ireturn, 1) := by decide +kernel
theorem dd_M_cutAfter_0 : decode mm_M_cutAfter.2.1 0 = .ok (.aload_n 0, 1) := by decide +kernel
theorem dd_M_cutAfter_1 : decode mm_M_cutAfter.2.1 1 = .ok (.iload_n 1, 1) := by decide +kernel
theorem dd_M_cutAfter_2 : decode mm_M_cutAfter.2.1 2 = .ok (.iconst (-1), 1) := by decide +kernel
theorem dd_M_cutAfter_3 : decode mm_M_cutAfter.2.1 3 = .ok (.if_icmp .ge 7, 3) := by decide +kernel
theorem dd_M_cutAfter_6 : decode mm_M_cutAfter.2.1 6 = .ok (.iconst 1, 1) := by decide +kernel
theorem dd_M_cutAfter_7 : decode mm_M_cutAfter.2.1 7 = .ok (.goto 4, 3) := by decide +kernel
theorem dd_M_cutAfter_10 : decode mm_M_cutAfter.2.1 10 = .ok (.iconst 0, 1) := by decide +kernel
theorem dd_M_cutAfter_11 : decode mm_M_cutAfter.2.1 11 = .ok (.iconst 0, 1) := by decide +kernel
theorem dd_M_cutAfter_12 : decode mm_M_cutAfter.2.1 12 = .ok (.iconst 0, 1) := by decide +kernel
theorem dd_M_cutAfter_13 : decode mm_M_cutAfter.2.1 13 = .ok (.iconst 0, 1) := by decide +kernel
theorem dd_M_cutAfter_14 : decode mm_M_cutAfter.2.1 14 = .ok (.invokevirtual 128, 3) := by decide +kernel
theorem dd_M_cutAfter_17 : decode mm_M_cutAfter.2.1 17 = .ok (.ifCond .ne 8, 3) := by decide +kernel
theorem dd_M_cutAfter_20 : decode mm_M_cutAfter.2.1 20 = .ok (.aload_n 0, 1) := by decide +kernel
theorem dd_M_cutAfter_21 : decode mm_M_cutAfter.2.1 21 = .ok (.iload_n 1, 1) := by decide +kernel
theorem dd_M_cutAfter_22 : decode mm_M_cutAfter.2.1 22 = .ok (.putfield 38, 3) := by decide +kernel
theorem dd_M_cutAfter_25 : decode mm_M_cutAfter.2.1 25 = .ok (.return_, 1) := by decide +kernel
theorem dd_M_dropGathering_0 : decode mm_M_dropGathering.2.1 0 = .ok (.aload_n 0, 1) := by decide +kernel
theorem dd_M_dropGathering_1 : decode mm_M_dropGathering.2.1 1 = .ok (.dup, 1) := by decide +kernel
theorem dd_M_dropGathering_2 : decode mm_M_dropGathering.2.1 2 = .ok (.getfield 95, 3) := by decide +kernel
theorem dd_M_dropGathering_5 : decode mm_M_dropGathering.2.1 5 = .ok (.iconst 1, 1) := by decide +kernel
theorem dd_M_dropGathering_6 : decode mm_M_dropGathering.2.1 6 = .ok (.isub, 1) := by decide +kernel
theorem dd_M_dropGathering_7 : decode mm_M_dropGathering.2.1 7 = .ok (.putfield 95, 3) := by decide +kernel
theorem dd_M_dropGathering_10 : decode mm_M_dropGathering.2.1 10 = .ok (.iload_n 1, 1) := by decide +kernel
theorem dd_M_dropGathering_11 : decode mm_M_dropGathering.2.1 11 = .ok (.istore_n 2, 1) := by decide +kernel
theorem dd_M_dropGathering_12 : decode mm_M_dropGathering.2.1 12 = .ok (.iload_n 2, 1) := by decide +kernel
theorem dd_M_dropGathering_13 : decode mm_M_dropGathering.2.1 13 = .ok (.aload_n 0, 1) := by decide +kernel
theorem dd_M_dropGathering_14 : decode mm_M_dropGathering.2.1 14 = .ok (.getfield 95, 3) := by decide +kernel
theorem dd_M_dropGathering_17 : decode mm_M_dropGathering.2.1 17 = .ok (.if_icmp .ge 37, 3) := by decide +kernel
theorem dd_M_dropGathering_20 : decode mm_M_dropGathering.2.1 20 = .ok (.aload_n 0, 1) := by decide +kernel
theorem dd_M_dropGathering_21 : decode mm_M_dropGathering.2.1 21 = .ok (.getfield 32, 3) := by decide +kernel
theorem dd_M_dropGathering_24 : decode mm_M_dropGathering.2.1 24 = .ok (.iload_n 2, 1) := by decide +kernel
theorem dd_M_dropGathering_25 : decode mm_M_dropGathering.2.1 25 = .ok (.aload_n 0, 1) := by decide +kernel
theorem dd_M_dropGathering_26 : decode mm_M_dropGathering.2.1 26 = .ok (.getfield 32, 3) := by decide +kernel
theorem dd_M_dropGathering_29 : decode mm_M_dropGathering.2.1 29 = .ok (.iload_n 2, 1) := by decide +kernel
theorem dd_M_dropGathering_30 : decode mm_M_dropGathering.2.1 30 = .ok (.iconst 1, 1) := by decide +kernel
theorem dd_M_dropGathering_31 : decode mm_M_dropGathering.2.1 31 = .ok (.iadd, 1) := by decide +kernel
theorem dd_M_dropGathering_32 : decode mm_M_dropGathering.2.1 32 = .ok (.iaload, 1) := by decide +kernel
theorem dd_M_dropGathering_33 : decode mm_M_dropGathering.2.1 33 = .ok (.iastore, 1) := by decide +kernel
theorem dd_M_dropGathering_34 : decode mm_M_dropGathering.2.1 34 = .ok (.aload_n 0, 1) := by decide +kernel
theorem dd_M_dropGathering_35 : decode mm_M_dropGathering.2.1 35 = .ok (.getfield 35, 3) := by decide +kernel
theorem dd_M_dropGathering_38 : decode mm_M_dropGathering.2.1 38 = .ok (.iload_n 2, 1) := by decide +kernel
theorem dd_M_dropGathering_39 : decode mm_M_dropGathering.2.1 39 = .ok (.aload_n 0, 1) := by decide +kernel
theorem dd_M_dropGathering_40 : decode mm_M_dropGathering.2.1 40 = .ok (.getfield 35, 3) := by decide +kernel
theorem dd_M_dropGathering_43 : decode mm_M_dropGathering.2.1 43 = .ok (.iload_n 2, 1) := by decide +kernel
theorem dd_M_dropGathering_44 : decode mm_M_dropGathering.2.1 44 = .ok (.iconst 1, 1) := by decide +kernel
theorem dd_M_dropGathering_45 : decode mm_M_dropGathering.2.1 45 = .ok (.iadd, 1) := by decide +kernel
theorem dd_M_dropGathering_46 : decode mm_M_dropGathering.2.1 46 = .ok (.iaload, 1) := by decide +kernel
theorem dd_M_dropGathering_47 : decode mm_M_dropGathering.2.1 47 = .ok (.iastore, 1) := by decide +kernel
theorem dd_M_dropGathering_48 : decode mm_M_dropGathering.2.1 48 = .ok (.iinc 2 1, 3) := by decide +kernel
theorem dd_M_dropGathering_51 : decode mm_M_dropGathering.2.1 51 = .ok (.goto (-39), 3) := by decide +kernel
theorem dd_M_dropGathering_54 : decode mm_M_dropGathering.2.1 54 = .ok (.return_, 1) := by decide +kernel
theorem dd_M_find_0 : decode mm_M_find.2.1 0 = .ok (.aload_n 0, 1) := by decide +kernel
theorem dd_M_find_1 : decode mm_M_find.2.1 1 = .ok (.iconst 0, 1) := by decide +kernel
theorem dd_M_find_2 : decode mm_M_find.2.1 2 = .ok (.putfield 81, 3) := by decide +kernel
theorem dd_M_find_5 : decode mm_M_find.2.1 5 = .ok (.aload_n 0, 1) := by decide +kernel
theorem dd_M_find_6 : decode mm_M_find.2.1 6 = .ok (.iload_n 1, 1) := by decide +kernel
theorem dd_M_find_7 : decode mm_M_find.2.1 7 = .ok (.iload_n 2, 1) := by decide +kernel
theorem dd_M_find_8 : decode mm_M_find.2.1 8 = .ok (.invokevirtual 124, 3) := by decide +kernel
theorem dd_M_find_11 : decode mm_M_find.2.1 11 = .ok (.ireturn, 1) := by decide +kernel
theorem dd_M_follow_0 : decode mm_M_follow.2.1 0 = .ok (.aload_n 0, 1) := by decide +kernel
theorem dd_M_follow_1 : decode mm_M_follow.2.1 1 = .ok (.iload_n 1, 1) := by decide +kernel
theorem dd_M_follow_2 : decode mm_M_follow.2.1 2 = .ok (.invokestatic 153, 3) := by decide +kernel
theorem dd_M_follow_5 : decode mm_M_follow.2.1 5 = .ok (.ifCond .ne 7, 3) := by decide +kernel
theorem dd_M_follow_8 : decode mm_M_follow.2.1 8 = .ok (.iconst 1, 1) := by decide +kernel
theorem dd_M_follow_9 : decode mm_M_follow.2.1 9 = .ok (.goto 4, 3) := by decide +kernel
theorem dd_M_follow_12 : decode mm_M_follow.2.1 12 = .ok (.iconst 0, 1) := by decide +kernel
theorem dd_M_follow_13 : decode mm_M_follow.2.1 13 = .ok (.iload_n 2, 1) := by decide +kernel
theorem dd_M_follow_14 : decode mm_M_follow.2.1 14 = .ok (.ifCond .lt 9, 3) := by decide +kernel
theorem dd_M_follow_17 : decode mm_M_follow.2.1 17 = .ok (.iload_n 2, 1) := by decide +kernel
theorem dd_M_follow_18 : decode mm_M_follow.2.1 18 = .ok (.bipush 40, 2) := by decide +kernel
theorem dd_M_follow_20 : decode mm_M_follow.2.1 20 = .ok (.if_icmp .le 7, 3) := by decide +kernel
theorem dd_M_follow_23 : decode mm_M_follow.2.1 23 = .ok (.iconst 1, 1) := by decide +kernel
theorem dd_M_follow_24 : decode mm_M_follow.2.1 24 = .ok (.goto 4, 3) := by decide +kernel
theorem dd_M_follow_27 : decode mm_M_follow.2.1 27 = .ok (.iconst 0, 1) := by decide +kernel
theorem dd_M_follow_28 : decode mm_M_follow.2.1 28 = .ok (.iconst 0, 1) := by decide +kernel
theorem dd_M_follow_29 : decode mm_M_follow.2.1 29 = .ok (.iconst 0, 1) := by decide +kernel
theorem dd_M_follow_30 : decode mm_M_follow.2.1 30 = .ok (.invokevirtual 128, 3) := by decide +kernel
theorem dd_M_follow_33 : decode mm_M_follow.2.1 33 = .ok (.ifCond .eq 5, 3) := by decide +kernel
theorem dd_M_follow_36 : decode mm_M_follow.2.1 36 = .ok (.iconst 0, 1) := by decide +kernel
theorem dd_M_follow_37 : decode mm_M_follow.2.1 37 = .ok (.ireturn, 1) := by decide +kernel
theorem dd_M_follow_38 : decode mm_M_follow.2.1 38 = .ok (.iconst 0, 1) := by decide +kernel
theorem dd_M_follow_39 : decode mm_M_follow.2.1 39 = .ok (.istore_n 3, 1) := by decide +kernel
theorem dd_M_follow_40 : decode mm_M_follow.2.1 40 = .ok (.iconst 0, 1) := by decide +kernel
theorem dd_M_follow_41 : decode mm_M_follow.2.1 41 = .ok (.istore 4, 2) := by decide +kernel
theorem dd_M_follow_43 : decode mm_M_follow.2.1 43 = .ok (.iload 4, 2) := by decide +kernel
theorem dd_M_follow_45 : decode mm_M_follow.2.1 45 = .ok (.iload_n 2, 1) := by decide +kernel
theorem dd_M_follow_46 : decode mm_M_follow.2.1 46 = .ok (.if_icmp .ge 25, 3) := by decide +kernel
theorem dd_M_follow_49 : decode mm_M_follow.2.1 49 = .ok (.aload_n 0, 1) := by decide +kernel
theorem dd_M_follow_50 : decode mm_M_follow.2.1 50 = .ok (.iload_n 1, 1) := by decide +kernel
theorem dd_M_follow_51 : decode mm_M_follow.2.1 51 = .ok (.invokevirtual 186, 3) := by decide +kernel
theorem dd_M_follow_54 : decode mm_M_follow.2.1 54 = .ok (.ifCond .eq 9, 3) := by decide +kernel
theorem dd_M_follow_57 : decode mm_M_follow.2.1 57 = .ok (.iload_n 3, 1) := by decide +kernel
theorem dd_M_follow_58 : decode mm_M_follow.2.1 58 = .ok (.iconst 1, 1) := by decide +kernel
theorem dd_M_follow_59 : decode mm_M_follow.2.1 59 = .ok (.iadd, 1) := by decide +kernel
theorem dd_M_follow_60 : decode mm_M_follow.2.1 60 = .ok (.goto 4, 3) := by decide +kernel
theorem dd_M_follow_63 : decode mm_M_follow.2.1 63 = .ok (.iload_n 3, 1) := by decide +kernel
theorem dd_M_follow_64 : decode mm_M_follow.2.1 64 = .ok (.istore_n 3, 1) := by decide +kernel
theorem dd_M_follow_65 : decode mm_M_follow.2.1 65 = .ok (.iinc 4 1, 3) := by decide +kernel
theorem dd_M_follow_68 : decode mm_M_follow.2.1 68 = .ok (.goto (-25), 3) := by decide +kernel
theorem dd_M_follow_71 : decode mm_M_follow.2.1 71 = .ok (.iload_n 3, 1) := by decide +kernel
theorem dd_M_follow_72 : decode mm_M_follow.2.1 72 = .ok (.ireturn, 1) := by decide +kernel
theorem dd_M_followNote_0 : decode mm_M_followNote.2.1 0 = .ok (.bipush 6, 2) := by decide +kernel
theorem dd_M_followNote_2 : decode mm_M_followNote.2.1 2 = .ok (.iload_n 2, 1) := by decide +kernel
theorem dd_M_followNote_3 : decode mm_M_followNote.2.1 3 = .ok (.bipush 16, 2) := by decide +kernel
theorem dd_M_followNote_5 : decode mm_M_followNote.2.1 5 = .ok (.irem, 1) := by decide +kernel
theorem dd_M_followNote_6 : decode mm_M_followNote.2.1 6 = .ok (.imul, 1) := by decide +kernel
theorem dd_M_followNote_7 : decode mm_M_followNote.2.1 7 = .ok (.istore_n 3, 1) := by decide +kernel
theorem dd_M_followNote_8 : decode mm_M_followNote.2.1 8 = .ok (.aload_n 0, 1) := by decide +kernel
theorem dd_M_followNote_9 : decode mm_M_followNote.2.1 9 = .ok (.getfield 29, 3) := by decide +kernel
theorem dd_M_followNote_12 : decode mm_M_followNote.2.1 12 = .ok (.iload_n 3, 1) := by decide +kernel
theorem dd_M_followNote_13 : decode mm_M_followNote.2.1 13 = .ok (.iaload, 1) := by decide +kernel
theorem dd_M_followNote_14 : decode mm_M_followNote.2.1 14 = .ok (.istore 4, 2) := by decide +kernel
theorem dd_M_followNote_16 : decode mm_M_followNote.2.1 16 = .ok (.aload_n 0, 1) := by decide +kernel
theorem dd_M_followNote_17 : decode mm_M_followNote.2.1 17 = .ok (.getfield 29, 3) := by decide +kernel
theorem dd_M_followNote_20 : decode mm_M_followNote.2.1 20 = .ok (.iload_n 3, 1) := by decide +kernel
theorem dd_M_followNote_21 : decode mm_M_followNote.2.1 21 = .ok (.iconst 5, 1) := by decide +kernel
theorem dd_M_followNote_22 : decode mm_M_followNote.2.1 22 = .ok (.iadd, 1) := by decide +kernel
theorem dd_M_followNote_23 : decode mm_M_followNote.2.1 23 = .ok (.iaload, 1) := by decide +kernel
theorem dd_M_followNote_24 : decode mm_M_followNote.2.1 24 = .ok (.bipush 64, 2) := by decide +kernel
theorem dd_M_followNote_26 : decode mm_M_followNote.2.1 26 = .ok (.iand, 1) := by decide +kernel
theorem dd_M_followNote_27 : decode mm_M_followNote.2.1 27 = .ok (.ifCond .eq 13, 3) := by decide +kernel
theorem dd_M_followNote_30 : decode mm_M_followNote.2.1 30 = .ok (.aload_n 0, 1) := by decide +kernel
theorem dd_M_followNote_31 : decode mm_M_followNote.2.1 31 = .ok (.iload_n 1, 1) := by decide +kernel
theorem dd_M_followNote_32 : decode mm_M_followNote.2.1 32 = .ok (.iload 4, 2) := by decide +kernel
theorem dd_M_followNote_34 : decode mm_M_followNote.2.1 34 = .ok (.invokevirtual 177, 3) := by decide +kernel
theorem dd_M_followNote_37 : decode mm_M_followNote.2.1 37 = .ok (.goto 80, 3) := by decide +kernel
theorem dd_M_followNote_40 : decode mm_M_followNote.2.1 40 = .ok (.aload_n 0, 1) := by decide +kernel
theorem dd_M_followNote_41 : decode mm_M_followNote.2.1 41 = .ok (.getfield 29, 3) := by decide +kernel
theorem dd_M_followNote_44 : decode mm_M_followNote.2.1 44 = .ok (.iload_n 3, 1) := by decide +kernel
theorem dd_M_followNote_45 : decode mm_M_followNote.2.1 45 = .ok (.iconst 5, 1) := by decide +kernel
theorem dd_M_followNote_46 : decode mm_M_followNote.2.1 46 = .ok (.iadd, 1) := by decide +kernel
theorem dd_M_followNote_47 : decode mm_M_followNote.2.1 47 = .ok (.iaload, 1) := by decide +kernel
theorem dd_M_followNote_48 : decode mm_M_followNote.2.1 48 = .ok (.bipush 32, 2) := by decide +kernel
theorem dd_M_followNote_50 : decode mm_M_followNote.2.1 50 = .ok (.iand, 1) := by decide +kernel
theorem dd_M_followNote_51 : decode mm_M_followNote.2.1 51 = .ok (.ifCond .eq 27, 3) := by decide +kernel
theorem dd_M_followNote_54 : decode mm_M_followNote.2.1 54 = .ok (.aload_n 0, 1) := by decide +kernel
theorem dd_M_followNote_55 : decode mm_M_followNote.2.1 55 = .ok (.iload_n 1, 1) := by decide +kernel
theorem dd_M_followNote_56 : decode mm_M_followNote.2.1 56 = .ok (.iload 4, 2) := by decide +kernel
theorem dd_M_followNote_58 : decode mm_M_followNote.2.1 58 = .ok (.invokevirtual 168, 3) := by decide +kernel
theorem dd_M_followNote_61 : decode mm_M_followNote.2.1 61 = .ok (.istore 5, 2) := by decide +kernel
theorem dd_M_followNote_63 : decode mm_M_followNote.2.1 63 = .ok (.iload 5, 2) := by decide +kernel
theorem dd_M_followNote_65 : decode mm_M_followNote.2.1 65 = .ok (.ifCond .lt 10, 3) := by decide +kernel
theorem dd_M_followNote_68 : decode mm_M_followNote.2.1 68 = .ok (.aload_n 0, 1) := by decide +kernel
theorem dd_M_followNote_69 : decode mm_M_followNote.2.1 69 = .ok (.iload_n 1, 1) := by decide +kernel
theorem dd_M_followNote_70 : decode mm_M_followNote.2.1 70 = .ok (.iload 5, 2) := by decide +kernel
theorem dd_M_followNote_72 : decode mm_M_followNote.2.1 72 = .ok (.invokevirtual 174, 3) := by decide +kernel
theorem dd_M_followNote_75 : decode mm_M_followNote.2.1 75 = .ok (.goto 42, 3) := by decide +kernel
theorem dd_M_followNote_78 : decode mm_M_followNote.2.1 78 = .ok (.aload_n 0, 1) := by decide +kernel
theorem dd_M_followNote_79 : decode mm_M_followNote.2.1 79 = .ok (.iload_n 1, 1) := by decide +kernel
theorem dd_M_followNote_80 : decode mm_M_followNote.2.1 80 = .ok (.iload 4, 2) := by decide +kernel
theorem dd_M_followNote_82 : decode mm_M_followNote.2.1 82 = .ok (.aload_n 0, 1) := by decide +kernel
theorem dd_M_followNote_83 : decode mm_M_followNote.2.1 83 = .ok (.getfield 29, 3) := by decide +kernel
theorem dd_M_followNote_86 : decode mm_M_followNote.2.1 86 = .ok (.iload_n 3, 1) := by decide +kernel
theorem dd_M_followNote_87 : decode mm_M_followNote.2.1 87 = .ok (.iconst 1, 1) := by decide +kernel
theorem dd_M_followNote_88 : decode mm_M_followNote.2.1 88 = .ok (.iadd, 1) := by decide +kernel
theorem dd_M_followNote_89 : decode mm_M_followNote.2.1 89 = .ok (.iaload, 1) := by decide +kernel
theorem dd_M_followNote_90 : decode mm_M_followNote.2.1 90 = .ok (.aload_n 0, 1) := by decide +kernel
theorem dd_M_followNote_91 : decode mm_M_followNote.2.1 91 = .ok (.getfield 29, 3) := by decide +kernel
theorem dd_M_followNote_94 : decode mm_M_followNote.2.1 94 = .ok (.iload_n 3, 1) := by decide +kernel
theorem dd_M_followNote_95 : decode mm_M_followNote.2.1 95 = .ok (.iconst 2, 1) := by decide +kernel
theorem dd_M_followNote_96 : decode mm_M_followNote.2.1 96 = .ok (.iadd, 1) := by decide +kernel
theorem dd_M_followNote_97 : decode mm_M_followNote.2.1 97 = .ok (.iaload, 1) := by decide +kernel
theorem dd_M_followNote_98 : decode mm_M_followNote.2.1 98 = .ok (.aload_n 0, 1) := by decide +kernel
theorem dd_M_followNote_99 : decode mm_M_followNote.2.1 99 = .ok (.getfield 29, 3) := by decide +kernel
theorem dd_M_followNote_102 : decode mm_M_followNote.2.1 102 = .ok (.iload_n 3, 1) := by decide +kernel
theorem dd_M_followNote_103 : decode mm_M_followNote.2.1 103 = .ok (.iconst 3, 1) := by decide +kernel
theorem dd_M_followNote_104 : decode mm_M_followNote.2.1 104 = .ok (.iadd, 1) := by decide +kernel
theorem dd_M_followNote_105 : decode mm_M_followNote.2.1 105 = .ok (.iaload, 1) := by decide +kernel
theorem dd_M_followNote_106 : decode mm_M_followNote.2.1 106 = .ok (.aload_n 0, 1) := by decide +kernel
theorem dd_M_followNote_107 : decode mm_M_followNote.2.1 107 = .ok (.getfield 29, 3) := by decide +kernel
theorem dd_M_followNote_110 : decode mm_M_followNote.2.1 110 = .ok (.iload_n 3, 1) := by decide +kernel
theorem dd_M_followNote_111 : decode mm_M_followNote.2.1 111 = .ok (.iconst 4, 1) := by decide +kernel
theorem dd_M_followNote_112 : decode mm_M_followNote.2.1 112 = .ok (.iadd, 1) := by decide +kernel
theorem dd_M_followNote_113 : decode mm_M_followNote.2.1 113 = .ok (.iaload, 1) := by decide +kernel
theorem dd_M_followNote_114 : decode mm_M_followNote.2.1 114 = .ok (.invokevirtual 171, 3) := by decide +kernel
theorem dd_M_followNote_117 : decode mm_M_followNote.2.1 117 = .ok (.return_, 1) := by decide +kernel
theorem dd_M_followPage_0 : decode mm_M_followPage.2.1 0 = .ok (.aload_n 0, 1) := by decide +kernel
theorem dd_M_followPage_1 : decode mm_M_followPage.2.1 1 = .ok (.getfield 51, 3) := by decide +kernel
theorem dd_M_followPage_4 : decode mm_M_followPage.2.1 4 = .ok (.iload_n 1, 1) := by decide +kernel
theorem dd_M_followPage_5 : decode mm_M_followPage.2.1 5 = .ok (.iaload, 1) := by decide +kernel
theorem dd_M_followPage_6 : decode mm_M_followPage.2.1 6 = .ok (.istore_n 2, 1) := by decide +kernel
theorem dd_M_followPage_7 : decode mm_M_followPage.2.1 7 = .ok (.aload_n 0, 1) := by decide +kernel
theorem dd_M_followPage_8 : decode mm_M_followPage.2.1 8 = .ok (.iload_n 1, 1) := by decide +kernel
theorem dd_M_followPage_9 : decode mm_M_followPage.2.1 9 = .ok (.invokevirtual 165, 3) := by decide +kernel
theorem dd_M_followPage_12 : decode mm_M_followPage.2.1 12 = .ok (.istore_n 3, 1) := by decide +kernel
theorem dd_M_followPage_13 : decode mm_M_followPage.2.1 13 = .ok (.sipush 280, 3) := by decide +kernel
theorem dd_M_followPage_16 : decode mm_M_followPage.2.1 16 = .ok (.iload_n 1, 1) := by decide +kernel
theorem dd_M_followPage_17 : decode mm_M_followPage.2.1 17 = .ok (.imul, 1) := by decide +kernel
theorem dd_M_followPage_18 : decode mm_M_followPage.2.1 18 = .ok (.aload_n 0, 1) := by decide +kernel
theorem dd_M_followPage_19 : decode mm_M_followPage.2.1 19 = .ok (.getfield 57, 3) := by decide +kernel
theorem dd_M_followPage_22 : decode mm_M_followPage.2.1 22 = .ok (.iload_n 1, 1) := by decide +kernel
theorem dd_M_followPage_23 : decode mm_M_followPage.2.1 23 = .ok (.iaload, 1) := by decide +kernel
theorem dd_M_followPage_24 : decode mm_M_followPage.2.1 24 = .ok (.iadd, 1) := by decide +kernel
theorem dd_M_followPage_25 : decode mm_M_followPage.2.1 25 = .ok (.iconst 1, 1) := by decide +kernel
theorem dd_M_followPage_26 : decode mm_M_followPage.2.1 26 = .ok (.isub, 1) := by decide +kernel
theorem dd_M_followPage_27 : decode mm_M_followPage.2.1 27 = .ok (.istore 4, 2) := by decide +kernel
theorem dd_M_followPage_29 : decode mm_M_followPage.2.1 29 = .ok (.iload 4, 2) := by decide +kernel
theorem dd_M_followPage_31 : decode mm_M_followPage.2.1 31 = .ok (.sipush 280, 3) := by decide +kernel
theorem dd_M_followPage_34 : decode mm_M_followPage.2.1 34 = .ok (.iload_n 1, 1) := by decide +kernel
theorem dd_M_followPage_35 : decode mm_M_followPage.2.1 35 = .ok (.imul, 1) := by decide +kernel
theorem dd_M_followPage_36 : decode mm_M_followPage.2.1 36 = .ok (.if_icmp .lt 60, 3) := by decide +kernel
theorem dd_M_followPage_39 : decode mm_M_followPage.2.1 39 = .ok (.aload_n 0, 1) := by decide +kernel
theorem dd_M_followPage_40 : decode mm_M_followPage.2.1 40 = .ok (.getfield 60, 3) := by decide +kernel
theorem dd_M_followPage_43 : decode mm_M_followPage.2.1 43 = .ok (.iload 4, 2) := by decide +kernel
theorem dd_M_followPage_45 : decode mm_M_followPage.2.1 45 = .ok (.iaload, 1) := by decide +kernel
theorem dd_M_followPage_46 : decode mm_M_followPage.2.1 46 = .ok (.iload_n 2, 1) := by decide +kernel
theorem dd_M_followPage_47 : decode mm_M_followPage.2.1 47 = .ok (.if_icmp .le 28, 3) := by decide +kernel
theorem dd_M_followPage_50 : decode mm_M_followPage.2.1 50 = .ok (.iload_n 3, 1) := by decide +kernel
theorem dd_M_followPage_51 : decode mm_M_followPage.2.1 51 = .ok (.iconst 4, 1) := by decide +kernel
theorem dd_M_followPage_52 : decode mm_M_followPage.2.1 52 = .ok (.if_icmp .lt 19, 3) := by decide +kernel
theorem dd_M_followPage_55 : decode mm_M_followPage.2.1 55 = .ok (.aload_n 0, 1) := by decide +kernel
theorem dd_M_followPage_56 : decode mm_M_followPage.2.1 56 = .ok (.getfield 60, 3) := by decide +kernel
theorem dd_M_followPage_59 : decode mm_M_followPage.2.1 59 = .ok (.iload 4, 2) := by decide +kernel
theorem dd_M_followPage_61 : decode mm_M_followPage.2.1 61 = .ok (.iaload, 1) := by decide +kernel
theorem dd_M_followPage_62 : decode mm_M_followPage.2.1 62 = .ok (.aload_n 0, 1) := by decide +kernel
theorem dd_M_followPage_63 : decode mm_M_followPage.2.1 63 = .ok (.getfield 51, 3) := by decide +kernel
theorem dd_M_followPage_66 : decode mm_M_followPage.2.1 66 = .ok (.iload_n 1, 1) := by decide +kernel
theorem dd_M_followPage_67 : decode mm_M_followPage.2.1 67 = .ok (.iaload, 1) := by decide +kernel
theorem dd_M_followPage_68 : decode mm_M_followPage.2.1 68 = .ok (.if_icmp .gt 7, 3) := by decide +kernel
theorem dd_M_followPage_71 : decode mm_M_followPage.2.1 71 = .ok (.iconst 1, 1) := by decide +kernel
theorem dd_M_followPage_72 : decode mm_M_followPage.2.1 72 = .ok (.goto 4, 3) := by decide +kernel
theorem dd_M_followPage_75 : decode mm_M_followPage.2.1 75 = .ok (.iconst 0, 1) := by decide +kernel
theorem dd_M_followPage_76 : decode mm_M_followPage.2.1 76 = .ok (.istore 5, 2) := by decide +kernel
theorem dd_M_followPage_78 : decode mm_M_followPage.2.1 78 = .ok (.iload 5, 2) := by decide +kernel
theorem dd_M_followPage_80 : decode mm_M_followPage.2.1 80 = .ok (.ifCond .eq 10, 3) := by decide +kernel
theorem dd_M_followPage_83 : decode mm_M_followPage.2.1 83 = .ok (.aload_n 0, 1) := by decide +kernel
theorem dd_M_followPage_84 : decode mm_M_followPage.2.1 84 = .ok (.iload_n 1, 1) := by decide +kernel
theorem dd_M_followPage_85 : decode mm_M_followPage.2.1 85 = .ok (.iload 4, 2) := by decide +kernel
theorem dd_M_followPage_87 : decode mm_M_followPage.2.1 87 = .ok (.invokevirtual 174, 3) := by decide +kernel
theorem dd_M_followPage_90 : decode mm_M_followPage.2.1 90 = .ok (.iinc 4 (-1), 3) := by decide +kernel
theorem dd_M_followPage_93 : decode mm_M_followPage.2.1 93 = .ok (.goto (-64), 3) := by decide +kernel
theorem dd_M_followPage_96 : decode mm_M_followPage.2.1 96 = .ok (.iconst 0, 1) := by decide +kernel
theorem dd_M_followPage_97 : decode mm_M_followPage.2.1 97 = .ok (.istore 4, 2) := by decide +kernel
theorem dd_M_followPage_99 : decode mm_M_followPage.2.1 99 = .ok (.iload 4, 2) := by decide +kernel
theorem dd_M_followPage_101 : decode mm_M_followPage.2.1 101 = .ok (.iload_n 3, 1) := by decide +kernel
theorem dd_M_followPage_102 : decode mm_M_followPage.2.1 102 = .ok (.if_icmp .ge 25, 3) := by decide +kernel
theorem dd_M_followPage_105 : decode mm_M_followPage.2.1 105 = .ok (.aload_n 0, 1) := by decide +kernel
theorem dd_M_followPage_106 : decode mm_M_followPage.2.1 106 = .ok (.iload_n 1, 1) := by decide +kernel
theorem dd_M_followPage_107 : decode mm_M_followPage.2.1 107 = .ok (.aload_n 0, 1) := by decide +kernel
theorem dd_M_followPage_108 : decode mm_M_followPage.2.1 108 = .ok (.getfield 54, 3) := by decide +kernel
theorem dd_M_followPage_111 : decode mm_M_followPage.2.1 111 = .ok (.iconst 4, 1) := by decide +kernel
theorem dd_M_followPage_112 : decode mm_M_followPage.2.1 112 = .ok (.iload_n 1, 1) := by decide +kernel
theorem dd_M_followPage_113 : decode mm_M_followPage.2.1 113 = .ok (.imul, 1) := by decide +kernel
theorem dd_M_followPage_114 : decode mm_M_followPage.2.1 114 = .ok (.iload 4, 2) := by decide +kernel
theorem dd_M_followPage_116 : decode mm_M_followPage.2.1 116 = .ok (.iadd, 1) := by decide +kernel
theorem dd_M_followPage_117 : decode mm_M_followPage.2.1 117 = .ok (.iaload, 1) := by decide +kernel
theorem dd_M_followPage_118 : decode mm_M_followPage.2.1 118 = .ok (.invokevirtual 177, 3) := by decide +kernel
theorem dd_M_followPage_121 : decode mm_M_followPage.2.1 121 = .ok (.iinc 4 1, 3) := by decide +kernel
theorem dd_M_followPage_124 : decode mm_M_followPage.2.1 124 = .ok (.goto (-25), 3) := by decide +kernel
theorem dd_M_followPage_127 : decode mm_M_followPage.2.1 127 = .ok (.return_, 1) := by decide +kernel
theorem dd_M_gatheringOf_0 : decode mm_M_gatheringOf.2.1 0 = .ok (.iconst 0, 1) := by decide +kernel
theorem dd_M_gatheringOf_1 : decode mm_M_gatheringOf.2.1 1 = .ok (.istore_n 2, 1) := by decide +kernel
theorem dd_M_gatheringOf_2 : decode mm_M_gatheringOf.2.1 2 = .ok (.iload_n 2, 1) := by decide +kernel
theorem dd_M_gatheringOf_3 : decode mm_M_gatheringOf.2.1 3 = .ok (.aload_n 0, 1) := by decide +kernel
theorem dd_M_gatheringOf_4 : decode mm_M_gatheringOf.2.1 4 = .ok (.getfield 95, 3) := by decide +kernel
theorem dd_M_gatheringOf_7 : decode mm_M_gatheringOf.2.1 7 = .ok (.if_icmp .ge 21, 3) := by decide +kernel
theorem dd_M_gatheringOf_10 : decode mm_M_gatheringOf.2.1 10 = .ok (.aload_n 0, 1) := by decide +kernel
theorem dd_M_gatheringOf_11 : decode mm_M_gatheringOf.2.1 11 = .ok (.getfield 32, 3) := by decide +kernel
theorem dd_M_gatheringOf_14 : decode mm_M_gatheringOf.2.1 14 = .ok (.iload_n 2, 1) := by decide +kernel
theorem dd_M_gatheringOf_15 : decode mm_M_gatheringOf.2.1 15 = .ok (.iaload, 1) := by decide +kernel
theorem dd_M_gatheringOf_16 : decode mm_M_gatheringOf.2.1 16 = .ok (.iload_n 1, 1) := by decide +kernel
theorem dd_M_gatheringOf_17 : decode mm_M_gatheringOf.2.1 17 = .ok (.if_icmp .ne 5, 3) := by decide +kernel
theorem dd_M_gatheringOf_20 : decode mm_M_gatheringOf.2.1 20 = .ok (.iload_n 2, 1) := by decide +kernel
theorem dd_M_gatheringOf_21 : decode mm_M_gatheringOf.2.1 21 = .ok (.ireturn, 1) := by decide +kernel
theorem dd_M_gatheringOf_22 : decode mm_M_gatheringOf.2.1 22 = .ok (.iinc 2 1, 3) := by decide +kernel
theorem dd_M_gatheringOf_25 : decode mm_M_gatheringOf.2.1 25 = .ok (.goto (-23), 3) := by decide +kernel
theorem dd_M_gatheringOf_28 : decode mm_M_gatheringOf.2.1 28 = .ok (.iconst (-1), 1) := by decide +kernel
theorem dd_M_gatheringOf_29 : decode mm_M_gatheringOf.2.1 29 = .ok (.ireturn, 1) := by decide +kernel
theorem dd_M_hasFiles_0 : decode mm_M_hasFiles.2.1 0 = .ok (.iconst 0, 1) := by decide +kernel
theorem dd_M_hasFiles_1 : decode mm_M_hasFiles.2.1 1 = .ok (.istore_n 2, 1) := by decide +kernel
theorem dd_M_hasFiles_2 : decode mm_M_hasFiles.2.1 2 = .ok (.iconst 0, 1) := by decide +kernel
theorem dd_M_hasFiles_3 : decode mm_M_hasFiles.2.1 3 = .ok (.istore_n 3, 1) := by decide +kernel
theorem dd_M_hasFiles_4 : decode mm_M_hasFiles.2.1 4 = .ok (.iload_n 3, 1) := by decide +kernel
theorem dd_M_hasFiles_5 : decode mm_M_hasFiles.2.1 5 = .ok (.aload_n 0, 1) := by decide +kernel
theorem dd_M_hasFiles_6 : decode mm_M_hasFiles.2.1 6 = .ok (.getfield 84, 3) := by decide +kernel
theorem dd_M_hasFiles_9 : decode mm_M_hasFiles.2.1 9 = .ok (.if_icmp .ge 29, 3) := by decide +kernel
theorem dd_M_hasFiles_12 : decode mm_M_hasFiles.2.1 12 = .ok (.iload_n 2, 1) := by decide +kernel
theorem dd_M_hasFiles_13 : decode mm_M_hasFiles.2.1 13 = .ok (.ifCond .ne 13, 3) := by decide +kernel
theorem dd_M_hasFiles_16 : decode mm_M_hasFiles.2.1 16 = .ok (.aload_n 0, 1) := by decide +kernel
theorem dd_M_hasFiles_17 : decode mm_M_hasFiles.2.1 17 = .ok (.getfield 16, 3) := by decide +kernel
theorem dd_M_hasFiles_20 : decode mm_M_hasFiles.2.1 20 = .ok (.iload_n 3, 1) := by decide +kernel
theorem dd_M_hasFiles_21 : decode mm_M_hasFiles.2.1 21 = .ok (.iaload, 1) := by decide +kernel
theorem dd_M_hasFiles_22 : decode mm_M_hasFiles.2.1 22 = .ok (.iload_n 1, 1) := by decide +kernel
theorem dd_M_hasFiles_23 : decode mm_M_hasFiles.2.1 23 = .ok (.if_icmp .ne 7, 3) := by decide +kernel
theorem dd_M_hasFiles_26 : decode mm_M_hasFiles.2.1 26 = .ok (.iconst 1, 1) := by decide +kernel
theorem dd_M_hasFiles_27 : decode mm_M_hasFiles.2.1 27 = .ok (.goto 4, 3) := by decide +kernel
theorem dd_M_hasFiles_30 : decode mm_M_hasFiles.2.1 30 = .ok (.iconst 0, 1) := by decide +kernel
theorem dd_M_hasFiles_31 : decode mm_M_hasFiles.2.1 31 = .ok (.istore_n 2, 1) := by decide +kernel
theorem dd_M_hasFiles_32 : decode mm_M_hasFiles.2.1 32 = .ok (.iinc 3 1, 3) := by decide +kernel
theorem dd_M_hasFiles_35 : decode mm_M_hasFiles.2.1 35 = .ok (.goto (-31), 3) := by decide +kernel
theorem dd_M_hasFiles_38 : decode mm_M_hasFiles.2.1 38 = .ok (.iload_n 2, 1) := by decide +kernel
theorem dd_M_hasFiles_39 : decode mm_M_hasFiles.2.1 39 = .ok (.ireturn, 1) := by decide +kernel
theorem dd_M_head_0 : decode mm_M_head.2.1 0 = .ok (.aload_n 0, 1) := by decide +kernel
theorem dd_M_head_1 : decode mm_M_head.2.1 1 = .ok (.iconst 0, 1) := by decide +kernel
theorem dd_M_head_2 : decode mm_M_head.2.1 2 = .ok (.putfield 81, 3) := by decide +kernel
theorem dd_M_head_5 : decode mm_M_head.2.1 5 = .ok (.aload_n 0, 1) := by decide +kernel
theorem dd_M_head_6 : decode mm_M_head.2.1 6 = .ok (.getfield 25, 3) := by decide +kernel
theorem dd_M_head_9 : decode mm_M_head.2.1 9 = .ok (.ireturn, 1) := by decide +kernel
theorem dd_M_inStep_0 : decode mm_M_inStep.2.1 0 = .ok (.aload_n 0, 1) := by decide +kernel
theorem dd_M_inStep_1 : decode mm_M_inStep.2.1 1 = .ok (.iload_n 1, 1) := by decide +kernel
theorem dd_M_inStep_2 : decode mm_M_inStep.2.1 2 = .ok (.invokestatic 153, 3) := by decide +kernel
theorem dd_M_inStep_5 : decode mm_M_inStep.2.1 5 = .ok (.ifCond .ne 7, 3) := by decide +kernel
theorem dd_M_inStep_8 : decode mm_M_inStep.2.1 8 = .ok (.iconst 1, 1) := by decide +kernel
theorem dd_M_inStep_9 : decode mm_M_inStep.2.1 9 = .ok (.goto 4, 3) := by decide +kernel
theorem dd_M_inStep_12 : decode mm_M_inStep.2.1 12 = .ok (.iconst 0, 1) := by decide +kernel
theorem dd_M_inStep_13 : decode mm_M_inStep.2.1 13 = .ok (.iconst 0, 1) := by decide +kernel
theorem dd_M_inStep_14 : decode mm_M_inStep.2.1 14 = .ok (.iconst 0, 1) := by decide +kernel
theorem dd_M_inStep_15 : decode mm_M_inStep.2.1 15 = .ok (.iconst 0, 1) := by decide +kernel
theorem dd_M_inStep_16 : decode mm_M_inStep.2.1 16 = .ok (.invokevirtual 128, 3) := by decide +kernel
theorem dd_M_inStep_19 : decode mm_M_inStep.2.1 19 = .ok (.ifCond .ne 16, 3) := by decide +kernel
theorem dd_M_inStep_22 : decode mm_M_inStep.2.1 22 = .ok (.aload_n 0, 1) := by decide +kernel
theorem dd_M_inStep_23 : decode mm_M_inStep.2.1 23 = .ok (.getfield 57, 3) := by decide +kernel
theorem dd_M_inStep_26 : decode mm_M_inStep.2.1 26 = .ok (.iload_n 1, 1) := by decide +kernel
theorem dd_M_inStep_27 : decode mm_M_inStep.2.1 27 = .ok (.iaload, 1) := by decide +kernel
theorem dd_M_inStep_28 : decode mm_M_inStep.2.1 28 = .ok (.aload_n 0, 1) := by decide +kernel
theorem dd_M_inStep_29 : decode mm_M_inStep.2.1 29 = .ok (.getfield 84, 3) := by decide +kernel
theorem dd_M_inStep_32 : decode mm_M_inStep.2.1 32 = .ok (.if_icmp .eq 5, 3) := by decide +kernel
theorem dd_M_inStep_35 : decode mm_M_inStep.2.1 35 = .ok (.iconst 0, 1) := by decide +kernel
theorem dd_M_inStep_36 : decode mm_M_inStep.2.1 36 = .ok (.ireturn, 1) := by decide +kernel
theorem dd_M_inStep_37 : decode mm_M_inStep.2.1 37 = .ok (.iconst 1, 1) := by decide +kernel
theorem dd_M_inStep_38 : decode mm_M_inStep.2.1 38 = .ok (.istore_n 2, 1) := by decide +kernel
theorem dd_M_inStep_39 : decode mm_M_inStep.2.1 39 = .ok (.iconst 0, 1) := by decide +kernel
theorem dd_M_inStep_40 : decode mm_M_inStep.2.1 40 = .ok (.istore_n 3, 1) := by decide +kernel
theorem dd_M_inStep_41 : decode mm_M_inStep.2.1 41 = .ok (.iload_n 3, 1) := by decide +kernel
theorem dd_M_inStep_42 : decode mm_M_inStep.2.1 42 = .ok (.aload_n 0, 1) := by decide +kernel
theorem dd_M_inStep_43 : decode mm_M_inStep.2.1 43 = .ok (.getfield 84, 3) := by decide +kernel
theorem dd_M_inStep_46 : decode mm_M_inStep.2.1 46 = .ok (.if_icmp .ge 101, 3) := by decide +kernel
theorem dd_M_inStep_49 : decode mm_M_inStep.2.1 49 = .ok (.aload_n 0, 1) := by decide +kernel
theorem dd_M_inStep_50 : decode mm_M_inStep.2.1 50 = .ok (.iload_n 1, 1) := by decide +kernel
theorem dd_M_inStep_51 : decode mm_M_inStep.2.1 51 = .ok (.aload_n 0, 1) := by decide +kernel
theorem dd_M_inStep_52 : decode mm_M_inStep.2.1 52 = .ok (.getfield 7, 3) := by decide +kernel
theorem dd_M_inStep_55 : decode mm_M_inStep.2.1 55 = .ok (.iload_n 3, 1) := by decide +kernel
theorem dd_M_inStep_56 : decode mm_M_inStep.2.1 56 = .ok (.iaload, 1) := by decide +kernel
theorem dd_M_inStep_57 : decode mm_M_inStep.2.1 57 = .ok (.invokevirtual 168, 3) := by decide +kernel
theorem dd_M_inStep_60 : decode mm_M_inStep.2.1 60 = .ok (.istore 4, 2) := by decide +kernel
theorem dd_M_inStep_62 : decode mm_M_inStep.2.1 62 = .ok (.iload_n 2, 1) := by decide +kernel
theorem dd_M_inStep_63 : decode mm_M_inStep.2.1 63 = .ok (.ifCond .eq 76, 3) := by decide +kernel
theorem dd_M_inStep_66 : decode mm_M_inStep.2.1 66 = .ok (.iload 4, 2) := by decide +kernel
theorem dd_M_inStep_68 : decode mm_M_inStep.2.1 68 = .ok (.ifCond .lt 71, 3) := by decide +kernel
theorem dd_M_inStep_71 : decode mm_M_inStep.2.1 71 = .ok (.aload_n 0, 1) := by decide +kernel
theorem dd_M_inStep_72 : decode mm_M_inStep.2.1 72 = .ok (.getfield 63, 3) := by decide +kernel
theorem dd_M_inStep_75 : decode mm_M_inStep.2.1 75 = .ok (.iload 4, 2) := by decide +kernel
theorem dd_M_inStep_77 : decode mm_M_inStep.2.1 77 = .ok (.iaload, 1) := by decide +kernel
theorem dd_M_inStep_78 : decode mm_M_inStep.2.1 78 = .ok (.aload_n 0, 1) := by decide +kernel
theorem dd_M_inStep_79 : decode mm_M_inStep.2.1 79 = .ok (.getfield 13, 3) := by decide +kernel
theorem dd_M_inStep_82 : decode mm_M_inStep.2.1 82 = .ok (.iload_n 3, 1) := by decide +kernel
theorem dd_M_inStep_83 : decode mm_M_inStep.2.1 83 = .ok (.iaload, 1) := by decide +kernel
theorem dd_M_inStep_84 : decode mm_M_inStep.2.1 84 = .ok (.if_icmp .ne 55, 3) := by decide +kernel
theorem dd_M_inStep_87 : decode mm_M_inStep.2.1 87 = .ok (.aload_n 0, 1) := by decide +kernel
theorem dd_M_inStep_88 : decode mm_M_inStep.2.1 88 = .ok (.getfield 66, 3) := by decide +kernel
theorem dd_M_inStep_91 : decode mm_M_inStep.2.1 91 = .ok (.iload 4, 2) := by decide +kernel
theorem dd_M_inStep_93 : decode mm_M_inStep.2.1 93 = .ok (.iaload, 1) := by decide +kernel
theorem dd_M_inStep_94 : decode mm_M_inStep.2.1 94 = .ok (.aload_n 0, 1) := by decide +kernel
theorem dd_M_inStep_95 : decode mm_M_inStep.2.1 95 = .ok (.getfield 16, 3) := by decide +kernel
theorem dd_M_inStep_98 : decode mm_M_inStep.2.1 98 = .ok (.iload_n 3, 1) := by decide +kernel
theorem dd_M_inStep_99 : decode mm_M_inStep.2.1 99 = .ok (.iaload, 1) := by decide +kernel
theorem dd_M_inStep_100 : decode mm_M_inStep.2.1 100 = .ok (.if_icmp .ne 39, 3) := by decide +kernel
theorem dd_M_inStep_103 : decode mm_M_inStep.2.1 103 = .ok (.aload_n 0, 1) := by decide +kernel
theorem dd_M_inStep_104 : decode mm_M_inStep.2.1 104 = .ok (.getfield 69, 3) := by decide +kernel
theorem dd_M_inStep_107 : decode mm_M_inStep.2.1 107 = .ok (.iload 4, 2) := by decide +kernel
theorem dd_M_inStep_109 : decode mm_M_inStep.2.1 109 = .ok (.iaload, 1) := by decide +kernel
theorem dd_M_inStep_110 : decode mm_M_inStep.2.1 110 = .ok (.aload_n 0, 1) := by decide +kernel
theorem dd_M_inStep_111 : decode mm_M_inStep.2.1 111 = .ok (.getfield 19, 3) := by decide +kernel
theorem dd_M_inStep_114 : decode mm_M_inStep.2.1 114 = .ok (.iload_n 3, 1) := by decide +kernel
theorem dd_M_inStep_115 : decode mm_M_inStep.2.1 115 = .ok (.iaload, 1) := by decide +kernel
theorem dd_M_inStep_116 : decode mm_M_inStep.2.1 116 = .ok (.if_icmp .ne 23, 3) := by decide +kernel
theorem dd_M_inStep_119 : decode mm_M_inStep.2.1 119 = .ok (.aload_n 0, 1) := by decide +kernel
theorem dd_M_inStep_120 : decode mm_M_inStep.2.1 120 = .ok (.getfield 72, 3) := by decide +kernel
theorem dd_M_inStep_123 : decode mm_M_inStep.2.1 123 = .ok (.iload 4, 2) := by decide +kernel
theorem dd_M_inStep_125 : decode mm_M_inStep.2.1 125 = .ok (.iaload, 1) := by decide +kernel
theorem dd_M_inStep_126 : decode mm_M_inStep.2.1 126 = .ok (.aload_n 0, 1) := by decide +kernel
theorem dd_M_inStep_127 : decode mm_M_inStep.2.1 127 = .ok (.getfield 22, 3) := by decide +kernel
theorem dd_M_inStep_130 : decode mm_M_inStep.2.1 130 = .ok (.iload_n 3, 1) := by decide +kernel
theorem dd_M_inStep_131 : decode mm_M_inStep.2.1 131 = .ok (.iaload, 1) := by decide +kernel
theorem dd_M_inStep_132 : decode mm_M_inStep.2.1 132 = .ok (.if_icmp .ne 7, 3) := by decide +kernel
theorem dd_M_inStep_135 : decode mm_M_inStep.2.1 135 = .ok (.iconst 1, 1) := by decide +kernel
theorem dd_M_inStep_136 : decode mm_M_inStep.2.1 136 = .ok (.goto 4, 3) := by decide +kernel
theorem dd_M_inStep_139 : decode mm_M_inStep.2.1 139 = .ok (.iconst 0, 1) := by decide +kernel
theorem dd_M_inStep_140 : decode mm_M_inStep.2.1 140 = .ok (.istore_n 2, 1) := by decide +kernel
theorem dd_M_inStep_141 : decode mm_M_inStep.2.1 141 = .ok (.iinc 3 1, 3) := by decide +kernel
theorem dd_M_inStep_144 : decode mm_M_inStep.2.1 144 = .ok (.goto (-103), 3) := by decide +kernel
theorem dd_M_inStep_147 : decode mm_M_inStep.2.1 147 = .ok (.iload_n 2, 1) := by decide +kernel
theorem dd_M_inStep_148 : decode mm_M_inStep.2.1 148 = .ok (.ireturn, 1) := by decide +kernel
theorem dd_M_is_0 : decode mm_M_is.2.1 0 = .ok (.iload_n 0, 1) := by decide +kernel
theorem dd_M_is_1 : decode mm_M_is.2.1 1 = .ok (.ifCond .lt 12, 3) := by decide +kernel
theorem dd_M_is_4 : decode mm_M_is.2.1 4 = .ok (.iload_n 0, 1) := by decide +kernel
theorem dd_M_is_5 : decode mm_M_is.2.1 5 = .ok (.iconst 3, 1) := by decide +kernel
theorem dd_M_is_6 : decode mm_M_is.2.1 6 = .ok (.if_icmp .ge 7, 3) := by decide +kernel
theorem dd_M_is_9 : decode mm_M_is.2.1 9 = .ok (.iconst 1, 1) := by decide +kernel
theorem dd_M_is_10 : decode mm_M_is.2.1 10 = .ok (.goto 4, 3) := by decide +kernel
theorem dd_M_is_13 : decode mm_M_is.2.1 13 = .ok (.iconst 0, 1) := by decide +kernel
theorem dd_M_is_14 : decode mm_M_is.2.1 14 = .ok (.ireturn, 1) := by decide +kernel
theorem dd_M_isFirst_0 : decode mm_M_isFirst.2.1 0 = .ok (.iload_n 1, 1) := by decide +kernel
theorem dd_M_isFirst_1 : decode mm_M_isFirst.2.1 1 = .ok (.iconst 1, 1) := by decide +kernel
theorem dd_M_isFirst_2 : decode mm_M_isFirst.2.1 2 = .ok (.isub, 1) := by decide +kernel
theorem dd_M_isFirst_3 : decode mm_M_isFirst.2.1 3 = .ok (.istore_n 2, 1) := by decide +kernel
theorem dd_M_isFirst_4 : decode mm_M_isFirst.2.1 4 = .ok (.iload_n 2, 1) := by decide +kernel
theorem dd_M_isFirst_5 : decode mm_M_isFirst.2.1 5 = .ok (.aload_n 0, 1) := by decide +kernel
theorem dd_M_isFirst_6 : decode mm_M_isFirst.2.1 6 = .ok (.invokevirtual 149, 3) := by decide +kernel
theorem dd_M_isFirst_9 : decode mm_M_isFirst.2.1 9 = .ok (.if_icmp .lt 62, 3) := by decide +kernel
theorem dd_M_isFirst_12 : decode mm_M_isFirst.2.1 12 = .ok (.aload_n 0, 1) := by decide +kernel
theorem dd_M_isFirst_13 : decode mm_M_isFirst.2.1 13 = .ok (.getfield 29, 3) := by decide +kernel
theorem dd_M_isFirst_16 : decode mm_M_isFirst.2.1 16 = .ok (.bipush 6, 2) := by decide +kernel
theorem dd_M_isFirst_18 : decode mm_M_isFirst.2.1 18 = .ok (.iload_n 2, 1) := by decide +kernel
theorem dd_M_isFirst_19 : decode mm_M_isFirst.2.1 19 = .ok (.bipush 16, 2) := by decide +kernel
theorem dd_M_isFirst_21 : decode mm_M_isFirst.2.1 21 = .ok (.irem, 1) := by decide +kernel
theorem dd_M_isFirst_22 : decode mm_M_isFirst.2.1 22 = .ok (.imul, 1) := by decide +kernel
theorem dd_M_isFirst_23 : decode mm_M_isFirst.2.1 23 = .ok (.iaload, 1) := by decide +kernel
theorem dd_M_isFirst_24 : decode mm_M_isFirst.2.1 24 = .ok (.aload_n 0, 1) := by decide +kernel
theorem dd_M_isFirst_25 : decode mm_M_isFirst.2.1 25 = .ok (.getfield 29, 3) := by decide +kernel
theorem dd_M_isFirst_28 : decode mm_M_isFirst.2.1 28 = .ok (.bipush 6, 2) := by decide +kernel
theorem dd_M_isFirst_30 : decode mm_M_isFirst.2.1 30 = .ok (.iload_n 1, 1) := by decide +kernel
theorem dd_M_isFirst_31 : decode mm_M_isFirst.2.1 31 = .ok (.bipush 16, 2) := by decide +kernel
theorem dd_M_isFirst_33 : decode mm_M_isFirst.2.1 33 = .ok (.irem, 1) := by decide +kernel
theorem dd_M_isFirst_34 : decode mm_M_isFirst.2.1 34 = .ok (.imul, 1) := by decide +kernel
theorem dd_M_isFirst_35 : decode mm_M_isFirst.2.1 35 = .ok (.iaload, 1) := by decide +kernel
theorem dd_M_isFirst_36 : decode mm_M_isFirst.2.1 36 = .ok (.if_icmp .ne 29, 3) := by decide +kernel
theorem dd_M_isFirst_39 : decode mm_M_isFirst.2.1 39 = .ok (.aload_n 0, 1) := by decide +kernel
theorem dd_M_isFirst_40 : decode mm_M_isFirst.2.1 40 = .ok (.getfield 29, 3) := by decide +kernel
theorem dd_M_isFirst_43 : decode mm_M_isFirst.2.1 43 = .ok (.bipush 6, 2) := by decide +kernel
theorem dd_M_isFirst_45 : decode mm_M_isFirst.2.1 45 = .ok (.iload_n 2, 1) := by decide +kernel
theorem dd_M_isFirst_46 : decode mm_M_isFirst.2.1 46 = .ok (.bipush 16, 2) := by decide +kernel
theorem dd_M_isFirst_48 : decode mm_M_isFirst.2.1 48 = .ok (.irem, 1) := by decide +kernel
theorem dd_M_isFirst_49 : decode mm_M_isFirst.2.1 49 = .ok (.imul, 1) := by decide +kernel
theorem dd_M_isFirst_50 : decode mm_M_isFirst.2.1 50 = .ok (.iconst 5, 1) := by decide +kernel
theorem dd_M_isFirst_51 : decode mm_M_isFirst.2.1 51 = .ok (.iadd, 1) := by decide +kernel
theorem dd_M_isFirst_52 : decode mm_M_isFirst.2.1 52 = .ok (.iaload, 1) := by decide +kernel
theorem dd_M_isFirst_53 : decode mm_M_isFirst.2.1 53 = .ok (.bipush 64, 2) := by decide +kernel
theorem dd_M_isFirst_55 : decode mm_M_isFirst.2.1 55 = .ok (.iand, 1) := by decide +kernel
theorem dd_M_isFirst_56 : decode mm_M_isFirst.2.1 56 = .ok (.ifCond .eq 7, 3) := by decide +kernel
theorem dd_M_isFirst_59 : decode mm_M_isFirst.2.1 59 = .ok (.iconst 1, 1) := by decide +kernel
theorem dd_M_isFirst_60 : decode mm_M_isFirst.2.1 60 = .ok (.goto 4, 3) := by decide +kernel
theorem dd_M_isFirst_63 : decode mm_M_isFirst.2.1 63 = .ok (.iconst 0, 1) := by decide +kernel
theorem dd_M_isFirst_64 : decode mm_M_isFirst.2.1 64 = .ok (.ireturn, 1) := by decide +kernel
theorem dd_M_isFirst_65 : decode mm_M_isFirst.2.1 65 = .ok (.iinc 2 (-1), 3) := by decide +kernel
theorem dd_M_isFirst_68 : decode mm_M_isFirst.2.1 68 = .ok (.goto (-64), 3) := by decide +kernel
theorem dd_M_isFirst_71 : decode mm_M_isFirst.2.1 71 = .ok (.iconst 1, 1) := by decide +kernel
theorem dd_M_isFirst_72 : decode mm_M_isFirst.2.1 72 = .ok (.ireturn, 1) := by decide +kernel
theorem dd_M_isFolder_0 : decode mm_M_isFolder.2.1 0 = .ok (.iload_n 1, 1) := by decide +kernel
theorem dd_M_isFolder_1 : decode mm_M_isFolder.2.1 1 = .ok (.ifCond .eq 25, 3) := by decide +kernel
theorem dd_M_isFolder_4 : decode mm_M_isFolder.2.1 4 = .ok (.aload_n 0, 1) := by decide +kernel
theorem dd_M_isFolder_5 : decode mm_M_isFolder.2.1 5 = .ok (.iload_n 1, 1) := by decide +kernel
theorem dd_M_isFolder_6 : decode mm_M_isFolder.2.1 6 = .ok (.invokevirtual 87, 3) := by decide +kernel
theorem dd_M_isFolder_9 : decode mm_M_isFolder.2.1 9 = .ok (.ifCond .lt 21, 3) := by decide +kernel
theorem dd_M_isFolder_12 : decode mm_M_isFolder.2.1 12 = .ok (.aload_n 0, 1) := by decide +kernel
theorem dd_M_isFolder_13 : decode mm_M_isFolder.2.1 13 = .ok (.getfield 13, 3) := by decide +kernel
theorem dd_M_isFolder_16 : decode mm_M_isFolder.2.1 16 = .ok (.aload_n 0, 1) := by decide +kernel
theorem dd_M_isFolder_17 : decode mm_M_isFolder.2.1 17 = .ok (.iload_n 1, 1) := by decide +kernel
theorem dd_M_isFolder_18 : decode mm_M_isFolder.2.1 18 = .ok (.invokevirtual 87, 3) := by decide +kernel
theorem dd_M_isFolder_21 : decode mm_M_isFolder.2.1 21 = .ok (.iaload, 1) := by decide +kernel
theorem dd_M_isFolder_22 : decode mm_M_isFolder.2.1 22 = .ok (.iconst 1, 1) := by decide +kernel
theorem dd_M_isFolder_23 : decode mm_M_isFolder.2.1 23 = .ok (.if_icmp .ne 7, 3) := by decide +kernel
theorem dd_M_isFolder_26 : decode mm_M_isFolder.2.1 26 = .ok (.iconst 1, 1) := by decide +kernel
theorem dd_M_isFolder_27 : decode mm_M_isFolder.2.1 27 = .ok (.goto 4, 3) := by decide +kernel
theorem dd_M_isFolder_30 : decode mm_M_isFolder.2.1 30 = .ok (.iconst 0, 1) := by decide +kernel
theorem dd_M_isFolder_31 : decode mm_M_isFolder.2.1 31 = .ok (.ireturn, 1) := by decide +kernel
theorem dd_M_isIn_0 : decode mm_M_isIn.2.1 0 = .ok (.iload_n 1, 1) := by decide +kernel
theorem dd_M_isIn_1 : decode mm_M_isIn.2.1 1 = .ok (.istore_n 3, 1) := by decide +kernel
theorem dd_M_isIn_2 : decode mm_M_isIn.2.1 2 = .ok (.iconst 0, 1) := by decide +kernel
theorem dd_M_isIn_3 : decode mm_M_isIn.2.1 3 = .ok (.istore 4, 2) := by decide +kernel
theorem dd_M_isIn_5 : decode mm_M_isIn.2.1 5 = .ok (.iload 4, 2) := by decide +kernel
theorem dd_M_isIn_7 : decode mm_M_isIn.2.1 7 = .ok (.aload_n 0, 1) := by decide +kernel
theorem dd_M_isIn_8 : decode mm_M_isIn.2.1 8 = .ok (.getfield 84, 3) := by decide +kernel
theorem dd_M_isIn_11 : decode mm_M_isIn.2.1 11 = .ok (.if_icmp .gt 29, 3) := by decide +kernel
theorem dd_M_isIn_14 : decode mm_M_isIn.2.1 14 = .ok (.iload_n 3, 1) := by decide +kernel
theorem dd_M_isIn_15 : decode mm_M_isIn.2.1 15 = .ok (.iload_n 2, 1) := by decide +kernel
theorem dd_M_isIn_16 : decode mm_M_isIn.2.1 16 = .ok (.if_icmp .eq 24, 3) := by decide +kernel
theorem dd_M_isIn_19 : decode mm_M_isIn.2.1 19 = .ok (.iload_n 3, 1) := by decide +kernel
theorem dd_M_isIn_20 : decode mm_M_isIn.2.1 20 = .ok (.ifCond .eq 20, 3) := by decide +kernel
theorem dd_M_isIn_23 : decode mm_M_isIn.2.1 23 = .ok (.aload_n 0, 1) := by decide +kernel
theorem dd_M_isIn_24 : decode mm_M_isIn.2.1 24 = .ok (.getfield 16, 3) := by decide +kernel
theorem dd_M_isIn_27 : decode mm_M_isIn.2.1 27 = .ok (.aload_n 0, 1) := by decide +kernel
theorem dd_M_isIn_28 : decode mm_M_isIn.2.1 28 = .ok (.iload_n 3, 1) := by decide +kernel
theorem dd_M_isIn_29 : decode mm_M_isIn.2.1 29 = .ok (.invokevirtual 87, 3) := by decide +kernel
theorem dd_M_isIn_32 : decode mm_M_isIn.2.1 32 = .ok (.iaload, 1) := by decide +kernel
theorem dd_M_isIn_33 : decode mm_M_isIn.2.1 33 = .ok (.istore_n 3, 1) := by decide +kernel
theorem dd_M_isIn_34 : decode mm_M_isIn.2.1 34 = .ok (.iinc 4 1, 3) := by decide +kernel
theorem dd_M_isIn_37 : decode mm_M_isIn.2.1 37 = .ok (.goto (-32), 3) := by decide +kernel
theorem dd_M_isIn_40 : decode mm_M_isIn.2.1 40 = .ok (.iload_n 3, 1) := by decide +kernel
theorem dd_M_isIn_41 : decode mm_M_isIn.2.1 41 = .ok (.iload_n 2, 1) := by decide +kernel
theorem dd_M_isIn_42 : decode mm_M_isIn.2.1 42 = .ok (.if_icmp .ne 7, 3) := by decide +kernel
theorem dd_M_isIn_45 : decode mm_M_isIn.2.1 45 = .ok (.iconst 1, 1) := by decide +kernel
theorem dd_M_isIn_46 : decode mm_M_isIn.2.1 46 = .ok (.goto 4, 3) := by decide +kernel
theorem dd_M_isIn_49 : decode mm_M_isIn.2.1 49 = .ok (.iconst 0, 1) := by decide +kernel
theorem dd_M_isIn_50 : decode mm_M_isIn.2.1 50 = .ok (.ireturn, 1) := by decide +kernel
theorem dd_M_isOn_0 : decode mm_M_isOn.2.1 0 = .ok (.aload_n 0, 1) := by decide +kernel
theorem dd_M_isOn_1 : decode mm_M_isOn.2.1 1 = .ok (.iconst 0, 1) := by decide +kernel
theorem dd_M_isOn_2 : decode mm_M_isOn.2.1 2 = .ok (.putfield 81, 3) := by decide +kernel
theorem dd_M_isOn_5 : decode mm_M_isOn.2.1 5 = .ok (.aload_n 0, 1) := by decide +kernel
theorem dd_M_isOn_6 : decode mm_M_isOn.2.1 6 = .ok (.getfield 91, 3) := by decide +kernel
theorem dd_M_isOn_9 : decode mm_M_isOn.2.1 9 = .ok (.ifCond .ne 7, 3) := by decide +kernel
theorem dd_M_isOn_12 : decode mm_M_isOn.2.1 12 = .ok (.iconst 1, 1) := by decide +kernel
theorem dd_M_isOn_13 : decode mm_M_isOn.2.1 13 = .ok (.goto 4, 3) := by decide +kernel
theorem dd_M_isOn_16 : decode mm_M_isOn.2.1 16 = .ok (.iconst 0, 1) := by decide +kernel
theorem dd_M_isOn_17 : decode mm_M_isOn.2.1 17 = .ok (.ireturn, 1) := by decide +kernel
theorem dd_M_latestOf_0 : decode mm_M_latestOf.2.1 0 = .ok (.aload_n 0, 1) := by decide +kernel
theorem dd_M_latestOf_1 : decode mm_M_latestOf.2.1 1 = .ok (.getfield 25, 3) := by decide +kernel
theorem dd_M_latestOf_4 : decode mm_M_latestOf.2.1 4 = .ok (.iconst 1, 1) := by decide +kernel
theorem dd_M_latestOf_5 : decode mm_M_latestOf.2.1 5 = .ok (.isub, 1) := by decide +kernel
theorem dd_M_latestOf_6 : decode mm_M_latestOf.2.1 6 = .ok (.istore_n 2, 1) := by decide +kernel
theorem dd_M_latestOf_7 : decode mm_M_latestOf.2.1 7 = .ok (.aload_n 0, 1) := by decide +kernel
theorem dd_M_latestOf_8 : decode mm_M_latestOf.2.1 8 = .ok (.getfield 29, 3) := by decide +kernel
theorem dd_M_latestOf_11 : decode mm_M_latestOf.2.1 11 = .ok (.bipush 6, 2) := by decide +kernel
theorem dd_M_latestOf_13 : decode mm_M_latestOf.2.1 13 = .ok (.iload_n 2, 1) := by decide +kernel
theorem dd_M_latestOf_14 : decode mm_M_latestOf.2.1 14 = .ok (.bipush 16, 2) := by decide +kernel
theorem dd_M_latestOf_16 : decode mm_M_latestOf.2.1 16 = .ok (.irem, 1) := by decide +kernel
theorem dd_M_latestOf_17 : decode mm_M_latestOf.2.1 17 = .ok (.imul, 1) := by decide +kernel
theorem dd_M_latestOf_18 : decode mm_M_latestOf.2.1 18 = .ok (.iaload, 1) := by decide +kernel
theorem dd_M_latestOf_19 : decode mm_M_latestOf.2.1 19 = .ok (.aload_n 0, 1) := by decide +kernel
theorem dd_M_latestOf_20 : decode mm_M_latestOf.2.1 20 = .ok (.getfield 29, 3) := by decide +kernel
theorem dd_M_latestOf_23 : decode mm_M_latestOf.2.1 23 = .ok (.bipush 6, 2) := by decide +kernel
theorem dd_M_latestOf_25 : decode mm_M_latestOf.2.1 25 = .ok (.iload_n 1, 1) := by decide +kernel
theorem dd_M_latestOf_26 : decode mm_M_latestOf.2.1 26 = .ok (.bipush 16, 2) := by decide +kernel
theorem dd_M_latestOf_28 : decode mm_M_latestOf.2.1 28 = .ok (.irem, 1) := by decide +kernel
theorem dd_M_latestOf_29 : decode mm_M_latestOf.2.1 29 = .ok (.imul, 1) := by decide +kernel
theorem dd_M_latestOf_30 : decode mm_M_latestOf.2.1 30 = .ok (.iaload, 1) := by decide +kernel
theorem dd_M_latestOf_31 : decode mm_M_latestOf.2.1 31 = .ok (.if_icmp .eq 9, 3) := by decide +kernel
theorem dd_M_latestOf_34 : decode mm_M_latestOf.2.1 34 = .ok (.iinc 2 (-1), 3) := by decide +kernel
theorem dd_M_latestOf_37 : decode mm_M_latestOf.2.1 37 = .ok (.goto (-30), 3) := by decide +kernel
theorem dd_M_latestOf_40 : decode mm_M_latestOf.2.1 40 = .ok (.iload_n 2, 1) := by decide +kernel
theorem dd_M_latestOf_41 : decode mm_M_latestOf.2.1 41 = .ok (.ireturn, 1) := by decide +kernel
theorem dd_M_list_0 : decode mm_M_list.2.1 0 = .ok (.aload_n 0, 1) := by decide +kernel
theorem dd_M_list_1 : decode mm_M_list.2.1 1 = .ok (.iload_n 1, 1) := by decide +kernel
theorem dd_M_list_2 : decode mm_M_list.2.1 2 = .ok (.invokestatic 153, 3) := by decide +kernel
theorem dd_M_list_5 : decode mm_M_list.2.1 5 = .ok (.ifCond .ne 7, 3) := by decide +kernel
theorem dd_M_list_8 : decode mm_M_list.2.1 8 = .ok (.iconst 1, 1) := by decide +kernel
theorem dd_M_list_9 : decode mm_M_list.2.1 9 = .ok (.goto 4, 3) := by decide +kernel
theorem dd_M_list_12 : decode mm_M_list.2.1 12 = .ok (.iconst 0, 1) := by decide +kernel
theorem dd_M_list_13 : decode mm_M_list.2.1 13 = .ok (.iconst 0, 1) := by decide +kernel
theorem dd_M_list_14 : decode mm_M_list.2.1 14 = .ok (.iconst 0, 1) := by decide +kernel
theorem dd_M_list_15 : decode mm_M_list.2.1 15 = .ok (.iconst 0, 1) := by decide +kernel
theorem dd_M_list_16 : decode mm_M_list.2.1 16 = .ok (.invokevirtual 128, 3) := by decide +kernel
theorem dd_M_list_19 : decode mm_M_list.2.1 19 = .ok (.ifCond .ne 8, 3) := by decide +kernel
theorem dd_M_list_22 : decode mm_M_list.2.1 22 = .ok (.aload_n 0, 1) := by decide +kernel
theorem dd_M_list_23 : decode mm_M_list.2.1 23 = .ok (.iload_n 1, 1) := by decide +kernel
theorem dd_M_list_24 : decode mm_M_list.2.1 24 = .ok (.invokevirtual 159, 3) := by decide +kernel
theorem dd_M_list_27 : decode mm_M_list.2.1 27 = .ok (.return_, 1) := by decide +kernel
theorem dd_M_live_0 : decode mm_M_live.2.1 0 = .ok (.aload_n 0, 1) := by decide +kernel
theorem dd_M_live_1 : decode mm_M_live.2.1 1 = .ok (.iconst 0, 1) := by decide +kernel
theorem dd_M_live_2 : decode mm_M_live.2.1 2 = .ok (.putfield 81, 3) := by decide +kernel
theorem dd_M_live_5 : decode mm_M_live.2.1 5 = .ok (.aload_n 0, 1) := by decide +kernel
theorem dd_M_live_6 : decode mm_M_live.2.1 6 = .ok (.getfield 84, 3) := by decide +kernel
theorem dd_M_live_9 : decode mm_M_live.2.1 9 = .ok (.ireturn, 1) := by decide +kernel
theorem dd_M_make_0 : decode mm_M_make.2.1 0 = .ok (.iload_n 1, 1) := by decide +kernel
theorem dd_M_make_1 : decode mm_M_make.2.1 1 = .ok (.ifCond .eq 11, 3) := by decide +kernel
theorem dd_M_make_4 : decode mm_M_make.2.1 4 = .ok (.aload_n 0, 1) := by decide +kernel
theorem dd_M_make_5 : decode mm_M_make.2.1 5 = .ok (.iload_n 1, 1) := by decide +kernel
theorem dd_M_make_6 : decode mm_M_make.2.1 6 = .ok (.invokevirtual 87, 3) := by decide +kernel
theorem dd_M_make_9 : decode mm_M_make.2.1 9 = .ok (.ifCond .lt 7, 3) := by decide +kernel
theorem dd_M_make_12 : decode mm_M_make.2.1 12 = .ok (.iconst 1, 1) := by decide +kernel
theorem dd_M_make_13 : decode mm_M_make.2.1 13 = .ok (.goto 4, 3) := by decide +kernel
theorem dd_M_make_16 : decode mm_M_make.2.1 16 = .ok (.iconst 0, 1) := by decide +kernel
theorem dd_M_make_17 : decode mm_M_make.2.1 17 = .ok (.istore 4, 2) := by decide +kernel
theorem dd_M_make_19 : decode mm_M_make.2.1 19 = .ok (.aload_n 0, 1) := by decide +kernel
theorem dd_M_make_20 : decode mm_M_make.2.1 20 = .ok (.aload_n 0, 1) := by decide +kernel
theorem dd_M_make_21 : decode mm_M_make.2.1 21 = .ok (.getfield 91, 3) := by decide +kernel
theorem dd_M_make_24 : decode mm_M_make.2.1 24 = .ok (.ifCond .ne 12, 3) := by decide +kernel
theorem dd_M_make_27 : decode mm_M_make.2.1 27 = .ok (.aload_n 0, 1) := by decide +kernel
theorem dd_M_make_28 : decode mm_M_make.2.1 28 = .ok (.getfield 84, 3) := by decide +kernel
theorem dd_M_make_31 : decode mm_M_make.2.1 31 = .ok (.bipush 20, 2) := by decide +kernel
theorem dd_M_make_33 : decode mm_M_make.2.1 33 = .ok (.if_icmp .ne 7, 3) := by decide +kernel
theorem dd_M_make_36 : decode mm_M_make.2.1 36 = .ok (.iconst 1, 1) := by decide +kernel
theorem dd_M_make_37 : decode mm_M_make.2.1 37 = .ok (.goto 4, 3) := by decide +kernel
theorem dd_M_make_40 : decode mm_M_make.2.1 40 = .ok (.iconst 0, 1) := by decide +kernel
theorem dd_M_make_41 : decode mm_M_make.2.1 41 = .ok (.iload_n 3, 1) := by decide +kernel
theorem dd_M_make_42 : decode mm_M_make.2.1 42 = .ok (.ifCond .ne 7, 3) := by decide +kernel
theorem dd_M_make_45 : decode mm_M_make.2.1 45 = .ok (.iconst 1, 1) := by decide +kernel
theorem dd_M_make_46 : decode mm_M_make.2.1 46 = .ok (.goto 4, 3) := by decide +kernel
theorem dd_M_make_49 : decode mm_M_make.2.1 49 = .ok (.iconst 0, 1) := by decide +kernel
theorem dd_M_make_50 : decode mm_M_make.2.1 50 = .ok (.iload 4, 2) := by decide +kernel
theorem dd_M_make_52 : decode mm_M_make.2.1 52 = .ok (.ifCond .ne 7, 3) := by decide +kernel
theorem dd_M_make_55 : decode mm_M_make.2.1 55 = .ok (.iconst 1, 1) := by decide +kernel
theorem dd_M_make_56 : decode mm_M_make.2.1 56 = .ok (.goto 4, 3) := by decide +kernel
theorem dd_M_make_59 : decode mm_M_make.2.1 59 = .ok (.iconst 0, 1) := by decide +kernel
theorem dd_M_make_60 : decode mm_M_make.2.1 60 = .ok (.aload_n 0, 1) := by decide +kernel
theorem dd_M_make_61 : decode mm_M_make.2.1 61 = .ok (.iload_n 1, 1) := by decide +kernel
theorem dd_M_make_62 : decode mm_M_make.2.1 62 = .ok (.invokevirtual 121, 3) := by decide +kernel
theorem dd_M_make_65 : decode mm_M_make.2.1 65 = .ok (.ifCond .eq 12, 3) := by decide +kernel
theorem dd_M_make_68 : decode mm_M_make.2.1 68 = .ok (.aload_n 0, 1) := by decide +kernel
theorem dd_M_make_69 : decode mm_M_make.2.1 69 = .ok (.iload_n 1, 1) := by decide +kernel
theorem dd_M_make_70 : decode mm_M_make.2.1 70 = .ok (.iload_n 3, 1) := by decide +kernel
theorem dd_M_make_71 : decode mm_M_make.2.1 71 = .ok (.invokevirtual 124, 3) := by decide +kernel
theorem dd_M_make_74 : decode mm_M_make.2.1 74 = .ok (.ifCond .lt 7, 3) := by decide +kernel
theorem dd_M_make_77 : decode mm_M_make.2.1 77 = .ok (.iconst 1, 1) := by decide +kernel
theorem dd_M_make_78 : decode mm_M_make.2.1 78 = .ok (.goto 4, 3) := by decide +kernel
theorem dd_M_make_81 : decode mm_M_make.2.1 81 = .ok (.iconst 0, 1) := by decide +kernel
theorem dd_M_make_82 : decode mm_M_make.2.1 82 = .ok (.invokevirtual 128, 3) := by decide +kernel
theorem dd_M_make_85 : decode mm_M_make.2.1 85 = .ok (.ifCond .eq 5, 3) := by decide +kernel
theorem dd_M_make_88 : decode mm_M_make.2.1 88 = .ok (.iconst 0, 1) := by decide +kernel
theorem dd_M_make_89 : decode mm_M_make.2.1 89 = .ok (.ireturn, 1) := by decide +kernel
theorem dd_M_make_90 : decode mm_M_make.2.1 90 = .ok (.aload_n 0, 1) := by decide +kernel
theorem dd_M_make_91 : decode mm_M_make.2.1 91 = .ok (.getfield 132, 3) := by decide +kernel
theorem dd_M_make_94 : decode mm_M_make.2.1 94 = .ok (.iconst 1, 1) := by decide +kernel
theorem dd_M_make_95 : decode mm_M_make.2.1 95 = .ok (.iadd, 1) := by decide +kernel
theorem dd_M_make_96 : decode mm_M_make.2.1 96 = .ok (.istore 5, 2) := by decide +kernel
theorem dd_M_make_98 : decode mm_M_make.2.1 98 = .ok (.iload_n 2, 1) := by decide +kernel
theorem dd_M_make_99 : decode mm_M_make.2.1 99 = .ok (.ifCond .eq 7, 3) := by decide +kernel
theorem dd_M_make_102 : decode mm_M_make.2.1 102 = .ok (.iconst 1, 1) := by decide +kernel
theorem dd_M_make_103 : decode mm_M_make.2.1 103 = .ok (.goto 4, 3) := by decide +kernel
theorem dd_M_make_106 : decode mm_M_make.2.1 106 = .ok (.iconst 0, 1) := by decide +kernel
theorem dd_M_make_107 : decode mm_M_make.2.1 107 = .ok (.istore 6, 2) := by decide +kernel
theorem dd_M_make_109 : decode mm_M_make.2.1 109 = .ok (.aload_n 0, 1) := by decide +kernel
theorem dd_M_make_110 : decode mm_M_make.2.1 110 = .ok (.iload 5, 2) := by decide +kernel
theorem dd_M_make_112 : decode mm_M_make.2.1 112 = .ok (.invokevirtual 135, 3) := by decide +kernel
theorem dd_M_make_115 : decode mm_M_make.2.1 115 = .ok (.ifCond .eq 25, 3) := by decide +kernel
theorem dd_M_make_118 : decode mm_M_make.2.1 118 = .ok (.aload_n 0, 1) := by decide +kernel
theorem dd_M_make_119 : decode mm_M_make.2.1 119 = .ok (.iload 5, 2) := by decide +kernel
theorem dd_M_make_121 : decode mm_M_make.2.1 121 = .ok (.iload 6, 2) := by decide +kernel
theorem dd_M_make_123 : decode mm_M_make.2.1 123 = .ok (.iload_n 1, 1) := by decide +kernel
theorem dd_M_make_124 : decode mm_M_make.2.1 124 = .ok (.iload_n 3, 1) := by decide +kernel
theorem dd_M_make_125 : decode mm_M_make.2.1 125 = .ok (.iconst 0, 1) := by decide +kernel
theorem dd_M_make_126 : decode mm_M_make.2.1 126 = .ok (.iconst 1, 1) := by decide +kernel
theorem dd_M_make_127 : decode mm_M_make.2.1 127 = .ok (.invokevirtual 138, 3) := by decide +kernel
theorem dd_M_make_130 : decode mm_M_make.2.1 130 = .ok (.ifCond .eq 10, 3) := by decide +kernel
theorem dd_M_make_133 : decode mm_M_make.2.1 133 = .ok (.aload_n 0, 1) := by decide +kernel
theorem dd_M_make_134 : decode mm_M_make.2.1 134 = .ok (.invokevirtual 102, 3) := by decide +kernel
theorem dd_M_make_137 : decode mm_M_make.2.1 137 = .ok (.ifCond .ne 6, 3) := by decide +kernel
theorem dd_M_make_140 : decode mm_M_make.2.1 140 = .ok (.bipush (-2), 2) := by decide +kernel
theorem dd_M_make_142 : decode mm_M_make.2.1 142 = .ok (.ireturn, 1) := by decide +kernel
theorem dd_M_make_143 : decode mm_M_make.2.1 143 = .ok (.aload_n 0, 1) := by decide +kernel
theorem dd_M_make_144 : decode mm_M_make.2.1 144 = .ok (.iload 5, 2) := by decide +kernel
theorem dd_M_make_146 : decode mm_M_make.2.1 146 = .ok (.putfield 132, 3) := by decide +kernel
theorem dd_M_make_149 : decode mm_M_make.2.1 149 = .ok (.aload_n 0, 1) := by decide +kernel
theorem dd_M_make_150 : decode mm_M_make.2.1 150 = .ok (.getfield 7, 3) := by decide +kernel
theorem dd_M_make_153 : decode mm_M_make.2.1 153 = .ok (.aload_n 0, 1) := by decide +kernel
theorem dd_M_make_154 : decode mm_M_make.2.1 154 = .ok (.getfield 84, 3) := by decide +kernel
theorem dd_M_make_157 : decode mm_M_make.2.1 157 = .ok (.iload 5, 2) := by decide +kernel
theorem dd_M_make_159 : decode mm_M_make.2.1 159 = .ok (.iastore, 1) := by decide +kernel
theorem dd_M_make_160 : decode mm_M_make.2.1 160 = .ok (.aload_n 0, 1) := by decide +kernel
theorem dd_M_make_161 : decode mm_M_make.2.1 161 = .ok (.getfield 13, 3) := by decide +kernel
theorem dd_M_make_164 : decode mm_M_make.2.1 164 = .ok (.aload_n 0, 1) := by decide +kernel
theorem dd_M_make_165 : decode mm_M_make.2.1 165 = .ok (.getfield 84, 3) := by decide +kernel
theorem dd_M_make_168 : decode mm_M_make.2.1 168 = .ok (.iload 6, 2) := by decide +kernel
theorem dd_M_make_170 : decode mm_M_make.2.1 170 = .ok (.iastore, 1) := by decide +kernel
theorem dd_M_make_171 : decode mm_M_make.2.1 171 = .ok (.aload_n 0, 1) := by decide +kernel
theorem dd_M_make_172 : decode mm_M_make.2.1 172 = .ok (.getfield 16, 3) := by decide +kernel
theorem dd_M_make_175 : decode mm_M_make.2.1 175 = .ok (.aload_n 0, 1) := by decide +kernel
theorem dd_M_make_176 : decode mm_M_make.2.1 176 = .ok (.getfield 84, 3) := by decide +kernel
theorem dd_M_make_179 : decode mm_M_make.2.1 179 = .ok (.iload_n 1, 1) := by decide +kernel
theorem dd_M_make_180 : decode mm_M_make.2.1 180 = .ok (.iastore, 1) := by decide +kernel
theorem dd_M_make_181 : decode mm_M_make.2.1 181 = .ok (.aload_n 0, 1) := by decide +kernel
theorem dd_M_make_182 : decode mm_M_make.2.1 182 = .ok (.getfield 19, 3) := by decide +kernel
theorem dd_M_make_185 : decode mm_M_make.2.1 185 = .ok (.aload_n 0, 1) := by decide +kernel
theorem dd_M_make_186 : decode mm_M_make.2.1 186 = .ok (.getfield 84, 3) := by decide +kernel
theorem dd_M_make_189 : decode mm_M_make.2.1 189 = .ok (.iload_n 3, 1) := by decide +kernel
theorem dd_M_make_190 : decode mm_M_make.2.1 190 = .ok (.iastore, 1) := by decide +kernel
theorem dd_M_make_191 : decode mm_M_make.2.1 191 = .ok (.aload_n 0, 1) := by decide +kernel
theorem dd_M_make_192 : decode mm_M_make.2.1 192 = .ok (.getfield 22, 3) := by decide +kernel
theorem dd_M_make_195 : decode mm_M_make.2.1 195 = .ok (.aload_n 0, 1) := by decide +kernel
theorem dd_M_make_196 : decode mm_M_make.2.1 196 = .ok (.getfield 84, 3) := by decide +kernel
theorem dd_M_make_199 : decode mm_M_make.2.1 199 = .ok (.iconst 0, 1) := by decide +kernel
theorem dd_M_make_200 : decode mm_M_make.2.1 200 = .ok (.iastore, 1) := by decide +kernel
theorem dd_M_make_201 : decode mm_M_make.2.1 201 = .ok (.aload_n 0, 1) := by decide +kernel
theorem dd_M_make_202 : decode mm_M_make.2.1 202 = .ok (.dup, 1) := by decide +kernel
theorem dd_M_make_203 : decode mm_M_make.2.1 203 = .ok (.getfield 84, 3) := by decide +kernel
theorem dd_M_make_206 : decode mm_M_make.2.1 206 = .ok (.iconst 1, 1) := by decide +kernel
theorem dd_M_make_207 : decode mm_M_make.2.1 207 = .ok (.iadd, 1) := by decide +kernel
theorem dd_M_make_208 : decode mm_M_make.2.1 208 = .ok (.putfield 84, 3) := by decide +kernel
theorem dd_M_make_211 : decode mm_M_make.2.1 211 = .ok (.iload 5, 2) := by decide +kernel
theorem dd_M_make_213 : decode mm_M_make.2.1 213 = .ok (.ireturn, 1) := by decide +kernel
theorem dd_M_named_0 : decode mm_M_named.2.1 0 = .ok (.iconst 0, 1) := by decide +kernel
theorem dd_M_named_1 : decode mm_M_named.2.1 1 = .ok (.istore_n 3, 1) := by decide +kernel
theorem dd_M_named_2 : decode mm_M_named.2.1 2 = .ok (.iload_n 3, 1) := by decide +kernel
theorem dd_M_named_3 : decode mm_M_named.2.1 3 = .ok (.aload_n 0, 1) := by decide +kernel
theorem dd_M_named_4 : decode mm_M_named.2.1 4 = .ok (.getfield 84, 3) := by decide +kernel
theorem dd_M_named_7 : decode mm_M_named.2.1 7 = .ok (.if_icmp .ge 36, 3) := by decide +kernel
theorem dd_M_named_10 : decode mm_M_named.2.1 10 = .ok (.aload_n 0, 1) := by decide +kernel
theorem dd_M_named_11 : decode mm_M_named.2.1 11 = .ok (.getfield 16, 3) := by decide +kernel
theorem dd_M_named_14 : decode mm_M_named.2.1 14 = .ok (.iload_n 3, 1) := by decide +kernel
theorem dd_M_named_15 : decode mm_M_named.2.1 15 = .ok (.iaload, 1) := by decide +kernel
theorem dd_M_named_16 : decode mm_M_named.2.1 16 = .ok (.iload_n 1, 1) := by decide +kernel
theorem dd_M_named_17 : decode mm_M_named.2.1 17 = .ok (.if_icmp .ne 20, 3) := by decide +kernel
theorem dd_M_named_20 : decode mm_M_named.2.1 20 = .ok (.aload_n 0, 1) := by decide +kernel
theorem dd_M_named_21 : decode mm_M_named.2.1 21 = .ok (.getfield 19, 3) := by decide +kernel
theorem dd_M_named_24 : decode mm_M_named.2.1 24 = .ok (.iload_n 3, 1) := by decide +kernel
theorem dd_M_named_25 : decode mm_M_named.2.1 25 = .ok (.iaload, 1) := by decide +kernel
theorem dd_M_named_26 : decode mm_M_named.2.1 26 = .ok (.iload_n 2, 1) := by decide +kernel
theorem dd_M_named_27 : decode mm_M_named.2.1 27 = .ok (.if_icmp .ne 10, 3) := by decide +kernel
theorem dd_M_named_30 : decode mm_M_named.2.1 30 = .ok (.aload_n 0, 1) := by decide +kernel
theorem dd_M_named_31 : decode mm_M_named.2.1 31 = .ok (.getfield 7, 3) := by decide +kernel
theorem dd_M_named_34 : decode mm_M_named.2.1 34 = .ok (.iload_n 3, 1) := by decide +kernel
theorem dd_M_named_35 : decode mm_M_named.2.1 35 = .ok (.iaload, 1) := by decide +kernel
theorem dd_M_named_36 : decode mm_M_named.2.1 36 = .ok (.ireturn, 1) := by decide +kernel
theorem dd_M_named_37 : decode mm_M_named.2.1 37 = .ok (.iinc 3 1, 3) := by decide +kernel
theorem dd_M_named_40 : decode mm_M_named.2.1 40 = .ok (.goto (-38), 3) := by decide +kernel
theorem dd_M_named_43 : decode mm_M_named.2.1 43 = .ok (.iconst (-1), 1) := by decide +kernel
theorem dd_M_named_44 : decode mm_M_named.2.1 44 = .ok (.ireturn, 1) := by decide +kernel
theorem dd_M_note_0 : decode mm_M_note.2.1 0 = .ok (.aload_n 0, 1) := by decide +kernel
theorem dd_M_note_1 : decode mm_M_note.2.1 1 = .ok (.iload_n 1, 1) := by decide +kernel
theorem dd_M_note_2 : decode mm_M_note.2.1 2 = .ok (.aload_n 0, 1) := by decide +kernel
theorem dd_M_note_3 : decode mm_M_note.2.1 3 = .ok (.invokevirtual 149, 3) := by decide +kernel
theorem dd_M_note_6 : decode mm_M_note.2.1 6 = .ok (.if_icmp .lt 11, 3) := by decide +kernel
theorem dd_M_note_9 : decode mm_M_note.2.1 9 = .ok (.iload_n 1, 1) := by decide +kernel
theorem dd_M_note_10 : decode mm_M_note.2.1 10 = .ok (.aload_n 0, 1) := by decide +kernel
theorem dd_M_note_11 : decode mm_M_note.2.1 11 = .ok (.getfield 25, 3) := by decide +kernel
theorem dd_M_note_14 : decode mm_M_note.2.1 14 = .ok (.if_icmp .lt 7, 3) := by decide +kernel
theorem dd_M_note_17 : decode mm_M_note.2.1 17 = .ok (.iconst 1, 1) := by decide +kernel
theorem dd_M_note_18 : decode mm_M_note.2.1 18 = .ok (.goto 4, 3) := by decide +kernel
theorem dd_M_note_21 : decode mm_M_note.2.1 21 = .ok (.iconst 0, 1) := by decide +kernel
theorem dd_M_note_22 : decode mm_M_note.2.1 22 = .ok (.iload_n 2, 1) := by decide +kernel
theorem dd_M_note_23 : decode mm_M_note.2.1 23 = .ok (.ifCond .lt 8, 3) := by decide +kernel
theorem dd_M_note_26 : decode mm_M_note.2.1 26 = .ok (.iload_n 2, 1) := by decide +kernel
theorem dd_M_note_27 : decode mm_M_note.2.1 27 = .ok (.iconst 5, 1) := by decide +kernel
theorem dd_M_note_28 : decode mm_M_note.2.1 28 = .ok (.if_icmp .le 7, 3) := by decide +kernel
theorem dd_M_note_31 : decode mm_M_note.2.1 31 = .ok (.iconst 1, 1) := by decide +kernel
theorem dd_M_note_32 : decode mm_M_note.2.1 32 = .ok (.goto 4, 3) := by decide +kernel
theorem dd_M_note_35 : decode mm_M_note.2.1 35 = .ok (.iconst 0, 1) := by decide +kernel
theorem dd_M_note_36 : decode mm_M_note.2.1 36 = .ok (.iconst 0, 1) := by decide +kernel
theorem dd_M_note_37 : decode mm_M_note.2.1 37 = .ok (.iconst 0, 1) := by decide +kernel
theorem dd_M_note_38 : decode mm_M_note.2.1 38 = .ok (.invokevirtual 128, 3) := by decide +kernel
theorem dd_M_note_41 : decode mm_M_note.2.1 41 = .ok (.ifCond .eq 5, 3) := by decide +kernel
theorem dd_M_note_44 : decode mm_M_note.2.1 44 = .ok (.iconst 0, 1) := by decide +kernel
theorem dd_M_note_45 : decode mm_M_note.2.1 45 = .ok (.ireturn, 1) := by decide +kernel
theorem dd_M_note_46 : decode mm_M_note.2.1 46 = .ok (.aload_n 0, 1) := by decide +kernel
theorem dd_M_note_47 : decode mm_M_note.2.1 47 = .ok (.getfield 29, 3) := by decide +kernel
theorem dd_M_note_50 : decode mm_M_note.2.1 50 = .ok (.bipush 6, 2) := by decide +kernel
theorem dd_M_note_52 : decode mm_M_note.2.1 52 = .ok (.iload_n 1, 1) := by decide +kernel
theorem dd_M_note_53 : decode mm_M_note.2.1 53 = .ok (.bipush 16, 2) := by decide +kernel
theorem dd_M_note_55 : decode mm_M_note.2.1 55 = .ok (.irem, 1) := by decide +kernel
theorem dd_M_note_56 : decode mm_M_note.2.1 56 = .ok (.imul, 1) := by decide +kernel
theorem dd_M_note_57 : decode mm_M_note.2.1 57 = .ok (.iload_n 2, 1) := by decide +kernel
theorem dd_M_note_58 : decode mm_M_note.2.1 58 = .ok (.iadd, 1) := by decide +kernel
theorem dd_M_note_59 : decode mm_M_note.2.1 59 = .ok (.iaload, 1) := by decide +kernel
theorem dd_M_note_60 : decode mm_M_note.2.1 60 = .ok (.ireturn, 1) := by decide +kernel
theorem dd_M_noteChange_0 : decode mm_M_noteChange.2.1 0 = .ok (.aload_n 0, 1) := by decide +kernel
theorem dd_M_noteChange_1 : decode mm_M_noteChange.2.1 1 = .ok (.invokevirtual 102, 3) := by decide +kernel
theorem dd_M_noteChange_4 : decode mm_M_noteChange.2.1 4 = .ok (.ifCond .ne 5, 3) := by decide +kernel
theorem dd_M_noteChange_7 : decode mm_M_noteChange.2.1 7 = .ok (.iconst 0, 1) := by decide +kernel
theorem dd_M_noteChange_8 : decode mm_M_noteChange.2.1 8 = .ok (.ireturn, 1) := by decide +kernel
theorem dd_M_noteChange_9 : decode mm_M_noteChange.2.1 9 = .ok (.aload_n 0, 1) := by decide +kernel
theorem dd_M_noteChange_10 : decode mm_M_noteChange.2.1 10 = .ok (.iload_n 1, 1) := by decide +kernel
theorem dd_M_noteChange_11 : decode mm_M_noteChange.2.1 11 = .ok (.invokevirtual 114, 3) := by decide +kernel
theorem dd_M_noteChange_14 : decode mm_M_noteChange.2.1 14 = .ok (.istore 7, 2) := by decide +kernel
theorem dd_M_noteChange_16 : decode mm_M_noteChange.2.1 16 = .ok (.iload 7, 2) := by decide +kernel
theorem dd_M_noteChange_18 : decode mm_M_noteChange.2.1 18 = .ok (.ifCond .ge 35, 3) := by decide +kernel
theorem dd_M_noteChange_21 : decode mm_M_noteChange.2.1 21 = .ok (.aload_n 0, 1) := by decide +kernel
theorem dd_M_noteChange_22 : decode mm_M_noteChange.2.1 22 = .ok (.getfield 95, 3) := by decide +kernel
theorem dd_M_noteChange_25 : decode mm_M_noteChange.2.1 25 = .ok (.istore 7, 2) := by decide +kernel
theorem dd_M_noteChange_27 : decode mm_M_noteChange.2.1 27 = .ok (.aload_n 0, 1) := by decide +kernel
theorem dd_M_noteChange_28 : decode mm_M_noteChange.2.1 28 = .ok (.getfield 32, 3) := by decide +kernel
theorem dd_M_noteChange_31 : decode mm_M_noteChange.2.1 31 = .ok (.iload 7, 2) := by decide +kernel
theorem dd_M_noteChange_33 : decode mm_M_noteChange.2.1 33 = .ok (.iload_n 1, 1) := by decide +kernel
theorem dd_M_noteChange_34 : decode mm_M_noteChange.2.1 34 = .ok (.iastore, 1) := by decide +kernel
theorem dd_M_noteChange_35 : decode mm_M_noteChange.2.1 35 = .ok (.aload_n 0, 1) := by decide +kernel
theorem dd_M_noteChange_36 : decode mm_M_noteChange.2.1 36 = .ok (.getfield 35, 3) := by decide +kernel
theorem dd_M_noteChange_39 : decode mm_M_noteChange.2.1 39 = .ok (.iload 7, 2) := by decide +kernel
theorem dd_M_noteChange_41 : decode mm_M_noteChange.2.1 41 = .ok (.iconst 0, 1) := by decide +kernel
theorem dd_M_noteChange_42 : decode mm_M_noteChange.2.1 42 = .ok (.iastore, 1) := by decide +kernel
theorem dd_M_noteChange_43 : decode mm_M_noteChange.2.1 43 = .ok (.aload_n 0, 1) := by decide +kernel
theorem dd_M_noteChange_44 : decode mm_M_noteChange.2.1 44 = .ok (.dup, 1) := by decide +kernel
theorem dd_M_noteChange_45 : decode mm_M_noteChange.2.1 45 = .ok (.getfield 95, 3) := by decide +kernel
theorem dd_M_noteChange_48 : decode mm_M_noteChange.2.1 48 = .ok (.iconst 1, 1) := by decide +kernel
theorem dd_M_noteChange_49 : decode mm_M_noteChange.2.1 49 = .ok (.iadd, 1) := by decide +kernel
theorem dd_M_noteChange_50 : decode mm_M_noteChange.2.1 50 = .ok (.putfield 95, 3) := by decide +kernel
theorem dd_M_noteChange_53 : decode mm_M_noteChange.2.1 53 = .ok (.aload_n 0, 1) := by decide +kernel
theorem dd_M_noteChange_54 : decode mm_M_noteChange.2.1 54 = .ok (.getfield 35, 3) := by decide +kernel
theorem dd_M_noteChange_57 : decode mm_M_noteChange.2.1 57 = .ok (.iload 7, 2) := by decide +kernel
theorem dd_M_noteChange_59 : decode mm_M_noteChange.2.1 59 = .ok (.aload_n 0, 1) := by decide +kernel
theorem dd_M_noteChange_60 : decode mm_M_noteChange.2.1 60 = .ok (.getfield 35, 3) := by decide +kernel
theorem dd_M_noteChange_63 : decode mm_M_noteChange.2.1 63 = .ok (.iload 7, 2) := by decide +kernel
theorem dd_M_noteChange_65 : decode mm_M_noteChange.2.1 65 = .ok (.iaload, 1) := by decide +kernel
theorem dd_M_noteChange_66 : decode mm_M_noteChange.2.1 66 = .ok (.iload 6, 2) := by decide +kernel
theorem dd_M_noteChange_68 : decode mm_M_noteChange.2.1 68 = .ok (.ior, 1) := by decide +kernel
theorem dd_M_noteChange_69 : decode mm_M_noteChange.2.1 69 = .ok (.iastore, 1) := by decide +kernel
theorem dd_M_noteChange_70 : decode mm_M_noteChange.2.1 70 = .ok (.aload_n 0, 1) := by decide +kernel
theorem dd_M_noteChange_71 : decode mm_M_noteChange.2.1 71 = .ok (.iload_n 1, 1) := by decide +kernel
theorem dd_M_noteChange_72 : decode mm_M_noteChange.2.1 72 = .ok (.iload_n 2, 1) := by decide +kernel
theorem dd_M_noteChange_73 : decode mm_M_noteChange.2.1 73 = .ok (.iload_n 3, 1) := by decide +kernel
theorem dd_M_noteChange_74 : decode mm_M_noteChange.2.1 74 = .ok (.iload 4, 2) := by decide +kernel
theorem dd_M_noteChange_76 : decode mm_M_noteChange.2.1 76 = .ok (.iload 5, 2) := by decide +kernel
theorem dd_M_noteChange_78 : decode mm_M_noteChange.2.1 78 = .ok (.aload_n 0, 1) := by decide +kernel
theorem dd_M_noteChange_79 : decode mm_M_noteChange.2.1 79 = .ok (.getfield 35, 3) := by decide +kernel
theorem dd_M_noteChange_82 : decode mm_M_noteChange.2.1 82 = .ok (.iload 7, 2) := by decide +kernel
theorem dd_M_noteChange_84 : decode mm_M_noteChange.2.1 84 = .ok (.iaload, 1) := by decide +kernel
theorem dd_M_noteChange_85 : decode mm_M_noteChange.2.1 85 = .ok (.invokevirtual 98, 3) := by decide +kernel
theorem dd_M_noteChange_88 : decode mm_M_noteChange.2.1 88 = .ok (.iconst 1, 1) := by decide +kernel
theorem dd_M_noteChange_89 : decode mm_M_noteChange.2.1 89 = .ok (.ireturn, 1) := by decide +kernel
theorem dd_M_noteClosing_0 : decode mm_M_noteClosing.2.1 0 = .ok (.aload_n 0, 1) := by decide +kernel
theorem dd_M_noteClosing_1 : decode mm_M_noteClosing.2.1 1 = .ok (.iload_n 1, 1) := by decide +kernel
theorem dd_M_noteClosing_2 : decode mm_M_noteClosing.2.1 2 = .ok (.invokevirtual 87, 3) := by decide +kernel
theorem dd_M_noteClosing_5 : decode mm_M_noteClosing.2.1 5 = .ok (.istore_n 3, 1) := by decide +kernel
theorem dd_M_noteClosing_6 : decode mm_M_noteClosing.2.1 6 = .ok (.aload_n 0, 1) := by decide +kernel
theorem dd_M_noteClosing_7 : decode mm_M_noteClosing.2.1 7 = .ok (.iload_n 1, 1) := by decide +kernel
theorem dd_M_noteClosing_8 : decode mm_M_noteClosing.2.1 8 = .ok (.iload_n 3, 1) := by decide +kernel
theorem dd_M_noteClosing_9 : decode mm_M_noteClosing.2.1 9 = .ok (.ifCond .ge 7, 3) := by decide +kernel
theorem dd_M_noteClosing_12 : decode mm_M_noteClosing.2.1 12 = .ok (.iconst 0, 1) := by decide +kernel
theorem dd_M_noteClosing_13 : decode mm_M_noteClosing.2.1 13 = .ok (.goto 9, 3) := by decide +kernel
theorem dd_M_noteClosing_16 : decode mm_M_noteClosing.2.1 16 = .ok (.aload_n 0, 1) := by decide +kernel
theorem dd_M_noteClosing_17 : decode mm_M_noteClosing.2.1 17 = .ok (.getfield 13, 3) := by decide +kernel
theorem dd_M_noteClosing_20 : decode mm_M_noteClosing.2.1 20 = .ok (.iload_n 3, 1) := by decide +kernel
theorem dd_M_noteClosing_21 : decode mm_M_noteClosing.2.1 21 = .ok (.iaload, 1) := by decide +kernel
theorem dd_M_noteClosing_22 : decode mm_M_noteClosing.2.1 22 = .ok (.iload_n 3, 1) := by decide +kernel
theorem dd_M_noteClosing_23 : decode mm_M_noteClosing.2.1 23 = .ok (.ifCond .ge 7, 3) := by decide +kernel
theorem dd_M_noteClosing_26 : decode mm_M_noteClosing.2.1 26 = .ok (.iconst 0, 1) := by decide +kernel
theorem dd_M_noteClosing_27 : decode mm_M_noteClosing.2.1 27 = .ok (.goto 9, 3) := by decide +kernel
theorem dd_M_noteClosing_30 : decode mm_M_noteClosing.2.1 30 = .ok (.aload_n 0, 1) := by decide +kernel
theorem dd_M_noteClosing_31 : decode mm_M_noteClosing.2.1 31 = .ok (.getfield 16, 3) := by decide +kernel
theorem dd_M_noteClosing_34 : decode mm_M_noteClosing.2.1 34 = .ok (.iload_n 3, 1) := by decide +kernel
theorem dd_M_noteClosing_35 : decode mm_M_noteClosing.2.1 35 = .ok (.iaload, 1) := by decide +kernel
theorem dd_M_noteClosing_36 : decode mm_M_noteClosing.2.1 36 = .ok (.iload_n 3, 1) := by decide +kernel
theorem dd_M_noteClosing_37 : decode mm_M_noteClosing.2.1 37 = .ok (.ifCond .ge 7, 3) := by decide +kernel
theorem dd_M_noteClosing_40 : decode mm_M_noteClosing.2.1 40 = .ok (.iconst 0, 1) := by decide +kernel
theorem dd_M_noteClosing_41 : decode mm_M_noteClosing.2.1 41 = .ok (.goto 9, 3) := by decide +kernel
theorem dd_M_noteClosing_44 : decode mm_M_noteClosing.2.1 44 = .ok (.aload_n 0, 1) := by decide +kernel
theorem dd_M_noteClosing_45 : decode mm_M_noteClosing.2.1 45 = .ok (.getfield 19, 3) := by decide +kernel
theorem dd_M_noteClosing_48 : decode mm_M_noteClosing.2.1 48 = .ok (.iload_n 3, 1) := by decide +kernel
theorem dd_M_noteClosing_49 : decode mm_M_noteClosing.2.1 49 = .ok (.iaload, 1) := by decide +kernel
theorem dd_M_noteClosing_50 : decode mm_M_noteClosing.2.1 50 = .ok (.iload_n 3, 1) := by decide +kernel
theorem dd_M_noteClosing_51 : decode mm_M_noteClosing.2.1 51 = .ok (.ifCond .ge 7, 3) := by decide +kernel
theorem dd_M_noteClosing_54 : decode mm_M_noteClosing.2.1 54 = .ok (.iconst 0, 1) := by decide +kernel
theorem dd_M_noteClosing_55 : decode mm_M_noteClosing.2.1 55 = .ok (.goto 9, 3) := by decide +kernel
theorem dd_M_noteClosing_58 : decode mm_M_noteClosing.2.1 58 = .ok (.aload_n 0, 1) := by decide +kernel
theorem dd_M_noteClosing_59 : decode mm_M_noteClosing.2.1 59 = .ok (.getfield 22, 3) := by decide +kernel
theorem dd_M_noteClosing_62 : decode mm_M_noteClosing.2.1 62 = .ok (.iload_n 3, 1) := by decide +kernel
theorem dd_M_noteClosing_63 : decode mm_M_noteClosing.2.1 63 = .ok (.iaload, 1) := by decide +kernel
theorem dd_M_noteClosing_64 : decode mm_M_noteClosing.2.1 64 = .ok (.iload_n 2, 1) := by decide +kernel
theorem dd_M_noteClosing_65 : decode mm_M_noteClosing.2.1 65 = .ok (.bipush 64, 2) := by decide +kernel
theorem dd_M_noteClosing_67 : decode mm_M_noteClosing.2.1 67 = .ok (.ior, 1) := by decide +kernel
theorem dd_M_noteClosing_68 : decode mm_M_noteClosing.2.1 68 = .ok (.invokevirtual 98, 3) := by decide +kernel
theorem dd_M_noteClosing_71 : decode mm_M_noteClosing.2.1 71 = .ok (.return_, 1) := by decide +kernel
theorem dd_M_of_0 : decode mm_M_of.2.1 0 = .ok (.aload_n 0, 1) := by decide +kernel
theorem dd_M_of_1 : decode mm_M_of.2.1 1 = .ok (.iload_n 1, 1) := by decide +kernel
theorem dd_M_of_2 : decode mm_M_of.2.1 2 = .ok (.invokevirtual 87, 3) := by decide +kernel
theorem dd_M_of_5 : decode mm_M_of.2.1 5 = .ok (.istore_n 3, 1) := by decide +kernel
theorem dd_M_of_6 : decode mm_M_of.2.1 6 = .ok (.aload_n 0, 1) := by decide +kernel
theorem dd_M_of_7 : decode mm_M_of.2.1 7 = .ok (.iload_n 3, 1) := by decide +kernel
theorem dd_M_of_8 : decode mm_M_of.2.1 8 = .ok (.ifCond .ge 7, 3) := by decide +kernel
theorem dd_M_of_11 : decode mm_M_of.2.1 11 = .ok (.iconst 1, 1) := by decide +kernel
theorem dd_M_of_12 : decode mm_M_of.2.1 12 = .ok (.goto 4, 3) := by decide +kernel
theorem dd_M_of_15 : decode mm_M_of.2.1 15 = .ok (.iconst 0, 1) := by decide +kernel
theorem dd_M_of_16 : decode mm_M_of.2.1 16 = .ok (.iload_n 2, 1) := by decide +kernel
theorem dd_M_of_17 : decode mm_M_of.2.1 17 = .ok (.ifCond .lt 8, 3) := by decide +kernel
theorem dd_M_of_20 : decode mm_M_of.2.1 20 = .ok (.iload_n 2, 1) := by decide +kernel
theorem dd_M_of_21 : decode mm_M_of.2.1 21 = .ok (.iconst 3, 1) := by decide +kernel
theorem dd_M_of_22 : decode mm_M_of.2.1 22 = .ok (.if_icmp .le 7, 3) := by decide +kernel
theorem dd_M_of_25 : decode mm_M_of.2.1 25 = .ok (.iconst 1, 1) := by decide +kernel
theorem dd_M_of_26 : decode mm_M_of.2.1 26 = .ok (.goto 4, 3) := by decide +kernel
theorem dd_M_of_29 : decode mm_M_of.2.1 29 = .ok (.iconst 0, 1) := by decide +kernel
theorem dd_M_of_30 : decode mm_M_of.2.1 30 = .ok (.iconst 0, 1) := by decide +kernel
theorem dd_M_of_31 : decode mm_M_of.2.1 31 = .ok (.iconst 0, 1) := by decide +kernel
theorem dd_M_of_32 : decode mm_M_of.2.1 32 = .ok (.invokevirtual 128, 3) := by decide +kernel
theorem dd_M_of_35 : decode mm_M_of.2.1 35 = .ok (.ifCond .eq 5, 3) := by decide +kernel
theorem dd_M_of_38 : decode mm_M_of.2.1 38 = .ok (.iconst 0, 1) := by decide +kernel
theorem dd_M_of_39 : decode mm_M_of.2.1 39 = .ok (.ireturn, 1) := by decide +kernel
theorem dd_M_of_40 : decode mm_M_of.2.1 40 = .ok (.iload_n 2, 1) := by decide +kernel
theorem dd_M_of_41 : decode mm_M_of.2.1 41 = .ok (.ifCond .ne 12, 3) := by decide +kernel
theorem dd_M_of_44 : decode mm_M_of.2.1 44 = .ok (.aload_n 0, 1) := by decide +kernel
theorem dd_M_of_45 : decode mm_M_of.2.1 45 = .ok (.getfield 13, 3) := by decide +kernel
theorem dd_M_of_48 : decode mm_M_of.2.1 48 = .ok (.iload_n 3, 1) := by decide +kernel
theorem dd_M_of_49 : decode mm_M_of.2.1 49 = .ok (.iaload, 1) := by decide +kernel
theorem dd_M_of_50 : decode mm_M_of.2.1 50 = .ok (.goto 37, 3) := by decide +kernel
theorem dd_M_of_53 : decode mm_M_of.2.1 53 = .ok (.iload_n 2, 1) := by decide +kernel
theorem dd_M_of_54 : decode mm_M_of.2.1 54 = .ok (.iconst 1, 1) := by decide +kernel
theorem dd_M_of_55 : decode mm_M_of.2.1 55 = .ok (.if_icmp .ne 12, 3) := by decide +kernel
theorem dd_M_of_58 : decode mm_M_of.2.1 58 = .ok (.aload_n 0, 1) := by decide +kernel
theorem dd_M_of_59 : decode mm_M_of.2.1 59 = .ok (.getfield 16, 3) := by decide +kernel
theorem dd_M_of_62 : decode mm_M_of.2.1 62 = .ok (.iload_n 3, 1) := by decide +kernel
theorem dd_M_of_63 : decode mm_M_of.2.1 63 = .ok (.iaload, 1) := by decide +kernel
theorem dd_M_of_64 : decode mm_M_of.2.1 64 = .ok (.goto 23, 3) := by decide +kernel
theorem dd_M_of_67 : decode mm_M_of.2.1 67 = .ok (.iload_n 2, 1) := by decide +kernel
theorem dd_M_of_68 : decode mm_M_of.2.1 68 = .ok (.iconst 2, 1) := by decide +kernel
theorem dd_M_of_69 : decode mm_M_of.2.1 69 = .ok (.if_icmp .ne 12, 3) := by decide +kernel
theorem dd_M_of_72 : decode mm_M_of.2.1 72 = .ok (.aload_n 0, 1) := by decide +kernel
theorem dd_M_of_73 : decode mm_M_of.2.1 73 = .ok (.getfield 19, 3) := by decide +kernel
theorem dd_M_of_76 : decode mm_M_of.2.1 76 = .ok (.iload_n 3, 1) := by decide +kernel
theorem dd_M_of_77 : decode mm_M_of.2.1 77 = .ok (.iaload, 1) := by decide +kernel
theorem dd_M_of_78 : decode mm_M_of.2.1 78 = .ok (.goto 9, 3) := by decide +kernel
theorem dd_M_of_81 : decode mm_M_of.2.1 81 = .ok (.aload_n 0, 1) := by decide +kernel
theorem dd_M_of_82 : decode mm_M_of.2.1 82 = .ok (.getfield 22, 3) := by decide +kernel
theorem dd_M_of_85 : decode mm_M_of.2.1 85 = .ok (.iload_n 3, 1) := by decide +kernel
theorem dd_M_of_86 : decode mm_M_of.2.1 86 = .ok (.iaload, 1) := by decide +kernel
theorem dd_M_of_87 : decode mm_M_of.2.1 87 = .ok (.ireturn, 1) := by decide +kernel
theorem dd_M_open_0 : decode mm_M_open.2.1 0 = .ok (.aload_n 0, 1) := by decide +kernel
theorem dd_M_open_1 : decode mm_M_open.2.1 1 = .ok (.iconst 0, 1) := by decide +kernel
theorem dd_M_open_2 : decode mm_M_open.2.1 2 = .ok (.putfield 81, 3) := by decide +kernel
theorem dd_M_open_5 : decode mm_M_open.2.1 5 = .ok (.aload_n 0, 1) := by decide +kernel
theorem dd_M_open_6 : decode mm_M_open.2.1 6 = .ok (.getfield 91, 3) := by decide +kernel
theorem dd_M_open_9 : decode mm_M_open.2.1 9 = .ok (.ifCond .eq 7, 3) := by decide +kernel
theorem dd_M_open_12 : decode mm_M_open.2.1 12 = .ok (.iconst 0, 1) := by decide +kernel
theorem dd_M_open_13 : decode mm_M_open.2.1 13 = .ok (.goto 7, 3) := by decide +kernel
theorem dd_M_open_16 : decode mm_M_open.2.1 16 = .ok (.aload_n 0, 1) := by decide +kernel
theorem dd_M_open_17 : decode mm_M_open.2.1 17 = .ok (.getfield 95, 3) := by decide +kernel
theorem dd_M_open_20 : decode mm_M_open.2.1 20 = .ok (.ireturn, 1) := by decide +kernel
theorem dd_M_opens_0 : decode mm_M_opens.2.1 0 = .ok (.aload_n 0, 1) := by decide +kernel
theorem dd_M_opens_1 : decode mm_M_opens.2.1 1 = .ok (.iload_n 1, 1) := by decide +kernel
theorem dd_M_opens_2 : decode mm_M_opens.2.1 2 = .ok (.invokevirtual 114, 3) := by decide +kernel
theorem dd_M_opens_5 : decode mm_M_opens.2.1 5 = .ok (.ifCond .lt 5, 3) := by decide +kernel
theorem dd_M_opens_8 : decode mm_M_opens.2.1 8 = .ok (.iconst 1, 1) := by decide +kernel
theorem dd_M_opens_9 : decode mm_M_opens.2.1 9 = .ok (.ireturn, 1) := by decide +kernel
theorem dd_M_opens_10 : decode mm_M_opens.2.1 10 = .ok (.aload_n 0, 1) := by decide +kernel
theorem dd_M_opens_11 : decode mm_M_opens.2.1 11 = .ok (.getfield 95, 3) := by decide +kernel
theorem dd_M_opens_14 : decode mm_M_opens.2.1 14 = .ok (.iconst 3, 1) := by decide +kernel
theorem dd_M_opens_15 : decode mm_M_opens.2.1 15 = .ok (.if_icmp .lt 11, 3) := by decide +kernel
theorem dd_M_opens_18 : decode mm_M_opens.2.1 18 = .ok (.aload_n 0, 1) := by decide +kernel
theorem dd_M_opens_19 : decode mm_M_opens.2.1 19 = .ok (.iconst 0, 1) := by decide +kernel
theorem dd_M_opens_20 : decode mm_M_opens.2.1 20 = .ok (.invokevirtual 117, 3) := by decide +kernel
theorem dd_M_opens_23 : decode mm_M_opens.2.1 23 = .ok (.ifCond .eq 7, 3) := by decide +kernel
theorem dd_M_opens_26 : decode mm_M_opens.2.1 26 = .ok (.iconst 1, 1) := by decide +kernel
theorem dd_M_opens_27 : decode mm_M_opens.2.1 27 = .ok (.goto 4, 3) := by decide +kernel
theorem dd_M_opens_30 : decode mm_M_opens.2.1 30 = .ok (.iconst 0, 1) := by decide +kernel
theorem dd_M_opens_31 : decode mm_M_opens.2.1 31 = .ok (.ireturn, 1) := by decide +kernel
theorem dd_M_page_0 : decode mm_M_page.2.1 0 = .ok (.aload_n 0, 1) := by decide +kernel
theorem dd_M_page_1 : decode mm_M_page.2.1 1 = .ok (.iload_n 1, 1) := by decide +kernel
theorem dd_M_page_2 : decode mm_M_page.2.1 2 = .ok (.invokestatic 153, 3) := by decide +kernel
theorem dd_M_page_5 : decode mm_M_page.2.1 5 = .ok (.ifCond .ne 7, 3) := by decide +kernel
theorem dd_M_page_8 : decode mm_M_page.2.1 8 = .ok (.iconst 1, 1) := by decide +kernel
theorem dd_M_page_9 : decode mm_M_page.2.1 9 = .ok (.goto 4, 3) := by decide +kernel
theorem dd_M_page_12 : decode mm_M_page.2.1 12 = .ok (.iconst 0, 1) := by decide +kernel
theorem dd_M_page_13 : decode mm_M_page.2.1 13 = .ok (.iload_n 1, 1) := by decide +kernel
theorem dd_M_page_14 : decode mm_M_page.2.1 14 = .ok (.invokestatic 153, 3) := by decide +kernel
theorem dd_M_page_17 : decode mm_M_page.2.1 17 = .ok (.ifCond .eq 16, 3) := by decide +kernel
theorem dd_M_page_20 : decode mm_M_page.2.1 20 = .ok (.aload_n 0, 1) := by decide +kernel
theorem dd_M_page_21 : decode mm_M_page.2.1 21 = .ok (.getfield 47, 3) := by decide +kernel
theorem dd_M_page_24 : decode mm_M_page.2.1 24 = .ok (.iload_n 1, 1) := by decide +kernel
theorem dd_M_page_25 : decode mm_M_page.2.1 25 = .ok (.baload, 1) := by decide +kernel
theorem dd_M_page_26 : decode mm_M_page.2.1 26 = .ok (.ifCond .ne 7, 3) := by decide +kernel
theorem dd_M_page_29 : decode mm_M_page.2.1 29 = .ok (.iconst 1, 1) := by decide +kernel
theorem dd_M_page_30 : decode mm_M_page.2.1 30 = .ok (.goto 4, 3) := by decide +kernel
theorem dd_M_page_33 : decode mm_M_page.2.1 33 = .ok (.iconst 0, 1) := by decide +kernel
theorem dd_M_page_34 : decode mm_M_page.2.1 34 = .ok (.iconst 0, 1) := by decide +kernel
theorem dd_M_page_35 : decode mm_M_page.2.1 35 = .ok (.iconst 0, 1) := by decide +kernel
theorem dd_M_page_36 : decode mm_M_page.2.1 36 = .ok (.invokevirtual 128, 3) := by decide +kernel
theorem dd_M_page_39 : decode mm_M_page.2.1 39 = .ok (.ifCond .eq 7, 3) := by decide +kernel
theorem dd_M_page_42 : decode mm_M_page.2.1 42 = .ok (.iconst 0, 1) := by decide +kernel
theorem dd_M_page_43 : decode mm_M_page.2.1 43 = .ok (.goto 8, 3) := by decide +kernel
theorem dd_M_page_46 : decode mm_M_page.2.1 46 = .ok (.aload_n 0, 1) := by decide +kernel
theorem dd_M_page_47 : decode mm_M_page.2.1 47 = .ok (.iload_n 1, 1) := by decide +kernel
theorem dd_M_page_48 : decode mm_M_page.2.1 48 = .ok (.invokevirtual 165, 3) := by decide +kernel
theorem dd_M_page_51 : decode mm_M_page.2.1 51 = .ok (.ireturn, 1) := by decide +kernel
theorem dd_M_pageOf_0 : decode mm_M_pageOf.2.1 0 = .ok (.iconst 0, 1) := by decide +kernel
theorem dd_M_pageOf_1 : decode mm_M_pageOf.2.1 1 = .ok (.istore_n 2, 1) := by decide +kernel
theorem dd_M_pageOf_2 : decode mm_M_pageOf.2.1 2 = .ok (.iconst 0, 1) := by decide +kernel
theorem dd_M_pageOf_3 : decode mm_M_pageOf.2.1 3 = .ok (.istore_n 3, 1) := by decide +kernel
theorem dd_M_pageOf_4 : decode mm_M_pageOf.2.1 4 = .ok (.iload_n 3, 1) := by decide +kernel
theorem dd_M_pageOf_5 : decode mm_M_pageOf.2.1 5 = .ok (.iconst 4, 1) := by decide +kernel
theorem dd_M_pageOf_6 : decode mm_M_pageOf.2.1 6 = .ok (.if_icmp .ge 87, 3) := by decide +kernel
theorem dd_M_pageOf_9 : decode mm_M_pageOf.2.1 9 = .ok (.aload_n 0, 1) := by decide +kernel
theorem dd_M_pageOf_10 : decode mm_M_pageOf.2.1 10 = .ok (.aload_n 0, 1) := by decide +kernel
theorem dd_M_pageOf_11 : decode mm_M_pageOf.2.1 11 = .ok (.getfield 51, 3) := by decide +kernel
theorem dd_M_pageOf_14 : decode mm_M_pageOf.2.1 14 = .ok (.iload_n 1, 1) := by decide +kernel
theorem dd_M_pageOf_15 : decode mm_M_pageOf.2.1 15 = .ok (.iaload, 1) := by decide +kernel
theorem dd_M_pageOf_16 : decode mm_M_pageOf.2.1 16 = .ok (.invokevirtual 162, 3) := by decide +kernel
theorem dd_M_pageOf_19 : decode mm_M_pageOf.2.1 19 = .ok (.istore 4, 2) := by decide +kernel
theorem dd_M_pageOf_21 : decode mm_M_pageOf.2.1 21 = .ok (.aload_n 0, 1) := by decide +kernel
theorem dd_M_pageOf_22 : decode mm_M_pageOf.2.1 22 = .ok (.getfield 54, 3) := by decide +kernel
theorem dd_M_pageOf_25 : decode mm_M_pageOf.2.1 25 = .ok (.iconst 4, 1) := by decide +kernel
theorem dd_M_pageOf_26 : decode mm_M_pageOf.2.1 26 = .ok (.iload_n 1, 1) := by decide +kernel
theorem dd_M_pageOf_27 : decode mm_M_pageOf.2.1 27 = .ok (.imul, 1) := by decide +kernel
theorem dd_M_pageOf_28 : decode mm_M_pageOf.2.1 28 = .ok (.iload_n 3, 1) := by decide +kernel
theorem dd_M_pageOf_29 : decode mm_M_pageOf.2.1 29 = .ok (.iadd, 1) := by decide +kernel
theorem dd_M_pageOf_30 : decode mm_M_pageOf.2.1 30 = .ok (.iload 4, 2) := by decide +kernel
theorem dd_M_pageOf_32 : decode mm_M_pageOf.2.1 32 = .ok (.ifCond .ge 7, 3) := by decide +kernel
theorem dd_M_pageOf_35 : decode mm_M_pageOf.2.1 35 = .ok (.iconst (-1), 1) := by decide +kernel
theorem dd_M_pageOf_36 : decode mm_M_pageOf.2.1 36 = .ok (.goto 10, 3) := by decide +kernel
theorem dd_M_pageOf_39 : decode mm_M_pageOf.2.1 39 = .ok (.aload_n 0, 1) := by decide +kernel
theorem dd_M_pageOf_40 : decode mm_M_pageOf.2.1 40 = .ok (.getfield 7, 3) := by decide +kernel
theorem dd_M_pageOf_43 : decode mm_M_pageOf.2.1 43 = .ok (.iload 4, 2) := by decide +kernel
theorem dd_M_pageOf_45 : decode mm_M_pageOf.2.1 45 = .ok (.iaload, 1) := by decide +kernel
theorem dd_M_pageOf_46 : decode mm_M_pageOf.2.1 46 = .ok (.iastore, 1) := by decide +kernel
theorem dd_M_pageOf_47 : decode mm_M_pageOf.2.1 47 = .ok (.iload 4, 2) := by decide +kernel
theorem dd_M_pageOf_49 : decode mm_M_pageOf.2.1 49 = .ok (.ifCond .ge 7, 3) := by decide +kernel
theorem dd_M_pageOf_52 : decode mm_M_pageOf.2.1 52 = .ok (.iload_n 2, 1) := by decide +kernel
theorem dd_M_pageOf_53 : decode mm_M_pageOf.2.1 53 = .ok (.goto 6, 3) := by decide +kernel
theorem dd_M_pageOf_56 : decode mm_M_pageOf.2.1 56 = .ok (.iload_n 2, 1) := by decide +kernel
theorem dd_M_pageOf_57 : decode mm_M_pageOf.2.1 57 = .ok (.iconst 1, 1) := by decide +kernel
theorem dd_M_pageOf_58 : decode mm_M_pageOf.2.1 58 = .ok (.iadd, 1) := by decide +kernel
theorem dd_M_pageOf_59 : decode mm_M_pageOf.2.1 59 = .ok (.istore_n 2, 1) := by decide +kernel
theorem dd_M_pageOf_60 : decode mm_M_pageOf.2.1 60 = .ok (.aload_n 0, 1) := by decide +kernel
theorem dd_M_pageOf_61 : decode mm_M_pageOf.2.1 61 = .ok (.getfield 51, 3) := by decide +kernel
theorem dd_M_pageOf_64 : decode mm_M_pageOf.2.1 64 = .ok (.iload_n 1, 1) := by decide +kernel
theorem dd_M_pageOf_65 : decode mm_M_pageOf.2.1 65 = .ok (.iload 4, 2) := by decide +kernel
theorem dd_M_pageOf_67 : decode mm_M_pageOf.2.1 67 = .ok (.ifCond .ge 12, 3) := by decide +kernel
theorem dd_M_pageOf_70 : decode mm_M_pageOf.2.1 70 = .ok (.aload_n 0, 1) := by decide +kernel
theorem dd_M_pageOf_71 : decode mm_M_pageOf.2.1 71 = .ok (.getfield 51, 3) := by decide +kernel
theorem dd_M_pageOf_74 : decode mm_M_pageOf.2.1 74 = .ok (.iload_n 1, 1) := by decide +kernel
theorem dd_M_pageOf_75 : decode mm_M_pageOf.2.1 75 = .ok (.iaload, 1) := by decide +kernel
theorem dd_M_pageOf_76 : decode mm_M_pageOf.2.1 76 = .ok (.goto 10, 3) := by decide +kernel
theorem dd_M_pageOf_79 : decode mm_M_pageOf.2.1 79 = .ok (.aload_n 0, 1) := by decide +kernel
theorem dd_M_pageOf_80 : decode mm_M_pageOf.2.1 80 = .ok (.getfield 7, 3) := by decide +kernel
theorem dd_M_pageOf_83 : decode mm_M_pageOf.2.1 83 = .ok (.iload 4, 2) := by decide +kernel
theorem dd_M_pageOf_85 : decode mm_M_pageOf.2.1 85 = .ok (.iaload, 1) := by decide +kernel
theorem dd_M_pageOf_86 : decode mm_M_pageOf.2.1 86 = .ok (.iastore, 1) := by decide +kernel
theorem dd_M_pageOf_87 : decode mm_M_pageOf.2.1 87 = .ok (.iinc 3 1, 3) := by decide +kernel
theorem dd_M_pageOf_90 : decode mm_M_pageOf.2.1 90 = .ok (.goto (-86), 3) := by decide +kernel
theorem dd_M_pageOf_93 : decode mm_M_pageOf.2.1 93 = .ok (.aload_n 0, 1) := by decide +kernel
theorem dd_M_pageOf_94 : decode mm_M_pageOf.2.1 94 = .ok (.getfield 47, 3) := by decide +kernel
theorem dd_M_pageOf_97 : decode mm_M_pageOf.2.1 97 = .ok (.iload_n 1, 1) := by decide +kernel
theorem dd_M_pageOf_98 : decode mm_M_pageOf.2.1 98 = .ok (.iload_n 2, 1) := by decide +kernel
theorem dd_M_pageOf_99 : decode mm_M_pageOf.2.1 99 = .ok (.iconst 4, 1) := by decide +kernel
theorem dd_M_pageOf_100 : decode mm_M_pageOf.2.1 100 = .ok (.if_icmp .ne 7, 3) := by decide +kernel
theorem dd_M_pageOf_103 : decode mm_M_pageOf.2.1 103 = .ok (.iconst 1, 1) := by decide +kernel
theorem dd_M_pageOf_104 : decode mm_M_pageOf.2.1 104 = .ok (.goto 4, 3) := by decide +kernel
theorem dd_M_pageOf_107 : decode mm_M_pageOf.2.1 107 = .ok (.iconst 0, 1) := by decide +kernel
theorem dd_M_pageOf_108 : decode mm_M_pageOf.2.1 108 = .ok (.bastore, 1) := by decide +kernel
theorem dd_M_pageOf_109 : decode mm_M_pageOf.2.1 109 = .ok (.iload_n 2, 1) := by decide +kernel
theorem dd_M_pageOf_110 : decode mm_M_pageOf.2.1 110 = .ok (.ireturn, 1) := by decide +kernel
theorem dd_M_placeAbove_0 : decode mm_M_placeAbove.2.1 0 = .ok (.iconst (-1), 1) := by decide +kernel
theorem dd_M_placeAbove_1 : decode mm_M_placeAbove.2.1 1 = .ok (.istore_n 2, 1) := by decide +kernel
theorem dd_M_placeAbove_2 : decode mm_M_placeAbove.2.1 2 = .ok (.iconst 0, 1) := by decide +kernel
theorem dd_M_placeAbove_3 : decode mm_M_placeAbove.2.1 3 = .ok (.istore_n 3, 1) := by decide +kernel
theorem dd_M_placeAbove_4 : decode mm_M_placeAbove.2.1 4 = .ok (.iload_n 3, 1) := by decide +kernel
theorem dd_M_placeAbove_5 : decode mm_M_placeAbove.2.1 5 = .ok (.aload_n 0, 1) := by decide +kernel
theorem dd_M_placeAbove_6 : decode mm_M_placeAbove.2.1 6 = .ok (.getfield 84, 3) := by decide +kernel
theorem dd_M_placeAbove_9 : decode mm_M_placeAbove.2.1 9 = .ok (.if_icmp .ge 44, 3) := by decide +kernel
theorem dd_M_placeAbove_12 : decode mm_M_placeAbove.2.1 12 = .ok (.aload_n 0, 1) := by decide +kernel
theorem dd_M_placeAbove_13 : decode mm_M_placeAbove.2.1 13 = .ok (.getfield 7, 3) := by decide +kernel
theorem dd_M_placeAbove_16 : decode mm_M_placeAbove.2.1 16 = .ok (.iload_n 3, 1) := by decide +kernel
theorem dd_M_placeAbove_17 : decode mm_M_placeAbove.2.1 17 = .ok (.iaload, 1) := by decide +kernel
theorem dd_M_placeAbove_18 : decode mm_M_placeAbove.2.1 18 = .ok (.iload_n 1, 1) := by decide +kernel
theorem dd_M_placeAbove_19 : decode mm_M_placeAbove.2.1 19 = .ok (.if_icmp .le 26, 3) := by decide +kernel
theorem dd_M_placeAbove_22 : decode mm_M_placeAbove.2.1 22 = .ok (.iload_n 2, 1) := by decide +kernel
theorem dd_M_placeAbove_23 : decode mm_M_placeAbove.2.1 23 = .ok (.ifCond .lt 18, 3) := by decide +kernel
theorem dd_M_placeAbove_26 : decode mm_M_placeAbove.2.1 26 = .ok (.aload_n 0, 1) := by decide +kernel
theorem dd_M_placeAbove_27 : decode mm_M_placeAbove.2.1 27 = .ok (.getfield 7, 3) := by decide +kernel
theorem dd_M_placeAbove_30 : decode mm_M_placeAbove.2.1 30 = .ok (.iload_n 3, 1) := by decide +kernel
theorem dd_M_placeAbove_31 : decode mm_M_placeAbove.2.1 31 = .ok (.iaload, 1) := by decide +kernel
theorem dd_M_placeAbove_32 : decode mm_M_placeAbove.2.1 32 = .ok (.aload_n 0, 1) := by decide +kernel
theorem dd_M_placeAbove_33 : decode mm_M_placeAbove.2.1 33 = .ok (.getfield 7, 3) := by decide +kernel
theorem dd_M_placeAbove_36 : decode mm_M_placeAbove.2.1 36 = .ok (.iload_n 2, 1) := by decide +kernel
theorem dd_M_placeAbove_37 : decode mm_M_placeAbove.2.1 37 = .ok (.iaload, 1) := by decide +kernel
theorem dd_M_placeAbove_38 : decode mm_M_placeAbove.2.1 38 = .ok (.if_icmp .ge 7, 3) := by decide +kernel
theorem dd_M_placeAbove_41 : decode mm_M_placeAbove.2.1 41 = .ok (.iload_n 3, 1) := by decide +kernel
theorem dd_M_placeAbove_42 : decode mm_M_placeAbove.2.1 42 = .ok (.goto 4, 3) := by decide +kernel
theorem dd_M_placeAbove_45 : decode mm_M_placeAbove.2.1 45 = .ok (.iload_n 2, 1) := by decide +kernel
theorem dd_M_placeAbove_46 : decode mm_M_placeAbove.2.1 46 = .ok (.istore_n 2, 1) := by decide +kernel
theorem dd_M_placeAbove_47 : decode mm_M_placeAbove.2.1 47 = .ok (.iinc 3 1, 3) := by decide +kernel
theorem dd_M_placeAbove_50 : decode mm_M_placeAbove.2.1 50 = .ok (.goto (-46), 3) := by decide +kernel
theorem dd_M_placeAbove_53 : decode mm_M_placeAbove.2.1 53 = .ok (.iload_n 2, 1) := by decide +kernel
theorem dd_M_placeAbove_54 : decode mm_M_placeAbove.2.1 54 = .ok (.ireturn, 1) := by decide +kernel
theorem dd_M_placeOf_0 : decode mm_M_placeOf.2.1 0 = .ok (.iconst 0, 1) := by decide +kernel
theorem dd_M_placeOf_1 : decode mm_M_placeOf.2.1 1 = .ok (.istore_n 2, 1) := by decide +kernel
theorem dd_M_placeOf_2 : decode mm_M_placeOf.2.1 2 = .ok (.iload_n 2, 1) := by decide +kernel
theorem dd_M_placeOf_3 : decode mm_M_placeOf.2.1 3 = .ok (.aload_n 0, 1) := by decide +kernel
theorem dd_M_placeOf_4 : decode mm_M_placeOf.2.1 4 = .ok (.getfield 84, 3) := by decide +kernel
theorem dd_M_placeOf_7 : decode mm_M_placeOf.2.1 7 = .ok (.if_icmp .ge 21, 3) := by decide +kernel
theorem dd_M_placeOf_10 : decode mm_M_placeOf.2.1 10 = .ok (.aload_n 0, 1) := by decide +kernel
theorem dd_M_placeOf_11 : decode mm_M_placeOf.2.1 11 = .ok (.getfield 7, 3) := by decide +kernel
theorem dd_M_placeOf_14 : decode mm_M_placeOf.2.1 14 = .ok (.iload_n 2, 1) := by decide +kernel
theorem dd_M_placeOf_15 : decode mm_M_placeOf.2.1 15 = .ok (.iaload, 1) := by decide +kernel
theorem dd_M_placeOf_16 : decode mm_M_placeOf.2.1 16 = .ok (.iload_n 1, 1) := by decide +kernel
theorem dd_M_placeOf_17 : decode mm_M_placeOf.2.1 17 = .ok (.if_icmp .ne 5, 3) := by decide +kernel
theorem dd_M_placeOf_20 : decode mm_M_placeOf.2.1 20 = .ok (.iload_n 2, 1) := by decide +kernel
theorem dd_M_placeOf_21 : decode mm_M_placeOf.2.1 21 = .ok (.ireturn, 1) := by decide +kernel
theorem dd_M_placeOf_22 : decode mm_M_placeOf.2.1 22 = .ok (.iinc 2 1, 3) := by decide +kernel
theorem dd_M_placeOf_25 : decode mm_M_placeOf.2.1 25 = .ok (.goto (-23), 3) := by decide +kernel
theorem dd_M_placeOf_28 : decode mm_M_placeOf.2.1 28 = .ok (.iconst (-1), 1) := by decide +kernel
theorem dd_M_placeOf_29 : decode mm_M_placeOf.2.1 29 = .ok (.ireturn, 1) := by decide +kernel
theorem dd_M_read_0 : decode mm_M_read.2.1 0 = .ok (.aload_n 0, 1) := by decide +kernel
theorem dd_M_read_1 : decode mm_M_read.2.1 1 = .ok (.iload_n 1, 1) := by decide +kernel
theorem dd_M_read_2 : decode mm_M_read.2.1 2 = .ok (.invokestatic 153, 3) := by decide +kernel
theorem dd_M_read_5 : decode mm_M_read.2.1 5 = .ok (.ifCond .ne 7, 3) := by decide +kernel
theorem dd_M_read_8 : decode mm_M_read.2.1 8 = .ok (.iconst 1, 1) := by decide +kernel
theorem dd_M_read_9 : decode mm_M_read.2.1 9 = .ok (.goto 4, 3) := by decide +kernel
theorem dd_M_read_12 : decode mm_M_read.2.1 12 = .ok (.iconst 0, 1) := by decide +kernel
theorem dd_M_read_13 : decode mm_M_read.2.1 13 = .ok (.iconst 0, 1) := by decide +kernel
theorem dd_M_read_14 : decode mm_M_read.2.1 14 = .ok (.iconst 0, 1) := by decide +kernel
theorem dd_M_read_15 : decode mm_M_read.2.1 15 = .ok (.iconst 0, 1) := by decide +kernel
theorem dd_M_read_16 : decode mm_M_read.2.1 16 = .ok (.invokevirtual 128, 3) := by decide +kernel
theorem dd_M_read_19 : decode mm_M_read.2.1 19 = .ok (.ifCond .eq 7, 3) := by decide +kernel
theorem dd_M_read_22 : decode mm_M_read.2.1 22 = .ok (.iconst 0, 1) := by decide +kernel
theorem dd_M_read_23 : decode mm_M_read.2.1 23 = .ok (.goto 14, 3) := by decide +kernel
theorem dd_M_read_26 : decode mm_M_read.2.1 26 = .ok (.aload_n 0, 1) := by decide +kernel
theorem dd_M_read_27 : decode mm_M_read.2.1 27 = .ok (.iload_n 1, 1) := by decide +kernel
theorem dd_M_read_28 : decode mm_M_read.2.1 28 = .ok (.aload_n 0, 1) := by decide +kernel
theorem dd_M_read_29 : decode mm_M_read.2.1 29 = .ok (.getfield 44, 3) := by decide +kernel
theorem dd_M_read_32 : decode mm_M_read.2.1 32 = .ok (.iload_n 1, 1) := by decide +kernel
theorem dd_M_read_33 : decode mm_M_read.2.1 33 = .ok (.iaload, 1) := by decide +kernel
theorem dd_M_read_34 : decode mm_M_read.2.1 34 = .ok (.invokevirtual 156, 3) := by decide +kernel
theorem dd_M_read_37 : decode mm_M_read.2.1 37 = .ok (.ireturn, 1) := by decide +kernel
theorem dd_M_readBy_0 : decode mm_M_readBy.2.1 0 = .ok (.aload_n 0, 1) := by decide +kernel
theorem dd_M_readBy_1 : decode mm_M_readBy.2.1 1 = .ok (.getfield 41, 3) := by decide +kernel
theorem dd_M_readBy_4 : decode mm_M_readBy.2.1 4 = .ok (.iload_n 1, 1) := by decide +kernel
theorem dd_M_readBy_5 : decode mm_M_readBy.2.1 5 = .ok (.iaload, 1) := by decide +kernel
theorem dd_M_readBy_6 : decode mm_M_readBy.2.1 6 = .ok (.aload_n 0, 1) := by decide +kernel
theorem dd_M_readBy_7 : decode mm_M_readBy.2.1 7 = .ok (.invokevirtual 149, 3) := by decide +kernel
theorem dd_M_readBy_10 : decode mm_M_readBy.2.1 10 = .ok (.if_icmp .ge 5, 3) := by decide +kernel
theorem dd_M_readBy_13 : decode mm_M_readBy.2.1 13 = .ok (.iconst (-1), 1) := by decide +kernel
theorem dd_M_readBy_14 : decode mm_M_readBy.2.1 14 = .ok (.ireturn, 1) := by decide +kernel
theorem dd_M_readBy_15 : decode mm_M_readBy.2.1 15 = .ok (.aload_n 0, 1) := by decide +kernel
theorem dd_M_readBy_16 : decode mm_M_readBy.2.1 16 = .ok (.getfield 41, 3) := by decide +kernel
theorem dd_M_readBy_19 : decode mm_M_readBy.2.1 19 = .ok (.iload_n 1, 1) := by decide +kernel
theorem dd_M_readBy_20 : decode mm_M_readBy.2.1 20 = .ok (.iaload, 1) := by decide +kernel
theorem dd_M_readBy_21 : decode mm_M_readBy.2.1 21 = .ok (.istore_n 3, 1) := by decide +kernel
theorem dd_M_readBy_22 : decode mm_M_readBy.2.1 22 = .ok (.iload_n 3, 1) := by decide +kernel
theorem dd_M_readBy_23 : decode mm_M_readBy.2.1 23 = .ok (.aload_n 0, 1) := by decide +kernel
theorem dd_M_readBy_24 : decode mm_M_readBy.2.1 24 = .ok (.getfield 25, 3) := by decide +kernel
theorem dd_M_readBy_27 : decode mm_M_readBy.2.1 27 = .ok (.if_icmp .ge 39, 3) := by decide +kernel
theorem dd_M_readBy_30 : decode mm_M_readBy.2.1 30 = .ok (.aload_n 0, 1) := by decide +kernel
theorem dd_M_readBy_31 : decode mm_M_readBy.2.1 31 = .ok (.getfield 29, 3) := by decide +kernel
theorem dd_M_readBy_34 : decode mm_M_readBy.2.1 34 = .ok (.bipush 6, 2) := by decide +kernel
theorem dd_M_readBy_36 : decode mm_M_readBy.2.1 36 = .ok (.iload_n 3, 1) := by decide +kernel
theorem dd_M_readBy_37 : decode mm_M_readBy.2.1 37 = .ok (.bipush 16, 2) := by decide +kernel
theorem dd_M_readBy_39 : decode mm_M_readBy.2.1 39 = .ok (.irem, 1) := by decide +kernel
theorem dd_M_readBy_40 : decode mm_M_readBy.2.1 40 = .ok (.imul, 1) := by decide +kernel
theorem dd_M_readBy_41 : decode mm_M_readBy.2.1 41 = .ok (.iconst 5, 1) := by decide +kernel
theorem dd_M_readBy_42 : decode mm_M_readBy.2.1 42 = .ok (.iadd, 1) := by decide +kernel
theorem dd_M_readBy_43 : decode mm_M_readBy.2.1 43 = .ok (.iaload, 1) := by decide +kernel
theorem dd_M_readBy_44 : decode mm_M_readBy.2.1 44 = .ok (.iload_n 2, 1) := by decide +kernel
theorem dd_M_readBy_45 : decode mm_M_readBy.2.1 45 = .ok (.iand, 1) := by decide +kernel
theorem dd_M_readBy_46 : decode mm_M_readBy.2.1 46 = .ok (.ifCond .eq 14, 3) := by decide +kernel
theorem dd_M_readBy_49 : decode mm_M_readBy.2.1 49 = .ok (.aload_n 0, 1) := by decide +kernel
theorem dd_M_readBy_50 : decode mm_M_readBy.2.1 50 = .ok (.getfield 41, 3) := by decide +kernel
theorem dd_M_readBy_53 : decode mm_M_readBy.2.1 53 = .ok (.iload_n 1, 1) := by decide +kernel
theorem dd_M_readBy_54 : decode mm_M_readBy.2.1 54 = .ok (.iload_n 3, 1) := by decide +kernel
theorem dd_M_readBy_55 : decode mm_M_readBy.2.1 55 = .ok (.iconst 1, 1) := by decide +kernel
theorem dd_M_readBy_56 : decode mm_M_readBy.2.1 56 = .ok (.iadd, 1) := by decide +kernel
theorem dd_M_readBy_57 : decode mm_M_readBy.2.1 57 = .ok (.iastore, 1) := by decide +kernel
theorem dd_M_readBy_58 : decode mm_M_readBy.2.1 58 = .ok (.iload_n 3, 1) := by decide +kernel
theorem dd_M_readBy_59 : decode mm_M_readBy.2.1 59 = .ok (.ireturn, 1) := by decide +kernel
theorem dd_M_readBy_60 : decode mm_M_readBy.2.1 60 = .ok (.iinc 3 1, 3) := by decide +kernel
theorem dd_M_readBy_63 : decode mm_M_readBy.2.1 63 = .ok (.goto (-41), 3) := by decide +kernel
theorem dd_M_readBy_66 : decode mm_M_readBy.2.1 66 = .ok (.aload_n 0, 1) := by decide +kernel
theorem dd_M_readBy_67 : decode mm_M_readBy.2.1 67 = .ok (.getfield 41, 3) := by decide +kernel
theorem dd_M_readBy_70 : decode mm_M_readBy.2.1 70 = .ok (.iload_n 1, 1) := by decide +kernel
theorem dd_M_readBy_71 : decode mm_M_readBy.2.1 71 = .ok (.aload_n 0, 1) := by decide +kernel
theorem dd_M_readBy_72 : decode mm_M_readBy.2.1 72 = .ok (.getfield 25, 3) := by decide +kernel
theorem dd_M_readBy_75 : decode mm_M_readBy.2.1 75 = .ok (.iastore, 1) := by decide +kernel
theorem dd_M_readBy_76 : decode mm_M_readBy.2.1 76 = .ok (.iconst 0, 1) := by decide +kernel
theorem dd_M_readBy_77 : decode mm_M_readBy.2.1 77 = .ok (.ireturn, 1) := by decide +kernel
theorem dd_M_refused_0 : decode mm_M_refused.2.1 0 = .ok (.aload_n 0, 1) := by decide +kernel
theorem dd_M_refused_1 : decode mm_M_refused.2.1 1 = .ok (.iload_n 1, 1) := by decide +kernel
theorem dd_M_refused_2 : decode mm_M_refused.2.1 2 = .ok (.ifCond .eq 7, 3) := by decide +kernel
theorem dd_M_refused_5 : decode mm_M_refused.2.1 5 = .ok (.iconst 1, 1) := by decide +kernel
theorem dd_M_refused_6 : decode mm_M_refused.2.1 6 = .ok (.goto 29, 3) := by decide +kernel
theorem dd_M_refused_9 : decode mm_M_refused.2.1 9 = .ok (.iload_n 2, 1) := by decide +kernel
theorem dd_M_refused_10 : decode mm_M_refused.2.1 10 = .ok (.ifCond .eq 7, 3) := by decide +kernel
theorem dd_M_refused_13 : decode mm_M_refused.2.1 13 = .ok (.iconst 2, 1) := by decide +kernel
theorem dd_M_refused_14 : decode mm_M_refused.2.1 14 = .ok (.goto 21, 3) := by decide +kernel
theorem dd_M_refused_17 : decode mm_M_refused.2.1 17 = .ok (.iload_n 3, 1) := by decide +kernel
theorem dd_M_refused_18 : decode mm_M_refused.2.1 18 = .ok (.ifCond .eq 7, 3) := by decide +kernel
theorem dd_M_refused_21 : decode mm_M_refused.2.1 21 = .ok (.iconst 3, 1) := by decide +kernel
theorem dd_M_refused_22 : decode mm_M_refused.2.1 22 = .ok (.goto 13, 3) := by decide +kernel
theorem dd_M_refused_25 : decode mm_M_refused.2.1 25 = .ok (.iload 4, 2) := by decide +kernel
theorem dd_M_refused_27 : decode mm_M_refused.2.1 27 = .ok (.ifCond .eq 7, 3) := by decide +kernel
theorem dd_M_refused_30 : decode mm_M_refused.2.1 30 = .ok (.iconst 4, 1) := by decide +kernel
theorem dd_M_refused_31 : decode mm_M_refused.2.1 31 = .ok (.goto 4, 3) := by decide +kernel
theorem dd_M_refused_34 : decode mm_M_refused.2.1 34 = .ok (.iconst 0, 1) := by decide +kernel
theorem dd_M_refused_35 : decode mm_M_refused.2.1 35 = .ok (.putfield 81, 3) := by decide +kernel
theorem dd_M_refused_38 : decode mm_M_refused.2.1 38 = .ok (.aload_n 0, 1) := by decide +kernel
theorem dd_M_refused_39 : decode mm_M_refused.2.1 39 = .ok (.getfield 81, 3) := by decide +kernel
theorem dd_M_refused_42 : decode mm_M_refused.2.1 42 = .ok (.ifCond .le 7, 3) := by decide +kernel
theorem dd_M_refused_45 : decode mm_M_refused.2.1 45 = .ok (.iconst 1, 1) := by decide +kernel
theorem dd_M_refused_46 : decode mm_M_refused.2.1 46 = .ok (.goto 4, 3) := by decide +kernel
theorem dd_M_refused_49 : decode mm_M_refused.2.1 49 = .ok (.iconst 0, 1) := by decide +kernel
theorem dd_M_refused_50 : decode mm_M_refused.2.1 50 = .ok (.ireturn, 1) := by decide +kernel
theorem dd_M_remove_0 : decode mm_M_remove.2.1 0 = .ok (.aload_n 0, 1) := by decide +kernel
theorem dd_M_remove_1 : decode mm_M_remove.2.1 1 = .ok (.iload_n 1, 1) := by decide +kernel
theorem dd_M_remove_2 : decode mm_M_remove.2.1 2 = .ok (.invokevirtual 87, 3) := by decide +kernel
theorem dd_M_remove_5 : decode mm_M_remove.2.1 5 = .ok (.istore_n 2, 1) := by decide +kernel
theorem dd_M_remove_6 : decode mm_M_remove.2.1 6 = .ok (.aload_n 0, 1) := by decide +kernel
theorem dd_M_remove_7 : decode mm_M_remove.2.1 7 = .ok (.aload_n 0, 1) := by decide +kernel
theorem dd_M_remove_8 : decode mm_M_remove.2.1 8 = .ok (.getfield 91, 3) := by decide +kernel
theorem dd_M_remove_11 : decode mm_M_remove.2.1 11 = .ok (.iload_n 2, 1) := by decide +kernel
theorem dd_M_remove_12 : decode mm_M_remove.2.1 12 = .ok (.ifCond .ge 7, 3) := by decide +kernel
theorem dd_M_remove_15 : decode mm_M_remove.2.1 15 = .ok (.iconst 1, 1) := by decide +kernel
theorem dd_M_remove_16 : decode mm_M_remove.2.1 16 = .ok (.goto 4, 3) := by decide +kernel
theorem dd_M_remove_19 : decode mm_M_remove.2.1 19 = .ok (.iconst 0, 1) := by decide +kernel
theorem dd_M_remove_20 : decode mm_M_remove.2.1 20 = .ok (.iload_n 2, 1) := by decide +kernel
theorem dd_M_remove_21 : decode mm_M_remove.2.1 21 = .ok (.ifCond .lt 15, 3) := by decide +kernel
theorem dd_M_remove_24 : decode mm_M_remove.2.1 24 = .ok (.aload_n 0, 1) := by decide +kernel
theorem dd_M_remove_25 : decode mm_M_remove.2.1 25 = .ok (.iload_n 1, 1) := by decide +kernel
theorem dd_M_remove_26 : decode mm_M_remove.2.1 26 = .ok (.invokevirtual 146, 3) := by decide +kernel
theorem dd_M_remove_29 : decode mm_M_remove.2.1 29 = .ok (.ifCond .eq 7, 3) := by decide +kernel
theorem dd_M_remove_32 : decode mm_M_remove.2.1 32 = .ok (.iconst 1, 1) := by decide +kernel
theorem dd_M_remove_33 : decode mm_M_remove.2.1 33 = .ok (.goto 4, 3) := by decide +kernel
theorem dd_M_remove_36 : decode mm_M_remove.2.1 36 = .ok (.iconst 0, 1) := by decide +kernel
theorem dd_M_remove_37 : decode mm_M_remove.2.1 37 = .ok (.iconst 0, 1) := by decide +kernel
theorem dd_M_remove_38 : decode mm_M_remove.2.1 38 = .ok (.invokevirtual 128, 3) := by decide +kernel
theorem dd_M_remove_41 : decode mm_M_remove.2.1 41 = .ok (.ifCond .eq 5, 3) := by decide +kernel
theorem dd_M_remove_44 : decode mm_M_remove.2.1 44 = .ok (.iconst 0, 1) := by decide +kernel
theorem dd_M_remove_45 : decode mm_M_remove.2.1 45 = .ok (.ireturn, 1) := by decide +kernel
theorem dd_M_remove_46 : decode mm_M_remove.2.1 46 = .ok (.aload_n 0, 1) := by decide +kernel
theorem dd_M_remove_47 : decode mm_M_remove.2.1 47 = .ok (.iload_n 1, 1) := by decide +kernel
theorem dd_M_remove_48 : decode mm_M_remove.2.1 48 = .ok (.invokevirtual 135, 3) := by decide +kernel
theorem dd_M_remove_51 : decode mm_M_remove.2.1 51 = .ok (.ifCond .eq 44, 3) := by decide +kernel
theorem dd_M_remove_54 : decode mm_M_remove.2.1 54 = .ok (.aload_n 0, 1) := by decide +kernel
theorem dd_M_remove_55 : decode mm_M_remove.2.1 55 = .ok (.iload_n 1, 1) := by decide +kernel
theorem dd_M_remove_56 : decode mm_M_remove.2.1 56 = .ok (.aload_n 0, 1) := by decide +kernel
theorem dd_M_remove_57 : decode mm_M_remove.2.1 57 = .ok (.getfield 13, 3) := by decide +kernel
theorem dd_M_remove_60 : decode mm_M_remove.2.1 60 = .ok (.iload_n 2, 1) := by decide +kernel
theorem dd_M_remove_61 : decode mm_M_remove.2.1 61 = .ok (.iaload, 1) := by decide +kernel
theorem dd_M_remove_62 : decode mm_M_remove.2.1 62 = .ok (.aload_n 0, 1) := by decide +kernel
theorem dd_M_remove_63 : decode mm_M_remove.2.1 63 = .ok (.getfield 16, 3) := by decide +kernel
theorem dd_M_remove_66 : decode mm_M_remove.2.1 66 = .ok (.iload_n 2, 1) := by decide +kernel
theorem dd_M_remove_67 : decode mm_M_remove.2.1 67 = .ok (.iaload, 1) := by decide +kernel
theorem dd_M_remove_68 : decode mm_M_remove.2.1 68 = .ok (.aload_n 0, 1) := by decide +kernel
theorem dd_M_remove_69 : decode mm_M_remove.2.1 69 = .ok (.getfield 19, 3) := by decide +kernel
theorem dd_M_remove_72 : decode mm_M_remove.2.1 72 = .ok (.iload_n 2, 1) := by decide +kernel
theorem dd_M_remove_73 : decode mm_M_remove.2.1 73 = .ok (.iaload, 1) := by decide +kernel
theorem dd_M_remove_74 : decode mm_M_remove.2.1 74 = .ok (.aload_n 0, 1) := by decide +kernel
theorem dd_M_remove_75 : decode mm_M_remove.2.1 75 = .ok (.getfield 22, 3) := by decide +kernel
theorem dd_M_remove_78 : decode mm_M_remove.2.1 78 = .ok (.iload_n 2, 1) := by decide +kernel
theorem dd_M_remove_79 : decode mm_M_remove.2.1 79 = .ok (.iaload, 1) := by decide +kernel
theorem dd_M_remove_80 : decode mm_M_remove.2.1 80 = .ok (.bipush 32, 2) := by decide +kernel
theorem dd_M_remove_82 : decode mm_M_remove.2.1 82 = .ok (.invokevirtual 138, 3) := by decide +kernel
theorem dd_M_remove_85 : decode mm_M_remove.2.1 85 = .ok (.ifCond .eq 10, 3) := by decide +kernel
theorem dd_M_remove_88 : decode mm_M_remove.2.1 88 = .ok (.aload_n 0, 1) := by decide +kernel
theorem dd_M_remove_89 : decode mm_M_remove.2.1 89 = .ok (.invokevirtual 102, 3) := by decide +kernel
theorem dd_M_remove_92 : decode mm_M_remove.2.1 92 = .ok (.ifCond .ne 5, 3) := by decide +kernel
theorem dd_M_remove_95 : decode mm_M_remove.2.1 95 = .ok (.iconst 0, 1) := by decide +kernel
theorem dd_M_remove_96 : decode mm_M_remove.2.1 96 = .ok (.ireturn, 1) := by decide +kernel
theorem dd_M_remove_97 : decode mm_M_remove.2.1 97 = .ok (.aload_n 0, 1) := by decide +kernel
theorem dd_M_remove_98 : decode mm_M_remove.2.1 98 = .ok (.dup, 1) := by decide +kernel
theorem dd_M_remove_99 : decode mm_M_remove.2.1 99 = .ok (.getfield 84, 3) := by decide +kernel
theorem dd_M_remove_102 : decode mm_M_remove.2.1 102 = .ok (.iconst 1, 1) := by decide +kernel
theorem dd_M_remove_103 : decode mm_M_remove.2.1 103 = .ok (.isub, 1) := by decide +kernel
theorem dd_M_remove_104 : decode mm_M_remove.2.1 104 = .ok (.putfield 84, 3) := by decide +kernel
theorem dd_M_remove_107 : decode mm_M_remove.2.1 107 = .ok (.iload_n 2, 1) := by decide +kernel
theorem dd_M_remove_108 : decode mm_M_remove.2.1 108 = .ok (.istore_n 3, 1) := by decide +kernel
theorem dd_M_remove_109 : decode mm_M_remove.2.1 109 = .ok (.iload_n 3, 1) := by decide +kernel
theorem dd_M_remove_110 : decode mm_M_remove.2.1 110 = .ok (.aload_n 0, 1) := by decide +kernel
theorem dd_M_remove_111 : decode mm_M_remove.2.1 111 = .ok (.getfield 84, 3) := by decide +kernel
theorem dd_M_remove_114 : decode mm_M_remove.2.1 114 = .ok (.if_icmp .ge 79, 3) := by decide +kernel
theorem dd_M_remove_117 : decode mm_M_remove.2.1 117 = .ok (.aload_n 0, 1) := by decide +kernel
theorem dd_M_remove_118 : decode mm_M_remove.2.1 118 = .ok (.getfield 7, 3) := by decide +kernel
theorem dd_M_remove_121 : decode mm_M_remove.2.1 121 = .ok (.iload_n 3, 1) := by decide +kernel
theorem dd_M_remove_122 : decode mm_M_remove.2.1 122 = .ok (.aload_n 0, 1) := by decide +kernel
theorem dd_M_remove_123 : decode mm_M_remove.2.1 123 = .ok (.getfield 7, 3) := by decide +kernel
theorem dd_M_remove_126 : decode mm_M_remove.2.1 126 = .ok (.iload_n 3, 1) := by decide +kernel
theorem dd_M_remove_127 : decode mm_M_remove.2.1 127 = .ok (.iconst 1, 1) := by decide +kernel
theorem dd_M_remove_128 : decode mm_M_remove.2.1 128 = .ok (.iadd, 1) := by decide +kernel
theorem dd_M_remove_129 : decode mm_M_remove.2.1 129 = .ok (.iaload, 1) := by decide +kernel
theorem dd_M_remove_130 : decode mm_M_remove.2.1 130 = .ok (.iastore, 1) := by decide +kernel
theorem dd_M_remove_131 : decode mm_M_remove.2.1 131 = .ok (.aload_n 0, 1) := by decide +kernel
theorem dd_M_remove_132 : decode mm_M_remove.2.1 132 = .ok (.getfield 13, 3) := by decide +kernel
theorem dd_M_remove_135 : decode mm_M_remove.2.1 135 = .ok (.iload_n 3, 1) := by decide +kernel
theorem dd_M_remove_136 : decode mm_M_remove.2.1 136 = .ok (.aload_n 0, 1) := by decide +kernel
theorem dd_M_remove_137 : decode mm_M_remove.2.1 137 = .ok (.getfield 13, 3) := by decide +kernel
theorem dd_M_remove_140 : decode mm_M_remove.2.1 140 = .ok (.iload_n 3, 1) := by decide +kernel
theorem dd_M_remove_141 : decode mm_M_remove.2.1 141 = .ok (.iconst 1, 1) := by decide +kernel
theorem dd_M_remove_142 : decode mm_M_remove.2.1 142 = .ok (.iadd, 1) := by decide +kernel
theorem dd_M_remove_143 : decode mm_M_remove.2.1 143 = .ok (.iaload, 1) := by decide +kernel
theorem dd_M_remove_144 : decode mm_M_remove.2.1 144 = .ok (.iastore, 1) := by decide +kernel
theorem dd_M_remove_145 : decode mm_M_remove.2.1 145 = .ok (.aload_n 0, 1) := by decide +kernel
theorem dd_M_remove_146 : decode mm_M_remove.2.1 146 = .ok (.getfield 16, 3) := by decide +kernel
theorem dd_M_remove_149 : decode mm_M_remove.2.1 149 = .ok (.iload_n 3, 1) := by decide +kernel
theorem dd_M_remove_150 : decode mm_M_remove.2.1 150 = .ok (.aload_n 0, 1) := by decide +kernel
theorem dd_M_remove_151 : decode mm_M_remove.2.1 151 = .ok (.getfield 16, 3) := by decide +kernel
theorem dd_M_remove_154 : decode mm_M_remove.2.1 154 = .ok (.iload_n 3, 1) := by decide +kernel
theorem dd_M_remove_155 : decode mm_M_remove.2.1 155 = .ok (.iconst 1, 1) := by decide +kernel
theorem dd_M_remove_156 : decode mm_M_remove.2.1 156 = .ok (.iadd, 1) := by decide +kernel
theorem dd_M_remove_157 : decode mm_M_remove.2.1 157 = .ok (.iaload, 1) := by decide +kernel
theorem dd_M_remove_158 : decode mm_M_remove.2.1 158 = .ok (.iastore, 1) := by decide +kernel
theorem dd_M_remove_159 : decode mm_M_remove.2.1 159 = .ok (.aload_n 0, 1) := by decide +kernel
theorem dd_M_remove_160 : decode mm_M_remove.2.1 160 = .ok (.getfield 19, 3) := by decide +kernel
theorem dd_M_remove_163 : decode mm_M_remove.2.1 163 = .ok (.iload_n 3, 1) := by decide +kernel
theorem dd_M_remove_164 : decode mm_M_remove.2.1 164 = .ok (.aload_n 0, 1) := by decide +kernel
theorem dd_M_remove_165 : decode mm_M_remove.2.1 165 = .ok (.getfield 19, 3) := by decide +kernel
theorem dd_M_remove_168 : decode mm_M_remove.2.1 168 = .ok (.iload_n 3, 1) := by decide +kernel
theorem dd_M_remove_169 : decode mm_M_remove.2.1 169 = .ok (.iconst 1, 1) := by decide +kernel
theorem dd_M_remove_170 : decode mm_M_remove.2.1 170 = .ok (.iadd, 1) := by decide +kernel
theorem dd_M_remove_171 : decode mm_M_remove.2.1 171 = .ok (.iaload, 1) := by decide +kernel
theorem dd_M_remove_172 : decode mm_M_remove.2.1 172 = .ok (.iastore, 1) := by decide +kernel
theorem dd_M_remove_173 : decode mm_M_remove.2.1 173 = .ok (.aload_n 0, 1) := by decide +kernel
theorem dd_M_remove_174 : decode mm_M_remove.2.1 174 = .ok (.getfield 22, 3) := by decide +kernel
theorem dd_M_remove_177 : decode mm_M_remove.2.1 177 = .ok (.iload_n 3, 1) := by decide +kernel
theorem dd_M_remove_178 : decode mm_M_remove.2.1 178 = .ok (.aload_n 0, 1) := by decide +kernel
theorem dd_M_remove_179 : decode mm_M_remove.2.1 179 = .ok (.getfield 22, 3) := by decide +kernel
theorem dd_M_remove_182 : decode mm_M_remove.2.1 182 = .ok (.iload_n 3, 1) := by decide +kernel
theorem dd_M_remove_183 : decode mm_M_remove.2.1 183 = .ok (.iconst 1, 1) := by decide +kernel
theorem dd_M_remove_184 : decode mm_M_remove.2.1 184 = .ok (.iadd, 1) := by decide +kernel
theorem dd_M_remove_185 : decode mm_M_remove.2.1 185 = .ok (.iaload, 1) := by decide +kernel
theorem dd_M_remove_186 : decode mm_M_remove.2.1 186 = .ok (.iastore, 1) := by decide +kernel
theorem dd_M_remove_187 : decode mm_M_remove.2.1 187 = .ok (.iinc 3 1, 3) := by decide +kernel
theorem dd_M_remove_190 : decode mm_M_remove.2.1 190 = .ok (.goto (-81), 3) := by decide +kernel
theorem dd_M_remove_193 : decode mm_M_remove.2.1 193 = .ok (.iconst 1, 1) := by decide +kernel
theorem dd_M_remove_194 : decode mm_M_remove.2.1 194 = .ok (.ireturn, 1) := by decide +kernel
theorem dd_M_rename_0 : decode mm_M_rename.2.1 0 = .ok (.aload_n 0, 1) := by decide +kernel
theorem dd_M_rename_1 : decode mm_M_rename.2.1 1 = .ok (.iload_n 1, 1) := by decide +kernel
theorem dd_M_rename_2 : decode mm_M_rename.2.1 2 = .ok (.invokevirtual 87, 3) := by decide +kernel
theorem dd_M_rename_5 : decode mm_M_rename.2.1 5 = .ok (.istore 4, 2) := by decide +kernel
theorem dd_M_rename_7 : decode mm_M_rename.2.1 7 = .ok (.iload 4, 2) := by decide +kernel
theorem dd_M_rename_9 : decode mm_M_rename.2.1 9 = .ok (.ifCond .lt 19, 3) := by decide +kernel
theorem dd_M_rename_12 : decode mm_M_rename.2.1 12 = .ok (.iload_n 2, 1) := by decide +kernel
theorem dd_M_rename_13 : decode mm_M_rename.2.1 13 = .ok (.ifCond .eq 11, 3) := by decide +kernel
theorem dd_M_rename_16 : decode mm_M_rename.2.1 16 = .ok (.aload_n 0, 1) := by decide +kernel
theorem dd_M_rename_17 : decode mm_M_rename.2.1 17 = .ok (.iload_n 2, 1) := by decide +kernel
theorem dd_M_rename_18 : decode mm_M_rename.2.1 18 = .ok (.invokevirtual 87, 3) := by decide +kernel
theorem dd_M_rename_21 : decode mm_M_rename.2.1 21 = .ok (.ifCond .lt 7, 3) := by decide +kernel
theorem dd_M_rename_24 : decode mm_M_rename.2.1 24 = .ok (.iconst 1, 1) := by decide +kernel
theorem dd_M_rename_25 : decode mm_M_rename.2.1 25 = .ok (.goto 4, 3) := by decide +kernel
theorem dd_M_rename_28 : decode mm_M_rename.2.1 28 = .ok (.iconst 0, 1) := by decide +kernel
theorem dd_M_rename_29 : decode mm_M_rename.2.1 29 = .ok (.istore 5, 2) := by decide +kernel
theorem dd_M_rename_31 : decode mm_M_rename.2.1 31 = .ok (.aload_n 0, 1) := by decide +kernel
theorem dd_M_rename_32 : decode mm_M_rename.2.1 32 = .ok (.iload_n 2, 1) := by decide +kernel
theorem dd_M_rename_33 : decode mm_M_rename.2.1 33 = .ok (.iload_n 3, 1) := by decide +kernel
theorem dd_M_rename_34 : decode mm_M_rename.2.1 34 = .ok (.invokevirtual 124, 3) := by decide +kernel
theorem dd_M_rename_37 : decode mm_M_rename.2.1 37 = .ok (.istore 6, 2) := by decide +kernel
theorem dd_M_rename_39 : decode mm_M_rename.2.1 39 = .ok (.iload 5, 2) := by decide +kernel
theorem dd_M_rename_41 : decode mm_M_rename.2.1 41 = .ok (.ifCond .eq 35, 3) := by decide +kernel
theorem dd_M_rename_44 : decode mm_M_rename.2.1 44 = .ok (.aload_n 0, 1) := by decide +kernel
theorem dd_M_rename_45 : decode mm_M_rename.2.1 45 = .ok (.iload_n 2, 1) := by decide +kernel
theorem dd_M_rename_46 : decode mm_M_rename.2.1 46 = .ok (.invokevirtual 121, 3) := by decide +kernel
theorem dd_M_rename_49 : decode mm_M_rename.2.1 49 = .ok (.ifCond .eq 23, 3) := by decide +kernel
theorem dd_M_rename_52 : decode mm_M_rename.2.1 52 = .ok (.aload_n 0, 1) := by decide +kernel
theorem dd_M_rename_53 : decode mm_M_rename.2.1 53 = .ok (.iload_n 2, 1) := by decide +kernel
theorem dd_M_rename_54 : decode mm_M_rename.2.1 54 = .ok (.iload_n 1, 1) := by decide +kernel
theorem dd_M_rename_55 : decode mm_M_rename.2.1 55 = .ok (.invokevirtual 142, 3) := by decide +kernel
theorem dd_M_rename_58 : decode mm_M_rename.2.1 58 = .ok (.ifCond .ne 14, 3) := by decide +kernel
theorem dd_M_rename_61 : decode mm_M_rename.2.1 61 = .ok (.iload 6, 2) := by decide +kernel
theorem dd_M_rename_63 : decode mm_M_rename.2.1 63 = .ok (.ifCond .lt 13, 3) := by decide +kernel
theorem dd_M_rename_66 : decode mm_M_rename.2.1 66 = .ok (.iload 6, 2) := by decide +kernel
theorem dd_M_rename_68 : decode mm_M_rename.2.1 68 = .ok (.iload_n 1, 1) := by decide +kernel
theorem dd_M_rename_69 : decode mm_M_rename.2.1 69 = .ok (.if_icmp .eq 7, 3) := by decide +kernel
theorem dd_M_rename_72 : decode mm_M_rename.2.1 72 = .ok (.iconst 1, 1) := by decide +kernel
theorem dd_M_rename_73 : decode mm_M_rename.2.1 73 = .ok (.goto 4, 3) := by decide +kernel
theorem dd_M_rename_76 : decode mm_M_rename.2.1 76 = .ok (.iconst 0, 1) := by decide +kernel
theorem dd_M_rename_77 : decode mm_M_rename.2.1 77 = .ok (.istore 7, 2) := by decide +kernel
theorem dd_M_rename_79 : decode mm_M_rename.2.1 79 = .ok (.aload_n 0, 1) := by decide +kernel
theorem dd_M_rename_80 : decode mm_M_rename.2.1 80 = .ok (.aload_n 0, 1) := by decide +kernel
theorem dd_M_rename_81 : decode mm_M_rename.2.1 81 = .ok (.getfield 91, 3) := by decide +kernel
theorem dd_M_rename_84 : decode mm_M_rename.2.1 84 = .ok (.iload_n 3, 1) := by decide +kernel
theorem dd_M_rename_85 : decode mm_M_rename.2.1 85 = .ok (.ifCond .ne 7, 3) := by decide +kernel
theorem dd_M_rename_88 : decode mm_M_rename.2.1 88 = .ok (.iconst 1, 1) := by decide +kernel
theorem dd_M_rename_89 : decode mm_M_rename.2.1 89 = .ok (.goto 4, 3) := by decide +kernel
theorem dd_M_rename_92 : decode mm_M_rename.2.1 92 = .ok (.iconst 0, 1) := by decide +kernel
theorem dd_M_rename_93 : decode mm_M_rename.2.1 93 = .ok (.iload 5, 2) := by decide +kernel
theorem dd_M_rename_95 : decode mm_M_rename.2.1 95 = .ok (.ifCond .ne 7, 3) := by decide +kernel
theorem dd_M_rename_98 : decode mm_M_rename.2.1 98 = .ok (.iconst 1, 1) := by decide +kernel
theorem dd_M_rename_99 : decode mm_M_rename.2.1 99 = .ok (.goto 4, 3) := by decide +kernel
theorem dd_M_rename_102 : decode mm_M_rename.2.1 102 = .ok (.iconst 0, 1) := by decide +kernel
theorem dd_M_rename_103 : decode mm_M_rename.2.1 103 = .ok (.iload 7, 2) := by decide +kernel
theorem dd_M_rename_105 : decode mm_M_rename.2.1 105 = .ok (.invokevirtual 128, 3) := by decide +kernel
theorem dd_M_rename_108 : decode mm_M_rename.2.1 108 = .ok (.ifCond .eq 5, 3) := by decide +kernel
theorem dd_M_rename_111 : decode mm_M_rename.2.1 111 = .ok (.iconst 0, 1) := by decide +kernel
theorem dd_M_rename_112 : decode mm_M_rename.2.1 112 = .ok (.ireturn, 1) := by decide +kernel
theorem dd_M_rename_113 : decode mm_M_rename.2.1 113 = .ok (.aload_n 0, 1) := by decide +kernel
theorem dd_M_rename_114 : decode mm_M_rename.2.1 114 = .ok (.getfield 16, 3) := by decide +kernel
theorem dd_M_rename_117 : decode mm_M_rename.2.1 117 = .ok (.iload 4, 2) := by decide +kernel
theorem dd_M_rename_119 : decode mm_M_rename.2.1 119 = .ok (.iaload, 1) := by decide +kernel
theorem dd_M_rename_120 : decode mm_M_rename.2.1 120 = .ok (.iload_n 2, 1) := by decide +kernel
theorem dd_M_rename_121 : decode mm_M_rename.2.1 121 = .ok (.if_icmp .ne 16, 3) := by decide +kernel
theorem dd_M_rename_124 : decode mm_M_rename.2.1 124 = .ok (.aload_n 0, 1) := by decide +kernel
theorem dd_M_rename_125 : decode mm_M_rename.2.1 125 = .ok (.getfield 19, 3) := by decide +kernel
theorem dd_M_rename_128 : decode mm_M_rename.2.1 128 = .ok (.iload 4, 2) := by decide +kernel
theorem dd_M_rename_130 : decode mm_M_rename.2.1 130 = .ok (.iaload, 1) := by decide +kernel
theorem dd_M_rename_131 : decode mm_M_rename.2.1 131 = .ok (.iload_n 3, 1) := by decide +kernel
theorem dd_M_rename_132 : decode mm_M_rename.2.1 132 = .ok (.if_icmp .ne 5, 3) := by decide +kernel
theorem dd_M_rename_135 : decode mm_M_rename.2.1 135 = .ok (.iconst 0, 1) := by decide +kernel
theorem dd_M_rename_136 : decode mm_M_rename.2.1 136 = .ok (.ireturn, 1) := by decide +kernel
theorem dd_M_rename_137 : decode mm_M_rename.2.1 137 = .ok (.aload_n 0, 1) := by decide +kernel
theorem dd_M_rename_138 : decode mm_M_rename.2.1 138 = .ok (.getfield 16, 3) := by decide +kernel
theorem dd_M_rename_141 : decode mm_M_rename.2.1 141 = .ok (.iload 4, 2) := by decide +kernel
theorem dd_M_rename_143 : decode mm_M_rename.2.1 143 = .ok (.iaload, 1) := by decide +kernel
theorem dd_M_rename_144 : decode mm_M_rename.2.1 144 = .ok (.iload_n 2, 1) := by decide +kernel
theorem dd_M_rename_145 : decode mm_M_rename.2.1 145 = .ok (.if_icmp .ne 7, 3) := by decide +kernel
theorem dd_M_rename_148 : decode mm_M_rename.2.1 148 = .ok (.iconst 0, 1) := by decide +kernel
theorem dd_M_rename_149 : decode mm_M_rename.2.1 149 = .ok (.goto 5, 3) := by decide +kernel
theorem dd_M_rename_152 : decode mm_M_rename.2.1 152 = .ok (.bipush 16, 2) := by decide +kernel
theorem dd_M_rename_154 : decode mm_M_rename.2.1 154 = .ok (.istore 8, 2) := by decide +kernel
theorem dd_M_rename_156 : decode mm_M_rename.2.1 156 = .ok (.aload_n 0, 1) := by decide +kernel
theorem dd_M_rename_157 : decode mm_M_rename.2.1 157 = .ok (.iload_n 1, 1) := by decide +kernel
theorem dd_M_rename_158 : decode mm_M_rename.2.1 158 = .ok (.invokevirtual 135, 3) := by decide +kernel
theorem dd_M_rename_161 : decode mm_M_rename.2.1 161 = .ok (.ifCond .eq 76, 3) := by decide +kernel
theorem dd_M_rename_164 : decode mm_M_rename.2.1 164 = .ok (.aload_n 0, 1) := by decide +kernel
theorem dd_M_rename_165 : decode mm_M_rename.2.1 165 = .ok (.iload_n 1, 1) := by decide +kernel
theorem dd_M_rename_166 : decode mm_M_rename.2.1 166 = .ok (.aload_n 0, 1) := by decide +kernel
theorem dd_M_rename_167 : decode mm_M_rename.2.1 167 = .ok (.getfield 13, 3) := by decide +kernel
theorem dd_M_rename_170 : decode mm_M_rename.2.1 170 = .ok (.iload 4, 2) := by decide +kernel
theorem dd_M_rename_172 : decode mm_M_rename.2.1 172 = .ok (.iaload, 1) := by decide +kernel
theorem dd_M_rename_173 : decode mm_M_rename.2.1 173 = .ok (.aload_n 0, 1) := by decide +kernel
theorem dd_M_rename_174 : decode mm_M_rename.2.1 174 = .ok (.getfield 16, 3) := by decide +kernel
theorem dd_M_rename_177 : decode mm_M_rename.2.1 177 = .ok (.iload 4, 2) := by decide +kernel
theorem dd_M_rename_179 : decode mm_M_rename.2.1 179 = .ok (.iaload, 1) := by decide +kernel
theorem dd_M_rename_180 : decode mm_M_rename.2.1 180 = .ok (.aload_n 0, 1) := by decide +kernel
theorem dd_M_rename_181 : decode mm_M_rename.2.1 181 = .ok (.getfield 19, 3) := by decide +kernel
theorem dd_M_rename_184 : decode mm_M_rename.2.1 184 = .ok (.iload 4, 2) := by decide +kernel
theorem dd_M_rename_186 : decode mm_M_rename.2.1 186 = .ok (.iaload, 1) := by decide +kernel
theorem dd_M_rename_187 : decode mm_M_rename.2.1 187 = .ok (.aload_n 0, 1) := by decide +kernel
theorem dd_M_rename_188 : decode mm_M_rename.2.1 188 = .ok (.getfield 22, 3) := by decide +kernel
theorem dd_M_rename_191 : decode mm_M_rename.2.1 191 = .ok (.iload 4, 2) := by decide +kernel
theorem dd_M_rename_193 : decode mm_M_rename.2.1 193 = .ok (.iaload, 1) := by decide +kernel
theorem dd_M_rename_194 : decode mm_M_rename.2.1 194 = .ok (.iconst 4, 1) := by decide +kernel
theorem dd_M_rename_195 : decode mm_M_rename.2.1 195 = .ok (.invokevirtual 138, 3) := by decide +kernel
theorem dd_M_rename_198 : decode mm_M_rename.2.1 198 = .ok (.ifCond .eq 39, 3) := by decide +kernel
theorem dd_M_rename_201 : decode mm_M_rename.2.1 201 = .ok (.aload_n 0, 1) := by decide +kernel
theorem dd_M_rename_202 : decode mm_M_rename.2.1 202 = .ok (.iload_n 1, 1) := by decide +kernel
theorem dd_M_rename_203 : decode mm_M_rename.2.1 203 = .ok (.aload_n 0, 1) := by decide +kernel
theorem dd_M_rename_204 : decode mm_M_rename.2.1 204 = .ok (.getfield 13, 3) := by decide +kernel
theorem dd_M_rename_207 : decode mm_M_rename.2.1 207 = .ok (.iload 4, 2) := by decide +kernel
theorem dd_M_rename_209 : decode mm_M_rename.2.1 209 = .ok (.iaload, 1) := by decide +kernel
theorem dd_M_rename_210 : decode mm_M_rename.2.1 210 = .ok (.iload_n 2, 1) := by decide +kernel
theorem dd_M_rename_211 : decode mm_M_rename.2.1 211 = .ok (.iload_n 3, 1) := by decide +kernel
theorem dd_M_rename_212 : decode mm_M_rename.2.1 212 = .ok (.aload_n 0, 1) := by decide +kernel
theorem dd_M_rename_213 : decode mm_M_rename.2.1 213 = .ok (.getfield 22, 3) := by decide +kernel
theorem dd_M_rename_216 : decode mm_M_rename.2.1 216 = .ok (.iload 4, 2) := by decide +kernel
theorem dd_M_rename_218 : decode mm_M_rename.2.1 218 = .ok (.iaload, 1) := by decide +kernel
theorem dd_M_rename_219 : decode mm_M_rename.2.1 219 = .ok (.bipush 8, 2) := by decide +kernel
theorem dd_M_rename_221 : decode mm_M_rename.2.1 221 = .ok (.iload 8, 2) := by decide +kernel
theorem dd_M_rename_223 : decode mm_M_rename.2.1 223 = .ok (.ior, 1) := by decide +kernel
theorem dd_M_rename_224 : decode mm_M_rename.2.1 224 = .ok (.invokevirtual 138, 3) := by decide +kernel
theorem dd_M_rename_227 : decode mm_M_rename.2.1 227 = .ok (.ifCond .eq 10, 3) := by decide +kernel
theorem dd_M_rename_230 : decode mm_M_rename.2.1 230 = .ok (.aload_n 0, 1) := by decide +kernel
theorem dd_M_rename_231 : decode mm_M_rename.2.1 231 = .ok (.invokevirtual 102, 3) := by decide +kernel
theorem dd_M_rename_234 : decode mm_M_rename.2.1 234 = .ok (.ifCond .ne 5, 3) := by decide +kernel
theorem dd_M_rename_237 : decode mm_M_rename.2.1 237 = .ok (.iconst 0, 1) := by decide +kernel
theorem dd_M_rename_238 : decode mm_M_rename.2.1 238 = .ok (.ireturn, 1) := by decide +kernel
theorem dd_M_rename_239 : decode mm_M_rename.2.1 239 = .ok (.aload_n 0, 1) := by decide +kernel
theorem dd_M_rename_240 : decode mm_M_rename.2.1 240 = .ok (.getfield 16, 3) := by decide +kernel
theorem dd_M_rename_243 : decode mm_M_rename.2.1 243 = .ok (.iload 4, 2) := by decide +kernel
theorem dd_M_rename_245 : decode mm_M_rename.2.1 245 = .ok (.iload_n 2, 1) := by decide +kernel
theorem dd_M_rename_246 : decode mm_M_rename.2.1 246 = .ok (.iastore, 1) := by decide +kernel
theorem dd_M_rename_247 : decode mm_M_rename.2.1 247 = .ok (.aload_n 0, 1) := by decide +kernel
theorem dd_M_rename_248 : decode mm_M_rename.2.1 248 = .ok (.getfield 19, 3) := by decide +kernel
theorem dd_M_rename_251 : decode mm_M_rename.2.1 251 = .ok (.iload 4, 2) := by decide +kernel
theorem dd_M_rename_253 : decode mm_M_rename.2.1 253 = .ok (.iload_n 3, 1) := by decide +kernel
theorem dd_M_rename_254 : decode mm_M_rename.2.1 254 = .ok (.iastore, 1) := by decide +kernel
theorem dd_M_rename_255 : decode mm_M_rename.2.1 255 = .ok (.iconst 1, 1) := by decide +kernel
theorem dd_M_rename_256 : decode mm_M_rename.2.1 256 = .ok (.ireturn, 1) := by decide +kernel
theorem dd_M_shown_0 : decode mm_M_shown.2.1 0 = .ok (.aload_n 0, 1) := by decide +kernel
theorem dd_M_shown_1 : decode mm_M_shown.2.1 1 = .ok (.iload_n 1, 1) := by decide +kernel
theorem dd_M_shown_2 : decode mm_M_shown.2.1 2 = .ok (.invokestatic 153, 3) := by decide +kernel
theorem dd_M_shown_5 : decode mm_M_shown.2.1 5 = .ok (.ifCond .ne 7, 3) := by decide +kernel
theorem dd_M_shown_8 : decode mm_M_shown.2.1 8 = .ok (.iconst 1, 1) := by decide +kernel
theorem dd_M_shown_9 : decode mm_M_shown.2.1 9 = .ok (.goto 4, 3) := by decide +kernel
theorem dd_M_shown_12 : decode mm_M_shown.2.1 12 = .ok (.iconst 0, 1) := by decide +kernel
theorem dd_M_shown_13 : decode mm_M_shown.2.1 13 = .ok (.iconst 0, 1) := by decide +kernel
theorem dd_M_shown_14 : decode mm_M_shown.2.1 14 = .ok (.iconst 0, 1) := by decide +kernel
theorem dd_M_shown_15 : decode mm_M_shown.2.1 15 = .ok (.iconst 0, 1) := by decide +kernel
theorem dd_M_shown_16 : decode mm_M_shown.2.1 16 = .ok (.invokevirtual 128, 3) := by decide +kernel
theorem dd_M_shown_19 : decode mm_M_shown.2.1 19 = .ok (.ifCond .ne 12, 3) := by decide +kernel
theorem dd_M_shown_22 : decode mm_M_shown.2.1 22 = .ok (.iload_n 2, 1) := by decide +kernel
theorem dd_M_shown_23 : decode mm_M_shown.2.1 23 = .ok (.ifCond .lt 8, 3) := by decide +kernel
theorem dd_M_shown_26 : decode mm_M_shown.2.1 26 = .ok (.iload_n 2, 1) := by decide +kernel
theorem dd_M_shown_27 : decode mm_M_shown.2.1 27 = .ok (.iconst 3, 1) := by decide +kernel
theorem dd_M_shown_28 : decode mm_M_shown.2.1 28 = .ok (.if_icmp .le 7, 3) := by decide +kernel
theorem dd_M_shown_31 : decode mm_M_shown.2.1 31 = .ok (.iconst (-1), 1) := by decide +kernel
theorem dd_M_shown_32 : decode mm_M_shown.2.1 32 = .ok (.goto 13, 3) := by decide +kernel
theorem dd_M_shown_35 : decode mm_M_shown.2.1 35 = .ok (.aload_n 0, 1) := by decide +kernel
theorem dd_M_shown_36 : decode mm_M_shown.2.1 36 = .ok (.getfield 54, 3) := by decide +kernel
theorem dd_M_shown_39 : decode mm_M_shown.2.1 39 = .ok (.iconst 4, 1) := by decide +kernel
theorem dd_M_shown_40 : decode mm_M_shown.2.1 40 = .ok (.iload_n 1, 1) := by decide +kernel
theorem dd_M_shown_41 : decode mm_M_shown.2.1 41 = .ok (.imul, 1) := by decide +kernel
theorem dd_M_shown_42 : decode mm_M_shown.2.1 42 = .ok (.iload_n 2, 1) := by decide +kernel
theorem dd_M_shown_43 : decode mm_M_shown.2.1 43 = .ok (.iadd, 1) := by decide +kernel
theorem dd_M_shown_44 : decode mm_M_shown.2.1 44 = .ok (.iaload, 1) := by decide +kernel
theorem dd_M_shown_45 : decode mm_M_shown.2.1 45 = .ok (.ireturn, 1) := by decide +kernel
theorem dd_M_start_0 : decode mm_M_start.2.1 0 = .ok (.aload_n 0, 1) := by decide +kernel
theorem dd_M_start_1 : decode mm_M_start.2.1 1 = .ok (.iconst 0, 1) := by decide +kernel
theorem dd_M_start_2 : decode mm_M_start.2.1 2 = .ok (.putfield 81, 3) := by decide +kernel
theorem dd_M_start_5 : decode mm_M_start.2.1 5 = .ok (.aload_n 0, 1) := by decide +kernel
theorem dd_M_start_6 : decode mm_M_start.2.1 6 = .ok (.getfield 91, 3) := by decide +kernel
theorem dd_M_start_9 : decode mm_M_start.2.1 9 = .ok (.ifCond .ne 5, 3) := by decide +kernel
theorem dd_M_start_12 : decode mm_M_start.2.1 12 = .ok (.iconst (-1), 1) := by decide +kernel
theorem dd_M_start_13 : decode mm_M_start.2.1 13 = .ok (.ireturn, 1) := by decide +kernel
theorem dd_M_start_14 : decode mm_M_start.2.1 14 = .ok (.aload_n 0, 1) := by decide +kernel
theorem dd_M_start_15 : decode mm_M_start.2.1 15 = .ok (.iconst 0, 1) := by decide +kernel
theorem dd_M_start_16 : decode mm_M_start.2.1 16 = .ok (.putfield 91, 3) := by decide +kernel
theorem dd_M_start_19 : decode mm_M_start.2.1 19 = .ok (.aload_n 0, 1) := by decide +kernel
theorem dd_M_start_20 : decode mm_M_start.2.1 20 = .ok (.iconst (-1), 1) := by decide +kernel
theorem dd_M_start_21 : decode mm_M_start.2.1 21 = .ok (.putfield 38, 3) := by decide +kernel
theorem dd_M_start_24 : decode mm_M_start.2.1 24 = .ok (.iconst 0, 1) := by decide +kernel
theorem dd_M_start_25 : decode mm_M_start.2.1 25 = .ok (.istore_n 1, 1) := by decide +kernel
theorem dd_M_start_26 : decode mm_M_start.2.1 26 = .ok (.aload_n 0, 1) := by decide +kernel
theorem dd_M_start_27 : decode mm_M_start.2.1 27 = .ok (.invokevirtual 149, 3) := by decide +kernel
theorem dd_M_start_30 : decode mm_M_start.2.1 30 = .ok (.istore_n 2, 1) := by decide +kernel
theorem dd_M_start_31 : decode mm_M_start.2.1 31 = .ok (.iload_n 2, 1) := by decide +kernel
theorem dd_M_start_32 : decode mm_M_start.2.1 32 = .ok (.aload_n 0, 1) := by decide +kernel
theorem dd_M_start_33 : decode mm_M_start.2.1 33 = .ok (.getfield 25, 3) := by decide +kernel
theorem dd_M_start_36 : decode mm_M_start.2.1 36 = .ok (.if_icmp .ge 192, 3) := by decide +kernel
theorem dd_M_start_39 : decode mm_M_start.2.1 39 = .ok (.aload_n 0, 1) := by decide +kernel
theorem dd_M_start_40 : decode mm_M_start.2.1 40 = .ok (.iload_n 2, 1) := by decide +kernel
theorem dd_M_start_41 : decode mm_M_start.2.1 41 = .ok (.invokevirtual 189, 3) := by decide +kernel
theorem dd_M_start_44 : decode mm_M_start.2.1 44 = .ok (.istore_n 3, 1) := by decide +kernel
theorem dd_M_start_45 : decode mm_M_start.2.1 45 = .ok (.aload_n 0, 1) := by decide +kernel
theorem dd_M_start_46 : decode mm_M_start.2.1 46 = .ok (.iload_n 2, 1) := by decide +kernel
theorem dd_M_start_47 : decode mm_M_start.2.1 47 = .ok (.invokevirtual 192, 3) := by decide +kernel
theorem dd_M_start_50 : decode mm_M_start.2.1 50 = .ok (.ifCond .eq 27, 3) := by decide +kernel
theorem dd_M_start_53 : decode mm_M_start.2.1 53 = .ok (.aload_n 0, 1) := by decide +kernel
theorem dd_M_start_54 : decode mm_M_start.2.1 54 = .ok (.getfield 29, 3) := by decide +kernel
theorem dd_M_start_57 : decode mm_M_start.2.1 57 = .ok (.bipush 6, 2) := by decide +kernel
theorem dd_M_start_59 : decode mm_M_start.2.1 59 = .ok (.iload_n 3, 1) := by decide +kernel
theorem dd_M_start_60 : decode mm_M_start.2.1 60 = .ok (.bipush 16, 2) := by decide +kernel
theorem dd_M_start_62 : decode mm_M_start.2.1 62 = .ok (.irem, 1) := by decide +kernel
theorem dd_M_start_63 : decode mm_M_start.2.1 63 = .ok (.imul, 1) := by decide +kernel
theorem dd_M_start_64 : decode mm_M_start.2.1 64 = .ok (.iconst 5, 1) := by decide +kernel
theorem dd_M_start_65 : decode mm_M_start.2.1 65 = .ok (.iadd, 1) := by decide +kernel
theorem dd_M_start_66 : decode mm_M_start.2.1 66 = .ok (.iaload, 1) := by decide +kernel
theorem dd_M_start_67 : decode mm_M_start.2.1 67 = .ok (.bipush 64, 2) := by decide +kernel
theorem dd_M_start_69 : decode mm_M_start.2.1 69 = .ok (.iand, 1) := by decide +kernel
theorem dd_M_start_70 : decode mm_M_start.2.1 70 = .ok (.ifCond .ne 7, 3) := by decide +kernel
theorem dd_M_start_73 : decode mm_M_start.2.1 73 = .ok (.iconst 1, 1) := by decide +kernel
theorem dd_M_start_74 : decode mm_M_start.2.1 74 = .ok (.goto 4, 3) := by decide +kernel
theorem dd_M_start_77 : decode mm_M_start.2.1 77 = .ok (.iconst 0, 1) := by decide +kernel
theorem dd_M_start_78 : decode mm_M_start.2.1 78 = .ok (.istore 4, 2) := by decide +kernel
theorem dd_M_start_80 : decode mm_M_start.2.1 80 = .ok (.iload_n 2, 1) := by decide +kernel
theorem dd_M_start_81 : decode mm_M_start.2.1 81 = .ok (.istore 5, 2) := by decide +kernel
theorem dd_M_start_83 : decode mm_M_start.2.1 83 = .ok (.iload 5, 2) := by decide +kernel
theorem dd_M_start_85 : decode mm_M_start.2.1 85 = .ok (.iload_n 3, 1) := by decide +kernel
theorem dd_M_start_86 : decode mm_M_start.2.1 86 = .ok (.if_icmp .ge 70, 3) := by decide +kernel
theorem dd_M_start_89 : decode mm_M_start.2.1 89 = .ok (.iload 4, 2) := by decide +kernel
theorem dd_M_start_91 : decode mm_M_start.2.1 91 = .ok (.ifCond .eq 65, 3) := by decide +kernel
theorem dd_M_start_94 : decode mm_M_start.2.1 94 = .ok (.aload_n 0, 1) := by decide +kernel
theorem dd_M_start_95 : decode mm_M_start.2.1 95 = .ok (.getfield 29, 3) := by decide +kernel
theorem dd_M_start_98 : decode mm_M_start.2.1 98 = .ok (.bipush 6, 2) := by decide +kernel
theorem dd_M_start_100 : decode mm_M_start.2.1 100 = .ok (.iload 5, 2) := by decide +kernel
theorem dd_M_start_102 : decode mm_M_start.2.1 102 = .ok (.bipush 16, 2) := by decide +kernel
theorem dd_M_start_104 : decode mm_M_start.2.1 104 = .ok (.irem, 1) := by decide +kernel
theorem dd_M_start_105 : decode mm_M_start.2.1 105 = .ok (.imul, 1) := by decide +kernel
theorem dd_M_start_106 : decode mm_M_start.2.1 106 = .ok (.iaload, 1) := by decide +kernel
theorem dd_M_start_107 : decode mm_M_start.2.1 107 = .ok (.aload_n 0, 1) := by decide +kernel
theorem dd_M_start_108 : decode mm_M_start.2.1 108 = .ok (.getfield 29, 3) := by decide +kernel
theorem dd_M_start_111 : decode mm_M_start.2.1 111 = .ok (.bipush 6, 2) := by decide +kernel
theorem dd_M_start_113 : decode mm_M_start.2.1 113 = .ok (.iload_n 2, 1) := by decide +kernel
theorem dd_M_start_114 : decode mm_M_start.2.1 114 = .ok (.bipush 16, 2) := by decide +kernel
theorem dd_M_start_116 : decode mm_M_start.2.1 116 = .ok (.irem, 1) := by decide +kernel
theorem dd_M_start_117 : decode mm_M_start.2.1 117 = .ok (.imul, 1) := by decide +kernel
theorem dd_M_start_118 : decode mm_M_start.2.1 118 = .ok (.iaload, 1) := by decide +kernel
theorem dd_M_start_119 : decode mm_M_start.2.1 119 = .ok (.if_icmp .ne 24, 3) := by decide +kernel
theorem dd_M_start_122 : decode mm_M_start.2.1 122 = .ok (.aload_n 0, 1) := by decide +kernel
theorem dd_M_start_123 : decode mm_M_start.2.1 123 = .ok (.getfield 29, 3) := by decide +kernel
theorem dd_M_start_126 : decode mm_M_start.2.1 126 = .ok (.bipush 6, 2) := by decide +kernel
theorem dd_M_start_128 : decode mm_M_start.2.1 128 = .ok (.iload 5, 2) := by decide +kernel
theorem dd_M_start_130 : decode mm_M_start.2.1 130 = .ok (.bipush 16, 2) := by decide +kernel
theorem dd_M_start_132 : decode mm_M_start.2.1 132 = .ok (.irem, 1) := by decide +kernel
theorem dd_M_start_133 : decode mm_M_start.2.1 133 = .ok (.imul, 1) := by decide +kernel
theorem dd_M_start_134 : decode mm_M_start.2.1 134 = .ok (.iconst 5, 1) := by decide +kernel
theorem dd_M_start_135 : decode mm_M_start.2.1 135 = .ok (.iadd, 1) := by decide +kernel
theorem dd_M_start_136 : decode mm_M_start.2.1 136 = .ok (.iaload, 1) := by decide +kernel
theorem dd_M_start_137 : decode mm_M_start.2.1 137 = .ok (.bipush 64, 2) := by decide +kernel
theorem dd_M_start_139 : decode mm_M_start.2.1 139 = .ok (.iand, 1) := by decide +kernel
theorem dd_M_start_140 : decode mm_M_start.2.1 140 = .ok (.ifCond .ne 7, 3) := by decide +kernel
theorem dd_M_start_143 : decode mm_M_start.2.1 143 = .ok (.iconst 1, 1) := by decide +kernel
theorem dd_M_start_144 : decode mm_M_start.2.1 144 = .ok (.goto 4, 3) := by decide +kernel
theorem dd_M_start_147 : decode mm_M_start.2.1 147 = .ok (.iconst 0, 1) := by decide +kernel
theorem dd_M_start_148 : decode mm_M_start.2.1 148 = .ok (.istore 4, 2) := by decide +kernel
theorem dd_M_start_150 : decode mm_M_start.2.1 150 = .ok (.iinc 5 1, 3) := by decide +kernel
theorem dd_M_start_153 : decode mm_M_start.2.1 153 = .ok (.goto (-70), 3) := by decide +kernel
theorem dd_M_start_156 : decode mm_M_start.2.1 156 = .ok (.iload 4, 2) := by decide +kernel
theorem dd_M_start_158 : decode mm_M_start.2.1 158 = .ok (.ifCond .eq 64, 3) := by decide +kernel
theorem dd_M_start_161 : decode mm_M_start.2.1 161 = .ok (.aload_n 0, 1) := by decide +kernel
theorem dd_M_start_162 : decode mm_M_start.2.1 162 = .ok (.getfield 29, 3) := by decide +kernel
theorem dd_M_start_165 : decode mm_M_start.2.1 165 = .ok (.bipush 6, 2) := by decide +kernel
theorem dd_M_start_167 : decode mm_M_start.2.1 167 = .ok (.iload_n 2, 1) := by decide +kernel
theorem dd_M_start_168 : decode mm_M_start.2.1 168 = .ok (.bipush 16, 2) := by decide +kernel
theorem dd_M_start_170 : decode mm_M_start.2.1 170 = .ok (.irem, 1) := by decide +kernel
theorem dd_M_start_171 : decode mm_M_start.2.1 171 = .ok (.imul, 1) := by decide +kernel
theorem dd_M_start_172 : decode mm_M_start.2.1 172 = .ok (.iconst 5, 1) := by decide +kernel
theorem dd_M_start_173 : decode mm_M_start.2.1 173 = .ok (.iadd, 1) := by decide +kernel
theorem dd_M_start_174 : decode mm_M_start.2.1 174 = .ok (.iaload, 1) := by decide +kernel
theorem dd_M_start_175 : decode mm_M_start.2.1 175 = .ok (.bipush 64, 2) := by decide +kernel
theorem dd_M_start_177 : decode mm_M_start.2.1 177 = .ok (.iand, 1) := by decide +kernel
theorem dd_M_start_178 : decode mm_M_start.2.1 178 = .ok (.ifCond .ne 44, 3) := by decide +kernel
theorem dd_M_start_181 : decode mm_M_start.2.1 181 = .ok (.aload_n 0, 1) := by decide +kernel
theorem dd_M_start_182 : decode mm_M_start.2.1 182 = .ok (.getfield 75, 3) := by decide +kernel
theorem dd_M_start_185 : decode mm_M_start.2.1 185 = .ok (.iload_n 1, 1) := by decide +kernel
theorem dd_M_start_186 : decode mm_M_start.2.1 186 = .ok (.aload_n 0, 1) := by decide +kernel
theorem dd_M_start_187 : decode mm_M_start.2.1 187 = .ok (.getfield 29, 3) := by decide +kernel
theorem dd_M_start_190 : decode mm_M_start.2.1 190 = .ok (.bipush 6, 2) := by decide +kernel
theorem dd_M_start_192 : decode mm_M_start.2.1 192 = .ok (.iload_n 2, 1) := by decide +kernel
theorem dd_M_start_193 : decode mm_M_start.2.1 193 = .ok (.bipush 16, 2) := by decide +kernel
theorem dd_M_start_195 : decode mm_M_start.2.1 195 = .ok (.irem, 1) := by decide +kernel
theorem dd_M_start_196 : decode mm_M_start.2.1 196 = .ok (.imul, 1) := by decide +kernel
theorem dd_M_start_197 : decode mm_M_start.2.1 197 = .ok (.iaload, 1) := by decide +kernel
theorem dd_M_start_198 : decode mm_M_start.2.1 198 = .ok (.iastore, 1) := by decide +kernel
theorem dd_M_start_199 : decode mm_M_start.2.1 199 = .ok (.aload_n 0, 1) := by decide +kernel
theorem dd_M_start_200 : decode mm_M_start.2.1 200 = .ok (.getfield 78, 3) := by decide +kernel
theorem dd_M_start_203 : decode mm_M_start.2.1 203 = .ok (.iload_n 1, 1) := by decide +kernel
theorem dd_M_start_204 : decode mm_M_start.2.1 204 = .ok (.aload_n 0, 1) := by decide +kernel
theorem dd_M_start_205 : decode mm_M_start.2.1 205 = .ok (.getfield 29, 3) := by decide +kernel
theorem dd_M_start_208 : decode mm_M_start.2.1 208 = .ok (.bipush 6, 2) := by decide +kernel
theorem dd_M_start_210 : decode mm_M_start.2.1 210 = .ok (.iload_n 3, 1) := by decide +kernel
theorem dd_M_start_211 : decode mm_M_start.2.1 211 = .ok (.bipush 16, 2) := by decide +kernel
theorem dd_M_start_213 : decode mm_M_start.2.1 213 = .ok (.irem, 1) := by decide +kernel
theorem dd_M_start_214 : decode mm_M_start.2.1 214 = .ok (.imul, 1) := by decide +kernel
theorem dd_M_start_215 : decode mm_M_start.2.1 215 = .ok (.iconst 5, 1) := by decide +kernel
theorem dd_M_start_216 : decode mm_M_start.2.1 216 = .ok (.iadd, 1) := by decide +kernel
theorem dd_M_start_217 : decode mm_M_start.2.1 217 = .ok (.iaload, 1) := by decide +kernel
theorem dd_M_start_218 : decode mm_M_start.2.1 218 = .ok (.iastore, 1) := by decide +kernel
theorem dd_M_start_219 : decode mm_M_start.2.1 219 = .ok (.iinc 1 1, 3) := by decide +kernel
theorem dd_M_start_222 : decode mm_M_start.2.1 222 = .ok (.iinc 2 1, 3) := by decide +kernel
theorem dd_M_start_225 : decode mm_M_start.2.1 225 = .ok (.goto (-194), 3) := by decide +kernel
theorem dd_M_start_228 : decode mm_M_start.2.1 228 = .ok (.iconst 0, 1) := by decide +kernel
theorem dd_M_start_229 : decode mm_M_start.2.1 229 = .ok (.istore_n 2, 1) := by decide +kernel
theorem dd_M_start_230 : decode mm_M_start.2.1 230 = .ok (.iload_n 2, 1) := by decide +kernel
theorem dd_M_start_231 : decode mm_M_start.2.1 231 = .ok (.iload_n 1, 1) := by decide +kernel
theorem dd_M_start_232 : decode mm_M_start.2.1 232 = .ok (.if_icmp .ge 25, 3) := by decide +kernel
theorem dd_M_start_235 : decode mm_M_start.2.1 235 = .ok (.aload_n 0, 1) := by decide +kernel
theorem dd_M_start_236 : decode mm_M_start.2.1 236 = .ok (.aload_n 0, 1) := by decide +kernel
theorem dd_M_start_237 : decode mm_M_start.2.1 237 = .ok (.getfield 75, 3) := by decide +kernel
theorem dd_M_start_240 : decode mm_M_start.2.1 240 = .ok (.iload_n 2, 1) := by decide +kernel
theorem dd_M_start_241 : decode mm_M_start.2.1 241 = .ok (.iaload, 1) := by decide +kernel
theorem dd_M_start_242 : decode mm_M_start.2.1 242 = .ok (.aload_n 0, 1) := by decide +kernel
theorem dd_M_start_243 : decode mm_M_start.2.1 243 = .ok (.getfield 78, 3) := by decide +kernel
theorem dd_M_start_246 : decode mm_M_start.2.1 246 = .ok (.iload_n 2, 1) := by decide +kernel
theorem dd_M_start_247 : decode mm_M_start.2.1 247 = .ok (.iaload, 1) := by decide +kernel
theorem dd_M_start_248 : decode mm_M_start.2.1 248 = .ok (.invokevirtual 106, 3) := by decide +kernel
theorem dd_M_start_251 : decode mm_M_start.2.1 251 = .ok (.iinc 2 1, 3) := by decide +kernel
theorem dd_M_start_254 : decode mm_M_start.2.1 254 = .ok (.goto (-24), 3) := by decide +kernel
theorem dd_M_start_257 : decode mm_M_start.2.1 257 = .ok (.iload_n 1, 1) := by decide +kernel
theorem dd_M_start_258 : decode mm_M_start.2.1 258 = .ok (.ireturn, 1) := by decide +kernel
theorem dd_M_subscribe_0 : decode mm_M_subscribe.2.1 0 = .ok (.aload_n 0, 1) := by decide +kernel
theorem dd_M_subscribe_1 : decode mm_M_subscribe.2.1 1 = .ok (.iload_n 1, 1) := by decide +kernel
theorem dd_M_subscribe_2 : decode mm_M_subscribe.2.1 2 = .ok (.invokestatic 153, 3) := by decide +kernel
theorem dd_M_subscribe_5 : decode mm_M_subscribe.2.1 5 = .ok (.ifCond .ne 7, 3) := by decide +kernel
theorem dd_M_subscribe_8 : decode mm_M_subscribe.2.1 8 = .ok (.iconst 1, 1) := by decide +kernel
theorem dd_M_subscribe_9 : decode mm_M_subscribe.2.1 9 = .ok (.goto 4, 3) := by decide +kernel
theorem dd_M_subscribe_12 : decode mm_M_subscribe.2.1 12 = .ok (.iconst 0, 1) := by decide +kernel
theorem dd_M_subscribe_13 : decode mm_M_subscribe.2.1 13 = .ok (.iload_n 2, 1) := by decide +kernel
theorem dd_M_subscribe_14 : decode mm_M_subscribe.2.1 14 = .ok (.ifCond .lt 9, 3) := by decide +kernel
theorem dd_M_subscribe_17 : decode mm_M_subscribe.2.1 17 = .ok (.iload_n 2, 1) := by decide +kernel
theorem dd_M_subscribe_18 : decode mm_M_subscribe.2.1 18 = .ok (.bipush 127, 2) := by decide +kernel
theorem dd_M_subscribe_20 : decode mm_M_subscribe.2.1 20 = .ok (.if_icmp .le 7, 3) := by decide +kernel
theorem dd_M_subscribe_23 : decode mm_M_subscribe.2.1 23 = .ok (.iconst 1, 1) := by decide +kernel
theorem dd_M_subscribe_24 : decode mm_M_subscribe.2.1 24 = .ok (.goto 4, 3) := by decide +kernel
theorem dd_M_subscribe_27 : decode mm_M_subscribe.2.1 27 = .ok (.iconst 0, 1) := by decide +kernel
theorem dd_M_subscribe_28 : decode mm_M_subscribe.2.1 28 = .ok (.iconst 0, 1) := by decide +kernel
theorem dd_M_subscribe_29 : decode mm_M_subscribe.2.1 29 = .ok (.iconst 0, 1) := by decide +kernel
theorem dd_M_subscribe_30 : decode mm_M_subscribe.2.1 30 = .ok (.invokevirtual 128, 3) := by decide +kernel
theorem dd_M_subscribe_33 : decode mm_M_subscribe.2.1 33 = .ok (.ifCond .ne 51, 3) := by decide +kernel
theorem dd_M_subscribe_36 : decode mm_M_subscribe.2.1 36 = .ok (.aload_n 0, 1) := by decide +kernel
theorem dd_M_subscribe_37 : decode mm_M_subscribe.2.1 37 = .ok (.getfield 44, 3) := by decide +kernel
theorem dd_M_subscribe_40 : decode mm_M_subscribe.2.1 40 = .ok (.iload_n 1, 1) := by decide +kernel
theorem dd_M_subscribe_41 : decode mm_M_subscribe.2.1 41 = .ok (.iload_n 2, 1) := by decide +kernel
theorem dd_M_subscribe_42 : decode mm_M_subscribe.2.1 42 = .ok (.iastore, 1) := by decide +kernel
theorem dd_M_subscribe_43 : decode mm_M_subscribe.2.1 43 = .ok (.aload_n 0, 1) := by decide +kernel
theorem dd_M_subscribe_44 : decode mm_M_subscribe.2.1 44 = .ok (.getfield 41, 3) := by decide +kernel
theorem dd_M_subscribe_47 : decode mm_M_subscribe.2.1 47 = .ok (.iload_n 1, 1) := by decide +kernel
theorem dd_M_subscribe_48 : decode mm_M_subscribe.2.1 48 = .ok (.aload_n 0, 1) := by decide +kernel
theorem dd_M_subscribe_49 : decode mm_M_subscribe.2.1 49 = .ok (.getfield 25, 3) := by decide +kernel
theorem dd_M_subscribe_52 : decode mm_M_subscribe.2.1 52 = .ok (.iastore, 1) := by decide +kernel
theorem dd_M_subscribe_53 : decode mm_M_subscribe.2.1 53 = .ok (.aload_n 0, 1) := by decide +kernel
theorem dd_M_subscribe_54 : decode mm_M_subscribe.2.1 54 = .ok (.getfield 47, 3) := by decide +kernel
theorem dd_M_subscribe_57 : decode mm_M_subscribe.2.1 57 = .ok (.iload_n 1, 1) := by decide +kernel
theorem dd_M_subscribe_58 : decode mm_M_subscribe.2.1 58 = .ok (.iconst 0, 1) := by decide +kernel
theorem dd_M_subscribe_59 : decode mm_M_subscribe.2.1 59 = .ok (.bastore, 1) := by decide +kernel
theorem dd_M_subscribe_60 : decode mm_M_subscribe.2.1 60 = .ok (.iconst 0, 1) := by decide +kernel
theorem dd_M_subscribe_61 : decode mm_M_subscribe.2.1 61 = .ok (.istore_n 3, 1) := by decide +kernel
theorem dd_M_subscribe_62 : decode mm_M_subscribe.2.1 62 = .ok (.iload_n 3, 1) := by decide +kernel
theorem dd_M_subscribe_63 : decode mm_M_subscribe.2.1 63 = .ok (.iconst 4, 1) := by decide +kernel
theorem dd_M_subscribe_64 : decode mm_M_subscribe.2.1 64 = .ok (.if_icmp .ge 20, 3) := by decide +kernel
theorem dd_M_subscribe_67 : decode mm_M_subscribe.2.1 67 = .ok (.aload_n 0, 1) := by decide +kernel
theorem dd_M_subscribe_68 : decode mm_M_subscribe.2.1 68 = .ok (.getfield 54, 3) := by decide +kernel
theorem dd_M_subscribe_71 : decode mm_M_subscribe.2.1 71 = .ok (.iconst 4, 1) := by decide +kernel
theorem dd_M_subscribe_72 : decode mm_M_subscribe.2.1 72 = .ok (.iload_n 1, 1) := by decide +kernel
theorem dd_M_subscribe_73 : decode mm_M_subscribe.2.1 73 = .ok (.imul, 1) := by decide +kernel
theorem dd_M_subscribe_74 : decode mm_M_subscribe.2.1 74 = .ok (.iload_n 3, 1) := by decide +kernel
theorem dd_M_subscribe_75 : decode mm_M_subscribe.2.1 75 = .ok (.iadd, 1) := by decide +kernel
theorem dd_M_subscribe_76 : decode mm_M_subscribe.2.1 76 = .ok (.iconst (-1), 1) := by decide +kernel
theorem dd_M_subscribe_77 : decode mm_M_subscribe.2.1 77 = .ok (.iastore, 1) := by decide +kernel
theorem dd_M_subscribe_78 : decode mm_M_subscribe.2.1 78 = .ok (.iinc 3 1, 3) := by decide +kernel
theorem dd_M_subscribe_81 : decode mm_M_subscribe.2.1 81 = .ok (.goto (-19), 3) := by decide +kernel
theorem dd_M_subscribe_84 : decode mm_M_subscribe.2.1 84 = .ok (.return_, 1) := by decide +kernel
theorem dd_M_tail_0 : decode mm_M_tail.2.1 0 = .ok (.aload_n 0, 1) := by decide +kernel
theorem dd_M_tail_1 : decode mm_M_tail.2.1 1 = .ok (.iconst 0, 1) := by decide +kernel
theorem dd_M_tail_2 : decode mm_M_tail.2.1 2 = .ok (.putfield 81, 3) := by decide +kernel
theorem dd_M_tail_5 : decode mm_M_tail.2.1 5 = .ok (.aload_n 0, 1) := by decide +kernel
theorem dd_M_tail_6 : decode mm_M_tail.2.1 6 = .ok (.invokevirtual 149, 3) := by decide +kernel
theorem dd_M_tail_9 : decode mm_M_tail.2.1 9 = .ok (.ireturn, 1) := by decide +kernel
theorem dd_M_tailNow_0 : decode mm_M_tailNow.2.1 0 = .ok (.aload_n 0, 1) := by decide +kernel
theorem dd_M_tailNow_1 : decode mm_M_tailNow.2.1 1 = .ok (.getfield 25, 3) := by decide +kernel
theorem dd_M_tailNow_4 : decode mm_M_tailNow.2.1 4 = .ok (.bipush 16, 2) := by decide +kernel
theorem dd_M_tailNow_6 : decode mm_M_tailNow.2.1 6 = .ok (.if_icmp .le 13, 3) := by decide +kernel
theorem dd_M_tailNow_9 : decode mm_M_tailNow.2.1 9 = .ok (.aload_n 0, 1) := by decide +kernel
theorem dd_M_tailNow_10 : decode mm_M_tailNow.2.1 10 = .ok (.getfield 25, 3) := by decide +kernel
theorem dd_M_tailNow_13 : decode mm_M_tailNow.2.1 13 = .ok (.bipush 16, 2) := by decide +kernel
theorem dd_M_tailNow_15 : decode mm_M_tailNow.2.1 15 = .ok (.isub, 1) := by decide +kernel
theorem dd_M_tailNow_16 : decode mm_M_tailNow.2.1 16 = .ok (.goto 4, 3) := by decide +kernel
theorem dd_M_tailNow_19 : decode mm_M_tailNow.2.1 19 = .ok (.iconst 1, 1) := by decide +kernel
theorem dd_M_tailNow_20 : decode mm_M_tailNow.2.1 20 = .ok (.ireturn, 1) := by decide +kernel
theorem dd_M_thrown_0 : decode mm_M_thrown.2.1 0 = .ok (.aload_n 0, 1) := by decide +kernel
theorem dd_M_thrown_1 : decode mm_M_thrown.2.1 1 = .ok (.getfield 81, 3) := by decide +kernel
theorem dd_M_thrown_4 : decode mm_M_thrown.2.1 4 = .ok (.ireturn, 1) := by decide +kernel
theorem dd_M_writeNote_0 : decode mm_M_writeNote.2.1 0 = .ok (.bipush 6, 2) := by decide +kernel
theorem dd_M_writeNote_2 : decode mm_M_writeNote.2.1 2 = .ok (.aload_n 0, 1) := by decide +kernel
theorem dd_M_writeNote_3 : decode mm_M_writeNote.2.1 3 = .ok (.getfield 25, 3) := by decide +kernel
theorem dd_M_writeNote_6 : decode mm_M_writeNote.2.1 6 = .ok (.bipush 16, 2) := by decide +kernel
theorem dd_M_writeNote_8 : decode mm_M_writeNote.2.1 8 = .ok (.irem, 1) := by decide +kernel
theorem dd_M_writeNote_9 : decode mm_M_writeNote.2.1 9 = .ok (.imul, 1) := by decide +kernel
theorem dd_M_writeNote_10 : decode mm_M_writeNote.2.1 10 = .ok (.istore 7, 2) := by decide +kernel
theorem dd_M_writeNote_12 : decode mm_M_writeNote.2.1 12 = .ok (.aload_n 0, 1) := by decide +kernel
theorem dd_M_writeNote_13 : decode mm_M_writeNote.2.1 13 = .ok (.getfield 29, 3) := by decide +kernel
theorem dd_M_writeNote_16 : decode mm_M_writeNote.2.1 16 = .ok (.iload 7, 2) := by decide +kernel
theorem dd_M_writeNote_18 : decode mm_M_writeNote.2.1 18 = .ok (.iload_n 1, 1) := by decide +kernel
theorem dd_M_writeNote_19 : decode mm_M_writeNote.2.1 19 = .ok (.iastore, 1) := by decide +kernel
theorem dd_M_writeNote_20 : decode mm_M_writeNote.2.1 20 = .ok (.aload_n 0, 1) := by decide +kernel
theorem dd_M_writeNote_21 : decode mm_M_writeNote.2.1 21 = .ok (.getfield 29, 3) := by decide +kernel
theorem dd_M_writeNote_24 : decode mm_M_writeNote.2.1 24 = .ok (.iload 7, 2) := by decide +kernel
theorem dd_M_writeNote_26 : decode mm_M_writeNote.2.1 26 = .ok (.iconst 1, 1) := by decide +kernel
theorem dd_M_writeNote_27 : decode mm_M_writeNote.2.1 27 = .ok (.iadd, 1) := by decide +kernel
theorem dd_M_writeNote_28 : decode mm_M_writeNote.2.1 28 = .ok (.iload_n 2, 1) := by decide +kernel
theorem dd_M_writeNote_29 : decode mm_M_writeNote.2.1 29 = .ok (.iastore, 1) := by decide +kernel
theorem dd_M_writeNote_30 : decode mm_M_writeNote.2.1 30 = .ok (.aload_n 0, 1) := by decide +kernel
theorem dd_M_writeNote_31 : decode mm_M_writeNote.2.1 31 = .ok (.getfield 29, 3) := by decide +kernel
theorem dd_M_writeNote_34 : decode mm_M_writeNote.2.1 34 = .ok (.iload 7, 2) := by decide +kernel
theorem dd_M_writeNote_36 : decode mm_M_writeNote.2.1 36 = .ok (.iconst 2, 1) := by decide +kernel
theorem dd_M_writeNote_37 : decode mm_M_writeNote.2.1 37 = .ok (.iadd, 1) := by decide +kernel
theorem dd_M_writeNote_38 : decode mm_M_writeNote.2.1 38 = .ok (.iload_n 3, 1) := by decide +kernel
theorem dd_M_writeNote_39 : decode mm_M_writeNote.2.1 39 = .ok (.iastore, 1) := by decide +kernel
theorem dd_M_writeNote_40 : decode mm_M_writeNote.2.1 40 = .ok (.aload_n 0, 1) := by decide +kernel
theorem dd_M_writeNote_41 : decode mm_M_writeNote.2.1 41 = .ok (.getfield 29, 3) := by decide +kernel
theorem dd_M_writeNote_44 : decode mm_M_writeNote.2.1 44 = .ok (.iload 7, 2) := by decide +kernel
theorem dd_M_writeNote_46 : decode mm_M_writeNote.2.1 46 = .ok (.iconst 3, 1) := by decide +kernel
theorem dd_M_writeNote_47 : decode mm_M_writeNote.2.1 47 = .ok (.iadd, 1) := by decide +kernel
theorem dd_M_writeNote_48 : decode mm_M_writeNote.2.1 48 = .ok (.iload 4, 2) := by decide +kernel
theorem dd_M_writeNote_50 : decode mm_M_writeNote.2.1 50 = .ok (.iastore, 1) := by decide +kernel
theorem dd_M_writeNote_51 : decode mm_M_writeNote.2.1 51 = .ok (.aload_n 0, 1) := by decide +kernel
theorem dd_M_writeNote_52 : decode mm_M_writeNote.2.1 52 = .ok (.getfield 29, 3) := by decide +kernel
theorem dd_M_writeNote_55 : decode mm_M_writeNote.2.1 55 = .ok (.iload 7, 2) := by decide +kernel
theorem dd_M_writeNote_57 : decode mm_M_writeNote.2.1 57 = .ok (.iconst 4, 1) := by decide +kernel
theorem dd_M_writeNote_58 : decode mm_M_writeNote.2.1 58 = .ok (.iadd, 1) := by decide +kernel
theorem dd_M_writeNote_59 : decode mm_M_writeNote.2.1 59 = .ok (.iload 5, 2) := by decide +kernel
theorem dd_M_writeNote_61 : decode mm_M_writeNote.2.1 61 = .ok (.iastore, 1) := by decide +kernel
theorem dd_M_writeNote_62 : decode mm_M_writeNote.2.1 62 = .ok (.aload_n 0, 1) := by decide +kernel
theorem dd_M_writeNote_63 : decode mm_M_writeNote.2.1 63 = .ok (.getfield 29, 3) := by decide +kernel
theorem dd_M_writeNote_66 : decode mm_M_writeNote.2.1 66 = .ok (.iload 7, 2) := by decide +kernel
theorem dd_M_writeNote_68 : decode mm_M_writeNote.2.1 68 = .ok (.iconst 5, 1) := by decide +kernel
theorem dd_M_writeNote_69 : decode mm_M_writeNote.2.1 69 = .ok (.iadd, 1) := by decide +kernel
theorem dd_M_writeNote_70 : decode mm_M_writeNote.2.1 70 = .ok (.iload 6, 2) := by decide +kernel
theorem dd_M_writeNote_72 : decode mm_M_writeNote.2.1 72 = .ok (.iastore, 1) := by decide +kernel
theorem dd_M_writeNote_73 : decode mm_M_writeNote.2.1 73 = .ok (.aload_n 0, 1) := by decide +kernel
theorem dd_M_writeNote_74 : decode mm_M_writeNote.2.1 74 = .ok (.dup, 1) := by decide +kernel
theorem dd_M_writeNote_75 : decode mm_M_writeNote.2.1 75 = .ok (.getfield 25, 3) := by decide +kernel
theorem dd_M_writeNote_78 : decode mm_M_writeNote.2.1 78 = .ok (.iconst 1, 1) := by decide +kernel
theorem dd_M_writeNote_79 : decode mm_M_writeNote.2.1 79 = .ok (.iadd, 1) := by decide +kernel
theorem dd_M_writeNote_80 : decode mm_M_writeNote.2.1 80 = .ok (.putfield 25, 3) := by decide +kernel
theorem dd_M_writeNote_83 : decode mm_M_writeNote.2.1 83 = .ok (.return_, 1) := by decide +kernel
theorem dd_M_writes_0 : decode mm_M_writes.2.1 0 = .ok (.aload_n 0, 1) := by decide +kernel
theorem dd_M_writes_1 : decode mm_M_writes.2.1 1 = .ok (.getfield 38, 3) := by decide +kernel
theorem dd_M_writes_4 : decode mm_M_writes.2.1 4 = .ok (.ifCond .ne 15, 3) := by decide +kernel
theorem dd_M_writes_7 : decode mm_M_writes.2.1 7 = .ok (.aload_n 0, 1) := by decide +kernel
theorem dd_M_writes_8 : decode mm_M_writes.2.1 8 = .ok (.iconst 1, 1) := by decide +kernel
theorem dd_M_writes_9 : decode mm_M_writes.2.1 9 = .ok (.putfield 91, 3) := by decide +kernel
theorem dd_M_writes_12 : decode mm_M_writes.2.1 12 = .ok (.aload_n 0, 1) := by decide +kernel
theorem dd_M_writes_13 : decode mm_M_writes.2.1 13 = .ok (.iconst 0, 1) := by decide +kernel
theorem dd_M_writes_14 : decode mm_M_writes.2.1 14 = .ok (.putfield 95, 3) := by decide +kernel
theorem dd_M_writes_17 : decode mm_M_writes.2.1 17 = .ok (.iconst 0, 1) := by decide +kernel
theorem dd_M_writes_18 : decode mm_M_writes.2.1 18 = .ok (.ireturn, 1) := by decide +kernel
theorem dd_M_writes_19 : decode mm_M_writes.2.1 19 = .ok (.aload_n 0, 1) := by decide +kernel
theorem dd_M_writes_20 : decode mm_M_writes.2.1 20 = .ok (.aload_n 0, 1) := by decide +kernel
theorem dd_M_writes_21 : decode mm_M_writes.2.1 21 = .ok (.getfield 38, 3) := by decide +kernel
theorem dd_M_writes_24 : decode mm_M_writes.2.1 24 = .ok (.ifCond .le 12, 3) := by decide +kernel
theorem dd_M_writes_27 : decode mm_M_writes.2.1 27 = .ok (.aload_n 0, 1) := by decide +kernel
theorem dd_M_writes_28 : decode mm_M_writes.2.1 28 = .ok (.getfield 38, 3) := by decide +kernel
theorem dd_M_writes_31 : decode mm_M_writes.2.1 31 = .ok (.iconst 1, 1) := by decide +kernel
theorem dd_M_writes_32 : decode mm_M_writes.2.1 32 = .ok (.isub, 1) := by decide +kernel
theorem dd_M_writes_33 : decode mm_M_writes.2.1 33 = .ok (.goto 7, 3) := by decide +kernel
theorem dd_M_writes_36 : decode mm_M_writes.2.1 36 = .ok (.aload_n 0, 1) := by decide +kernel
theorem dd_M_writes_37 : decode mm_M_writes.2.1 37 = .ok (.getfield 38, 3) := by decide +kernel
theorem dd_M_writes_40 : decode mm_M_writes.2.1 40 = .ok (.putfield 38, 3) := by decide +kernel
theorem dd_M_writes_43 : decode mm_M_writes.2.1 43 = .ok (.iconst 1, 1) := by decide +kernel
theorem dd_M_writes_44 : decode mm_M_writes.2.1 44 = .ok (.ireturn, 1) := by decide +kernel
theorem fl_M_7 : xa_F "NotedVolumeModel" 7 9 2 := ⟨_, _, _, "NotedVolumeModel", rfl, by decide, ly_9, iw_1088, Or.inl rfl⟩
theorem fz_M_7 : xa_Z 9 2 (.array .int) true "NotedVolumeModel" := ⟨_, _, _, ty_9, rfl, tk_9, nk_9, rfl, rfl, by decide⟩
theorem fl_M_13 : xa_F "NotedVolumeModel" 13 9 3 := ⟨_, _, _, "NotedVolumeModel", rfl, by decide, ly_9, iw_1089, Or.inl rfl⟩
theorem fz_M_13 : xa_Z 9 3 (.array .int) true "NotedVolumeModel" := ⟨_, _, _, ty_9, rfl, tk_9, nk_9, rfl, rfl, by decide⟩
theorem fl_M_16 : xa_F "NotedVolumeModel" 16 9 4 := ⟨_, _, _, "NotedVolumeModel", rfl, by decide, ly_9, iw_1090, Or.inl rfl⟩
theorem fz_M_16 : xa_Z 9 4 (.array .int) true "NotedVolumeModel" := ⟨_, _, _, ty_9, rfl, tk_9, nk_9, rfl, rfl, by decide⟩
theorem fl_M_19 : xa_F "NotedVolumeModel" 19 9 5 := ⟨_, _, _, "NotedVolumeModel", rfl, by decide, ly_9, iw_1091, Or.inl rfl⟩
theorem fz_M_19 : xa_Z 9 5 (.array .int) true "NotedVolumeModel" := ⟨_, _, _, ty_9, rfl, tk_9, nk_9, rfl, rfl, by decide⟩
theorem fl_M_22 : xa_F "NotedVolumeModel" 22 9 6 := ⟨_, _, _, "NotedVolumeModel", rfl, by decide, ly_9, iw_1092, Or.inl rfl⟩
theorem fz_M_22 : xa_Z 9 6 (.array .int) true "NotedVolumeModel" := ⟨_, _, _, ty_9, rfl, tk_9, nk_9, rfl, rfl, by decide⟩
theorem fl_M_25 : xa_F "NotedVolumeModel" 25 9 8 := ⟨_, _, _, "NotedVolumeModel", rfl, by decide, ly_9, iw_1094, Or.inl rfl⟩
theorem fz_M_25 : xa_Z 9 8 (.int) false "NotedVolumeModel" := ⟨_, _, _, ty_9, rfl, tk_9, nk_9, rfl, rfl, by decide⟩
theorem fl_M_29 : xa_F "NotedVolumeModel" 29 9 9 := ⟨_, _, _, "NotedVolumeModel", rfl, by decide, ly_9, iw_1095, Or.inl rfl⟩
theorem fz_M_29 : xa_Z 9 9 (.array .int) true "NotedVolumeModel" := ⟨_, _, _, ty_9, rfl, tk_9, nk_9, rfl, rfl, by decide⟩
theorem fl_M_32 : xa_F "NotedVolumeModel" 32 9 11 := ⟨_, _, _, "NotedVolumeModel", rfl, by decide, ly_9, iw_1097, Or.inl rfl⟩
theorem fz_M_32 : xa_Z 9 11 (.array .int) true "NotedVolumeModel" := ⟨_, _, _, ty_9, rfl, tk_9, nk_9, rfl, rfl, by decide⟩
theorem fl_M_35 : xa_F "NotedVolumeModel" 35 9 12 := ⟨_, _, _, "NotedVolumeModel", rfl, by decide, ly_9, iw_1098, Or.inl rfl⟩
theorem fz_M_35 : xa_Z 9 12 (.array .int) true "NotedVolumeModel" := ⟨_, _, _, ty_9, rfl, tk_9, nk_9, rfl, rfl, by decide⟩
theorem fl_M_38 : xa_F "NotedVolumeModel" 38 9 14 := ⟨_, _, _, "NotedVolumeModel", rfl, by decide, ly_9, iw_1100, Or.inl rfl⟩
theorem fz_M_38 : xa_Z 9 14 (.int) false "NotedVolumeModel" := ⟨_, _, _, ty_9, rfl, tk_9, nk_9, rfl, rfl, by decide⟩
theorem fl_M_41 : xa_F "NotedVolumeModel" 41 9 15 := ⟨_, _, _, "NotedVolumeModel", rfl, by decide, ly_9, iw_1101, Or.inl rfl⟩
theorem fz_M_41 : xa_Z 9 15 (.array .int) true "NotedVolumeModel" := ⟨_, _, _, ty_9, rfl, tk_9, nk_9, rfl, rfl, by decide⟩
theorem fl_M_44 : xa_F "NotedVolumeModel" 44 9 16 := ⟨_, _, _, "NotedVolumeModel", rfl, by decide, ly_9, iw_1102, Or.inl rfl⟩
theorem fz_M_44 : xa_Z 9 16 (.array .int) true "NotedVolumeModel" := ⟨_, _, _, ty_9, rfl, tk_9, nk_9, rfl, rfl, by decide⟩
theorem fl_M_47 : xa_F "NotedVolumeModel" 47 9 17 := ⟨_, _, _, "NotedVolumeModel", rfl, by decide, ly_9, iw_1103, Or.inl rfl⟩
theorem fz_M_47 : xa_Z 9 17 (.array .boolean) true "NotedVolumeModel" := ⟨_, _, _, ty_9, rfl, tk_9, nk_9, rfl, rfl, by decide⟩
theorem fl_M_51 : xa_F "NotedVolumeModel" 51 9 18 := ⟨_, _, _, "NotedVolumeModel", rfl, by decide, ly_9, iw_1104, Or.inl rfl⟩
theorem fz_M_51 : xa_Z 9 18 (.array .int) true "NotedVolumeModel" := ⟨_, _, _, ty_9, rfl, tk_9, nk_9, rfl, rfl, by decide⟩
theorem fl_M_54 : xa_F "NotedVolumeModel" 54 9 19 := ⟨_, _, _, "NotedVolumeModel", rfl, by decide, ly_9, iw_1105, Or.inl rfl⟩
theorem fz_M_54 : xa_Z 9 19 (.array .int) true "NotedVolumeModel" := ⟨_, _, _, ty_9, rfl, tk_9, nk_9, rfl, rfl, by decide⟩
theorem fl_M_57 : xa_F "NotedVolumeModel" 57 9 20 := ⟨_, _, _, "NotedVolumeModel", rfl, by decide, ly_9, iw_1106, Or.inl rfl⟩
theorem fz_M_57 : xa_Z 9 20 (.array .int) true "NotedVolumeModel" := ⟨_, _, _, ty_9, rfl, tk_9, nk_9, rfl, rfl, by decide⟩
theorem fl_M_60 : xa_F "NotedVolumeModel" 60 9 21 := ⟨_, _, _, "NotedVolumeModel", rfl, by decide, ly_9, iw_1107, Or.inl rfl⟩
theorem fz_M_60 : xa_Z 9 21 (.array .int) true "NotedVolumeModel" := ⟨_, _, _, ty_9, rfl, tk_9, nk_9, rfl, rfl, by decide⟩
theorem fl_M_63 : xa_F "NotedVolumeModel" 63 9 22 := ⟨_, _, _, "NotedVolumeModel", rfl, by decide, ly_9, iw_1108, Or.inl rfl⟩
theorem fz_M_63 : xa_Z 9 22 (.array .int) true "NotedVolumeModel" := ⟨_, _, _, ty_9, rfl, tk_9, nk_9, rfl, rfl, by decide⟩
theorem fl_M_66 : xa_F "NotedVolumeModel" 66 9 23 := ⟨_, _, _, "NotedVolumeModel", rfl, by decide, ly_9, iw_1109, Or.inl rfl⟩
theorem fz_M_66 : xa_Z 9 23 (.array .int) true "NotedVolumeModel" := ⟨_, _, _, ty_9, rfl, tk_9, nk_9, rfl, rfl, by decide⟩
theorem fl_M_69 : xa_F "NotedVolumeModel" 69 9 24 := ⟨_, _, _, "NotedVolumeModel", rfl, by decide, ly_9, iw_1110, Or.inl rfl⟩
theorem fz_M_69 : xa_Z 9 24 (.array .int) true "NotedVolumeModel" := ⟨_, _, _, ty_9, rfl, tk_9, nk_9, rfl, rfl, by decide⟩
theorem fl_M_72 : xa_F "NotedVolumeModel" 72 9 25 := ⟨_, _, _, "NotedVolumeModel", rfl, by decide, ly_9, iw_1111, Or.inl rfl⟩
theorem fz_M_72 : xa_Z 9 25 (.array .int) true "NotedVolumeModel" := ⟨_, _, _, ty_9, rfl, tk_9, nk_9, rfl, rfl, by decide⟩
theorem fl_M_75 : xa_F "NotedVolumeModel" 75 9 26 := ⟨_, _, _, "NotedVolumeModel", rfl, by decide, ly_9, iw_1112, Or.inl rfl⟩
theorem fz_M_75 : xa_Z 9 26 (.array .int) true "NotedVolumeModel" := ⟨_, _, _, ty_9, rfl, tk_9, nk_9, rfl, rfl, by decide⟩
theorem fl_M_78 : xa_F "NotedVolumeModel" 78 9 27 := ⟨_, _, _, "NotedVolumeModel", rfl, by decide, ly_9, iw_1113, Or.inl rfl⟩
theorem fz_M_78 : xa_Z 9 27 (.array .int) true "NotedVolumeModel" := ⟨_, _, _, ty_9, rfl, tk_9, nk_9, rfl, rfl, by decide⟩
theorem fl_M_91 : xa_F "NotedVolumeModel" 91 9 13 := ⟨_, _, _, "NotedVolumeModel", rfl, by decide, ly_9, iw_1099, Or.inl rfl⟩
theorem fl_M_95 : xa_F "NotedVolumeModel" 95 9 10 := ⟨_, _, _, "NotedVolumeModel", rfl, by decide, ly_9, iw_1096, Or.inl rfl⟩
theorem fz_M_95 : xa_Z 9 10 (.int) false "NotedVolumeModel" := ⟨_, _, _, ty_9, rfl, tk_9, nk_9, rfl, rfl, by decide⟩
theorem fl_M_81 : xa_F "NotedVolumeModel" 81 9 0 := ⟨_, _, _, "NotedVolumeModel", rfl, by decide, ly_9, iw_1086, Or.inl rfl⟩
theorem fz_M_81 : xa_Z 9 0 (.int) false "NotedVolumeModel" := ⟨_, _, _, ty_9, rfl, tk_9, nk_9, rfl, rfl, by decide⟩
theorem fl_M_84 : xa_F "NotedVolumeModel" 84 9 1 := ⟨_, _, _, "NotedVolumeModel", rfl, by decide, ly_9, iw_1087, Or.inl rfl⟩
theorem fl_M_132 : xa_F "NotedVolumeModel" 132 9 7 := ⟨_, _, _, "NotedVolumeModel", rfl, by decide, ly_9, iw_1093, Or.inl rfl⟩
theorem fz_M_132 : xa_Z 9 7 (.int) false "NotedVolumeModel" := ⟨_, _, _, ty_9, rfl, tk_9, nk_9, rfl, rfl, by decide⟩
theorem fz_M_84 : xa_Z 9 1 (.int) false "NotedVolumeModel" := ⟨_, _, _, ty_9, rfl, tk_9, nk_9, rfl, rfl, by decide⟩
theorem fz_M_91 : xa_Z 9 13 (.boolean) false "NotedVolumeModel" := ⟨_, _, _, ty_9, rfl, tk_9, nk_9, rfl, rfl, by decide⟩
theorem iv_M_act_11 {G : xa_G} {rest fs : List Value} {h : xa_H} {b : Nat} {a1 : Value} (hb : h b = some (.inr (9, fs))) : xa_inv G mm_M_act mm_M_followPage 11 (a1 :: .ref b :: rest) [.ref b, a1] rest h := xi_V (n := 1) (As := [a1]) dd_M_act_11 ok_M_followPage iw_1335 iw_1337 rfl ps_41 (by decide +kernel) rfl hb
theorem iv_M_act_20 {G : xa_G} {rest fs : List Value} {h : xa_H} {b : Nat} {a1 a2 : Value} (hb : h b = some (.inr (9, fs))) : xa_inv G mm_M_act mm_M_readBy 20 (a2 :: a1 :: .ref b :: rest) [.ref b, a1, a2] rest h := xi_V (n := 2) (As := [a1, a2]) dd_M_act_20 ok_M_readBy iw_1299 iw_1301 rfl ps_36 (by decide +kernel) rfl hb
theorem iv_M_act_31 {G : xa_G} {rest fs : List Value} {h : xa_H} {b : Nat} {a1 : Value} (hb : h b = some (.inr (9, fs))) : xa_inv G mm_M_act mm_M_beginList 31 (a1 :: .ref b :: rest) [.ref b, a1] rest h := xi_V (n := 1) (As := [a1]) dd_M_act_31 ok_M_beginList iw_1307 iw_1309 rfl ps_37 (by decide +kernel) rfl hb
theorem iv_M_act_43 {G : xa_G} {rest fs : List Value} {h : xa_H} {b : Nat} {a1 a2 : Value} (hb : h b = some (.inr (9, fs))) : xa_inv G mm_M_act mm_M_followNote 43 (a2 :: a1 :: .ref b :: rest) [.ref b, a1, a2] rest h := xi_V (n := 2) (As := [a1, a2]) dd_M_act_43 ok_M_followNote iw_1355 iw_1357 rfl ps_46 (by decide +kernel) rfl hb
theorem iv_M_change_2 {G : xa_G} {rest fs : List Value} {h : xa_H} {b : Nat} {a1 : Value} (hb : h b = some (.inr (9, fs))) : xa_inv G mm_M_change mm_M_placeOf 2 (a1 :: .ref b :: rest) [.ref b, a1] rest h := xi_V (n := 1) (As := [a1]) dd_M_change_2 ok_M_placeOf iw_1180 iw_1182 rfl ps_21 (by decide +kernel) rfl hb
theorem iv_M_change_40 {G : xa_G} {rest fs : List Value} {h : xa_H} {b : Nat} {a1 a2 a3 a4 : Value} (hb : h b = some (.inr (9, fs))) : xa_inv G mm_M_change mm_M_refused 40 (a4 :: a3 :: a2 :: a1 :: .ref b :: rest) [.ref b, a1, a2, a3, a4] rest h := xi_V (n := 4) (As := [a1, a2, a3, a4]) dd_M_change_40 ok_M_refused iw_1192 iw_1194 rfl ps_24 (by decide +kernel) rfl hb
theorem iv_M_change_59 {G : xa_G} {rest fs : List Value} {h : xa_H} {b : Nat} {a1 : Value} (hb : h b = some (.inr (9, fs))) : xa_inv G mm_M_change mm_M_opens 59 (a1 :: .ref b :: rest) [.ref b, a1] rest h := xi_V (n := 1) (As := [a1]) dd_M_change_59 ok_M_opens iw_1196 iw_1198 rfl ps_25 (by decide +kernel) rfl hb
theorem iv_M_change_82 {G : xa_G} {rest fs : List Value} {h : xa_H} {b : Nat} {a1 a2 a3 a4 a5 a6 : Value} (hb : h b = some (.inr (9, fs))) : xa_inv G mm_M_change mm_M_noteChange 82 (a6 :: a5 :: a4 :: a3 :: a2 :: a1 :: .ref b :: rest) [.ref b, a1, a2, a3, a4, a5, a6] rest h := xi_V (n := 6) (As := [a1, a2, a3, a4, a5, a6]) dd_M_change_82 ok_M_noteChange iw_1224 iw_1226 rfl ps_32 (by decide +kernel) rfl hb
theorem iv_M_change_89 {G : xa_G} {rest fs : List Value} {h : xa_H} {b : Nat} (hb : h b = some (.inr (9, fs))) : xa_inv G mm_M_change mm_M_writes 89 (.ref b :: rest) [.ref b] rest h := xi_V (n := 0) (As := []) dd_M_change_89 ok_M_writes iw_1208 iw_1210 rfl ps_28 (by decide +kernel) rfl hb
theorem iv_M_close_2 {G : xa_G} {rest fs : List Value} {h : xa_H} {b : Nat} {a1 : Value} (hb : h b = some (.inr (9, fs))) : xa_inv G mm_M_close mm_M_gatheringOf 2 (a1 :: .ref b :: rest) [.ref b, a1] rest h := xi_V (n := 1) (As := [a1]) dd_M_close_2 ok_M_gatheringOf iw_1200 iw_1202 rfl ps_26 (by decide +kernel) rfl hb
theorem iv_M_close_22 {G : xa_G} {rest fs : List Value} {h : xa_H} {b : Nat} {a1 a2 a3 a4 : Value} (hb : h b = some (.inr (9, fs))) : xa_inv G mm_M_close mm_M_refused 22 (a4 :: a3 :: a2 :: a1 :: .ref b :: rest) [.ref b, a1, a2, a3, a4] rest h := xi_V (n := 4) (As := [a1, a2, a3, a4]) dd_M_close_22 ok_M_refused iw_1192 iw_1194 rfl ps_24 (by decide +kernel) rfl hb
theorem iv_M_close_30 {G : xa_G} {rest fs : List Value} {h : xa_H} {b : Nat} {a1 : Value} (hb : h b = some (.inr (9, fs))) : xa_inv G mm_M_close mm_M_closeGathering 30 (a1 :: .ref b :: rest) [.ref b, a1] rest h := xi_V (n := 1) (As := [a1]) dd_M_close_30 ok_M_closeGathering iw_1204 iw_1206 rfl ps_27 (by decide +kernel) rfl hb
theorem iv_M_closeGathering_1 {G : xa_G} {rest fs : List Value} {h : xa_H} {b : Nat} (hb : h b = some (.inr (9, fs))) : xa_inv G mm_M_closeGathering mm_M_writes 1 (.ref b :: rest) [.ref b] rest h := xi_V (n := 0) (As := []) dd_M_closeGathering_1 ok_M_writes iw_1208 iw_1210 rfl ps_28 (by decide +kernel) rfl hb
theorem iv_M_closeGathering_22 {G : xa_G} {rest fs : List Value} {h : xa_H} {b : Nat} {a1 a2 : Value} (hb : h b = some (.inr (9, fs))) : xa_inv G mm_M_closeGathering mm_M_noteClosing 22 (a2 :: a1 :: .ref b :: rest) [.ref b, a1, a2] rest h := xi_V (n := 2) (As := [a1, a2]) dd_M_closeGathering_22 ok_M_noteClosing iw_1212 iw_1214 rfl ps_29 (by decide +kernel) rfl hb
theorem iv_M_closeGathering_27 {G : xa_G} {rest fs : List Value} {h : xa_H} {b : Nat} {a1 : Value} (hb : h b = some (.inr (9, fs))) : xa_inv G mm_M_closeGathering mm_M_dropGathering 27 (a1 :: .ref b :: rest) [.ref b, a1] rest h := xi_V (n := 1) (As := [a1]) dd_M_closeGathering_27 ok_M_dropGathering iw_1220 iw_1222 rfl ps_31 (by decide +kernel) rfl hb
theorem iv_M_copied_1 {G : xa_G} {rest : List Value} {h : xa_H} {a1 : Value} : xa_inv G mm_M_copied mm_M_is 1 (a1 :: rest) [a1] rest h := xi_S (n := 1) (as := [a1]) dd_M_copied_1 ok_M_is iw_1288 iw_1289 (by decide +kernel) rfl
theorem iv_M_copied_35 {G : xa_G} {rest fs : List Value} {h : xa_H} {b : Nat} {a1 a2 : Value} (hb : h b = some (.inr (9, fs))) : xa_inv G mm_M_copied mm_M_copyPlace 35 (a2 :: a1 :: .ref b :: rest) [.ref b, a1, a2] rest h := xi_V (n := 2) (As := [a1, a2]) dd_M_copied_35 ok_M_copyPlace iw_1347 iw_1349 rfl ps_44 (by decide +kernel) rfl hb
theorem iv_M_copied_55 {G : xa_G} {rest fs : List Value} {h : xa_H} {b : Nat} {a1 a2 a3 a4 : Value} (hb : h b = some (.inr (9, fs))) : xa_inv G mm_M_copied mm_M_refused 55 (a4 :: a3 :: a2 :: a1 :: .ref b :: rest) [.ref b, a1, a2, a3, a4] rest h := xi_V (n := 4) (As := [a1, a2, a3, a4]) dd_M_copied_55 ok_M_refused iw_1192 iw_1194 rfl ps_24 (by decide +kernel) rfl hb
theorem iv_M_copyIn_3 {G : xa_G} {rest fs : List Value} {h : xa_H} {b : Nat} {a1 a2 : Value} (hb : h b = some (.inr (9, fs))) : xa_inv G mm_M_copyIn mm_M_copyPlace 3 (a2 :: a1 :: .ref b :: rest) [.ref b, a1, a2] rest h := xi_V (n := 2) (As := [a1, a2]) dd_M_copyIn_3 ok_M_copyPlace iw_1347 iw_1349 rfl ps_44 (by decide +kernel) rfl hb
theorem iv_M_copyNow_2 {G : xa_G} {rest fs : List Value} {h : xa_H} {b : Nat} {a1 : Value} (hb : h b = some (.inr (9, fs))) : xa_inv G mm_M_copyNow mm_M_placeOf 2 (a1 :: .ref b :: rest) [.ref b, a1] rest h := xi_V (n := 1) (As := [a1]) dd_M_copyNow_2 ok_M_placeOf iw_1180 iw_1182 rfl ps_21 (by decide +kernel) rfl hb
theorem iv_M_copyNow_9 {G : xa_G} {rest fs : List Value} {h : xa_H} {b : Nat} {a1 a2 : Value} (hb : h b = some (.inr (9, fs))) : xa_inv G mm_M_copyNow mm_M_copyPlace 9 (a2 :: a1 :: .ref b :: rest) [.ref b, a1, a2] rest h := xi_V (n := 2) (As := [a1, a2]) dd_M_copyNow_9 ok_M_copyPlace iw_1347 iw_1349 rfl ps_44 (by decide +kernel) rfl hb
theorem iv_M_copyNow_45 {G : xa_G} {rest fs : List Value} {h : xa_H} {b : Nat} {a1 a2 a3 a4 a5 a6 : Value} (hb : h b = some (.inr (9, fs))) : xa_inv G mm_M_copyNow mm_M_copyIn 45 (a6 :: a5 :: a4 :: a3 :: a2 :: a1 :: .ref b :: rest) [.ref b, a1, a2, a3, a4, a5, a6] rest h := xi_V (n := 6) (As := [a1, a2, a3, a4, a5, a6]) dd_M_copyNow_45 ok_M_copyIn iw_1351 iw_1353 rfl ps_45 (by decide +kernel) rfl hb
theorem iv_M_copyNow_60 {G : xa_G} {rest fs : List Value} {h : xa_H} {b : Nat} {a1 a2 : Value} (hb : h b = some (.inr (9, fs))) : xa_inv G mm_M_copyNow mm_M_copyOut 60 (a2 :: a1 :: .ref b :: rest) [.ref b, a1, a2] rest h := xi_V (n := 2) (As := [a1, a2]) dd_M_copyNow_60 ok_M_copyOut iw_1339 iw_1341 rfl ps_42 (by decide +kernel) rfl hb
theorem iv_M_cursor_2 {G : xa_G} {rest : List Value} {h : xa_H} {a1 : Value} : xa_inv G mm_M_cursor mm_M_is 2 (a1 :: rest) [a1] rest h := xi_S (n := 1) (as := [a1]) dd_M_cursor_2 ok_M_is iw_1288 iw_1289 (by decide +kernel) rfl
theorem iv_M_cursor_16 {G : xa_G} {rest fs : List Value} {h : xa_H} {b : Nat} {a1 a2 a3 a4 : Value} (hb : h b = some (.inr (9, fs))) : xa_inv G mm_M_cursor mm_M_refused 16 (a4 :: a3 :: a2 :: a1 :: .ref b :: rest) [.ref b, a1, a2, a3, a4] rest h := xi_V (n := 4) (As := [a1, a2, a3, a4]) dd_M_cursor_16 ok_M_refused iw_1192 iw_1194 rfl ps_24 (by decide +kernel) rfl hb
theorem iv_M_cutAfter_14 {G : xa_G} {rest fs : List Value} {h : xa_H} {b : Nat} {a1 a2 a3 a4 : Value} (hb : h b = some (.inr (9, fs))) : xa_inv G mm_M_cutAfter mm_M_refused 14 (a4 :: a3 :: a2 :: a1 :: .ref b :: rest) [.ref b, a1, a2, a3, a4] rest h := xi_V (n := 4) (As := [a1, a2, a3, a4]) dd_M_cutAfter_14 ok_M_refused iw_1192 iw_1194 rfl ps_24 (by decide +kernel) rfl hb
theorem iv_M_find_8 {G : xa_G} {rest fs : List Value} {h : xa_H} {b : Nat} {a1 a2 : Value} (hb : h b = some (.inr (9, fs))) : xa_inv G mm_M_find mm_M_named 8 (a2 :: a1 :: .ref b :: rest) [.ref b, a1, a2] rest h := xi_V (n := 2) (As := [a1, a2]) dd_M_find_8 ok_M_named iw_1188 iw_1190 rfl ps_23 (by decide +kernel) rfl hb
theorem iv_M_follow_2 {G : xa_G} {rest : List Value} {h : xa_H} {a1 : Value} : xa_inv G mm_M_follow mm_M_is 2 (a1 :: rest) [a1] rest h := xi_S (n := 1) (as := [a1]) dd_M_follow_2 ok_M_is iw_1288 iw_1289 (by decide +kernel) rfl
theorem iv_M_follow_30 {G : xa_G} {rest fs : List Value} {h : xa_H} {b : Nat} {a1 a2 a3 a4 : Value} (hb : h b = some (.inr (9, fs))) : xa_inv G mm_M_follow mm_M_refused 30 (a4 :: a3 :: a2 :: a1 :: .ref b :: rest) [.ref b, a1, a2, a3, a4] rest h := xi_V (n := 4) (As := [a1, a2, a3, a4]) dd_M_follow_30 ok_M_refused iw_1192 iw_1194 rfl ps_24 (by decide +kernel) rfl hb
theorem iv_M_follow_51 {G : xa_G} {rest fs : List Value} {h : xa_H} {b : Nat} {a1 : Value} (hb : h b = some (.inr (9, fs))) : xa_inv G mm_M_follow mm_M_act 51 (a1 :: .ref b :: rest) [.ref b, a1] rest h := xi_V (n := 1) (As := [a1]) dd_M_follow_51 ok_M_act iw_1331 iw_1333 rfl ps_40 (by decide +kernel) rfl hb
theorem iv_M_followNote_34 {G : xa_G} {rest fs : List Value} {h : xa_H} {b : Nat} {a1 a2 : Value} (hb : h b = some (.inr (9, fs))) : xa_inv G mm_M_followNote mm_M_copyNow 34 (a2 :: a1 :: .ref b :: rest) [.ref b, a1, a2] rest h := xi_V (n := 2) (As := [a1, a2]) dd_M_followNote_34 ok_M_copyNow iw_1343 iw_1345 rfl ps_43 (by decide +kernel) rfl hb
theorem iv_M_followNote_58 {G : xa_G} {rest fs : List Value} {h : xa_H} {b : Nat} {a1 a2 : Value} (hb : h b = some (.inr (9, fs))) : xa_inv G mm_M_followNote mm_M_copyPlace 58 (a2 :: a1 :: .ref b :: rest) [.ref b, a1, a2] rest h := xi_V (n := 2) (As := [a1, a2]) dd_M_followNote_58 ok_M_copyPlace iw_1347 iw_1349 rfl ps_44 (by decide +kernel) rfl hb
theorem iv_M_followNote_72 {G : xa_G} {rest fs : List Value} {h : xa_H} {b : Nat} {a1 a2 : Value} (hb : h b = some (.inr (9, fs))) : xa_inv G mm_M_followNote mm_M_copyOut 72 (a2 :: a1 :: .ref b :: rest) [.ref b, a1, a2] rest h := xi_V (n := 2) (As := [a1, a2]) dd_M_followNote_72 ok_M_copyOut iw_1339 iw_1341 rfl ps_42 (by decide +kernel) rfl hb
theorem iv_M_followNote_114 {G : xa_G} {rest fs : List Value} {h : xa_H} {b : Nat} {a1 a2 a3 a4 a5 a6 : Value} (hb : h b = some (.inr (9, fs))) : xa_inv G mm_M_followNote mm_M_copyIn 114 (a6 :: a5 :: a4 :: a3 :: a2 :: a1 :: .ref b :: rest) [.ref b, a1, a2, a3, a4, a5, a6] rest h := xi_V (n := 6) (As := [a1, a2, a3, a4, a5, a6]) dd_M_followNote_114 ok_M_copyIn iw_1351 iw_1353 rfl ps_45 (by decide +kernel) rfl hb
theorem iv_M_followPage_9 {G : xa_G} {rest fs : List Value} {h : xa_H} {b : Nat} {a1 : Value} (hb : h b = some (.inr (9, fs))) : xa_inv G mm_M_followPage mm_M_pageOf 9 (a1 :: .ref b :: rest) [.ref b, a1] rest h := xi_V (n := 1) (As := [a1]) dd_M_followPage_9 ok_M_pageOf iw_1315 iw_1317 rfl ps_38 (by decide +kernel) rfl hb
theorem iv_M_followPage_87 {G : xa_G} {rest fs : List Value} {h : xa_H} {b : Nat} {a1 a2 : Value} (hb : h b = some (.inr (9, fs))) : xa_inv G mm_M_followPage mm_M_copyOut 87 (a2 :: a1 :: .ref b :: rest) [.ref b, a1, a2] rest h := xi_V (n := 2) (As := [a1, a2]) dd_M_followPage_87 ok_M_copyOut iw_1339 iw_1341 rfl ps_42 (by decide +kernel) rfl hb
theorem iv_M_followPage_118 {G : xa_G} {rest fs : List Value} {h : xa_H} {b : Nat} {a1 a2 : Value} (hb : h b = some (.inr (9, fs))) : xa_inv G mm_M_followPage mm_M_copyNow 118 (a2 :: a1 :: .ref b :: rest) [.ref b, a1, a2] rest h := xi_V (n := 2) (As := [a1, a2]) dd_M_followPage_118 ok_M_copyNow iw_1343 iw_1345 rfl ps_43 (by decide +kernel) rfl hb
theorem iv_M_inStep_2 {G : xa_G} {rest : List Value} {h : xa_H} {a1 : Value} : xa_inv G mm_M_inStep mm_M_is 2 (a1 :: rest) [a1] rest h := xi_S (n := 1) (as := [a1]) dd_M_inStep_2 ok_M_is iw_1288 iw_1289 (by decide +kernel) rfl
theorem iv_M_inStep_16 {G : xa_G} {rest fs : List Value} {h : xa_H} {b : Nat} {a1 a2 a3 a4 : Value} (hb : h b = some (.inr (9, fs))) : xa_inv G mm_M_inStep mm_M_refused 16 (a4 :: a3 :: a2 :: a1 :: .ref b :: rest) [.ref b, a1, a2, a3, a4] rest h := xi_V (n := 4) (As := [a1, a2, a3, a4]) dd_M_inStep_16 ok_M_refused iw_1192 iw_1194 rfl ps_24 (by decide +kernel) rfl hb
theorem iv_M_inStep_57 {G : xa_G} {rest fs : List Value} {h : xa_H} {b : Nat} {a1 a2 : Value} (hb : h b = some (.inr (9, fs))) : xa_inv G mm_M_inStep mm_M_copyPlace 57 (a2 :: a1 :: .ref b :: rest) [.ref b, a1, a2] rest h := xi_V (n := 2) (As := [a1, a2]) dd_M_inStep_57 ok_M_copyPlace iw_1347 iw_1349 rfl ps_44 (by decide +kernel) rfl hb
theorem iv_M_isFirst_6 {G : xa_G} {rest fs : List Value} {h : xa_H} {b : Nat} (hb : h b = some (.inr (9, fs))) : xa_inv G mm_M_isFirst mm_M_tailNow 6 (.ref b :: rest) [.ref b] rest h := xi_V (n := 0) (As := []) dd_M_isFirst_6 ok_M_tailNow iw_1272 iw_1274 rfl ps_35 (by decide +kernel) rfl hb
theorem iv_M_isFolder_6 {G : xa_G} {rest fs : List Value} {h : xa_H} {b : Nat} {a1 : Value} (hb : h b = some (.inr (9, fs))) : xa_inv G mm_M_isFolder mm_M_placeOf 6 (a1 :: .ref b :: rest) [.ref b, a1] rest h := xi_V (n := 1) (As := [a1]) dd_M_isFolder_6 ok_M_placeOf iw_1180 iw_1182 rfl ps_21 (by decide +kernel) rfl hb
theorem iv_M_isFolder_18 {G : xa_G} {rest fs : List Value} {h : xa_H} {b : Nat} {a1 : Value} (hb : h b = some (.inr (9, fs))) : xa_inv G mm_M_isFolder mm_M_placeOf 18 (a1 :: .ref b :: rest) [.ref b, a1] rest h := xi_V (n := 1) (As := [a1]) dd_M_isFolder_18 ok_M_placeOf iw_1180 iw_1182 rfl ps_21 (by decide +kernel) rfl hb
theorem iv_M_isIn_29 {G : xa_G} {rest fs : List Value} {h : xa_H} {b : Nat} {a1 : Value} (hb : h b = some (.inr (9, fs))) : xa_inv G mm_M_isIn mm_M_placeOf 29 (a1 :: .ref b :: rest) [.ref b, a1] rest h := xi_V (n := 1) (As := [a1]) dd_M_isIn_29 ok_M_placeOf iw_1180 iw_1182 rfl ps_21 (by decide +kernel) rfl hb
theorem iv_M_list_2 {G : xa_G} {rest : List Value} {h : xa_H} {a1 : Value} : xa_inv G mm_M_list mm_M_is 2 (a1 :: rest) [a1] rest h := xi_S (n := 1) (as := [a1]) dd_M_list_2 ok_M_is iw_1288 iw_1289 (by decide +kernel) rfl
theorem iv_M_list_16 {G : xa_G} {rest fs : List Value} {h : xa_H} {b : Nat} {a1 a2 a3 a4 : Value} (hb : h b = some (.inr (9, fs))) : xa_inv G mm_M_list mm_M_refused 16 (a4 :: a3 :: a2 :: a1 :: .ref b :: rest) [.ref b, a1, a2, a3, a4] rest h := xi_V (n := 4) (As := [a1, a2, a3, a4]) dd_M_list_16 ok_M_refused iw_1192 iw_1194 rfl ps_24 (by decide +kernel) rfl hb
theorem iv_M_list_24 {G : xa_G} {rest fs : List Value} {h : xa_H} {b : Nat} {a1 : Value} (hb : h b = some (.inr (9, fs))) : xa_inv G mm_M_list mm_M_beginList 24 (a1 :: .ref b :: rest) [.ref b, a1] rest h := xi_V (n := 1) (As := [a1]) dd_M_list_24 ok_M_beginList iw_1307 iw_1309 rfl ps_37 (by decide +kernel) rfl hb
theorem iv_M_make_6 {G : xa_G} {rest fs : List Value} {h : xa_H} {b : Nat} {a1 : Value} (hb : h b = some (.inr (9, fs))) : xa_inv G mm_M_make mm_M_placeOf 6 (a1 :: .ref b :: rest) [.ref b, a1] rest h := xi_V (n := 1) (As := [a1]) dd_M_make_6 ok_M_placeOf iw_1180 iw_1182 rfl ps_21 (by decide +kernel) rfl hb
theorem iv_M_make_62 {G : xa_G} {rest fs : List Value} {h : xa_H} {b : Nat} {a1 : Value} (hb : h b = some (.inr (9, fs))) : xa_inv G mm_M_make mm_M_isFolder 62 (a1 :: .ref b :: rest) [.ref b, a1] rest h := xi_V (n := 1) (As := [a1]) dd_M_make_62 ok_M_isFolder iw_1184 iw_1186 rfl ps_22 (by decide +kernel) rfl hb
theorem iv_M_make_71 {G : xa_G} {rest fs : List Value} {h : xa_H} {b : Nat} {a1 a2 : Value} (hb : h b = some (.inr (9, fs))) : xa_inv G mm_M_make mm_M_named 71 (a2 :: a1 :: .ref b :: rest) [.ref b, a1, a2] rest h := xi_V (n := 2) (As := [a1, a2]) dd_M_make_71 ok_M_named iw_1188 iw_1190 rfl ps_23 (by decide +kernel) rfl hb
theorem iv_M_make_82 {G : xa_G} {rest fs : List Value} {h : xa_H} {b : Nat} {a1 a2 a3 a4 : Value} (hb : h b = some (.inr (9, fs))) : xa_inv G mm_M_make mm_M_refused 82 (a4 :: a3 :: a2 :: a1 :: .ref b :: rest) [.ref b, a1, a2, a3, a4] rest h := xi_V (n := 4) (As := [a1, a2, a3, a4]) dd_M_make_82 ok_M_refused iw_1192 iw_1194 rfl ps_24 (by decide +kernel) rfl hb
theorem iv_M_make_112 {G : xa_G} {rest fs : List Value} {h : xa_H} {b : Nat} {a1 : Value} (hb : h b = some (.inr (9, fs))) : xa_inv G mm_M_make mm_M_opens 112 (a1 :: .ref b :: rest) [.ref b, a1] rest h := xi_V (n := 1) (As := [a1]) dd_M_make_112 ok_M_opens iw_1196 iw_1198 rfl ps_25 (by decide +kernel) rfl hb
theorem iv_M_make_127 {G : xa_G} {rest fs : List Value} {h : xa_H} {b : Nat} {a1 a2 a3 a4 a5 a6 : Value} (hb : h b = some (.inr (9, fs))) : xa_inv G mm_M_make mm_M_noteChange 127 (a6 :: a5 :: a4 :: a3 :: a2 :: a1 :: .ref b :: rest) [.ref b, a1, a2, a3, a4, a5, a6] rest h := xi_V (n := 6) (As := [a1, a2, a3, a4, a5, a6]) dd_M_make_127 ok_M_noteChange iw_1224 iw_1226 rfl ps_32 (by decide +kernel) rfl hb
theorem iv_M_make_134 {G : xa_G} {rest fs : List Value} {h : xa_H} {b : Nat} (hb : h b = some (.inr (9, fs))) : xa_inv G mm_M_make mm_M_writes 134 (.ref b :: rest) [.ref b] rest h := xi_V (n := 0) (As := []) dd_M_make_134 ok_M_writes iw_1208 iw_1210 rfl ps_28 (by decide +kernel) rfl hb
theorem iv_M_note_3 {G : xa_G} {rest fs : List Value} {h : xa_H} {b : Nat} (hb : h b = some (.inr (9, fs))) : xa_inv G mm_M_note mm_M_tailNow 3 (.ref b :: rest) [.ref b] rest h := xi_V (n := 0) (As := []) dd_M_note_3 ok_M_tailNow iw_1272 iw_1274 rfl ps_35 (by decide +kernel) rfl hb
theorem iv_M_note_38 {G : xa_G} {rest fs : List Value} {h : xa_H} {b : Nat} {a1 a2 a3 a4 : Value} (hb : h b = some (.inr (9, fs))) : xa_inv G mm_M_note mm_M_refused 38 (a4 :: a3 :: a2 :: a1 :: .ref b :: rest) [.ref b, a1, a2, a3, a4] rest h := xi_V (n := 4) (As := [a1, a2, a3, a4]) dd_M_note_38 ok_M_refused iw_1192 iw_1194 rfl ps_24 (by decide +kernel) rfl hb
theorem iv_M_noteChange_1 {G : xa_G} {rest fs : List Value} {h : xa_H} {b : Nat} (hb : h b = some (.inr (9, fs))) : xa_inv G mm_M_noteChange mm_M_writes 1 (.ref b :: rest) [.ref b] rest h := xi_V (n := 0) (As := []) dd_M_noteChange_1 ok_M_writes iw_1208 iw_1210 rfl ps_28 (by decide +kernel) rfl hb
theorem iv_M_noteChange_11 {G : xa_G} {rest fs : List Value} {h : xa_H} {b : Nat} {a1 : Value} (hb : h b = some (.inr (9, fs))) : xa_inv G mm_M_noteChange mm_M_gatheringOf 11 (a1 :: .ref b :: rest) [.ref b, a1] rest h := xi_V (n := 1) (As := [a1]) dd_M_noteChange_11 ok_M_gatheringOf iw_1200 iw_1202 rfl ps_26 (by decide +kernel) rfl hb
theorem iv_M_noteChange_85 {G : xa_G} {rest fs : List Value} {h : xa_H} {b : Nat} {a1 a2 a3 a4 a5 a6 : Value} (hb : h b = some (.inr (9, fs))) : xa_inv G mm_M_noteChange mm_M_writeNote 85 (a6 :: a5 :: a4 :: a3 :: a2 :: a1 :: .ref b :: rest) [.ref b, a1, a2, a3, a4, a5, a6] rest h := xi_V (n := 6) (As := [a1, a2, a3, a4, a5, a6]) dd_M_noteChange_85 ok_M_writeNote iw_1216 iw_1218 rfl ps_30 (by decide +kernel) rfl hb
theorem iv_M_noteClosing_2 {G : xa_G} {rest fs : List Value} {h : xa_H} {b : Nat} {a1 : Value} (hb : h b = some (.inr (9, fs))) : xa_inv G mm_M_noteClosing mm_M_placeOf 2 (a1 :: .ref b :: rest) [.ref b, a1] rest h := xi_V (n := 1) (As := [a1]) dd_M_noteClosing_2 ok_M_placeOf iw_1180 iw_1182 rfl ps_21 (by decide +kernel) rfl hb
theorem iv_M_noteClosing_68 {G : xa_G} {rest fs : List Value} {h : xa_H} {b : Nat} {a1 a2 a3 a4 a5 a6 : Value} (hb : h b = some (.inr (9, fs))) : xa_inv G mm_M_noteClosing mm_M_writeNote 68 (a6 :: a5 :: a4 :: a3 :: a2 :: a1 :: .ref b :: rest) [.ref b, a1, a2, a3, a4, a5, a6] rest h := xi_V (n := 6) (As := [a1, a2, a3, a4, a5, a6]) dd_M_noteClosing_68 ok_M_writeNote iw_1216 iw_1218 rfl ps_30 (by decide +kernel) rfl hb
theorem iv_M_of_2 {G : xa_G} {rest fs : List Value} {h : xa_H} {b : Nat} {a1 : Value} (hb : h b = some (.inr (9, fs))) : xa_inv G mm_M_of mm_M_placeOf 2 (a1 :: .ref b :: rest) [.ref b, a1] rest h := xi_V (n := 1) (As := [a1]) dd_M_of_2 ok_M_placeOf iw_1180 iw_1182 rfl ps_21 (by decide +kernel) rfl hb
theorem iv_M_of_32 {G : xa_G} {rest fs : List Value} {h : xa_H} {b : Nat} {a1 a2 a3 a4 : Value} (hb : h b = some (.inr (9, fs))) : xa_inv G mm_M_of mm_M_refused 32 (a4 :: a3 :: a2 :: a1 :: .ref b :: rest) [.ref b, a1, a2, a3, a4] rest h := xi_V (n := 4) (As := [a1, a2, a3, a4]) dd_M_of_32 ok_M_refused iw_1192 iw_1194 rfl ps_24 (by decide +kernel) rfl hb
theorem iv_M_opens_2 {G : xa_G} {rest fs : List Value} {h : xa_H} {b : Nat} {a1 : Value} (hb : h b = some (.inr (9, fs))) : xa_inv G mm_M_opens mm_M_gatheringOf 2 (a1 :: .ref b :: rest) [.ref b, a1] rest h := xi_V (n := 1) (As := [a1]) dd_M_opens_2 ok_M_gatheringOf iw_1200 iw_1202 rfl ps_26 (by decide +kernel) rfl hb
theorem iv_M_opens_20 {G : xa_G} {rest fs : List Value} {h : xa_H} {b : Nat} {a1 : Value} (hb : h b = some (.inr (9, fs))) : xa_inv G mm_M_opens mm_M_closeGathering 20 (a1 :: .ref b :: rest) [.ref b, a1] rest h := xi_V (n := 1) (As := [a1]) dd_M_opens_20 ok_M_closeGathering iw_1204 iw_1206 rfl ps_27 (by decide +kernel) rfl hb
theorem iv_M_page_2 {G : xa_G} {rest : List Value} {h : xa_H} {a1 : Value} : xa_inv G mm_M_page mm_M_is 2 (a1 :: rest) [a1] rest h := xi_S (n := 1) (as := [a1]) dd_M_page_2 ok_M_is iw_1288 iw_1289 (by decide +kernel) rfl
theorem iv_M_page_14 {G : xa_G} {rest : List Value} {h : xa_H} {a1 : Value} : xa_inv G mm_M_page mm_M_is 14 (a1 :: rest) [a1] rest h := xi_S (n := 1) (as := [a1]) dd_M_page_14 ok_M_is iw_1288 iw_1289 (by decide +kernel) rfl
theorem iv_M_page_36 {G : xa_G} {rest fs : List Value} {h : xa_H} {b : Nat} {a1 a2 a3 a4 : Value} (hb : h b = some (.inr (9, fs))) : xa_inv G mm_M_page mm_M_refused 36 (a4 :: a3 :: a2 :: a1 :: .ref b :: rest) [.ref b, a1, a2, a3, a4] rest h := xi_V (n := 4) (As := [a1, a2, a3, a4]) dd_M_page_36 ok_M_refused iw_1192 iw_1194 rfl ps_24 (by decide +kernel) rfl hb
theorem iv_M_page_48 {G : xa_G} {rest fs : List Value} {h : xa_H} {b : Nat} {a1 : Value} (hb : h b = some (.inr (9, fs))) : xa_inv G mm_M_page mm_M_pageOf 48 (a1 :: .ref b :: rest) [.ref b, a1] rest h := xi_V (n := 1) (As := [a1]) dd_M_page_48 ok_M_pageOf iw_1315 iw_1317 rfl ps_38 (by decide +kernel) rfl hb
theorem iv_M_pageOf_16 {G : xa_G} {rest fs : List Value} {h : xa_H} {b : Nat} {a1 : Value} (hb : h b = some (.inr (9, fs))) : xa_inv G mm_M_pageOf mm_M_placeAbove 16 (a1 :: .ref b :: rest) [.ref b, a1] rest h := xi_V (n := 1) (As := [a1]) dd_M_pageOf_16 ok_M_placeAbove iw_1319 iw_1321 rfl ps_39 (by decide +kernel) rfl hb
theorem iv_M_read_2 {G : xa_G} {rest : List Value} {h : xa_H} {a1 : Value} : xa_inv G mm_M_read mm_M_is 2 (a1 :: rest) [a1] rest h := xi_S (n := 1) (as := [a1]) dd_M_read_2 ok_M_is iw_1288 iw_1289 (by decide +kernel) rfl
theorem iv_M_read_16 {G : xa_G} {rest fs : List Value} {h : xa_H} {b : Nat} {a1 a2 a3 a4 : Value} (hb : h b = some (.inr (9, fs))) : xa_inv G mm_M_read mm_M_refused 16 (a4 :: a3 :: a2 :: a1 :: .ref b :: rest) [.ref b, a1, a2, a3, a4] rest h := xi_V (n := 4) (As := [a1, a2, a3, a4]) dd_M_read_16 ok_M_refused iw_1192 iw_1194 rfl ps_24 (by decide +kernel) rfl hb
theorem iv_M_read_34 {G : xa_G} {rest fs : List Value} {h : xa_H} {b : Nat} {a1 a2 : Value} (hb : h b = some (.inr (9, fs))) : xa_inv G mm_M_read mm_M_readBy 34 (a2 :: a1 :: .ref b :: rest) [.ref b, a1, a2] rest h := xi_V (n := 2) (As := [a1, a2]) dd_M_read_34 ok_M_readBy iw_1299 iw_1301 rfl ps_36 (by decide +kernel) rfl hb
theorem iv_M_readBy_7 {G : xa_G} {rest fs : List Value} {h : xa_H} {b : Nat} (hb : h b = some (.inr (9, fs))) : xa_inv G mm_M_readBy mm_M_tailNow 7 (.ref b :: rest) [.ref b] rest h := xi_V (n := 0) (As := []) dd_M_readBy_7 ok_M_tailNow iw_1272 iw_1274 rfl ps_35 (by decide +kernel) rfl hb
theorem iv_M_remove_2 {G : xa_G} {rest fs : List Value} {h : xa_H} {b : Nat} {a1 : Value} (hb : h b = some (.inr (9, fs))) : xa_inv G mm_M_remove mm_M_placeOf 2 (a1 :: .ref b :: rest) [.ref b, a1] rest h := xi_V (n := 1) (As := [a1]) dd_M_remove_2 ok_M_placeOf iw_1180 iw_1182 rfl ps_21 (by decide +kernel) rfl hb
theorem iv_M_remove_26 {G : xa_G} {rest fs : List Value} {h : xa_H} {b : Nat} {a1 : Value} (hb : h b = some (.inr (9, fs))) : xa_inv G mm_M_remove mm_M_hasFiles 26 (a1 :: .ref b :: rest) [.ref b, a1] rest h := xi_V (n := 1) (As := [a1]) dd_M_remove_26 ok_M_hasFiles iw_1244 iw_1246 rfl ps_34 (by decide +kernel) rfl hb
theorem iv_M_remove_38 {G : xa_G} {rest fs : List Value} {h : xa_H} {b : Nat} {a1 a2 a3 a4 : Value} (hb : h b = some (.inr (9, fs))) : xa_inv G mm_M_remove mm_M_refused 38 (a4 :: a3 :: a2 :: a1 :: .ref b :: rest) [.ref b, a1, a2, a3, a4] rest h := xi_V (n := 4) (As := [a1, a2, a3, a4]) dd_M_remove_38 ok_M_refused iw_1192 iw_1194 rfl ps_24 (by decide +kernel) rfl hb
theorem iv_M_remove_48 {G : xa_G} {rest fs : List Value} {h : xa_H} {b : Nat} {a1 : Value} (hb : h b = some (.inr (9, fs))) : xa_inv G mm_M_remove mm_M_opens 48 (a1 :: .ref b :: rest) [.ref b, a1] rest h := xi_V (n := 1) (As := [a1]) dd_M_remove_48 ok_M_opens iw_1196 iw_1198 rfl ps_25 (by decide +kernel) rfl hb
theorem iv_M_remove_82 {G : xa_G} {rest fs : List Value} {h : xa_H} {b : Nat} {a1 a2 a3 a4 a5 a6 : Value} (hb : h b = some (.inr (9, fs))) : xa_inv G mm_M_remove mm_M_noteChange 82 (a6 :: a5 :: a4 :: a3 :: a2 :: a1 :: .ref b :: rest) [.ref b, a1, a2, a3, a4, a5, a6] rest h := xi_V (n := 6) (As := [a1, a2, a3, a4, a5, a6]) dd_M_remove_82 ok_M_noteChange iw_1224 iw_1226 rfl ps_32 (by decide +kernel) rfl hb
theorem iv_M_remove_89 {G : xa_G} {rest fs : List Value} {h : xa_H} {b : Nat} (hb : h b = some (.inr (9, fs))) : xa_inv G mm_M_remove mm_M_writes 89 (.ref b :: rest) [.ref b] rest h := xi_V (n := 0) (As := []) dd_M_remove_89 ok_M_writes iw_1208 iw_1210 rfl ps_28 (by decide +kernel) rfl hb
theorem iv_M_rename_2 {G : xa_G} {rest fs : List Value} {h : xa_H} {b : Nat} {a1 : Value} (hb : h b = some (.inr (9, fs))) : xa_inv G mm_M_rename mm_M_placeOf 2 (a1 :: .ref b :: rest) [.ref b, a1] rest h := xi_V (n := 1) (As := [a1]) dd_M_rename_2 ok_M_placeOf iw_1180 iw_1182 rfl ps_21 (by decide +kernel) rfl hb
theorem iv_M_rename_18 {G : xa_G} {rest fs : List Value} {h : xa_H} {b : Nat} {a1 : Value} (hb : h b = some (.inr (9, fs))) : xa_inv G mm_M_rename mm_M_placeOf 18 (a1 :: .ref b :: rest) [.ref b, a1] rest h := xi_V (n := 1) (As := [a1]) dd_M_rename_18 ok_M_placeOf iw_1180 iw_1182 rfl ps_21 (by decide +kernel) rfl hb
theorem iv_M_rename_34 {G : xa_G} {rest fs : List Value} {h : xa_H} {b : Nat} {a1 a2 : Value} (hb : h b = some (.inr (9, fs))) : xa_inv G mm_M_rename mm_M_named 34 (a2 :: a1 :: .ref b :: rest) [.ref b, a1, a2] rest h := xi_V (n := 2) (As := [a1, a2]) dd_M_rename_34 ok_M_named iw_1188 iw_1190 rfl ps_23 (by decide +kernel) rfl hb
theorem iv_M_rename_46 {G : xa_G} {rest fs : List Value} {h : xa_H} {b : Nat} {a1 : Value} (hb : h b = some (.inr (9, fs))) : xa_inv G mm_M_rename mm_M_isFolder 46 (a1 :: .ref b :: rest) [.ref b, a1] rest h := xi_V (n := 1) (As := [a1]) dd_M_rename_46 ok_M_isFolder iw_1184 iw_1186 rfl ps_22 (by decide +kernel) rfl hb
theorem iv_M_rename_55 {G : xa_G} {rest fs : List Value} {h : xa_H} {b : Nat} {a1 a2 : Value} (hb : h b = some (.inr (9, fs))) : xa_inv G mm_M_rename mm_M_isIn 55 (a2 :: a1 :: .ref b :: rest) [.ref b, a1, a2] rest h := xi_V (n := 2) (As := [a1, a2]) dd_M_rename_55 ok_M_isIn iw_1236 iw_1238 rfl ps_33 (by decide +kernel) rfl hb
theorem iv_M_rename_105 {G : xa_G} {rest fs : List Value} {h : xa_H} {b : Nat} {a1 a2 a3 a4 : Value} (hb : h b = some (.inr (9, fs))) : xa_inv G mm_M_rename mm_M_refused 105 (a4 :: a3 :: a2 :: a1 :: .ref b :: rest) [.ref b, a1, a2, a3, a4] rest h := xi_V (n := 4) (As := [a1, a2, a3, a4]) dd_M_rename_105 ok_M_refused iw_1192 iw_1194 rfl ps_24 (by decide +kernel) rfl hb
theorem iv_M_rename_158 {G : xa_G} {rest fs : List Value} {h : xa_H} {b : Nat} {a1 : Value} (hb : h b = some (.inr (9, fs))) : xa_inv G mm_M_rename mm_M_opens 158 (a1 :: .ref b :: rest) [.ref b, a1] rest h := xi_V (n := 1) (As := [a1]) dd_M_rename_158 ok_M_opens iw_1196 iw_1198 rfl ps_25 (by decide +kernel) rfl hb
theorem iv_M_rename_195 {G : xa_G} {rest fs : List Value} {h : xa_H} {b : Nat} {a1 a2 a3 a4 a5 a6 : Value} (hb : h b = some (.inr (9, fs))) : xa_inv G mm_M_rename mm_M_noteChange 195 (a6 :: a5 :: a4 :: a3 :: a2 :: a1 :: .ref b :: rest) [.ref b, a1, a2, a3, a4, a5, a6] rest h := xi_V (n := 6) (As := [a1, a2, a3, a4, a5, a6]) dd_M_rename_195 ok_M_noteChange iw_1224 iw_1226 rfl ps_32 (by decide +kernel) rfl hb
theorem iv_M_rename_224 {G : xa_G} {rest fs : List Value} {h : xa_H} {b : Nat} {a1 a2 a3 a4 a5 a6 : Value} (hb : h b = some (.inr (9, fs))) : xa_inv G mm_M_rename mm_M_noteChange 224 (a6 :: a5 :: a4 :: a3 :: a2 :: a1 :: .ref b :: rest) [.ref b, a1, a2, a3, a4, a5, a6] rest h := xi_V (n := 6) (As := [a1, a2, a3, a4, a5, a6]) dd_M_rename_224 ok_M_noteChange iw_1224 iw_1226 rfl ps_32 (by decide +kernel) rfl hb
theorem iv_M_rename_231 {G : xa_G} {rest fs : List Value} {h : xa_H} {b : Nat} (hb : h b = some (.inr (9, fs))) : xa_inv G mm_M_rename mm_M_writes 231 (.ref b :: rest) [.ref b] rest h := xi_V (n := 0) (As := []) dd_M_rename_231 ok_M_writes iw_1208 iw_1210 rfl ps_28 (by decide +kernel) rfl hb
theorem iv_M_shown_2 {G : xa_G} {rest : List Value} {h : xa_H} {a1 : Value} : xa_inv G mm_M_shown mm_M_is 2 (a1 :: rest) [a1] rest h := xi_S (n := 1) (as := [a1]) dd_M_shown_2 ok_M_is iw_1288 iw_1289 (by decide +kernel) rfl
theorem iv_M_shown_16 {G : xa_G} {rest fs : List Value} {h : xa_H} {b : Nat} {a1 a2 a3 a4 : Value} (hb : h b = some (.inr (9, fs))) : xa_inv G mm_M_shown mm_M_refused 16 (a4 :: a3 :: a2 :: a1 :: .ref b :: rest) [.ref b, a1, a2, a3, a4] rest h := xi_V (n := 4) (As := [a1, a2, a3, a4]) dd_M_shown_16 ok_M_refused iw_1192 iw_1194 rfl ps_24 (by decide +kernel) rfl hb
theorem iv_M_start_27 {G : xa_G} {rest fs : List Value} {h : xa_H} {b : Nat} (hb : h b = some (.inr (9, fs))) : xa_inv G mm_M_start mm_M_tailNow 27 (.ref b :: rest) [.ref b] rest h := xi_V (n := 0) (As := []) dd_M_start_27 ok_M_tailNow iw_1272 iw_1274 rfl ps_35 (by decide +kernel) rfl hb
theorem iv_M_start_41 {G : xa_G} {rest fs : List Value} {h : xa_H} {b : Nat} {a1 : Value} (hb : h b = some (.inr (9, fs))) : xa_inv G mm_M_start mm_M_latestOf 41 (a1 :: .ref b :: rest) [.ref b, a1] rest h := xi_V (n := 1) (As := [a1]) dd_M_start_41 ok_M_latestOf iw_1375 iw_1377 rfl ps_47 (by decide +kernel) rfl hb
theorem iv_M_start_47 {G : xa_G} {rest fs : List Value} {h : xa_H} {b : Nat} {a1 : Value} (hb : h b = some (.inr (9, fs))) : xa_inv G mm_M_start mm_M_isFirst 47 (a1 :: .ref b :: rest) [.ref b, a1] rest h := xi_V (n := 1) (As := [a1]) dd_M_start_47 ok_M_isFirst iw_1379 iw_1381 rfl ps_48 (by decide +kernel) rfl hb
theorem iv_M_start_248 {G : xa_G} {rest fs : List Value} {h : xa_H} {b : Nat} {a1 a2 : Value} (hb : h b = some (.inr (9, fs))) : xa_inv G mm_M_start mm_M_noteClosing 248 (a2 :: a1 :: .ref b :: rest) [.ref b, a1, a2] rest h := xi_V (n := 2) (As := [a1, a2]) dd_M_start_248 ok_M_noteClosing iw_1212 iw_1214 rfl ps_29 (by decide +kernel) rfl hb
theorem iv_M_subscribe_2 {G : xa_G} {rest : List Value} {h : xa_H} {a1 : Value} : xa_inv G mm_M_subscribe mm_M_is 2 (a1 :: rest) [a1] rest h := xi_S (n := 1) (as := [a1]) dd_M_subscribe_2 ok_M_is iw_1288 iw_1289 (by decide +kernel) rfl
theorem iv_M_subscribe_30 {G : xa_G} {rest fs : List Value} {h : xa_H} {b : Nat} {a1 a2 a3 a4 : Value} (hb : h b = some (.inr (9, fs))) : xa_inv G mm_M_subscribe mm_M_refused 30 (a4 :: a3 :: a2 :: a1 :: .ref b :: rest) [.ref b, a1, a2, a3, a4] rest h := xi_V (n := 4) (As := [a1, a2, a3, a4]) dd_M_subscribe_30 ok_M_refused iw_1192 iw_1194 rfl ps_24 (by decide +kernel) rfl hb
theorem iv_M_tail_6 {G : xa_G} {rest fs : List Value} {h : xa_H} {b : Nat} (hb : h b = some (.inr (9, fs))) : xa_inv G mm_M_tail mm_M_tailNow 6 (.ref b :: rest) [.ref b] rest h := xi_V (n := 0) (As := []) dd_M_tail_6 ok_M_tailNow iw_1272 iw_1274 rfl ps_35 (by decide +kernel) rfl hb
theorem ol_M_1 : Cond.methodLink "NotedVolumeModel" 1 ⟨"java/lang/Object", "<init>", "()V"⟩ ∈ xv_T := iw_1085
theorem ar_boolean : Cond.arrayClass .boolean ∈ xv_T := iw_1171
