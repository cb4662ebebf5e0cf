/-! names of the law itself (by program: wip/whole/mk68.py) -/
theorem iw_33 : Cond.classLink "NotedVolumeLaw" 8 "NotedVolume" ∈ xv_T := xv_in (List.mem_append_right _ (List.mem_of_getElem? (i := 33) (by decide +kernel))) (by decide +kernel)
theorem iw_34 : Cond.instantiable "NotedVolume" 7 ∈ xv_T := xv_in (List.mem_append_right _ (List.mem_of_getElem? (i := 34) (by decide +kernel))) (by decide +kernel)
theorem iw_35 : Cond.methodLink "NotedVolumeLaw" 78 ⟨"NotedVolume", "<init>", "()V"⟩ ∈ xv_T := xv_in (List.mem_append_right _ (List.mem_of_getElem? (i := 35) (by decide +kernel))) (by decide +kernel)
theorem iw_36 : Cond.instanceMethod ⟨"NotedVolume", "<init>", "()V"⟩ ∈ xv_T := xv_in (List.mem_append_right _ (List.mem_of_getElem? (i := 36) (by decide +kernel))) (by decide +kernel)
theorem iw_163 : Cond.methodLink "NotedVolumeLaw" 106 ⟨"NotedVolume", "open", "()I"⟩ ∈ xv_T := xv_in (List.mem_append_right _ (List.mem_of_getElem? (i := 163) (by decide +kernel))) (by decide +kernel)
theorem iw_164 : Cond.instanceMethod ⟨"NotedVolume", "open", "()I"⟩ ∈ xv_T := xv_in (List.mem_append_right _ (List.mem_of_getElem? (i := 164) (by decide +kernel))) (by decide +kernel)
theorem iw_165 : Cond.selects "NotedVolume" ⟨"NotedVolume", "open", "()I"⟩ ⟨"NotedVolume", "open", "()I"⟩ ∈ xv_T := xv_in (List.mem_append_right _ (List.mem_of_getElem? (i := 165) (by decide +kernel))) (by decide +kernel)
theorem iw_175 : Cond.methodLink "NotedVolumeLaw" 114 ⟨"NotedVolume", "find", "(II)I"⟩ ∈ xv_T := xv_in (List.mem_append_right _ (List.mem_of_getElem? (i := 175) (by decide +kernel))) (by decide +kernel)
theorem iw_176 : Cond.instanceMethod ⟨"NotedVolume", "find", "(II)I"⟩ ∈ xv_T := xv_in (List.mem_append_right _ (List.mem_of_getElem? (i := 176) (by decide +kernel))) (by decide +kernel)
theorem iw_177 : Cond.selects "NotedVolume" ⟨"NotedVolume", "find", "(II)I"⟩ ⟨"NotedVolume", "find", "(II)I"⟩ ∈ xv_T := xv_in (List.mem_append_right _ (List.mem_of_getElem? (i := 177) (by decide +kernel))) (by decide +kernel)
theorem iw_199 : Cond.methodLink "NotedVolumeLaw" 118 ⟨"NotedVolume", "live", "()I"⟩ ∈ xv_T := xv_in (List.mem_append_right _ (List.mem_of_getElem? (i := 199) (by decide +kernel))) (by decide +kernel)
theorem iw_200 : Cond.instanceMethod ⟨"NotedVolume", "live", "()I"⟩ ∈ xv_T := xv_in (List.mem_append_right _ (List.mem_of_getElem? (i := 200) (by decide +kernel))) (by decide +kernel)
theorem iw_201 : Cond.selects "NotedVolume" ⟨"NotedVolume", "live", "()I"⟩ ⟨"NotedVolume", "live", "()I"⟩ ∈ xv_T := xv_in (List.mem_append_right _ (List.mem_of_getElem? (i := 201) (by decide +kernel))) (by decide +kernel)
theorem iw_207 : Cond.methodLink "NotedVolumeLaw" 122 ⟨"NotedVolume", "tail", "()I"⟩ ∈ xv_T := xv_in (List.mem_append_right _ (List.mem_of_getElem? (i := 207) (by decide +kernel))) (by decide +kernel)
theorem iw_208 : Cond.instanceMethod ⟨"NotedVolume", "tail", "()I"⟩ ∈ xv_T := xv_in (List.mem_append_right _ (List.mem_of_getElem? (i := 208) (by decide +kernel))) (by decide +kernel)
theorem iw_209 : Cond.selects "NotedVolume" ⟨"NotedVolume", "tail", "()I"⟩ ⟨"NotedVolume", "tail", "()I"⟩ ∈ xv_T := xv_in (List.mem_append_right _ (List.mem_of_getElem? (i := 209) (by decide +kernel))) (by decide +kernel)
theorem iw_215 : Cond.methodLink "NotedVolumeLaw" 126 ⟨"NotedVolume", "head", "()I"⟩ ∈ xv_T := xv_in (List.mem_append_right _ (List.mem_of_getElem? (i := 215) (by decide +kernel))) (by decide +kernel)
theorem iw_216 : Cond.instanceMethod ⟨"NotedVolume", "head", "()I"⟩ ∈ xv_T := xv_in (List.mem_append_right _ (List.mem_of_getElem? (i := 216) (by decide +kernel))) (by decide +kernel)
theorem iw_217 : Cond.selects "NotedVolume" ⟨"NotedVolume", "head", "()I"⟩ ⟨"NotedVolume", "head", "()I"⟩ ∈ xv_T := xv_in (List.mem_append_right _ (List.mem_of_getElem? (i := 217) (by decide +kernel))) (by decide +kernel)
theorem iw_223 : Cond.methodLink "NotedVolumeLaw" 165 ⟨"NotedVolume", "start", "()I"⟩ ∈ xv_T := xv_in (List.mem_append_right _ (List.mem_of_getElem? (i := 223) (by decide +kernel))) (by decide +kernel)
theorem iw_224 : Cond.instanceMethod ⟨"NotedVolume", "start", "()I"⟩ ∈ xv_T := xv_in (List.mem_append_right _ (List.mem_of_getElem? (i := 224) (by decide +kernel))) (by decide +kernel)
theorem iw_225 : Cond.selects "NotedVolume" ⟨"NotedVolume", "start", "()I"⟩ ⟨"NotedVolume", "start", "()I"⟩ ∈ xv_T := xv_in (List.mem_append_right _ (List.mem_of_getElem? (i := 225) (by decide +kernel))) (by decide +kernel)
theorem iw_417 : Cond.methodLink "NotedVolumeLaw" 169 ⟨"NotedVolume", "isOn", "()Z"⟩ ∈ xv_T := xv_in (List.mem_append_right _ (List.mem_of_getElem? (i := 417) (by decide +kernel))) (by decide +kernel)
theorem iw_418 : Cond.instanceMethod ⟨"NotedVolume", "isOn", "()Z"⟩ ∈ xv_T := xv_in (List.mem_append_right _ (List.mem_of_getElem? (i := 418) (by decide +kernel))) (by decide +kernel)
theorem iw_419 : Cond.selects "NotedVolume" ⟨"NotedVolume", "isOn", "()Z"⟩ ⟨"NotedVolume", "isOn", "()Z"⟩ ∈ xv_T := xv_in (List.mem_append_right _ (List.mem_of_getElem? (i := 419) (by decide +kernel))) (by decide +kernel)
theorem iw_421 : Cond.methodLink "NotedVolumeLaw" 82 ⟨"NotedVolumeLaw", "make", "(LNotedVolume;IZI[J)I"⟩ ∈ xv_T := xv_in (List.mem_append_right _ (List.mem_of_getElem? (i := 421) (by decide +kernel))) (by decide +kernel)
theorem iw_422 : Cond.static ⟨"NotedVolumeLaw", "make", "(LNotedVolume;IZI[J)I"⟩ ∈ xv_T := xv_in (List.mem_append_right _ (List.mem_of_getElem? (i := 422) (by decide +kernel))) (by decide +kernel)
theorem iw_424 : Cond.classLink "NotedVolumeLaw" 13 "java/lang/IllegalStateException" ∈ xv_T := xv_in (List.mem_append_right _ (List.mem_of_getElem? (i := 424) (by decide +kernel))) (by decide +kernel)
theorem iw_425 : Cond.classLink "NotedVolumeLaw" 15 "java/lang/IllegalArgumentException" ∈ xv_T := xv_in (List.mem_append_right _ (List.mem_of_getElem? (i := 425) (by decide +kernel))) (by decide +kernel)
theorem iw_426 : Cond.classLink "NotedVolumeLaw" 17 "java/util/NoSuchElementException" ∈ xv_T := xv_in (List.mem_append_right _ (List.mem_of_getElem? (i := 426) (by decide +kernel))) (by decide +kernel)
theorem iw_427 : Cond.classLink "NotedVolumeLaw" 19 "java/lang/UnsupportedOperationException" ∈ xv_T := xv_in (List.mem_append_right _ (List.mem_of_getElem? (i := 427) (by decide +kernel))) (by decide +kernel)
theorem iw_863 : Cond.methodLink "NotedVolumeLaw" 92 ⟨"NotedVolumeLaw", "change", "(LNotedVolume;I[J)I"⟩ ∈ xv_T := xv_in (List.mem_append_right _ (List.mem_of_getElem? (i := 863) (by decide +kernel))) (by decide +kernel)
theorem iw_864 : Cond.static ⟨"NotedVolumeLaw", "change", "(LNotedVolume;I[J)I"⟩ ∈ xv_T := xv_in (List.mem_append_right _ (List.mem_of_getElem? (i := 864) (by decide +kernel))) (by decide +kernel)
theorem iw_871 : Cond.methodLink "NotedVolumeLaw" 96 ⟨"NotedVolumeLaw", "rename", "(LNotedVolume;III[J)I"⟩ ∈ xv_T := xv_in (List.mem_append_right _ (List.mem_of_getElem? (i := 871) (by decide +kernel))) (by decide +kernel)
theorem iw_872 : Cond.static ⟨"NotedVolumeLaw", "rename", "(LNotedVolume;III[J)I"⟩ ∈ xv_T := xv_in (List.mem_append_right _ (List.mem_of_getElem? (i := 872) (by decide +kernel))) (by decide +kernel)
theorem iw_883 : Cond.methodLink "NotedVolumeLaw" 100 ⟨"NotedVolumeLaw", "remove", "(LNotedVolume;I[J)I"⟩ ∈ xv_T := xv_in (List.mem_append_right _ (List.mem_of_getElem? (i := 883) (by decide +kernel))) (by decide +kernel)
theorem iw_884 : Cond.static ⟨"NotedVolumeLaw", "remove", "(LNotedVolume;I[J)I"⟩ ∈ xv_T := xv_in (List.mem_append_right _ (List.mem_of_getElem? (i := 884) (by decide +kernel))) (by decide +kernel)
theorem iw_900 : Cond.methodLink "NotedVolumeLaw" 103 ⟨"NotedVolumeLaw", "close", "(LNotedVolume;I[J)I"⟩ ∈ xv_T := xv_in (List.mem_append_right _ (List.mem_of_getElem? (i := 900) (by decide +kernel))) (by decide +kernel)
theorem iw_901 : Cond.static ⟨"NotedVolumeLaw", "close", "(LNotedVolume;I[J)I"⟩ ∈ xv_T := xv_in (List.mem_append_right _ (List.mem_of_getElem? (i := 901) (by decide +kernel))) (by decide +kernel)
theorem iw_909 : Cond.methodLink "NotedVolumeLaw" 110 ⟨"NotedVolumeLaw", "of", "(LNotedVolume;II[J)I"⟩ ∈ xv_T := xv_in (List.mem_append_right _ (List.mem_of_getElem? (i := 909) (by decide +kernel))) (by decide +kernel)
theorem iw_910 : Cond.static ⟨"NotedVolumeLaw", "of", "(LNotedVolume;II[J)I"⟩ ∈ xv_T := xv_in (List.mem_append_right _ (List.mem_of_getElem? (i := 910) (by decide +kernel))) (by decide +kernel)
theorem iw_912 : Cond.classLink "NotedVolumeLaw" 40 "java/lang/IndexOutOfBoundsException" ∈ xv_T := xv_in (List.mem_append_right _ (List.mem_of_getElem? (i := 912) (by decide +kernel))) (by decide +kernel)
theorem iw_927 : Cond.methodLink "NotedVolumeLaw" 130 ⟨"NotedVolumeLaw", "note", "(LNotedVolume;II[J)I"⟩ ∈ xv_T := xv_in (List.mem_append_right _ (List.mem_of_getElem? (i := 927) (by decide +kernel))) (by decide +kernel)
theorem iw_928 : Cond.static ⟨"NotedVolumeLaw", "note", "(LNotedVolume;II[J)I"⟩ ∈ xv_T := xv_in (List.mem_append_right _ (List.mem_of_getElem? (i := 928) (by decide +kernel))) (by decide +kernel)
theorem iw_941 : Cond.methodLink "NotedVolumeLaw" 133 ⟨"NotedVolumeLaw", "subscribe", "(LNotedVolume;II)I"⟩ ∈ xv_T := xv_in (List.mem_append_right _ (List.mem_of_getElem? (i := 941) (by decide +kernel))) (by decide +kernel)
theorem iw_942 : Cond.static ⟨"NotedVolumeLaw", "subscribe", "(LNotedVolume;II)I"⟩ ∈ xv_T := xv_in (List.mem_append_right _ (List.mem_of_getElem? (i := 942) (by decide +kernel))) (by decide +kernel)
theorem iw_959 : Cond.methodLink "NotedVolumeLaw" 137 ⟨"NotedVolumeLaw", "cursor", "(LNotedVolume;I[J)I"⟩ ∈ xv_T := xv_in (List.mem_append_right _ (List.mem_of_getElem? (i := 959) (by decide +kernel))) (by decide +kernel)
theorem iw_960 : Cond.static ⟨"NotedVolumeLaw", "cursor", "(LNotedVolume;I[J)I"⟩ ∈ xv_T := xv_in (List.mem_append_right _ (List.mem_of_getElem? (i := 960) (by decide +kernel))) (by decide +kernel)
theorem iw_966 : Cond.methodLink "NotedVolumeLaw" 140 ⟨"NotedVolumeLaw", "read", "(LNotedVolume;I[J)I"⟩ ∈ xv_T := xv_in (List.mem_append_right _ (List.mem_of_getElem? (i := 966) (by decide +kernel))) (by decide +kernel)
theorem iw_967 : Cond.static ⟨"NotedVolumeLaw", "read", "(LNotedVolume;I[J)I"⟩ ∈ xv_T := xv_in (List.mem_append_right _ (List.mem_of_getElem? (i := 967) (by decide +kernel))) (by decide +kernel)
theorem iw_980 : Cond.methodLink "NotedVolumeLaw" 143 ⟨"NotedVolumeLaw", "list", "(LNotedVolume;I)I"⟩ ∈ xv_T := xv_in (List.mem_append_right _ (List.mem_of_getElem? (i := 980) (by decide +kernel))) (by decide +kernel)
theorem iw_981 : Cond.static ⟨"NotedVolumeLaw", "list", "(LNotedVolume;I)I"⟩ ∈ xv_T := xv_in (List.mem_append_right _ (List.mem_of_getElem? (i := 981) (by decide +kernel))) (by decide +kernel)
theorem iw_991 : Cond.methodLink "NotedVolumeLaw" 147 ⟨"NotedVolumeLaw", "page", "(LNotedVolume;I[J)I"⟩ ∈ xv_T := xv_in (List.mem_append_right _ (List.mem_of_getElem? (i := 991) (by decide +kernel))) (by decide +kernel)
theorem iw_992 : Cond.static ⟨"NotedVolumeLaw", "page", "(LNotedVolume;I[J)I"⟩ ∈ xv_T := xv_in (List.mem_append_right _ (List.mem_of_getElem? (i := 992) (by decide +kernel))) (by decide +kernel)
theorem iw_1007 : Cond.methodLink "NotedVolumeLaw" 150 ⟨"NotedVolumeLaw", "shown", "(LNotedVolume;II[J)I"⟩ ∈ xv_T := xv_in (List.mem_append_right _ (List.mem_of_getElem? (i := 1007) (by decide +kernel))) (by decide +kernel)
theorem iw_1008 : Cond.static ⟨"NotedVolumeLaw", "shown", "(LNotedVolume;II[J)I"⟩ ∈ xv_T := xv_in (List.mem_append_right _ (List.mem_of_getElem? (i := 1008) (by decide +kernel))) (by decide +kernel)
theorem iw_1014 : Cond.methodLink "NotedVolumeLaw" 153 ⟨"NotedVolumeLaw", "follow", "(LNotedVolume;II[J)I"⟩ ∈ xv_T := xv_in (List.mem_append_right _ (List.mem_of_getElem? (i := 1014) (by decide +kernel))) (by decide +kernel)
theorem iw_1015 : Cond.static ⟨"NotedVolumeLaw", "follow", "(LNotedVolume;II[J)I"⟩ ∈ xv_T := xv_in (List.mem_append_right _ (List.mem_of_getElem? (i := 1015) (by decide +kernel))) (by decide +kernel)
theorem iw_1049 : Cond.methodLink "NotedVolumeLaw" 156 ⟨"NotedVolumeLaw", "copied", "(LNotedVolume;III[J)I"⟩ ∈ xv_T := xv_in (List.mem_append_right _ (List.mem_of_getElem? (i := 1049) (by decide +kernel))) (by decide +kernel)
theorem iw_1050 : Cond.static ⟨"NotedVolumeLaw", "copied", "(LNotedVolume;III[J)I"⟩ ∈ xv_T := xv_in (List.mem_append_right _ (List.mem_of_getElem? (i := 1050) (by decide +kernel))) (by decide +kernel)
theorem iw_1057 : Cond.methodLink "NotedVolumeLaw" 159 ⟨"NotedVolumeLaw", "inStep", "(LNotedVolume;I[J)I"⟩ ∈ xv_T := xv_in (List.mem_append_right _ (List.mem_of_getElem? (i := 1057) (by decide +kernel))) (by decide +kernel)
theorem iw_1058 : Cond.static ⟨"NotedVolumeLaw", "inStep", "(LNotedVolume;I[J)I"⟩ ∈ xv_T := xv_in (List.mem_append_right _ (List.mem_of_getElem? (i := 1058) (by decide +kernel))) (by decide +kernel)
theorem iw_1072 : Cond.methodLink "NotedVolumeLaw" 162 ⟨"NotedVolumeLaw", "cutAfter", "(LNotedVolume;I)I"⟩ ∈ xv_T := xv_in (List.mem_append_right _ (List.mem_of_getElem? (i := 1072) (by decide +kernel))) (by decide +kernel)
theorem iw_1073 : Cond.static ⟨"NotedVolumeLaw", "cutAfter", "(LNotedVolume;I)I"⟩ ∈ xv_T := xv_in (List.mem_append_right _ (List.mem_of_getElem? (i := 1073) (by decide +kernel))) (by decide +kernel)
theorem iw_1080 : Cond.classLink "NotedVolumeLaw" 79 "NotedVolumeModel" ∈ xv_T := xv_in (List.mem_append_right _ (List.mem_of_getElem? (i := 1080) (by decide +kernel))) (by decide +kernel)
theorem iw_1081 : Cond.instantiable "NotedVolumeModel" 28 ∈ xv_T := xv_in (List.mem_append_right _ (List.mem_of_getElem? (i := 1081) (by decide +kernel))) (by decide +kernel)
theorem iw_1082 : Cond.methodLink "NotedVolumeLaw" 81 ⟨"NotedVolumeModel", "<init>", "()V"⟩ ∈ xv_T := xv_in (List.mem_append_right _ (List.mem_of_getElem? (i := 1082) (by decide +kernel))) (by decide +kernel)
theorem iw_1083 : Cond.instanceMethod ⟨"NotedVolumeModel", "<init>", "()V"⟩ ∈ xv_T := xv_in (List.mem_append_right _ (List.mem_of_getElem? (i := 1083) (by decide +kernel))) (by decide +kernel)
theorem iw_1172 : Cond.methodLink "NotedVolumeLaw" 88 ⟨"NotedVolumeModel", "thrown", "()I"⟩ ∈ xv_T := xv_in (List.mem_append_right _ (List.mem_of_getElem? (i := 1172) (by decide +kernel))) (by decide +kernel)
theorem iw_1173 : Cond.instanceMethod ⟨"NotedVolumeModel", "thrown", "()I"⟩ ∈ xv_T := xv_in (List.mem_append_right _ (List.mem_of_getElem? (i := 1173) (by decide +kernel))) (by decide +kernel)
theorem iw_1174 : Cond.selects "NotedVolumeModel" ⟨"NotedVolumeModel", "thrown", "()I"⟩ ⟨"NotedVolumeModel", "thrown", "()I"⟩ ∈ xv_T := xv_in (List.mem_append_right _ (List.mem_of_getElem? (i := 1174) (by decide +kernel))) (by decide +kernel)
theorem iw_1176 : Cond.methodLink "NotedVolumeLaw" 87 ⟨"NotedVolumeModel", "make", "(IZI)I"⟩ ∈ xv_T := xv_in (List.mem_append_right _ (List.mem_of_getElem? (i := 1176) (by decide +kernel))) (by decide +kernel)
theorem iw_1177 : Cond.instanceMethod ⟨"NotedVolumeModel", "make", "(IZI)I"⟩ ∈ xv_T := xv_in (List.mem_append_right _ (List.mem_of_getElem? (i := 1177) (by decide +kernel))) (by decide +kernel)
theorem iw_1178 : Cond.selects "NotedVolumeModel" ⟨"NotedVolumeModel", "make", "(IZI)I"⟩ ⟨"NotedVolumeModel", "make", "(IZI)I"⟩ ∈ xv_T := xv_in (List.mem_append_right _ (List.mem_of_getElem? (i := 1178) (by decide +kernel))) (by decide +kernel)
theorem iw_1228 : Cond.methodLink "NotedVolumeLaw" 95 ⟨"NotedVolumeModel", "change", "(I)I"⟩ ∈ xv_T := xv_in (List.mem_append_right _ (List.mem_of_getElem? (i := 1228) (by decide +kernel))) (by decide +kernel)
theorem iw_1229 : Cond.instanceMethod ⟨"NotedVolumeModel", "change", "(I)I"⟩ ∈ xv_T := xv_in (List.mem_append_right _ (List.mem_of_getElem? (i := 1229) (by decide +kernel))) (by decide +kernel)
theorem iw_1230 : Cond.selects "NotedVolumeModel" ⟨"NotedVolumeModel", "change", "(I)I"⟩ ⟨"NotedVolumeModel", "change", "(I)I"⟩ ∈ xv_T := xv_in (List.mem_append_right _ (List.mem_of_getElem? (i := 1230) (by decide +kernel))) (by decide +kernel)
theorem iw_1232 : Cond.methodLink "NotedVolumeLaw" 99 ⟨"NotedVolumeModel", "rename", "(III)Z"⟩ ∈ xv_T := xv_in (List.mem_append_right _ (List.mem_of_getElem? (i := 1232) (by decide +kernel))) (by decide +kernel)
theorem iw_1233 : Cond.instanceMethod ⟨"NotedVolumeModel", "rename", "(III)Z"⟩ ∈ xv_T := xv_in (List.mem_append_right _ (List.mem_of_getElem? (i := 1233) (by decide +kernel))) (by decide +kernel)
theorem iw_1234 : Cond.selects "NotedVolumeModel" ⟨"NotedVolumeModel", "rename", "(III)Z"⟩ ⟨"NotedVolumeModel", "rename", "(III)Z"⟩ ∈ xv_T := xv_in (List.mem_append_right _ (List.mem_of_getElem? (i := 1234) (by decide +kernel))) (by decide +kernel)
theorem iw_1240 : Cond.methodLink "NotedVolumeLaw" 102 ⟨"NotedVolumeModel", "remove", "(I)Z"⟩ ∈ xv_T := xv_in (List.mem_append_right _ (List.mem_of_getElem? (i := 1240) (by decide +kernel))) (by decide +kernel)
theorem iw_1241 : Cond.instanceMethod ⟨"NotedVolumeModel", "remove", "(I)Z"⟩ ∈ xv_T := xv_in (List.mem_append_right _ (List.mem_of_getElem? (i := 1241) (by decide +kernel))) (by decide +kernel)
theorem iw_1242 : Cond.selects "NotedVolumeModel" ⟨"NotedVolumeModel", "remove", "(I)Z"⟩ ⟨"NotedVolumeModel", "remove", "(I)Z"⟩ ∈ xv_T := xv_in (List.mem_append_right _ (List.mem_of_getElem? (i := 1242) (by decide +kernel))) (by decide +kernel)
theorem iw_1248 : Cond.methodLink "NotedVolumeLaw" 105 ⟨"NotedVolumeModel", "close", "(I)Z"⟩ ∈ xv_T := xv_in (List.mem_append_right _ (List.mem_of_getElem? (i := 1248) (by decide +kernel))) (by decide +kernel)
theorem iw_1249 : Cond.instanceMethod ⟨"NotedVolumeModel", "close", "(I)Z"⟩ ∈ xv_T := xv_in (List.mem_append_right _ (List.mem_of_getElem? (i := 1249) (by decide +kernel))) (by decide +kernel)
theorem iw_1250 : Cond.selects "NotedVolumeModel" ⟨"NotedVolumeModel", "close", "(I)Z"⟩ ⟨"NotedVolumeModel", "close", "(I)Z"⟩ ∈ xv_T := xv_in (List.mem_append_right _ (List.mem_of_getElem? (i := 1250) (by decide +kernel))) (by decide +kernel)
theorem iw_1252 : Cond.methodLink "NotedVolumeLaw" 109 ⟨"NotedVolumeModel", "open", "()I"⟩ ∈ xv_T := xv_in (List.mem_append_right _ (List.mem_of_getElem? (i := 1252) (by decide +kernel))) (by decide +kernel)
theorem iw_1253 : Cond.instanceMethod ⟨"NotedVolumeModel", "open", "()I"⟩ ∈ xv_T := xv_in (List.mem_append_right _ (List.mem_of_getElem? (i := 1253) (by decide +kernel))) (by decide +kernel)
theorem iw_1254 : Cond.selects "NotedVolumeModel" ⟨"NotedVolumeModel", "open", "()I"⟩ ⟨"NotedVolumeModel", "open", "()I"⟩ ∈ xv_T := xv_in (List.mem_append_right _ (List.mem_of_getElem? (i := 1254) (by decide +kernel))) (by decide +kernel)
theorem iw_1256 : Cond.methodLink "NotedVolumeLaw" 113 ⟨"NotedVolumeModel", "of", "(II)I"⟩ ∈ xv_T := xv_in (List.mem_append_right _ (List.mem_of_getElem? (i := 1256) (by decide +kernel))) (by decide +kernel)
theorem iw_1257 : Cond.instanceMethod ⟨"NotedVolumeModel", "of", "(II)I"⟩ ∈ xv_T := xv_in (List.mem_append_right _ (List.mem_of_getElem? (i := 1257) (by decide +kernel))) (by decide +kernel)
theorem iw_1258 : Cond.selects "NotedVolumeModel" ⟨"NotedVolumeModel", "of", "(II)I"⟩ ⟨"NotedVolumeModel", "of", "(II)I"⟩ ∈ xv_T := xv_in (List.mem_append_right _ (List.mem_of_getElem? (i := 1258) (by decide +kernel))) (by decide +kernel)
theorem iw_1260 : Cond.methodLink "NotedVolumeLaw" 117 ⟨"NotedVolumeModel", "find", "(II)I"⟩ ∈ xv_T := xv_in (List.mem_append_right _ (List.mem_of_getElem? (i := 1260) (by decide +kernel))) (by decide +kernel)
theorem iw_1261 : Cond.instanceMethod ⟨"NotedVolumeModel", "find", "(II)I"⟩ ∈ xv_T := xv_in (List.mem_append_right _ (List.mem_of_getElem? (i := 1261) (by decide +kernel))) (by decide +kernel)
theorem iw_1262 : Cond.selects "NotedVolumeModel" ⟨"NotedVolumeModel", "find", "(II)I"⟩ ⟨"NotedVolumeModel", "find", "(II)I"⟩ ∈ xv_T := xv_in (List.mem_append_right _ (List.mem_of_getElem? (i := 1262) (by decide +kernel))) (by decide +kernel)
theorem iw_1264 : Cond.methodLink "NotedVolumeLaw" 121 ⟨"NotedVolumeModel", "live", "()I"⟩ ∈ xv_T := xv_in (List.mem_append_right _ (List.mem_of_getElem? (i := 1264) (by decide +kernel))) (by decide +kernel)
theorem iw_1265 : Cond.instanceMethod ⟨"NotedVolumeModel", "live", "()I"⟩ ∈ xv_T := xv_in (List.mem_append_right _ (List.mem_of_getElem? (i := 1265) (by decide +kernel))) (by decide +kernel)
theorem iw_1266 : Cond.selects "NotedVolumeModel" ⟨"NotedVolumeModel", "live", "()I"⟩ ⟨"NotedVolumeModel", "live", "()I"⟩ ∈ xv_T := xv_in (List.mem_append_right _ (List.mem_of_getElem? (i := 1266) (by decide +kernel))) (by decide +kernel)
theorem iw_1268 : Cond.methodLink "NotedVolumeLaw" 125 ⟨"NotedVolumeModel", "tail", "()I"⟩ ∈ xv_T := xv_in (List.mem_append_right _ (List.mem_of_getElem? (i := 1268) (by decide +kernel))) (by decide +kernel)
theorem iw_1269 : Cond.instanceMethod ⟨"NotedVolumeModel", "tail", "()I"⟩ ∈ xv_T := xv_in (List.mem_append_right _ (List.mem_of_getElem? (i := 1269) (by decide +kernel))) (by decide +kernel)
theorem iw_1270 : Cond.selects "NotedVolumeModel" ⟨"NotedVolumeModel", "tail", "()I"⟩ ⟨"NotedVolumeModel", "tail", "()I"⟩ ∈ xv_T := xv_in (List.mem_append_right _ (List.mem_of_getElem? (i := 1270) (by decide +kernel))) (by decide +kernel)
theorem iw_1276 : Cond.methodLink "NotedVolumeLaw" 129 ⟨"NotedVolumeModel", "head", "()I"⟩ ∈ xv_T := xv_in (List.mem_append_right _ (List.mem_of_getElem? (i := 1276) (by decide +kernel))) (by decide +kernel)
theorem iw_1277 : Cond.instanceMethod ⟨"NotedVolumeModel", "head", "()I"⟩ ∈ xv_T := xv_in (List.mem_append_right _ (List.mem_of_getElem? (i := 1277) (by decide +kernel))) (by decide +kernel)
theorem iw_1278 : Cond.selects "NotedVolumeModel" ⟨"NotedVolumeModel", "head", "()I"⟩ ⟨"NotedVolumeModel", "head", "()I"⟩ ∈ xv_T := xv_in (List.mem_append_right _ (List.mem_of_getElem? (i := 1278) (by decide +kernel))) (by decide +kernel)
theorem iw_1280 : Cond.methodLink "NotedVolumeLaw" 132 ⟨"NotedVolumeModel", "note", "(II)I"⟩ ∈ xv_T := xv_in (List.mem_append_right _ (List.mem_of_getElem? (i := 1280) (by decide +kernel))) (by decide +kernel)
theorem iw_1281 : Cond.instanceMethod ⟨"NotedVolumeModel", "note", "(II)I"⟩ ∈ xv_T := xv_in (List.mem_append_right _ (List.mem_of_getElem? (i := 1281) (by decide +kernel))) (by decide +kernel)
theorem iw_1282 : Cond.selects "NotedVolumeModel" ⟨"NotedVolumeModel", "note", "(II)I"⟩ ⟨"NotedVolumeModel", "note", "(II)I"⟩ ∈ xv_T := xv_in (List.mem_append_right _ (List.mem_of_getElem? (i := 1282) (by decide +kernel))) (by decide +kernel)
theorem iw_1284 : Cond.methodLink "NotedVolumeLaw" 136 ⟨"NotedVolumeModel", "subscribe", "(II)V"⟩ ∈ xv_T := xv_in (List.mem_append_right _ (List.mem_of_getElem? (i := 1284) (by decide +kernel))) (by decide +kernel)
theorem iw_1285 : Cond.instanceMethod ⟨"NotedVolumeModel", "subscribe", "(II)V"⟩ ∈ xv_T := xv_in (List.mem_append_right _ (List.mem_of_getElem? (i := 1285) (by decide +kernel))) (by decide +kernel)
theorem iw_1286 : Cond.selects "NotedVolumeModel" ⟨"NotedVolumeModel", "subscribe", "(II)V"⟩ ⟨"NotedVolumeModel", "subscribe", "(II)V"⟩ ∈ xv_T := xv_in (List.mem_append_right _ (List.mem_of_getElem? (i := 1286) (by decide +kernel))) (by decide +kernel)
theorem iw_1291 : Cond.methodLink "NotedVolumeLaw" 139 ⟨"NotedVolumeModel", "cursor", "(I)I"⟩ ∈ xv_T := xv_in (List.mem_append_right _ (List.mem_of_getElem? (i := 1291) (by decide +kernel))) (by decide +kernel)
theorem iw_1292 : Cond.instanceMethod ⟨"NotedVolumeModel", "cursor", "(I)I"⟩ ∈ xv_T := xv_in (List.mem_append_right _ (List.mem_of_getElem? (i := 1292) (by decide +kernel))) (by decide +kernel)
theorem iw_1293 : Cond.selects "NotedVolumeModel" ⟨"NotedVolumeModel", "cursor", "(I)I"⟩ ⟨"NotedVolumeModel", "cursor", "(I)I"⟩ ∈ xv_T := xv_in (List.mem_append_right _ (List.mem_of_getElem? (i := 1293) (by decide +kernel))) (by decide +kernel)
theorem iw_1295 : Cond.methodLink "NotedVolumeLaw" 142 ⟨"NotedVolumeModel", "read", "(I)I"⟩ ∈ xv_T := xv_in (List.mem_append_right _ (List.mem_of_getElem? (i := 1295) (by decide +kernel))) (by decide +kernel)
theorem iw_1296 : Cond.instanceMethod ⟨"NotedVolumeModel", "read", "(I)I"⟩ ∈ xv_T := xv_in (List.mem_append_right _ (List.mem_of_getElem? (i := 1296) (by decide +kernel))) (by decide +kernel)
theorem iw_1297 : Cond.selects "NotedVolumeModel" ⟨"NotedVolumeModel", "read", "(I)I"⟩ ⟨"NotedVolumeModel", "read", "(I)I"⟩ ∈ xv_T := xv_in (List.mem_append_right _ (List.mem_of_getElem? (i := 1297) (by decide +kernel))) (by decide +kernel)
theorem iw_1303 : Cond.methodLink "NotedVolumeLaw" 146 ⟨"NotedVolumeModel", "list", "(I)V"⟩ ∈ xv_T := xv_in (List.mem_append_right _ (List.mem_of_getElem? (i := 1303) (by decide +kernel))) (by decide +kernel)
theorem iw_1304 : Cond.instanceMethod ⟨"NotedVolumeModel", "list", "(I)V"⟩ ∈ xv_T := xv_in (List.mem_append_right _ (List.mem_of_getElem? (i := 1304) (by decide +kernel))) (by decide +kernel)
theorem iw_1305 : Cond.selects "NotedVolumeModel" ⟨"NotedVolumeModel", "list", "(I)V"⟩ ⟨"NotedVolumeModel", "list", "(I)V"⟩ ∈ xv_T := xv_in (List.mem_append_right _ (List.mem_of_getElem? (i := 1305) (by decide +kernel))) (by decide +kernel)
theorem iw_1311 : Cond.methodLink "NotedVolumeLaw" 149 ⟨"NotedVolumeModel", "page", "(I)I"⟩ ∈ xv_T := xv_in (List.mem_append_right _ (List.mem_of_getElem? (i := 1311) (by decide +kernel))) (by decide +kernel)
theorem iw_1312 : Cond.instanceMethod ⟨"NotedVolumeModel", "page", "(I)I"⟩ ∈ xv_T := xv_in (List.mem_append_right _ (List.mem_of_getElem? (i := 1312) (by decide +kernel))) (by decide +kernel)
theorem iw_1313 : Cond.selects "NotedVolumeModel" ⟨"NotedVolumeModel", "page", "(I)I"⟩ ⟨"NotedVolumeModel", "page", "(I)I"⟩ ∈ xv_T := xv_in (List.mem_append_right _ (List.mem_of_getElem? (i := 1313) (by decide +kernel))) (by decide +kernel)
theorem iw_1323 : Cond.methodLink "NotedVolumeLaw" 152 ⟨"NotedVolumeModel", "shown", "(II)I"⟩ ∈ xv_T := xv_in (List.mem_append_right _ (List.mem_of_getElem? (i := 1323) (by decide +kernel))) (by decide +kernel)
theorem iw_1324 : Cond.instanceMethod ⟨"NotedVolumeModel", "shown", "(II)I"⟩ ∈ xv_T := xv_in (List.mem_append_right _ (List.mem_of_getElem? (i := 1324) (by decide +kernel))) (by decide +kernel)
theorem iw_1325 : Cond.selects "NotedVolumeModel" ⟨"NotedVolumeModel", "shown", "(II)I"⟩ ⟨"NotedVolumeModel", "shown", "(II)I"⟩ ∈ xv_T := xv_in (List.mem_append_right _ (List.mem_of_getElem? (i := 1325) (by decide +kernel))) (by decide +kernel)
theorem iw_1327 : Cond.methodLink "NotedVolumeLaw" 155 ⟨"NotedVolumeModel", "follow", "(II)I"⟩ ∈ xv_T := xv_in (List.mem_append_right _ (List.mem_of_getElem? (i := 1327) (by decide +kernel))) (by decide +kernel)
theorem iw_1328 : Cond.instanceMethod ⟨"NotedVolumeModel", "follow", "(II)I"⟩ ∈ xv_T := xv_in (List.mem_append_right _ (List.mem_of_getElem? (i := 1328) (by decide +kernel))) (by decide +kernel)
theorem iw_1329 : Cond.selects "NotedVolumeModel" ⟨"NotedVolumeModel", "follow", "(II)I"⟩ ⟨"NotedVolumeModel", "follow", "(II)I"⟩ ∈ xv_T := xv_in (List.mem_append_right _ (List.mem_of_getElem? (i := 1329) (by decide +kernel))) (by decide +kernel)
theorem iw_1359 : Cond.methodLink "NotedVolumeLaw" 158 ⟨"NotedVolumeModel", "copied", "(III)I"⟩ ∈ xv_T := xv_in (List.mem_append_right _ (List.mem_of_getElem? (i := 1359) (by decide +kernel))) (by decide +kernel)
theorem iw_1360 : Cond.instanceMethod ⟨"NotedVolumeModel", "copied", "(III)I"⟩ ∈ xv_T := xv_in (List.mem_append_right _ (List.mem_of_getElem? (i := 1360) (by decide +kernel))) (by decide +kernel)
theorem iw_1361 : Cond.selects "NotedVolumeModel" ⟨"NotedVolumeModel", "copied", "(III)I"⟩ ⟨"NotedVolumeModel", "copied", "(III)I"⟩ ∈ xv_T := xv_in (List.mem_append_right _ (List.mem_of_getElem? (i := 1361) (by decide +kernel))) (by decide +kernel)
theorem iw_1363 : Cond.methodLink "NotedVolumeLaw" 161 ⟨"NotedVolumeModel", "inStep", "(I)Z"⟩ ∈ xv_T := xv_in (List.mem_append_right _ (List.mem_of_getElem? (i := 1363) (by decide +kernel))) (by decide +kernel)
theorem iw_1364 : Cond.instanceMethod ⟨"NotedVolumeModel", "inStep", "(I)Z"⟩ ∈ xv_T := xv_in (List.mem_append_right _ (List.mem_of_getElem? (i := 1364) (by decide +kernel))) (by decide +kernel)
theorem iw_1365 : Cond.selects "NotedVolumeModel" ⟨"NotedVolumeModel", "inStep", "(I)Z"⟩ ⟨"NotedVolumeModel", "inStep", "(I)Z"⟩ ∈ xv_T := xv_in (List.mem_append_right _ (List.mem_of_getElem? (i := 1365) (by decide +kernel))) (by decide +kernel)
theorem iw_1367 : Cond.methodLink "NotedVolumeLaw" 164 ⟨"NotedVolumeModel", "cutAfter", "(I)V"⟩ ∈ xv_T := xv_in (List.mem_append_right _ (List.mem_of_getElem? (i := 1367) (by decide +kernel))) (by decide +kernel)
theorem iw_1368 : Cond.instanceMethod ⟨"NotedVolumeModel", "cutAfter", "(I)V"⟩ ∈ xv_T := xv_in (List.mem_append_right _ (List.mem_of_getElem? (i := 1368) (by decide +kernel))) (by decide +kernel)
theorem iw_1369 : Cond.selects "NotedVolumeModel" ⟨"NotedVolumeModel", "cutAfter", "(I)V"⟩ ⟨"NotedVolumeModel", "cutAfter", "(I)V"⟩ ∈ xv_T := xv_in (List.mem_append_right _ (List.mem_of_getElem? (i := 1369) (by decide +kernel))) (by decide +kernel)
theorem iw_1371 : Cond.methodLink "NotedVolumeLaw" 168 ⟨"NotedVolumeModel", "start", "()I"⟩ ∈ xv_T := xv_in (List.mem_append_right _ (List.mem_of_getElem? (i := 1371) (by decide +kernel))) (by decide +kernel)
theorem iw_1372 : Cond.instanceMethod ⟨"NotedVolumeModel", "start", "()I"⟩ ∈ xv_T := xv_in (List.mem_append_right _ (List.mem_of_getElem? (i := 1372) (by decide +kernel))) (by decide +kernel)
theorem iw_1373 : Cond.selects "NotedVolumeModel" ⟨"NotedVolumeModel", "start", "()I"⟩ ⟨"NotedVolumeModel", "start", "()I"⟩ ∈ xv_T := xv_in (List.mem_append_right _ (List.mem_of_getElem? (i := 1373) (by decide +kernel))) (by decide +kernel)
theorem iw_1383 : Cond.methodLink "NotedVolumeLaw" 173 ⟨"NotedVolumeModel", "isOn", "()Z"⟩ ∈ xv_T := xv_in (List.mem_append_right _ (List.mem_of_getElem? (i := 1383) (by decide +kernel))) (by decide +kernel)
theorem iw_1384 : Cond.instanceMethod ⟨"NotedVolumeModel", "isOn", "()Z"⟩ ∈ xv_T := xv_in (List.mem_append_right _ (List.mem_of_getElem? (i := 1384) (by decide +kernel))) (by decide +kernel)
theorem iw_1385 : Cond.selects "NotedVolumeModel" ⟨"NotedVolumeModel", "isOn", "()Z"⟩ ⟨"NotedVolumeModel", "isOn", "()Z"⟩ ∈ xv_T := xv_in (List.mem_append_right _ (List.mem_of_getElem? (i := 1385) (by decide +kernel))) (by decide +kernel)
theorem iw_1387 : Cond.arrayClass .long ∈ xv_T := xv_in (List.mem_append_right _ (List.mem_of_getElem? (i := 1387) (by decide +kernel))) (by decide +kernel)
def mm_L_law : xa_M := (⟨"NotedVolumeLaw", "law", "([I)Z"⟩, code, 7, some .boolean, [])
theorem dd_L_law_0 : decode mm_L_law.2.1 0 = .ok (.new 8, 3) := by decide +kernel
theorem dd_L_law_3 : decode mm_L_law.2.1 3 = .ok (.dup, 1) := by decide +kernel
theorem dd_L_law_4 : decode mm_L_law.2.1 4 = .ok (.invokespecial 78, 3) := by decide +kernel
theorem dd_L_law_7 : decode mm_L_law.2.1 7 = .ok (.astore_n 1, 1) := by decide +kernel
theorem dd_L_law_8 : decode mm_L_law.2.1 8 = .ok (.new 79, 3) := by decide +kernel
theorem dd_L_law_11 : decode mm_L_law.2.1 11 = .ok (.dup, 1) := by decide +kernel
theorem dd_L_law_12 : decode mm_L_law.2.1 12 = .ok (.invokespecial 81, 3) := by decide +kernel
theorem dd_L_law_15 : decode mm_L_law.2.1 15 = .ok (.astore_n 2, 1) := by decide +kernel
theorem dd_L_law_16 : decode mm_L_law.2.1 16 = .ok (.iconst 1, 1) := by decide +kernel
theorem dd_L_law_17 : decode mm_L_law.2.1 17 = .ok (.newarray .long, 2) := by decide +kernel
theorem dd_L_law_19 : decode mm_L_law.2.1 19 = .ok (.astore_n 3, 1) := by decide +kernel
theorem dd_L_law_20 : decode mm_L_law.2.1 20 = .ok (.iconst 0, 1) := by decide +kernel
theorem dd_L_law_21 : decode mm_L_law.2.1 21 = .ok (.istore 4, 2) := by decide +kernel
theorem dd_L_law_23 : decode mm_L_law.2.1 23 = .ok (.iload 4, 2) := by decide +kernel
theorem dd_L_law_25 : decode mm_L_law.2.1 25 = .ok (.aload_n 0, 1) := by decide +kernel
theorem dd_L_law_26 : decode mm_L_law.2.1 26 = .ok (.arraylength, 1) := by decide +kernel
theorem dd_L_law_27 : decode mm_L_law.2.1 27 = .ok (.iconst 4, 1) := by decide +kernel
theorem dd_L_law_28 : decode mm_L_law.2.1 28 = .ok (.isub, 1) := by decide +kernel
theorem dd_L_law_29 : decode mm_L_law.2.1 29 = .ok (.if_icmp .gt 1308, 3) := by decide +kernel
theorem dd_L_law_32 : decode mm_L_law.2.1 32 = .ok (.aload_n 0, 1) := by decide +kernel
theorem dd_L_law_33 : decode mm_L_law.2.1 33 = .ok (.iload 4, 2) := by decide +kernel
theorem dd_L_law_35 : decode mm_L_law.2.1 35 = .ok (.iaload, 1) := by decide +kernel
theorem dd_L_law_36 : decode mm_L_law.2.1 36 = .ok (.bipush 31, 2) := by decide +kernel
theorem dd_L_law_38 : decode mm_L_law.2.1 38 = .ok (.iand, 1) := by decide +kernel
theorem dd_L_law_39 : decode mm_L_law.2.1 39 = .ok (.tableswitch 1292 0 23 #[109, 205, 261, 348, 411, 474, 487, 555, 592, 605, 618, 631, 699, 747, 803, 859, 895, 951, 1019, 1087, 1167, 1230, 1266, 1279], 109) := by decide +kernel
theorem dd_L_law_148 : decode mm_L_law.2.1 148 = .ok (.aload_n 1, 1) := by decide +kernel
theorem dd_L_law_149 : decode mm_L_law.2.1 149 = .ok (.aload_n 0, 1) := by decide +kernel
theorem dd_L_law_150 : decode mm_L_law.2.1 150 = .ok (.iload 4, 2) := by decide +kernel
theorem dd_L_law_152 : decode mm_L_law.2.1 152 = .ok (.iconst 1, 1) := by decide +kernel
theorem dd_L_law_153 : decode mm_L_law.2.1 153 = .ok (.iadd, 1) := by decide +kernel
theorem dd_L_law_154 : decode mm_L_law.2.1 154 = .ok (.iaload, 1) := by decide +kernel
theorem dd_L_law_155 : decode mm_L_law.2.1 155 = .ok (.aload_n 0, 1) := by decide +kernel
theorem dd_L_law_156 : decode mm_L_law.2.1 156 = .ok (.iload 4, 2) := by decide +kernel
theorem dd_L_law_158 : decode mm_L_law.2.1 158 = .ok (.iconst 2, 1) := by decide +kernel
theorem dd_L_law_159 : decode mm_L_law.2.1 159 = .ok (.iadd, 1) := by decide +kernel
theorem dd_L_law_160 : decode mm_L_law.2.1 160 = .ok (.iaload, 1) := by decide +kernel
theorem dd_L_law_161 : decode mm_L_law.2.1 161 = .ok (.ifCond .eq 7, 3) := by decide +kernel
theorem dd_L_law_164 : decode mm_L_law.2.1 164 = .ok (.iconst 1, 1) := by decide +kernel
theorem dd_L_law_165 : decode mm_L_law.2.1 165 = .ok (.goto 4, 3) := by decide +kernel
theorem dd_L_law_168 : decode mm_L_law.2.1 168 = .ok (.iconst 0, 1) := by decide +kernel
theorem dd_L_law_169 : decode mm_L_law.2.1 169 = .ok (.aload_n 0, 1) := by decide +kernel
theorem dd_L_law_170 : decode mm_L_law.2.1 170 = .ok (.iload 4, 2) := by decide +kernel
theorem dd_L_law_172 : decode mm_L_law.2.1 172 = .ok (.iconst 3, 1) := by decide +kernel
theorem dd_L_law_173 : decode mm_L_law.2.1 173 = .ok (.iadd, 1) := by decide +kernel
theorem dd_L_law_174 : decode mm_L_law.2.1 174 = .ok (.iaload, 1) := by decide +kernel
theorem dd_L_law_175 : decode mm_L_law.2.1 175 = .ok (.aload_n 3, 1) := by decide +kernel
theorem dd_L_law_176 : decode mm_L_law.2.1 176 = .ok (.invokestatic 82, 3) := by decide +kernel
theorem dd_L_law_179 : decode mm_L_law.2.1 179 = .ok (.istore 5, 2) := by decide +kernel
theorem dd_L_law_181 : decode mm_L_law.2.1 181 = .ok (.aload_n 2, 1) := by decide +kernel
theorem dd_L_law_182 : decode mm_L_law.2.1 182 = .ok (.aload_n 0, 1) := by decide +kernel
theorem dd_L_law_183 : decode mm_L_law.2.1 183 = .ok (.iload 4, 2) := by decide +kernel
theorem dd_L_law_185 : decode mm_L_law.2.1 185 = .ok (.iconst 1, 1) := by decide +kernel
theorem dd_L_law_186 : decode mm_L_law.2.1 186 = .ok (.iadd, 1) := by decide +kernel
theorem dd_L_law_187 : decode mm_L_law.2.1 187 = .ok (.iaload, 1) := by decide +kernel
theorem dd_L_law_188 : decode mm_L_law.2.1 188 = .ok (.aload_n 0, 1) := by decide +kernel
theorem dd_L_law_189 : decode mm_L_law.2.1 189 = .ok (.iload 4, 2) := by decide +kernel
theorem dd_L_law_191 : decode mm_L_law.2.1 191 = .ok (.iconst 2, 1) := by decide +kernel
theorem dd_L_law_192 : decode mm_L_law.2.1 192 = .ok (.iadd, 1) := by decide +kernel
theorem dd_L_law_193 : decode mm_L_law.2.1 193 = .ok (.iaload, 1) := by decide +kernel
theorem dd_L_law_194 : decode mm_L_law.2.1 194 = .ok (.ifCond .eq 7, 3) := by decide +kernel
theorem dd_L_law_197 : decode mm_L_law.2.1 197 = .ok (.iconst 1, 1) := by decide +kernel
theorem dd_L_law_198 : decode mm_L_law.2.1 198 = .ok (.goto 4, 3) := by decide +kernel
theorem dd_L_law_201 : decode mm_L_law.2.1 201 = .ok (.iconst 0, 1) := by decide +kernel
theorem dd_L_law_202 : decode mm_L_law.2.1 202 = .ok (.aload_n 0, 1) := by decide +kernel
theorem dd_L_law_203 : decode mm_L_law.2.1 203 = .ok (.iload 4, 2) := by decide +kernel
theorem dd_L_law_205 : decode mm_L_law.2.1 205 = .ok (.iconst 3, 1) := by decide +kernel
theorem dd_L_law_206 : decode mm_L_law.2.1 206 = .ok (.iadd, 1) := by decide +kernel
theorem dd_L_law_207 : decode mm_L_law.2.1 207 = .ok (.iaload, 1) := by decide +kernel
theorem dd_L_law_208 : decode mm_L_law.2.1 208 = .ok (.invokevirtual 87, 3) := by decide +kernel
theorem dd_L_law_211 : decode mm_L_law.2.1 211 = .ok (.istore 6, 2) := by decide +kernel
theorem dd_L_law_213 : decode mm_L_law.2.1 213 = .ok (.aload_n 2, 1) := by decide +kernel
theorem dd_L_law_214 : decode mm_L_law.2.1 214 = .ok (.invokevirtual 88, 3) := by decide +kernel
theorem dd_L_law_217 : decode mm_L_law.2.1 217 = .ok (.iload 5, 2) := by decide +kernel
theorem dd_L_law_219 : decode mm_L_law.2.1 219 = .ok (.if_icmp .eq 5, 3) := by decide +kernel
theorem dd_L_law_222 : decode mm_L_law.2.1 222 = .ok (.iconst 0, 1) := by decide +kernel
theorem dd_L_law_223 : decode mm_L_law.2.1 223 = .ok (.ireturn, 1) := by decide +kernel
theorem dd_L_law_224 : decode mm_L_law.2.1 224 = .ok (.iload 5, 2) := by decide +kernel
theorem dd_L_law_226 : decode mm_L_law.2.1 226 = .ok (.ifCond .ne 15, 3) := by decide +kernel
theorem dd_L_law_229 : decode mm_L_law.2.1 229 = .ok (.aload_n 3, 1) := by decide +kernel
theorem dd_L_law_230 : decode mm_L_law.2.1 230 = .ok (.iconst 0, 1) := by decide +kernel
theorem dd_L_law_231 : decode mm_L_law.2.1 231 = .ok (.laload, 1) := by decide +kernel
theorem dd_L_law_232 : decode mm_L_law.2.1 232 = .ok (.iload 6, 2) := by decide +kernel
theorem dd_L_law_234 : decode mm_L_law.2.1 234 = .ok (.i2l, 1) := by decide +kernel
theorem dd_L_law_235 : decode mm_L_law.2.1 235 = .ok (.lcmp, 1) := by decide +kernel
theorem dd_L_law_236 : decode mm_L_law.2.1 236 = .ok (.ifCond .eq 5, 3) := by decide +kernel
theorem dd_L_law_239 : decode mm_L_law.2.1 239 = .ok (.iconst 0, 1) := by decide +kernel
theorem dd_L_law_240 : decode mm_L_law.2.1 240 = .ok (.ireturn, 1) := by decide +kernel
theorem dd_L_law_241 : decode mm_L_law.2.1 241 = .ok (.goto 1090, 3) := by decide +kernel
theorem dd_L_law_244 : decode mm_L_law.2.1 244 = .ok (.aload_n 1, 1) := by decide +kernel
theorem dd_L_law_245 : decode mm_L_law.2.1 245 = .ok (.aload_n 0, 1) := by decide +kernel
theorem dd_L_law_246 : decode mm_L_law.2.1 246 = .ok (.iload 4, 2) := by decide +kernel
theorem dd_L_law_248 : decode mm_L_law.2.1 248 = .ok (.iconst 1, 1) := by decide +kernel
theorem dd_L_law_249 : decode mm_L_law.2.1 249 = .ok (.iadd, 1) := by decide +kernel
theorem dd_L_law_250 : decode mm_L_law.2.1 250 = .ok (.iaload, 1) := by decide +kernel
theorem dd_L_law_251 : decode mm_L_law.2.1 251 = .ok (.aload_n 3, 1) := by decide +kernel
theorem dd_L_law_252 : decode mm_L_law.2.1 252 = .ok (.invokestatic 92, 3) := by decide +kernel
theorem dd_L_law_255 : decode mm_L_law.2.1 255 = .ok (.istore 5, 2) := by decide +kernel
theorem dd_L_law_257 : decode mm_L_law.2.1 257 = .ok (.aload_n 2, 1) := by decide +kernel
theorem dd_L_law_258 : decode mm_L_law.2.1 258 = .ok (.aload_n 0, 1) := by decide +kernel
theorem dd_L_law_259 : decode mm_L_law.2.1 259 = .ok (.iload 4, 2) := by decide +kernel
theorem dd_L_law_261 : decode mm_L_law.2.1 261 = .ok (.iconst 1, 1) := by decide +kernel
theorem dd_L_law_262 : decode mm_L_law.2.1 262 = .ok (.iadd, 1) := by decide +kernel
theorem dd_L_law_263 : decode mm_L_law.2.1 263 = .ok (.iaload, 1) := by decide +kernel
theorem dd_L_law_264 : decode mm_L_law.2.1 264 = .ok (.invokevirtual 95, 3) := by decide +kernel
theorem dd_L_law_267 : decode mm_L_law.2.1 267 = .ok (.istore 6, 2) := by decide +kernel
theorem dd_L_law_269 : decode mm_L_law.2.1 269 = .ok (.aload_n 2, 1) := by decide +kernel
theorem dd_L_law_270 : decode mm_L_law.2.1 270 = .ok (.invokevirtual 88, 3) := by decide +kernel
theorem dd_L_law_273 : decode mm_L_law.2.1 273 = .ok (.iload 5, 2) := by decide +kernel
theorem dd_L_law_275 : decode mm_L_law.2.1 275 = .ok (.if_icmp .eq 5, 3) := by decide +kernel
theorem dd_L_law_278 : decode mm_L_law.2.1 278 = .ok (.iconst 0, 1) := by decide +kernel
theorem dd_L_law_279 : decode mm_L_law.2.1 279 = .ok (.ireturn, 1) := by decide +kernel
theorem dd_L_law_280 : decode mm_L_law.2.1 280 = .ok (.iload 5, 2) := by decide +kernel
theorem dd_L_law_282 : decode mm_L_law.2.1 282 = .ok (.ifCond .ne 15, 3) := by decide +kernel
theorem dd_L_law_285 : decode mm_L_law.2.1 285 = .ok (.aload_n 3, 1) := by decide +kernel
theorem dd_L_law_286 : decode mm_L_law.2.1 286 = .ok (.iconst 0, 1) := by decide +kernel
theorem dd_L_law_287 : decode mm_L_law.2.1 287 = .ok (.laload, 1) := by decide +kernel
theorem dd_L_law_288 : decode mm_L_law.2.1 288 = .ok (.iload 6, 2) := by decide +kernel
theorem dd_L_law_290 : decode mm_L_law.2.1 290 = .ok (.i2l, 1) := by decide +kernel
theorem dd_L_law_291 : decode mm_L_law.2.1 291 = .ok (.lcmp, 1) := by decide +kernel
theorem dd_L_law_292 : decode mm_L_law.2.1 292 = .ok (.ifCond .eq 5, 3) := by decide +kernel
theorem dd_L_law_295 : decode mm_L_law.2.1 295 = .ok (.iconst 0, 1) := by decide +kernel
theorem dd_L_law_296 : decode mm_L_law.2.1 296 = .ok (.ireturn, 1) := by decide +kernel
theorem dd_L_law_297 : decode mm_L_law.2.1 297 = .ok (.goto 1034, 3) := by decide +kernel
theorem dd_L_law_300 : decode mm_L_law.2.1 300 = .ok (.aload_n 1, 1) := by decide +kernel
theorem dd_L_law_301 : decode mm_L_law.2.1 301 = .ok (.aload_n 0, 1) := by decide +kernel
theorem dd_L_law_302 : decode mm_L_law.2.1 302 = .ok (.iload 4, 2) := by decide +kernel
theorem dd_L_law_304 : decode mm_L_law.2.1 304 = .ok (.iconst 1, 1) := by decide +kernel
theorem dd_L_law_305 : decode mm_L_law.2.1 305 = .ok (.iadd, 1) := by decide +kernel
theorem dd_L_law_306 : decode mm_L_law.2.1 306 = .ok (.iaload, 1) := by decide +kernel
theorem dd_L_law_307 : decode mm_L_law.2.1 307 = .ok (.aload_n 0, 1) := by decide +kernel
theorem dd_L_law_308 : decode mm_L_law.2.1 308 = .ok (.iload 4, 2) := by decide +kernel
theorem dd_L_law_310 : decode mm_L_law.2.1 310 = .ok (.iconst 2, 1) := by decide +kernel
theorem dd_L_law_311 : decode mm_L_law.2.1 311 = .ok (.iadd, 1) := by decide +kernel
theorem dd_L_law_312 : decode mm_L_law.2.1 312 = .ok (.iaload, 1) := by decide +kernel
theorem dd_L_law_313 : decode mm_L_law.2.1 313 = .ok (.aload_n 0, 1) := by decide +kernel
theorem dd_L_law_314 : decode mm_L_law.2.1 314 = .ok (.iload 4, 2) := by decide +kernel
theorem dd_L_law_316 : decode mm_L_law.2.1 316 = .ok (.iconst 3, 1) := by decide +kernel
theorem dd_L_law_317 : decode mm_L_law.2.1 317 = .ok (.iadd, 1) := by decide +kernel
theorem dd_L_law_318 : decode mm_L_law.2.1 318 = .ok (.iaload, 1) := by decide +kernel
theorem dd_L_law_319 : decode mm_L_law.2.1 319 = .ok (.aload_n 3, 1) := by decide +kernel
theorem dd_L_law_320 : decode mm_L_law.2.1 320 = .ok (.invokestatic 96, 3) := by decide +kernel
theorem dd_L_law_323 : decode mm_L_law.2.1 323 = .ok (.istore 5, 2) := by decide +kernel
theorem dd_L_law_325 : decode mm_L_law.2.1 325 = .ok (.aload_n 2, 1) := by decide +kernel
theorem dd_L_law_326 : decode mm_L_law.2.1 326 = .ok (.aload_n 0, 1) := by decide +kernel
theorem dd_L_law_327 : decode mm_L_law.2.1 327 = .ok (.iload 4, 2) := by decide +kernel
theorem dd_L_law_329 : decode mm_L_law.2.1 329 = .ok (.iconst 1, 1) := by decide +kernel
theorem dd_L_law_330 : decode mm_L_law.2.1 330 = .ok (.iadd, 1) := by decide +kernel
theorem dd_L_law_331 : decode mm_L_law.2.1 331 = .ok (.iaload, 1) := by decide +kernel
theorem dd_L_law_332 : decode mm_L_law.2.1 332 = .ok (.aload_n 0, 1) := by decide +kernel
theorem dd_L_law_333 : decode mm_L_law.2.1 333 = .ok (.iload 4, 2) := by decide +kernel
theorem dd_L_law_335 : decode mm_L_law.2.1 335 = .ok (.iconst 2, 1) := by decide +kernel
theorem dd_L_law_336 : decode mm_L_law.2.1 336 = .ok (.iadd, 1) := by decide +kernel
theorem dd_L_law_337 : decode mm_L_law.2.1 337 = .ok (.iaload, 1) := by decide +kernel
theorem dd_L_law_338 : decode mm_L_law.2.1 338 = .ok (.aload_n 0, 1) := by decide +kernel
theorem dd_L_law_339 : decode mm_L_law.2.1 339 = .ok (.iload 4, 2) := by decide +kernel
theorem dd_L_law_341 : decode mm_L_law.2.1 341 = .ok (.iconst 3, 1) := by decide +kernel
theorem dd_L_law_342 : decode mm_L_law.2.1 342 = .ok (.iadd, 1) := by decide +kernel
theorem dd_L_law_343 : decode mm_L_law.2.1 343 = .ok (.iaload, 1) := by decide +kernel
theorem dd_L_law_344 : decode mm_L_law.2.1 344 = .ok (.invokevirtual 99, 3) := by decide +kernel
theorem dd_L_law_347 : decode mm_L_law.2.1 347 = .ok (.istore 6, 2) := by decide +kernel
theorem dd_L_law_349 : decode mm_L_law.2.1 349 = .ok (.aload_n 2, 1) := by decide +kernel
theorem dd_L_law_350 : decode mm_L_law.2.1 350 = .ok (.invokevirtual 88, 3) := by decide +kernel
theorem dd_L_law_353 : decode mm_L_law.2.1 353 = .ok (.iload 5, 2) := by decide +kernel
theorem dd_L_law_355 : decode mm_L_law.2.1 355 = .ok (.if_icmp .eq 5, 3) := by decide +kernel
theorem dd_L_law_358 : decode mm_L_law.2.1 358 = .ok (.iconst 0, 1) := by decide +kernel
theorem dd_L_law_359 : decode mm_L_law.2.1 359 = .ok (.ireturn, 1) := by decide +kernel
theorem dd_L_law_360 : decode mm_L_law.2.1 360 = .ok (.iload 5, 2) := by decide +kernel
theorem dd_L_law_362 : decode mm_L_law.2.1 362 = .ok (.ifCond .ne 22, 3) := by decide +kernel
theorem dd_L_law_365 : decode mm_L_law.2.1 365 = .ok (.aload_n 3, 1) := by decide +kernel
theorem dd_L_law_366 : decode mm_L_law.2.1 366 = .ok (.iconst 0, 1) := by decide +kernel
theorem dd_L_law_367 : decode mm_L_law.2.1 367 = .ok (.laload, 1) := by decide +kernel
theorem dd_L_law_368 : decode mm_L_law.2.1 368 = .ok (.iload 6, 2) := by decide +kernel
theorem dd_L_law_370 : decode mm_L_law.2.1 370 = .ok (.ifCond .eq 7, 3) := by decide +kernel
theorem dd_L_law_373 : decode mm_L_law.2.1 373 = .ok (.lconst 1, 1) := by decide +kernel
theorem dd_L_law_374 : decode mm_L_law.2.1 374 = .ok (.goto 4, 3) := by decide +kernel
theorem dd_L_law_377 : decode mm_L_law.2.1 377 = .ok (.lconst 0, 1) := by decide +kernel
theorem dd_L_law_378 : decode mm_L_law.2.1 378 = .ok (.lcmp, 1) := by decide +kernel
theorem dd_L_law_379 : decode mm_L_law.2.1 379 = .ok (.ifCond .eq 5, 3) := by decide +kernel
theorem dd_L_law_382 : decode mm_L_law.2.1 382 = .ok (.iconst 0, 1) := by decide +kernel
theorem dd_L_law_383 : decode mm_L_law.2.1 383 = .ok (.ireturn, 1) := by decide +kernel
theorem dd_L_law_384 : decode mm_L_law.2.1 384 = .ok (.goto 947, 3) := by decide +kernel
theorem dd_L_law_387 : decode mm_L_law.2.1 387 = .ok (.aload_n 1, 1) := by decide +kernel
theorem dd_L_law_388 : decode mm_L_law.2.1 388 = .ok (.aload_n 0, 1) := by decide +kernel
theorem dd_L_law_389 : decode mm_L_law.2.1 389 = .ok (.iload 4, 2) := by decide +kernel
theorem dd_L_law_391 : decode mm_L_law.2.1 391 = .ok (.iconst 1, 1) := by decide +kernel
theorem dd_L_law_392 : decode mm_L_law.2.1 392 = .ok (.iadd, 1) := by decide +kernel
theorem dd_L_law_393 : decode mm_L_law.2.1 393 = .ok (.iaload, 1) := by decide +kernel
theorem dd_L_law_394 : decode mm_L_law.2.1 394 = .ok (.aload_n 3, 1) := by decide +kernel
theorem dd_L_law_395 : decode mm_L_law.2.1 395 = .ok (.invokestatic 100, 3) := by decide +kernel
theorem dd_L_law_398 : decode mm_L_law.2.1 398 = .ok (.istore 5, 2) := by decide +kernel
theorem dd_L_law_400 : decode mm_L_law.2.1 400 = .ok (.aload_n 2, 1) := by decide +kernel
theorem dd_L_law_401 : decode mm_L_law.2.1 401 = .ok (.aload_n 0, 1) := by decide +kernel
theorem dd_L_law_402 : decode mm_L_law.2.1 402 = .ok (.iload 4, 2) := by decide +kernel
theorem dd_L_law_404 : decode mm_L_law.2.1 404 = .ok (.iconst 1, 1) := by decide +kernel
theorem dd_L_law_405 : decode mm_L_law.2.1 405 = .ok (.iadd, 1) := by decide +kernel
theorem dd_L_law_406 : decode mm_L_law.2.1 406 = .ok (.iaload, 1) := by decide +kernel
theorem dd_L_law_407 : decode mm_L_law.2.1 407 = .ok (.invokevirtual 102, 3) := by decide +kernel
theorem dd_L_law_410 : decode mm_L_law.2.1 410 = .ok (.istore 6, 2) := by decide +kernel
theorem dd_L_law_412 : decode mm_L_law.2.1 412 = .ok (.aload_n 2, 1) := by decide +kernel
theorem dd_L_law_413 : decode mm_L_law.2.1 413 = .ok (.invokevirtual 88, 3) := by decide +kernel
theorem dd_L_law_416 : decode mm_L_law.2.1 416 = .ok (.iload 5, 2) := by decide +kernel
theorem dd_L_law_418 : decode mm_L_law.2.1 418 = .ok (.if_icmp .eq 5, 3) := by decide +kernel
theorem dd_L_law_421 : decode mm_L_law.2.1 421 = .ok (.iconst 0, 1) := by decide +kernel
theorem dd_L_law_422 : decode mm_L_law.2.1 422 = .ok (.ireturn, 1) := by decide +kernel
theorem dd_L_law_423 : decode mm_L_law.2.1 423 = .ok (.iload 5, 2) := by decide +kernel
theorem dd_L_law_425 : decode mm_L_law.2.1 425 = .ok (.ifCond .ne 22, 3) := by decide +kernel
theorem dd_L_law_428 : decode mm_L_law.2.1 428 = .ok (.aload_n 3, 1) := by decide +kernel
theorem dd_L_law_429 : decode mm_L_law.2.1 429 = .ok (.iconst 0, 1) := by decide +kernel
theorem dd_L_law_430 : decode mm_L_law.2.1 430 = .ok (.laload, 1) := by decide +kernel
theorem dd_L_law_431 : decode mm_L_law.2.1 431 = .ok (.iload 6, 2) := by decide +kernel
theorem dd_L_law_433 : decode mm_L_law.2.1 433 = .ok (.ifCond .eq 7, 3) := by decide +kernel
theorem dd_L_law_436 : decode mm_L_law.2.1 436 = .ok (.lconst 1, 1) := by decide +kernel
theorem dd_L_law_437 : decode mm_L_law.2.1 437 = .ok (.goto 4, 3) := by decide +kernel
theorem dd_L_law_440 : decode mm_L_law.2.1 440 = .ok (.lconst 0, 1) := by decide +kernel
theorem dd_L_law_441 : decode mm_L_law.2.1 441 = .ok (.lcmp, 1) := by decide +kernel
theorem dd_L_law_442 : decode mm_L_law.2.1 442 = .ok (.ifCond .eq 5, 3) := by decide +kernel
theorem dd_L_law_445 : decode mm_L_law.2.1 445 = .ok (.iconst 0, 1) := by decide +kernel
theorem dd_L_law_446 : decode mm_L_law.2.1 446 = .ok (.ireturn, 1) := by decide +kernel
theorem dd_L_law_447 : decode mm_L_law.2.1 447 = .ok (.goto 884, 3) := by decide +kernel
theorem dd_L_law_450 : decode mm_L_law.2.1 450 = .ok (.aload_n 1, 1) := by decide +kernel
theorem dd_L_law_451 : decode mm_L_law.2.1 451 = .ok (.aload_n 0, 1) := by decide +kernel
theorem dd_L_law_452 : decode mm_L_law.2.1 452 = .ok (.iload 4, 2) := by decide +kernel
theorem dd_L_law_454 : decode mm_L_law.2.1 454 = .ok (.iconst 1, 1) := by decide +kernel
theorem dd_L_law_455 : decode mm_L_law.2.1 455 = .ok (.iadd, 1) := by decide +kernel
theorem dd_L_law_456 : decode mm_L_law.2.1 456 = .ok (.iaload, 1) := by decide +kernel
theorem dd_L_law_457 : decode mm_L_law.2.1 457 = .ok (.aload_n 3, 1) := by decide +kernel
theorem dd_L_law_458 : decode mm_L_law.2.1 458 = .ok (.invokestatic 103, 3) := by decide +kernel
theorem dd_L_law_461 : decode mm_L_law.2.1 461 = .ok (.istore 5, 2) := by decide +kernel
theorem dd_L_law_463 : decode mm_L_law.2.1 463 = .ok (.aload_n 2, 1) := by decide +kernel
theorem dd_L_law_464 : decode mm_L_law.2.1 464 = .ok (.aload_n 0, 1) := by decide +kernel
theorem dd_L_law_465 : decode mm_L_law.2.1 465 = .ok (.iload 4, 2) := by decide +kernel
theorem dd_L_law_467 : decode mm_L_law.2.1 467 = .ok (.iconst 1, 1) := by decide +kernel
theorem dd_L_law_468 : decode mm_L_law.2.1 468 = .ok (.iadd, 1) := by decide +kernel
theorem dd_L_law_469 : decode mm_L_law.2.1 469 = .ok (.iaload, 1) := by decide +kernel
theorem dd_L_law_470 : decode mm_L_law.2.1 470 = .ok (.invokevirtual 105, 3) := by decide +kernel
theorem dd_L_law_473 : decode mm_L_law.2.1 473 = .ok (.istore 6, 2) := by decide +kernel
theorem dd_L_law_475 : decode mm_L_law.2.1 475 = .ok (.aload_n 2, 1) := by decide +kernel
theorem dd_L_law_476 : decode mm_L_law.2.1 476 = .ok (.invokevirtual 88, 3) := by decide +kernel
theorem dd_L_law_479 : decode mm_L_law.2.1 479 = .ok (.iload 5, 2) := by decide +kernel
theorem dd_L_law_481 : decode mm_L_law.2.1 481 = .ok (.if_icmp .eq 5, 3) := by decide +kernel
theorem dd_L_law_484 : decode mm_L_law.2.1 484 = .ok (.iconst 0, 1) := by decide +kernel
theorem dd_L_law_485 : decode mm_L_law.2.1 485 = .ok (.ireturn, 1) := by decide +kernel
theorem dd_L_law_486 : decode mm_L_law.2.1 486 = .ok (.iload 5, 2) := by decide +kernel
theorem dd_L_law_488 : decode mm_L_law.2.1 488 = .ok (.ifCond .ne 22, 3) := by decide +kernel
theorem dd_L_law_491 : decode mm_L_law.2.1 491 = .ok (.aload_n 3, 1) := by decide +kernel
theorem dd_L_law_492 : decode mm_L_law.2.1 492 = .ok (.iconst 0, 1) := by decide +kernel
theorem dd_L_law_493 : decode mm_L_law.2.1 493 = .ok (.laload, 1) := by decide +kernel
theorem dd_L_law_494 : decode mm_L_law.2.1 494 = .ok (.iload 6, 2) := by decide +kernel
theorem dd_L_law_496 : decode mm_L_law.2.1 496 = .ok (.ifCond .eq 7, 3) := by decide +kernel
theorem dd_L_law_499 : decode mm_L_law.2.1 499 = .ok (.lconst 1, 1) := by decide +kernel
theorem dd_L_law_500 : decode mm_L_law.2.1 500 = .ok (.goto 4, 3) := by decide +kernel
theorem dd_L_law_503 : decode mm_L_law.2.1 503 = .ok (.lconst 0, 1) := by decide +kernel
theorem dd_L_law_504 : decode mm_L_law.2.1 504 = .ok (.lcmp, 1) := by decide +kernel
theorem dd_L_law_505 : decode mm_L_law.2.1 505 = .ok (.ifCond .eq 5, 3) := by decide +kernel
theorem dd_L_law_508 : decode mm_L_law.2.1 508 = .ok (.iconst 0, 1) := by decide +kernel
theorem dd_L_law_509 : decode mm_L_law.2.1 509 = .ok (.ireturn, 1) := by decide +kernel
theorem dd_L_law_510 : decode mm_L_law.2.1 510 = .ok (.goto 821, 3) := by decide +kernel
theorem dd_L_law_513 : decode mm_L_law.2.1 513 = .ok (.aload_n 1, 1) := by decide +kernel
theorem dd_L_law_514 : decode mm_L_law.2.1 514 = .ok (.invokevirtual 106, 3) := by decide +kernel
theorem dd_L_law_517 : decode mm_L_law.2.1 517 = .ok (.aload_n 2, 1) := by decide +kernel
theorem dd_L_law_518 : decode mm_L_law.2.1 518 = .ok (.invokevirtual 109, 3) := by decide +kernel
theorem dd_L_law_521 : decode mm_L_law.2.1 521 = .ok (.if_icmp .eq 810, 3) := by decide +kernel
theorem dd_L_law_524 : decode mm_L_law.2.1 524 = .ok (.iconst 0, 1) := by decide +kernel
theorem dd_L_law_525 : decode mm_L_law.2.1 525 = .ok (.ireturn, 1) := by decide +kernel
theorem dd_L_law_526 : decode mm_L_law.2.1 526 = .ok (.aload_n 1, 1) := by decide +kernel
theorem dd_L_law_527 : decode mm_L_law.2.1 527 = .ok (.aload_n 0, 1) := by decide +kernel
theorem dd_L_law_528 : decode mm_L_law.2.1 528 = .ok (.iload 4, 2) := by decide +kernel
theorem dd_L_law_530 : decode mm_L_law.2.1 530 = .ok (.iconst 1, 1) := by decide +kernel
theorem dd_L_law_531 : decode mm_L_law.2.1 531 = .ok (.iadd, 1) := by decide +kernel
theorem dd_L_law_532 : decode mm_L_law.2.1 532 = .ok (.iaload, 1) := by decide +kernel
theorem dd_L_law_533 : decode mm_L_law.2.1 533 = .ok (.aload_n 0, 1) := by decide +kernel
theorem dd_L_law_534 : decode mm_L_law.2.1 534 = .ok (.iload 4, 2) := by decide +kernel
theorem dd_L_law_536 : decode mm_L_law.2.1 536 = .ok (.iconst 2, 1) := by decide +kernel
theorem dd_L_law_537 : decode mm_L_law.2.1 537 = .ok (.iadd, 1) := by decide +kernel
theorem dd_L_law_538 : decode mm_L_law.2.1 538 = .ok (.iaload, 1) := by decide +kernel
theorem dd_L_law_539 : decode mm_L_law.2.1 539 = .ok (.aload_n 3, 1) := by decide +kernel
theorem dd_L_law_540 : decode mm_L_law.2.1 540 = .ok (.invokestatic 110, 3) := by decide +kernel
theorem dd_L_law_543 : decode mm_L_law.2.1 543 = .ok (.istore 5, 2) := by decide +kernel
theorem dd_L_law_545 : decode mm_L_law.2.1 545 = .ok (.aload_n 2, 1) := by decide +kernel
theorem dd_L_law_546 : decode mm_L_law.2.1 546 = .ok (.aload_n 0, 1) := by decide +kernel
theorem dd_L_law_547 : decode mm_L_law.2.1 547 = .ok (.iload 4, 2) := by decide +kernel
theorem dd_L_law_549 : decode mm_L_law.2.1 549 = .ok (.iconst 1, 1) := by decide +kernel
theorem dd_L_law_550 : decode mm_L_law.2.1 550 = .ok (.iadd, 1) := by decide +kernel
theorem dd_L_law_551 : decode mm_L_law.2.1 551 = .ok (.iaload, 1) := by decide +kernel
theorem dd_L_law_552 : decode mm_L_law.2.1 552 = .ok (.aload_n 0, 1) := by decide +kernel
theorem dd_L_law_553 : decode mm_L_law.2.1 553 = .ok (.iload 4, 2) := by decide +kernel
theorem dd_L_law_555 : decode mm_L_law.2.1 555 = .ok (.iconst 2, 1) := by decide +kernel
theorem dd_L_law_556 : decode mm_L_law.2.1 556 = .ok (.iadd, 1) := by decide +kernel
theorem dd_L_law_557 : decode mm_L_law.2.1 557 = .ok (.iaload, 1) := by decide +kernel
theorem dd_L_law_558 : decode mm_L_law.2.1 558 = .ok (.invokevirtual 113, 3) := by decide +kernel
theorem dd_L_law_561 : decode mm_L_law.2.1 561 = .ok (.istore 6, 2) := by decide +kernel
theorem dd_L_law_563 : decode mm_L_law.2.1 563 = .ok (.aload_n 2, 1) := by decide +kernel
theorem dd_L_law_564 : decode mm_L_law.2.1 564 = .ok (.invokevirtual 88, 3) := by decide +kernel
theorem dd_L_law_567 : decode mm_L_law.2.1 567 = .ok (.iload 5, 2) := by decide +kernel
theorem dd_L_law_569 : decode mm_L_law.2.1 569 = .ok (.if_icmp .eq 5, 3) := by decide +kernel
theorem dd_L_law_572 : decode mm_L_law.2.1 572 = .ok (.iconst 0, 1) := by decide +kernel
theorem dd_L_law_573 : decode mm_L_law.2.1 573 = .ok (.ireturn, 1) := by decide +kernel
theorem dd_L_law_574 : decode mm_L_law.2.1 574 = .ok (.iload 5, 2) := by decide +kernel
theorem dd_L_law_576 : decode mm_L_law.2.1 576 = .ok (.ifCond .ne 15, 3) := by decide +kernel
theorem dd_L_law_579 : decode mm_L_law.2.1 579 = .ok (.aload_n 3, 1) := by decide +kernel
theorem dd_L_law_580 : decode mm_L_law.2.1 580 = .ok (.iconst 0, 1) := by decide +kernel
theorem dd_L_law_581 : decode mm_L_law.2.1 581 = .ok (.laload, 1) := by decide +kernel
theorem dd_L_law_582 : decode mm_L_law.2.1 582 = .ok (.iload 6, 2) := by decide +kernel
theorem dd_L_law_584 : decode mm_L_law.2.1 584 = .ok (.i2l, 1) := by decide +kernel
theorem dd_L_law_585 : decode mm_L_law.2.1 585 = .ok (.lcmp, 1) := by decide +kernel
theorem dd_L_law_586 : decode mm_L_law.2.1 586 = .ok (.ifCond .eq 5, 3) := by decide +kernel
theorem dd_L_law_589 : decode mm_L_law.2.1 589 = .ok (.iconst 0, 1) := by decide +kernel
theorem dd_L_law_590 : decode mm_L_law.2.1 590 = .ok (.ireturn, 1) := by decide +kernel
theorem dd_L_law_591 : decode mm_L_law.2.1 591 = .ok (.goto 740, 3) := by decide +kernel
theorem dd_L_law_594 : decode mm_L_law.2.1 594 = .ok (.aload_n 1, 1) := by decide +kernel
theorem dd_L_law_595 : decode mm_L_law.2.1 595 = .ok (.aload_n 0, 1) := by decide +kernel
theorem dd_L_law_596 : decode mm_L_law.2.1 596 = .ok (.iload 4, 2) := by decide +kernel
theorem dd_L_law_598 : decode mm_L_law.2.1 598 = .ok (.iconst 1, 1) := by decide +kernel
theorem dd_L_law_599 : decode mm_L_law.2.1 599 = .ok (.iadd, 1) := by decide +kernel
theorem dd_L_law_600 : decode mm_L_law.2.1 600 = .ok (.iaload, 1) := by decide +kernel
theorem dd_L_law_601 : decode mm_L_law.2.1 601 = .ok (.aload_n 0, 1) := by decide +kernel
theorem dd_L_law_602 : decode mm_L_law.2.1 602 = .ok (.iload 4, 2) := by decide +kernel
theorem dd_L_law_604 : decode mm_L_law.2.1 604 = .ok (.iconst 2, 1) := by decide +kernel
theorem dd_L_law_605 : decode mm_L_law.2.1 605 = .ok (.iadd, 1) := by decide +kernel
theorem dd_L_law_606 : decode mm_L_law.2.1 606 = .ok (.iaload, 1) := by decide +kernel
theorem dd_L_law_607 : decode mm_L_law.2.1 607 = .ok (.invokevirtual 114, 3) := by decide +kernel
theorem dd_L_law_610 : decode mm_L_law.2.1 610 = .ok (.aload_n 2, 1) := by decide +kernel
theorem dd_L_law_611 : decode mm_L_law.2.1 611 = .ok (.aload_n 0, 1) := by decide +kernel
theorem dd_L_law_612 : decode mm_L_law.2.1 612 = .ok (.iload 4, 2) := by decide +kernel
theorem dd_L_law_614 : decode mm_L_law.2.1 614 = .ok (.iconst 1, 1) := by decide +kernel
theorem dd_L_law_615 : decode mm_L_law.2.1 615 = .ok (.iadd, 1) := by decide +kernel
theorem dd_L_law_616 : decode mm_L_law.2.1 616 = .ok (.iaload, 1) := by decide +kernel
theorem dd_L_law_617 : decode mm_L_law.2.1 617 = .ok (.aload_n 0, 1) := by decide +kernel
theorem dd_L_law_618 : decode mm_L_law.2.1 618 = .ok (.iload 4, 2) := by decide +kernel
theorem dd_L_law_620 : decode mm_L_law.2.1 620 = .ok (.iconst 2, 1) := by decide +kernel
theorem dd_L_law_621 : decode mm_L_law.2.1 621 = .ok (.iadd, 1) := by decide +kernel
theorem dd_L_law_622 : decode mm_L_law.2.1 622 = .ok (.iaload, 1) := by decide +kernel
theorem dd_L_law_623 : decode mm_L_law.2.1 623 = .ok (.invokevirtual 117, 3) := by decide +kernel
theorem dd_L_law_626 : decode mm_L_law.2.1 626 = .ok (.if_icmp .eq 705, 3) := by decide +kernel
theorem dd_L_law_629 : decode mm_L_law.2.1 629 = .ok (.iconst 0, 1) := by decide +kernel
theorem dd_L_law_630 : decode mm_L_law.2.1 630 = .ok (.ireturn, 1) := by decide +kernel
theorem dd_L_law_631 : decode mm_L_law.2.1 631 = .ok (.aload_n 1, 1) := by decide +kernel
theorem dd_L_law_632 : decode mm_L_law.2.1 632 = .ok (.invokevirtual 118, 3) := by decide +kernel
theorem dd_L_law_635 : decode mm_L_law.2.1 635 = .ok (.aload_n 2, 1) := by decide +kernel
theorem dd_L_law_636 : decode mm_L_law.2.1 636 = .ok (.invokevirtual 121, 3) := by decide +kernel
theorem dd_L_law_639 : decode mm_L_law.2.1 639 = .ok (.if_icmp .eq 692, 3) := by decide +kernel
theorem dd_L_law_642 : decode mm_L_law.2.1 642 = .ok (.iconst 0, 1) := by decide +kernel
theorem dd_L_law_643 : decode mm_L_law.2.1 643 = .ok (.ireturn, 1) := by decide +kernel
theorem dd_L_law_644 : decode mm_L_law.2.1 644 = .ok (.aload_n 1, 1) := by decide +kernel
theorem dd_L_law_645 : decode mm_L_law.2.1 645 = .ok (.invokevirtual 122, 3) := by decide +kernel
theorem dd_L_law_648 : decode mm_L_law.2.1 648 = .ok (.aload_n 2, 1) := by decide +kernel
theorem dd_L_law_649 : decode mm_L_law.2.1 649 = .ok (.invokevirtual 125, 3) := by decide +kernel
theorem dd_L_law_652 : decode mm_L_law.2.1 652 = .ok (.if_icmp .eq 679, 3) := by decide +kernel
theorem dd_L_law_655 : decode mm_L_law.2.1 655 = .ok (.iconst 0, 1) := by decide +kernel
theorem dd_L_law_656 : decode mm_L_law.2.1 656 = .ok (.ireturn, 1) := by decide +kernel
theorem dd_L_law_657 : decode mm_L_law.2.1 657 = .ok (.aload_n 1, 1) := by decide +kernel
theorem dd_L_law_658 : decode mm_L_law.2.1 658 = .ok (.invokevirtual 126, 3) := by decide +kernel
theorem dd_L_law_661 : decode mm_L_law.2.1 661 = .ok (.aload_n 2, 1) := by decide +kernel
theorem dd_L_law_662 : decode mm_L_law.2.1 662 = .ok (.invokevirtual 129, 3) := by decide +kernel
theorem dd_L_law_665 : decode mm_L_law.2.1 665 = .ok (.if_icmp .eq 666, 3) := by decide +kernel
theorem dd_L_law_668 : decode mm_L_law.2.1 668 = .ok (.iconst 0, 1) := by decide +kernel
theorem dd_L_law_669 : decode mm_L_law.2.1 669 = .ok (.ireturn, 1) := by decide +kernel
theorem dd_L_law_670 : decode mm_L_law.2.1 670 = .ok (.aload_n 1, 1) := by decide +kernel
theorem dd_L_law_671 : decode mm_L_law.2.1 671 = .ok (.aload_n 0, 1) := by decide +kernel
theorem dd_L_law_672 : decode mm_L_law.2.1 672 = .ok (.iload 4, 2) := by decide +kernel
theorem dd_L_law_674 : decode mm_L_law.2.1 674 = .ok (.iconst 1, 1) := by decide +kernel
theorem dd_L_law_675 : decode mm_L_law.2.1 675 = .ok (.iadd, 1) := by decide +kernel
theorem dd_L_law_676 : decode mm_L_law.2.1 676 = .ok (.iaload, 1) := by decide +kernel
theorem dd_L_law_677 : decode mm_L_law.2.1 677 = .ok (.aload_n 0, 1) := by decide +kernel
theorem dd_L_law_678 : decode mm_L_law.2.1 678 = .ok (.iload 4, 2) := by decide +kernel
theorem dd_L_law_680 : decode mm_L_law.2.1 680 = .ok (.iconst 2, 1) := by decide +kernel
theorem dd_L_law_681 : decode mm_L_law.2.1 681 = .ok (.iadd, 1) := by decide +kernel
theorem dd_L_law_682 : decode mm_L_law.2.1 682 = .ok (.iaload, 1) := by decide +kernel
theorem dd_L_law_683 : decode mm_L_law.2.1 683 = .ok (.aload_n 3, 1) := by decide +kernel
theorem dd_L_law_684 : decode mm_L_law.2.1 684 = .ok (.invokestatic 130, 3) := by decide +kernel
theorem dd_L_law_687 : decode mm_L_law.2.1 687 = .ok (.istore 5, 2) := by decide +kernel
theorem dd_L_law_689 : decode mm_L_law.2.1 689 = .ok (.aload_n 2, 1) := by decide +kernel
theorem dd_L_law_690 : decode mm_L_law.2.1 690 = .ok (.aload_n 0, 1) := by decide +kernel
theorem dd_L_law_691 : decode mm_L_law.2.1 691 = .ok (.iload 4, 2) := by decide +kernel
theorem dd_L_law_693 : decode mm_L_law.2.1 693 = .ok (.iconst 1, 1) := by decide +kernel
theorem dd_L_law_694 : decode mm_L_law.2.1 694 = .ok (.iadd, 1) := by decide +kernel
theorem dd_L_law_695 : decode mm_L_law.2.1 695 = .ok (.iaload, 1) := by decide +kernel
theorem dd_L_law_696 : decode mm_L_law.2.1 696 = .ok (.aload_n 0, 1) := by decide +kernel
theorem dd_L_law_697 : decode mm_L_law.2.1 697 = .ok (.iload 4, 2) := by decide +kernel
theorem dd_L_law_699 : decode mm_L_law.2.1 699 = .ok (.iconst 2, 1) := by decide +kernel
theorem dd_L_law_700 : decode mm_L_law.2.1 700 = .ok (.iadd, 1) := by decide +kernel
theorem dd_L_law_701 : decode mm_L_law.2.1 701 = .ok (.iaload, 1) := by decide +kernel
theorem dd_L_law_702 : decode mm_L_law.2.1 702 = .ok (.invokevirtual 132, 3) := by decide +kernel
theorem dd_L_law_705 : decode mm_L_law.2.1 705 = .ok (.istore 6, 2) := by decide +kernel
theorem dd_L_law_707 : decode mm_L_law.2.1 707 = .ok (.aload_n 2, 1) := by decide +kernel
theorem dd_L_law_708 : decode mm_L_law.2.1 708 = .ok (.invokevirtual 88, 3) := by decide +kernel
theorem dd_L_law_711 : decode mm_L_law.2.1 711 = .ok (.iload 5, 2) := by decide +kernel
theorem dd_L_law_713 : decode mm_L_law.2.1 713 = .ok (.if_icmp .eq 5, 3) := by decide +kernel
theorem dd_L_law_716 : decode mm_L_law.2.1 716 = .ok (.iconst 0, 1) := by decide +kernel
theorem dd_L_law_717 : decode mm_L_law.2.1 717 = .ok (.ireturn, 1) := by decide +kernel
theorem dd_L_law_718 : decode mm_L_law.2.1 718 = .ok (.iload 5, 2) := by decide +kernel
theorem dd_L_law_720 : decode mm_L_law.2.1 720 = .ok (.ifCond .ne 15, 3) := by decide +kernel
theorem dd_L_law_723 : decode mm_L_law.2.1 723 = .ok (.aload_n 3, 1) := by decide +kernel
theorem dd_L_law_724 : decode mm_L_law.2.1 724 = .ok (.iconst 0, 1) := by decide +kernel
theorem dd_L_law_725 : decode mm_L_law.2.1 725 = .ok (.laload, 1) := by decide +kernel
theorem dd_L_law_726 : decode mm_L_law.2.1 726 = .ok (.iload 6, 2) := by decide +kernel
theorem dd_L_law_728 : decode mm_L_law.2.1 728 = .ok (.i2l, 1) := by decide +kernel
theorem dd_L_law_729 : decode mm_L_law.2.1 729 = .ok (.lcmp, 1) := by decide +kernel
theorem dd_L_law_730 : decode mm_L_law.2.1 730 = .ok (.ifCond .eq 5, 3) := by decide +kernel
theorem dd_L_law_733 : decode mm_L_law.2.1 733 = .ok (.iconst 0, 1) := by decide +kernel
theorem dd_L_law_734 : decode mm_L_law.2.1 734 = .ok (.ireturn, 1) := by decide +kernel
theorem dd_L_law_735 : decode mm_L_law.2.1 735 = .ok (.goto 596, 3) := by decide +kernel
theorem dd_L_law_738 : decode mm_L_law.2.1 738 = .ok (.aload_n 1, 1) := by decide +kernel
theorem dd_L_law_739 : decode mm_L_law.2.1 739 = .ok (.aload_n 0, 1) := by decide +kernel
theorem dd_L_law_740 : decode mm_L_law.2.1 740 = .ok (.iload 4, 2) := by decide +kernel
theorem dd_L_law_742 : decode mm_L_law.2.1 742 = .ok (.iconst 1, 1) := by decide +kernel
theorem dd_L_law_743 : decode mm_L_law.2.1 743 = .ok (.iadd, 1) := by decide +kernel
theorem dd_L_law_744 : decode mm_L_law.2.1 744 = .ok (.iaload, 1) := by decide +kernel
theorem dd_L_law_745 : decode mm_L_law.2.1 745 = .ok (.aload_n 0, 1) := by decide +kernel
theorem dd_L_law_746 : decode mm_L_law.2.1 746 = .ok (.iload 4, 2) := by decide +kernel
theorem dd_L_law_748 : decode mm_L_law.2.1 748 = .ok (.iconst 2, 1) := by decide +kernel
theorem dd_L_law_749 : decode mm_L_law.2.1 749 = .ok (.iadd, 1) := by decide +kernel
theorem dd_L_law_750 : decode mm_L_law.2.1 750 = .ok (.iaload, 1) := by decide +kernel
theorem dd_L_law_751 : decode mm_L_law.2.1 751 = .ok (.invokestatic 133, 3) := by decide +kernel
theorem dd_L_law_754 : decode mm_L_law.2.1 754 = .ok (.istore 5, 2) := by decide +kernel
theorem dd_L_law_756 : decode mm_L_law.2.1 756 = .ok (.aload_n 2, 1) := by decide +kernel
theorem dd_L_law_757 : decode mm_L_law.2.1 757 = .ok (.aload_n 0, 1) := by decide +kernel
theorem dd_L_law_758 : decode mm_L_law.2.1 758 = .ok (.iload 4, 2) := by decide +kernel
theorem dd_L_law_760 : decode mm_L_law.2.1 760 = .ok (.iconst 1, 1) := by decide +kernel
theorem dd_L_law_761 : decode mm_L_law.2.1 761 = .ok (.iadd, 1) := by decide +kernel
theorem dd_L_law_762 : decode mm_L_law.2.1 762 = .ok (.iaload, 1) := by decide +kernel
theorem dd_L_law_763 : decode mm_L_law.2.1 763 = .ok (.aload_n 0, 1) := by decide +kernel
theorem dd_L_law_764 : decode mm_L_law.2.1 764 = .ok (.iload 4, 2) := by decide +kernel
theorem dd_L_law_766 : decode mm_L_law.2.1 766 = .ok (.iconst 2, 1) := by decide +kernel
theorem dd_L_law_767 : decode mm_L_law.2.1 767 = .ok (.iadd, 1) := by decide +kernel
theorem dd_L_law_768 : decode mm_L_law.2.1 768 = .ok (.iaload, 1) := by decide +kernel
theorem dd_L_law_769 : decode mm_L_law.2.1 769 = .ok (.invokevirtual 136, 3) := by decide +kernel
theorem dd_L_law_772 : decode mm_L_law.2.1 772 = .ok (.aload_n 2, 1) := by decide +kernel
theorem dd_L_law_773 : decode mm_L_law.2.1 773 = .ok (.invokevirtual 88, 3) := by decide +kernel
theorem dd_L_law_776 : decode mm_L_law.2.1 776 = .ok (.iload 5, 2) := by decide +kernel
theorem dd_L_law_778 : decode mm_L_law.2.1 778 = .ok (.if_icmp .eq 5, 3) := by decide +kernel
theorem dd_L_law_781 : decode mm_L_law.2.1 781 = .ok (.iconst 0, 1) := by decide +kernel
theorem dd_L_law_782 : decode mm_L_law.2.1 782 = .ok (.ireturn, 1) := by decide +kernel
theorem dd_L_law_783 : decode mm_L_law.2.1 783 = .ok (.goto 548, 3) := by decide +kernel
theorem dd_L_law_786 : decode mm_L_law.2.1 786 = .ok (.aload_n 1, 1) := by decide +kernel
theorem dd_L_law_787 : decode mm_L_law.2.1 787 = .ok (.aload_n 0, 1) := by decide +kernel
theorem dd_L_law_788 : decode mm_L_law.2.1 788 = .ok (.iload 4, 2) := by decide +kernel
theorem dd_L_law_790 : decode mm_L_law.2.1 790 = .ok (.iconst 1, 1) := by decide +kernel
theorem dd_L_law_791 : decode mm_L_law.2.1 791 = .ok (.iadd, 1) := by decide +kernel
theorem dd_L_law_792 : decode mm_L_law.2.1 792 = .ok (.iaload, 1) := by decide +kernel
theorem dd_L_law_793 : decode mm_L_law.2.1 793 = .ok (.aload_n 3, 1) := by decide +kernel
theorem dd_L_law_794 : decode mm_L_law.2.1 794 = .ok (.invokestatic 137, 3) := by decide +kernel
theorem dd_L_law_797 : decode mm_L_law.2.1 797 = .ok (.istore 5, 2) := by decide +kernel
theorem dd_L_law_799 : decode mm_L_law.2.1 799 = .ok (.aload_n 2, 1) := by decide +kernel
theorem dd_L_law_800 : decode mm_L_law.2.1 800 = .ok (.aload_n 0, 1) := by decide +kernel
theorem dd_L_law_801 : decode mm_L_law.2.1 801 = .ok (.iload 4, 2) := by decide +kernel
theorem dd_L_law_803 : decode mm_L_law.2.1 803 = .ok (.iconst 1, 1) := by decide +kernel
theorem dd_L_law_804 : decode mm_L_law.2.1 804 = .ok (.iadd, 1) := by decide +kernel
theorem dd_L_law_805 : decode mm_L_law.2.1 805 = .ok (.iaload, 1) := by decide +kernel
theorem dd_L_law_806 : decode mm_L_law.2.1 806 = .ok (.invokevirtual 139, 3) := by decide +kernel
theorem dd_L_law_809 : decode mm_L_law.2.1 809 = .ok (.istore 6, 2) := by decide +kernel
theorem dd_L_law_811 : decode mm_L_law.2.1 811 = .ok (.aload_n 2, 1) := by decide +kernel
theorem dd_L_law_812 : decode mm_L_law.2.1 812 = .ok (.invokevirtual 88, 3) := by decide +kernel
theorem dd_L_law_815 : decode mm_L_law.2.1 815 = .ok (.iload 5, 2) := by decide +kernel
theorem dd_L_law_817 : decode mm_L_law.2.1 817 = .ok (.if_icmp .eq 5, 3) := by decide +kernel
theorem dd_L_law_820 : decode mm_L_law.2.1 820 = .ok (.iconst 0, 1) := by decide +kernel
theorem dd_L_law_821 : decode mm_L_law.2.1 821 = .ok (.ireturn, 1) := by decide +kernel
theorem dd_L_law_822 : decode mm_L_law.2.1 822 = .ok (.iload 5, 2) := by decide +kernel
theorem dd_L_law_824 : decode mm_L_law.2.1 824 = .ok (.ifCond .ne 15, 3) := by decide +kernel
theorem dd_L_law_827 : decode mm_L_law.2.1 827 = .ok (.aload_n 3, 1) := by decide +kernel
theorem dd_L_law_828 : decode mm_L_law.2.1 828 = .ok (.iconst 0, 1) := by decide +kernel
theorem dd_L_law_829 : decode mm_L_law.2.1 829 = .ok (.laload, 1) := by decide +kernel
theorem dd_L_law_830 : decode mm_L_law.2.1 830 = .ok (.iload 6, 2) := by decide +kernel
theorem dd_L_law_832 : decode mm_L_law.2.1 832 = .ok (.i2l, 1) := by decide +kernel
theorem dd_L_law_833 : decode mm_L_law.2.1 833 = .ok (.lcmp, 1) := by decide +kernel
theorem dd_L_law_834 : decode mm_L_law.2.1 834 = .ok (.ifCond .eq 5, 3) := by decide +kernel
theorem dd_L_law_837 : decode mm_L_law.2.1 837 = .ok (.iconst 0, 1) := by decide +kernel
theorem dd_L_law_838 : decode mm_L_law.2.1 838 = .ok (.ireturn, 1) := by decide +kernel
theorem dd_L_law_839 : decode mm_L_law.2.1 839 = .ok (.goto 492, 3) := by decide +kernel
theorem dd_L_law_842 : decode mm_L_law.2.1 842 = .ok (.aload_n 1, 1) := by decide +kernel
theorem dd_L_law_843 : decode mm_L_law.2.1 843 = .ok (.aload_n 0, 1) := by decide +kernel
theorem dd_L_law_844 : decode mm_L_law.2.1 844 = .ok (.iload 4, 2) := by decide +kernel
theorem dd_L_law_846 : decode mm_L_law.2.1 846 = .ok (.iconst 1, 1) := by decide +kernel
theorem dd_L_law_847 : decode mm_L_law.2.1 847 = .ok (.iadd, 1) := by decide +kernel
theorem dd_L_law_848 : decode mm_L_law.2.1 848 = .ok (.iaload, 1) := by decide +kernel
theorem dd_L_law_849 : decode mm_L_law.2.1 849 = .ok (.aload_n 3, 1) := by decide +kernel
theorem dd_L_law_850 : decode mm_L_law.2.1 850 = .ok (.invokestatic 140, 3) := by decide +kernel
theorem dd_L_law_853 : decode mm_L_law.2.1 853 = .ok (.istore 5, 2) := by decide +kernel
theorem dd_L_law_855 : decode mm_L_law.2.1 855 = .ok (.aload_n 2, 1) := by decide +kernel
theorem dd_L_law_856 : decode mm_L_law.2.1 856 = .ok (.aload_n 0, 1) := by decide +kernel
theorem dd_L_law_857 : decode mm_L_law.2.1 857 = .ok (.iload 4, 2) := by decide +kernel
theorem dd_L_law_859 : decode mm_L_law.2.1 859 = .ok (.iconst 1, 1) := by decide +kernel
theorem dd_L_law_860 : decode mm_L_law.2.1 860 = .ok (.iadd, 1) := by decide +kernel
theorem dd_L_law_861 : decode mm_L_law.2.1 861 = .ok (.iaload, 1) := by decide +kernel
theorem dd_L_law_862 : decode mm_L_law.2.1 862 = .ok (.invokevirtual 142, 3) := by decide +kernel
theorem dd_L_law_865 : decode mm_L_law.2.1 865 = .ok (.istore 6, 2) := by decide +kernel
theorem dd_L_law_867 : decode mm_L_law.2.1 867 = .ok (.aload_n 2, 1) := by decide +kernel
theorem dd_L_law_868 : decode mm_L_law.2.1 868 = .ok (.invokevirtual 88, 3) := by decide +kernel
theorem dd_L_law_871 : decode mm_L_law.2.1 871 = .ok (.iload 5, 2) := by decide +kernel
theorem dd_L_law_873 : decode mm_L_law.2.1 873 = .ok (.if_icmp .eq 5, 3) := by decide +kernel
theorem dd_L_law_876 : decode mm_L_law.2.1 876 = .ok (.iconst 0, 1) := by decide +kernel
theorem dd_L_law_877 : decode mm_L_law.2.1 877 = .ok (.ireturn, 1) := by decide +kernel
theorem dd_L_law_878 : decode mm_L_law.2.1 878 = .ok (.iload 5, 2) := by decide +kernel
theorem dd_L_law_880 : decode mm_L_law.2.1 880 = .ok (.ifCond .ne 15, 3) := by decide +kernel
theorem dd_L_law_883 : decode mm_L_law.2.1 883 = .ok (.aload_n 3, 1) := by decide +kernel
theorem dd_L_law_884 : decode mm_L_law.2.1 884 = .ok (.iconst 0, 1) := by decide +kernel
theorem dd_L_law_885 : decode mm_L_law.2.1 885 = .ok (.laload, 1) := by decide +kernel
theorem dd_L_law_886 : decode mm_L_law.2.1 886 = .ok (.iload 6, 2) := by decide +kernel
theorem dd_L_law_888 : decode mm_L_law.2.1 888 = .ok (.i2l, 1) := by decide +kernel
theorem dd_L_law_889 : decode mm_L_law.2.1 889 = .ok (.lcmp, 1) := by decide +kernel
theorem dd_L_law_890 : decode mm_L_law.2.1 890 = .ok (.ifCond .eq 5, 3) := by decide +kernel
theorem dd_L_law_893 : decode mm_L_law.2.1 893 = .ok (.iconst 0, 1) := by decide +kernel
theorem dd_L_law_894 : decode mm_L_law.2.1 894 = .ok (.ireturn, 1) := by decide +kernel
theorem dd_L_law_895 : decode mm_L_law.2.1 895 = .ok (.goto 436, 3) := by decide +kernel
theorem dd_L_law_898 : decode mm_L_law.2.1 898 = .ok (.aload_n 1, 1) := by decide +kernel
theorem dd_L_law_899 : decode mm_L_law.2.1 899 = .ok (.aload_n 0, 1) := by decide +kernel
theorem dd_L_law_900 : decode mm_L_law.2.1 900 = .ok (.iload 4, 2) := by decide +kernel
theorem dd_L_law_902 : decode mm_L_law.2.1 902 = .ok (.iconst 1, 1) := by decide +kernel
theorem dd_L_law_903 : decode mm_L_law.2.1 903 = .ok (.iadd, 1) := by decide +kernel
theorem dd_L_law_904 : decode mm_L_law.2.1 904 = .ok (.iaload, 1) := by decide +kernel
theorem dd_L_law_905 : decode mm_L_law.2.1 905 = .ok (.invokestatic 143, 3) := by decide +kernel
theorem dd_L_law_908 : decode mm_L_law.2.1 908 = .ok (.istore 5, 2) := by decide +kernel
theorem dd_L_law_910 : decode mm_L_law.2.1 910 = .ok (.aload_n 2, 1) := by decide +kernel
theorem dd_L_law_911 : decode mm_L_law.2.1 911 = .ok (.aload_n 0, 1) := by decide +kernel
theorem dd_L_law_912 : decode mm_L_law.2.1 912 = .ok (.iload 4, 2) := by decide +kernel
theorem dd_L_law_914 : decode mm_L_law.2.1 914 = .ok (.iconst 1, 1) := by decide +kernel
theorem dd_L_law_915 : decode mm_L_law.2.1 915 = .ok (.iadd, 1) := by decide +kernel
theorem dd_L_law_916 : decode mm_L_law.2.1 916 = .ok (.iaload, 1) := by decide +kernel
theorem dd_L_law_917 : decode mm_L_law.2.1 917 = .ok (.invokevirtual 146, 3) := by decide +kernel
theorem dd_L_law_920 : decode mm_L_law.2.1 920 = .ok (.aload_n 2, 1) := by decide +kernel
theorem dd_L_law_921 : decode mm_L_law.2.1 921 = .ok (.invokevirtual 88, 3) := by decide +kernel
theorem dd_L_law_924 : decode mm_L_law.2.1 924 = .ok (.iload 5, 2) := by decide +kernel
theorem dd_L_law_926 : decode mm_L_law.2.1 926 = .ok (.if_icmp .eq 5, 3) := by decide +kernel
theorem dd_L_law_929 : decode mm_L_law.2.1 929 = .ok (.iconst 0, 1) := by decide +kernel
theorem dd_L_law_930 : decode mm_L_law.2.1 930 = .ok (.ireturn, 1) := by decide +kernel
theorem dd_L_law_931 : decode mm_L_law.2.1 931 = .ok (.goto 400, 3) := by decide +kernel
theorem dd_L_law_934 : decode mm_L_law.2.1 934 = .ok (.aload_n 1, 1) := by decide +kernel
theorem dd_L_law_935 : decode mm_L_law.2.1 935 = .ok (.aload_n 0, 1) := by decide +kernel
theorem dd_L_law_936 : decode mm_L_law.2.1 936 = .ok (.iload 4, 2) := by decide +kernel
theorem dd_L_law_938 : decode mm_L_law.2.1 938 = .ok (.iconst 1, 1) := by decide +kernel
theorem dd_L_law_939 : decode mm_L_law.2.1 939 = .ok (.iadd, 1) := by decide +kernel
theorem dd_L_law_940 : decode mm_L_law.2.1 940 = .ok (.iaload, 1) := by decide +kernel
theorem dd_L_law_941 : decode mm_L_law.2.1 941 = .ok (.aload_n 3, 1) := by decide +kernel
theorem dd_L_law_942 : decode mm_L_law.2.1 942 = .ok (.invokestatic 147, 3) := by decide +kernel
theorem dd_L_law_945 : decode mm_L_law.2.1 945 = .ok (.istore 5, 2) := by decide +kernel
theorem dd_L_law_947 : decode mm_L_law.2.1 947 = .ok (.aload_n 2, 1) := by decide +kernel
theorem dd_L_law_948 : decode mm_L_law.2.1 948 = .ok (.aload_n 0, 1) := by decide +kernel
theorem dd_L_law_949 : decode mm_L_law.2.1 949 = .ok (.iload 4, 2) := by decide +kernel
theorem dd_L_law_951 : decode mm_L_law.2.1 951 = .ok (.iconst 1, 1) := by decide +kernel
theorem dd_L_law_952 : decode mm_L_law.2.1 952 = .ok (.iadd, 1) := by decide +kernel
theorem dd_L_law_953 : decode mm_L_law.2.1 953 = .ok (.iaload, 1) := by decide +kernel
theorem dd_L_law_954 : decode mm_L_law.2.1 954 = .ok (.invokevirtual 149, 3) := by decide +kernel
theorem dd_L_law_957 : decode mm_L_law.2.1 957 = .ok (.istore 6, 2) := by decide +kernel
theorem dd_L_law_959 : decode mm_L_law.2.1 959 = .ok (.aload_n 2, 1) := by decide +kernel
theorem dd_L_law_960 : decode mm_L_law.2.1 960 = .ok (.invokevirtual 88, 3) := by decide +kernel
theorem dd_L_law_963 : decode mm_L_law.2.1 963 = .ok (.iload 5, 2) := by decide +kernel
theorem dd_L_law_965 : decode mm_L_law.2.1 965 = .ok (.if_icmp .eq 5, 3) := by decide +kernel
theorem dd_L_law_968 : decode mm_L_law.2.1 968 = .ok (.iconst 0, 1) := by decide +kernel
theorem dd_L_law_969 : decode mm_L_law.2.1 969 = .ok (.ireturn, 1) := by decide +kernel
theorem dd_L_law_970 : decode mm_L_law.2.1 970 = .ok (.iload 5, 2) := by decide +kernel
theorem dd_L_law_972 : decode mm_L_law.2.1 972 = .ok (.ifCond .ne 15, 3) := by decide +kernel
theorem dd_L_law_975 : decode mm_L_law.2.1 975 = .ok (.aload_n 3, 1) := by decide +kernel
theorem dd_L_law_976 : decode mm_L_law.2.1 976 = .ok (.iconst 0, 1) := by decide +kernel
theorem dd_L_law_977 : decode mm_L_law.2.1 977 = .ok (.laload, 1) := by decide +kernel
theorem dd_L_law_978 : decode mm_L_law.2.1 978 = .ok (.iload 6, 2) := by decide +kernel
theorem dd_L_law_980 : decode mm_L_law.2.1 980 = .ok (.i2l, 1) := by decide +kernel
theorem dd_L_law_981 : decode mm_L_law.2.1 981 = .ok (.lcmp, 1) := by decide +kernel
theorem dd_L_law_982 : decode mm_L_law.2.1 982 = .ok (.ifCond .eq 5, 3) := by decide +kernel
theorem dd_L_law_985 : decode mm_L_law.2.1 985 = .ok (.iconst 0, 1) := by decide +kernel
theorem dd_L_law_986 : decode mm_L_law.2.1 986 = .ok (.ireturn, 1) := by decide +kernel
theorem dd_L_law_987 : decode mm_L_law.2.1 987 = .ok (.goto 344, 3) := by decide +kernel
theorem dd_L_law_990 : decode mm_L_law.2.1 990 = .ok (.aload_n 1, 1) := by decide +kernel
theorem dd_L_law_991 : decode mm_L_law.2.1 991 = .ok (.aload_n 0, 1) := by decide +kernel
theorem dd_L_law_992 : decode mm_L_law.2.1 992 = .ok (.iload 4, 2) := by decide +kernel
theorem dd_L_law_994 : decode mm_L_law.2.1 994 = .ok (.iconst 1, 1) := by decide +kernel
theorem dd_L_law_995 : decode mm_L_law.2.1 995 = .ok (.iadd, 1) := by decide +kernel
theorem dd_L_law_996 : decode mm_L_law.2.1 996 = .ok (.iaload, 1) := by decide +kernel
theorem dd_L_law_997 : decode mm_L_law.2.1 997 = .ok (.aload_n 0, 1) := by decide +kernel
theorem dd_L_law_998 : decode mm_L_law.2.1 998 = .ok (.iload 4, 2) := by decide +kernel
theorem dd_L_law_1000 : decode mm_L_law.2.1 1000 = .ok (.iconst 2, 1) := by decide +kernel
theorem dd_L_law_1001 : decode mm_L_law.2.1 1001 = .ok (.iadd, 1) := by decide +kernel
theorem dd_L_law_1002 : decode mm_L_law.2.1 1002 = .ok (.iaload, 1) := by decide +kernel
theorem dd_L_law_1003 : decode mm_L_law.2.1 1003 = .ok (.aload_n 3, 1) := by decide +kernel
theorem dd_L_law_1004 : decode mm_L_law.2.1 1004 = .ok (.invokestatic 150, 3) := by decide +kernel
theorem dd_L_law_1007 : decode mm_L_law.2.1 1007 = .ok (.istore 5, 2) := by decide +kernel
theorem dd_L_law_1009 : decode mm_L_law.2.1 1009 = .ok (.aload_n 2, 1) := by decide +kernel
theorem dd_L_law_1010 : decode mm_L_law.2.1 1010 = .ok (.aload_n 0, 1) := by decide +kernel
theorem dd_L_law_1011 : decode mm_L_law.2.1 1011 = .ok (.iload 4, 2) := by decide +kernel
theorem dd_L_law_1013 : decode mm_L_law.2.1 1013 = .ok (.iconst 1, 1) := by decide +kernel
theorem dd_L_law_1014 : decode mm_L_law.2.1 1014 = .ok (.iadd, 1) := by decide +kernel
theorem dd_L_law_1015 : decode mm_L_law.2.1 1015 = .ok (.iaload, 1) := by decide +kernel
theorem dd_L_law_1016 : decode mm_L_law.2.1 1016 = .ok (.aload_n 0, 1) := by decide +kernel
theorem dd_L_law_1017 : decode mm_L_law.2.1 1017 = .ok (.iload 4, 2) := by decide +kernel
theorem dd_L_law_1019 : decode mm_L_law.2.1 1019 = .ok (.iconst 2, 1) := by decide +kernel
theorem dd_L_law_1020 : decode mm_L_law.2.1 1020 = .ok (.iadd, 1) := by decide +kernel
theorem dd_L_law_1021 : decode mm_L_law.2.1 1021 = .ok (.iaload, 1) := by decide +kernel
theorem dd_L_law_1022 : decode mm_L_law.2.1 1022 = .ok (.invokevirtual 152, 3) := by decide +kernel
theorem dd_L_law_1025 : decode mm_L_law.2.1 1025 = .ok (.istore 6, 2) := by decide +kernel
theorem dd_L_law_1027 : decode mm_L_law.2.1 1027 = .ok (.aload_n 2, 1) := by decide +kernel
theorem dd_L_law_1028 : decode mm_L_law.2.1 1028 = .ok (.invokevirtual 88, 3) := by decide +kernel
theorem dd_L_law_1031 : decode mm_L_law.2.1 1031 = .ok (.iload 5, 2) := by decide +kernel
theorem dd_L_law_1033 : decode mm_L_law.2.1 1033 = .ok (.if_icmp .eq 5, 3) := by decide +kernel
theorem dd_L_law_1036 : decode mm_L_law.2.1 1036 = .ok (.iconst 0, 1) := by decide +kernel
theorem dd_L_law_1037 : decode mm_L_law.2.1 1037 = .ok (.ireturn, 1) := by decide +kernel
theorem dd_L_law_1038 : decode mm_L_law.2.1 1038 = .ok (.iload 5, 2) := by decide +kernel
theorem dd_L_law_1040 : decode mm_L_law.2.1 1040 = .ok (.ifCond .ne 15, 3) := by decide +kernel
theorem dd_L_law_1043 : decode mm_L_law.2.1 1043 = .ok (.aload_n 3, 1) := by decide +kernel
theorem dd_L_law_1044 : decode mm_L_law.2.1 1044 = .ok (.iconst 0, 1) := by decide +kernel
theorem dd_L_law_1045 : decode mm_L_law.2.1 1045 = .ok (.laload, 1) := by decide +kernel
theorem dd_L_law_1046 : decode mm_L_law.2.1 1046 = .ok (.iload 6, 2) := by decide +kernel
theorem dd_L_law_1048 : decode mm_L_law.2.1 1048 = .ok (.i2l, 1) := by decide +kernel
theorem dd_L_law_1049 : decode mm_L_law.2.1 1049 = .ok (.lcmp, 1) := by decide +kernel
theorem dd_L_law_1050 : decode mm_L_law.2.1 1050 = .ok (.ifCond .eq 5, 3) := by decide +kernel
theorem dd_L_law_1053 : decode mm_L_law.2.1 1053 = .ok (.iconst 0, 1) := by decide +kernel
theorem dd_L_law_1054 : decode mm_L_law.2.1 1054 = .ok (.ireturn, 1) := by decide +kernel
theorem dd_L_law_1055 : decode mm_L_law.2.1 1055 = .ok (.goto 276, 3) := by decide +kernel
theorem dd_L_law_1058 : decode mm_L_law.2.1 1058 = .ok (.aload_n 1, 1) := by decide +kernel
theorem dd_L_law_1059 : decode mm_L_law.2.1 1059 = .ok (.aload_n 0, 1) := by decide +kernel
theorem dd_L_law_1060 : decode mm_L_law.2.1 1060 = .ok (.iload 4, 2) := by decide +kernel
theorem dd_L_law_1062 : decode mm_L_law.2.1 1062 = .ok (.iconst 1, 1) := by decide +kernel
theorem dd_L_law_1063 : decode mm_L_law.2.1 1063 = .ok (.iadd, 1) := by decide +kernel
theorem dd_L_law_1064 : decode mm_L_law.2.1 1064 = .ok (.iaload, 1) := by decide +kernel
theorem dd_L_law_1065 : decode mm_L_law.2.1 1065 = .ok (.aload_n 0, 1) := by decide +kernel
theorem dd_L_law_1066 : decode mm_L_law.2.1 1066 = .ok (.iload 4, 2) := by decide +kernel
theorem dd_L_law_1068 : decode mm_L_law.2.1 1068 = .ok (.iconst 2, 1) := by decide +kernel
theorem dd_L_law_1069 : decode mm_L_law.2.1 1069 = .ok (.iadd, 1) := by decide +kernel
theorem dd_L_law_1070 : decode mm_L_law.2.1 1070 = .ok (.iaload, 1) := by decide +kernel
theorem dd_L_law_1071 : decode mm_L_law.2.1 1071 = .ok (.aload_n 3, 1) := by decide +kernel
theorem dd_L_law_1072 : decode mm_L_law.2.1 1072 = .ok (.invokestatic 153, 3) := by decide +kernel
theorem dd_L_law_1075 : decode mm_L_law.2.1 1075 = .ok (.istore 5, 2) := by decide +kernel
theorem dd_L_law_1077 : decode mm_L_law.2.1 1077 = .ok (.aload_n 2, 1) := by decide +kernel
theorem dd_L_law_1078 : decode mm_L_law.2.1 1078 = .ok (.aload_n 0, 1) := by decide +kernel
theorem dd_L_law_1079 : decode mm_L_law.2.1 1079 = .ok (.iload 4, 2) := by decide +kernel
theorem dd_L_law_1081 : decode mm_L_law.2.1 1081 = .ok (.iconst 1, 1) := by decide +kernel
theorem dd_L_law_1082 : decode mm_L_law.2.1 1082 = .ok (.iadd, 1) := by decide +kernel
theorem dd_L_law_1083 : decode mm_L_law.2.1 1083 = .ok (.iaload, 1) := by decide +kernel
theorem dd_L_law_1084 : decode mm_L_law.2.1 1084 = .ok (.aload_n 0, 1) := by decide +kernel
theorem dd_L_law_1085 : decode mm_L_law.2.1 1085 = .ok (.iload 4, 2) := by decide +kernel
theorem dd_L_law_1087 : decode mm_L_law.2.1 1087 = .ok (.iconst 2, 1) := by decide +kernel
theorem dd_L_law_1088 : decode mm_L_law.2.1 1088 = .ok (.iadd, 1) := by decide +kernel
theorem dd_L_law_1089 : decode mm_L_law.2.1 1089 = .ok (.iaload, 1) := by decide +kernel
theorem dd_L_law_1090 : decode mm_L_law.2.1 1090 = .ok (.invokevirtual 155, 3) := by decide +kernel
theorem dd_L_law_1093 : decode mm_L_law.2.1 1093 = .ok (.istore 6, 2) := by decide +kernel
theorem dd_L_law_1095 : decode mm_L_law.2.1 1095 = .ok (.aload_n 2, 1) := by decide +kernel
theorem dd_L_law_1096 : decode mm_L_law.2.1 1096 = .ok (.invokevirtual 88, 3) := by decide +kernel
theorem dd_L_law_1099 : decode mm_L_law.2.1 1099 = .ok (.iload 5, 2) := by decide +kernel
theorem dd_L_law_1101 : decode mm_L_law.2.1 1101 = .ok (.if_icmp .eq 5, 3) := by decide +kernel
theorem dd_L_law_1104 : decode mm_L_law.2.1 1104 = .ok (.iconst 0, 1) := by decide +kernel
theorem dd_L_law_1105 : decode mm_L_law.2.1 1105 = .ok (.ireturn, 1) := by decide +kernel
theorem dd_L_law_1106 : decode mm_L_law.2.1 1106 = .ok (.iload 5, 2) := by decide +kernel
theorem dd_L_law_1108 : decode mm_L_law.2.1 1108 = .ok (.ifCond .ne 15, 3) := by decide +kernel
theorem dd_L_law_1111 : decode mm_L_law.2.1 1111 = .ok (.aload_n 3, 1) := by decide +kernel
theorem dd_L_law_1112 : decode mm_L_law.2.1 1112 = .ok (.iconst 0, 1) := by decide +kernel
theorem dd_L_law_1113 : decode mm_L_law.2.1 1113 = .ok (.laload, 1) := by decide +kernel
theorem dd_L_law_1114 : decode mm_L_law.2.1 1114 = .ok (.iload 6, 2) := by decide +kernel
theorem dd_L_law_1116 : decode mm_L_law.2.1 1116 = .ok (.i2l, 1) := by decide +kernel
theorem dd_L_law_1117 : decode mm_L_law.2.1 1117 = .ok (.lcmp, 1) := by decide +kernel
theorem dd_L_law_1118 : decode mm_L_law.2.1 1118 = .ok (.ifCond .eq 5, 3) := by decide +kernel
theorem dd_L_law_1121 : decode mm_L_law.2.1 1121 = .ok (.iconst 0, 1) := by decide +kernel
theorem dd_L_law_1122 : decode mm_L_law.2.1 1122 = .ok (.ireturn, 1) := by decide +kernel
theorem dd_L_law_1123 : decode mm_L_law.2.1 1123 = .ok (.goto 208, 3) := by decide +kernel
theorem dd_L_law_1126 : decode mm_L_law.2.1 1126 = .ok (.aload_n 1, 1) := by decide +kernel
theorem dd_L_law_1127 : decode mm_L_law.2.1 1127 = .ok (.aload_n 0, 1) := by decide +kernel
theorem dd_L_law_1128 : decode mm_L_law.2.1 1128 = .ok (.iload 4, 2) := by decide +kernel
theorem dd_L_law_1130 : decode mm_L_law.2.1 1130 = .ok (.iconst 1, 1) := by decide +kernel
theorem dd_L_law_1131 : decode mm_L_law.2.1 1131 = .ok (.iadd, 1) := by decide +kernel
theorem dd_L_law_1132 : decode mm_L_law.2.1 1132 = .ok (.iaload, 1) := by decide +kernel
theorem dd_L_law_1133 : decode mm_L_law.2.1 1133 = .ok (.aload_n 0, 1) := by decide +kernel
theorem dd_L_law_1134 : decode mm_L_law.2.1 1134 = .ok (.iload 4, 2) := by decide +kernel
theorem dd_L_law_1136 : decode mm_L_law.2.1 1136 = .ok (.iconst 2, 1) := by decide +kernel
theorem dd_L_law_1137 : decode mm_L_law.2.1 1137 = .ok (.iadd, 1) := by decide +kernel
theorem dd_L_law_1138 : decode mm_L_law.2.1 1138 = .ok (.iaload, 1) := by decide +kernel
theorem dd_L_law_1139 : decode mm_L_law.2.1 1139 = .ok (.aload_n 0, 1) := by decide +kernel
theorem dd_L_law_1140 : decode mm_L_law.2.1 1140 = .ok (.iload 4, 2) := by decide +kernel
theorem dd_L_law_1142 : decode mm_L_law.2.1 1142 = .ok (.iconst 3, 1) := by decide +kernel
theorem dd_L_law_1143 : decode mm_L_law.2.1 1143 = .ok (.iadd, 1) := by decide +kernel
theorem dd_L_law_1144 : decode mm_L_law.2.1 1144 = .ok (.iaload, 1) := by decide +kernel
theorem dd_L_law_1145 : decode mm_L_law.2.1 1145 = .ok (.aload_n 3, 1) := by decide +kernel
theorem dd_L_law_1146 : decode mm_L_law.2.1 1146 = .ok (.invokestatic 156, 3) := by decide +kernel
theorem dd_L_law_1149 : decode mm_L_law.2.1 1149 = .ok (.istore 5, 2) := by decide +kernel
theorem dd_L_law_1151 : decode mm_L_law.2.1 1151 = .ok (.aload_n 2, 1) := by decide +kernel
theorem dd_L_law_1152 : decode mm_L_law.2.1 1152 = .ok (.aload_n 0, 1) := by decide +kernel
theorem dd_L_law_1153 : decode mm_L_law.2.1 1153 = .ok (.iload 4, 2) := by decide +kernel
theorem dd_L_law_1155 : decode mm_L_law.2.1 1155 = .ok (.iconst 1, 1) := by decide +kernel
theorem dd_L_law_1156 : decode mm_L_law.2.1 1156 = .ok (.iadd, 1) := by decide +kernel
theorem dd_L_law_1157 : decode mm_L_law.2.1 1157 = .ok (.iaload, 1) := by decide +kernel
theorem dd_L_law_1158 : decode mm_L_law.2.1 1158 = .ok (.aload_n 0, 1) := by decide +kernel
theorem dd_L_law_1159 : decode mm_L_law.2.1 1159 = .ok (.iload 4, 2) := by decide +kernel
theorem dd_L_law_1161 : decode mm_L_law.2.1 1161 = .ok (.iconst 2, 1) := by decide +kernel
theorem dd_L_law_1162 : decode mm_L_law.2.1 1162 = .ok (.iadd, 1) := by decide +kernel
theorem dd_L_law_1163 : decode mm_L_law.2.1 1163 = .ok (.iaload, 1) := by decide +kernel
theorem dd_L_law_1164 : decode mm_L_law.2.1 1164 = .ok (.aload_n 0, 1) := by decide +kernel
theorem dd_L_law_1165 : decode mm_L_law.2.1 1165 = .ok (.iload 4, 2) := by decide +kernel
theorem dd_L_law_1167 : decode mm_L_law.2.1 1167 = .ok (.iconst 3, 1) := by decide +kernel
theorem dd_L_law_1168 : decode mm_L_law.2.1 1168 = .ok (.iadd, 1) := by decide +kernel
theorem dd_L_law_1169 : decode mm_L_law.2.1 1169 = .ok (.iaload, 1) := by decide +kernel
theorem dd_L_law_1170 : decode mm_L_law.2.1 1170 = .ok (.invokevirtual 158, 3) := by decide +kernel
theorem dd_L_law_1173 : decode mm_L_law.2.1 1173 = .ok (.istore 6, 2) := by decide +kernel
theorem dd_L_law_1175 : decode mm_L_law.2.1 1175 = .ok (.aload_n 2, 1) := by decide +kernel
theorem dd_L_law_1176 : decode mm_L_law.2.1 1176 = .ok (.invokevirtual 88, 3) := by decide +kernel
theorem dd_L_law_1179 : decode mm_L_law.2.1 1179 = .ok (.iload 5, 2) := by decide +kernel
theorem dd_L_law_1181 : decode mm_L_law.2.1 1181 = .ok (.if_icmp .eq 5, 3) := by decide +kernel
theorem dd_L_law_1184 : decode mm_L_law.2.1 1184 = .ok (.iconst 0, 1) := by decide +kernel
theorem dd_L_law_1185 : decode mm_L_law.2.1 1185 = .ok (.ireturn, 1) := by decide +kernel
theorem dd_L_law_1186 : decode mm_L_law.2.1 1186 = .ok (.iload 5, 2) := by decide +kernel
theorem dd_L_law_1188 : decode mm_L_law.2.1 1188 = .ok (.ifCond .ne 15, 3) := by decide +kernel
theorem dd_L_law_1191 : decode mm_L_law.2.1 1191 = .ok (.aload_n 3, 1) := by decide +kernel
theorem dd_L_law_1192 : decode mm_L_law.2.1 1192 = .ok (.iconst 0, 1) := by decide +kernel
theorem dd_L_law_1193 : decode mm_L_law.2.1 1193 = .ok (.laload, 1) := by decide +kernel
theorem dd_L_law_1194 : decode mm_L_law.2.1 1194 = .ok (.iload 6, 2) := by decide +kernel
theorem dd_L_law_1196 : decode mm_L_law.2.1 1196 = .ok (.i2l, 1) := by decide +kernel
theorem dd_L_law_1197 : decode mm_L_law.2.1 1197 = .ok (.lcmp, 1) := by decide +kernel
theorem dd_L_law_1198 : decode mm_L_law.2.1 1198 = .ok (.ifCond .eq 5, 3) := by decide +kernel
theorem dd_L_law_1201 : decode mm_L_law.2.1 1201 = .ok (.iconst 0, 1) := by decide +kernel
theorem dd_L_law_1202 : decode mm_L_law.2.1 1202 = .ok (.ireturn, 1) := by decide +kernel
theorem dd_L_law_1203 : decode mm_L_law.2.1 1203 = .ok (.goto 128, 3) := by decide +kernel
theorem dd_L_law_1206 : decode mm_L_law.2.1 1206 = .ok (.aload_n 1, 1) := by decide +kernel
theorem dd_L_law_1207 : decode mm_L_law.2.1 1207 = .ok (.aload_n 0, 1) := by decide +kernel
theorem dd_L_law_1208 : decode mm_L_law.2.1 1208 = .ok (.iload 4, 2) := by decide +kernel
theorem dd_L_law_1210 : decode mm_L_law.2.1 1210 = .ok (.iconst 1, 1) := by decide +kernel
theorem dd_L_law_1211 : decode mm_L_law.2.1 1211 = .ok (.iadd, 1) := by decide +kernel
theorem dd_L_law_1212 : decode mm_L_law.2.1 1212 = .ok (.iaload, 1) := by decide +kernel
theorem dd_L_law_1213 : decode mm_L_law.2.1 1213 = .ok (.aload_n 3, 1) := by decide +kernel
theorem dd_L_law_1214 : decode mm_L_law.2.1 1214 = .ok (.invokestatic 159, 3) := by decide +kernel
theorem dd_L_law_1217 : decode mm_L_law.2.1 1217 = .ok (.istore 5, 2) := by decide +kernel
theorem dd_L_law_1219 : decode mm_L_law.2.1 1219 = .ok (.aload_n 2, 1) := by decide +kernel
theorem dd_L_law_1220 : decode mm_L_law.2.1 1220 = .ok (.aload_n 0, 1) := by decide +kernel
theorem dd_L_law_1221 : decode mm_L_law.2.1 1221 = .ok (.iload 4, 2) := by decide +kernel
theorem dd_L_law_1223 : decode mm_L_law.2.1 1223 = .ok (.iconst 1, 1) := by decide +kernel
theorem dd_L_law_1224 : decode mm_L_law.2.1 1224 = .ok (.iadd, 1) := by decide +kernel
theorem dd_L_law_1225 : decode mm_L_law.2.1 1225 = .ok (.iaload, 1) := by decide +kernel
theorem dd_L_law_1226 : decode mm_L_law.2.1 1226 = .ok (.invokevirtual 161, 3) := by decide +kernel
theorem dd_L_law_1229 : decode mm_L_law.2.1 1229 = .ok (.istore 6, 2) := by decide +kernel
theorem dd_L_law_1231 : decode mm_L_law.2.1 1231 = .ok (.aload_n 2, 1) := by decide +kernel
theorem dd_L_law_1232 : decode mm_L_law.2.1 1232 = .ok (.invokevirtual 88, 3) := by decide +kernel
theorem dd_L_law_1235 : decode mm_L_law.2.1 1235 = .ok (.iload 5, 2) := by decide +kernel
theorem dd_L_law_1237 : decode mm_L_law.2.1 1237 = .ok (.if_icmp .eq 5, 3) := by decide +kernel
theorem dd_L_law_1240 : decode mm_L_law.2.1 1240 = .ok (.iconst 0, 1) := by decide +kernel
theorem dd_L_law_1241 : decode mm_L_law.2.1 1241 = .ok (.ireturn, 1) := by decide +kernel
theorem dd_L_law_1242 : decode mm_L_law.2.1 1242 = .ok (.iload 5, 2) := by decide +kernel
theorem dd_L_law_1244 : decode mm_L_law.2.1 1244 = .ok (.ifCond .ne 22, 3) := by decide +kernel
theorem dd_L_law_1247 : decode mm_L_law.2.1 1247 = .ok (.aload_n 3, 1) := by decide +kernel
theorem dd_L_law_1248 : decode mm_L_law.2.1 1248 = .ok (.iconst 0, 1) := by decide +kernel
theorem dd_L_law_1249 : decode mm_L_law.2.1 1249 = .ok (.laload, 1) := by decide +kernel
theorem dd_L_law_1250 : decode mm_L_law.2.1 1250 = .ok (.iload 6, 2) := by decide +kernel
theorem dd_L_law_1252 : decode mm_L_law.2.1 1252 = .ok (.ifCond .eq 7, 3) := by decide +kernel
theorem dd_L_law_1255 : decode mm_L_law.2.1 1255 = .ok (.lconst 1, 1) := by decide +kernel
theorem dd_L_law_1256 : decode mm_L_law.2.1 1256 = .ok (.goto 4, 3) := by decide +kernel
theorem dd_L_law_1259 : decode mm_L_law.2.1 1259 = .ok (.lconst 0, 1) := by decide +kernel
theorem dd_L_law_1260 : decode mm_L_law.2.1 1260 = .ok (.lcmp, 1) := by decide +kernel
theorem dd_L_law_1261 : decode mm_L_law.2.1 1261 = .ok (.ifCond .eq 5, 3) := by decide +kernel
theorem dd_L_law_1264 : decode mm_L_law.2.1 1264 = .ok (.iconst 0, 1) := by decide +kernel
theorem dd_L_law_1265 : decode mm_L_law.2.1 1265 = .ok (.ireturn, 1) := by decide +kernel
theorem dd_L_law_1266 : decode mm_L_law.2.1 1266 = .ok (.goto 65, 3) := by decide +kernel
theorem dd_L_law_1269 : decode mm_L_law.2.1 1269 = .ok (.aload_n 1, 1) := by decide +kernel
theorem dd_L_law_1270 : decode mm_L_law.2.1 1270 = .ok (.aload_n 0, 1) := by decide +kernel
theorem dd_L_law_1271 : decode mm_L_law.2.1 1271 = .ok (.iload 4, 2) := by decide +kernel
theorem dd_L_law_1273 : decode mm_L_law.2.1 1273 = .ok (.iconst 1, 1) := by decide +kernel
theorem dd_L_law_1274 : decode mm_L_law.2.1 1274 = .ok (.iadd, 1) := by decide +kernel
theorem dd_L_law_1275 : decode mm_L_law.2.1 1275 = .ok (.iaload, 1) := by decide +kernel
theorem dd_L_law_1276 : decode mm_L_law.2.1 1276 = .ok (.invokestatic 162, 3) := by decide +kernel
theorem dd_L_law_1279 : decode mm_L_law.2.1 1279 = .ok (.istore 5, 2) := by decide +kernel
theorem dd_L_law_1281 : decode mm_L_law.2.1 1281 = .ok (.aload_n 2, 1) := by decide +kernel
theorem dd_L_law_1282 : decode mm_L_law.2.1 1282 = .ok (.aload_n 0, 1) := by decide +kernel
theorem dd_L_law_1283 : decode mm_L_law.2.1 1283 = .ok (.iload 4, 2) := by decide +kernel
theorem dd_L_law_1285 : decode mm_L_law.2.1 1285 = .ok (.iconst 1, 1) := by decide +kernel
theorem dd_L_law_1286 : decode mm_L_law.2.1 1286 = .ok (.iadd, 1) := by decide +kernel
theorem dd_L_law_1287 : decode mm_L_law.2.1 1287 = .ok (.iaload, 1) := by decide +kernel
theorem dd_L_law_1288 : decode mm_L_law.2.1 1288 = .ok (.invokevirtual 164, 3) := by decide +kernel
theorem dd_L_law_1291 : decode mm_L_law.2.1 1291 = .ok (.aload_n 2, 1) := by decide +kernel
theorem dd_L_law_1292 : decode mm_L_law.2.1 1292 = .ok (.invokevirtual 88, 3) := by decide +kernel
theorem dd_L_law_1295 : decode mm_L_law.2.1 1295 = .ok (.iload 5, 2) := by decide +kernel
theorem dd_L_law_1297 : decode mm_L_law.2.1 1297 = .ok (.if_icmp .eq 5, 3) := by decide +kernel
theorem dd_L_law_1300 : decode mm_L_law.2.1 1300 = .ok (.iconst 0, 1) := by decide +kernel
theorem dd_L_law_1301 : decode mm_L_law.2.1 1301 = .ok (.ireturn, 1) := by decide +kernel
theorem dd_L_law_1302 : decode mm_L_law.2.1 1302 = .ok (.goto 29, 3) := by decide +kernel
theorem dd_L_law_1305 : decode mm_L_law.2.1 1305 = .ok (.aload_n 1, 1) := by decide +kernel
theorem dd_L_law_1306 : decode mm_L_law.2.1 1306 = .ok (.invokevirtual 165, 3) := by decide +kernel
theorem dd_L_law_1309 : decode mm_L_law.2.1 1309 = .ok (.aload_n 2, 1) := by decide +kernel
theorem dd_L_law_1310 : decode mm_L_law.2.1 1310 = .ok (.invokevirtual 168, 3) := by decide +kernel
theorem dd_L_law_1313 : decode mm_L_law.2.1 1313 = .ok (.if_icmp .eq 18, 3) := by decide +kernel
theorem dd_L_law_1316 : decode mm_L_law.2.1 1316 = .ok (.iconst 0, 1) := by decide +kernel
theorem dd_L_law_1317 : decode mm_L_law.2.1 1317 = .ok (.ireturn, 1) := by decide +kernel
theorem dd_L_law_1318 : decode mm_L_law.2.1 1318 = .ok (.aload_n 1, 1) := by decide +kernel
theorem dd_L_law_1319 : decode mm_L_law.2.1 1319 = .ok (.invokevirtual 169, 3) := by decide +kernel
theorem dd_L_law_1322 : decode mm_L_law.2.1 1322 = .ok (.aload_n 2, 1) := by decide +kernel
theorem dd_L_law_1323 : decode mm_L_law.2.1 1323 = .ok (.invokevirtual 173, 3) := by decide +kernel
theorem dd_L_law_1326 : decode mm_L_law.2.1 1326 = .ok (.if_icmp .eq 5, 3) := by decide +kernel
theorem dd_L_law_1329 : decode mm_L_law.2.1 1329 = .ok (.iconst 0, 1) := by decide +kernel
theorem dd_L_law_1330 : decode mm_L_law.2.1 1330 = .ok (.ireturn, 1) := by decide +kernel
theorem dd_L_law_1331 : decode mm_L_law.2.1 1331 = .ok (.iinc 4 4, 3) := by decide +kernel
theorem dd_L_law_1334 : decode mm_L_law.2.1 1334 = .ok (.goto (-1311), 3) := by decide +kernel
theorem dd_L_law_1337 : decode mm_L_law.2.1 1337 = .ok (.iconst 1, 1) := by decide +kernel
theorem dd_L_law_1338 : decode mm_L_law.2.1 1338 = .ok (.ireturn, 1) := by decide +kernel
theorem nw_L_8 : xa_N "NotedVolumeLaw" 8 0 [.null, .null, .null, .null, .int 0, .int 0, .int 0] := ⟨_, _, _, ty_0, rfl, rfl, tk_0, by decide +kernel, ly_0, iw_33, iw_34, iw_1⟩
theorem nw_L_79 : xa_N "NotedVolumeLaw" 79 9 [.int 0, .int 0, .null, .null, .null, .null, .null, .int 0, .int 0, .null, .int 0, .null, .null, .int 0, .int 0, .null, .null, .null, .null, .null, .null, .null, .null, .null, .null, .null, .null, .null] := ⟨_, _, _, ty_9, rfl, rfl, tk_9, by decide +kernel, ly_9, iw_1080, iw_1081, iw_9⟩
theorem iv_L_law_4 {G : xa_G} {rest : List Value} {h : xa_H} {b : Nat} : xa_inv G mm_L_law mm_V_init 4 (.ref b :: rest) [.ref b] rest h := xi_I (n := 0) (As := []) dd_L_law_4 ok_V_init rfl iw_37 iw_35 iw_36 (by decide +kernel) rfl
theorem iv_L_law_12 {G : xa_G} {rest : List Value} {h : xa_H} {b : Nat} : xa_inv G mm_L_law mm_M_init 12 (.ref b :: rest) [.ref b] rest h := xi_I (n := 0) (As := []) dd_L_law_12 ok_M_init rfl iw_1084 iw_1082 iw_1083 (by decide +kernel) rfl
theorem iv_L_law_176 {G : xa_G} {rest : List Value} {h : xa_H} {a1 a2 a3 a4 a5 : Value} : xa_inv G mm_L_law mm_L_make 176 (a5 :: a4 :: a3 :: a2 :: a1 :: rest) [a1, a2, a3, a4, a5] rest h := xi_S (n := 5) (as := [a1, a2, a3, a4, a5]) dd_L_law_176 ok_L_make iw_421 iw_422 (by decide +kernel) rfl
theorem iv_L_law_208 {G : xa_G} {rest fs : List Value} {h : xa_H} {b : Nat} {a1 a2 a3 : Value} (hb : h b = some (.inr (9, fs))) : xa_inv G mm_L_law mm_M_make 208 (a3 :: a2 :: a1 :: .ref b :: rest) [.ref b, a1, a2, a3] rest h := xi_V (n := 3) (As := [a1, a2, a3]) dd_L_law_208 ok_M_make iw_1176 iw_1177 rfl iw_1178 (by decide +kernel) rfl hb
theorem iv_L_law_214 {G : xa_G} {rest fs : List Value} {h : xa_H} {b : Nat} (hb : h b = some (.inr (9, fs))) : xa_inv G mm_L_law mm_M_thrown 214 (.ref b :: rest) [.ref b] rest h := xi_V (n := 0) (As := []) dd_L_law_214 ok_M_thrown iw_1172 iw_1173 rfl iw_1174 (by decide +kernel) rfl hb
theorem iv_L_law_252 {G : xa_G} {rest : List Value} {h : xa_H} {a1 a2 a3 : Value} : xa_inv G mm_L_law mm_L_change 252 (a3 :: a2 :: a1 :: rest) [a1, a2, a3] rest h := xi_S (n := 3) (as := [a1, a2, a3]) dd_L_law_252 ok_L_change iw_863 iw_864 (by decide +kernel) rfl
theorem iv_L_law_264 {G : xa_G} {rest fs : List Value} {h : xa_H} {b : Nat} {a1 : Value} (hb : h b = some (.inr (9, fs))) : xa_inv G mm_L_law mm_M_change 264 (a1 :: .ref b :: rest) [.ref b, a1] rest h := xi_V (n := 1) (As := [a1]) dd_L_law_264 ok_M_change iw_1228 iw_1229 rfl iw_1230 (by decide +kernel) rfl hb
theorem iv_L_law_270 {G : xa_G} {rest fs : List Value} {h : xa_H} {b : Nat} (hb : h b = some (.inr (9, fs))) : xa_inv G mm_L_law mm_M_thrown 270 (.ref b :: rest) [.ref b] rest h := xi_V (n := 0) (As := []) dd_L_law_270 ok_M_thrown iw_1172 iw_1173 rfl iw_1174 (by decide +kernel) rfl hb
theorem iv_L_law_320 {G : xa_G} {rest : List Value} {h : xa_H} {a1 a2 a3 a4 a5 : Value} : xa_inv G mm_L_law mm_L_rename 320 (a5 :: a4 :: a3 :: a2 :: a1 :: rest) [a1, a2, a3, a4, a5] rest h := xi_S (n := 5) (as := [a1, a2, a3, a4, a5]) dd_L_law_320 ok_L_rename iw_871 iw_872 (by decide +kernel) rfl
theorem iv_L_law_344 {G : xa_G} {rest fs : List Value} {h : xa_H} {b : Nat} {a1 a2 a3 : Value} (hb : h b = some (.inr (9, fs))) : xa_inv G mm_L_law mm_M_rename 344 (a3 :: a2 :: a1 :: .ref b :: rest) [.ref b, a1, a2, a3] rest h := xi_V (n := 3) (As := [a1, a2, a3]) dd_L_law_344 ok_M_rename iw_1232 iw_1233 rfl iw_1234 (by decide +kernel) rfl hb
theorem iv_L_law_350 {G : xa_G} {rest fs : List Value} {h : xa_H} {b : Nat} (hb : h b = some (.inr (9, fs))) : xa_inv G mm_L_law mm_M_thrown 350 (.ref b :: rest) [.ref b] rest h := xi_V (n := 0) (As := []) dd_L_law_350 ok_M_thrown iw_1172 iw_1173 rfl iw_1174 (by decide +kernel) rfl hb
theorem iv_L_law_395 {G : xa_G} {rest : List Value} {h : xa_H} {a1 a2 a3 : Value} : xa_inv G mm_L_law mm_L_remove 395 (a3 :: a2 :: a1 :: rest) [a1, a2, a3] rest h := xi_S (n := 3) (as := [a1, a2, a3]) dd_L_law_395 ok_L_remove iw_883 iw_884 (by decide +kernel) rfl
theorem iv_L_law_407 {G : xa_G} {rest fs : List Value} {h : xa_H} {b : Nat} {a1 : Value} (hb : h b = some (.inr (9, fs))) : xa_inv G mm_L_law mm_M_remove 407 (a1 :: .ref b :: rest) [.ref b, a1] rest h := xi_V (n := 1) (As := [a1]) dd_L_law_407 ok_M_remove iw_1240 iw_1241 rfl iw_1242 (by decide +kernel) rfl hb
theorem iv_L_law_413 {G : xa_G} {rest fs : List Value} {h : xa_H} {b : Nat} (hb : h b = some (.inr (9, fs))) : xa_inv G mm_L_law mm_M_thrown 413 (.ref b :: rest) [.ref b] rest h := xi_V (n := 0) (As := []) dd_L_law_413 ok_M_thrown iw_1172 iw_1173 rfl iw_1174 (by decide +kernel) rfl hb
theorem iv_L_law_458 {G : xa_G} {rest : List Value} {h : xa_H} {a1 a2 a3 : Value} : xa_inv G mm_L_law mm_L_close 458 (a3 :: a2 :: a1 :: rest) [a1, a2, a3] rest h := xi_S (n := 3) (as := [a1, a2, a3]) dd_L_law_458 ok_L_close iw_900 iw_901 (by decide +kernel) rfl
theorem iv_L_law_470 {G : xa_G} {rest fs : List Value} {h : xa_H} {b : Nat} {a1 : Value} (hb : h b = some (.inr (9, fs))) : xa_inv G mm_L_law mm_M_close 470 (a1 :: .ref b :: rest) [.ref b, a1] rest h := xi_V (n := 1) (As := [a1]) dd_L_law_470 ok_M_close iw_1248 iw_1249 rfl iw_1250 (by decide +kernel) rfl hb
theorem iv_L_law_476 {G : xa_G} {rest fs : List Value} {h : xa_H} {b : Nat} (hb : h b = some (.inr (9, fs))) : xa_inv G mm_L_law mm_M_thrown 476 (.ref b :: rest) [.ref b] rest h := xi_V (n := 0) (As := []) dd_L_law_476 ok_M_thrown iw_1172 iw_1173 rfl iw_1174 (by decide +kernel) rfl hb
theorem iv_L_law_514 {G : xa_G} {rest fs : List Value} {h : xa_H} {b : Nat} (hb : h b = some (.inr (0, fs))) : xa_inv G mm_L_law mm_V_open 514 (.ref b :: rest) [.ref b] rest h := xi_V (n := 0) (As := []) dd_L_law_514 ok_V_open iw_163 iw_164 rfl iw_165 (by decide +kernel) rfl hb
theorem iv_L_law_518 {G : xa_G} {rest fs : List Value} {h : xa_H} {b : Nat} (hb : h b = some (.inr (9, fs))) : xa_inv G mm_L_law mm_M_open 518 (.ref b :: rest) [.ref b] rest h := xi_V (n := 0) (As := []) dd_L_law_518 ok_M_open iw_1252 iw_1253 rfl iw_1254 (by decide +kernel) rfl hb
theorem iv_L_law_540 {G : xa_G} {rest : List Value} {h : xa_H} {a1 a2 a3 a4 : Value} : xa_inv G mm_L_law mm_L_of 540 (a4 :: a3 :: a2 :: a1 :: rest) [a1, a2, a3, a4] rest h := xi_S (n := 4) (as := [a1, a2, a3, a4]) dd_L_law_540 ok_L_of iw_909 iw_910 (by decide +kernel) rfl
theorem iv_L_law_558 {G : xa_G} {rest fs : List Value} {h : xa_H} {b : Nat} {a1 a2 : Value} (hb : h b = some (.inr (9, fs))) : xa_inv G mm_L_law mm_M_of 558 (a2 :: a1 :: .ref b :: rest) [.ref b, a1, a2] rest h := xi_V (n := 2) (As := [a1, a2]) dd_L_law_558 ok_M_of iw_1256 iw_1257 rfl iw_1258 (by decide +kernel) rfl hb
theorem iv_L_law_564 {G : xa_G} {rest fs : List Value} {h : xa_H} {b : Nat} (hb : h b = some (.inr (9, fs))) : xa_inv G mm_L_law mm_M_thrown 564 (.ref b :: rest) [.ref b] rest h := xi_V (n := 0) (As := []) dd_L_law_564 ok_M_thrown iw_1172 iw_1173 rfl iw_1174 (by decide +kernel) rfl hb
theorem iv_L_law_607 {G : xa_G} {rest fs : List Value} {h : xa_H} {b : Nat} {a1 a2 : Value} (hb : h b = some (.inr (0, fs))) : xa_inv G mm_L_law mm_V_find 607 (a2 :: a1 :: .ref b :: rest) [.ref b, a1, a2] rest h := xi_V (n := 2) (As := [a1, a2]) dd_L_law_607 ok_V_find iw_175 iw_176 rfl iw_177 (by decide +kernel) rfl hb
theorem iv_L_law_623 {G : xa_G} {rest fs : List Value} {h : xa_H} {b : Nat} {a1 a2 : Value} (hb : h b = some (.inr (9, fs))) : xa_inv G mm_L_law mm_M_find 623 (a2 :: a1 :: .ref b :: rest) [.ref b, a1, a2] rest h := xi_V (n := 2) (As := [a1, a2]) dd_L_law_623 ok_M_find iw_1260 iw_1261 rfl iw_1262 (by decide +kernel) rfl hb
theorem iv_L_law_632 {G : xa_G} {rest fs : List Value} {h : xa_H} {b : Nat} (hb : h b = some (.inr (0, fs))) : xa_inv G mm_L_law mm_V_live 632 (.ref b :: rest) [.ref b] rest h := xi_V (n := 0) (As := []) dd_L_law_632 ok_V_live iw_199 iw_200 rfl iw_201 (by decide +kernel) rfl hb
theorem iv_L_law_636 {G : xa_G} {rest fs : List Value} {h : xa_H} {b : Nat} (hb : h b = some (.inr (9, fs))) : xa_inv G mm_L_law mm_M_live 636 (.ref b :: rest) [.ref b] rest h := xi_V (n := 0) (As := []) dd_L_law_636 ok_M_live iw_1264 iw_1265 rfl iw_1266 (by decide +kernel) rfl hb
theorem iv_L_law_645 {G : xa_G} {rest fs : List Value} {h : xa_H} {b : Nat} (hb : h b = some (.inr (0, fs))) : xa_inv G mm_L_law mm_V_tail 645 (.ref b :: rest) [.ref b] rest h := xi_V (n := 0) (As := []) dd_L_law_645 ok_V_tail iw_207 iw_208 rfl iw_209 (by decide +kernel) rfl hb
theorem iv_L_law_649 {G : xa_G} {rest fs : List Value} {h : xa_H} {b : Nat} (hb : h b = some (.inr (9, fs))) : xa_inv G mm_L_law mm_M_tail 649 (.ref b :: rest) [.ref b] rest h := xi_V (n := 0) (As := []) dd_L_law_649 ok_M_tail iw_1268 iw_1269 rfl iw_1270 (by decide +kernel) rfl hb
theorem iv_L_law_658 {G : xa_G} {rest fs : List Value} {h : xa_H} {b : Nat} (hb : h b = some (.inr (0, fs))) : xa_inv G mm_L_law mm_V_head 658 (.ref b :: rest) [.ref b] rest h := xi_V (n := 0) (As := []) dd_L_law_658 ok_V_head iw_215 iw_216 rfl iw_217 (by decide +kernel) rfl hb
theorem iv_L_law_662 {G : xa_G} {rest fs : List Value} {h : xa_H} {b : Nat} (hb : h b = some (.inr (9, fs))) : xa_inv G mm_L_law mm_M_head 662 (.ref b :: rest) [.ref b] rest h := xi_V (n := 0) (As := []) dd_L_law_662 ok_M_head iw_1276 iw_1277 rfl iw_1278 (by decide +kernel) rfl hb
theorem iv_L_law_684 {G : xa_G} {rest : List Value} {h : xa_H} {a1 a2 a3 a4 : Value} : xa_inv G mm_L_law mm_L_note 684 (a4 :: a3 :: a2 :: a1 :: rest) [a1, a2, a3, a4] rest h := xi_S (n := 4) (as := [a1, a2, a3, a4]) dd_L_law_684 ok_L_note iw_927 iw_928 (by decide +kernel) rfl
theorem iv_L_law_702 {G : xa_G} {rest fs : List Value} {h : xa_H} {b : Nat} {a1 a2 : Value} (hb : h b = some (.inr (9, fs))) : xa_inv G mm_L_law mm_M_note 702 (a2 :: a1 :: .ref b :: rest) [.ref b, a1, a2] rest h := xi_V (n := 2) (As := [a1, a2]) dd_L_law_702 ok_M_note iw_1280 iw_1281 rfl iw_1282 (by decide +kernel) rfl hb
theorem iv_L_law_708 {G : xa_G} {rest fs : List Value} {h : xa_H} {b : Nat} (hb : h b = some (.inr (9, fs))) : xa_inv G mm_L_law mm_M_thrown 708 (.ref b :: rest) [.ref b] rest h := xi_V (n := 0) (As := []) dd_L_law_708 ok_M_thrown iw_1172 iw_1173 rfl iw_1174 (by decide +kernel) rfl hb
theorem iv_L_law_751 {G : xa_G} {rest : List Value} {h : xa_H} {a1 a2 a3 : Value} : xa_inv G mm_L_law mm_L_subscribe 751 (a3 :: a2 :: a1 :: rest) [a1, a2, a3] rest h := xi_S (n := 3) (as := [a1, a2, a3]) dd_L_law_751 ok_L_subscribe iw_941 iw_942 (by decide +kernel) rfl
theorem iv_L_law_769 {G : xa_G} {rest fs : List Value} {h : xa_H} {b : Nat} {a1 a2 : Value} (hb : h b = some (.inr (9, fs))) : xa_inv G mm_L_law mm_M_subscribe 769 (a2 :: a1 :: .ref b :: rest) [.ref b, a1, a2] rest h := xi_V (n := 2) (As := [a1, a2]) dd_L_law_769 ok_M_subscribe iw_1284 iw_1285 rfl iw_1286 (by decide +kernel) rfl hb
theorem iv_L_law_773 {G : xa_G} {rest fs : List Value} {h : xa_H} {b : Nat} (hb : h b = some (.inr (9, fs))) : xa_inv G mm_L_law mm_M_thrown 773 (.ref b :: rest) [.ref b] rest h := xi_V (n := 0) (As := []) dd_L_law_773 ok_M_thrown iw_1172 iw_1173 rfl iw_1174 (by decide +kernel) rfl hb
theorem iv_L_law_794 {G : xa_G} {rest : List Value} {h : xa_H} {a1 a2 a3 : Value} : xa_inv G mm_L_law mm_L_cursor 794 (a3 :: a2 :: a1 :: rest) [a1, a2, a3] rest h := xi_S (n := 3) (as := [a1, a2, a3]) dd_L_law_794 ok_L_cursor iw_959 iw_960 (by decide +kernel) rfl
theorem iv_L_law_806 {G : xa_G} {rest fs : List Value} {h : xa_H} {b : Nat} {a1 : Value} (hb : h b = some (.inr (9, fs))) : xa_inv G mm_L_law mm_M_cursor 806 (a1 :: .ref b :: rest) [.ref b, a1] rest h := xi_V (n := 1) (As := [a1]) dd_L_law_806 ok_M_cursor iw_1291 iw_1292 rfl iw_1293 (by decide +kernel) rfl hb
theorem iv_L_law_812 {G : xa_G} {rest fs : List Value} {h : xa_H} {b : Nat} (hb : h b = some (.inr (9, fs))) : xa_inv G mm_L_law mm_M_thrown 812 (.ref b :: rest) [.ref b] rest h := xi_V (n := 0) (As := []) dd_L_law_812 ok_M_thrown iw_1172 iw_1173 rfl iw_1174 (by decide +kernel) rfl hb
theorem iv_L_law_850 {G : xa_G} {rest : List Value} {h : xa_H} {a1 a2 a3 : Value} : xa_inv G mm_L_law mm_L_read 850 (a3 :: a2 :: a1 :: rest) [a1, a2, a3] rest h := xi_S (n := 3) (as := [a1, a2, a3]) dd_L_law_850 ok_L_read iw_966 iw_967 (by decide +kernel) rfl
theorem iv_L_law_862 {G : xa_G} {rest fs : List Value} {h : xa_H} {b : Nat} {a1 : Value} (hb : h b = some (.inr (9, fs))) : xa_inv G mm_L_law mm_M_read 862 (a1 :: .ref b :: rest) [.ref b, a1] rest h := xi_V (n := 1) (As := [a1]) dd_L_law_862 ok_M_read iw_1295 iw_1296 rfl iw_1297 (by decide +kernel) rfl hb
theorem iv_L_law_868 {G : xa_G} {rest fs : List Value} {h : xa_H} {b : Nat} (hb : h b = some (.inr (9, fs))) : xa_inv G mm_L_law mm_M_thrown 868 (.ref b :: rest) [.ref b] rest h := xi_V (n := 0) (As := []) dd_L_law_868 ok_M_thrown iw_1172 iw_1173 rfl iw_1174 (by decide +kernel) rfl hb
theorem iv_L_law_905 {G : xa_G} {rest : List Value} {h : xa_H} {a1 a2 : Value} : xa_inv G mm_L_law mm_L_list 905 (a2 :: a1 :: rest) [a1, a2] rest h := xi_S (n := 2) (as := [a1, a2]) dd_L_law_905 ok_L_list iw_980 iw_981 (by decide +kernel) rfl
theorem iv_L_law_917 {G : xa_G} {rest fs : List Value} {h : xa_H} {b : Nat} {a1 : Value} (hb : h b = some (.inr (9, fs))) : xa_inv G mm_L_law mm_M_list 917 (a1 :: .ref b :: rest) [.ref b, a1] rest h := xi_V (n := 1) (As := [a1]) dd_L_law_917 ok_M_list iw_1303 iw_1304 rfl iw_1305 (by decide +kernel) rfl hb
theorem iv_L_law_921 {G : xa_G} {rest fs : List Value} {h : xa_H} {b : Nat} (hb : h b = some (.inr (9, fs))) : xa_inv G mm_L_law mm_M_thrown 921 (.ref b :: rest) [.ref b] rest h := xi_V (n := 0) (As := []) dd_L_law_921 ok_M_thrown iw_1172 iw_1173 rfl iw_1174 (by decide +kernel) rfl hb
theorem iv_L_law_942 {G : xa_G} {rest : List Value} {h : xa_H} {a1 a2 a3 : Value} : xa_inv G mm_L_law mm_L_page 942 (a3 :: a2 :: a1 :: rest) [a1, a2, a3] rest h := xi_S (n := 3) (as := [a1, a2, a3]) dd_L_law_942 ok_L_page iw_991 iw_992 (by decide +kernel) rfl
theorem iv_L_law_954 {G : xa_G} {rest fs : List Value} {h : xa_H} {b : Nat} {a1 : Value} (hb : h b = some (.inr (9, fs))) : xa_inv G mm_L_law mm_M_page 954 (a1 :: .ref b :: rest) [.ref b, a1] rest h := xi_V (n := 1) (As := [a1]) dd_L_law_954 ok_M_page iw_1311 iw_1312 rfl iw_1313 (by decide +kernel) rfl hb
theorem iv_L_law_960 {G : xa_G} {rest fs : List Value} {h : xa_H} {b : Nat} (hb : h b = some (.inr (9, fs))) : xa_inv G mm_L_law mm_M_thrown 960 (.ref b :: rest) [.ref b] rest h := xi_V (n := 0) (As := []) dd_L_law_960 ok_M_thrown iw_1172 iw_1173 rfl iw_1174 (by decide +kernel) rfl hb
theorem iv_L_law_1004 {G : xa_G} {rest : List Value} {h : xa_H} {a1 a2 a3 a4 : Value} : xa_inv G mm_L_law mm_L_shown 1004 (a4 :: a3 :: a2 :: a1 :: rest) [a1, a2, a3, a4] rest h := xi_S (n := 4) (as := [a1, a2, a3, a4]) dd_L_law_1004 ok_L_shown iw_1007 iw_1008 (by decide +kernel) rfl
theorem iv_L_law_1022 {G : xa_G} {rest fs : List Value} {h : xa_H} {b : Nat} {a1 a2 : Value} (hb : h b = some (.inr (9, fs))) : xa_inv G mm_L_law mm_M_shown 1022 (a2 :: a1 :: .ref b :: rest) [.ref b, a1, a2] rest h := xi_V (n := 2) (As := [a1, a2]) dd_L_law_1022 ok_M_shown iw_1323 iw_1324 rfl iw_1325 (by decide +kernel) rfl hb
theorem iv_L_law_1028 {G : xa_G} {rest fs : List Value} {h : xa_H} {b : Nat} (hb : h b = some (.inr (9, fs))) : xa_inv G mm_L_law mm_M_thrown 1028 (.ref b :: rest) [.ref b] rest h := xi_V (n := 0) (As := []) dd_L_law_1028 ok_M_thrown iw_1172 iw_1173 rfl iw_1174 (by decide +kernel) rfl hb
theorem iv_L_law_1072 {G : xa_G} {rest : List Value} {h : xa_H} {a1 a2 a3 a4 : Value} : xa_inv G mm_L_law mm_L_follow 1072 (a4 :: a3 :: a2 :: a1 :: rest) [a1, a2, a3, a4] rest h := xi_S (n := 4) (as := [a1, a2, a3, a4]) dd_L_law_1072 ok_L_follow iw_1014 iw_1015 (by decide +kernel) rfl
theorem iv_L_law_1090 {G : xa_G} {rest fs : List Value} {h : xa_H} {b : Nat} {a1 a2 : Value} (hb : h b = some (.inr (9, fs))) : xa_inv G mm_L_law mm_M_follow 1090 (a2 :: a1 :: .ref b :: rest) [.ref b, a1, a2] rest h := xi_V (n := 2) (As := [a1, a2]) dd_L_law_1090 ok_M_follow iw_1327 iw_1328 rfl iw_1329 (by decide +kernel) rfl hb
theorem iv_L_law_1096 {G : xa_G} {rest fs : List Value} {h : xa_H} {b : Nat} (hb : h b = some (.inr (9, fs))) : xa_inv G mm_L_law mm_M_thrown 1096 (.ref b :: rest) [.ref b] rest h := xi_V (n := 0) (As := []) dd_L_law_1096 ok_M_thrown iw_1172 iw_1173 rfl iw_1174 (by decide +kernel) rfl hb
theorem iv_L_law_1146 {G : xa_G} {rest : List Value} {h : xa_H} {a1 a2 a3 a4 a5 : Value} : xa_inv G mm_L_law mm_L_copied 1146 (a5 :: a4 :: a3 :: a2 :: a1 :: rest) [a1, a2, a3, a4, a5] rest h := xi_S (n := 5) (as := [a1, a2, a3, a4, a5]) dd_L_law_1146 ok_L_copied iw_1049 iw_1050 (by decide +kernel) rfl
theorem iv_L_law_1170 {G : xa_G} {rest fs : List Value} {h : xa_H} {b : Nat} {a1 a2 a3 : Value} (hb : h b = some (.inr (9, fs))) : xa_inv G mm_L_law mm_M_copied 1170 (a3 :: a2 :: a1 :: .ref b :: rest) [.ref b, a1, a2, a3] rest h := xi_V (n := 3) (As := [a1, a2, a3]) dd_L_law_1170 ok_M_copied iw_1359 iw_1360 rfl iw_1361 (by decide +kernel) rfl hb
theorem iv_L_law_1176 {G : xa_G} {rest fs : List Value} {h : xa_H} {b : Nat} (hb : h b = some (.inr (9, fs))) : xa_inv G mm_L_law mm_M_thrown 1176 (.ref b :: rest) [.ref b] rest h := xi_V (n := 0) (As := []) dd_L_law_1176 ok_M_thrown iw_1172 iw_1173 rfl iw_1174 (by decide +kernel) rfl hb
theorem iv_L_law_1214 {G : xa_G} {rest : List Value} {h : xa_H} {a1 a2 a3 : Value} : xa_inv G mm_L_law mm_L_inStep 1214 (a3 :: a2 :: a1 :: rest) [a1, a2, a3] rest h := xi_S (n := 3) (as := [a1, a2, a3]) dd_L_law_1214 ok_L_inStep iw_1057 iw_1058 (by decide +kernel) rfl
theorem iv_L_law_1226 {G : xa_G} {rest fs : List Value} {h : xa_H} {b : Nat} {a1 : Value} (hb : h b = some (.inr (9, fs))) : xa_inv G mm_L_law mm_M_inStep 1226 (a1 :: .ref b :: rest) [.ref b, a1] rest h := xi_V (n := 1) (As := [a1]) dd_L_law_1226 ok_M_inStep iw_1363 iw_1364 rfl iw_1365 (by decide +kernel) rfl hb
theorem iv_L_law_1232 {G : xa_G} {rest fs : List Value} {h : xa_H} {b : Nat} (hb : h b = some (.inr (9, fs))) : xa_inv G mm_L_law mm_M_thrown 1232 (.ref b :: rest) [.ref b] rest h := xi_V (n := 0) (As := []) dd_L_law_1232 ok_M_thrown iw_1172 iw_1173 rfl iw_1174 (by decide +kernel) rfl hb
theorem iv_L_law_1276 {G : xa_G} {rest : List Value} {h : xa_H} {a1 a2 : Value} : xa_inv G mm_L_law mm_L_cutAfter 1276 (a2 :: a1 :: rest) [a1, a2] rest h := xi_S (n := 2) (as := [a1, a2]) dd_L_law_1276 ok_L_cutAfter iw_1072 iw_1073 (by decide +kernel) rfl
theorem iv_L_law_1288 {G : xa_G} {rest fs : List Value} {h : xa_H} {b : Nat} {a1 : Value} (hb : h b = some (.inr (9, fs))) : xa_inv G mm_L_law mm_M_cutAfter 1288 (a1 :: .ref b :: rest) [.ref b, a1] rest h := xi_V (n := 1) (As := [a1]) dd_L_law_1288 ok_M_cutAfter iw_1367 iw_1368 rfl iw_1369 (by decide +kernel) rfl hb
theorem iv_L_law_1292 {G : xa_G} {rest fs : List Value} {h : xa_H} {b : Nat} (hb : h b = some (.inr (9, fs))) : xa_inv G mm_L_law mm_M_thrown 1292 (.ref b :: rest) [.ref b] rest h := xi_V (n := 0) (As := []) dd_L_law_1292 ok_M_thrown iw_1172 iw_1173 rfl iw_1174 (by decide +kernel) rfl hb
theorem iv_L_law_1306 {G : xa_G} {rest fs : List Value} {h : xa_H} {b : Nat} (hb : h b = some (.inr (0, fs))) : xa_inv G mm_L_law mm_V_start 1306 (.ref b :: rest) [.ref b] rest h := xi_V (n := 0) (As := []) dd_L_law_1306 ok_V_start iw_223 iw_224 rfl iw_225 (by decide +kernel) rfl hb
theorem iv_L_law_1310 {G : xa_G} {rest fs : List Value} {h : xa_H} {b : Nat} (hb : h b = some (.inr (9, fs))) : xa_inv G mm_L_law mm_M_start 1310 (.ref b :: rest) [.ref b] rest h := xi_V (n := 0) (As := []) dd_L_law_1310 ok_M_start iw_1371 iw_1372 rfl iw_1373 (by decide +kernel) rfl hb
theorem iv_L_law_1319 {G : xa_G} {rest fs : List Value} {h : xa_H} {b : Nat} (hb : h b = some (.inr (0, fs))) : xa_inv G mm_L_law mm_V_isOn 1319 (.ref b :: rest) [.ref b] rest h := xi_V (n := 0) (As := []) dd_L_law_1319 ok_V_isOn iw_417 iw_418 rfl iw_419 (by decide +kernel) rfl hb
theorem iv_L_law_1323 {G : xa_G} {rest fs : List Value} {h : xa_H} {b : Nat} (hb : h b = some (.inr (9, fs))) : xa_inv G mm_L_law mm_M_isOn 1323 (.ref b :: rest) [.ref b] rest h := xi_V (n := 0) (As := []) dd_L_law_1323 ok_M_isOn iw_1383 iw_1384 rfl iw_1385 (by decide +kernel) rfl hb
theorem cl_L_13 : Cond.classLink "NotedVolumeLaw" 13 "java/lang/IllegalStateException" ∈ xv_T := iw_424
theorem cl_L_15 : Cond.classLink "NotedVolumeLaw" 15 "java/lang/IllegalArgumentException" ∈ xv_T := iw_425
theorem cl_L_17 : Cond.classLink "NotedVolumeLaw" 17 "java/util/NoSuchElementException" ∈ xv_T := iw_426
theorem cl_L_19 : Cond.classLink "NotedVolumeLaw" 19 "java/lang/UnsupportedOperationException" ∈ xv_T := iw_427
theorem cl_L_40 : Cond.classLink "NotedVolumeLaw" 40 "java/lang/IndexOutOfBoundsException" ∈ xv_T := iw_912
theorem ar_long : Cond.arrayClass .long ∈ xv_T := iw_1387
