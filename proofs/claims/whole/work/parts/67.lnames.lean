/-! names, by program (wip/whole/mknames.py 67.lnames.lean.txt L) -/
theorem iw_0 : Cond.initialized "NotedVolumeLaw" ∈ xv_T := xv_in (List.mem_append_right _ (List.mem_of_getElem? (i := 0) (by decide +kernel))) (by decide +kernel)
theorem iw_423 : Cond.codeWith ⟨"NotedVolumeLaw", "make", "(LNotedVolume;IZI[J)I"⟩ method_3_code 6 (some .int) [(0, 12, 15, 13), (0, 12, 19, 15), (0, 12, 23, 17), (0, 12, 27, 19)] ∈ xv_T := xv_in (List.mem_append_right _ (List.mem_of_getElem? (i := 423) (by decide +kernel))) (by decide +kernel)
theorem iw_428 : Cond.methodLink "NotedVolumeLaw" 7 ⟨"NotedVolume", "make", "(IZI)I"⟩ ∈ xv_T := xv_in (List.mem_append_right _ (List.mem_of_getElem? (i := 428) (by decide +kernel))) (by decide +kernel)
theorem iw_429 : Cond.instanceMethod ⟨"NotedVolume", "make", "(IZI)I"⟩ ∈ xv_T := xv_in (List.mem_append_right _ (List.mem_of_getElem? (i := 429) (by decide +kernel))) (by decide +kernel)
theorem iw_430 : Cond.selects "NotedVolume" ⟨"NotedVolume", "make", "(IZI)I"⟩ ⟨"NotedVolume", "make", "(IZI)I"⟩ ∈ xv_T := xv_in (List.mem_append_right _ (List.mem_of_getElem? (i := 430) (by decide +kernel))) (by decide +kernel)
theorem iw_865 : Cond.codeWith ⟨"NotedVolumeLaw", "change", "(LNotedVolume;I[J)I"⟩ method_4_code 4 (some .int) [(0, 9, 12, 13), (0, 9, 15, 17), (0, 9, 18, 19)] ∈ xv_T := xv_in (List.mem_append_right _ (List.mem_of_getElem? (i := 865) (by decide +kernel))) (by decide +kernel)
theorem iw_866 : Cond.methodLink "NotedVolumeLaw" 21 ⟨"NotedVolume", "change", "(I)I"⟩ ∈ xv_T := xv_in (List.mem_append_right _ (List.mem_of_getElem? (i := 866) (by decide +kernel))) (by decide +kernel)
theorem iw_867 : Cond.instanceMethod ⟨"NotedVolume", "change", "(I)I"⟩ ∈ xv_T := xv_in (List.mem_append_right _ (List.mem_of_getElem? (i := 867) (by decide +kernel))) (by decide +kernel)
theorem iw_868 : Cond.selects "NotedVolume" ⟨"NotedVolume", "change", "(I)I"⟩ ⟨"NotedVolume", "change", "(I)I"⟩ ∈ xv_T := xv_in (List.mem_append_right _ (List.mem_of_getElem? (i := 868) (by decide +kernel))) (by decide +kernel)
theorem iw_873 : Cond.codeWith ⟨"NotedVolumeLaw", "rename", "(LNotedVolume;III[J)I"⟩ method_5_code 6 (some .int) [(0, 19, 22, 13), (0, 19, 26, 15), (0, 19, 30, 17), (0, 19, 34, 19)] ∈ xv_T := xv_in (List.mem_append_right _ (List.mem_of_getElem? (i := 873) (by decide +kernel))) (by decide +kernel)
theorem iw_874 : Cond.methodLink "NotedVolumeLaw" 25 ⟨"NotedVolume", "rename", "(III)Z"⟩ ∈ xv_T := xv_in (List.mem_append_right _ (List.mem_of_getElem? (i := 874) (by decide +kernel))) (by decide +kernel)
theorem iw_875 : Cond.instanceMethod ⟨"NotedVolume", "rename", "(III)Z"⟩ ∈ xv_T := xv_in (List.mem_append_right _ (List.mem_of_getElem? (i := 875) (by decide +kernel))) (by decide +kernel)
theorem iw_876 : Cond.selects "NotedVolume" ⟨"NotedVolume", "rename", "(III)Z"⟩ ⟨"NotedVolume", "rename", "(III)Z"⟩ ∈ xv_T := xv_in (List.mem_append_right _ (List.mem_of_getElem? (i := 876) (by decide +kernel))) (by decide +kernel)
theorem iw_885 : Cond.codeWith ⟨"NotedVolumeLaw", "remove", "(LNotedVolume;I[J)I"⟩ method_6_code 4 (some .int) [(0, 16, 19, 13), (0, 16, 22, 17), (0, 16, 25, 19)] ∈ xv_T := xv_in (List.mem_append_right _ (List.mem_of_getElem? (i := 885) (by decide +kernel))) (by decide +kernel)
theorem iw_886 : Cond.methodLink "NotedVolumeLaw" 29 ⟨"NotedVolume", "remove", "(I)Z"⟩ ∈ xv_T := xv_in (List.mem_append_right _ (List.mem_of_getElem? (i := 886) (by decide +kernel))) (by decide +kernel)
theorem iw_887 : Cond.instanceMethod ⟨"NotedVolume", "remove", "(I)Z"⟩ ∈ xv_T := xv_in (List.mem_append_right _ (List.mem_of_getElem? (i := 887) (by decide +kernel))) (by decide +kernel)
theorem iw_888 : Cond.selects "NotedVolume" ⟨"NotedVolume", "remove", "(I)Z"⟩ ⟨"NotedVolume", "remove", "(I)Z"⟩ ∈ xv_T := xv_in (List.mem_append_right _ (List.mem_of_getElem? (i := 888) (by decide +kernel))) (by decide +kernel)
theorem iw_902 : Cond.codeWith ⟨"NotedVolumeLaw", "close", "(LNotedVolume;I[J)I"⟩ method_7_code 4 (some .int) [(0, 16, 19, 13), (0, 16, 22, 17)] ∈ xv_T := xv_in (List.mem_append_right _ (List.mem_of_getElem? (i := 902) (by decide +kernel))) (by decide +kernel)
theorem iw_903 : Cond.methodLink "NotedVolumeLaw" 33 ⟨"NotedVolume", "close", "(I)Z"⟩ ∈ xv_T := xv_in (List.mem_append_right _ (List.mem_of_getElem? (i := 903) (by decide +kernel))) (by decide +kernel)
theorem iw_904 : Cond.instanceMethod ⟨"NotedVolume", "close", "(I)Z"⟩ ∈ xv_T := xv_in (List.mem_append_right _ (List.mem_of_getElem? (i := 904) (by decide +kernel))) (by decide +kernel)
theorem iw_905 : Cond.selects "NotedVolume" ⟨"NotedVolume", "close", "(I)Z"⟩ ⟨"NotedVolume", "close", "(I)Z"⟩ ∈ xv_T := xv_in (List.mem_append_right _ (List.mem_of_getElem? (i := 905) (by decide +kernel))) (by decide +kernel)
theorem iw_911 : Cond.codeWith ⟨"NotedVolumeLaw", "of", "(LNotedVolume;II[J)I"⟩ method_8_code 5 (some .int) [(0, 10, 13, 17), (0, 10, 17, 40)] ∈ xv_T := xv_in (List.mem_append_right _ (List.mem_of_getElem? (i := 911) (by decide +kernel))) (by decide +kernel)
theorem iw_913 : Cond.methodLink "NotedVolumeLaw" 36 ⟨"NotedVolume", "of", "(II)I"⟩ ∈ xv_T := xv_in (List.mem_append_right _ (List.mem_of_getElem? (i := 913) (by decide +kernel))) (by decide +kernel)
theorem iw_914 : Cond.instanceMethod ⟨"NotedVolume", "of", "(II)I"⟩ ∈ xv_T := xv_in (List.mem_append_right _ (List.mem_of_getElem? (i := 914) (by decide +kernel))) (by decide +kernel)
theorem iw_915 : Cond.selects "NotedVolume" ⟨"NotedVolume", "of", "(II)I"⟩ ⟨"NotedVolume", "of", "(II)I"⟩ ∈ xv_T := xv_in (List.mem_append_right _ (List.mem_of_getElem? (i := 915) (by decide +kernel))) (by decide +kernel)
theorem iw_929 : Cond.codeWith ⟨"NotedVolumeLaw", "note", "(LNotedVolume;II[J)I"⟩ method_9_code 5 (some .int) [(0, 10, 13, 17), (0, 10, 17, 40)] ∈ xv_T := xv_in (List.mem_append_right _ (List.mem_of_getElem? (i := 929) (by decide +kernel))) (by decide +kernel)
theorem iw_930 : Cond.methodLink "NotedVolumeLaw" 42 ⟨"NotedVolume", "note", "(II)I"⟩ ∈ xv_T := xv_in (List.mem_append_right _ (List.mem_of_getElem? (i := 930) (by decide +kernel))) (by decide +kernel)
theorem iw_931 : Cond.instanceMethod ⟨"NotedVolume", "note", "(II)I"⟩ ∈ xv_T := xv_in (List.mem_append_right _ (List.mem_of_getElem? (i := 931) (by decide +kernel))) (by decide +kernel)
theorem iw_932 : Cond.selects "NotedVolume" ⟨"NotedVolume", "note", "(II)I"⟩ ⟨"NotedVolume", "note", "(II)I"⟩ ∈ xv_T := xv_in (List.mem_append_right _ (List.mem_of_getElem? (i := 932) (by decide +kernel))) (by decide +kernel)
theorem iw_943 : Cond.codeWith ⟨"NotedVolumeLaw", "subscribe", "(LNotedVolume;II)I"⟩ method_10_code 4 (some .int) [(0, 6, 9, 40), (0, 6, 12, 15)] ∈ xv_T := xv_in (List.mem_append_right _ (List.mem_of_getElem? (i := 943) (by decide +kernel))) (by decide +kernel)
theorem iw_944 : Cond.methodLink "NotedVolumeLaw" 45 ⟨"NotedVolume", "subscribe", "(II)V"⟩ ∈ xv_T := xv_in (List.mem_append_right _ (List.mem_of_getElem? (i := 944) (by decide +kernel))) (by decide +kernel)
theorem iw_945 : Cond.instanceMethod ⟨"NotedVolume", "subscribe", "(II)V"⟩ ∈ xv_T := xv_in (List.mem_append_right _ (List.mem_of_getElem? (i := 945) (by decide +kernel))) (by decide +kernel)
theorem iw_946 : Cond.selects "NotedVolume" ⟨"NotedVolume", "subscribe", "(II)V"⟩ ⟨"NotedVolume", "subscribe", "(II)V"⟩ ∈ xv_T := xv_in (List.mem_append_right _ (List.mem_of_getElem? (i := 946) (by decide +kernel))) (by decide +kernel)
theorem iw_961 : Cond.codeWith ⟨"NotedVolumeLaw", "cursor", "(LNotedVolume;I[J)I"⟩ method_11_code 4 (some .int) [(0, 9, 12, 40)] ∈ xv_T := xv_in (List.mem_append_right _ (List.mem_of_getElem? (i := 961) (by decide +kernel))) (by decide +kernel)
theorem iw_962 : Cond.methodLink "NotedVolumeLaw" 49 ⟨"NotedVolume", "cursor", "(I)I"⟩ ∈ xv_T := xv_in (List.mem_append_right _ (List.mem_of_getElem? (i := 962) (by decide +kernel))) (by decide +kernel)
theorem iw_963 : Cond.instanceMethod ⟨"NotedVolume", "cursor", "(I)I"⟩ ∈ xv_T := xv_in (List.mem_append_right _ (List.mem_of_getElem? (i := 963) (by decide +kernel))) (by decide +kernel)
theorem iw_964 : Cond.selects "NotedVolume" ⟨"NotedVolume", "cursor", "(I)I"⟩ ⟨"NotedVolume", "cursor", "(I)I"⟩ ∈ xv_T := xv_in (List.mem_append_right _ (List.mem_of_getElem? (i := 964) (by decide +kernel))) (by decide +kernel)
theorem iw_968 : Cond.codeWith ⟨"NotedVolumeLaw", "read", "(LNotedVolume;I[J)I"⟩ method_12_code 4 (some .int) [(0, 9, 12, 40)] ∈ xv_T := xv_in (List.mem_append_right _ (List.mem_of_getElem? (i := 968) (by decide +kernel))) (by decide +kernel)
theorem iw_969 : Cond.methodLink "NotedVolumeLaw" 52 ⟨"NotedVolume", "read", "(I)I"⟩ ∈ xv_T := xv_in (List.mem_append_right _ (List.mem_of_getElem? (i := 969) (by decide +kernel))) (by decide +kernel)
theorem iw_970 : Cond.instanceMethod ⟨"NotedVolume", "read", "(I)I"⟩ ∈ xv_T := xv_in (List.mem_append_right _ (List.mem_of_getElem? (i := 970) (by decide +kernel))) (by decide +kernel)
theorem iw_971 : Cond.selects "NotedVolume" ⟨"NotedVolume", "read", "(I)I"⟩ ⟨"NotedVolume", "read", "(I)I"⟩ ∈ xv_T := xv_in (List.mem_append_right _ (List.mem_of_getElem? (i := 971) (by decide +kernel))) (by decide +kernel)
theorem iw_982 : Cond.codeWith ⟨"NotedVolumeLaw", "list", "(LNotedVolume;I)I"⟩ method_13_code 3 (some .int) [(0, 5, 8, 40)] ∈ xv_T := xv_in (List.mem_append_right _ (List.mem_of_getElem? (i := 982) (by decide +kernel))) (by decide +kernel)
theorem iw_983 : Cond.methodLink "NotedVolumeLaw" 55 ⟨"NotedVolume", "list", "(I)V"⟩ ∈ xv_T := xv_in (List.mem_append_right _ (List.mem_of_getElem? (i := 983) (by decide +kernel))) (by decide +kernel)
theorem iw_984 : Cond.instanceMethod ⟨"NotedVolume", "list", "(I)V"⟩ ∈ xv_T := xv_in (List.mem_append_right _ (List.mem_of_getElem? (i := 984) (by decide +kernel))) (by decide +kernel)
theorem iw_985 : Cond.selects "NotedVolume" ⟨"NotedVolume", "list", "(I)V"⟩ ⟨"NotedVolume", "list", "(I)V"⟩ ∈ xv_T := xv_in (List.mem_append_right _ (List.mem_of_getElem? (i := 985) (by decide +kernel))) (by decide +kernel)
theorem iw_993 : Cond.codeWith ⟨"NotedVolumeLaw", "page", "(LNotedVolume;I[J)I"⟩ method_14_code 4 (some .int) [(0, 9, 12, 40), (0, 9, 15, 13)] ∈ xv_T := xv_in (List.mem_append_right _ (List.mem_of_getElem? (i := 993) (by decide +kernel))) (by decide +kernel)
theorem iw_994 : Cond.methodLink "NotedVolumeLaw" 59 ⟨"NotedVolume", "page", "(I)I"⟩ ∈ xv_T := xv_in (List.mem_append_right _ (List.mem_of_getElem? (i := 994) (by decide +kernel))) (by decide +kernel)
theorem iw_995 : Cond.instanceMethod ⟨"NotedVolume", "page", "(I)I"⟩ ∈ xv_T := xv_in (List.mem_append_right _ (List.mem_of_getElem? (i := 995) (by decide +kernel))) (by decide +kernel)
theorem iw_996 : Cond.selects "NotedVolume" ⟨"NotedVolume", "page", "(I)I"⟩ ⟨"NotedVolume", "page", "(I)I"⟩ ∈ xv_T := xv_in (List.mem_append_right _ (List.mem_of_getElem? (i := 996) (by decide +kernel))) (by decide +kernel)
theorem iw_1009 : Cond.codeWith ⟨"NotedVolumeLaw", "shown", "(LNotedVolume;II[J)I"⟩ method_15_code 5 (some .int) [(0, 10, 13, 40)] ∈ xv_T := xv_in (List.mem_append_right _ (List.mem_of_getElem? (i := 1009) (by decide +kernel))) (by decide +kernel)
theorem iw_1010 : Cond.methodLink "NotedVolumeLaw" 62 ⟨"NotedVolume", "shown", "(II)I"⟩ ∈ xv_T := xv_in (List.mem_append_right _ (List.mem_of_getElem? (i := 1010) (by decide +kernel))) (by decide +kernel)
theorem iw_1011 : Cond.instanceMethod ⟨"NotedVolume", "shown", "(II)I"⟩ ∈ xv_T := xv_in (List.mem_append_right _ (List.mem_of_getElem? (i := 1011) (by decide +kernel))) (by decide +kernel)
theorem iw_1012 : Cond.selects "NotedVolume" ⟨"NotedVolume", "shown", "(II)I"⟩ ⟨"NotedVolume", "shown", "(II)I"⟩ ∈ xv_T := xv_in (List.mem_append_right _ (List.mem_of_getElem? (i := 1012) (by decide +kernel))) (by decide +kernel)
theorem iw_1016 : Cond.codeWith ⟨"NotedVolumeLaw", "follow", "(LNotedVolume;II[J)I"⟩ method_16_code 5 (some .int) [(0, 10, 13, 40), (0, 10, 17, 15)] ∈ xv_T := xv_in (List.mem_append_right _ (List.mem_of_getElem? (i := 1016) (by decide +kernel))) (by decide +kernel)
theorem iw_1017 : Cond.methodLink "NotedVolumeLaw" 65 ⟨"NotedVolume", "follow", "(II)I"⟩ ∈ xv_T := xv_in (List.mem_append_right _ (List.mem_of_getElem? (i := 1017) (by decide +kernel))) (by decide +kernel)
theorem iw_1018 : Cond.instanceMethod ⟨"NotedVolume", "follow", "(II)I"⟩ ∈ xv_T := xv_in (List.mem_append_right _ (List.mem_of_getElem? (i := 1018) (by decide +kernel))) (by decide +kernel)
theorem iw_1019 : Cond.selects "NotedVolume" ⟨"NotedVolume", "follow", "(II)I"⟩ ⟨"NotedVolume", "follow", "(II)I"⟩ ∈ xv_T := xv_in (List.mem_append_right _ (List.mem_of_getElem? (i := 1019) (by decide +kernel))) (by decide +kernel)
theorem iw_1051 : Cond.codeWith ⟨"NotedVolumeLaw", "copied", "(LNotedVolume;III[J)I"⟩ method_17_code 6 (some .int) [(0, 12, 15, 40), (0, 12, 19, 17)] ∈ xv_T := xv_in (List.mem_append_right _ (List.mem_of_getElem? (i := 1051) (by decide +kernel))) (by decide +kernel)
theorem iw_1052 : Cond.methodLink "NotedVolumeLaw" 68 ⟨"NotedVolume", "copied", "(III)I"⟩ ∈ xv_T := xv_in (List.mem_append_right _ (List.mem_of_getElem? (i := 1052) (by decide +kernel))) (by decide +kernel)
theorem iw_1053 : Cond.instanceMethod ⟨"NotedVolume", "copied", "(III)I"⟩ ∈ xv_T := xv_in (List.mem_append_right _ (List.mem_of_getElem? (i := 1053) (by decide +kernel))) (by decide +kernel)
theorem iw_1054 : Cond.selects "NotedVolume" ⟨"NotedVolume", "copied", "(III)I"⟩ ⟨"NotedVolume", "copied", "(III)I"⟩ ∈ xv_T := xv_in (List.mem_append_right _ (List.mem_of_getElem? (i := 1054) (by decide +kernel))) (by decide +kernel)
theorem iw_1059 : Cond.codeWith ⟨"NotedVolumeLaw", "inStep", "(LNotedVolume;I[J)I"⟩ method_18_code 4 (some .int) [(0, 16, 19, 40)] ∈ xv_T := xv_in (List.mem_append_right _ (List.mem_of_getElem? (i := 1059) (by decide +kernel))) (by decide +kernel)
theorem iw_1060 : Cond.methodLink "NotedVolumeLaw" 72 ⟨"NotedVolume", "inStep", "(I)Z"⟩ ∈ xv_T := xv_in (List.mem_append_right _ (List.mem_of_getElem? (i := 1060) (by decide +kernel))) (by decide +kernel)
theorem iw_1061 : Cond.instanceMethod ⟨"NotedVolume", "inStep", "(I)Z"⟩ ∈ xv_T := xv_in (List.mem_append_right _ (List.mem_of_getElem? (i := 1061) (by decide +kernel))) (by decide +kernel)
theorem iw_1062 : Cond.selects "NotedVolume" ⟨"NotedVolume", "inStep", "(I)Z"⟩ ⟨"NotedVolume", "inStep", "(I)Z"⟩ ∈ xv_T := xv_in (List.mem_append_right _ (List.mem_of_getElem? (i := 1062) (by decide +kernel))) (by decide +kernel)
theorem iw_1074 : Cond.codeWith ⟨"NotedVolumeLaw", "cutAfter", "(LNotedVolume;I)I"⟩ method_19_code 3 (some .int) [(0, 5, 8, 15)] ∈ xv_T := xv_in (List.mem_append_right _ (List.mem_of_getElem? (i := 1074) (by decide +kernel))) (by decide +kernel)
theorem iw_1075 : Cond.methodLink "NotedVolumeLaw" 75 ⟨"NotedVolume", "cutAfter", "(I)V"⟩ ∈ xv_T := xv_in (List.mem_append_right _ (List.mem_of_getElem? (i := 1075) (by decide +kernel))) (by decide +kernel)
theorem iw_1076 : Cond.instanceMethod ⟨"NotedVolume", "cutAfter", "(I)V"⟩ ∈ xv_T := xv_in (List.mem_append_right _ (List.mem_of_getElem? (i := 1076) (by decide +kernel))) (by decide +kernel)
theorem iw_1077 : Cond.selects "NotedVolume" ⟨"NotedVolume", "cutAfter", "(I)V"⟩ ⟨"NotedVolume", "cutAfter", "(I)V"⟩ ∈ xv_T := xv_in (List.mem_append_right _ (List.mem_of_getElem? (i := 1077) (by decide +kernel))) (by decide +kernel)
def mm_L_change : xa_M := (⟨"NotedVolumeLaw", "change", "(LNotedVolume;I[J)I"⟩, method_4_code, 4, (some .int), [(0, 9, 12, 13), (0, 9, 15, 17), (0, 9, 18, 19)])
theorem ok_L_change : xa_O mm_L_change := ⟨by decide, Or.inl iw_865, iw_0, by decide, by decide⟩
def mm_L_close : xa_M := (⟨"NotedVolumeLaw", "close", "(LNotedVolume;I[J)I"⟩, method_7_code, 4, (some .int), [(0, 16, 19, 13), (0, 16, 22, 17)])
theorem ok_L_close : xa_O mm_L_close := ⟨by decide, Or.inl iw_902, iw_0, by decide, by decide⟩
def mm_L_copied : xa_M := (⟨"NotedVolumeLaw", "copied", "(LNotedVolume;III[J)I"⟩, method_17_code, 6, (some .int), [(0, 12, 15, 40), (0, 12, 19, 17)])
theorem ok_L_copied : xa_O mm_L_copied := ⟨by decide, Or.inl iw_1051, iw_0, by decide, by decide⟩
def mm_L_cursor : xa_M := (⟨"NotedVolumeLaw", "cursor", "(LNotedVolume;I[J)I"⟩, method_11_code, 4, (some .int), [(0, 9, 12, 40)])
theorem ok_L_cursor : xa_O mm_L_cursor := ⟨by decide, Or.inl iw_961, iw_0, by decide, by decide⟩
def mm_L_cutAfter : xa_M := (⟨"NotedVolumeLaw", "cutAfter", "(LNotedVolume;I)I"⟩, method_19_code, 3, (some .int), [(0, 5, 8, 15)])
theorem ok_L_cutAfter : xa_O mm_L_cutAfter := ⟨by decide, Or.inl iw_1074, iw_0, by decide, by decide⟩
def mm_L_follow : xa_M := (⟨"NotedVolumeLaw", "follow", "(LNotedVolume;II[J)I"⟩, method_16_code, 5, (some .int), [(0, 10, 13, 40), (0, 10, 17, 15)])
theorem ok_L_follow : xa_O mm_L_follow := ⟨by decide, Or.inl iw_1016, iw_0, by decide, by decide⟩
def mm_L_inStep : xa_M := (⟨"NotedVolumeLaw", "inStep", "(LNotedVolume;I[J)I"⟩, method_18_code, 4, (some .int), [(0, 16, 19, 40)])
theorem ok_L_inStep : xa_O mm_L_inStep := ⟨by decide, Or.inl iw_1059, iw_0, by decide, by decide⟩
def mm_L_list : xa_M := (⟨"NotedVolumeLaw", "list", "(LNotedVolume;I)I"⟩, method_13_code, 3, (some .int), [(0, 5, 8, 40)])
theorem ok_L_list : xa_O mm_L_list := ⟨by decide, Or.inl iw_982, iw_0, by decide, by decide⟩
def mm_L_make : xa_M := (⟨"NotedVolumeLaw", "make", "(LNotedVolume;IZI[J)I"⟩, method_3_code, 6, (some .int), [(0, 12, 15, 13), (0, 12, 19, 15), (0, 12, 23, 17), (0, 12, 27, 19)])
theorem ok_L_make : xa_O mm_L_make := ⟨by decide, Or.inl iw_423, iw_0, by decide, by decide⟩
def mm_L_note : xa_M := (⟨"NotedVolumeLaw", "note", "(LNotedVolume;II[J)I"⟩, method_9_code, 5, (some .int), [(0, 10, 13, 17), (0, 10, 17, 40)])
theorem ok_L_note : xa_O mm_L_note := ⟨by decide, Or.inl iw_929, iw_0, by decide, by decide⟩
def mm_L_of : xa_M := (⟨"NotedVolumeLaw", "of", "(LNotedVolume;II[J)I"⟩, method_8_code, 5, (some .int), [(0, 10, 13, 17), (0, 10, 17, 40)])
theorem ok_L_of : xa_O mm_L_of := ⟨by decide, Or.inl iw_911, iw_0, by decide, by decide⟩
def mm_L_page : xa_M := (⟨"NotedVolumeLaw", "page", "(LNotedVolume;I[J)I"⟩, method_14_code, 4, (some .int), [(0, 9, 12, 40), (0, 9, 15, 13)])
theorem ok_L_page : xa_O mm_L_page := ⟨by decide, Or.inl iw_993, iw_0, by decide, by decide⟩
def mm_L_read : xa_M := (⟨"NotedVolumeLaw", "read", "(LNotedVolume;I[J)I"⟩, method_12_code, 4, (some .int), [(0, 9, 12, 40)])
theorem ok_L_read : xa_O mm_L_read := ⟨by decide, Or.inl iw_968, iw_0, by decide, by decide⟩
def mm_L_remove : xa_M := (⟨"NotedVolumeLaw", "remove", "(LNotedVolume;I[J)I"⟩, method_6_code, 4, (some .int), [(0, 16, 19, 13), (0, 16, 22, 17), (0, 16, 25, 19)])
theorem ok_L_remove : xa_O mm_L_remove := ⟨by decide, Or.inl iw_885, iw_0, by decide, by decide⟩
def mm_L_rename : xa_M := (⟨"NotedVolumeLaw", "rename", "(LNotedVolume;III[J)I"⟩, method_5_code, 6, (some .int), [(0, 19, 22, 13), (0, 19, 26, 15), (0, 19, 30, 17), (0, 19, 34, 19)])
theorem ok_L_rename : xa_O mm_L_rename := ⟨by decide, Or.inl iw_873, iw_0, by decide, by decide⟩
def mm_L_shown : xa_M := (⟨"NotedVolumeLaw", "shown", "(LNotedVolume;II[J)I"⟩, method_15_code, 5, (some .int), [(0, 10, 13, 40)])
theorem ok_L_shown : xa_O mm_L_shown := ⟨by decide, Or.inl iw_1009, iw_0, by decide, by decide⟩
def mm_L_subscribe : xa_M := (⟨"NotedVolumeLaw", "subscribe", "(LNotedVolume;II)I"⟩, method_10_code, 4, (some .int), [(0, 6, 9, 40), (0, 6, 12, 15)])
theorem ok_L_subscribe : xa_O mm_L_subscribe := ⟨by decide, Or.inl iw_943, iw_0, by decide, by decide⟩
theorem dd_L_change_0 : decode mm_L_change.2.1 0 = .ok (.aload_n 2, 1) := by decide +kernel
theorem dd_L_change_1 : decode mm_L_change.2.1 1 = .ok (.iconst 0, 1) := by decide +kernel
theorem dd_L_change_2 : decode mm_L_change.2.1 2 = .ok (.aload_n 0, 1) := by decide +kernel
theorem dd_L_change_3 : decode mm_L_change.2.1 3 = .ok (.iload_n 1, 1) := by decide +kernel
theorem dd_L_change_4 : decode mm_L_change.2.1 4 = .ok (.invokevirtual 21, 3) := by decide +kernel
theorem dd_L_change_7 : decode mm_L_change.2.1 7 = .ok (.i2l, 1) := by decide +kernel
theorem dd_L_change_8 : decode mm_L_change.2.1 8 = .ok (.lastore, 1) := by decide +kernel
theorem dd_L_change_9 : decode mm_L_change.2.1 9 = .ok (.goto 12, 3) := by decide +kernel
theorem dd_L_change_12 : decode mm_L_change.2.1 12 = .ok (.astore_n 3, 1) := by decide +kernel
theorem dd_L_change_13 : decode mm_L_change.2.1 13 = .ok (.iconst 1, 1) := by decide +kernel
theorem dd_L_change_14 : decode mm_L_change.2.1 14 = .ok (.ireturn, 1) := by decide +kernel
theorem dd_L_change_15 : decode mm_L_change.2.1 15 = .ok (.astore_n 3, 1) := by decide +kernel
theorem dd_L_change_16 : decode mm_L_change.2.1 16 = .ok (.iconst 2, 1) := by decide +kernel
theorem dd_L_change_17 : decode mm_L_change.2.1 17 = .ok (.ireturn, 1) := by decide +kernel
theorem dd_L_change_18 : decode mm_L_change.2.1 18 = .ok (.astore_n 3, 1) := by decide +kernel
theorem dd_L_change_19 : decode mm_L_change.2.1 19 = .ok (.iconst 3, 1) := by decide +kernel
theorem dd_L_change_20 : decode mm_L_change.2.1 20 = .ok (.ireturn, 1) := by decide +kernel
theorem dd_L_change_21 : decode mm_L_change.2.1 21 = .ok (.iconst 0, 1) := by decide +kernel
theorem dd_L_change_22 : decode mm_L_change.2.1 22 = .ok (.ireturn, 1) := by decide +kernel
theorem dd_L_close_0 : decode mm_L_close.2.1 0 = .ok (.aload_n 2, 1) := by decide +kernel
theorem dd_L_close_1 : decode mm_L_close.2.1 1 = .ok (.iconst 0, 1) := by decide +kernel
theorem dd_L_close_2 : decode mm_L_close.2.1 2 = .ok (.aload_n 0, 1) := by decide +kernel
theorem dd_L_close_3 : decode mm_L_close.2.1 3 = .ok (.iload_n 1, 1) := by decide +kernel
theorem dd_L_close_4 : decode mm_L_close.2.1 4 = .ok (.invokevirtual 33, 3) := by decide +kernel
theorem dd_L_close_7 : decode mm_L_close.2.1 7 = .ok (.ifCond .eq 7, 3) := by decide +kernel
theorem dd_L_close_10 : decode mm_L_close.2.1 10 = .ok (.lconst 1, 1) := by decide +kernel
theorem dd_L_close_11 : decode mm_L_close.2.1 11 = .ok (.goto 4, 3) := by decide +kernel
theorem dd_L_close_14 : decode mm_L_close.2.1 14 = .ok (.lconst 0, 1) := by decide +kernel
theorem dd_L_close_15 : decode mm_L_close.2.1 15 = .ok (.lastore, 1) := by decide +kernel
theorem dd_L_close_16 : decode mm_L_close.2.1 16 = .ok (.goto 9, 3) := by decide +kernel
theorem dd_L_close_19 : decode mm_L_close.2.1 19 = .ok (.astore_n 3, 1) := by decide +kernel
theorem dd_L_close_20 : decode mm_L_close.2.1 20 = .ok (.iconst 1, 1) := by decide +kernel
theorem dd_L_close_21 : decode mm_L_close.2.1 21 = .ok (.ireturn, 1) := by decide +kernel
theorem dd_L_close_22 : decode mm_L_close.2.1 22 = .ok (.astore_n 3, 1) := by decide +kernel
theorem dd_L_close_23 : decode mm_L_close.2.1 23 = .ok (.iconst 2, 1) := by decide +kernel
theorem dd_L_close_24 : decode mm_L_close.2.1 24 = .ok (.ireturn, 1) := by decide +kernel
theorem dd_L_close_25 : decode mm_L_close.2.1 25 = .ok (.iconst 0, 1) := by decide +kernel
theorem dd_L_close_26 : decode mm_L_close.2.1 26 = .ok (.ireturn, 1) := by decide +kernel
theorem dd_L_copied_0 : decode mm_L_copied.2.1 0 = .ok (.aload 4, 2) := by decide +kernel
theorem dd_L_copied_2 : decode mm_L_copied.2.1 2 = .ok (.iconst 0, 1) := by decide +kernel
theorem dd_L_copied_3 : decode mm_L_copied.2.1 3 = .ok (.aload_n 0, 1) := by decide +kernel
theorem dd_L_copied_4 : decode mm_L_copied.2.1 4 = .ok (.iload_n 1, 1) := by decide +kernel
theorem dd_L_copied_5 : decode mm_L_copied.2.1 5 = .ok (.iload_n 2, 1) := by decide +kernel
theorem dd_L_copied_6 : decode mm_L_copied.2.1 6 = .ok (.iload_n 3, 1) := by decide +kernel
theorem dd_L_copied_7 : decode mm_L_copied.2.1 7 = .ok (.invokevirtual 68, 3) := by decide +kernel
theorem dd_L_copied_10 : decode mm_L_copied.2.1 10 = .ok (.i2l, 1) := by decide +kernel
theorem dd_L_copied_11 : decode mm_L_copied.2.1 11 = .ok (.lastore, 1) := by decide +kernel
theorem dd_L_copied_12 : decode mm_L_copied.2.1 12 = .ok (.goto 11, 3) := by decide +kernel
theorem dd_L_copied_15 : decode mm_L_copied.2.1 15 = .ok (.astore 5, 2) := by decide +kernel
theorem dd_L_copied_17 : decode mm_L_copied.2.1 17 = .ok (.iconst 1, 1) := by decide +kernel
theorem dd_L_copied_18 : decode mm_L_copied.2.1 18 = .ok (.ireturn, 1) := by decide +kernel
theorem dd_L_copied_19 : decode mm_L_copied.2.1 19 = .ok (.astore 5, 2) := by decide +kernel
theorem dd_L_copied_21 : decode mm_L_copied.2.1 21 = .ok (.iconst 2, 1) := by decide +kernel
theorem dd_L_copied_22 : decode mm_L_copied.2.1 22 = .ok (.ireturn, 1) := by decide +kernel
theorem dd_L_copied_23 : decode mm_L_copied.2.1 23 = .ok (.iconst 0, 1) := by decide +kernel
theorem dd_L_copied_24 : decode mm_L_copied.2.1 24 = .ok (.ireturn, 1) := by decide +kernel
theorem dd_L_cursor_0 : decode mm_L_cursor.2.1 0 = .ok (.aload_n 2, 1) := by decide +kernel
theorem dd_L_cursor_1 : decode mm_L_cursor.2.1 1 = .ok (.iconst 0, 1) := by decide +kernel
theorem dd_L_cursor_2 : decode mm_L_cursor.2.1 2 = .ok (.aload_n 0, 1) := by decide +kernel
theorem dd_L_cursor_3 : decode mm_L_cursor.2.1 3 = .ok (.iload_n 1, 1) := by decide +kernel
theorem dd_L_cursor_4 : decode mm_L_cursor.2.1 4 = .ok (.invokevirtual 49, 3) := by decide +kernel
theorem dd_L_cursor_7 : decode mm_L_cursor.2.1 7 = .ok (.i2l, 1) := by decide +kernel
theorem dd_L_cursor_8 : decode mm_L_cursor.2.1 8 = .ok (.lastore, 1) := by decide +kernel
theorem dd_L_cursor_9 : decode mm_L_cursor.2.1 9 = .ok (.goto 6, 3) := by decide +kernel
theorem dd_L_cursor_12 : decode mm_L_cursor.2.1 12 = .ok (.astore_n 3, 1) := by decide +kernel
theorem dd_L_cursor_13 : decode mm_L_cursor.2.1 13 = .ok (.iconst 1, 1) := by decide +kernel
theorem dd_L_cursor_14 : decode mm_L_cursor.2.1 14 = .ok (.ireturn, 1) := by decide +kernel
theorem dd_L_cursor_15 : decode mm_L_cursor.2.1 15 = .ok (.iconst 0, 1) := by decide +kernel
theorem dd_L_cursor_16 : decode mm_L_cursor.2.1 16 = .ok (.ireturn, 1) := by decide +kernel
theorem dd_L_cutAfter_0 : decode mm_L_cutAfter.2.1 0 = .ok (.aload_n 0, 1) := by decide +kernel
theorem dd_L_cutAfter_1 : decode mm_L_cutAfter.2.1 1 = .ok (.iload_n 1, 1) := by decide +kernel
theorem dd_L_cutAfter_2 : decode mm_L_cutAfter.2.1 2 = .ok (.invokevirtual 75, 3) := by decide +kernel
theorem dd_L_cutAfter_5 : decode mm_L_cutAfter.2.1 5 = .ok (.goto 6, 3) := by decide +kernel
theorem dd_L_cutAfter_8 : decode mm_L_cutAfter.2.1 8 = .ok (.astore_n 2, 1) := by decide +kernel
theorem dd_L_cutAfter_9 : decode mm_L_cutAfter.2.1 9 = .ok (.iconst 1, 1) := by decide +kernel
theorem dd_L_cutAfter_10 : decode mm_L_cutAfter.2.1 10 = .ok (.ireturn, 1) := by decide +kernel
theorem dd_L_cutAfter_11 : decode mm_L_cutAfter.2.1 11 = .ok (.iconst 0, 1) := by decide +kernel
theorem dd_L_cutAfter_12 : decode mm_L_cutAfter.2.1 12 = .ok (.ireturn, 1) := by decide +kernel
theorem dd_L_follow_0 : decode mm_L_follow.2.1 0 = .ok (.aload_n 3, 1) := by decide +kernel
theorem dd_L_follow_1 : decode mm_L_follow.2.1 1 = .ok (.iconst 0, 1) := by decide +kernel
theorem dd_L_follow_2 : decode mm_L_follow.2.1 2 = .ok (.aload_n 0, 1) := by decide +kernel
theorem dd_L_follow_3 : decode mm_L_follow.2.1 3 = .ok (.iload_n 1, 1) := by decide +kernel
theorem dd_L_follow_4 : decode mm_L_follow.2.1 4 = .ok (.iload_n 2, 1) := by decide +kernel
theorem dd_L_follow_5 : decode mm_L_follow.2.1 5 = .ok (.invokevirtual 65, 3) := by decide +kernel
theorem dd_L_follow_8 : decode mm_L_follow.2.1 8 = .ok (.i2l, 1) := by decide +kernel
theorem dd_L_follow_9 : decode mm_L_follow.2.1 9 = .ok (.lastore, 1) := by decide +kernel
theorem dd_L_follow_10 : decode mm_L_follow.2.1 10 = .ok (.goto 11, 3) := by decide +kernel
theorem dd_L_follow_13 : decode mm_L_follow.2.1 13 = .ok (.astore 4, 2) := by decide +kernel
theorem dd_L_follow_15 : decode mm_L_follow.2.1 15 = .ok (.iconst 1, 1) := by decide +kernel
theorem dd_L_follow_16 : decode mm_L_follow.2.1 16 = .ok (.ireturn, 1) := by decide +kernel
theorem dd_L_follow_17 : decode mm_L_follow.2.1 17 = .ok (.astore 4, 2) := by decide +kernel
theorem dd_L_follow_19 : decode mm_L_follow.2.1 19 = .ok (.iconst 2, 1) := by decide +kernel
theorem dd_L_follow_20 : decode mm_L_follow.2.1 20 = .ok (.ireturn, 1) := by decide +kernel
theorem dd_L_follow_21 : decode mm_L_follow.2.1 21 = .ok (.iconst 0, 1) := by decide +kernel
theorem dd_L_follow_22 : decode mm_L_follow.2.1 22 = .ok (.ireturn, 1) := by decide +kernel
theorem dd_L_inStep_0 : decode mm_L_inStep.2.1 0 = .ok (.aload_n 2, 1) := by decide +kernel
theorem dd_L_inStep_1 : decode mm_L_inStep.2.1 1 = .ok (.iconst 0, 1) := by decide +kernel
theorem dd_L_inStep_2 : decode mm_L_inStep.2.1 2 = .ok (.aload_n 0, 1) := by decide +kernel
theorem dd_L_inStep_3 : decode mm_L_inStep.2.1 3 = .ok (.iload_n 1, 1) := by decide +kernel
theorem dd_L_inStep_4 : decode mm_L_inStep.2.1 4 = .ok (.invokevirtual 72, 3) := by decide +kernel
theorem dd_L_inStep_7 : decode mm_L_inStep.2.1 7 = .ok (.ifCond .eq 7, 3) := by decide +kernel
theorem dd_L_inStep_10 : decode mm_L_inStep.2.1 10 = .ok (.lconst 1, 1) := by decide +kernel
theorem dd_L_inStep_11 : decode mm_L_inStep.2.1 11 = .ok (.goto 4, 3) := by decide +kernel
theorem dd_L_inStep_14 : decode mm_L_inStep.2.1 14 = .ok (.lconst 0, 1) := by decide +kernel
theorem dd_L_inStep_15 : decode mm_L_inStep.2.1 15 = .ok (.lastore, 1) := by decide +kernel
theorem dd_L_inStep_16 : decode mm_L_inStep.2.1 16 = .ok (.goto 6, 3) := by decide +kernel
theorem dd_L_inStep_19 : decode mm_L_inStep.2.1 19 = .ok (.astore_n 3, 1) := by decide +kernel
theorem dd_L_inStep_20 : decode mm_L_inStep.2.1 20 = .ok (.iconst 1, 1) := by decide +kernel
theorem dd_L_inStep_21 : decode mm_L_inStep.2.1 21 = .ok (.ireturn, 1) := by decide +kernel
theorem dd_L_inStep_22 : decode mm_L_inStep.2.1 22 = .ok (.iconst 0, 1) := by decide +kernel
theorem dd_L_inStep_23 : decode mm_L_inStep.2.1 23 = .ok (.ireturn, 1) := by decide +kernel
theorem dd_L_list_0 : decode mm_L_list.2.1 0 = .ok (.aload_n 0, 1) := by decide +kernel
theorem dd_L_list_1 : decode mm_L_list.2.1 1 = .ok (.iload_n 1, 1) := by decide +kernel
theorem dd_L_list_2 : decode mm_L_list.2.1 2 = .ok (.invokevirtual 55, 3) := by decide +kernel
theorem dd_L_list_5 : decode mm_L_list.2.1 5 = .ok (.goto 6, 3) := by decide +kernel
theorem dd_L_list_8 : decode mm_L_list.2.1 8 = .ok (.astore_n 2, 1) := by decide +kernel
theorem dd_L_list_9 : decode mm_L_list.2.1 9 = .ok (.iconst 1, 1) := by decide +kernel
theorem dd_L_list_10 : decode mm_L_list.2.1 10 = .ok (.ireturn, 1) := by decide +kernel
theorem dd_L_list_11 : decode mm_L_list.2.1 11 = .ok (.iconst 0, 1) := by decide +kernel
theorem dd_L_list_12 : decode mm_L_list.2.1 12 = .ok (.ireturn, 1) := by decide +kernel
theorem dd_L_make_0 : decode mm_L_make.2.1 0 = .ok (.aload 4, 2) := by decide +kernel
theorem dd_L_make_2 : decode mm_L_make.2.1 2 = .ok (.iconst 0, 1) := by decide +kernel
theorem dd_L_make_3 : decode mm_L_make.2.1 3 = .ok (.aload_n 0, 1) := by decide +kernel
theorem dd_L_make_4 : decode mm_L_make.2.1 4 = .ok (.iload_n 1, 1) := by decide +kernel
theorem dd_L_make_5 : decode mm_L_make.2.1 5 = .ok (.iload_n 2, 1) := by decide +kernel
theorem dd_L_make_6 : decode mm_L_make.2.1 6 = .ok (.iload_n 3, 1) := by decide +kernel
theorem dd_L_make_7 : decode mm_L_make.2.1 7 = .ok (.invokevirtual 7, 3) := by decide +kernel
theorem dd_L_make_10 : decode mm_L_make.2.1 10 = .ok (.i2l, 1) := by decide +kernel
theorem dd_L_make_11 : decode mm_L_make.2.1 11 = .ok (.lastore, 1) := by decide +kernel
theorem dd_L_make_12 : decode mm_L_make.2.1 12 = .ok (.goto 19, 3) := by decide +kernel
theorem dd_L_make_15 : decode mm_L_make.2.1 15 = .ok (.astore 5, 2) := by decide +kernel
theorem dd_L_make_17 : decode mm_L_make.2.1 17 = .ok (.iconst 1, 1) := by decide +kernel
theorem dd_L_make_18 : decode mm_L_make.2.1 18 = .ok (.ireturn, 1) := by decide +kernel
theorem dd_L_make_19 : decode mm_L_make.2.1 19 = .ok (.astore 5, 2) := by decide +kernel
theorem dd_L_make_21 : decode mm_L_make.2.1 21 = .ok (.iconst 2, 1) := by decide +kernel
theorem dd_L_make_22 : decode mm_L_make.2.1 22 = .ok (.ireturn, 1) := by decide +kernel
theorem dd_L_make_23 : decode mm_L_make.2.1 23 = .ok (.astore 5, 2) := by decide +kernel
theorem dd_L_make_25 : decode mm_L_make.2.1 25 = .ok (.iconst 3, 1) := by decide +kernel
theorem dd_L_make_26 : decode mm_L_make.2.1 26 = .ok (.ireturn, 1) := by decide +kernel
theorem dd_L_make_27 : decode mm_L_make.2.1 27 = .ok (.astore 5, 2) := by decide +kernel
theorem dd_L_make_29 : decode mm_L_make.2.1 29 = .ok (.iconst 4, 1) := by decide +kernel
theorem dd_L_make_30 : decode mm_L_make.2.1 30 = .ok (.ireturn, 1) := by decide +kernel
theorem dd_L_make_31 : decode mm_L_make.2.1 31 = .ok (.iconst 0, 1) := by decide +kernel
theorem dd_L_make_32 : decode mm_L_make.2.1 32 = .ok (.ireturn, 1) := by decide +kernel
theorem dd_L_note_0 : decode mm_L_note.2.1 0 = .ok (.aload_n 3, 1) := by decide +kernel
theorem dd_L_note_1 : decode mm_L_note.2.1 1 = .ok (.iconst 0, 1) := by decide +kernel
theorem dd_L_note_2 : decode mm_L_note.2.1 2 = .ok (.aload_n 0, 1) := by decide +kernel
theorem dd_L_note_3 : decode mm_L_note.2.1 3 = .ok (.iload_n 1, 1) := by decide +kernel
theorem dd_L_note_4 : decode mm_L_note.2.1 4 = .ok (.iload_n 2, 1) := by decide +kernel
theorem dd_L_note_5 : decode mm_L_note.2.1 5 = .ok (.invokevirtual 42, 3) := by decide +kernel
theorem dd_L_note_8 : decode mm_L_note.2.1 8 = .ok (.i2l, 1) := by decide +kernel
theorem dd_L_note_9 : decode mm_L_note.2.1 9 = .ok (.lastore, 1) := by decide +kernel
theorem dd_L_note_10 : decode mm_L_note.2.1 10 = .ok (.goto 11, 3) := by decide +kernel
theorem dd_L_note_13 : decode mm_L_note.2.1 13 = .ok (.astore 4, 2) := by decide +kernel
theorem dd_L_note_15 : decode mm_L_note.2.1 15 = .ok (.iconst 1, 1) := by decide +kernel
theorem dd_L_note_16 : decode mm_L_note.2.1 16 = .ok (.ireturn, 1) := by decide +kernel
theorem dd_L_note_17 : decode mm_L_note.2.1 17 = .ok (.astore 4, 2) := by decide +kernel
theorem dd_L_note_19 : decode mm_L_note.2.1 19 = .ok (.iconst 2, 1) := by decide +kernel
theorem dd_L_note_20 : decode mm_L_note.2.1 20 = .ok (.ireturn, 1) := by decide +kernel
theorem dd_L_note_21 : decode mm_L_note.2.1 21 = .ok (.iconst 0, 1) := by decide +kernel
theorem dd_L_note_22 : decode mm_L_note.2.1 22 = .ok (.ireturn, 1) := by decide +kernel
theorem dd_L_of_0 : decode mm_L_of.2.1 0 = .ok (.aload_n 3, 1) := by decide +kernel
theorem dd_L_of_1 : decode mm_L_of.2.1 1 = .ok (.iconst 0, 1) := by decide +kernel
theorem dd_L_of_2 : decode mm_L_of.2.1 2 = .ok (.aload_n 0, 1) := by decide +kernel
theorem dd_L_of_3 : decode mm_L_of.2.1 3 = .ok (.iload_n 1, 1) := by decide +kernel
theorem dd_L_of_4 : decode mm_L_of.2.1 4 = .ok (.iload_n 2, 1) := by decide +kernel
theorem dd_L_of_5 : decode mm_L_of.2.1 5 = .ok (.invokevirtual 36, 3) := by decide +kernel
theorem dd_L_of_8 : decode mm_L_of.2.1 8 = .ok (.i2l, 1) := by decide +kernel
theorem dd_L_of_9 : decode mm_L_of.2.1 9 = .ok (.lastore, 1) := by decide +kernel
theorem dd_L_of_10 : decode mm_L_of.2.1 10 = .ok (.goto 11, 3) := by decide +kernel
theorem dd_L_of_13 : decode mm_L_of.2.1 13 = .ok (.astore 4, 2) := by decide +kernel
theorem dd_L_of_15 : decode mm_L_of.2.1 15 = .ok (.iconst 1, 1) := by decide +kernel
theorem dd_L_of_16 : decode mm_L_of.2.1 16 = .ok (.ireturn, 1) := by decide +kernel
theorem dd_L_of_17 : decode mm_L_of.2.1 17 = .ok (.astore 4, 2) := by decide +kernel
theorem dd_L_of_19 : decode mm_L_of.2.1 19 = .ok (.iconst 2, 1) := by decide +kernel
theorem dd_L_of_20 : decode mm_L_of.2.1 20 = .ok (.ireturn, 1) := by decide +kernel
theorem dd_L_of_21 : decode mm_L_of.2.1 21 = .ok (.iconst 0, 1) := by decide +kernel
theorem dd_L_of_22 : decode mm_L_of.2.1 22 = .ok (.ireturn, 1) := by decide +kernel
theorem dd_L_page_0 : decode mm_L_page.2.1 0 = .ok (.aload_n 2, 1) := by decide +kernel
theorem dd_L_page_1 : decode mm_L_page.2.1 1 = .ok (.iconst 0, 1) := by decide +kernel
theorem dd_L_page_2 : decode mm_L_page.2.1 2 = .ok (.aload_n 0, 1) := by decide +kernel
theorem dd_L_page_3 : decode mm_L_page.2.1 3 = .ok (.iload_n 1, 1) := by decide +kernel
theorem dd_L_page_4 : decode mm_L_page.2.1 4 = .ok (.invokevirtual 59, 3) := by decide +kernel
theorem dd_L_page_7 : decode mm_L_page.2.1 7 = .ok (.i2l, 1) := by decide +kernel
theorem dd_L_page_8 : decode mm_L_page.2.1 8 = .ok (.lastore, 1) := by decide +kernel
theorem dd_L_page_9 : decode mm_L_page.2.1 9 = .ok (.goto 9, 3) := by decide +kernel
theorem dd_L_page_12 : decode mm_L_page.2.1 12 = .ok (.astore_n 3, 1) := by decide +kernel
theorem dd_L_page_13 : decode mm_L_page.2.1 13 = .ok (.iconst 1, 1) := by decide +kernel
theorem dd_L_page_14 : decode mm_L_page.2.1 14 = .ok (.ireturn, 1) := by decide +kernel
theorem dd_L_page_15 : decode mm_L_page.2.1 15 = .ok (.astore_n 3, 1) := by decide +kernel
theorem dd_L_page_16 : decode mm_L_page.2.1 16 = .ok (.iconst 2, 1) := by decide +kernel
theorem dd_L_page_17 : decode mm_L_page.2.1 17 = .ok (.ireturn, 1) := by decide +kernel
theorem dd_L_page_18 : decode mm_L_page.2.1 18 = .ok (.iconst 0, 1) := by decide +kernel
theorem dd_L_page_19 : decode mm_L_page.2.1 19 = .ok (.ireturn, 1) := by decide +kernel
theorem dd_L_read_0 : decode mm_L_read.2.1 0 = .ok (.aload_n 2, 1) := by decide +kernel
theorem dd_L_read_1 : decode mm_L_read.2.1 1 = .ok (.iconst 0, 1) := by decide +kernel
theorem dd_L_read_2 : decode mm_L_read.2.1 2 = .ok (.aload_n 0, 1) := by decide +kernel
theorem dd_L_read_3 : decode mm_L_read.2.1 3 = .ok (.iload_n 1, 1) := by decide +kernel
theorem dd_L_read_4 : decode mm_L_read.2.1 4 = .ok (.invokevirtual 52, 3) := by decide +kernel
theorem dd_L_read_7 : decode mm_L_read.2.1 7 = .ok (.i2l, 1) := by decide +kernel
theorem dd_L_read_8 : decode mm_L_read.2.1 8 = .ok (.lastore, 1) := by decide +kernel
theorem dd_L_read_9 : decode mm_L_read.2.1 9 = .ok (.goto 6, 3) := by decide +kernel
theorem dd_L_read_12 : decode mm_L_read.2.1 12 = .ok (.astore_n 3, 1) := by decide +kernel
theorem dd_L_read_13 : decode mm_L_read.2.1 13 = .ok (.iconst 1, 1) := by decide +kernel
theorem dd_L_read_14 : decode mm_L_read.2.1 14 = .ok (.ireturn, 1) := by decide +kernel
theorem dd_L_read_15 : decode mm_L_read.2.1 15 = .ok (.iconst 0, 1) := by decide +kernel
theorem dd_L_read_16 : decode mm_L_read.2.1 16 = .ok (.ireturn, 1) := by decide +kernel
theorem dd_L_remove_0 : decode mm_L_remove.2.1 0 = .ok (.aload_n 2, 1) := by decide +kernel
theorem dd_L_remove_1 : decode mm_L_remove.2.1 1 = .ok (.iconst 0, 1) := by decide +kernel
theorem dd_L_remove_2 : decode mm_L_remove.2.1 2 = .ok (.aload_n 0, 1) := by decide +kernel
theorem dd_L_remove_3 : decode mm_L_remove.2.1 3 = .ok (.iload_n 1, 1) := by decide +kernel
theorem dd_L_remove_4 : decode mm_L_remove.2.1 4 = .ok (.invokevirtual 29, 3) := by decide +kernel
theorem dd_L_remove_7 : decode mm_L_remove.2.1 7 = .ok (.ifCond .eq 7, 3) := by decide +kernel
theorem dd_L_remove_10 : decode mm_L_remove.2.1 10 = .ok (.lconst 1, 1) := by decide +kernel
theorem dd_L_remove_11 : decode mm_L_remove.2.1 11 = .ok (.goto 4, 3) := by decide +kernel
theorem dd_L_remove_14 : decode mm_L_remove.2.1 14 = .ok (.lconst 0, 1) := by decide +kernel
theorem dd_L_remove_15 : decode mm_L_remove.2.1 15 = .ok (.lastore, 1) := by decide +kernel
theorem dd_L_remove_16 : decode mm_L_remove.2.1 16 = .ok (.goto 12, 3) := by decide +kernel
theorem dd_L_remove_19 : decode mm_L_remove.2.1 19 = .ok (.astore_n 3, 1) := by decide +kernel
theorem dd_L_remove_20 : decode mm_L_remove.2.1 20 = .ok (.iconst 1, 1) := by decide +kernel
theorem dd_L_remove_21 : decode mm_L_remove.2.1 21 = .ok (.ireturn, 1) := by decide +kernel
theorem dd_L_remove_22 : decode mm_L_remove.2.1 22 = .ok (.astore_n 3, 1) := by decide +kernel
theorem dd_L_remove_23 : decode mm_L_remove.2.1 23 = .ok (.iconst 2, 1) := by decide +kernel
theorem dd_L_remove_24 : decode mm_L_remove.2.1 24 = .ok (.ireturn, 1) := by decide +kernel
theorem dd_L_remove_25 : decode mm_L_remove.2.1 25 = .ok (.astore_n 3, 1) := by decide +kernel
theorem dd_L_remove_26 : decode mm_L_remove.2.1 26 = .ok (.iconst 3, 1) := by decide +kernel
theorem dd_L_remove_27 : decode mm_L_remove.2.1 27 = .ok (.ireturn, 1) := by decide +kernel
theorem dd_L_remove_28 : decode mm_L_remove.2.1 28 = .ok (.iconst 0, 1) := by decide +kernel
theorem dd_L_remove_29 : decode mm_L_remove.2.1 29 = .ok (.ireturn, 1) := by decide +kernel
theorem dd_L_rename_0 : decode mm_L_rename.2.1 0 = .ok (.aload 4, 2) := by decide +kernel
theorem dd_L_rename_2 : decode mm_L_rename.2.1 2 = .ok (.iconst 0, 1) := by decide +kernel
theorem dd_L_rename_3 : decode mm_L_rename.2.1 3 = .ok (.aload_n 0, 1) := by decide +kernel
theorem dd_L_rename_4 : decode mm_L_rename.2.1 4 = .ok (.iload_n 1, 1) := by decide +kernel
theorem dd_L_rename_5 : decode mm_L_rename.2.1 5 = .ok (.iload_n 2, 1) := by decide +kernel
theorem dd_L_rename_6 : decode mm_L_rename.2.1 6 = .ok (.iload_n 3, 1) := by decide +kernel
theorem dd_L_rename_7 : decode mm_L_rename.2.1 7 = .ok (.invokevirtual 25, 3) := by decide +kernel
theorem dd_L_rename_10 : decode mm_L_rename.2.1 10 = .ok (.ifCond .eq 7, 3) := by decide +kernel
theorem dd_L_rename_13 : decode mm_L_rename.2.1 13 = .ok (.lconst 1, 1) := by decide +kernel
theorem dd_L_rename_14 : decode mm_L_rename.2.1 14 = .ok (.goto 4, 3) := by decide +kernel
theorem dd_L_rename_17 : decode mm_L_rename.2.1 17 = .ok (.lconst 0, 1) := by decide +kernel
theorem dd_L_rename_18 : decode mm_L_rename.2.1 18 = .ok (.lastore, 1) := by decide +kernel
theorem dd_L_rename_19 : decode mm_L_rename.2.1 19 = .ok (.goto 19, 3) := by decide +kernel
theorem dd_L_rename_22 : decode mm_L_rename.2.1 22 = .ok (.astore 5, 2) := by decide +kernel
theorem dd_L_rename_24 : decode mm_L_rename.2.1 24 = .ok (.iconst 1, 1) := by decide +kernel
theorem dd_L_rename_25 : decode mm_L_rename.2.1 25 = .ok (.ireturn, 1) := by decide +kernel
theorem dd_L_rename_26 : decode mm_L_rename.2.1 26 = .ok (.astore 5, 2) := by decide +kernel
theorem dd_L_rename_28 : decode mm_L_rename.2.1 28 = .ok (.iconst 2, 1) := by decide +kernel
theorem dd_L_rename_29 : decode mm_L_rename.2.1 29 = .ok (.ireturn, 1) := by decide +kernel
theorem dd_L_rename_30 : decode mm_L_rename.2.1 30 = .ok (.astore 5, 2) := by decide +kernel
theorem dd_L_rename_32 : decode mm_L_rename.2.1 32 = .ok (.iconst 3, 1) := by decide +kernel
theorem dd_L_rename_33 : decode mm_L_rename.2.1 33 = .ok (.ireturn, 1) := by decide +kernel
theorem dd_L_rename_34 : decode mm_L_rename.2.1 34 = .ok (.astore 5, 2) := by decide +kernel
theorem dd_L_rename_36 : decode mm_L_rename.2.1 36 = .ok (.iconst 4, 1) := by decide +kernel
theorem dd_L_rename_37 : decode mm_L_rename.2.1 37 = .ok (.ireturn, 1) := by decide +kernel
theorem dd_L_rename_38 : decode mm_L_rename.2.1 38 = .ok (.iconst 0, 1) := by decide +kernel
theorem dd_L_rename_39 : decode mm_L_rename.2.1 39 = .ok (.ireturn, 1) := by decide +kernel
theorem dd_L_shown_0 : decode mm_L_shown.2.1 0 = .ok (.aload_n 3, 1) := by decide +kernel
theorem dd_L_shown_1 : decode mm_L_shown.2.1 1 = .ok (.iconst 0, 1) := by decide +kernel
theorem dd_L_shown_2 : decode mm_L_shown.2.1 2 = .ok (.aload_n 0, 1) := by decide +kernel
theorem dd_L_shown_3 : decode mm_L_shown.2.1 3 = .ok (.iload_n 1, 1) := by decide +kernel
theorem dd_L_shown_4 : decode mm_L_shown.2.1 4 = .ok (.iload_n 2, 1) := by decide +kernel
theorem dd_L_shown_5 : decode mm_L_shown.2.1 5 = .ok (.invokevirtual 62, 3) := by decide +kernel
theorem dd_L_shown_8 : decode mm_L_shown.2.1 8 = .ok (.i2l, 1) := by decide +kernel
theorem dd_L_shown_9 : decode mm_L_shown.2.1 9 = .ok (.lastore, 1) := by decide +kernel
theorem dd_L_shown_10 : decode mm_L_shown.2.1 10 = .ok (.goto 7, 3) := by decide +kernel
theorem dd_L_shown_13 : decode mm_L_shown.2.1 13 = .ok (.astore 4, 2) := by decide +kernel
theorem dd_L_shown_15 : decode mm_L_shown.2.1 15 = .ok (.iconst 1, 1) := by decide +kernel
theorem dd_L_shown_16 : decode mm_L_shown.2.1 16 = .ok (.ireturn, 1) := by decide +kernel
theorem dd_L_shown_17 : decode mm_L_shown.2.1 17 = .ok (.iconst 0, 1) := by decide +kernel
theorem dd_L_shown_18 : decode mm_L_shown.2.1 18 = .ok (.ireturn, 1) := by decide +kernel
theorem dd_L_subscribe_0 : decode mm_L_subscribe.2.1 0 = .ok (.aload_n 0, 1) := by decide +kernel
theorem dd_L_subscribe_1 : decode mm_L_subscribe.2.1 1 = .ok (.iload_n 1, 1) := by decide +kernel
theorem dd_L_subscribe_2 : decode mm_L_subscribe.2.1 2 = .ok (.iload_n 2, 1) := by decide +kernel
theorem dd_L_subscribe_3 : decode mm_L_subscribe.2.1 3 = .ok (.invokevirtual 45, 3) := by decide +kernel
theorem dd_L_subscribe_6 : decode mm_L_subscribe.2.1 6 = .ok (.goto 9, 3) := by decide +kernel
theorem dd_L_subscribe_9 : decode mm_L_subscribe.2.1 9 = .ok (.astore_n 3, 1) := by decide +kernel
theorem dd_L_subscribe_10 : decode mm_L_subscribe.2.1 10 = .ok (.iconst 1, 1) := by decide +kernel
theorem dd_L_subscribe_11 : decode mm_L_subscribe.2.1 11 = .ok (.ireturn, 1) := by decide +kernel
theorem dd_L_subscribe_12 : decode mm_L_subscribe.2.1 12 = .ok (.astore_n 3, 1) := by decide +kernel
theorem dd_L_subscribe_13 : decode mm_L_subscribe.2.1 13 = .ok (.iconst 2, 1) := by decide +kernel
theorem dd_L_subscribe_14 : decode mm_L_subscribe.2.1 14 = .ok (.ireturn, 1) := by decide +kernel
theorem dd_L_subscribe_15 : decode mm_L_subscribe.2.1 15 = .ok (.iconst 0, 1) := by decide +kernel
theorem dd_L_subscribe_16 : decode mm_L_subscribe.2.1 16 = .ok (.ireturn, 1) := by decide +kernel
theorem iv_L_change_4 {G : xa_G} {rest fs : List Value} {h : xa_H} {b : Nat} {a1 : Value} (hb : h b = some (.inr (0, fs))) : xa_inv G mm_L_change mm_V_change 4 (a1 :: .ref b :: rest) [.ref b, a1] rest h := xi_V (n := 1) (As := [a1]) dd_L_change_4 ok_V_change iw_866 iw_867 rfl iw_868 (by decide +kernel) rfl hb
theorem iv_L_close_4 {G : xa_G} {rest fs : List Value} {h : xa_H} {b : Nat} {a1 : Value} (hb : h b = some (.inr (0, fs))) : xa_inv G mm_L_close mm_V_close 4 (a1 :: .ref b :: rest) [.ref b, a1] rest h := xi_V (n := 1) (As := [a1]) dd_L_close_4 ok_V_close iw_903 iw_904 rfl iw_905 (by decide +kernel) rfl hb
theorem iv_L_copied_7 {G : xa_G} {rest fs : List Value} {h : xa_H} {b : Nat} {a1 a2 a3 : Value} (hb : h b = some (.inr (0, fs))) : xa_inv G mm_L_copied mm_V_copied 7 (a3 :: a2 :: a1 :: .ref b :: rest) [.ref b, a1, a2, a3] rest h := xi_V (n := 3) (As := [a1, a2, a3]) dd_L_copied_7 ok_V_copied iw_1052 iw_1053 rfl iw_1054 (by decide +kernel) rfl hb
theorem iv_L_cursor_4 {G : xa_G} {rest fs : List Value} {h : xa_H} {b : Nat} {a1 : Value} (hb : h b = some (.inr (0, fs))) : xa_inv G mm_L_cursor mm_V_cursor 4 (a1 :: .ref b :: rest) [.ref b, a1] rest h := xi_V (n := 1) (As := [a1]) dd_L_cursor_4 ok_V_cursor iw_962 iw_963 rfl iw_964 (by decide +kernel) rfl hb
theorem iv_L_cutAfter_2 {G : xa_G} {rest fs : List Value} {h : xa_H} {b : Nat} {a1 : Value} (hb : h b = some (.inr (0, fs))) : xa_inv G mm_L_cutAfter mm_V_cutAfter 2 (a1 :: .ref b :: rest) [.ref b, a1] rest h := xi_V (n := 1) (As := [a1]) dd_L_cutAfter_2 ok_V_cutAfter iw_1075 iw_1076 rfl iw_1077 (by decide +kernel) rfl hb
theorem iv_L_follow_5 {G : xa_G} {rest fs : List Value} {h : xa_H} {b : Nat} {a1 a2 : Value} (hb : h b = some (.inr (0, fs))) : xa_inv G mm_L_follow mm_V_follow 5 (a2 :: a1 :: .ref b :: rest) [.ref b, a1, a2] rest h := xi_V (n := 2) (As := [a1, a2]) dd_L_follow_5 ok_V_follow iw_1017 iw_1018 rfl iw_1019 (by decide +kernel) rfl hb
theorem iv_L_inStep_4 {G : xa_G} {rest fs : List Value} {h : xa_H} {b : Nat} {a1 : Value} (hb : h b = some (.inr (0, fs))) : xa_inv G mm_L_inStep mm_V_inStep 4 (a1 :: .ref b :: rest) [.ref b, a1] rest h := xi_V (n := 1) (As := [a1]) dd_L_inStep_4 ok_V_inStep iw_1060 iw_1061 rfl iw_1062 (by decide +kernel) rfl hb
theorem iv_L_list_2 {G : xa_G} {rest fs : List Value} {h : xa_H} {b : Nat} {a1 : Value} (hb : h b = some (.inr (0, fs))) : xa_inv G mm_L_list mm_V_list 2 (a1 :: .ref b :: rest) [.ref b, a1] rest h := xi_V (n := 1) (As := [a1]) dd_L_list_2 ok_V_list iw_983 iw_984 rfl iw_985 (by decide +kernel) rfl hb
theorem iv_L_make_7 {G : xa_G} {rest fs : List Value} {h : xa_H} {b : Nat} {a1 a2 a3 : Value} (hb : h b = some (.inr (0, fs))) : xa_inv G mm_L_make mm_V_make 7 (a3 :: a2 :: a1 :: .ref b :: rest) [.ref b, a1, a2, a3] rest h := xi_V (n := 3) (As := [a1, a2, a3]) dd_L_make_7 ok_V_make iw_428 iw_429 rfl iw_430 (by decide +kernel) rfl hb
theorem iv_L_note_5 {G : xa_G} {rest fs : List Value} {h : xa_H} {b : Nat} {a1 a2 : Value} (hb : h b = some (.inr (0, fs))) : xa_inv G mm_L_note mm_V_note 5 (a2 :: a1 :: .ref b :: rest) [.ref b, a1, a2] rest h := xi_V (n := 2) (As := [a1, a2]) dd_L_note_5 ok_V_note iw_930 iw_931 rfl iw_932 (by decide +kernel) rfl hb
theorem iv_L_of_5 {G : xa_G} {rest fs : List Value} {h : xa_H} {b : Nat} {a1 a2 : Value} (hb : h b = some (.inr (0, fs))) : xa_inv G mm_L_of mm_V_of 5 (a2 :: a1 :: .ref b :: rest) [.ref b, a1, a2] rest h := xi_V (n := 2) (As := [a1, a2]) dd_L_of_5 ok_V_of iw_913 iw_914 rfl iw_915 (by decide +kernel) rfl hb
theorem iv_L_page_4 {G : xa_G} {rest fs : List Value} {h : xa_H} {b : Nat} {a1 : Value} (hb : h b = some (.inr (0, fs))) : xa_inv G mm_L_page mm_V_page 4 (a1 :: .ref b :: rest) [.ref b, a1] rest h := xi_V (n := 1) (As := [a1]) dd_L_page_4 ok_V_page iw_994 iw_995 rfl iw_996 (by decide +kernel) rfl hb
theorem iv_L_read_4 {G : xa_G} {rest fs : List Value} {h : xa_H} {b : Nat} {a1 : Value} (hb : h b = some (.inr (0, fs))) : xa_inv G mm_L_read mm_V_read 4 (a1 :: .ref b :: rest) [.ref b, a1] rest h := xi_V (n := 1) (As := [a1]) dd_L_read_4 ok_V_read iw_969 iw_970 rfl iw_971 (by decide +kernel) rfl hb
theorem iv_L_remove_4 {G : xa_G} {rest fs : List Value} {h : xa_H} {b : Nat} {a1 : Value} (hb : h b = some (.inr (0, fs))) : xa_inv G mm_L_remove mm_V_remove 4 (a1 :: .ref b :: rest) [.ref b, a1] rest h := xi_V (n := 1) (As := [a1]) dd_L_remove_4 ok_V_remove iw_886 iw_887 rfl iw_888 (by decide +kernel) rfl hb
theorem iv_L_rename_7 {G : xa_G} {rest fs : List Value} {h : xa_H} {b : Nat} {a1 a2 a3 : Value} (hb : h b = some (.inr (0, fs))) : xa_inv G mm_L_rename mm_V_rename 7 (a3 :: a2 :: a1 :: .ref b :: rest) [.ref b, a1, a2, a3] rest h := xi_V (n := 3) (As := [a1, a2, a3]) dd_L_rename_7 ok_V_rename iw_874 iw_875 rfl iw_876 (by decide +kernel) rfl hb
theorem iv_L_shown_5 {G : xa_G} {rest fs : List Value} {h : xa_H} {b : Nat} {a1 a2 : Value} (hb : h b = some (.inr (0, fs))) : xa_inv G mm_L_shown mm_V_shown 5 (a2 :: a1 :: .ref b :: rest) [.ref b, a1, a2] rest h := xi_V (n := 2) (As := [a1, a2]) dd_L_shown_5 ok_V_shown iw_1010 iw_1011 rfl iw_1012 (by decide +kernel) rfl hb
theorem iv_L_subscribe_3 {G : xa_G} {rest fs : List Value} {h : xa_H} {b : Nat} {a1 a2 : Value} (hb : h b = some (.inr (0, fs))) : xa_inv G mm_L_subscribe mm_V_subscribe 3 (a2 :: a1 :: .ref b :: rest) [.ref b, a1, a2] rest h := xi_V (n := 2) (As := [a1, a2]) dd_L_subscribe_3 ok_V_subscribe iw_944 iw_945 rfl iw_946 (by decide +kernel) rfl hb
