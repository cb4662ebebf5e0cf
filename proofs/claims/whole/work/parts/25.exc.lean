/-! exceptions of the class -/
def xn_1 : List String := ["java/lang/RuntimeException", "java/lang/Exception"]
theorem ex_10 : xa_E0 "NotedVolume" 57 61 10 "java/lang/IllegalStateException" 7 prog_16_method_2_code xn_1 :=
  ⟨⟨_, rfl⟩, by decide +kernel, by decide +kernel, by decide, by decide +kernel, by decide +kernel, by decide +kernel, by decide +kernel, by decide +kernel⟩
theorem ex_11 : xa_E0 "NotedVolume" 174 178 11 "java/lang/IllegalArgumentException" 7 prog_15_method_2_code xn_1 :=
  ⟨⟨_, rfl⟩, by decide +kernel, by decide +kernel, by decide, by decide +kernel, by decide +kernel, by decide +kernel, by decide +kernel, by decide +kernel⟩
theorem ex_12 : xa_E0 "NotedVolume" 133 137 12 "java/util/NoSuchElementException" 13 prog_35_method_4_code xn_1 :=
  ⟨⟨_, rfl⟩, by decide +kernel, by decide +kernel, by decide, by decide +kernel, by decide +kernel, by decide +kernel, by decide +kernel, by decide +kernel⟩
theorem ex_13 : xa_E0 "NotedVolume" 93 97 13 "java/lang/UnsupportedOperationException" 7 prog_28_method_2_code xn_1 :=
  ⟨⟨_, rfl⟩, by decide +kernel, by decide +kernel, by decide, by decide +kernel, by decide +kernel, by decide +kernel, by decide +kernel, by decide +kernel⟩
theorem ex_14 : xa_E0 "NotedVolume" 245 249 14 "java/lang/IndexOutOfBoundsException" 7 prog_17_method_2_code xn_1 :=
  ⟨⟨_, rfl⟩, by decide +kernel, by decide +kernel, by decide, by decide +kernel, by decide +kernel, by decide +kernel, by decide +kernel, by decide +kernel⟩
