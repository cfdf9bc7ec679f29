/-! texts: the JDK's methods over worlds (Latin-1 alone) -/
theorem vf_J5_15 : Cond.fieldLink RJ5 15 (TJ4 0).1 (TJ4 0).2.1 (TJ4 0).2.2.1 ∈ vs_ws := vs_mem 255 (by decide +kernel) (by decide +kernel)
theorem vz_J5_18 : Cond.fieldLink RJ5 18 "java/lang/String" "COMPACT_STRINGS" "Z" ∈ vs_ws := vs_mem 246 (by decide +kernel) (by decide +kernel)
theorem vf_J5_22 : Cond.fieldLink RJ5 22 (TJ4 1).1 (TJ4 1).2.1 (TJ4 1).2.2.1 ∈ vs_ws := vs_mem 256 (by decide +kernel) (by decide +kernel)
theorem vf_J5_73 : Cond.fieldLink RJ5 73 (TJ4 2).1 (TJ4 2).2.1 (TJ4 2).2.2.1 ∈ vs_ws := vs_mem 257 (by decide +kernel) (by decide +kernel)
theorem vf_J5_79 : Cond.fieldLink RJ5 79 (TJ4 3).1 (TJ4 3).2.1 (TJ4 3).2.2.1 ∈ vs_ws := vs_mem 259 (by decide +kernel) (by decide +kernel)
theorem vf_J0_9 : Cond.fieldLink RJ0 9 (TJ0 0).1 (TJ0 0).2.1 (TJ0 0).2.2.1 ∈ vs_ws := vs_mem 1162 (by decide +kernel) (by decide +kernel)
theorem vf_J0_15 : Cond.fieldLink RJ0 15 (TJ0 1).1 (TJ0 1).2.1 (TJ0 1).2.2.1 ∈ vs_ws := vs_mem 1163 (by decide +kernel) (by decide +kernel)
theorem vz_J0_38 : Cond.fieldLink RJ0 38 "java/lang/String" "COMPACT_STRINGS" "Z" ∈ vs_ws := vs_mem 1046 (by decide +kernel) (by decide +kernel)
theorem vf_J0_1048 : Cond.fieldLink RJ0 1048 (TJ4 2).1 (TJ4 2).2.1 (TJ4 2).2.2.1 ∈ vs_ws := vs_mem 258 (by decide +kernel) (by decide +kernel)
theorem vz_J6_83 : Cond.fieldLink RJ6 83 "java/lang/Integer" "DigitOnes" "[B" ∈ vs_ws := vs_mem 1094 (by decide +kernel) (by decide +kernel)
theorem vz_J6_87 : Cond.fieldLink RJ6 87 "java/lang/Integer" "DigitTens" "[B" ∈ vs_ws := vs_mem 1096 (by decide +kernel) (by decide +kernel)
theorem vz_J0_1053 : Cond.fieldLink RJ0 1053 "jdk/internal/util/Preconditions" "SIOOBE_FORMATTER" "Ljava/util/function/BiFunction;" ∈ vs_ws := vs_mem 1024 (by decide +kernel) (by decide +kernel)
theorem vm_J5_32 : Cond.methodLink RJ5 32 yJ0_length_8abf5 ∈ vs_ws := vs_mem 1038 (by decide +kernel) (by decide +kernel)
theorem vm_J5_40 : Cond.methodLink RJ5 40 yJ0_coder_7d493 ∈ vs_ws := vs_mem 1055 (by decide +kernel) (by decide +kernel)
theorem vm_J5_83 : Cond.methodLink RJ5 83 yJ5_isLatin1_aae02 ∈ vs_ws := vs_mem 1007 (by decide +kernel) (by decide +kernel)
theorem vm_J5_100 : Cond.methodLink RJ5 100 yJ5_ensureCapacityInternal_d00df ∈ vs_ws := vs_mem 978 (by decide +kernel) (by decide +kernel)
theorem vm_J5_104 : Cond.methodLink RJ5 104 yJ5_newCapacity_0f7a4 ∈ vs_ws := vs_mem 982 (by decide +kernel) (by decide +kernel)
theorem vm_J5_108 : Cond.methodLink RJ5 108 yJ7_copyOf_9075b ∈ vs_ws := vs_mem 995 (by decide +kernel) (by decide +kernel)
theorem vm_J5_114 : Cond.methodLink RJ5 114 yJ8_newLength_cabcc ∈ vs_ws := vs_mem 986 (by decide +kernel) (by decide +kernel)
theorem vm_J5_138 : Cond.methodLink RJ5 138 yJ9_min_7cf53 ∈ vs_ws := vs_mem 1246 (by decide +kernel) (by decide +kernel)
theorem vm_J5_144 : Cond.methodLink RJ5 144 yJ0_checkIndex_df160 ∈ vs_ws := vs_mem 1247 (by decide +kernel) (by decide +kernel)
theorem vm_J5_191 : Cond.methodLink RJ5 191 yJ1_canEncode_fc78d ∈ vs_ws := vs_mem 1210 (by decide +kernel) (by decide +kernel)
theorem vm_J5_245 : Cond.methodLink RJ5 245 yJ6_stringSize_0f7a4 ∈ vs_ws := vs_mem 1088 (by decide +kernel) (by decide +kernel)
theorem vm_J5_248 : Cond.methodLink RJ5 248 yJ6_getChars_ba4f3 ∈ vs_ws := vs_mem 1091 (by decide +kernel) (by decide +kernel)
theorem vm_Jx00060_12 : Cond.methodLink RJx00060 12 yJ4_init_da8c8 ∈ vs_ws := vs_mem 1194 (by decide +kernel) (by decide +kernel)
theorem vm_Jx00060_19 : Cond.methodLink RJx00060 19 yJ4_append_bf812 ∈ vs_ws := vs_mem 1197 (by decide +kernel) (by decide +kernel)
theorem vm_Jx00060_22 : Cond.methodLink RJx00060 22 yJ4_toString_0e30d ∈ vs_ws := vs_mem 1198 (by decide +kernel) (by decide +kernel)
theorem vm_J0_54 : Cond.methodLink RJ0 54 yJ7_copyOfRange_39247 ∈ vs_ws := vs_mem 1132 (by decide +kernel) (by decide +kernel)
theorem vm_J0_335 : Cond.methodLink RJ0 335 yJ0_coder_7d493 ∈ vs_ws := vs_mem 1042 (by decide +kernel) (by decide +kernel)
theorem vm_J0_489 : Cond.methodLink RJ0 489 yJ0_init_db425 ∈ vs_ws := vs_mem 1114 (by decide +kernel) (by decide +kernel)
theorem vm_J0_492 : Cond.methodLink RJ0 492 yJ0_isLatin1_aae02 ∈ vs_ws := vs_mem 1654 (by decide +kernel) (by decide +kernel)
theorem vm_J0_495 : Cond.methodLink RJ0 495 yJ1_charAt_3b067 ∈ vs_ws := vs_mem 1658 (by decide +kernel) (by decide +kernel)
theorem vm_J0_549 : Cond.methodLink RJ0 549 yJ5_length_8abf5 ∈ vs_ws := vs_mem 1123 (by decide +kernel) (by decide +kernel)
theorem vm_J0_552 : Cond.methodLink RJ0 552 yJ5_getValue_6d5f1 ∈ vs_ws := vs_mem 1118 (by decide +kernel) (by decide +kernel)
theorem vm_J0_1047 : Cond.methodLink RJ0 1047 yJ5_isLatin1_aae02 ∈ vs_ws := vs_mem 1131 (by decide +kernel) (by decide +kernel)
theorem vm_J0_1059 : Cond.methodLink RJ0 1059 yJ3_checkIndex_8e157 ∈ vs_ws := vs_mem 1222 (by decide +kernel) (by decide +kernel)
theorem vm_J4_1 : Cond.methodLink RJ4 1 yJ5_init_d00df ∈ vs_ws := vs_mem 242 (by decide +kernel) (by decide +kernel)
theorem vm_J4_50 : Cond.methodLink RJ4 50 yJ5_append_3fe6f ∈ vs_ws := vs_mem 1207 (by decide +kernel) (by decide +kernel)
theorem vm_J4_53 : Cond.methodLink RJ4 53 yJ5_append_c97b9 ∈ vs_ws := vs_mem 1085 (by decide +kernel) (by decide +kernel)
theorem vm_J4_137 : Cond.methodLink RJ4 137 yJ0_init_81219 ∈ vs_ws := vs_mem 1111 (by decide +kernel) (by decide +kernel)
theorem vm_J4_329 : Cond.methodLink RJ4 329 yJ5_charAt_5068e ∈ vs_ws := vs_mem 1243 (by decide +kernel) (by decide +kernel)
theorem vm_J4_333 : Cond.methodLink RJ4 333 yJ5_setLength_d00df ∈ vs_ws := vs_mem 956 (by decide +kernel) (by decide +kernel)
theorem vm_J4_343 : Cond.methodLink RJ4 343 yJ5_length_8abf5 ∈ vs_ws := vs_mem 1129 (by decide +kernel) (by decide +kernel)
theorem vm_Jx7c733_12 : Cond.methodLink RJx7c733 12 yJ4_init_da8c8 ∈ vs_ws := vs_mem 965 (by decide +kernel) (by decide +kernel)
theorem vm_Jx7c733_19 : Cond.methodLink RJx7c733 19 yJ4_append_bf812 ∈ vs_ws := vs_mem 1081 (by decide +kernel) (by decide +kernel)
theorem vm_Jx7c733_22 : Cond.methodLink RJx7c733 22 yJ4_toString_0e30d ∈ vs_ws := vs_mem 1106 (by decide +kernel) (by decide +kernel)
theorem vm_J1_9 : Cond.methodLink RJ1 9 yJ0_checkIndex_df160 ∈ vs_ws := vs_mem 1661 (by decide +kernel) (by decide +kernel)
theorem vm_J2_126 : Cond.methodLink RJ2 126 yJ7_copyOfRange_39247 ∈ vs_ws := vs_mem 1158 (by decide +kernel) (by decide +kernel)
theorem vm_J2_414 : Cond.methodLink RJ2 414 yJ0_checkIndex_df160 ∈ vs_ws := vs_mem 1219 (by decide +kernel) (by decide +kernel)
theorem vm_J7_47 : Cond.methodLink RJ7 47 yJ4_init_da8c8 ∈ vs_ws := vs_mem 1143 (by decide +kernel) (by decide +kernel)
theorem vm_J7_54 : Cond.methodLink RJ7 54 yJ4_append_bf812 ∈ vs_ws := vs_mem 1144 (by decide +kernel) (by decide +kernel)
theorem vm_J7_61 : Cond.methodLink RJ7 61 yJ4_toString_0e30d ∈ vs_ws := vs_mem 1147 (by decide +kernel) (by decide +kernel)
theorem vm_J7_304 : Cond.methodLink RJ7 304 yJ9_min_7cf53 ∈ vs_ws := vs_mem 1005 (by decide +kernel) (by decide +kernel)
theorem vm_J7_339 : Cond.methodLink RJ7 339 yJ7_copyOfRangeByte_39247 ∈ vs_ws := vs_mem 1135 (by decide +kernel) (by decide +kernel)
theorem vm_J7_343 : Cond.methodLink RJ7 343 yJ7_checkLength_df160 ∈ vs_ws := vs_mem 1138 (by decide +kernel) (by decide +kernel)
theorem vm_J8_194 : Cond.methodLink RJ8 194 yJ9_max_7cf53 ∈ vs_ws := vs_mem 989 (by decide +kernel) (by decide +kernel)
def vs_lkU (y : MethodName) (bytes : ByteArray) (maxL : Nat) (ret : Option FieldType) (n : Nat) : Prop :=
  Cond.sameMethod RJ5 RJ5 y.name y.desc ∈ vs_ws ∧ (Cond.selects RJ4 y y ∈ vs_ws ∨ y ∈ vs_priv) ∧ Cond.instanceMethod y ∈ vs_ws ∧ Cond.initialized y.cls ∈ vs_ws ∧ Cond.code y bytes maxL ret ∈ vs_ws ∧ y.cls = RJ5 ∧ (parseMethodDescriptor y.desc).map (fun d => d.parameters.length) = some n
def vs_lkSU (y : MethodName) (bytes : ByteArray) (maxL : Nat) (ret : Option FieldType) (n : Nat) : Prop :=
  Cond.sameMethod RJ5 RJ5 y.name y.desc ∈ vs_ws ∧ Cond.instanceMethod y ∈ vs_ws ∧ Cond.initialized y.cls ∈ vs_ws ∧ Cond.code y bytes maxL ret ∈ vs_ws ∧ y.cls = RJ5 ∧ y.name ≠ "<init>" ∧ (parseMethodDescriptor y.desc).map (fun d => d.parameters.length) = some n
def vs_lkI (y : MethodName) (bytes : ByteArray) (maxL : Nat) (n : Nat) : Prop :=
  Cond.instanceMethod y ∈ vs_ws ∧ Cond.initialized y.cls ∈ vs_ws ∧ Cond.code y bytes maxL none ∈ vs_ws ∧ y.name = "<init>" ∧ y.cls ≠ "java/lang/invoke/MethodHandle" ∧ y.cls ≠ "java/lang/invoke/VarHandle" ∧ (parseMethodDescriptor y.desc).map (fun d => d.parameters.length) = some n
theorem vs_supJ : Cond.superclass RJ4 RJ5 ∈ vs_ws := vs_mem 268 (by decide +kernel) (by decide +kernel)
theorem vs_selL : Cond.selects RJ4 yJ5_isLatin1_aae02 yJ5_isLatin1_aae02 ∈ vs_ws := vs_mem 1010 (by decide +kernel) (by decide +kernel)
theorem vkI_J4_init_da8c8 : vs_lkI yJ4_init_da8c8 cJ4_init_da8c8 1 0 := ⟨vs_mem 240 (by decide +kernel) (by decide +kernel), vs_mem 87 (by decide +kernel) (by decide +kernel), vs_mem 241 (by decide +kernel) (by decide +kernel), rfl, by decide +kernel, by decide +kernel, by decide +kernel⟩
theorem vkI_J5_init_d00df : vs_lkI yJ5_init_d00df cJ5_init_d00df 2 1 := ⟨vs_mem 243 (by decide +kernel) (by decide +kernel), vs_mem 86 (by decide +kernel) (by decide +kernel), vs_mem 244 (by decide +kernel) (by decide +kernel), rfl, by decide +kernel, by decide +kernel, by decide +kernel⟩
theorem vkSU_J5_length_8abf5 : vs_lkSU yJ5_length_8abf5 cJ5_length_8abf5 1 (some .int) 0 := ⟨vs_mem 1125 (by decide +kernel) (by decide +kernel), vs_mem 1124 (by decide +kernel) (by decide +kernel), vs_mem 86 (by decide +kernel) (by decide +kernel), vs_mem 1130 (by decide +kernel) (by decide +kernel), rfl, by decide +kernel, by decide +kernel⟩
theorem vkU_J5_ensureCapacityInternal_d00df : vs_lkU yJ5_ensureCapacityInternal_d00df cJ5_ensureCapacityInternal_d00df 3 none 1 := ⟨vs_mem 1671 (by decide +kernel) (by decide +kernel), .inr (by unfold vs_priv; decide +kernel), vs_mem 980 (by decide +kernel) (by decide +kernel), vs_mem 86 (by decide +kernel) (by decide +kernel), vs_mem 981 (by decide +kernel) (by decide +kernel), rfl, by decide +kernel⟩
theorem vkSU_J5_ensureCapacityInternal_d00df : vs_lkSU yJ5_ensureCapacityInternal_d00df cJ5_ensureCapacityInternal_d00df 3 none 1 := ⟨vs_mem 1671 (by decide +kernel) (by decide +kernel), vs_mem 980 (by decide +kernel) (by decide +kernel), vs_mem 86 (by decide +kernel) (by decide +kernel), vs_mem 981 (by decide +kernel) (by decide +kernel), rfl, by decide +kernel, by decide +kernel⟩
theorem vkU_J5_newCapacity_0f7a4 : vs_lkU yJ5_newCapacity_0f7a4 cJ5_newCapacity_0f7a4 6 (some .int) 1 := ⟨vs_mem 1672 (by decide +kernel) (by decide +kernel), .inr (by unfold vs_priv; decide +kernel), vs_mem 984 (by decide +kernel) (by decide +kernel), vs_mem 86 (by decide +kernel) (by decide +kernel), vs_mem 985 (by decide +kernel) (by decide +kernel), rfl, by decide +kernel⟩
theorem vkSU_J5_newCapacity_0f7a4 : vs_lkSU yJ5_newCapacity_0f7a4 cJ5_newCapacity_0f7a4 6 (some .int) 1 := ⟨vs_mem 1672 (by decide +kernel) (by decide +kernel), vs_mem 984 (by decide +kernel) (by decide +kernel), vs_mem 86 (by decide +kernel) (by decide +kernel), vs_mem 985 (by decide +kernel) (by decide +kernel), rfl, by decide +kernel, by decide +kernel⟩
theorem vkSU_J5_setLength_d00df : vs_lkSU yJ5_setLength_d00df cJ5_setLength_d00df 2 none 1 := ⟨vs_mem 1668 (by decide +kernel) (by decide +kernel), vs_mem 957 (by decide +kernel) (by decide +kernel), vs_mem 86 (by decide +kernel) (by decide +kernel), vs_mem 958 (by decide +kernel) (by decide +kernel), rfl, by decide +kernel, by decide +kernel⟩
theorem vkSU_J5_charAt_5068e : vs_lkSU yJ5_charAt_5068e cJ5_charAt_5068e 5 (some .char) 1 := ⟨vs_mem 1679 (by decide +kernel) (by decide +kernel), vs_mem 1244 (by decide +kernel) (by decide +kernel), vs_mem 86 (by decide +kernel) (by decide +kernel), vs_mem 1245 (by decide +kernel) (by decide +kernel), rfl, by decide +kernel, by decide +kernel⟩
theorem vkSU_J5_append_3fe6f : vs_lkSU yJ5_append_3fe6f cJ5_append_3fe6f 2 (some (.object "java/lang/AbstractStringBuilder")) 1 := ⟨vs_mem 1677 (by decide +kernel) (by decide +kernel), vs_mem 1208 (by decide +kernel) (by decide +kernel), vs_mem 86 (by decide +kernel) (by decide +kernel), vs_mem 1209 (by decide +kernel) (by decide +kernel), rfl, by decide +kernel, by decide +kernel⟩
theorem vkSU_J5_append_c97b9 : vs_lkSU yJ5_append_c97b9 cJ5_append_c97b9 4 (some (.object "java/lang/AbstractStringBuilder")) 1 := ⟨vs_mem 1676 (by decide +kernel) (by decide +kernel), vs_mem 1086 (by decide +kernel) (by decide +kernel), vs_mem 86 (by decide +kernel) (by decide +kernel), vs_mem 1087 (by decide +kernel) (by decide +kernel), rfl, by decide +kernel, by decide +kernel⟩
theorem vkU_J5_getValue_6d5f1 : vs_lkU yJ5_getValue_6d5f1 cJ5_getValue_6d5f1 1 (some (.array .byte)) 0 := ⟨vs_mem 1120 (by decide +kernel) (by decide +kernel), .inl (vs_mem 1121 (by decide +kernel) (by decide +kernel)), vs_mem 1119 (by decide +kernel) (by decide +kernel), vs_mem 86 (by decide +kernel) (by decide +kernel), vs_mem 1122 (by decide +kernel) (by decide +kernel), rfl, by decide +kernel⟩
theorem vkSU_J5_getValue_6d5f1 : vs_lkSU yJ5_getValue_6d5f1 cJ5_getValue_6d5f1 1 (some (.array .byte)) 0 := ⟨vs_mem 1120 (by decide +kernel) (by decide +kernel), vs_mem 1119 (by decide +kernel) (by decide +kernel), vs_mem 86 (by decide +kernel) (by decide +kernel), vs_mem 1122 (by decide +kernel) (by decide +kernel), rfl, by decide +kernel, by decide +kernel⟩
theorem vkU_J5_isLatin1_aae02 : vs_lkU yJ5_isLatin1_aae02 cJ5_isLatin1_aae02 1 (some .boolean) 0 := ⟨vs_mem 1009 (by decide +kernel) (by decide +kernel), .inl (vs_mem 1010 (by decide +kernel) (by decide +kernel)), vs_mem 1008 (by decide +kernel) (by decide +kernel), vs_mem 86 (by decide +kernel) (by decide +kernel), vs_mem 1011 (by decide +kernel) (by decide +kernel), rfl, by decide +kernel⟩
theorem vkSU_J5_isLatin1_aae02 : vs_lkSU yJ5_isLatin1_aae02 cJ5_isLatin1_aae02 1 (some .boolean) 0 := ⟨vs_mem 1009 (by decide +kernel) (by decide +kernel), vs_mem 1008 (by decide +kernel) (by decide +kernel), vs_mem 86 (by decide +kernel) (by decide +kernel), vs_mem 1011 (by decide +kernel) (by decide +kernel), rfl, by decide +kernel, by decide +kernel⟩
theorem vk_J6_getChars_ba4f3 : vs_lkS yJ6_getChars_ba4f3 cJ6_getChars_ba4f3 7 (some .int) 3 := ⟨vs_mem 1092 (by decide +kernel) (by decide +kernel), vs_mem 101 (by decide +kernel) (by decide +kernel), vs_mem 1093 (by decide +kernel) (by decide +kernel), by decide +kernel, by decide +kernel, by decide +kernel⟩
theorem vk_J6_stringSize_0f7a4 : vs_lkS yJ6_stringSize_0f7a4 cJ6_stringSize_0f7a4 4 (some .int) 1 := ⟨vs_mem 1089 (by decide +kernel) (by decide +kernel), vs_mem 101 (by decide +kernel) (by decide +kernel), vs_mem 1090 (by decide +kernel) (by decide +kernel), by decide +kernel, by decide +kernel, by decide +kernel⟩
theorem vk_J9_max_7cf53 : vs_lkS yJ9_max_7cf53 cJ9_max_7cf53 2 (some .int) 2 := ⟨vs_mem 384 (by decide +kernel) (by decide +kernel), vs_mem 99 (by decide +kernel) (by decide +kernel), vs_mem 385 (by decide +kernel) (by decide +kernel), by decide +kernel, by decide +kernel, by decide +kernel⟩
theorem vk_J9_min_7cf53 : vs_lkS yJ9_min_7cf53 cJ9_min_7cf53 2 (some .int) 2 := ⟨vs_mem 361 (by decide +kernel) (by decide +kernel), vs_mem 99 (by decide +kernel) (by decide +kernel), vs_mem 362 (by decide +kernel) (by decide +kernel), by decide +kernel, by decide +kernel, by decide +kernel⟩
theorem vkI_J0_init_81219 : vs_lkI yJ0_init_81219 cJ0_init_81219 2 1 := ⟨vs_mem 1112 (by decide +kernel) (by decide +kernel), vs_mem 88 (by decide +kernel) (by decide +kernel), vs_mem 1113 (by decide +kernel) (by decide +kernel), rfl, by decide +kernel, by decide +kernel, by decide +kernel⟩
theorem vk_J0_length_8abf5 : vs_lk yJ0_length_8abf5 cJ0_length_8abf5 1 (some .int) 0 := ⟨⟨vs_mem 1039 (by decide +kernel) (by decide +kernel), vs_mem 1040 (by decide +kernel) (by decide +kernel)⟩, vs_mem 88 (by decide +kernel) (by decide +kernel), vs_mem 1041 (by decide +kernel) (by decide +kernel), by decide +kernel, by decide +kernel, by decide +kernel⟩
theorem vk_J0_charAt_5068e : vs_lk yJ0_charAt_5068e cJ0_charAt_5068e 2 (some .char) 1 := ⟨⟨vs_mem 1651 (by decide +kernel) (by decide +kernel), vs_mem 1652 (by decide +kernel) (by decide +kernel)⟩, vs_mem 88 (by decide +kernel) (by decide +kernel), vs_mem 1653 (by decide +kernel) (by decide +kernel), by decide +kernel, by decide +kernel, by decide +kernel⟩
theorem vkI_J0_init_db425 : vs_lkI yJ0_init_db425 cJ0_init_db425 5 2 := ⟨vs_mem 1115 (by decide +kernel) (by decide +kernel), vs_mem 88 (by decide +kernel) (by decide +kernel), vs_mem 1116 (by decide +kernel) (by decide +kernel), rfl, by decide +kernel, by decide +kernel, by decide +kernel⟩
theorem vk_J0_coder_7d493 : vs_lk yJ0_coder_7d493 cJ0_coder_7d493 1 (some .byte) 0 := ⟨⟨vs_mem 1043 (by decide +kernel) (by decide +kernel), vs_mem 1044 (by decide +kernel) (by decide +kernel)⟩, vs_mem 88 (by decide +kernel) (by decide +kernel), vs_mem 1045 (by decide +kernel) (by decide +kernel), by decide +kernel, by decide +kernel, by decide +kernel⟩
theorem vk_J0_isLatin1_aae02 : vs_lk yJ0_isLatin1_aae02 cJ0_isLatin1_aae02 1 (some .boolean) 0 := ⟨⟨vs_mem 1655 (by decide +kernel) (by decide +kernel), vs_mem 1656 (by decide +kernel) (by decide +kernel)⟩, vs_mem 88 (by decide +kernel) (by decide +kernel), vs_mem 1657 (by decide +kernel) (by decide +kernel), by decide +kernel, by decide +kernel, by decide +kernel⟩
theorem vk_J0_checkIndex_df160 : vs_lkS yJ0_checkIndex_df160 cJ0_checkIndex_df160 2 none 2 := ⟨vs_mem 1220 (by decide +kernel) (by decide +kernel), vs_mem 88 (by decide +kernel) (by decide +kernel), vs_mem 1221 (by decide +kernel) (by decide +kernel), by decide +kernel, by decide +kernel, by decide +kernel⟩
theorem vk_J4_append_cf468 : vs_lk yJ4_append_cf468 cJ4_append_cf468 2 (some (.object "java/lang/StringBuilder")) 1 := ⟨⟨vs_mem 1204 (by decide +kernel) (by decide +kernel), vs_mem 1205 (by decide +kernel) (by decide +kernel)⟩, vs_mem 87 (by decide +kernel) (by decide +kernel), vs_mem 1206 (by decide +kernel) (by decide +kernel), by decide +kernel, by decide +kernel, by decide +kernel⟩
theorem vk_J4_append_bf812 : vs_lk yJ4_append_bf812 cJ4_append_bf812 2 (some (.object "java/lang/StringBuilder")) 1 := ⟨⟨vs_mem 1082 (by decide +kernel) (by decide +kernel), vs_mem 1083 (by decide +kernel) (by decide +kernel)⟩, vs_mem 87 (by decide +kernel) (by decide +kernel), vs_mem 1084 (by decide +kernel) (by decide +kernel), by decide +kernel, by decide +kernel, by decide +kernel⟩
theorem vk_J4_toString_0e30d : vs_lk yJ4_toString_0e30d cJ4_toString_0e30d 1 (some (.object "java/lang/String")) 0 := ⟨⟨vs_mem 1107 (by decide +kernel) (by decide +kernel), vs_mem 1108 (by decide +kernel) (by decide +kernel)⟩, vs_mem 87 (by decide +kernel) (by decide +kernel), vs_mem 1109 (by decide +kernel) (by decide +kernel), by decide +kernel, by decide +kernel, by decide +kernel⟩
theorem vk_J4_charAt_5068e : vs_lk yJ4_charAt_5068e cJ4_charAt_5068e 2 (some .char) 1 := ⟨⟨vs_mem 1240 (by decide +kernel) (by decide +kernel), vs_mem 1241 (by decide +kernel) (by decide +kernel)⟩, vs_mem 87 (by decide +kernel) (by decide +kernel), vs_mem 1242 (by decide +kernel) (by decide +kernel), by decide +kernel, by decide +kernel, by decide +kernel⟩
theorem vk_J4_setLength_d00df : vs_lk yJ4_setLength_d00df cJ4_setLength_d00df 2 none 1 := ⟨⟨vs_mem 953 (by decide +kernel) (by decide +kernel), vs_mem 954 (by decide +kernel) (by decide +kernel)⟩, vs_mem 87 (by decide +kernel) (by decide +kernel), vs_mem 955 (by decide +kernel) (by decide +kernel), by decide +kernel, by decide +kernel, by decide +kernel⟩
theorem vk_J4_length_8abf5 : vs_lk yJ4_length_8abf5 cJ4_length_8abf5 1 (some .int) 0 := ⟨⟨vs_mem 1127 (by decide +kernel) (by decide +kernel), vs_mem 1678 (by decide +kernel) (by decide +kernel)⟩, vs_mem 87 (by decide +kernel) (by decide +kernel), vs_mem 1128 (by decide +kernel) (by decide +kernel), by decide +kernel, by decide +kernel, by decide +kernel⟩
theorem vk_J1_charAt_3b067 : vs_lkS yJ1_charAt_3b067 cJ1_charAt_3b067 2 (some .char) 2 := ⟨vs_mem 1659 (by decide +kernel) (by decide +kernel), vs_mem 107 (by decide +kernel) (by decide +kernel), vs_mem 1660 (by decide +kernel) (by decide +kernel), by decide +kernel, by decide +kernel, by decide +kernel⟩
theorem vk_J1_canEncode_fc78d : vs_lkS yJ1_canEncode_fc78d cJ1_canEncode_fc78d 1 (some .boolean) 1 := ⟨vs_mem 1211 (by decide +kernel) (by decide +kernel), vs_mem 107 (by decide +kernel) (by decide +kernel), vs_mem 1212 (by decide +kernel) (by decide +kernel), by decide +kernel, by decide +kernel, by decide +kernel⟩
theorem vk_J7_copyOf_9075b : vs_lkS yJ7_copyOf_9075b cJ7_copyOf_9075b 3 (some (.array .byte)) 2 := ⟨vs_mem 996 (by decide +kernel) (by decide +kernel), vs_mem 84 (by decide +kernel) (by decide +kernel), vs_mem 997 (by decide +kernel) (by decide +kernel), by decide +kernel, by decide +kernel, by decide +kernel⟩
theorem vk_J7_copyOfRange_39247 : vs_lkS yJ7_copyOfRange_39247 cJ7_copyOfRange_39247 3 (some (.array .byte)) 3 := ⟨vs_mem 1133 (by decide +kernel) (by decide +kernel), vs_mem 84 (by decide +kernel) (by decide +kernel), vs_mem 1134 (by decide +kernel) (by decide +kernel), by decide +kernel, by decide +kernel, by decide +kernel⟩
theorem vk_J7_copyOfRangeByte_39247 : vs_lkS yJ7_copyOfRangeByte_39247 cJ7_copyOfRangeByte_39247 5 (some (.array .byte)) 3 := ⟨vs_mem 1136 (by decide +kernel) (by decide +kernel), vs_mem 84 (by decide +kernel) (by decide +kernel), vs_mem 1137 (by decide +kernel) (by decide +kernel), by decide +kernel, by decide +kernel, by decide +kernel⟩
theorem vk_J7_checkLength_df160 : vs_lkS yJ7_checkLength_df160 cJ7_checkLength_df160 2 none 2 := ⟨vs_mem 1139 (by decide +kernel) (by decide +kernel), vs_mem 84 (by decide +kernel) (by decide +kernel), vs_mem 1140 (by decide +kernel) (by decide +kernel), by decide +kernel, by decide +kernel, by decide +kernel⟩
theorem vk_J8_newLength_cabcc : vs_lkS yJ8_newLength_cabcc cJ8_newLength_cabcc 4 (some .int) 3 := ⟨vs_mem 987 (by decide +kernel) (by decide +kernel), vs_mem 105 (by decide +kernel) (by decide +kernel), vs_mem 988 (by decide +kernel) (by decide +kernel), by decide +kernel, by decide +kernel, by decide +kernel⟩
theorem vk_J3_checkIndex_8e157 : vs_lkS yJ3_checkIndex_8e157 cJ3_checkIndex_8e157 3 (some .int) 3 := ⟨vs_mem 1223 (by decide +kernel) (by decide +kernel), vs_mem 106 (by decide +kernel) (by decide +kernel), vs_mem 1224 (by decide +kernel) (by decide +kernel), by decide +kernel, by decide +kernel, by decide +kernel⟩
def vs_PreJ (g : vs_G) (jd : Nat → Nat) (as : List Value) (sz : Nat) (Wo : va_W) : Array Value → State → Prop := va_Pc as (fun U => U.heap.size = sz ∧ va_P g.1 vwCl Wo U.heap ∧ vs_K g U ∧ va_D (fun _ => True) Wo ∧ vs_Js g jd (va_A Wo sz) U U.heap)
theorem vs_blindJ {g : vs_G} {jd : Nat → Nat} {as : List Value} {sz : Nat} {Wo : va_W} : FrameBlind (vs_PreJ g jd as sz Wo) :=
  fun a U g' mk h => ⟨h.1, h.2.1, h.2.2.1, vs_K.same (u := U) (U := U.calling g' mk a) rfl h.2.2.2.1, h.2.2.2.2.1, vs_Js.same (u := U) (U := U.calling g' mk a) rfl h.2.2.2.2.2⟩
/-- an answer that is one fixed cell / a cell told by the end's own picture -/
def vs_QR {U : Type} (g : vs_G) (A : Nat → Prop) (mk : U → va_W) (ad : U → Nat) (post : U → Prop) : Array Value → State → Outcome → State → Prop := va_Qr (S := U) post (fun u a t => a = ad u ∧ vs_B g A (mk u) t) A
def vs_JI (l : Launch) (y : MethodName) (ws : List Cond) (rm : Room) (g : vs_G) (jd : Nat → Nat) (as : List Value) (Wo : va_W) {U : Type} (mk : U → va_W) (post : Int → U → Prop) (mc ms : Nat) : Prop :=
  ∀ sz : Nat, Met l y ws rm (vs_PreJ g jd as sz Wo) (vs_QI g (va_A Wo sz) mk post) mc ms (va_A Wo sz)
def vs_JV (l : Launch) (y : MethodName) (ws : List Cond) (rm : Room) (g : vs_G) (jd : Nat → Nat) (as : List Value) (Wo : va_W) {U : Type} (mk : U → va_W) (post : U → Prop) (mc ms : Nat) : Prop :=
  ∀ sz : Nat, Met l y ws rm (vs_PreJ g jd as sz Wo) (vs_QV g (va_A Wo sz) mk post) mc ms (va_A Wo sz)
def vs_JR (l : Launch) (y : MethodName) (ws : List Cond) (rm : Room) (g : vs_G) (jd : Nat → Nat) (as : List Value) (Wo : va_W) {U : Type} (mk : U → va_W) (ad : U → Nat) (post : U → Prop) (mc ms : Nat) : Prop :=
  ∀ sz : Nat, Met l y ws rm (vs_PreJ g jd as sz Wo) (vs_QR g (va_A Wo sz) mk ad post) mc ms (va_A Wo sz)
theorem vs_ofJ {l : Launch} {y : MethodName} {cc : ByteArray} {maxL : Nat} {ret : Option FieldType} {rm : Room} {g : vs_G} {jd : Nat → Nat} {as : List Value} {Wo : va_W} {Qc : (Nat → Prop) → Array Value → State → Outcome → State → Prop} {mc ms : Nat}
    (hy : plainName y.cls = true) (hlen : (lg_sl as).length ≤ maxL)
    (body : ∀ (p : Program) (e : Env) (s : State) (m : MethodId) (below : List Frame) (meth : Method) (c : Code) (A : Nat → Prop) (ls : Array Slot), CallFix p m c cc maxL s as.toArray vs_ws y.cls → meth.sig.returnType = ret → meth.locks = false → meth.name = y.name →
      vs_Wd g A s.heap Wo s.heap [] s → vs_Js g jd A s s.heap → lv_has ls maxL (lv_args 0 as) →
      W p l e rm s m as.toArray below meth c s.heap [] 0 0 (MQ below (Qc A) as.toArray s mc ms A) (F0 m 0 ls [])) :
    ∀ sz : Nat, Met l y (Cond.code y cc maxL ret :: vs_ws) rm (vs_PreJ g jd as sz Wo) (Qc (va_A Wo sz)) mc ms (va_A Wo sz) := by
  intro sz
  refine Met.ofW (cc := cc) (maxL := maxL) (ret := ret) hy rfl ?_
  intro p e s m args below meth c s₁ B hml hv
  obtain ⟨rfl, hsz, hP, hK, hD0, hJ⟩ := hv
  subst hsz
  have hts := atoms_spec (ws := Cond.code y cc maxL ret :: vs_ws) B.pre
  rw [lg_entry_eq]
  exact body p e s m below meth c (va_A Wo s.heap.size) _ ⟨B.exec, B.bytes, hml, findClass_of_methodNamed B.named, fun w hw => hts w (List.mem_cons_of_mem _ hw)⟩ B.returns B.notSynchronized (name_of_methodNamed B.named B.method).1
    ⟨hK, hP, hD0.self, va_S.rf, fun q h => Or.inr h⟩ hJ (lv_entry as hlen)
def vs_WBo (b q : Nat) (L : vs_St) : va_W := [(b, .inr (1, [.ref q, .int (vs_I (L 1 0)), .int (vs_I (L 2 0)), .int (vs_I (L 3 0))]))]
def vs_WA (g : vs_G) (q : Nat) (L : vs_St) : va_W := [(q, .inl (g.2 6, (L 4 0).toNat, .inl (vs_en (L 0))))]
section VSJ
variable {p : Program} {l : Launch} {e : Env} {R : Room} {s : State} {m : MethodId} {args : Array Value} {below : List Frame} {meth : Method} {c : Code} {H : Heap} {locs : List Loc} {cells slots : Nat} {Q : State → Prop}
variable {cc : ByteArray} {pc nL : Nat} {ls : Array Slot} {rest : List Value} {own : String} {g : vs_G} {jd : Nat → Nat} {A : Nat → Prop} {H0 : Heap} {Wo : va_W} {a : Nat}
theorem vs_Wd.preJ {as : List Value} (hW : vs_Wd g A s.heap Wo H locs s) (hJ : vs_Js g jd A s s.heap) : ∀ U : State, U.heap = H → s.WarmedH U.vm → vs_PreJ g jd as H.size Wo as.toArray U :=
  fun U hU hw => ⟨rfl, by rw [hU], by rw [hU]; exact hW.2.1, hW.1.warm hw, hW.2.2.1.weaken (fun _ _ _ _ => trivial), by rw [hU]; exact hJ.hand hw hW.2.2.2.1.2.1 hW.in⟩
theorem vs_alenB (hC : CallFix p m c cc nL s args vs_ws own) (hW : vs_Wd g A H0 Wo H locs s) (q0 : Nat) {n : Int} {x : (Nat → Int32) ⊕ (Nat → Int64) ⊕ (Nat → UInt32) ⊕ (Nat → UInt64) ⊕ (Nat → Option Nat)} (he : Wo[q0]? = some (a, .inl (g.2 6, n.toNat, x))) (hn : 0 ≤ n) (hdg : decode cc pc = .ok (.arraylength, 1))
    (kk : W p l e R s m args below meth c H locs cells slots Q (F0 m (pc + 1) ls (.int (vs_I n) :: rest))) : W p l e R s m args below meth c H locs cells slots Q (F0 m pc ls (.ref a :: rest)) := by
  refine vs_alen hC hW q0 6 he rfl hdg ?_
  show W p l e R s m args below meth c H locs cells slots Q (F0 m (pc + 1) ls (.int (vs_I ((n.toNat : Nat) : Int)) :: rest))
  rw [Int.toNat_of_nonneg hn]
  exact kk
theorem vs_bald (hC : CallFix p m c cc nL s args vs_ws own) (hW : vs_Wd g A H0 Wo H locs s) (q0 : Nat) {n : Int} {f : Int → Int} (he : Wo[q0]? = some (a, .inl (g.2 6, n.toNat, .inl (vs_en f)))) {x : Int} (hx : 0 ≤ x ∧ x < n ∧ n ≤ 2147483647) (hdg : decode cc pc = .ok (.baload, 1))
    (kk : W p l e R s m args below meth c H locs cells slots Q (F0 m (pc + 1) ls (.int (vs_I (f x)) :: rest))) : W p l e R s m args below meth c H locs cells slots Q (F0 m pc ls (.int (vs_I x) :: .ref a :: rest)) :=
  va_bald hC.1 hC.2.1 hW.1.1 hW.2.1 q0 6 he rfl (vs_I_in hx.1 (by omega) (by omega)) hdg (by rw [vs_en_at f hx.1 (by omega)]; exact kk)
theorem vs_b8 {x : Int} (h0 : -128 ≤ x) (h : x < 128) : (vs_I x).toInt8.toInt32 = vs_I x := by
  apply Int32.toInt_inj.mp
  have h1 := vs_I_toInt (x := x) ⟨by omega, by omega⟩
  rw [Int8.toInt_toInt32, Int32.toInt_toInt8, h1]
  exact Int.bmod_eq_of_le (by omega) (by omega)
theorem vs_nar_b {x : Int} (h0 : -128 ≤ x) (h : x < 128) : vp_nar .byte (vs_I x) = vs_I x := by
  unfold vp_nar
  show (match narrow .byte (.int (vs_I x)) with | .int y => y | _ => 0) = _
  simp only [narrow]
  exact vs_b8 h0 h
theorem vs_bast (hC : CallFix p m c cc nL s args vs_ws own) (hW : vs_Wd g A H0 Wo H locs s) (q0 : Nat) {n : Int} {f : Int → Int} (he : Wo[q0]? = some (a, .inl (g.2 6, n.toNat, .inl (vs_en f)))) {x y : Int} (hx : 0 ≤ x ∧ x < n ∧ n ≤ 2147483647) (hy : -128 ≤ y ∧ y < 128) {Wo' : va_W} (hset : Wo.set q0 (a, .inl (g.2 6, n.toNat, .inl (vs_en (vs_up f x y)))) = Wo') (hdg : decode cc pc = .ok (.bastore, 1))
    (kk : ∀ (H1 : Heap) (locs1 : List Loc), vs_Wd g A H0 Wo' H1 locs1 s → W p l e R s m args below meth c H1 locs1 cells slots Q (F0 m (pc + 1) ls rest)) : W p l e R s m args below meth c H locs cells slots Q (F0 m pc ls (.int (vs_I y) :: .int (vs_I x) :: .ref a :: rest)) := by
  subst hset
  refine va_bast hC.1 hC.2.1 hW.1.1 hW.2.1 hW.2.2.1 hW.2.2.2.1 q0 6 he rfl (vs_I_in hx.1 (by omega) (by omega)) hdg (fun H1 locs1 h1 h2 h3 => kk H1 locs1 ⟨hW.1, ?_, ?_, h3, hW.2.2.2.2⟩)
  · rw [vs_nar_b hy.1 hy.2, vs_en_up f hx.1 (by omega)] at h1; exact h1
  · rw [vs_nar_b hy.1 hy.2, vs_en_up f hx.1 (by omega)] at h2; exact h2
theorem vs_ineg (hC : CallFix p m c cc nL s args vs_ws own) {x : Int} (hdg : decode cc pc = .ok (.ineg, 1)) (k : W p l e R s m args below meth c H locs cells slots Q (F0 m (pc + 1) ls (.int (vs_I (-x)) :: rest))) : W p l e R s m args below meth c H locs cells slots Q (F0 m pc ls (.int (vs_I x) :: rest)) :=
  lv_ineg hC.1 hC.2.1 hdg (by unfold vs_I at k ⊢; rw [Int32.ofInt_neg] at k; exact k)
theorem vs_i2b (hC : CallFix p m c cc nL s args vs_ws own) {x : Int} (hx : -128 ≤ x ∧ x < 128) (hdg : decode cc pc = .ok (.i2b, 1)) (k : W p l e R s m args below meth c H locs cells slots Q (F0 m (pc + 1) ls (.int (vs_I x) :: rest))) : W p l e R s m args below meth c H locs cells slots Q (F0 m pc ls (.int (vs_I x) :: rest)) :=
  lv_i2b hC.1 hC.2.1 hdg (vs_b8 hx.1 hx.2) k
theorem vs_gets (hC : CallFix p m c cc nL s args vs_ws own) (hW : vs_Wd g A s.heap Wo H locs s) {C n d : String} {v : Value} {index : Nat} (hZ : va_Z C n d v A s s.heap) (hl : Cond.fieldLink own index C n d ∈ vs_ws) (hdg : decode cc pc = .ok (.getstatic index, 3))
    (kk : W p l e R s m args below meth c H locs cells slots Q (F0 m (pc + 3) ls (v :: rest))) : W p l e R s m args below meth c H locs cells slots Q (F0 m pc ls rest) :=
  va_gets hC.1 hC.2.1 hZ hW.2.2.2.1 hC.2.2.2.1 (hC.2.2.2.2 _ hl) (fun _ h => h) hdg kk
theorem vs_tb (hC : CallFix p m c cc nL s args vs_ws own) (hW : vs_Wd g A s.heap Wo H locs s) {t : Nat} {f : Int → Int} (hT : va_T .byte t 100 (fun j => .int (vs_en f j)) A s s.heap) {x : Int} (hx : 0 ≤ x ∧ x < 100) (hdg : decode cc pc = .ok (.baload, 1))
    (kk : W p l e R s m args below meth c H locs cells slots Q (F0 m (pc + 1) ls (.int (vs_I (f x)) :: rest))) : W p l e R s m args below meth c H locs cells slots Q (F0 m pc ls (.int (vs_I x) :: .ref t :: rest)) :=
  va_tb hC.1 hC.2.1 hT hW.2.2.2.1 (vs_I_in hx.1 hx.2 (by decide)) (v := .int (vs_I (f x))) (by show Value.int (vs_en f _) = _; rw [vs_en_at f hx.1 (by omega)]) hdg kk
theorem vs_rret {U : Type} {mk : U → va_W} {ad : U → Nat} {post : U → Prop} {mc ms : Nat} {rt : FieldType} (u : U) (hC : CallFix p m c cc nL s args vs_ws own) (hr : meth.sig.returnType = some rt) (hn : (∃ n, rt = .object n) ∨ ∃ t, rt = FieldType.array t) (hlk : meth.locks = false) (hW : vs_Wd g A s.heap Wo H locs s) (hmk : mk u = Wo) (hpost : post u) (h1 : cells ≤ mc) (h2 : slots ≤ ms) (hdg : decode cc pc = .ok (.areturn, 1)) :
    W p l e R s m args below meth c H locs cells slots (MQ below (vs_QR g A mk ad post) args s mc ms A) (F0 m pc ls [.ref (ad u)]) := by
  subst hmk
  exact W.widen h1 h2 (W.aret hC.1 hC.2.1 hr hn (.inr ⟨_, rfl⟩) (fun t ht _ => ⟨⟨u, ad u, rfl, hpost, rfl, by rw [ht]; exact hW.2.1, hW.2.2.1⟩, hW.2.2.2.1.F ht⟩) hW.2.2.2.1.2.2 hdg hlk)
theorem vs_selPriv {C : String} {y z : MethodName} (hz : (Cond.selects C z z).before args s = true) (hzy : z.cls = y.cls) (hy : y.cls ≠ "java/lang/invoke/MethodHandle" ∧ y.cls ≠ "java/lang/invoke/VarHandle")
    (hpriv : (Cond.privateMethod y).before args s = true) (hinst : (Cond.instanceMethod y).before args s = true) : (Cond.selects C y y).before args s = true := by
  obtain ⟨c2, r2, m2, h1, h2, h3, h4, k, hk, hki⟩ := Cond.selects_spec hz
  obtain ⟨mk, methM, hnamed, hmethM, -, -⟩ := Cond.instanceMethod_spec hinst
  have hfound : s.methodFound? y.cls y.name y.desc = some mk := State.methodFound?_of_named hnamed hy
  have hcls : mk.cls = m2.cls := Option.some.inj ((findClass_of_methodNamed hnamed).symm.trans (by rw [← hzy]; exact findClass_of_methodNamed h3))
  have hsel : selectMethod {} s.vm c2 mk = .method mk := selectMethod_private hmethM (Cond.privateMethod_at hpriv mk methM hnamed hmethM)
  simp only [Cond.before, Cond.holds, Cond.value, h1, hfound, hnamed, hsel, hcls, hk]
  simp; exact hki
theorem vs_cwU {y : MethodName} {bytes : ByteArray} {maxL : Nat} {ret : Option FieldType} {rm : Room} {n mc ms index : Nat} (hJ : vs_Js g jd A s H0) (hC : CallFix p m c cc nL s args vs_ws own) (hk : vs_lkU y bytes maxL ret n) (hl : Cond.methodLink own index y ∈ vs_ws) (hrc : rm.cells = mc) (hrs : rm.slots = ms) (hR : rm.frames + 1 ≤ R.frames ∧ 8 + (maxL + 11) + rm.locals ≤ R.locals) :
    va_CU R s args own RJ4 RJ5 index y y bytes maxL ret (Cond.code y bytes maxL ret :: vs_ws) rm mc ms n := by
  obtain ⟨h1, h2, h3, h4, h5, h6, h7⟩ := hk
  have ht := hC.2.2.2.2
  have hG : GoodIn vs_ws (Cond.code y bytes maxL ret :: vs_ws) := vs_good (List.forall_mem_cons.mpr ⟨h5, fun _ h => h⟩)
  have hyy : y = ⟨RJ5, y.name, y.desc⟩ := by rw [← h6]
  refine ⟨⟨hrc, hrs, hR.1, hR.2, pay_in ht hG, List.mem_cons_self⟩, ht _ h5, ht _ h4, ⟨by decide +kernel, by decide +kernel⟩, fun sig h => ?_, ht _ hl, by rw [h6]; exact ht _ h1, by rw [← hyy]; exact va_Decl.of (ht _ h3) (ht _ h5), ?_, ht _ h3⟩
  · rw [h] at h7
    exact (Option.some.inj h7).symm
  · rcases h2 with h2 | h2
    · exact ht _ h2
    · exact va_tabs (u := s) rfl rfl (hJ.2.2.2.2.1 y h2)
theorem vs_cwSU {y : MethodName} {bytes : ByteArray} {maxL : Nat} {ret : Option FieldType} {rm : Room} {n mc ms index : Nat} (hC : CallFix p m c cc nL s args vs_ws RJ4) (hk : vs_lkSU y bytes maxL ret n) (hl : Cond.methodLink RJ4 index y ∈ vs_ws) (hrc : rm.cells = mc) (hrs : rm.slots = ms) (hR : rm.frames + 1 ≤ R.frames ∧ 8 + (maxL + 11) + rm.locals ≤ R.locals) :
    va_CS R s args RJ4 index y bytes maxL ret (Cond.code y bytes maxL ret :: vs_ws) rm mc ms n := by
  obtain ⟨h1, h3, h4, h5, h6, h8, h7⟩ := hk
  refine va_cwSU n hC.2.2.2.2 (vs_good fun w hw => ?_) rfl hrc hrs ⟨h8, h7⟩ hR
  simp only [va_wsSU, List.mem_append, List.mem_cons, List.not_mem_nil, or_false] at hw
  rcases hw with (rfl | rfl | rfl | rfl | rfl) | rfl | hw
  · exact hl
  · rw [h6]; exact h1
  · rw [h6]; exact vs_supJ
  · exact h3
  · exact h4
  · exact h5
  · exact hw
theorem vs_cwI {y : MethodName} {bytes : ByteArray} {maxL : Nat} {rm : Room} {n mc ms index : Nat} (hC : CallFix p m c cc nL s args vs_ws own) (hk : vs_lkI y bytes maxL n) (hl : Cond.methodLink own index y ∈ vs_ws) (hrc : rm.cells = mc) (hrs : rm.slots = ms) (hR : rm.frames + 1 ≤ R.frames ∧ 8 + (maxL + 11) + rm.locals ≤ R.locals) :
    CallB R s args own index y bytes maxL none (Cond.code y bytes maxL none :: vs_ws) rm mc ms n ∧ y.name = "<init>" ∧ (Cond.instanceMethod y).before args s = true := by
  obtain ⟨h1, h3, h4, h5, h6, h7, h8⟩ := hk
  exact ⟨callB_of n hC.2.2.2.2 (vs_good (List.forall_mem_cons.mpr ⟨h4, fun _ h => h⟩)) rfl hrc hrs (hC.2.2.2.2 _ h3) (hC.2.2.2.2 _ hl) ⟨h6, h7, h8⟩ hR, h5, hC.2.2.2.2 _ h1⟩
theorem vs_jcallVI {U : Type} {mk : U → va_W} {post : Int → U → Prop} {y : MethodName} {bytes : ByteArray} {maxL n mc ms index : Nat} {ret : Option FieldType} {rm : Room} (As : List Value) (hC : CallFix p m c cc nL s args vs_ws own) (hW : vs_Wd g A s.heap Wo H locs s) (hJ : vs_Js g jd A s s.heap) (q0 : Nat) {ci : Nat} {fs : List Value} {T : u_T} {N : Nat} (he : Wo[q0]? = some (a, .inr (ci, fs))) (hc : vwCl[ci]? = some (y.cls, T, N)) (hk : vs_lk y bytes maxL ret n) (hl : Cond.methodLink own index y ∈ vs_ws) (hM : vs_JI l y (Cond.code y bytes maxL ret :: vs_ws) rm g jd (.ref a :: As) Wo mk post mc ms) (hn : As.length = n) (hlsz : ls.size = nL) {st0 : List Value} (hst : st0 = As.reverse ++ .ref a :: rest) (hrm : rm.cells = mc ∧ rm.slots = ms) (hR : rm.frames + 1 ≤ R.frames ∧ 8 + (maxL + 11) + rm.locals ≤ R.locals) (hcap : cells + mc ≤ R.cells ∧ slots + ms ≤ R.slots) (hstk : (rest.map fun v => v.category).sum ≤ 8) (hdg : decode cc pc = .ok (.invokevirtual index, 3))
    (kk : ∀ (v : Int) (u : U) (H1 : Heap) (locs1 : List Loc), post v u → vs_Wd g A s.heap (mk u) H1 locs1 s → W p l e R s m args below meth c H1 locs1 (cells + mc) (slots + ms) Q (F0 m (pc + 3) ls (.int (vs_I v) :: rest))) : W p l e R s m args below meth c H locs cells slots Q (F0 m pc ls st0) := by
  subst hst
  exact va_calli (va_runV (As := As) (rest := rest) hC (hM H.size) (vs_cw hC hk hl hrm.1 hrm.2 hR) ⟨vs_blindJ, va_recv hW.1.1 hW.2.1 hc he, hW.preJ hJ⟩ rfl hn hlsz rfl (lv_room hstk) hdg hcap) hW.2.2.2.1 (fun q _ h => hW.in q h) hW.in (fun r u t H1 locs1 ht _ hp hb _ _ hS => by
    obtain ⟨v, u⟩ := u
    obtain ⟨rfl, hp⟩ := hp
    exact kk v u H1 locs1 hp (hW.back ht hb hS))
theorem vs_jcallVV {U : Type} {mk : U → va_W} {post : U → Prop} {y : MethodName} {bytes : ByteArray} {maxL n mc ms index : Nat} {ret : Option FieldType} {rm : Room} (As : List Value) (hC : CallFix p m c cc nL s args vs_ws own) (hW : vs_Wd g A s.heap Wo H locs s) (hJ : vs_Js g jd A s s.heap) (q0 : Nat) {ci : Nat} {fs : List Value} {T : u_T} {N : Nat} (he : Wo[q0]? = some (a, .inr (ci, fs))) (hc : vwCl[ci]? = some (y.cls, T, N)) (hk : vs_lk y bytes maxL ret n) (hl : Cond.methodLink own index y ∈ vs_ws) (hM : vs_JV l y (Cond.code y bytes maxL ret :: vs_ws) rm g jd (.ref a :: As) Wo mk post mc ms) (hn : As.length = n) (hlsz : ls.size = nL) {st0 : List Value} (hst : st0 = As.reverse ++ .ref a :: rest) (hrm : rm.cells = mc ∧ rm.slots = ms) (hR : rm.frames + 1 ≤ R.frames ∧ 8 + (maxL + 11) + rm.locals ≤ R.locals) (hcap : cells + mc ≤ R.cells ∧ slots + ms ≤ R.slots) (hstk : (rest.map fun v => v.category).sum ≤ 8) (hdg : decode cc pc = .ok (.invokevirtual index, 3))
    (kk : ∀ (u : U) (H1 : Heap) (locs1 : List Loc), post u → vs_Wd g A s.heap (mk u) H1 locs1 s → W p l e R s m args below meth c H1 locs1 (cells + mc) (slots + ms) Q (F0 m (pc + 3) ls rest)) : W p l e R s m args below meth c H locs cells slots Q (F0 m pc ls st0) := by
  subst hst
  exact va_callv (va_runV (As := As) (rest := rest) hC (hM H.size) (vs_cw hC hk hl hrm.1 hrm.2 hR) ⟨vs_blindJ, va_recv hW.1.1 hW.2.1 hc he, hW.preJ hJ⟩ rfl hn hlsz rfl (lv_room hstk) hdg hcap) hW.2.2.2.1 (fun q _ h => hW.in q h) hW.in (fun u t H1 locs1 ht _ hp hb _ _ hS => kk u H1 locs1 hp (hW.back ht hb hS))
theorem vs_jcallVR {U : Type} {mk : U → va_W} {ad : U → Nat} {post : U → Prop} {y : MethodName} {bytes : ByteArray} {maxL n mc ms index : Nat} {ret : Option FieldType} {rm : Room} (As : List Value) (hC : CallFix p m c cc nL s args vs_ws own) (hW : vs_Wd g A s.heap Wo H locs s) (hJ : vs_Js g jd A s s.heap) (q0 : Nat) {ci : Nat} {fs : List Value} {T : u_T} {N : Nat} (he : Wo[q0]? = some (a, .inr (ci, fs))) (hc : vwCl[ci]? = some (y.cls, T, N)) (hk : vs_lk y bytes maxL ret n) (hl : Cond.methodLink own index y ∈ vs_ws) (hM : vs_JR l y (Cond.code y bytes maxL ret :: vs_ws) rm g jd (.ref a :: As) Wo mk ad post mc ms) (hn : As.length = n) (hlsz : ls.size = nL) {st0 : List Value} (hst : st0 = As.reverse ++ .ref a :: rest) (hrm : rm.cells = mc ∧ rm.slots = ms) (hR : rm.frames + 1 ≤ R.frames ∧ 8 + (maxL + 11) + rm.locals ≤ R.locals) (hcap : cells + mc ≤ R.cells ∧ slots + ms ≤ R.slots) (hstk : (rest.map fun v => v.category).sum ≤ 8) (hdg : decode cc pc = .ok (.invokevirtual index, 3))
    (kk : ∀ (u : U) (H1 : Heap) (locs1 : List Loc), post u → vs_Wd g A s.heap (mk u) H1 locs1 s → W p l e R s m args below meth c H1 locs1 (cells + mc) (slots + ms) Q (F0 m (pc + 3) ls (.ref (ad u) :: rest))) : W p l e R s m args below meth c H locs cells slots Q (F0 m pc ls st0) := by
  subst hst
  exact va_callr (va_runV (As := As) (rest := rest) hC (hM H.size) (vs_cw hC hk hl hrm.1 hrm.2 hR) ⟨vs_blindJ, va_recv hW.1.1 hW.2.1 hc he, hW.preJ hJ⟩ rfl hn hlsz rfl (lv_room hstk) hdg hcap) hW.2.2.2.1 (fun q _ h => hW.in q h) hW.in (fun u a9 t H1 locs1 ht _ hp hb _ _ hS => by
    obtain ⟨rfl, hb⟩ := hb
    exact kk u H1 locs1 hp (hW.back ht hb hS))
theorem vs_jcallUI {U : Type} {mk : U → va_W} {post : Int → U → Prop} {y : MethodName} {bytes : ByteArray} {maxL n mc ms index : Nat} {ret : Option FieldType} {rm : Room} (As : List Value) (hC : CallFix p m c cc nL s args vs_ws own) (hW : vs_Wd g A s.heap Wo H locs s) (hJ : vs_Js g jd A s s.heap) (q0 : Nat) {ci : Nat} {fs : List Value} {T : u_T} {N : Nat} (he : Wo[q0]? = some (a, .inr (ci, fs))) (hc : vwCl[ci]? = some (RJ4, T, N)) (hk : vs_lkU y bytes maxL ret n) (hl : Cond.methodLink own index y ∈ vs_ws) (hM : vs_JI l y (Cond.code y bytes maxL ret :: vs_ws) rm g jd (.ref a :: As) Wo mk post mc ms) (hn : As.length = n) (hlsz : ls.size = nL) {st0 : List Value} (hst : st0 = As.reverse ++ .ref a :: rest) (hrm : rm.cells = mc ∧ rm.slots = ms) (hR : rm.frames + 1 ≤ R.frames ∧ 8 + (maxL + 11) + rm.locals ≤ R.locals) (hcap : cells + mc ≤ R.cells ∧ slots + ms ≤ R.slots) (hstk : (rest.map fun v => v.category).sum ≤ 8) (hdg : decode cc pc = .ok (.invokevirtual index, 3))
    (kk : ∀ (v : Int) (u : U) (H1 : Heap) (locs1 : List Loc), post v u → vs_Wd g A s.heap (mk u) H1 locs1 s → W p l e R s m args below meth c H1 locs1 (cells + mc) (slots + ms) Q (F0 m (pc + 3) ls (.int (vs_I v) :: rest))) : W p l e R s m args below meth c H locs cells slots Q (F0 m pc ls st0) := by
  subst hst
  exact va_calli (va_runU (As := As) (rest := rest) hC (hM H.size) (vs_cwU hJ hC hk hl hrm.1 hrm.2 hR) ⟨vs_blindJ, va_recv hW.1.1 hW.2.1 hc he, hW.preJ hJ⟩ rfl hn hlsz rfl (lv_room hstk) hdg hcap) hW.2.2.2.1 (fun q _ h => hW.in q h) hW.in (fun r u t H1 locs1 ht _ hp hb _ _ hS => by
    obtain ⟨v, u⟩ := u
    obtain ⟨rfl, hp⟩ := hp
    exact kk v u H1 locs1 hp (hW.back ht hb hS))
theorem vs_jcallUV {U : Type} {mk : U → va_W} {post : U → Prop} {y : MethodName} {bytes : ByteArray} {maxL n mc ms index : Nat} {ret : Option FieldType} {rm : Room} (As : List Value) (hC : CallFix p m c cc nL s args vs_ws own) (hW : vs_Wd g A s.heap Wo H locs s) (hJ : vs_Js g jd A s s.heap) (q0 : Nat) {ci : Nat} {fs : List Value} {T : u_T} {N : Nat} (he : Wo[q0]? = some (a, .inr (ci, fs))) (hc : vwCl[ci]? = some (RJ4, T, N)) (hk : vs_lkU y bytes maxL ret n) (hl : Cond.methodLink own index y ∈ vs_ws) (hM : vs_JV l y (Cond.code y bytes maxL ret :: vs_ws) rm g jd (.ref a :: As) Wo mk post mc ms) (hn : As.length = n) (hlsz : ls.size = nL) {st0 : List Value} (hst : st0 = As.reverse ++ .ref a :: rest) (hrm : rm.cells = mc ∧ rm.slots = ms) (hR : rm.frames + 1 ≤ R.frames ∧ 8 + (maxL + 11) + rm.locals ≤ R.locals) (hcap : cells + mc ≤ R.cells ∧ slots + ms ≤ R.slots) (hstk : (rest.map fun v => v.category).sum ≤ 8) (hdg : decode cc pc = .ok (.invokevirtual index, 3))
    (kk : ∀ (u : U) (H1 : Heap) (locs1 : List Loc), post u → vs_Wd g A s.heap (mk u) H1 locs1 s → W p l e R s m args below meth c H1 locs1 (cells + mc) (slots + ms) Q (F0 m (pc + 3) ls rest)) : W p l e R s m args below meth c H locs cells slots Q (F0 m pc ls st0) := by
  subst hst
  exact va_callv (va_runU (As := As) (rest := rest) hC (hM H.size) (vs_cwU hJ hC hk hl hrm.1 hrm.2 hR) ⟨vs_blindJ, va_recv hW.1.1 hW.2.1 hc he, hW.preJ hJ⟩ rfl hn hlsz rfl (lv_room hstk) hdg hcap) hW.2.2.2.1 (fun q _ h => hW.in q h) hW.in (fun u t H1 locs1 ht _ hp hb _ _ hS => kk u H1 locs1 hp (hW.back ht hb hS))
theorem vs_jcallUR {U : Type} {mk : U → va_W} {ad : U → Nat} {post : U → Prop} {y : MethodName} {bytes : ByteArray} {maxL n mc ms index : Nat} {ret : Option FieldType} {rm : Room} (As : List Value) (hC : CallFix p m c cc nL s args vs_ws own) (hW : vs_Wd g A s.heap Wo H locs s) (hJ : vs_Js g jd A s s.heap) (q0 : Nat) {ci : Nat} {fs : List Value} {T : u_T} {N : Nat} (he : Wo[q0]? = some (a, .inr (ci, fs))) (hc : vwCl[ci]? = some (RJ4, T, N)) (hk : vs_lkU y bytes maxL ret n) (hl : Cond.methodLink own index y ∈ vs_ws) (hM : vs_JR l y (Cond.code y bytes maxL ret :: vs_ws) rm g jd (.ref a :: As) Wo mk ad post mc ms) (hn : As.length = n) (hlsz : ls.size = nL) {st0 : List Value} (hst : st0 = As.reverse ++ .ref a :: rest) (hrm : rm.cells = mc ∧ rm.slots = ms) (hR : rm.frames + 1 ≤ R.frames ∧ 8 + (maxL + 11) + rm.locals ≤ R.locals) (hcap : cells + mc ≤ R.cells ∧ slots + ms ≤ R.slots) (hstk : (rest.map fun v => v.category).sum ≤ 8) (hdg : decode cc pc = .ok (.invokevirtual index, 3))
    (kk : ∀ (u : U) (H1 : Heap) (locs1 : List Loc), post u → vs_Wd g A s.heap (mk u) H1 locs1 s → W p l e R s m args below meth c H1 locs1 (cells + mc) (slots + ms) Q (F0 m (pc + 3) ls (.ref (ad u) :: rest))) : W p l e R s m args below meth c H locs cells slots Q (F0 m pc ls st0) := by
  subst hst
  exact va_callr (va_runU (As := As) (rest := rest) hC (hM H.size) (vs_cwU hJ hC hk hl hrm.1 hrm.2 hR) ⟨vs_blindJ, va_recv hW.1.1 hW.2.1 hc he, hW.preJ hJ⟩ rfl hn hlsz rfl (lv_room hstk) hdg hcap) hW.2.2.2.1 (fun q _ h => hW.in q h) hW.in (fun u a9 t H1 locs1 ht _ hp hb _ _ hS => by
    obtain ⟨rfl, hb⟩ := hb
    exact kk u H1 locs1 hp (hW.back ht hb hS))
theorem vs_jcallSUI {U : Type} {mk : U → va_W} {post : Int → U → Prop} {y : MethodName} {bytes : ByteArray} {maxL n mc ms index : Nat} {ret : Option FieldType} {rm : Room} (As : List Value) (hC : CallFix p m c cc nL s args vs_ws RJ4) (hW : vs_Wd g A s.heap Wo H locs s) (hJ : vs_Js g jd A s s.heap) (q0 : Nat) {ci : Nat} {fs : List Value} {T : u_T} {N : Nat} (he : Wo[q0]? = some (a, .inr (ci, fs))) (hc : vwCl[ci]? = some (RJ4, T, N)) (hk : vs_lkSU y bytes maxL ret n) (hl : Cond.methodLink RJ4 index y ∈ vs_ws) (hM : vs_JI l y (Cond.code y bytes maxL ret :: vs_ws) rm g jd (.ref a :: As) Wo mk post mc ms) (hn : As.length = n) (hlsz : ls.size = nL) {st0 : List Value} (hst : st0 = As.reverse ++ .ref a :: rest) (hrm : rm.cells = mc ∧ rm.slots = ms) (hR : rm.frames + 1 ≤ R.frames ∧ 8 + (maxL + 11) + rm.locals ≤ R.locals) (hcap : cells + mc ≤ R.cells ∧ slots + ms ≤ R.slots) (hstk : (rest.map fun v => v.category).sum ≤ 8) (hdg : decode cc pc = .ok (.invokespecial index, 3))
    (kk : ∀ (v : Int) (u : U) (H1 : Heap) (locs1 : List Loc), post v u → vs_Wd g A s.heap (mk u) H1 locs1 s → W p l e R s m args below meth c H1 locs1 (cells + mc) (slots + ms) Q (F0 m (pc + 3) ls (.int (vs_I v) :: rest))) : W p l e R s m args below meth c H locs cells slots Q (F0 m pc ls st0) := by
  subst hst
  exact va_calli (va_runSU (As := As) (rest := rest) (hW.1.1.1 ci _ hc).2 hC (hM H.size) (vs_cwSU hC hk hl hrm.1 hrm.2 hR) ⟨vs_blindJ, va_recv hW.1.1 hW.2.1 hc he, hW.preJ hJ⟩ rfl hn hlsz rfl (lv_room hstk) hdg hcap) hW.2.2.2.1 (fun q _ h => hW.in q h) hW.in (fun r u t H1 locs1 ht _ hp hb _ _ hS => by
    obtain ⟨v, u⟩ := u
    obtain ⟨rfl, hp⟩ := hp
    exact kk v u H1 locs1 hp (hW.back ht hb hS))
theorem vs_jcallSUV {U : Type} {mk : U → va_W} {post : U → Prop} {y : MethodName} {bytes : ByteArray} {maxL n mc ms index : Nat} {ret : Option FieldType} {rm : Room} (As : List Value) (hC : CallFix p m c cc nL s args vs_ws RJ4) (hW : vs_Wd g A s.heap Wo H locs s) (hJ : vs_Js g jd A s s.heap) (q0 : Nat) {ci : Nat} {fs : List Value} {T : u_T} {N : Nat} (he : Wo[q0]? = some (a, .inr (ci, fs))) (hc : vwCl[ci]? = some (RJ4, T, N)) (hk : vs_lkSU y bytes maxL ret n) (hl : Cond.methodLink RJ4 index y ∈ vs_ws) (hM : vs_JV l y (Cond.code y bytes maxL ret :: vs_ws) rm g jd (.ref a :: As) Wo mk post mc ms) (hn : As.length = n) (hlsz : ls.size = nL) {st0 : List Value} (hst : st0 = As.reverse ++ .ref a :: rest) (hrm : rm.cells = mc ∧ rm.slots = ms) (hR : rm.frames + 1 ≤ R.frames ∧ 8 + (maxL + 11) + rm.locals ≤ R.locals) (hcap : cells + mc ≤ R.cells ∧ slots + ms ≤ R.slots) (hstk : (rest.map fun v => v.category).sum ≤ 8) (hdg : decode cc pc = .ok (.invokespecial index, 3))
    (kk : ∀ (u : U) (H1 : Heap) (locs1 : List Loc), post u → vs_Wd g A s.heap (mk u) H1 locs1 s → W p l e R s m args below meth c H1 locs1 (cells + mc) (slots + ms) Q (F0 m (pc + 3) ls rest)) : W p l e R s m args below meth c H locs cells slots Q (F0 m pc ls st0) := by
  subst hst
  exact va_callv (va_runSU (As := As) (rest := rest) (hW.1.1.1 ci _ hc).2 hC (hM H.size) (vs_cwSU hC hk hl hrm.1 hrm.2 hR) ⟨vs_blindJ, va_recv hW.1.1 hW.2.1 hc he, hW.preJ hJ⟩ rfl hn hlsz rfl (lv_room hstk) hdg hcap) hW.2.2.2.1 (fun q _ h => hW.in q h) hW.in (fun u t H1 locs1 ht _ hp hb _ _ hS => kk u H1 locs1 hp (hW.back ht hb hS))
theorem vs_jcallSUR {U : Type} {mk : U → va_W} {ad : U → Nat} {post : U → Prop} {y : MethodName} {bytes : ByteArray} {maxL n mc ms index : Nat} {ret : Option FieldType} {rm : Room} (As : List Value) (hC : CallFix p m c cc nL s args vs_ws RJ4) (hW : vs_Wd g A s.heap Wo H locs s) (hJ : vs_Js g jd A s s.heap) (q0 : Nat) {ci : Nat} {fs : List Value} {T : u_T} {N : Nat} (he : Wo[q0]? = some (a, .inr (ci, fs))) (hc : vwCl[ci]? = some (RJ4, T, N)) (hk : vs_lkSU y bytes maxL ret n) (hl : Cond.methodLink RJ4 index y ∈ vs_ws) (hM : vs_JR l y (Cond.code y bytes maxL ret :: vs_ws) rm g jd (.ref a :: As) Wo mk ad post mc ms) (hn : As.length = n) (hlsz : ls.size = nL) {st0 : List Value} (hst : st0 = As.reverse ++ .ref a :: rest) (hrm : rm.cells = mc ∧ rm.slots = ms) (hR : rm.frames + 1 ≤ R.frames ∧ 8 + (maxL + 11) + rm.locals ≤ R.locals) (hcap : cells + mc ≤ R.cells ∧ slots + ms ≤ R.slots) (hstk : (rest.map fun v => v.category).sum ≤ 8) (hdg : decode cc pc = .ok (.invokespecial index, 3))
    (kk : ∀ (u : U) (H1 : Heap) (locs1 : List Loc), post u → vs_Wd g A s.heap (mk u) H1 locs1 s → W p l e R s m args below meth c H1 locs1 (cells + mc) (slots + ms) Q (F0 m (pc + 3) ls (.ref (ad u) :: rest))) : W p l e R s m args below meth c H locs cells slots Q (F0 m pc ls st0) := by
  subst hst
  exact va_callr (va_runSU (As := As) (rest := rest) (hW.1.1.1 ci _ hc).2 hC (hM H.size) (vs_cwSU hC hk hl hrm.1 hrm.2 hR) ⟨vs_blindJ, va_recv hW.1.1 hW.2.1 hc he, hW.preJ hJ⟩ rfl hn hlsz rfl (lv_room hstk) hdg hcap) hW.2.2.2.1 (fun q _ h => hW.in q h) hW.in (fun u a9 t H1 locs1 ht _ hp hb _ _ hS => by
    obtain ⟨rfl, hb⟩ := hb
    exact kk u H1 locs1 hp (hW.back ht hb hS))
theorem vs_jcallSI {U : Type} {mk : U → va_W} {post : Int → U → Prop} {y : MethodName} {bytes : ByteArray} {maxL n mc ms index : Nat} {ret : Option FieldType} {rm : Room} (As : List Value) (hC : CallFix p m c cc nL s args vs_ws own) (hW : vs_Wd g A s.heap Wo H locs s) (hJ : vs_Js g jd A s s.heap) (hk : vs_lkS y bytes maxL ret n) (hl : Cond.methodLink own index y ∈ vs_ws) (hM : vs_JI l y (Cond.code y bytes maxL ret :: vs_ws) rm g jd As Wo mk post mc ms) (hn : As.length = n) (hlsz : ls.size = nL) {st0 : List Value} (hst : st0 = As.reverse ++ rest) (hrm : rm.cells = mc ∧ rm.slots = ms) (hR : rm.frames + 1 ≤ R.frames ∧ 8 + (maxL + 11) + rm.locals ≤ R.locals) (hcap : cells + mc ≤ R.cells ∧ slots + ms ≤ R.slots) (hstk : (rest.map fun v => v.category).sum ≤ 8) (hdg : decode cc pc = .ok (.invokestatic index, 3))
    (kk : ∀ (v : Int) (u : U) (H1 : Heap) (locs1 : List Loc), post v u → vs_Wd g A s.heap (mk u) H1 locs1 s → W p l e R s m args below meth c H1 locs1 (cells + mc) (slots + ms) Q (F0 m (pc + 3) ls (.int (vs_I v) :: rest))) : W p l e R s m args below meth c H locs cells slots Q (F0 m pc ls st0) := by
  subst hst
  exact va_calli (va_runS (As := As) (rest := rest) hC (hM H.size) (vs_cwS hC hk hl hrm.1 hrm.2 hR) ⟨vs_blindJ, hW.preJ hJ⟩ rfl hn hlsz rfl (lv_room hstk) hdg hcap) hW.2.2.2.1 (fun q _ h => hW.in q h) hW.in (fun r u t H1 locs1 ht _ hp hb _ _ hS => by
    obtain ⟨v, u⟩ := u
    obtain ⟨rfl, hp⟩ := hp
    exact kk v u H1 locs1 hp (hW.back ht hb hS))
theorem vs_jcallSV {U : Type} {mk : U → va_W} {post : U → Prop} {y : MethodName} {bytes : ByteArray} {maxL n mc ms index : Nat} {ret : Option FieldType} {rm : Room} (As : List Value) (hC : CallFix p m c cc nL s args vs_ws own) (hW : vs_Wd g A s.heap Wo H locs s) (hJ : vs_Js g jd A s s.heap) (hk : vs_lkS y bytes maxL ret n) (hl : Cond.methodLink own index y ∈ vs_ws) (hM : vs_JV l y (Cond.code y bytes maxL ret :: vs_ws) rm g jd As Wo mk post mc ms) (hn : As.length = n) (hlsz : ls.size = nL) {st0 : List Value} (hst : st0 = As.reverse ++ rest) (hrm : rm.cells = mc ∧ rm.slots = ms) (hR : rm.frames + 1 ≤ R.frames ∧ 8 + (maxL + 11) + rm.locals ≤ R.locals) (hcap : cells + mc ≤ R.cells ∧ slots + ms ≤ R.slots) (hstk : (rest.map fun v => v.category).sum ≤ 8) (hdg : decode cc pc = .ok (.invokestatic index, 3))
    (kk : ∀ (u : U) (H1 : Heap) (locs1 : List Loc), post u → vs_Wd g A s.heap (mk u) H1 locs1 s → W p l e R s m args below meth c H1 locs1 (cells + mc) (slots + ms) Q (F0 m (pc + 3) ls rest)) : W p l e R s m args below meth c H locs cells slots Q (F0 m pc ls st0) := by
  subst hst
  exact va_callv (va_runS (As := As) (rest := rest) hC (hM H.size) (vs_cwS hC hk hl hrm.1 hrm.2 hR) ⟨vs_blindJ, hW.preJ hJ⟩ rfl hn hlsz rfl (lv_room hstk) hdg hcap) hW.2.2.2.1 (fun q _ h => hW.in q h) hW.in (fun u t H1 locs1 ht _ hp hb _ _ hS => kk u H1 locs1 hp (hW.back ht hb hS))
theorem vs_jcallSR {U : Type} {mk : U → va_W} {ad : U → Nat} {post : U → Prop} {y : MethodName} {bytes : ByteArray} {maxL n mc ms index : Nat} {ret : Option FieldType} {rm : Room} (As : List Value) (hC : CallFix p m c cc nL s args vs_ws own) (hW : vs_Wd g A s.heap Wo H locs s) (hJ : vs_Js g jd A s s.heap) (hk : vs_lkS y bytes maxL ret n) (hl : Cond.methodLink own index y ∈ vs_ws) (hM : vs_JR l y (Cond.code y bytes maxL ret :: vs_ws) rm g jd As Wo mk ad post mc ms) (hn : As.length = n) (hlsz : ls.size = nL) {st0 : List Value} (hst : st0 = As.reverse ++ rest) (hrm : rm.cells = mc ∧ rm.slots = ms) (hR : rm.frames + 1 ≤ R.frames ∧ 8 + (maxL + 11) + rm.locals ≤ R.locals) (hcap : cells + mc ≤ R.cells ∧ slots + ms ≤ R.slots) (hstk : (rest.map fun v => v.category).sum ≤ 8) (hdg : decode cc pc = .ok (.invokestatic index, 3))
    (kk : ∀ (u : U) (H1 : Heap) (locs1 : List Loc), post u → vs_Wd g A s.heap (mk u) H1 locs1 s → W p l e R s m args below meth c H1 locs1 (cells + mc) (slots + ms) Q (F0 m (pc + 3) ls (.ref (ad u) :: rest))) : W p l e R s m args below meth c H locs cells slots Q (F0 m pc ls st0) := by
  subst hst
  exact va_callr (va_runS (As := As) (rest := rest) hC (hM H.size) (vs_cwS hC hk hl hrm.1 hrm.2 hR) ⟨vs_blindJ, hW.preJ hJ⟩ rfl hn hlsz rfl (lv_room hstk) hdg hcap) hW.2.2.2.1 (fun q _ h => hW.in q h) hW.in (fun u a9 t H1 locs1 ht _ hp hb _ _ hS => by
    obtain ⟨rfl, hb⟩ := hb
    exact kk u H1 locs1 hp (hW.back ht hb hS))
theorem vs_jcallIV {U : Type} {mk : U → va_W} {post : U → Prop} {y : MethodName} {bytes : ByteArray} {maxL n mc ms index : Nat} {rm : Room} (As : List Value) (hC : CallFix p m c cc nL s args vs_ws own) (hW : vs_Wd g A s.heap Wo H locs s) (hJ : vs_Js g jd A s s.heap) (hk : vs_lkI y bytes maxL n) (hl : Cond.methodLink own index y ∈ vs_ws) (hM : vs_JV l y (Cond.code y bytes maxL none :: vs_ws) rm g jd (.ref a :: As) Wo mk post mc ms) (hn : As.length = n) (hlsz : ls.size = nL) {st0 : List Value} (hst : st0 = As.reverse ++ .ref a :: rest) (hrm : rm.cells = mc ∧ rm.slots = ms) (hR : rm.frames + 1 ≤ R.frames ∧ 8 + (maxL + 11) + rm.locals ≤ R.locals) (hcap : cells + mc ≤ R.cells ∧ slots + ms ≤ R.slots) (hstk : (rest.map fun v => v.category).sum ≤ 8) (hdg : decode cc pc = .ok (.invokespecial index, 3))
    (kk : ∀ (u : U) (H1 : Heap) (locs1 : List Loc), post u → vs_Wd g A s.heap (mk u) H1 locs1 s → W p l e R s m args below meth c H1 locs1 (cells + mc) (slots + ms) Q (F0 m (pc + 3) ls rest)) : W p l e R s m args below meth c H locs cells slots Q (F0 m pc ls st0) := by
  subst hst
  exact va_callv (va_runI (As := As) (rest := rest) hC (hM H.size) (vs_cwI hC hk hl hrm.1 hrm.2 hR) ⟨vs_blindJ, hW.preJ hJ⟩ rfl hn hlsz rfl (lv_room hstk) hdg hcap) hW.2.2.2.1 (fun q _ h => hW.in q h) hW.in (fun u t H1 locs1 ht _ hp hb _ _ hS => kk u H1 locs1 hp (hW.back ht hb hS))
end VSJ
