/-! String.length, String.charAt and what they call: written by program (wip/whole/mkstr.py) -/
def yJ_length : MethodName := ⟨"java/lang/String", "length", "()I"⟩
abbrev cJ_length : ByteArray := prog_14_method_54_code
theorem mkJ_length : MK yJ_length cJ_length 1 (some .int) 0 := ⟨gw 392 (by decide +kernel) rfl, gw 62 (by decide +kernel) rfl, by decide +kernel⟩
theorem svJ_length : Cond.instanceMethod yJ_length ∈ GW ∧ Cond.selects yJ_length.cls yJ_length yJ_length ∈ GW := ⟨gw 390 (by decide +kernel) rfl, gw 391 (by decide +kernel) rfl⟩
theorem dJ_length_0 : decode cJ_length 0 = .ok (.aload_n 0, 1) := by decide +kernel
theorem dJ_length_1 : decode cJ_length 1 = .ok (.getfield 9, 3) := by decide +kernel
theorem dJ_length_4 : decode cJ_length 4 = .ok (.arraylength, 1) := by decide +kernel
theorem dJ_length_5 : decode cJ_length 5 = .ok (.aload_n 0, 1) := by decide +kernel
theorem dJ_length_6 : decode cJ_length 6 = .ok (.invokevirtual 335, 3) := by decide +kernel
theorem dJ_length_9 : decode cJ_length 9 = .ok (.ishr, 1) := by decide +kernel
theorem dJ_length_10 : decode cJ_length 10 = .ok (.ireturn, 1) := by decide +kernel
def yJ_coder : MethodName := ⟨"java/lang/String", "coder", "()B"⟩
abbrev cJ_coder : ByteArray := prog_14_method_152_code
theorem mkJ_coder : MK yJ_coder cJ_coder 1 (some .byte) 0 := ⟨gw 396 (by decide +kernel) rfl, gw 62 (by decide +kernel) rfl, by decide +kernel⟩
theorem svJ_coder : Cond.instanceMethod yJ_coder ∈ GW ∧ Cond.selects yJ_coder.cls yJ_coder yJ_coder ∈ GW := ⟨gw 394 (by decide +kernel) rfl, gw 395 (by decide +kernel) rfl⟩
theorem dJ_coder_0 : decode cJ_coder 0 = .ok (.getstatic 38, 3) := by decide +kernel
theorem dJ_coder_3 : decode cJ_coder 3 = .ok (.ifCond .eq 10, 3) := by decide +kernel
theorem dJ_coder_6 : decode cJ_coder 6 = .ok (.aload_n 0, 1) := by decide +kernel
theorem dJ_coder_7 : decode cJ_coder 7 = .ok (.getfield 15, 3) := by decide +kernel
theorem dJ_coder_10 : decode cJ_coder 10 = .ok (.goto 4, 3) := by decide +kernel
theorem dJ_coder_13 : decode cJ_coder 13 = .ok (.iconst 1, 1) := by decide +kernel
theorem dJ_coder_14 : decode cJ_coder 14 = .ok (.ireturn, 1) := by decide +kernel
def yJ_isLatin1 : MethodName := ⟨"java/lang/String", "isLatin1", "()Z"⟩
abbrev cJ_isLatin1 : ByteArray := prog_14_method_154_code
theorem mkJ_isLatin1 : MK yJ_isLatin1 cJ_isLatin1 1 (some .boolean) 0 := ⟨gw 406 (by decide +kernel) rfl, gw 62 (by decide +kernel) rfl, by decide +kernel⟩
theorem svJ_isLatin1 : Cond.instanceMethod yJ_isLatin1 ∈ GW ∧ Cond.selects yJ_isLatin1.cls yJ_isLatin1 yJ_isLatin1 ∈ GW := ⟨gw 404 (by decide +kernel) rfl, gw 405 (by decide +kernel) rfl⟩
theorem dJ_isLatin1_0 : decode cJ_isLatin1 0 = .ok (.getstatic 38, 3) := by decide +kernel
theorem dJ_isLatin1_3 : decode cJ_isLatin1 3 = .ok (.ifCond .eq 14, 3) := by decide +kernel
theorem dJ_isLatin1_6 : decode cJ_isLatin1 6 = .ok (.aload_n 0, 1) := by decide +kernel
theorem dJ_isLatin1_7 : decode cJ_isLatin1 7 = .ok (.getfield 15, 3) := by decide +kernel
theorem dJ_isLatin1_10 : decode cJ_isLatin1 10 = .ok (.ifCond .ne 7, 3) := by decide +kernel
theorem dJ_isLatin1_13 : decode cJ_isLatin1 13 = .ok (.iconst 1, 1) := by decide +kernel
theorem dJ_isLatin1_14 : decode cJ_isLatin1 14 = .ok (.goto 4, 3) := by decide +kernel
theorem dJ_isLatin1_17 : decode cJ_isLatin1 17 = .ok (.iconst 0, 1) := by decide +kernel
theorem dJ_isLatin1_18 : decode cJ_isLatin1 18 = .ok (.ireturn, 1) := by decide +kernel
def yJ_charAt : MethodName := ⟨"java/lang/String", "charAt", "(I)C"⟩
abbrev cJ_charAt : ByteArray := prog_14_method_56_code
theorem mkJ_charAt : MK yJ_charAt cJ_charAt 2 (some .char) 1 := ⟨gw 402 (by decide +kernel) rfl, gw 62 (by decide +kernel) rfl, by decide +kernel⟩
theorem svJ_charAt : Cond.instanceMethod yJ_charAt ∈ GW ∧ Cond.selects yJ_charAt.cls yJ_charAt yJ_charAt ∈ GW := ⟨gw 400 (by decide +kernel) rfl, gw 401 (by decide +kernel) rfl⟩
theorem dJ_charAt_0 : decode cJ_charAt 0 = .ok (.aload_n 0, 1) := by decide +kernel
theorem dJ_charAt_1 : decode cJ_charAt 1 = .ok (.invokevirtual 492, 3) := by decide +kernel
theorem dJ_charAt_4 : decode cJ_charAt 4 = .ok (.ifCond .eq 12, 3) := by decide +kernel
theorem dJ_charAt_7 : decode cJ_charAt 7 = .ok (.aload_n 0, 1) := by decide +kernel
theorem dJ_charAt_8 : decode cJ_charAt 8 = .ok (.getfield 9, 3) := by decide +kernel
theorem dJ_charAt_11 : decode cJ_charAt 11 = .ok (.iload_n 1, 1) := by decide +kernel
theorem dJ_charAt_12 : decode cJ_charAt 12 = .ok (.invokestatic 495, 3) := by decide +kernel
theorem dJ_charAt_15 : decode cJ_charAt 15 = .ok (.ireturn, 1) := by decide +kernel
def yJ_checkIndex : MethodName := ⟨"java/lang/String", "checkIndex", "(II)V"⟩
abbrev cJ_checkIndex : ByteArray := prog_14_method_155_code
theorem mkJ_checkIndex : MK yJ_checkIndex cJ_checkIndex 2 none 2 := ⟨gw 412 (by decide +kernel) rfl, gw 62 (by decide +kernel) rfl, by decide +kernel⟩
theorem sxJ_checkIndex : Cond.static yJ_checkIndex ∈ GW := gw 411 (by decide +kernel) rfl
theorem dJ_checkIndex_0 : decode cJ_checkIndex 0 = .ok (.iload_n 0, 1) := by decide +kernel
theorem dJ_checkIndex_1 : decode cJ_checkIndex 1 = .ok (.iload_n 1, 1) := by decide +kernel
theorem dJ_checkIndex_2 : decode cJ_checkIndex 2 = .ok (.getstatic 1053, 3) := by decide +kernel
theorem dJ_checkIndex_5 : decode cJ_checkIndex 5 = .ok (.invokestatic 1059, 3) := by decide +kernel
theorem dJ_checkIndex_8 : decode cJ_checkIndex 8 = .ok (.pop, 1) := by decide +kernel
theorem dJ_checkIndex_9 : decode cJ_checkIndex 9 = .ok (.return_, 1) := by decide +kernel
def yJ_lcharAt : MethodName := ⟨"java/lang/StringLatin1", "charAt", "([BI)C"⟩
abbrev cJ_lcharAt : ByteArray := prog_15_method_2_code
theorem mkJ_lcharAt : MK yJ_lcharAt cJ_lcharAt 2 (some .char) 2 := ⟨gw 409 (by decide +kernel) rfl, gw 63 (by decide +kernel) rfl, by decide +kernel⟩
theorem sxJ_lcharAt : Cond.static yJ_lcharAt ∈ GW := gw 408 (by decide +kernel) rfl
theorem dJ_lcharAt_0 : decode cJ_lcharAt 0 = .ok (.iload_n 1, 1) := by decide +kernel
theorem dJ_lcharAt_1 : decode cJ_lcharAt 1 = .ok (.aload_n 0, 1) := by decide +kernel
theorem dJ_lcharAt_2 : decode cJ_lcharAt 2 = .ok (.arraylength, 1) := by decide +kernel
theorem dJ_lcharAt_3 : decode cJ_lcharAt 3 = .ok (.invokestatic 9, 3) := by decide +kernel
theorem dJ_lcharAt_6 : decode cJ_lcharAt 6 = .ok (.aload_n 0, 1) := by decide +kernel
theorem dJ_lcharAt_7 : decode cJ_lcharAt 7 = .ok (.iload_n 1, 1) := by decide +kernel
theorem dJ_lcharAt_8 : decode cJ_lcharAt 8 = .ok (.baload, 1) := by decide +kernel
theorem dJ_lcharAt_9 : decode cJ_lcharAt 9 = .ok (.sipush 255, 3) := by decide +kernel
theorem dJ_lcharAt_12 : decode cJ_lcharAt 12 = .ok (.iand, 1) := by decide +kernel
theorem dJ_lcharAt_13 : decode cJ_lcharAt 13 = .ok (.i2c, 1) := by decide +kernel
theorem dJ_lcharAt_14 : decode cJ_lcharAt 14 = .ok (.ireturn, 1) := by decide +kernel
def yJ_pcheckIndex : MethodName := ⟨"jdk/internal/util/Preconditions", "checkIndex", "(IILjava/util/function/BiFunction;)I"⟩
abbrev cJ_pcheckIndex : ByteArray := prog_18_method_11_code
theorem mkJ_pcheckIndex : MK yJ_pcheckIndex cJ_pcheckIndex 3 (some .int) 3 := ⟨gw 417 (by decide +kernel) rfl, gw 64 (by decide +kernel) rfl, by decide +kernel⟩
theorem sxJ_pcheckIndex : Cond.static yJ_pcheckIndex ∈ GW := gw 416 (by decide +kernel) rfl
theorem dJ_pcheckIndex_0 : decode cJ_pcheckIndex 0 = .ok (.iload_n 0, 1) := by decide +kernel
theorem dJ_pcheckIndex_1 : decode cJ_pcheckIndex 1 = .ok (.ifCond .lt 8, 3) := by decide +kernel
theorem dJ_pcheckIndex_4 : decode cJ_pcheckIndex 4 = .ok (.iload_n 0, 1) := by decide +kernel
theorem dJ_pcheckIndex_5 : decode cJ_pcheckIndex 5 = .ok (.iload_n 1, 1) := by decide +kernel
theorem dJ_pcheckIndex_6 : decode cJ_pcheckIndex 6 = .ok (.if_icmp .lt 10, 3) := by decide +kernel
theorem dJ_pcheckIndex_16 : decode cJ_pcheckIndex 16 = .ok (.iload_n 0, 1) := by decide +kernel
theorem dJ_pcheckIndex_17 : decode cJ_pcheckIndex 17 = .ok (.ireturn, 1) := by decide +kernel
theorem lfJS_1053 : Cond.fieldLink "java/lang/String" 1053 "jdk/internal/util/Preconditions" "SIOOBE_FORMATTER" "Ljava/util/function/BiFunction;" ∈ GW := gw 413 (by decide +kernel) rfl
theorem lfJS_15 : Cond.fieldLink "java/lang/String" 15 "java/lang/String" "coder" "B" ∈ GW := gw 1258 (by decide +kernel) rfl
theorem lfJS_38 : Cond.fieldLink "java/lang/String" 38 "java/lang/String" "COMPACT_STRINGS" "Z" ∈ GW := gw 397 (by decide +kernel) rfl
theorem lfJS_9 : Cond.fieldLink "java/lang/String" 9 "java/lang/String" "value" "[B" ∈ GW := gw 1257 (by decide +kernel) rfl
theorem lmX5_122 : Cond.methodLink RX5 122 yJ_length ∈ GW := gw 389 (by decide +kernel) rfl
theorem lmX5_126 : Cond.methodLink RX5 126 yJ_charAt ∈ GW := gw 399 (by decide +kernel) rfl
theorem lmJS_1059 : Cond.methodLink "java/lang/String" 1059 yJ_pcheckIndex ∈ GW := gw 415 (by decide +kernel) rfl
theorem lmJS_335 : Cond.methodLink "java/lang/String" 335 yJ_coder ∈ GW := gw 393 (by decide +kernel) rfl
theorem lmJS_492 : Cond.methodLink "java/lang/String" 492 yJ_isLatin1 ∈ GW := gw 403 (by decide +kernel) rfl
theorem lmJS_495 : Cond.methodLink "java/lang/String" 495 yJ_lcharAt ∈ GW := gw 407 (by decide +kernel) rfl
theorem lmJL_9 : Cond.methodLink "java/lang/StringLatin1" 9 yJ_checkIndex ∈ GW := gw 410 (by decide +kernel) rfl
