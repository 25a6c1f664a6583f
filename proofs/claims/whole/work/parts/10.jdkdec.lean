/-! the JDK's own methods that are called: written by program (wip/whole/mkjdk.py) -/
def yJ_bitCount : MethodName := ⟨"java/lang/Integer", "bitCount", "(I)I"⟩
abbrev cJ_bitCount : ByteArray := prog_12_method_49_code
theorem mkJ_bitCount : MK yJ_bitCount cJ_bitCount 1 (some .int) 1 := ⟨gw 580 (by decide +kernel) rfl, gw 67 (by decide +kernel) rfl, by decide +kernel⟩
theorem sxJ_bitCount : Cond.static yJ_bitCount ∈ GW := gw 579 (by decide +kernel) rfl
theorem dJ_bitCount_0 : decode cJ_bitCount 0 = .ok (.iload_n 0, 1) := by decide +kernel
theorem dJ_bitCount_1 : decode cJ_bitCount 1 = .ok (.iload_n 0, 1) := by decide +kernel
theorem dJ_bitCount_2 : decode cJ_bitCount 2 = .ok (.iconst 1, 1) := by decide +kernel
theorem dJ_bitCount_3 : decode cJ_bitCount 3 = .ok (.iushr, 1) := by decide +kernel
theorem dJ_bitCount_4 : decode cJ_bitCount 4 = .ok (.ldc_w 265, 3) := by decide +kernel
theorem dJ_bitCount_7 : decode cJ_bitCount 7 = .ok (.iand, 1) := by decide +kernel
theorem dJ_bitCount_8 : decode cJ_bitCount 8 = .ok (.isub, 1) := by decide +kernel
theorem dJ_bitCount_9 : decode cJ_bitCount 9 = .ok (.istore_n 0, 1) := by decide +kernel
theorem dJ_bitCount_10 : decode cJ_bitCount 10 = .ok (.iload_n 0, 1) := by decide +kernel
theorem dJ_bitCount_11 : decode cJ_bitCount 11 = .ok (.ldc_w 266, 3) := by decide +kernel
theorem dJ_bitCount_14 : decode cJ_bitCount 14 = .ok (.iand, 1) := by decide +kernel
theorem dJ_bitCount_15 : decode cJ_bitCount 15 = .ok (.iload_n 0, 1) := by decide +kernel
theorem dJ_bitCount_16 : decode cJ_bitCount 16 = .ok (.iconst 2, 1) := by decide +kernel
theorem dJ_bitCount_17 : decode cJ_bitCount 17 = .ok (.iushr, 1) := by decide +kernel
theorem dJ_bitCount_18 : decode cJ_bitCount 18 = .ok (.ldc_w 266, 3) := by decide +kernel
theorem dJ_bitCount_21 : decode cJ_bitCount 21 = .ok (.iand, 1) := by decide +kernel
theorem dJ_bitCount_22 : decode cJ_bitCount 22 = .ok (.iadd, 1) := by decide +kernel
theorem dJ_bitCount_23 : decode cJ_bitCount 23 = .ok (.istore_n 0, 1) := by decide +kernel
theorem dJ_bitCount_24 : decode cJ_bitCount 24 = .ok (.iload_n 0, 1) := by decide +kernel
theorem dJ_bitCount_25 : decode cJ_bitCount 25 = .ok (.iload_n 0, 1) := by decide +kernel
theorem dJ_bitCount_26 : decode cJ_bitCount 26 = .ok (.iconst 4, 1) := by decide +kernel
theorem dJ_bitCount_27 : decode cJ_bitCount 27 = .ok (.iushr, 1) := by decide +kernel
theorem dJ_bitCount_28 : decode cJ_bitCount 28 = .ok (.iadd, 1) := by decide +kernel
theorem dJ_bitCount_29 : decode cJ_bitCount 29 = .ok (.ldc_w 267, 3) := by decide +kernel
theorem dJ_bitCount_32 : decode cJ_bitCount 32 = .ok (.iand, 1) := by decide +kernel
theorem dJ_bitCount_33 : decode cJ_bitCount 33 = .ok (.istore_n 0, 1) := by decide +kernel
theorem dJ_bitCount_34 : decode cJ_bitCount 34 = .ok (.iload_n 0, 1) := by decide +kernel
theorem dJ_bitCount_35 : decode cJ_bitCount 35 = .ok (.iload_n 0, 1) := by decide +kernel
theorem dJ_bitCount_36 : decode cJ_bitCount 36 = .ok (.bipush 8, 2) := by decide +kernel
theorem dJ_bitCount_38 : decode cJ_bitCount 38 = .ok (.iushr, 1) := by decide +kernel
theorem dJ_bitCount_39 : decode cJ_bitCount 39 = .ok (.iadd, 1) := by decide +kernel
theorem dJ_bitCount_40 : decode cJ_bitCount 40 = .ok (.istore_n 0, 1) := by decide +kernel
theorem dJ_bitCount_41 : decode cJ_bitCount 41 = .ok (.iload_n 0, 1) := by decide +kernel
theorem dJ_bitCount_42 : decode cJ_bitCount 42 = .ok (.iload_n 0, 1) := by decide +kernel
theorem dJ_bitCount_43 : decode cJ_bitCount 43 = .ok (.bipush 16, 2) := by decide +kernel
theorem dJ_bitCount_45 : decode cJ_bitCount 45 = .ok (.iushr, 1) := by decide +kernel
theorem dJ_bitCount_46 : decode cJ_bitCount 46 = .ok (.iadd, 1) := by decide +kernel
theorem dJ_bitCount_47 : decode cJ_bitCount 47 = .ok (.istore_n 0, 1) := by decide +kernel
theorem dJ_bitCount_48 : decode cJ_bitCount 48 = .ok (.iload_n 0, 1) := by decide +kernel
theorem dJ_bitCount_49 : decode cJ_bitCount 49 = .ok (.bipush 63, 2) := by decide +kernel
theorem dJ_bitCount_51 : decode cJ_bitCount 51 = .ok (.iand, 1) := by decide +kernel
theorem dJ_bitCount_52 : decode cJ_bitCount 52 = .ok (.ireturn, 1) := by decide +kernel
theorem mmaxW : Cond.static Lib.Math.max.name ∈ GW ∧ Cond.initialized "java/lang/Math" ∈ GW ∧ Cond.code Lib.Math.max.name Lib.Math.max.code 2 (some .int) ∈ GW := ⟨gw 609 (by decide +kernel) rfl, gw 68 (by decide +kernel) rfl, gw 610 (by decide +kernel) rfl⟩
theorem mminW : Cond.static Lib.Math.min.name ∈ GW ∧ Cond.initialized "java/lang/Math" ∈ GW ∧ Cond.code Lib.Math.min.name Lib.Math.min.code 2 (some .int) ∈ GW := ⟨gw 773 (by decide +kernel) rfl, gw 68 (by decide +kernel) rfl, gw 774 (by decide +kernel) rfl⟩
theorem lcJ_265 : Cond.constant "java/lang/Integer" 265 (1431655765 : Int32) ∈ GW := gw 581 (by decide +kernel) rfl
theorem lcJ_266 : Cond.constant "java/lang/Integer" 266 (858993459 : Int32) ∈ GW := gw 582 (by decide +kernel) rfl
theorem lcJ_267 : Cond.constant "java/lang/Integer" 267 (252645135 : Int32) ∈ GW := gw 583 (by decide +kernel) rfl
theorem lmX1_21 : Cond.methodLink RX1 21 arraycopyName ∈ GW := gw 487 (by decide +kernel) rfl
theorem lmX1_55 : Cond.methodLink RX1 55 Lib.Math.max.name ∈ GW := gw 608 (by decide +kernel) rfl
theorem lmX1_68 : Cond.methodLink RX1 68 yJ_bitCount ∈ GW := gw 606 (by decide +kernel) rfl
theorem lmX2_38 : Cond.methodLink RX2 38 yJ_bitCount ∈ GW := gw 656 (by decide +kernel) rfl
theorem lmX3_77 : Cond.methodLink RX3 77 arraycopyName ∈ GW := gw 783 (by decide +kernel) rfl
theorem lmX3_83 : Cond.methodLink RX3 83 yJ_bitCount ∈ GW := gw 815 (by decide +kernel) rfl
theorem lmX4_60 : Cond.methodLink RX4 60 Lib.Math.min.name ∈ GW := gw 772 (by decide +kernel) rfl
theorem lmX6_52 : Cond.methodLink RX6 52 Lib.Math.max.name ∈ GW := gw 754 (by decide +kernel) rfl
theorem lmX8_176 : Cond.methodLink RX8 176 yJ_bitCount ∈ GW := gw 578 (by decide +kernel) rfl
theorem acW : Cond.native arraycopyName ∈ GW ∧ Cond.static arraycopyName ∈ GW ∧ Cond.initialized "java/lang/System" ∈ GW := ⟨gw 489 (by decide +kernel) rfl, gw 488 (by decide +kernel) rfl, gw 66 (by decide +kernel) rfl⟩
