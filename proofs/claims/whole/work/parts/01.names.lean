-- ===== PART A: goes FIRST, ahead of the names: the tables' words, and 'selects' of the private methods out of them =====
/-- a private method of a class that the tables say can be made, by its rows of tables_1 -/
def lw_okq (q : MethodName × Nat) : Prop := (q.1.cls ≠ "java/lang/invoke/MethodHandle" ∧ q.1.cls ≠ "java/lang/invoke/VarHandle") ∧ Cond.instantiable q.1.cls q.2 ∈ tables_1 ∧ Cond.privateMethod q.1 ∈ tables_1 ∧ Cond.instanceMethod q.1 ∈ tables_1
theorem lw_p0 : lw_okq (⟨"StripFlag$Text", "skipBlanks", "()V"⟩, 6) := ⟨⟨by decide +kernel, by decide +kernel⟩, List.mem_of_getElem? (i := 27) (by decide +kernel), List.mem_of_getElem? (i := 310) (by decide +kernel), List.mem_of_getElem? (i := 311) (by decide +kernel)⟩
theorem lw_p1 : lw_okq (⟨"StripFlag$Text", "signAt", "(I)I"⟩, 6) := ⟨⟨by decide +kernel, by decide +kernel⟩, List.mem_of_getElem? (i := 27) (by decide +kernel), List.mem_of_getElem? (i := 314) (by decide +kernel), List.mem_of_getElem? (i := 315) (by decide +kernel)⟩
theorem lw_p2 : lw_okq (⟨"StripFlag$Text", "sign", "()I"⟩, 6) := ⟨⟨by decide +kernel, by decide +kernel⟩, List.mem_of_getElem? (i := 27) (by decide +kernel), List.mem_of_getElem? (i := 318) (by decide +kernel), List.mem_of_getElem? (i := 319) (by decide +kernel)⟩
theorem lw_p3 : lw_okq (⟨"StripFlag$Text", "readClause", "(LStripFlag$Plan;)V"⟩, 6) := ⟨⟨by decide +kernel, by decide +kernel⟩, List.mem_of_getElem? (i := 27) (by decide +kernel), List.mem_of_getElem? (i := 322) (by decide +kernel), List.mem_of_getElem? (i := 323) (by decide +kernel)⟩
theorem lw_p4 : lw_okq (⟨"StripFlag$Text", "readWord", "()I"⟩, 6) := ⟨⟨by decide +kernel, by decide +kernel⟩, List.mem_of_getElem? (i := 27) (by decide +kernel), List.mem_of_getElem? (i := 326) (by decide +kernel), List.mem_of_getElem? (i := 327) (by decide +kernel)⟩
theorem lw_p5 : lw_okq (⟨"StripFlag$Text", "endOfRun", "(II)I"⟩, 6) := ⟨⟨by decide +kernel, by decide +kernel⟩, List.mem_of_getElem? (i := 27) (by decide +kernel), List.mem_of_getElem? (i := 330) (by decide +kernel), List.mem_of_getElem? (i := 331) (by decide +kernel)⟩
theorem lw_p6 : lw_okq (⟨"StripFlag$Text", "isWord", "(ILjava/lang/String;)Z"⟩, 6) := ⟨⟨by decide +kernel, by decide +kernel⟩, List.mem_of_getElem? (i := 27) (by decide +kernel), List.mem_of_getElem? (i := 335) (by decide +kernel), List.mem_of_getElem? (i := 336) (by decide +kernel)⟩
theorem lw_p7 : lw_okq (⟨"StripFlag$Text", "fail", "(II)V"⟩, 6) := ⟨⟨by decide +kernel, by decide +kernel⟩, List.mem_of_getElem? (i := 27) (by decide +kernel), List.mem_of_getElem? (i := 391) (by decide +kernel), List.mem_of_getElem? (i := 392) (by decide +kernel)⟩
theorem lw_p8 : lw_okq (⟨"StripFlag$Text", "readColours", "(LStripFlag$Plan;)V"⟩, 6) := ⟨⟨by decide +kernel, by decide +kernel⟩, List.mem_of_getElem? (i := 27) (by decide +kernel), List.mem_of_getElem? (i := 398) (by decide +kernel), List.mem_of_getElem? (i := 399) (by decide +kernel)⟩
theorem lw_p9 : lw_okq (⟨"StripFlag$Text", "readNumber", "(II)I"⟩, 6) := ⟨⟨by decide +kernel, by decide +kernel⟩, List.mem_of_getElem? (i := 27) (by decide +kernel), List.mem_of_getElem? (i := 402) (by decide +kernel), List.mem_of_getElem? (i := 403) (by decide +kernel)⟩
theorem lw_p10 : lw_okq (⟨"StripFlag$Text", "readNumbers", "(LStripFlag$Plan;I)V"⟩, 6) := ⟨⟨by decide +kernel, by decide +kernel⟩, List.mem_of_getElem? (i := 27) (by decide +kernel), List.mem_of_getElem? (i := 410) (by decide +kernel), List.mem_of_getElem? (i := 411) (by decide +kernel)⟩
theorem lw_p11 : lw_okq (⟨"StripFlag$Text", "readEnd", "()V"⟩, 6) := ⟨⟨by decide +kernel, by decide +kernel⟩, List.mem_of_getElem? (i := 27) (by decide +kernel), List.mem_of_getElem? (i := 414) (by decide +kernel), List.mem_of_getElem? (i := 415) (by decide +kernel)⟩
theorem lw_p12 : lw_okq (⟨"StripFlag$Plan", "spread", "(II)I"⟩, 12) := ⟨⟨by decide +kernel, by decide +kernel⟩, List.mem_of_getElem? (i := 188) (by decide +kernel), List.mem_of_getElem? (i := 514) (by decide +kernel), List.mem_of_getElem? (i := 515) (by decide +kernel)⟩
theorem lw_p13 : lw_okq (⟨"StripFlag$Cloth", "looseSeams", "(LStripFlag$Plan;)I"⟩, 4) := ⟨⟨by decide +kernel, by decide +kernel⟩, List.mem_of_getElem? (i := 56) (by decide +kernel), List.mem_of_getElem? (i := 550) (by decide +kernel), List.mem_of_getElem? (i := 551) (by decide +kernel)⟩
theorem lw_p14 : lw_okq (⟨"StripFlag$Cloth", "draw", "(I)I"⟩, 4) := ⟨⟨by decide +kernel, by decide +kernel⟩, List.mem_of_getElem? (i := 56) (by decide +kernel), List.mem_of_getElem? (i := 574) (by decide +kernel), List.mem_of_getElem? (i := 575) (by decide +kernel)⟩
theorem lw_p15 : lw_okq (⟨"StripFlag$Cloth", "tryUnpick", "(LStripFlag$Plan;II)V"⟩, 4) := ⟨⟨by decide +kernel, by decide +kernel⟩, List.mem_of_getElem? (i := 56) (by decide +kernel), List.mem_of_getElem? (i := 582) (by decide +kernel), List.mem_of_getElem? (i := 583) (by decide +kernel)⟩
def lw_privs_1 : List (MethodName × Nat) := [(⟨"StripFlag$Text", "skipBlanks", "()V"⟩, 6), (⟨"StripFlag$Text", "signAt", "(I)I"⟩, 6), (⟨"StripFlag$Text", "sign", "()I"⟩, 6), (⟨"StripFlag$Text", "readClause", "(LStripFlag$Plan;)V"⟩, 6), (⟨"StripFlag$Text", "readWord", "()I"⟩, 6), (⟨"StripFlag$Text", "endOfRun", "(II)I"⟩, 6), (⟨"StripFlag$Text", "isWord", "(ILjava/lang/String;)Z"⟩, 6), (⟨"StripFlag$Text", "fail", "(II)V"⟩, 6), (⟨"StripFlag$Text", "readColours", "(LStripFlag$Plan;)V"⟩, 6), (⟨"StripFlag$Text", "readNumber", "(II)I"⟩, 6), (⟨"StripFlag$Text", "readNumbers", "(LStripFlag$Plan;I)V"⟩, 6), (⟨"StripFlag$Text", "readEnd", "()V"⟩, 6), (⟨"StripFlag$Plan", "spread", "(II)I"⟩, 12), (⟨"StripFlag$Cloth", "looseSeams", "(LStripFlag$Plan;)I"⟩, 4), (⟨"StripFlag$Cloth", "draw", "(I)I"⟩, 4), (⟨"StripFlag$Cloth", "tryUnpick", "(LStripFlag$Plan;II)V"⟩, 4)]
theorem lw_r1 : ∀ q ∈ lw_privs_1, lw_okq q := List.forall_mem_cons.mpr ⟨lw_p0, List.forall_mem_cons.mpr ⟨lw_p1, List.forall_mem_cons.mpr ⟨lw_p2, List.forall_mem_cons.mpr ⟨lw_p3, List.forall_mem_cons.mpr ⟨lw_p4, List.forall_mem_cons.mpr ⟨lw_p5, List.forall_mem_cons.mpr ⟨lw_p6, List.forall_mem_cons.mpr ⟨lw_p7, List.forall_mem_cons.mpr ⟨lw_p8, List.forall_mem_cons.mpr ⟨lw_p9, List.forall_mem_cons.mpr ⟨lw_p10, List.forall_mem_cons.mpr ⟨lw_p11, List.forall_mem_cons.mpr ⟨lw_p12, List.forall_mem_cons.mpr ⟨lw_p13, List.forall_mem_cons.mpr ⟨lw_p14, List.forall_mem_cons.mpr ⟨lw_p15, fun _ h => absurd h List.not_mem_nil⟩⟩⟩⟩⟩⟩⟩⟩⟩⟩⟩⟩⟩⟩⟩⟩
theorem lw_p16 : lw_okq (⟨"StripFlag$Cuts", "addWeak", "(II)V"⟩, 3) := ⟨⟨by decide +kernel, by decide +kernel⟩, List.mem_of_getElem? (i := 100) (by decide +kernel), List.mem_of_getElem? (i := 625) (by decide +kernel), List.mem_of_getElem? (i := 626) (by decide +kernel)⟩
theorem lw_p17 : lw_okq (⟨"StripFlag$Cuts", "isHeld", "(I)Z"⟩, 3) := ⟨⟨by decide +kernel, by decide +kernel⟩, List.mem_of_getElem? (i := 100) (by decide +kernel), List.mem_of_getElem? (i := 637) (by decide +kernel), List.mem_of_getElem? (i := 638) (by decide +kernel)⟩
theorem lw_p18 : lw_okq (⟨"StripFlag$Cuts", "isMended", "(II)Z"⟩, 3) := ⟨⟨by decide +kernel, by decide +kernel⟩, List.mem_of_getElem? (i := 100) (by decide +kernel), List.mem_of_getElem? (i := 654) (by decide +kernel), List.mem_of_getElem? (i := 655) (by decide +kernel)⟩
theorem lw_p19 : lw_okq (⟨"StripFlag$Turns", "worthAtEnd", "(LStripFlag$Plan;II)I"⟩, 6) := ⟨⟨by decide +kernel, by decide +kernel⟩, List.mem_of_getElem? (i := 130) (by decide +kernel), List.mem_of_getElem? (i := 690) (by decide +kernel), List.mem_of_getElem? (i := 691) (by decide +kernel)⟩
theorem lw_p20 : lw_okq (⟨"StripFlag$Turns", "mover", "(I)I"⟩, 6) := ⟨⟨by decide +kernel, by decide +kernel⟩, List.mem_of_getElem? (i := 130) (by decide +kernel), List.mem_of_getElem? (i := 695) (by decide +kernel), List.mem_of_getElem? (i := 696) (by decide +kernel)⟩
theorem lw_p21 : lw_okq (⟨"StripFlag$Painter", "look", "(LStripFlag$Plan;I)V"⟩, 7) := ⟨⟨by decide +kernel, by decide +kernel⟩, List.mem_of_getElem? (i := 157) (by decide +kernel), List.mem_of_getElem? (i := 713) (by decide +kernel), List.mem_of_getElem? (i := 714) (by decide +kernel)⟩
theorem lw_p22 : lw_okq (⟨"StripFlag$Painter", "take", "(I)V"⟩, 7) := ⟨⟨by decide +kernel, by decide +kernel⟩, List.mem_of_getElem? (i := 157) (by decide +kernel), List.mem_of_getElem? (i := 729) (by decide +kernel), List.mem_of_getElem? (i := 730) (by decide +kernel)⟩
theorem lw_p23 : lw_okq (⟨"StripFlag$Painter", "usedNear", "(I)I"⟩, 7) := ⟨⟨by decide +kernel, by decide +kernel⟩, List.mem_of_getElem? (i := 157) (by decide +kernel), List.mem_of_getElem? (i := 735) (by decide +kernel), List.mem_of_getElem? (i := 736) (by decide +kernel)⟩
theorem lw_p24 : lw_okq (⟨"StripFlagModel", "isEnd", "()Z"⟩, 40) := ⟨⟨by decide +kernel, by decide +kernel⟩, List.mem_of_getElem? (i := 814) (by decide +kernel), List.mem_of_getElem? (i := 957) (by decide +kernel), List.mem_of_getElem? (i := 958) (by decide +kernel)⟩
theorem lw_p25 : lw_okq (⟨"StripFlagModel", "here", "()I"⟩, 40) := ⟨⟨by decide +kernel, by decide +kernel⟩, List.mem_of_getElem? (i := 814) (by decide +kernel), List.mem_of_getElem? (i := 961) (by decide +kernel), List.mem_of_getElem? (i := 962) (by decide +kernel)⟩
theorem lw_p26 : lw_okq (⟨"StripFlagModel", "readClause", "(Z)V"⟩, 40) := ⟨⟨by decide +kernel, by decide +kernel⟩, List.mem_of_getElem? (i := 814) (by decide +kernel), List.mem_of_getElem? (i := 965) (by decide +kernel), List.mem_of_getElem? (i := 966) (by decide +kernel)⟩
theorem lw_p27 : lw_okq (⟨"StripFlagModel", "word", "()I"⟩, 40) := ⟨⟨by decide +kernel, by decide +kernel⟩, List.mem_of_getElem? (i := 814) (by decide +kernel), List.mem_of_getElem? (i := 969) (by decide +kernel), List.mem_of_getElem? (i := 970) (by decide +kernel)⟩
theorem lw_p28 : lw_okq (⟨"StripFlagModel", "fails", "(II)V"⟩, 40) := ⟨⟨by decide +kernel, by decide +kernel⟩, List.mem_of_getElem? (i := 814) (by decide +kernel), List.mem_of_getElem? (i := 985) (by decide +kernel), List.mem_of_getElem? (i := 986) (by decide +kernel)⟩
theorem lw_p29 : lw_okq (⟨"StripFlagModel", "readColours", "()V"⟩, 40) := ⟨⟨by decide +kernel, by decide +kernel⟩, List.mem_of_getElem? (i := 814) (by decide +kernel), List.mem_of_getElem? (i := 989) (by decide +kernel), List.mem_of_getElem? (i := 990) (by decide +kernel)⟩
theorem lw_p30 : lw_okq (⟨"StripFlagModel", "number", "(II)I"⟩, 40) := ⟨⟨by decide +kernel, by decide +kernel⟩, List.mem_of_getElem? (i := 814) (by decide +kernel), List.mem_of_getElem? (i := 993) (by decide +kernel), List.mem_of_getElem? (i := 994) (by decide +kernel)⟩
theorem lw_p31 : lw_okq (⟨"StripFlagModel", "must", "(I)V"⟩, 40) := ⟨⟨by decide +kernel, by decide +kernel⟩, List.mem_of_getElem? (i := 814) (by decide +kernel), List.mem_of_getElem? (i := 1002) (by decide +kernel), List.mem_of_getElem? (i := 1003) (by decide +kernel)⟩
def lw_privs_2 : List (MethodName × Nat) := [(⟨"StripFlag$Cuts", "addWeak", "(II)V"⟩, 3), (⟨"StripFlag$Cuts", "isHeld", "(I)Z"⟩, 3), (⟨"StripFlag$Cuts", "isMended", "(II)Z"⟩, 3), (⟨"StripFlag$Turns", "worthAtEnd", "(LStripFlag$Plan;II)I"⟩, 6), (⟨"StripFlag$Turns", "mover", "(I)I"⟩, 6), (⟨"StripFlag$Painter", "look", "(LStripFlag$Plan;I)V"⟩, 7), (⟨"StripFlag$Painter", "take", "(I)V"⟩, 7), (⟨"StripFlag$Painter", "usedNear", "(I)I"⟩, 7), (⟨"StripFlagModel", "isEnd", "()Z"⟩, 40), (⟨"StripFlagModel", "here", "()I"⟩, 40), (⟨"StripFlagModel", "readClause", "(Z)V"⟩, 40), (⟨"StripFlagModel", "word", "()I"⟩, 40), (⟨"StripFlagModel", "fails", "(II)V"⟩, 40), (⟨"StripFlagModel", "readColours", "()V"⟩, 40), (⟨"StripFlagModel", "number", "(II)I"⟩, 40), (⟨"StripFlagModel", "must", "(I)V"⟩, 40)]
theorem lw_r2 : ∀ q ∈ lw_privs_2, lw_okq q := List.forall_mem_cons.mpr ⟨lw_p16, List.forall_mem_cons.mpr ⟨lw_p17, List.forall_mem_cons.mpr ⟨lw_p18, List.forall_mem_cons.mpr ⟨lw_p19, List.forall_mem_cons.mpr ⟨lw_p20, List.forall_mem_cons.mpr ⟨lw_p21, List.forall_mem_cons.mpr ⟨lw_p22, List.forall_mem_cons.mpr ⟨lw_p23, List.forall_mem_cons.mpr ⟨lw_p24, List.forall_mem_cons.mpr ⟨lw_p25, List.forall_mem_cons.mpr ⟨lw_p26, List.forall_mem_cons.mpr ⟨lw_p27, List.forall_mem_cons.mpr ⟨lw_p28, List.forall_mem_cons.mpr ⟨lw_p29, List.forall_mem_cons.mpr ⟨lw_p30, List.forall_mem_cons.mpr ⟨lw_p31, fun _ h => absurd h List.not_mem_nil⟩⟩⟩⟩⟩⟩⟩⟩⟩⟩⟩⟩⟩⟩⟩⟩
theorem lw_p32 : lw_okq (⟨"StripFlagModel", "readSeam", "(II)V"⟩, 40) := ⟨⟨by decide +kernel, by decide +kernel⟩, List.mem_of_getElem? (i := 814) (by decide +kernel), List.mem_of_getElem? (i := 1006) (by decide +kernel), List.mem_of_getElem? (i := 1007) (by decide +kernel)⟩
theorem lw_p33 : lw_okq (⟨"StripFlagModel", "takes", "()V"⟩, 40) := ⟨⟨by decide +kernel, by decide +kernel⟩, List.mem_of_getElem? (i := 814) (by decide +kernel), List.mem_of_getElem? (i := 1010) (by decide +kernel), List.mem_of_getElem? (i := 1011) (by decide +kernel)⟩
theorem lw_p34 : lw_okq (⟨"StripFlagModel", "there", "(I)I"⟩, 40) := ⟨⟨by decide +kernel, by decide +kernel⟩, List.mem_of_getElem? (i := 814) (by decide +kernel), List.mem_of_getElem? (i := 1022) (by decide +kernel), List.mem_of_getElem? (i := 1023) (by decide +kernel)⟩
theorem lw_p35 : lw_okq (⟨"StripFlagModel", "isSeam", "(I)Z"⟩, 40) := ⟨⟨by decide +kernel, by decide +kernel⟩, List.mem_of_getElem? (i := 814) (by decide +kernel), List.mem_of_getElem? (i := 1030) (by decide +kernel), List.mem_of_getElem? (i := 1031) (by decide +kernel)⟩
theorem lw_p36 : lw_okq (⟨"StripFlagModel", "isStrip", "(I)Z"⟩, 40) := ⟨⟨by decide +kernel, by decide +kernel⟩, List.mem_of_getElem? (i := 814) (by decide +kernel), List.mem_of_getElem? (i := 1040) (by decide +kernel), List.mem_of_getElem? (i := 1041) (by decide +kernel)⟩
theorem lw_p37 : lw_okq (⟨"StripFlagModel", "seamsOf", "(II)I"⟩, 40) := ⟨⟨by decide +kernel, by decide +kernel⟩, List.mem_of_getElem? (i := 814) (by decide +kernel), List.mem_of_getElem? (i := 1044) (by decide +kernel), List.mem_of_getElem? (i := 1045) (by decide +kernel)⟩
theorem lw_p38 : lw_okq (⟨"StripFlagModel", "isOn", "(II)Z"⟩, 40) := ⟨⟨by decide +kernel, by decide +kernel⟩, List.mem_of_getElem? (i := 814) (by decide +kernel), List.mem_of_getElem? (i := 1048) (by decide +kernel), List.mem_of_getElem? (i := 1049) (by decide +kernel)⟩
theorem lw_p39 : lw_okq (⟨"StripFlagModel", "borders", "(II)I"⟩, 40) := ⟨⟨by decide +kernel, by decide +kernel⟩, List.mem_of_getElem? (i := 814) (by decide +kernel), List.mem_of_getElem? (i := 1052) (by decide +kernel), List.mem_of_getElem? (i := 1053) (by decide +kernel)⟩
theorem lw_p40 : lw_okq (⟨"StripFlagModel", "flying", "(I)I"⟩, 40) := ⟨⟨by decide +kernel, by decide +kernel⟩, List.mem_of_getElem? (i := 814) (by decide +kernel), List.mem_of_getElem? (i := 1061) (by decide +kernel), List.mem_of_getElem? (i := 1062) (by decide +kernel)⟩
theorem lw_p41 : lw_okq (⟨"StripFlagModel", "mayUnpick", "(IIII)Z"⟩, 40) := ⟨⟨by decide +kernel, by decide +kernel⟩, List.mem_of_getElem? (i := 814) (by decide +kernel), List.mem_of_getElem? (i := 1069) (by decide +kernel), List.mem_of_getElem? (i := 1070) (by decide +kernel)⟩
theorem lw_p42 : lw_okq (⟨"StripFlagModel", "frays", "(I)I"⟩, 40) := ⟨⟨by decide +kernel, by decide +kernel⟩, List.mem_of_getElem? (i := 814) (by decide +kernel), List.mem_of_getElem? (i := 1089) (by decide +kernel), List.mem_of_getElem? (i := 1090) (by decide +kernel)⟩
theorem lw_p43 : lw_okq (⟨"StripFlagModel", "draws", "(I)I"⟩, 40) := ⟨⟨by decide +kernel, by decide +kernel⟩, List.mem_of_getElem? (i := 814) (by decide +kernel), List.mem_of_getElem? (i := 1102) (by decide +kernel), List.mem_of_getElem? (i := 1103) (by decide +kernel)⟩
theorem lw_p44 : lw_okq (⟨"StripFlagModel", "areStrips", "(I)Z"⟩, 40) := ⟨⟨by decide +kernel, by decide +kernel⟩, List.mem_of_getElem? (i := 814) (by decide +kernel), List.mem_of_getElem? (i := 1122) (by decide +kernel), List.mem_of_getElem? (i := 1123) (by decide +kernel)⟩
theorem lw_p45 : lw_okq (⟨"StripFlagModel", "doLast", "(IIII)Z"⟩, 40) := ⟨⟨by decide +kernel, by decide +kernel⟩, List.mem_of_getElem? (i := 814) (by decide +kernel), List.mem_of_getElem? (i := 1126) (by decide +kernel), List.mem_of_getElem? (i := 1127) (by decide +kernel)⟩
theorem lw_p46 : lw_okq (⟨"StripFlagModel", "plays", "(III)I"⟩, 40) := ⟨⟨by decide +kernel, by decide +kernel⟩, List.mem_of_getElem? (i := 814) (by decide +kernel), List.mem_of_getElem? (i := 1150) (by decide +kernel), List.mem_of_getElem? (i := 1151) (by decide +kernel)⟩
theorem lw_p47 : lw_okq (⟨"StripFlagModel", "opens", "(II)V"⟩, 40) := ⟨⟨by decide +kernel, by decide +kernel⟩, List.mem_of_getElem? (i := 814) (by decide +kernel), List.mem_of_getElem? (i := 1154) (by decide +kernel), List.mem_of_getElem? (i := 1155) (by decide +kernel)⟩
def lw_privs_3 : List (MethodName × Nat) := [(⟨"StripFlagModel", "readSeam", "(II)V"⟩, 40), (⟨"StripFlagModel", "takes", "()V"⟩, 40), (⟨"StripFlagModel", "there", "(I)I"⟩, 40), (⟨"StripFlagModel", "isSeam", "(I)Z"⟩, 40), (⟨"StripFlagModel", "isStrip", "(I)Z"⟩, 40), (⟨"StripFlagModel", "seamsOf", "(II)I"⟩, 40), (⟨"StripFlagModel", "isOn", "(II)Z"⟩, 40), (⟨"StripFlagModel", "borders", "(II)I"⟩, 40), (⟨"StripFlagModel", "flying", "(I)I"⟩, 40), (⟨"StripFlagModel", "mayUnpick", "(IIII)Z"⟩, 40), (⟨"StripFlagModel", "frays", "(I)I"⟩, 40), (⟨"StripFlagModel", "draws", "(I)I"⟩, 40), (⟨"StripFlagModel", "areStrips", "(I)Z"⟩, 40), (⟨"StripFlagModel", "doLast", "(IIII)Z"⟩, 40), (⟨"StripFlagModel", "plays", "(III)I"⟩, 40), (⟨"StripFlagModel", "opens", "(II)V"⟩, 40)]
theorem lw_r3 : ∀ q ∈ lw_privs_3, lw_okq q := List.forall_mem_cons.mpr ⟨lw_p32, List.forall_mem_cons.mpr ⟨lw_p33, List.forall_mem_cons.mpr ⟨lw_p34, List.forall_mem_cons.mpr ⟨lw_p35, List.forall_mem_cons.mpr ⟨lw_p36, List.forall_mem_cons.mpr ⟨lw_p37, List.forall_mem_cons.mpr ⟨lw_p38, List.forall_mem_cons.mpr ⟨lw_p39, List.forall_mem_cons.mpr ⟨lw_p40, List.forall_mem_cons.mpr ⟨lw_p41, List.forall_mem_cons.mpr ⟨lw_p42, List.forall_mem_cons.mpr ⟨lw_p43, List.forall_mem_cons.mpr ⟨lw_p44, List.forall_mem_cons.mpr ⟨lw_p45, List.forall_mem_cons.mpr ⟨lw_p46, List.forall_mem_cons.mpr ⟨lw_p47, fun _ h => absurd h List.not_mem_nil⟩⟩⟩⟩⟩⟩⟩⟩⟩⟩⟩⟩⟩⟩⟩⟩
theorem lw_p48 : lw_okq (⟨"StripFlagModel", "worth", "(III)I"⟩, 40) := ⟨⟨by decide +kernel, by decide +kernel⟩, List.mem_of_getElem? (i := 814) (by decide +kernel), List.mem_of_getElem? (i := 1158) (by decide +kernel), List.mem_of_getElem? (i := 1159) (by decide +kernel)⟩
theorem lw_p49 : lw_okq (⟨"StripFlagModel", "rows", "(Z)I"⟩, 40) := ⟨⟨by decide +kernel, by decide +kernel⟩, List.mem_of_getElem? (i := 814) (by decide +kernel), List.mem_of_getElem? (i := 1166) (by decide +kernel), List.mem_of_getElem? (i := 1167) (by decide +kernel)⟩
theorem lw_p50 : lw_okq (⟨"StripFlagModel", "isApart", "(I)Z"⟩, 40) := ⟨⟨by decide +kernel, by decide +kernel⟩, List.mem_of_getElem? (i := 814) (by decide +kernel), List.mem_of_getElem? (i := 1170) (by decide +kernel), List.mem_of_getElem? (i := 1171) (by decide +kernel)⟩
def lw_privs_4 : List (MethodName × Nat) := [(⟨"StripFlagModel", "worth", "(III)I"⟩, 40), (⟨"StripFlagModel", "rows", "(Z)I"⟩, 40), (⟨"StripFlagModel", "isApart", "(I)Z"⟩, 40)]
theorem lw_r4 : ∀ q ∈ lw_privs_4, lw_okq q := List.forall_mem_cons.mpr ⟨lw_p48, List.forall_mem_cons.mpr ⟨lw_p49, List.forall_mem_cons.mpr ⟨lw_p50, fun _ h => absurd h List.not_mem_nil⟩⟩⟩
def lw_privs : List (MethodName × Nat) := lw_privs_1 ++ (lw_privs_2 ++ (lw_privs_3 ++ (lw_privs_4)))
def lw_tbl : List Cond := k2_sels lw_privs ++ tables_1
theorem lw_privs_ok : ∀ q ∈ lw_privs, lw_okq q := by
  show ∀ q ∈ lw_privs_1 ++ (lw_privs_2 ++ (lw_privs_3 ++ (lw_privs_4))), lw_okq q
  exact List.forall_mem_append.mpr ⟨lw_r1, List.forall_mem_append.mpr ⟨lw_r2, List.forall_mem_append.mpr ⟨lw_r3, lw_r4⟩⟩⟩
def RX0 : String := "StripFlag$Book"
def TX0 : u_T := fun k => match k with
  | 0 => ("StripFlag$Book", "strips", "[I", true)
  | 1 => ("StripFlag$Book", "seams", "[I", true)
  | _ => ("StripFlag$Book", "count", "I", false)
def tyX0 : Nat → FieldType := fun k => match k with
  | 0 => .array .int
  | 1 => .array .int
  | _ => .int
abbrev wsX00 : List Cond := u_ws RX0 TX0 3
theorem nmX0 : ∀ a, a < 3 → ∀ b, b < 3 → a ≠ b → (TX0 a).2.1 ≠ (TX0 b).2.1 := by decide +kernel
theorem tyX0_ok : ∀ k, k < 3 → parseFieldDescriptor (TX0 k).2.2.1 = some (tyX0 k) := by decide +kernel
abbrev cX0_init : ByteArray := prog_2_method_1_code
def yX0_init : MethodName := ⟨RX0, "<init>", "()V"⟩
abbrev cX0_add : ByteArray := prog_2_method_2_code
def yX0_add : MethodName := ⟨RX0, "add", "(II)V"⟩
abbrev cX0_firstWrong : ByteArray := prog_2_method_3_code
def yX0_firstWrong : MethodName := ⟨RX0, "firstWrong", "(LStripFlag$Plan;LStripFlag$Cloth;)I"⟩
def RX1 : String := "StripFlag$Cloth"
def TX1 : u_T := fun k => match k with
  | 0 => ("StripFlag$Cloth", "strengths", "[I", true)
  | 1 => ("StripFlag$Cloth", "colours", "[I", true)
  | 2 => ("StripFlag$Cloth", "hems", "I", false)
  | _ => ("StripFlag$Cloth", "seed", "I", false)
def tyX1 : Nat → FieldType := fun k => match k with
  | 0 => .array .int
  | 1 => .array .int
  | 2 => .int
  | _ => .int
abbrev wsX10 : List Cond := u_ws RX1 TX1 4
theorem nmX1 : ∀ a, a < 4 → ∀ b, b < 4 → a ≠ b → (TX1 a).2.1 ≠ (TX1 b).2.1 := by decide +kernel
theorem tyX1_ok : ∀ k, k < 4 → parseFieldDescriptor (TX1 k).2.2.1 = some (tyX1 k) := by decide +kernel
abbrev cX1_init : ByteArray := prog_3_method_1_code
def yX1_init : MethodName := ⟨RX1, "<init>", "()V"⟩
abbrev cX1_begin : ByteArray := prog_3_method_2_code
def yX1_begin : MethodName := ⟨RX1, "begin", "(LStripFlag$Plan;)V"⟩
abbrev cX1_copy : ByteArray := prog_3_method_3_code
def yX1_copy : MethodName := ⟨RX1, "copy", "(LStripFlag$Cloth;)V"⟩
abbrev cX1_sewn : ByteArray := prog_3_method_4_code
def yX1_sewn : MethodName := ⟨RX1, "sewn", "()I"⟩
abbrev cX1_holding : ByteArray := prog_3_method_5_code
def yX1_holding : MethodName := ⟨RX1, "holding", "(I)I"⟩
abbrev cX1_cost : ByteArray := prog_3_method_6_code
def yX1_cost : MethodName := ⟨RX1, "cost", "(LStripFlag$Plan;)I"⟩
abbrev cX1_frayEnds : ByteArray := prog_3_method_7_code
def yX1_frayEnds : MethodName := ⟨RX1, "frayEnds", "(LStripFlag$Plan;I)I"⟩
abbrev cX1_looseSeams : ByteArray := prog_3_method_8_code
def yX1_looseSeams : MethodName := ⟨RX1, "looseSeams", "(LStripFlag$Plan;)I"⟩
abbrev cX1_passYear : ByteArray := prog_3_method_9_code
def yX1_passYear : MethodName := ⟨RX1, "passYear", "(LStripFlag$Plan;)V"⟩
abbrev cX1_tryUnpick : ByteArray := prog_3_method_10_code
def yX1_tryUnpick : MethodName := ⟨RX1, "tryUnpick", "(LStripFlag$Plan;II)V"⟩
abbrev cX1_draw : ByteArray := prog_3_method_11_code
def yX1_draw : MethodName := ⟨RX1, "draw", "(I)I"⟩
def RX2 : String := "StripFlag$Cuts"
def TX2 : u_T := fun k => match k with
  | 0 => ("StripFlag$Cuts", "weak", "[I", true)
  | 1 => ("StripFlag$Cuts", "helps", "[I", true)
  | _ => ("StripFlag$Cuts", "count", "I", false)
def tyX2 : Nat → FieldType := fun k => match k with
  | 0 => .array .int
  | 1 => .array .int
  | _ => .int
abbrev wsX20 : List Cond := u_ws RX2 TX2 3
theorem nmX2 : ∀ a, a < 3 → ∀ b, b < 3 → a ≠ b → (TX2 a).2.1 ≠ (TX2 b).2.1 := by decide +kernel
theorem tyX2_ok : ∀ k, k < 3 → parseFieldDescriptor (TX2 k).2.2.1 = some (tyX2 k) := by decide +kernel
abbrev cX2_init : ByteArray := prog_4_method_1_code
def yX2_init : MethodName := ⟨RX2, "<init>", "()V"⟩
abbrev cX2_fewestSeams : ByteArray := prog_4_method_2_code
def yX2_fewestSeams : MethodName := ⟨RX2, "fewestSeams", "(LStripFlag$Plan;II)I"⟩
abbrev cX2_lesser : ByteArray := prog_4_method_3_code
def yX2_lesser : MethodName := ⟨RX2, "lesser", "(II)I"⟩
abbrev cX2_findWeak : ByteArray := prog_4_method_4_code
def yX2_findWeak : MethodName := ⟨RX2, "findWeak", "(LStripFlag$Plan;LStripFlag$Cloth;II)V"⟩
abbrev cX2_addWeak : ByteArray := prog_4_method_5_code
def yX2_addWeak : MethodName := ⟨RX2, "addWeak", "(II)V"⟩
abbrev cX2_fewestHems : ByteArray := prog_4_method_6_code
def yX2_fewestHems : MethodName := ⟨RX2, "fewestHems", "(I)I"⟩
abbrev cX2_isHeld : ByteArray := prog_4_method_7_code
def yX2_isHeld : MethodName := ⟨RX2, "isHeld", "(I)Z"⟩
abbrev cX2_leastThread : ByteArray := prog_4_method_8_code
def yX2_leastThread : MethodName := ⟨RX2, "leastThread", "(LStripFlag$Plan;I)I"⟩
abbrev cX2_isMended : ByteArray := prog_4_method_9_code
def yX2_isMended : MethodName := ⟨RX2, "isMended", "(II)Z"⟩
def RX3 : String := "StripFlag$Painter"
def TX3 : u_T := fun k => match k with
  | 0 => ("StripFlag$Painter", "found", "Z", false)
  | 1 => ("StripFlag$Painter", "leastSum", "I", false)
  | 2 => ("StripFlag$Painter", "best", "[I", true)
  | 3 => ("StripFlag$Painter", "near", "[I", true)
  | 4 => ("StripFlag$Painter", "open", "[I", true)
  | 5 => ("StripFlag$Painter", "chosen", "[I", true)
  | _ => ("StripFlag$Painter", "cheapest", "I", false)
def tyX3 : Nat → FieldType := fun k => match k with
  | 0 => .boolean
  | 1 => .int
  | 2 => .array .int
  | 3 => .array .int
  | 4 => .array .int
  | 5 => .array .int
  | _ => .int
abbrev wsX30 : List Cond := u_ws RX3 TX3 7
theorem nmX3 : ∀ a, a < 7 → ∀ b, b < 7 → a ≠ b → (TX3 a).2.1 ≠ (TX3 b).2.1 := by decide +kernel
theorem tyX3_ok : ∀ k, k < 7 → parseFieldDescriptor (TX3 k).2.2.1 = some (tyX3 k) := by decide +kernel
abbrev cX3_init : ByteArray := prog_5_method_1_code
def yX3_init : MethodName := ⟨RX3, "<init>", "()V"⟩
abbrev cX3_look : ByteArray := prog_5_method_2_code
def yX3_look : MethodName := ⟨RX3, "look", "(LStripFlag$Plan;I)V"⟩
abbrev cX3_paintAnew : ByteArray := prog_5_method_3_code
def yX3_paintAnew : MethodName := ⟨RX3, "paintAnew", "(LStripFlag$Plan;I)V"⟩
abbrev cX3_paintFrom : ByteArray := prog_5_method_4_code
def yX3_paintFrom : MethodName := ⟨RX3, "paintFrom", "(LStripFlag$Painter;LStripFlag$Plan;II)V"⟩
abbrev cX3_take : ByteArray := prog_5_method_5_code
def yX3_take : MethodName := ⟨RX3, "take", "(I)V"⟩
abbrev cX3_usedNear : ByteArray := prog_5_method_6_code
def yX3_usedNear : MethodName := ⟨RX3, "usedNear", "(I)I"⟩
abbrev cX3_lookBack : ByteArray := prog_5_method_7_code
def yX3_lookBack : MethodName := ⟨RX3, "lookBack", "(LStripFlag$Plan;I[I)V"⟩
abbrev cX3_waysFrom : ByteArray := prog_5_method_8_code
def yX3_waysFrom : MethodName := ⟨RX3, "waysFrom", "(LStripFlag$Painter;LStripFlag$Plan;I)I"⟩
abbrev cX3_ways : ByteArray := prog_5_method_9_code
def yX3_ways : MethodName := ⟨RX3, "ways", "(LStripFlag$Plan;)I"⟩
abbrev cX3_onlyColour : ByteArray := prog_5_method_10_code
def yX3_onlyColour : MethodName := ⟨RX3, "onlyColour", "(LStripFlag$Plan;I)I"⟩
def RX4 : String := "StripFlag$Plan"
def TX4 : u_T := fun k => match k with
  | 0 => ("StripFlag$Plan", "prices", "[I", true)
  | 1 => ("StripFlag$Plan", "dyes", "[I", true)
  | 2 => ("StripFlag$Plan", "from", "[I", true)
  | 3 => ("StripFlag$Plan", "to", "[I", true)
  | 4 => ("StripFlag$Plan", "strengths", "[I", true)
  | 5 => ("StripFlag$Plan", "ends", "[I", true)
  | 6 => ("StripFlag$Plan", "couldEnds", "[I", true)
  | 7 => ("StripFlag$Plan", "threads", "[I", true)
  | 8 => ("StripFlag$Plan", "colours", "I", false)
  | 9 => ("StripFlag$Plan", "strips", "I", false)
  | 10 => ("StripFlag$Plan", "seams", "I", false)
  | _ => ("StripFlag$Plan", "coulds", "I", false)
def tyX4 : Nat → FieldType := fun k => match k with
  | 0 => .array .int
  | 1 => .array .int
  | 2 => .array .int
  | 3 => .array .int
  | 4 => .array .int
  | 5 => .array .int
  | 6 => .array .int
  | 7 => .array .int
  | 8 => .int
  | 9 => .int
  | 10 => .int
  | _ => .int
abbrev wsX40 : List Cond := u_ws RX4 TX4 12
theorem nmX4 : ∀ a, a < 12 → ∀ b, b < 12 → a ≠ b → (TX4 a).2.1 ≠ (TX4 b).2.1 := by decide +kernel
theorem tyX4_ok : ∀ k, k < 12 → parseFieldDescriptor (TX4 k).2.2.1 = some (tyX4 k) := by decide +kernel
abbrev cX4_init : ByteArray := prog_6_method_1_code
def yX4_init : MethodName := ⟨RX4, "<init>", "()V"⟩
abbrev cX4_clear : ByteArray := prog_6_method_2_code
def yX4_clear : MethodName := ⟨RX4, "clear", "()V"⟩
abbrev cX4_addColour : ByteArray := prog_6_method_3_code
def yX4_addColour : MethodName := ⟨RX4, "addColour", "(I)V"⟩
abbrev cX4_addStrip : ByteArray := prog_6_method_4_code
def yX4_addStrip : MethodName := ⟨RX4, "addStrip", "(I)V"⟩
abbrev cX4_addSeam : ByteArray := prog_6_method_5_code
def yX4_addSeam : MethodName := ⟨RX4, "addSeam", "(III)V"⟩
abbrev cX4_addCould : ByteArray := prog_6_method_6_code
def yX4_addCould : MethodName := ⟨RX4, "addCould", "(III)V"⟩
abbrev cX4_hasStrip : ByteArray := prog_6_method_7_code
def yX4_hasStrip : MethodName := ⟨RX4, "hasStrip", "(I)Z"⟩
abbrev cX4_hasSeam : ByteArray := prog_6_method_8_code
def yX4_hasSeam : MethodName := ⟨RX4, "hasSeam", "(I)Z"⟩
abbrev cX4_hasColour : ByteArray := prog_6_method_9_code
def yX4_hasColour : MethodName := ⟨RX4, "hasColour", "(I)Z"⟩
abbrev cX4_hasStrips : ByteArray := prog_6_method_10_code
def yX4_hasStrips : MethodName := ⟨RX4, "hasStrips", "(I)Z"⟩
abbrev cX4_hasColours : ByteArray := prog_6_method_11_code
def yX4_hasColours : MethodName := ⟨RX4, "hasColours", "(I)Z"⟩
abbrev cX4_allStrips : ByteArray := prog_6_method_12_code
def yX4_allStrips : MethodName := ⟨RX4, "allStrips", "()I"⟩
abbrev cX4_allColours : ByteArray := prog_6_method_13_code
def yX4_allColours : MethodName := ⟨RX4, "allColours", "()I"⟩
abbrev cX4_priceOf : ByteArray := prog_6_method_14_code
def yX4_priceOf : MethodName := ⟨RX4, "priceOf", "(I)I"⟩
abbrev cX4_cheapest : ByteArray := prog_6_method_15_code
def yX4_cheapest : MethodName := ⟨RX4, "cheapest", "()I"⟩
abbrev cX4_threadOf : ByteArray := prog_6_method_16_code
def yX4_threadOf : MethodName := ⟨RX4, "threadOf", "(I)I"⟩
abbrev cX4_crossing : ByteArray := prog_6_method_17_code
def yX4_crossing : MethodName := ⟨RX4, "crossing", "(II)I"⟩
abbrev cX4_couldsCrossing : ByteArray := prog_6_method_18_code
def yX4_couldsCrossing : MethodName := ⟨RX4, "couldsCrossing", "(I)I"⟩
abbrev cX4_seamsOf : ByteArray := prog_6_method_19_code
def yX4_seamsOf : MethodName := ⟨RX4, "seamsOf", "(II)I"⟩
abbrev cX4_bordering : ByteArray := prog_6_method_20_code
def yX4_bordering : MethodName := ⟨RX4, "bordering", "(II)I"⟩
abbrev cX4_unpickable : ByteArray := prog_6_method_21_code
def yX4_unpickable : MethodName := ⟨RX4, "unpickable", "(III)I"⟩
abbrev cX4_flying : ByteArray := prog_6_method_22_code
def yX4_flying : MethodName := ⟨RX4, "flying", "(I)I"⟩
abbrev cX4_spread : ByteArray := prog_6_method_23_code
def yX4_spread : MethodName := ⟨RX4, "spread", "(II)I"⟩
def RX5 : String := "StripFlag$Text"
def TX5 : u_T := fun k => match k with
  | 0 => ("StripFlag$Text", "signs", "[B", true)
  | 1 => ("StripFlag$Text", "length", "I", false)
  | 2 => ("StripFlag$Text", "fault", "I", false)
  | 3 => ("StripFlag$Text", "place", "I", false)
  | 4 => ("StripFlag$Text", "at", "I", false)
  | _ => ("StripFlag$Text", "numberAt", "I", false)
def tyX5 : Nat → FieldType := fun k => match k with
  | 0 => .array .byte
  | 1 => .int
  | 2 => .int
  | 3 => .int
  | 4 => .int
  | _ => .int
abbrev wsX50 : List Cond := u_ws RX5 TX5 6
theorem nmX5 : ∀ a, a < 6 → ∀ b, b < 6 → a ≠ b → (TX5 a).2.1 ≠ (TX5 b).2.1 := by decide +kernel
theorem tyX5_ok : ∀ k, k < 6 → parseFieldDescriptor (TX5 k).2.2.1 = some (tyX5 k) := by decide +kernel
abbrev cX5_init : ByteArray := prog_7_method_1_code
def yX5_init : MethodName := ⟨RX5, "<init>", "()V"⟩
abbrev cX5_hasRoom : ByteArray := prog_7_method_2_code
def yX5_hasRoom : MethodName := ⟨RX5, "hasRoom", "(I)Z"⟩
abbrev cX5_add : ByteArray := prog_7_method_3_code
def yX5_add : MethodName := ⟨RX5, "add", "(IJ)V"⟩
abbrev cX5_read : ByteArray := prog_7_method_4_code
def yX5_read : MethodName := ⟨RX5, "read", "(LStripFlag$Plan;)V"⟩
abbrev cX5_readClause : ByteArray := prog_7_method_5_code
def yX5_readClause : MethodName := ⟨RX5, "readClause", "(LStripFlag$Plan;)V"⟩
abbrev cX5_isTooMany : ByteArray := prog_7_method_6_code
def yX5_isTooMany : MethodName := ⟨RX5, "isTooMany", "(LStripFlag$Plan;I)Z"⟩
abbrev cX5_readColours : ByteArray := prog_7_method_7_code
def yX5_readColours : MethodName := ⟨RX5, "readColours", "(LStripFlag$Plan;)V"⟩
abbrev cX5_readNumbers : ByteArray := prog_7_method_8_code
def yX5_readNumbers : MethodName := ⟨RX5, "readNumbers", "(LStripFlag$Plan;I)V"⟩
abbrev cX5_addTold : ByteArray := prog_7_method_9_code
def yX5_addTold : MethodName := ⟨RX5, "addTold", "(LStripFlag$Plan;IIII)V"⟩
abbrev cX5_readEnd : ByteArray := prog_7_method_10_code
def yX5_readEnd : MethodName := ⟨RX5, "readEnd", "()V"⟩
abbrev cX5_readNumber : ByteArray := prog_7_method_11_code
def yX5_readNumber : MethodName := ⟨RX5, "readNumber", "(II)I"⟩
abbrev cX5_readWord : ByteArray := prog_7_method_12_code
def yX5_readWord : MethodName := ⟨RX5, "readWord", "()I"⟩
abbrev cX5_isWord : ByteArray := prog_7_method_13_code
def yX5_isWord : MethodName := ⟨RX5, "isWord", "(ILjava/lang/String;)Z"⟩
abbrev cX5_endOfRun : ByteArray := prog_7_method_14_code
def yX5_endOfRun : MethodName := ⟨RX5, "endOfRun", "(II)I"⟩
abbrev cX5_skipBlanks : ByteArray := prog_7_method_15_code
def yX5_skipBlanks : MethodName := ⟨RX5, "skipBlanks", "()V"⟩
abbrev cX5_sign : ByteArray := prog_7_method_16_code
def yX5_sign : MethodName := ⟨RX5, "sign", "()I"⟩
abbrev cX5_signAt : ByteArray := prog_7_method_17_code
def yX5_signAt : MethodName := ⟨RX5, "signAt", "(I)I"⟩
abbrev cX5_fail : ByteArray := prog_7_method_18_code
def yX5_fail : MethodName := ⟨RX5, "fail", "(II)V"⟩
def RX6 : String := "StripFlag$Turns"
def TX6 : u_T := fun k => match k with
  | 0 => ("StripFlag$Turns", "worth", "I", false)
  | 1 => ("StripFlag$Turns", "taken", "I", false)
  | 2 => ("StripFlag$Turns", "first", "I", false)
  | 3 => ("StripFlag$Turns", "second", "I", false)
  | 4 => ("StripFlag$Turns", "turns", "I", false)
  | _ => ("StripFlag$Turns", "hems", "I", false)
def tyX6 : Nat → FieldType := fun k => match k with
  | 0 => .int
  | 1 => .int
  | 2 => .int
  | 3 => .int
  | 4 => .int
  | _ => .int
abbrev wsX60 : List Cond := u_ws RX6 TX6 6
theorem nmX6 : ∀ a, a < 6 → ∀ b, b < 6 → a ≠ b → (TX6 a).2.1 ≠ (TX6 b).2.1 := by decide +kernel
theorem tyX6_ok : ∀ k, k < 6 → parseFieldDescriptor (TX6 k).2.2.1 = some (tyX6 k) := by decide +kernel
abbrev cX6_init : ByteArray := prog_8_method_1_code
def yX6_init : MethodName := ⟨RX6, "<init>", "()V"⟩
abbrev cX6_begin : ByteArray := prog_8_method_2_code
def yX6_begin : MethodName := ⟨RX6, "begin", "(IIII)V"⟩
abbrev cX6_play : ByteArray := prog_8_method_3_code
def yX6_play : MethodName := ⟨RX6, "play", "(LStripFlag$Plan;I)V"⟩
abbrev cX6_worthFrom : ByteArray := prog_8_method_4_code
def yX6_worthFrom : MethodName := ⟨RX6, "worthFrom", "(LStripFlag$Turns;LStripFlag$Plan;IIII)I"⟩
abbrev cX6_mover : ByteArray := prog_8_method_5_code
def yX6_mover : MethodName := ⟨RX6, "mover", "(I)I"⟩
abbrev cX6_worthAtEnd : ByteArray := prog_8_method_6_code
def yX6_worthAtEnd : MethodName := ⟨RX6, "worthAtEnd", "(LStripFlag$Plan;II)I"⟩
def RX7 : String := "StripFlag$Year"
def TX7 : u_T := fun k => match k with
  | 0 => ("StripFlag$Year", "strip", "I", false)
  | _ => ("StripFlag$Year", "percent", "I", false)
def tyX7 : Nat → FieldType := fun k => match k with
  | 0 => .int
  | _ => .int
abbrev wsX70 : List Cond := u_ws RX7 TX7 2
theorem nmX7 : ∀ a, a < 2 → ∀ b, b < 2 → a ≠ b → (TX7 a).2.1 ≠ (TX7 b).2.1 := by decide +kernel
theorem tyX7_ok : ∀ k, k < 2 → parseFieldDescriptor (TX7 k).2.2.1 = some (tyX7 k) := by decide +kernel
abbrev cX7_init : ByteArray := prog_9_method_1_code
def yX7_init : MethodName := ⟨RX7, "<init>", "()V"⟩
abbrev cX7_begin : ByteArray := prog_9_method_2_code
def yX7_begin : MethodName := ⟨RX7, "begin", "(II)V"⟩
abbrev cX7_partFlying : ByteArray := prog_9_method_3_code
def yX7_partFlying : MethodName := ⟨RX7, "partFlying", "(LStripFlag$Year;LStripFlag$Plan;IIIJ)J"⟩
abbrev cX7_ofBillion : ByteArray := prog_9_method_4_code
def yX7_ofBillion : MethodName := ⟨RX7, "ofBillion", "(LStripFlag$Plan;II)I"⟩
def RX8 : String := "StripFlag"
def TX8 : u_T := fun k => match k with
  | 0 => ("StripFlag", "text", "LStripFlag$Text;", true)
  | 1 => ("StripFlag", "now", "LStripFlag$Cloth;", true)
  | 2 => ("StripFlag", "images", "[LStripFlag$Cloth;", true)
  | 3 => ("StripFlag", "book", "LStripFlag$Book;", true)
  | 4 => ("StripFlag", "cuts", "LStripFlag$Cuts;", true)
  | 5 => ("StripFlag", "year", "LStripFlag$Year;", true)
  | 6 => ("StripFlag", "turns", "LStripFlag$Turns;", true)
  | 7 => ("StripFlag", "painter", "LStripFlag$Painter;", true)
  | 8 => ("StripFlag", "lefts", "[I", true)
  | 9 => ("StripFlag", "plan", "LStripFlag$Plan;", false)
  | 10 => ("StripFlag", "spare", "LStripFlag$Plan;", false)
  | _ => ("StripFlag", "kept", "I", false)
def tyX8 : Nat → FieldType := fun k => match k with
  | 0 => .object "StripFlag$Text"
  | 1 => .object "StripFlag$Cloth"
  | 2 => .array (.object "StripFlag$Cloth")
  | 3 => .object "StripFlag$Book"
  | 4 => .object "StripFlag$Cuts"
  | 5 => .object "StripFlag$Year"
  | 6 => .object "StripFlag$Turns"
  | 7 => .object "StripFlag$Painter"
  | 8 => .array .int
  | 9 => .object "StripFlag$Plan"
  | 10 => .object "StripFlag$Plan"
  | _ => .int
abbrev wsX80 : List Cond := u_ws RX8 TX8 12
theorem nmX8 : ∀ a, a < 12 → ∀ b, b < 12 → a ≠ b → (TX8 a).2.1 ≠ (TX8 b).2.1 := by decide +kernel
theorem tyX8_ok : ∀ k, k < 12 → parseFieldDescriptor (TX8 k).2.2.1 = some (tyX8 k) := by decide +kernel
abbrev cX8_init : ByteArray := prog_1_method_1_code
def yX8_init : MethodName := ⟨RX8, "<init>", "()V"⟩
abbrev cX8_feed : ByteArray := prog_1_method_2_code
def yX8_feed : MethodName := ⟨RX8, "feed", "(IJ)I"⟩
abbrev cX8_flag : ByteArray := prog_1_method_3_code
def yX8_flag : MethodName := ⟨RX8, "flag", "()I"⟩
abbrev cX8_fault : ByteArray := prog_1_method_4_code
def yX8_fault : MethodName := ⟨RX8, "fault", "()I"⟩
abbrev cX8_told : ByteArray := prog_1_method_5_code
def yX8_told : MethodName := ⟨RX8, "told", "(I)I"⟩
abbrev cX8_seam : ByteArray := prog_1_method_6_code
def yX8_seam : MethodName := ⟨RX8, "seam", "(II)I"⟩
abbrev cX8_strip : ByteArray := prog_1_method_7_code
def yX8_strip : MethodName := ⟨RX8, "strip", "(II)I"⟩
abbrev cX8_flies : ByteArray := prog_1_method_8_code
def yX8_flies : MethodName := ⟨RX8, "flies", "(I)I"⟩
abbrev cX8_unpick : ByteArray := prog_1_method_9_code
def yX8_unpick : MethodName := ⟨RX8, "unpick", "(II)I"⟩
abbrev cX8_sew : ByteArray := prog_1_method_10_code
def yX8_sew : MethodName := ⟨RX8, "sew", "(II)I"⟩
abbrev cX8_hem : ByteArray := prog_1_method_11_code
def yX8_hem : MethodName := ⟨RX8, "hem", "(IZ)I"⟩
abbrev cX8_fray : ByteArray := prog_1_method_12_code
def yX8_fray : MethodName := ⟨RX8, "fray", "(I)I"⟩
abbrev cX8_dye : ByteArray := prog_1_method_13_code
def yX8_dye : MethodName := ⟨RX8, "dye", "(II)I"⟩
abbrev cX8_drift : ByteArray := prog_1_method_14_code
def yX8_drift : MethodName := ⟨RX8, "drift", "(I)I"⟩
abbrev cX8_cut : ByteArray := prog_1_method_15_code
def yX8_cut : MethodName := ⟨RX8, "cut", "(II)I"⟩
abbrev cX8_lasts : ByteArray := prog_1_method_16_code
def yX8_lasts : MethodName := ⟨RX8, "lasts", "(II)I"⟩
abbrev cX8_hems : ByteArray := prog_1_method_17_code
def yX8_hems : MethodName := ⟨RX8, "hems", "(II)I"⟩
abbrev cX8_thread : ByteArray := prog_1_method_18_code
def yX8_thread : MethodName := ⟨RX8, "thread", "(II)I"⟩
abbrev cX8_odds : ByteArray := prog_1_method_19_code
def yX8_odds : MethodName := ⟨RX8, "odds", "(II)I"⟩
abbrev cX8_turnsOf : ByteArray := prog_1_method_20_code
def yX8_turnsOf : MethodName := ⟨RX8, "turnsOf", "(IIII)I"⟩
abbrev cX8_colours : ByteArray := prog_1_method_21_code
def yX8_colours : MethodName := ⟨RX8, "colours", "(I)I"⟩
abbrev cX8_left : ByteArray := prog_1_method_22_code
def yX8_left : MethodName := ⟨RX8, "left", "(II)I"⟩
abbrev cX8_fits : ByteArray := prog_1_method_23_code
def yX8_fits : MethodName := ⟨RX8, "fits", "()I"⟩
abbrev cX8_sure : ByteArray := prog_1_method_24_code
def yX8_sure : MethodName := ⟨RX8, "sure", "(I)I"⟩
abbrev cX8_write : ByteArray := prog_1_method_25_code
def yX8_write : MethodName := ⟨RX8, "write", "(II)I"⟩
abbrev cX8_tear : ByteArray := prog_1_method_26_code
def yX8_tear : MethodName := ⟨RX8, "tear", "()I"⟩
abbrev cX8_judge : ByteArray := prog_1_method_27_code
def yX8_judge : MethodName := ⟨RX8, "judge", "()I"⟩
abbrev cX8_seed : ByteArray := prog_1_method_28_code
def yX8_seed : MethodName := ⟨RX8, "seed", "(I)I"⟩
abbrev cX8_keep : ByteArray := prog_1_method_29_code
def yX8_keep : MethodName := ⟨RX8, "keep", "(I)I"⟩
abbrev cX8_goBack : ByteArray := prog_1_method_30_code
def yX8_goBack : MethodName := ⟨RX8, "goBack", "(I)I"⟩
abbrev cX8_has : ByteArray := prog_1_method_31_code
def yX8_has : MethodName := ⟨RX8, "has", "(II)Z"⟩
def RX9 : String := "StripFlagModel"
def TX9 : u_T := fun k => match k with
  | 0 => ("StripFlagModel", "text", "[I", true)
  | 1 => ("StripFlagModel", "many", "I", false)
  | 2 => ("StripFlagModel", "fault", "I", false)
  | 3 => ("StripFlagModel", "at", "I", false)
  | 4 => ("StripFlagModel", "wrong", "I", false)
  | 5 => ("StripFlagModel", "wrongAt", "I", false)
  | 6 => ("StripFlagModel", "begin", "I", false)
  | 7 => ("StripFlagModel", "read", "[I", true)
  | 8 => ("StripFlagModel", "readPrices", "[I", true)
  | 9 => ("StripFlagModel", "readOf", "[I", true)
  | 10 => ("StripFlagModel", "readA", "[I", true)
  | 11 => ("StripFlagModel", "readB", "[I", true)
  | 12 => ("StripFlagModel", "readS", "[I", true)
  | 13 => ("StripFlagModel", "colours", "I", false)
  | 14 => ("StripFlagModel", "strips", "I", false)
  | 15 => ("StripFlagModel", "seams", "I", false)
  | 16 => ("StripFlagModel", "coulds", "I", false)
  | 17 => ("StripFlagModel", "prices", "[I", true)
  | 18 => ("StripFlagModel", "dyes", "[I", true)
  | 19 => ("StripFlagModel", "lefts", "[I", true)
  | 20 => ("StripFlagModel", "ends", "[I", true)
  | 21 => ("StripFlagModel", "others", "[I", true)
  | 22 => ("StripFlagModel", "strengths", "[I", true)
  | 23 => ("StripFlagModel", "threads", "[I", true)
  | 24 => ("StripFlagModel", "hems", "I", false)
  | 25 => ("StripFlagModel", "seed", "I", false)
  | 26 => ("StripFlagModel", "parts", "[J", true)
  | 27 => ("StripFlagModel", "stands", "[I", true)
  | 28 => ("StripFlagModel", "tries", "[I", true)
  | 29 => ("StripFlagModel", "bests", "[I", true)
  | 30 => ("StripFlagModel", "firstMove", "I", false)
  | 31 => ("StripFlagModel", "tried", "[I", true)
  | 32 => ("StripFlagModel", "found", "[I", true)
  | 33 => ("StripFlagModel", "mayBe", "[I", true)
  | 34 => ("StripFlagModel", "near", "[I", true)
  | 35 => ("StripFlagModel", "cheapest", "I", false)
  | 36 => ("StripFlagModel", "entries", "I", false)
  | 37 => ("StripFlagModel", "who", "[I", true)
  | 38 => ("StripFlagModel", "which", "[I", true)
  | _ => ("StripFlagModel", "kept", "[I", true)
def tyX9 : Nat → FieldType := fun k => match k with
  | 0 => .array .int
  | 1 => .int
  | 2 => .int
  | 3 => .int
  | 4 => .int
  | 5 => .int
  | 6 => .int
  | 7 => .array .int
  | 8 => .array .int
  | 9 => .array .int
  | 10 => .array .int
  | 11 => .array .int
  | 12 => .array .int
  | 13 => .int
  | 14 => .int
  | 15 => .int
  | 16 => .int
  | 17 => .array .int
  | 18 => .array .int
  | 19 => .array .int
  | 20 => .array .int
  | 21 => .array .int
  | 22 => .array .int
  | 23 => .array .int
  | 24 => .int
  | 25 => .int
  | 26 => .array .long
  | 27 => .array .int
  | 28 => .array .int
  | 29 => .array .int
  | 30 => .int
  | 31 => .array .int
  | 32 => .array .int
  | 33 => .array .int
  | 34 => .array .int
  | 35 => .int
  | 36 => .int
  | 37 => .array .int
  | 38 => .array .int
  | _ => .array .int
abbrev wsX90 : List Cond := u_ws RX9 TX9 40
theorem nmX9 : ∀ a, a < 40 → ∀ b, b < 40 → a ≠ b → (TX9 a).2.1 ≠ (TX9 b).2.1 := by decide +kernel
theorem tyX9_ok : ∀ k, k < 40 → parseFieldDescriptor (TX9 k).2.2.1 = some (tyX9 k) := by decide +kernel
abbrev cX9_in : ByteArray := prog_11_method_2_code
def yX9_in : MethodName := ⟨RX9, "in", "(JJJ)Z"⟩
abbrev cX9_init : ByteArray := prog_11_method_3_code
def yX9_init : MethodName := ⟨RX9, "<init>", "()V"⟩
abbrev cX9_size : ByteArray := prog_11_method_4_code
def yX9_size : MethodName := ⟨RX9, "size", "(I)I"⟩
abbrev cX9_feed : ByteArray := prog_11_method_5_code
def yX9_feed : MethodName := ⟨RX9, "feed", "(IJ)I"⟩
abbrev cX9_fails : ByteArray := prog_11_method_6_code
def yX9_fails : MethodName := ⟨RX9, "fails", "(II)V"⟩
abbrev cX9_here : ByteArray := prog_11_method_7_code
def yX9_here : MethodName := ⟨RX9, "here", "()I"⟩
abbrev cX9_isEnd : ByteArray := prog_11_method_8_code
def yX9_isEnd : MethodName := ⟨RX9, "isEnd", "()Z"⟩
abbrev cX9_isLetter : ByteArray := prog_11_method_9_code
def yX9_isLetter : MethodName := ⟨RX9, "isLetter", "(I)Z"⟩
abbrev cX9_isFigure : ByteArray := prog_11_method_10_code
def yX9_isFigure : MethodName := ⟨RX9, "isFigure", "(I)Z"⟩
abbrev cX9_must : ByteArray := prog_11_method_11_code
def yX9_must : MethodName := ⟨RX9, "must", "(I)V"⟩
abbrev cX9_number : ByteArray := prog_11_method_12_code
def yX9_number : MethodName := ⟨RX9, "number", "(II)I"⟩
abbrev cX9_word : ByteArray := prog_11_method_13_code
def yX9_word : MethodName := ⟨RX9, "word", "()I"⟩
abbrev cX9_readColours : ByteArray := prog_11_method_14_code
def yX9_readColours : MethodName := ⟨RX9, "readColours", "()V"⟩
abbrev cX9_readSeam : ByteArray := prog_11_method_15_code
def yX9_readSeam : MethodName := ⟨RX9, "readSeam", "(II)V"⟩
abbrev cX9_readClause : ByteArray := prog_11_method_16_code
def yX9_readClause : MethodName := ⟨RX9, "readClause", "(Z)V"⟩
abbrev cX9_flag : ByteArray := prog_11_method_17_code
def yX9_flag : MethodName := ⟨RX9, "flag", "()I"⟩
abbrev cX9_takes : ByteArray := prog_11_method_18_code
def yX9_takes : MethodName := ⟨RX9, "takes", "()V"⟩
abbrev cX9_fault : ByteArray := prog_11_method_19_code
def yX9_fault : MethodName := ⟨RX9, "fault", "()I"⟩
abbrev cX9_isStrip : ByteArray := prog_11_method_20_code
def yX9_isStrip : MethodName := ⟨RX9, "isStrip", "(I)Z"⟩
abbrev cX9_isSeam : ByteArray := prog_11_method_21_code
def yX9_isSeam : MethodName := ⟨RX9, "isSeam", "(I)Z"⟩
abbrev cX9_areStrips : ByteArray := prog_11_method_22_code
def yX9_areStrips : MethodName := ⟨RX9, "areStrips", "(I)Z"⟩
abbrev cX9_there : ByteArray := prog_11_method_23_code
def yX9_there : MethodName := ⟨RX9, "there", "(I)I"⟩
abbrev cX9_told : ByteArray := prog_11_method_24_code
def yX9_told : MethodName := ⟨RX9, "told", "(I)I"⟩
abbrev cX9_seam : ByteArray := prog_11_method_25_code
def yX9_seam : MethodName := ⟨RX9, "seam", "(II)I"⟩
abbrev cX9_isOn : ByteArray := prog_11_method_26_code
def yX9_isOn : MethodName := ⟨RX9, "isOn", "(II)Z"⟩
abbrev cX9_borders : ByteArray := prog_11_method_27_code
def yX9_borders : MethodName := ⟨RX9, "borders", "(II)I"⟩
abbrev cX9_seamsOf : ByteArray := prog_11_method_28_code
def yX9_seamsOf : MethodName := ⟨RX9, "seamsOf", "(II)I"⟩
abbrev cX9_strip : ByteArray := prog_11_method_29_code
def yX9_strip : MethodName := ⟨RX9, "strip", "(II)I"⟩
abbrev cX9_flying : ByteArray := prog_11_method_30_code
def yX9_flying : MethodName := ⟨RX9, "flying", "(I)I"⟩
abbrev cX9_flies : ByteArray := prog_11_method_31_code
def yX9_flies : MethodName := ⟨RX9, "flies", "(I)I"⟩
abbrev cX9_mayUnpick : ByteArray := prog_11_method_32_code
def yX9_mayUnpick : MethodName := ⟨RX9, "mayUnpick", "(IIII)Z"⟩
abbrev cX9_unpick : ByteArray := prog_11_method_33_code
def yX9_unpick : MethodName := ⟨RX9, "unpick", "(II)I"⟩
abbrev cX9_sew : ByteArray := prog_11_method_34_code
def yX9_sew : MethodName := ⟨RX9, "sew", "(II)I"⟩
abbrev cX9_hem : ByteArray := prog_11_method_35_code
def yX9_hem : MethodName := ⟨RX9, "hem", "(IZ)I"⟩
abbrev cX9_frays : ByteArray := prog_11_method_36_code
def yX9_frays : MethodName := ⟨RX9, "frays", "(I)I"⟩
abbrev cX9_fray : ByteArray := prog_11_method_37_code
def yX9_fray : MethodName := ⟨RX9, "fray", "(I)I"⟩
abbrev cX9_dye : ByteArray := prog_11_method_38_code
def yX9_dye : MethodName := ⟨RX9, "dye", "(II)I"⟩
abbrev cX9_draws : ByteArray := prog_11_method_39_code
def yX9_draws : MethodName := ⟨RX9, "draws", "(I)I"⟩
abbrev cX9_drift : ByteArray := prog_11_method_40_code
def yX9_drift : MethodName := ⟨RX9, "drift", "(I)I"⟩
abbrev cX9_seed : ByteArray := prog_11_method_41_code
def yX9_seed : MethodName := ⟨RX9, "seed", "(I)I"⟩
abbrev cX9_cut : ByteArray := prog_11_method_42_code
def yX9_cut : MethodName := ⟨RX9, "cut", "(II)I"⟩
abbrev cX9_doLast : ByteArray := prog_11_method_43_code
def yX9_doLast : MethodName := ⟨RX9, "doLast", "(IIII)Z"⟩
abbrev cX9_lasts : ByteArray := prog_11_method_44_code
def yX9_lasts : MethodName := ⟨RX9, "lasts", "(II)I"⟩
abbrev cX9_hems : ByteArray := prog_11_method_45_code
def yX9_hems : MethodName := ⟨RX9, "hems", "(II)I"⟩
abbrev cX9_thread : ByteArray := prog_11_method_46_code
def yX9_thread : MethodName := ⟨RX9, "thread", "(II)I"⟩
abbrev cX9_odds : ByteArray := prog_11_method_47_code
def yX9_odds : MethodName := ⟨RX9, "odds", "(II)I"⟩
abbrev cX9_worth : ByteArray := prog_11_method_48_code
def yX9_worth : MethodName := ⟨RX9, "worth", "(III)I"⟩
abbrev cX9_opens : ByteArray := prog_11_method_49_code
def yX9_opens : MethodName := ⟨RX9, "opens", "(II)V"⟩
abbrev cX9_plays : ByteArray := prog_11_method_50_code
def yX9_plays : MethodName := ⟨RX9, "plays", "(III)I"⟩
abbrev cX9_turnsOf : ByteArray := prog_11_method_51_code
def yX9_turnsOf : MethodName := ⟨RX9, "turnsOf", "(IIII)I"⟩
abbrev cX9_rows : ByteArray := prog_11_method_52_code
def yX9_rows : MethodName := ⟨RX9, "rows", "(Z)I"⟩
abbrev cX9_isApart : ByteArray := prog_11_method_53_code
def yX9_isApart : MethodName := ⟨RX9, "isApart", "(I)Z"⟩
abbrev cX9_colours : ByteArray := prog_11_method_54_code
def yX9_colours : MethodName := ⟨RX9, "colours", "(I)I"⟩
abbrev cX9_left : ByteArray := prog_11_method_55_code
def yX9_left : MethodName := ⟨RX9, "left", "(II)I"⟩
abbrev cX9_fits : ByteArray := prog_11_method_56_code
def yX9_fits : MethodName := ⟨RX9, "fits", "()I"⟩
abbrev cX9_sure : ByteArray := prog_11_method_57_code
def yX9_sure : MethodName := ⟨RX9, "sure", "(I)I"⟩
abbrev cX9_write : ByteArray := prog_11_method_58_code
def yX9_write : MethodName := ⟨RX9, "write", "(II)I"⟩
abbrev cX9_tear : ByteArray := prog_11_method_59_code
def yX9_tear : MethodName := ⟨RX9, "tear", "()I"⟩
abbrev cX9_judge : ByteArray := prog_11_method_60_code
def yX9_judge : MethodName := ⟨RX9, "judge", "()I"⟩
abbrev cX9_keep : ByteArray := prog_11_method_61_code
def yX9_keep : MethodName := ⟨RX9, "keep", "(I)I"⟩
abbrev cX9_goBack : ByteArray := prog_11_method_62_code
def yX9_goBack : MethodName := ⟨RX9, "goBack", "(I)I"⟩
def RL : String := "StripFlagLaw"
abbrev cL_law : ByteArray := code
def yL_law : MethodName := ⟨RL, "law", "([I)Z"⟩
abbrev vwCl : List vw_C := [(RX0, TX0, 3), (RX1, TX1, 4), (RX2, TX2, 3), (RX3, TX3, 7), (RX4, TX4, 12), (RX5, TX5, 6), (RX6, TX6, 6), (RX7, TX7, 2), (RX8, TX8, 12), (RX9, TX9, 40)]
