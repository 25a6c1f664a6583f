section
-- ===== PART A: goes FIRST, ahead of the names: the tables' words, and 'selects' of the private methods out of them =====
/-- a private method of a class that the tables say can be made, by its rows of tables_1 -/
def lw_okq (q : MethodName × Nat) : Prop := (q.1.cls ≠ "java/lang/invoke/MethodHandle" ∧ q.1.cls ≠ "java/lang/invoke/VarHandle") ∧ Cond.instantiable q.1.cls q.2 ∈ tables_1 ∧ Cond.privateMethod q.1 ∈ tables_1 ∧ Cond.instanceMethod q.1 ∈ tables_1
theorem lw_p0 : lw_okq (⟨"StripFlag$Text", "skipBlanks", "()V"⟩, 6) := ⟨⟨by decide +kernel, by decide +kernel⟩, List.mem_of_getElem? (i := 27) (by decide +kernel), List.mem_of_getElem? (i := 310) (by decide +kernel), List.mem_of_getElem? (i := 311) (by decide +kernel)⟩
theorem lw_p1 : lw_okq (⟨"StripFlag$Text", "signAt", "(I)I"⟩, 6) := ⟨⟨by decide +kernel, by decide +kernel⟩, List.mem_of_getElem? (i := 27) (by decide +kernel), List.mem_of_getElem? (i := 314) (by decide +kernel), List.mem_of_getElem? (i := 315) (by decide +kernel)⟩
theorem lw_p2 : lw_okq (⟨"StripFlag$Text", "sign", "()I"⟩, 6) := ⟨⟨by decide +kernel, by decide +kernel⟩, List.mem_of_getElem? (i := 27) (by decide +kernel), List.mem_of_getElem? (i := 318) (by decide +kernel), List.mem_of_getElem? (i := 319) (by decide +kernel)⟩
theorem lw_p3 : lw_okq (⟨"StripFlag$Text", "readClause", "(LStripFlag$Plan;)V"⟩, 6) := ⟨⟨by decide +kernel, by decide +kernel⟩, List.mem_of_getElem? (i := 27) (by decide +kernel), List.mem_of_getElem? (i := 322) (by decide +kernel), List.mem_of_getElem? (i := 323) (by decide +kernel)⟩
theorem lw_p4 : lw_okq (⟨"StripFlag$Text", "readWord", "()I"⟩, 6) := ⟨⟨by decide +kernel, by decide +kernel⟩, List.mem_of_getElem? (i := 27) (by decide +kernel), List.mem_of_getElem? (i := 326) (by decide +kernel), List.mem_of_getElem? (i := 327) (by decide +kernel)⟩
theorem lw_p5 : lw_okq (⟨"StripFlag$Text", "endOfRun", "(II)I"⟩, 6) := ⟨⟨by decide +kernel, by decide +kernel⟩, List.mem_of_getElem? (i := 27) (by decide +kernel), List.mem_of_getElem? (i := 330) (by decide +kernel), List.mem_of_getElem? (i := 331) (by decide +kernel)⟩
theorem lw_p6 : lw_okq (⟨"StripFlag$Text", "isWord", "(ILjava/lang/String;)Z"⟩, 6) := ⟨⟨by decide +kernel, by decide +kernel⟩, List.mem_of_getElem? (i := 27) (by decide +kernel), List.mem_of_getElem? (i := 335) (by decide +kernel), List.mem_of_getElem? (i := 336) (by decide +kernel)⟩
theorem lw_p7 : lw_okq (⟨"StripFlag$Text", "fail", "(II)V"⟩, 6) := ⟨⟨by decide +kernel, by decide +kernel⟩, List.mem_of_getElem? (i := 27) (by decide +kernel), List.mem_of_getElem? (i := 391) (by decide +kernel), List.mem_of_getElem? (i := 392) (by decide +kernel)⟩
theorem lw_p8 : lw_okq (⟨"StripFlag$Text", "readColours", "(LStripFlag$Plan;)V"⟩, 6) := ⟨⟨by decide +kernel, by decide +kernel⟩, List.mem_of_getElem? (i := 27) (by decide +kernel), List.mem_of_getElem? (i := 398) (by decide +kernel), List.mem_of_getElem? (i := 399) (by decide +kernel)⟩
theorem lw_p9 : lw_okq (⟨"StripFlag$Text", "readNumber", "(II)I"⟩, 6) := ⟨⟨by decide +kernel, by decide +kernel⟩, List.mem_of_getElem? (i := 27) (by decide +kernel), List.mem_of_getElem? (i := 402) (by decide +kernel), List.mem_of_getElem? (i := 403) (by decide +kernel)⟩
theorem lw_p10 : lw_okq (⟨"StripFlag$Text", "readNumbers", "(LStripFlag$Plan;I)V"⟩, 6) := ⟨⟨by decide +kernel, by decide +kernel⟩, List.mem_of_getElem? (i := 27) (by decide +kernel), List.mem_of_getElem? (i := 410) (by decide +kernel), List.mem_of_getElem? (i := 411) (by decide +kernel)⟩
theorem lw_p11 : lw_okq (⟨"StripFlag$Text", "readEnd", "()V"⟩, 6) := ⟨⟨by decide +kernel, by decide +kernel⟩, List.mem_of_getElem? (i := 27) (by decide +kernel), List.mem_of_getElem? (i := 414) (by decide +kernel), List.mem_of_getElem? (i := 415) (by decide +kernel)⟩
theorem lw_p12 : lw_okq (⟨"StripFlag$Plan", "spread", "(II)I"⟩, 12) := ⟨⟨by decide +kernel, by decide +kernel⟩, List.mem_of_getElem? (i := 188) (by decide +kernel), List.mem_of_getElem? (i := 514) (by decide +kernel), List.mem_of_getElem? (i := 515) (by decide +kernel)⟩
theorem lw_p13 : lw_okq (⟨"StripFlag$Cloth", "looseSeams", "(LStripFlag$Plan;)I"⟩, 4) := ⟨⟨by decide +kernel, by decide +kernel⟩, List.mem_of_getElem? (i := 56) (by decide +kernel), List.mem_of_getElem? (i := 550) (by decide +kernel), List.mem_of_getElem? (i := 551) (by decide +kernel)⟩
theorem lw_p14 : lw_okq (⟨"StripFlag$Cloth", "draw", "(I)I"⟩, 4) := ⟨⟨by decide +kernel, by decide +kernel⟩, List.mem_of_getElem? (i := 56) (by decide +kernel), List.mem_of_getElem? (i := 574) (by decide +kernel), List.mem_of_getElem? (i := 575) (by decide +kernel)⟩
theorem lw_p15 : lw_okq (⟨"StripFlag$Cloth", "tryUnpick", "(LStripFlag$Plan;II)V"⟩, 4) := ⟨⟨by decide +kernel, by decide +kernel⟩, List.mem_of_getElem? (i := 56) (by decide +kernel), List.mem_of_getElem? (i := 582) (by decide +kernel), List.mem_of_getElem? (i := 583) (by decide +kernel)⟩
def lw_privs_1 : List (MethodName × Nat) := [(⟨"StripFlag$Text", "skipBlanks", "()V"⟩, 6), (⟨"StripFlag$Text", "signAt", "(I)I"⟩, 6), (⟨"StripFlag$Text", "sign", "()I"⟩, 6), (⟨"StripFlag$Text", "readClause", "(LStripFlag$Plan;)V"⟩, 6), (⟨"StripFlag$Text", "readWord", "()I"⟩, 6), (⟨"StripFlag$Text", "endOfRun", "(II)I"⟩, 6), (⟨"StripFlag$Text", "isWord", "(ILjava/lang/String;)Z"⟩, 6), (⟨"StripFlag$Text", "fail", "(II)V"⟩, 6), (⟨"StripFlag$Text", "readColours", "(LStripFlag$Plan;)V"⟩, 6), (⟨"StripFlag$Text", "readNumber", "(II)I"⟩, 6), (⟨"StripFlag$Text", "readNumbers", "(LStripFlag$Plan;I)V"⟩, 6), (⟨"StripFlag$Text", "readEnd", "()V"⟩, 6), (⟨"StripFlag$Plan", "spread", "(II)I"⟩, 12), (⟨"StripFlag$Cloth", "looseSeams", "(LStripFlag$Plan;)I"⟩, 4), (⟨"StripFlag$Cloth", "draw", "(I)I"⟩, 4), (⟨"StripFlag$Cloth", "tryUnpick", "(LStripFlag$Plan;II)V"⟩, 4)]
theorem lw_r1 : ∀ q ∈ lw_privs_1, lw_okq q := List.forall_mem_cons.mpr ⟨lw_p0, List.forall_mem_cons.mpr ⟨lw_p1, List.forall_mem_cons.mpr ⟨lw_p2, List.forall_mem_cons.mpr ⟨lw_p3, List.forall_mem_cons.mpr ⟨lw_p4, List.forall_mem_cons.mpr ⟨lw_p5, List.forall_mem_cons.mpr ⟨lw_p6, List.forall_mem_cons.mpr ⟨lw_p7, List.forall_mem_cons.mpr ⟨lw_p8, List.forall_mem_cons.mpr ⟨lw_p9, List.forall_mem_cons.mpr ⟨lw_p10, List.forall_mem_cons.mpr ⟨lw_p11, List.forall_mem_cons.mpr ⟨lw_p12, List.forall_mem_cons.mpr ⟨lw_p13, List.forall_mem_cons.mpr ⟨lw_p14, List.forall_mem_cons.mpr ⟨lw_p15, fun _ h => absurd h List.not_mem_nil⟩⟩⟩⟩⟩⟩⟩⟩⟩⟩⟩⟩⟩⟩⟩⟩
theorem lw_p16 : lw_okq (⟨"StripFlag$Cuts", "addWeak", "(II)V"⟩, 3) := ⟨⟨by decide +kernel, by decide +kernel⟩, List.mem_of_getElem? (i := 100) (by decide +kernel), List.mem_of_getElem? (i := 625) (by decide +kernel), List.mem_of_getElem? (i := 626) (by decide +kernel)⟩
theorem lw_p17 : lw_okq (⟨"StripFlag$Cuts", "isHeld", "(I)Z"⟩, 3) := ⟨⟨by decide +kernel, by decide +kernel⟩, List.mem_of_getElem? (i := 100) (by decide +kernel), List.mem_of_getElem? (i := 637) (by decide +kernel), List.mem_of_getElem? (i := 638) (by decide +kernel)⟩
theorem lw_p18 : lw_okq (⟨"StripFlag$Cuts", "isMended", "(II)Z"⟩, 3) := ⟨⟨by decide +kernel, by decide +kernel⟩, List.mem_of_getElem? (i := 100) (by decide +kernel), List.mem_of_getElem? (i := 654) (by decide +kernel), List.mem_of_getElem? (i := 655) (by decide +kernel)⟩
theorem lw_p19 : lw_okq (⟨"StripFlag$Turns", "worthAtEnd", "(LStripFlag$Plan;II)I"⟩, 6) := ⟨⟨by decide +kernel, by decide +kernel⟩, List.mem_of_getElem? (i := 130) (by decide +kernel), List.mem_of_getElem? (i := 690) (by decide +kernel), List.mem_of_getElem? (i := 691) (by decide +kernel)⟩
theorem lw_p20 : lw_okq (⟨"StripFlag$Turns", "mover", "(I)I"⟩, 6) := ⟨⟨by decide +kernel, by decide +kernel⟩, List.mem_of_getElem? (i := 130) (by decide +kernel), List.mem_of_getElem? (i := 695) (by decide +kernel), List.mem_of_getElem? (i := 696) (by decide +kernel)⟩
theorem lw_p21 : lw_okq (⟨"StripFlag$Painter", "look", "(LStripFlag$Plan;I)V"⟩, 7) := ⟨⟨by decide +kernel, by decide +kernel⟩, List.mem_of_getElem? (i := 157) (by decide +kernel), List.mem_of_getElem? (i := 713) (by decide +kernel), List.mem_of_getElem? (i := 714) (by decide +kernel)⟩
theorem lw_p22 : lw_okq (⟨"StripFlag$Painter", "take", "(I)V"⟩, 7) := ⟨⟨by decide +kernel, by decide +kernel⟩, List.mem_of_getElem? (i := 157) (by decide +kernel), List.mem_of_getElem? (i := 729) (by decide +kernel), List.mem_of_getElem? (i := 730) (by decide +kernel)⟩
theorem lw_p23 : lw_okq (⟨"StripFlag$Painter", "usedNear", "(I)I"⟩, 7) := ⟨⟨by decide +kernel, by decide +kernel⟩, List.mem_of_getElem? (i := 157) (by decide +kernel), List.mem_of_getElem? (i := 735) (by decide +kernel), List.mem_of_getElem? (i := 736) (by decide +kernel)⟩
theorem lw_p24 : lw_okq (⟨"StripFlagModel", "isEnd", "()Z"⟩, 40) := ⟨⟨by decide +kernel, by decide +kernel⟩, List.mem_of_getElem? (i := 814) (by decide +kernel), List.mem_of_getElem? (i := 957) (by decide +kernel), List.mem_of_getElem? (i := 958) (by decide +kernel)⟩
theorem lw_p25 : lw_okq (⟨"StripFlagModel", "here", "()I"⟩, 40) := ⟨⟨by decide +kernel, by decide +kernel⟩, List.mem_of_getElem? (i := 814) (by decide +kernel), List.mem_of_getElem? (i := 961) (by decide +kernel), List.mem_of_getElem? (i := 962) (by decide +kernel)⟩
theorem lw_p26 : lw_okq (⟨"StripFlagModel", "readClause", "(Z)V"⟩, 40) := ⟨⟨by decide +kernel, by decide +kernel⟩, List.mem_of_getElem? (i := 814) (by decide +kernel), List.mem_of_getElem? (i := 965) (by decide +kernel), List.mem_of_getElem? (i := 966) (by decide +kernel)⟩
theorem lw_p27 : lw_okq (⟨"StripFlagModel", "word", "()I"⟩, 40) := ⟨⟨by decide +kernel, by decide +kernel⟩, List.mem_of_getElem? (i := 814) (by decide +kernel), List.mem_of_getElem? (i := 969) (by decide +kernel), List.mem_of_getElem? (i := 970) (by decide +kernel)⟩
theorem lw_p28 : lw_okq (⟨"StripFlagModel", "fails", "(II)V"⟩, 40) := ⟨⟨by decide +kernel, by decide +kernel⟩, List.mem_of_getElem? (i := 814) (by decide +kernel), List.mem_of_getElem? (i := 985) (by decide +kernel), List.mem_of_getElem? (i := 986) (by decide +kernel)⟩
theorem lw_p29 : lw_okq (⟨"StripFlagModel", "readColours", "()V"⟩, 40) := ⟨⟨by decide +kernel, by decide +kernel⟩, List.mem_of_getElem? (i := 814) (by decide +kernel), List.mem_of_getElem? (i := 989) (by decide +kernel), List.mem_of_getElem? (i := 990) (by decide +kernel)⟩
theorem lw_p30 : lw_okq (⟨"StripFlagModel", "number", "(II)I"⟩, 40) := ⟨⟨by decide +kernel, by decide +kernel⟩, List.mem_of_getElem? (i := 814) (by decide +kernel), List.mem_of_getElem? (i := 993) (by decide +kernel), List.mem_of_getElem? (i := 994) (by decide +kernel)⟩
theorem lw_p31 : lw_okq (⟨"StripFlagModel", "must", "(I)V"⟩, 40) := ⟨⟨by decide +kernel, by decide +kernel⟩, List.mem_of_getElem? (i := 814) (by decide +kernel), List.mem_of_getElem? (i := 1002) (by decide +kernel), List.mem_of_getElem? (i := 1003) (by decide +kernel)⟩
def lw_privs_2 : List (MethodName × Nat) := [(⟨"StripFlag$Cuts", "addWeak", "(II)V"⟩, 3), (⟨"StripFlag$Cuts", "isHeld", "(I)Z"⟩, 3), (⟨"StripFlag$Cuts", "isMended", "(II)Z"⟩, 3), (⟨"StripFlag$Turns", "worthAtEnd", "(LStripFlag$Plan;II)I"⟩, 6), (⟨"StripFlag$Turns", "mover", "(I)I"⟩, 6), (⟨"StripFlag$Painter", "look", "(LStripFlag$Plan;I)V"⟩, 7), (⟨"StripFlag$Painter", "take", "(I)V"⟩, 7), (⟨"StripFlag$Painter", "usedNear", "(I)I"⟩, 7), (⟨"StripFlagModel", "isEnd", "()Z"⟩, 40), (⟨"StripFlagModel", "here", "()I"⟩, 40), (⟨"StripFlagModel", "readClause", "(Z)V"⟩, 40), (⟨"StripFlagModel", "word", "()I"⟩, 40), (⟨"StripFlagModel", "fails", "(II)V"⟩, 40), (⟨"StripFlagModel", "readColours", "()V"⟩, 40), (⟨"StripFlagModel", "number", "(II)I"⟩, 40), (⟨"StripFlagModel", "must", "(I)V"⟩, 40)]
theorem lw_r2 : ∀ q ∈ lw_privs_2, lw_okq q := List.forall_mem_cons.mpr ⟨lw_p16, List.forall_mem_cons.mpr ⟨lw_p17, List.forall_mem_cons.mpr ⟨lw_p18, List.forall_mem_cons.mpr ⟨lw_p19, List.forall_mem_cons.mpr ⟨lw_p20, List.forall_mem_cons.mpr ⟨lw_p21, List.forall_mem_cons.mpr ⟨lw_p22, List.forall_mem_cons.mpr ⟨lw_p23, List.forall_mem_cons.mpr ⟨lw_p24, List.forall_mem_cons.mpr ⟨lw_p25, List.forall_mem_cons.mpr ⟨lw_p26, List.forall_mem_cons.mpr ⟨lw_p27, List.forall_mem_cons.mpr ⟨lw_p28, List.forall_mem_cons.mpr ⟨lw_p29, List.forall_mem_cons.mpr ⟨lw_p30, List.forall_mem_cons.mpr ⟨lw_p31, fun _ h => absurd h List.not_mem_nil⟩⟩⟩⟩⟩⟩⟩⟩⟩⟩⟩⟩⟩⟩⟩⟩
theorem lw_p32 : lw_okq (⟨"StripFlagModel", "readSeam", "(II)V"⟩, 40) := ⟨⟨by decide +kernel, by decide +kernel⟩, List.mem_of_getElem? (i := 814) (by decide +kernel), List.mem_of_getElem? (i := 1006) (by decide +kernel), List.mem_of_getElem? (i := 1007) (by decide +kernel)⟩
theorem lw_p33 : lw_okq (⟨"StripFlagModel", "takes", "()V"⟩, 40) := ⟨⟨by decide +kernel, by decide +kernel⟩, List.mem_of_getElem? (i := 814) (by decide +kernel), List.mem_of_getElem? (i := 1010) (by decide +kernel), List.mem_of_getElem? (i := 1011) (by decide +kernel)⟩
theorem lw_p34 : lw_okq (⟨"StripFlagModel", "there", "(I)I"⟩, 40) := ⟨⟨by decide +kernel, by decide +kernel⟩, List.mem_of_getElem? (i := 814) (by decide +kernel), List.mem_of_getElem? (i := 1022) (by decide +kernel), List.mem_of_getElem? (i := 1023) (by decide +kernel)⟩
theorem lw_p35 : lw_okq (⟨"StripFlagModel", "isSeam", "(I)Z"⟩, 40) := ⟨⟨by decide +kernel, by decide +kernel⟩, List.mem_of_getElem? (i := 814) (by decide +kernel), List.mem_of_getElem? (i := 1030) (by decide +kernel), List.mem_of_getElem? (i := 1031) (by decide +kernel)⟩
theorem lw_p36 : lw_okq (⟨"StripFlagModel", "isStrip", "(I)Z"⟩, 40) := ⟨⟨by decide +kernel, by decide +kernel⟩, List.mem_of_getElem? (i := 814) (by decide +kernel), List.mem_of_getElem? (i := 1040) (by decide +kernel), List.mem_of_getElem? (i := 1041) (by decide +kernel)⟩
theorem lw_p37 : lw_okq (⟨"StripFlagModel", "seamsOf", "(II)I"⟩, 40) := ⟨⟨by decide +kernel, by decide +kernel⟩, List.mem_of_getElem? (i := 814) (by decide +kernel), List.mem_of_getElem? (i := 1044) (by decide +kernel), List.mem_of_getElem? (i := 1045) (by decide +kernel)⟩
theorem lw_p38 : lw_okq (⟨"StripFlagModel", "isOn", "(II)Z"⟩, 40) := ⟨⟨by decide +kernel, by decide +kernel⟩, List.mem_of_getElem? (i := 814) (by decide +kernel), List.mem_of_getElem? (i := 1048) (by decide +kernel), List.mem_of_getElem? (i := 1049) (by decide +kernel)⟩
theorem lw_p39 : lw_okq (⟨"StripFlagModel", "borders", "(II)I"⟩, 40) := ⟨⟨by decide +kernel, by decide +kernel⟩, List.mem_of_getElem? (i := 814) (by decide +kernel), List.mem_of_getElem? (i := 1052) (by decide +kernel), List.mem_of_getElem? (i := 1053) (by decide +kernel)⟩
theorem lw_p40 : lw_okq (⟨"StripFlagModel", "flying", "(I)I"⟩, 40) := ⟨⟨by decide +kernel, by decide +kernel⟩, List.mem_of_getElem? (i := 814) (by decide +kernel), List.mem_of_getElem? (i := 1061) (by decide +kernel), List.mem_of_getElem? (i := 1062) (by decide +kernel)⟩
theorem lw_p41 : lw_okq (⟨"StripFlagModel", "mayUnpick", "(IIII)Z"⟩, 40) := ⟨⟨by decide +kernel, by decide +kernel⟩, List.mem_of_getElem? (i := 814) (by decide +kernel), List.mem_of_getElem? (i := 1069) (by decide +kernel), List.mem_of_getElem? (i := 1070) (by decide +kernel)⟩
theorem lw_p42 : lw_okq (⟨"StripFlagModel", "frays", "(I)I"⟩, 40) := ⟨⟨by decide +kernel, by decide +kernel⟩, List.mem_of_getElem? (i := 814) (by decide +kernel), List.mem_of_getElem? (i := 1089) (by decide +kernel), List.mem_of_getElem? (i := 1090) (by decide +kernel)⟩
theorem lw_p43 : lw_okq (⟨"StripFlagModel", "draws", "(I)I"⟩, 40) := ⟨⟨by decide +kernel, by decide +kernel⟩, List.mem_of_getElem? (i := 814) (by decide +kernel), List.mem_of_getElem? (i := 1102) (by decide +kernel), List.mem_of_getElem? (i := 1103) (by decide +kernel)⟩
theorem lw_p44 : lw_okq (⟨"StripFlagModel", "areStrips", "(I)Z"⟩, 40) := ⟨⟨by decide +kernel, by decide +kernel⟩, List.mem_of_getElem? (i := 814) (by decide +kernel), List.mem_of_getElem? (i := 1122) (by decide +kernel), List.mem_of_getElem? (i := 1123) (by decide +kernel)⟩
theorem lw_p45 : lw_okq (⟨"StripFlagModel", "doLast", "(IIII)Z"⟩, 40) := ⟨⟨by decide +kernel, by decide +kernel⟩, List.mem_of_getElem? (i := 814) (by decide +kernel), List.mem_of_getElem? (i := 1126) (by decide +kernel), List.mem_of_getElem? (i := 1127) (by decide +kernel)⟩
theorem lw_p46 : lw_okq (⟨"StripFlagModel", "plays", "(III)I"⟩, 40) := ⟨⟨by decide +kernel, by decide +kernel⟩, List.mem_of_getElem? (i := 814) (by decide +kernel), List.mem_of_getElem? (i := 1150) (by decide +kernel), List.mem_of_getElem? (i := 1151) (by decide +kernel)⟩
theorem lw_p47 : lw_okq (⟨"StripFlagModel", "opens", "(II)V"⟩, 40) := ⟨⟨by decide +kernel, by decide +kernel⟩, List.mem_of_getElem? (i := 814) (by decide +kernel), List.mem_of_getElem? (i := 1154) (by decide +kernel), List.mem_of_getElem? (i := 1155) (by decide +kernel)⟩
def lw_privs_3 : List (MethodName × Nat) := [(⟨"StripFlagModel", "readSeam", "(II)V"⟩, 40), (⟨"StripFlagModel", "takes", "()V"⟩, 40), (⟨"StripFlagModel", "there", "(I)I"⟩, 40), (⟨"StripFlagModel", "isSeam", "(I)Z"⟩, 40), (⟨"StripFlagModel", "isStrip", "(I)Z"⟩, 40), (⟨"StripFlagModel", "seamsOf", "(II)I"⟩, 40), (⟨"StripFlagModel", "isOn", "(II)Z"⟩, 40), (⟨"StripFlagModel", "borders", "(II)I"⟩, 40), (⟨"StripFlagModel", "flying", "(I)I"⟩, 40), (⟨"StripFlagModel", "mayUnpick", "(IIII)Z"⟩, 40), (⟨"StripFlagModel", "frays", "(I)I"⟩, 40), (⟨"StripFlagModel", "draws", "(I)I"⟩, 40), (⟨"StripFlagModel", "areStrips", "(I)Z"⟩, 40), (⟨"StripFlagModel", "doLast", "(IIII)Z"⟩, 40), (⟨"StripFlagModel", "plays", "(III)I"⟩, 40), (⟨"StripFlagModel", "opens", "(II)V"⟩, 40)]
theorem lw_r3 : ∀ q ∈ lw_privs_3, lw_okq q := List.forall_mem_cons.mpr ⟨lw_p32, List.forall_mem_cons.mpr ⟨lw_p33, List.forall_mem_cons.mpr ⟨lw_p34, List.forall_mem_cons.mpr ⟨lw_p35, List.forall_mem_cons.mpr ⟨lw_p36, List.forall_mem_cons.mpr ⟨lw_p37, List.forall_mem_cons.mpr ⟨lw_p38, List.forall_mem_cons.mpr ⟨lw_p39, List.forall_mem_cons.mpr ⟨lw_p40, List.forall_mem_cons.mpr ⟨lw_p41, List.forall_mem_cons.mpr ⟨lw_p42, List.forall_mem_cons.mpr ⟨lw_p43, List.forall_mem_cons.mpr ⟨lw_p44, List.forall_mem_cons.mpr ⟨lw_p45, List.forall_mem_cons.mpr ⟨lw_p46, List.forall_mem_cons.mpr ⟨lw_p47, fun _ h => absurd h List.not_mem_nil⟩⟩⟩⟩⟩⟩⟩⟩⟩⟩⟩⟩⟩⟩⟩⟩
theorem lw_p48 : lw_okq (⟨"StripFlagModel", "worth", "(III)I"⟩, 40) := ⟨⟨by decide +kernel, by decide +kernel⟩, List.mem_of_getElem? (i := 814) (by decide +kernel), List.mem_of_getElem? (i := 1158) (by decide +kernel), List.mem_of_getElem? (i := 1159) (by decide +kernel)⟩
theorem lw_p49 : lw_okq (⟨"StripFlagModel", "rows", "(Z)I"⟩, 40) := ⟨⟨by decide +kernel, by decide +kernel⟩, List.mem_of_getElem? (i := 814) (by decide +kernel), List.mem_of_getElem? (i := 1166) (by decide +kernel), List.mem_of_getElem? (i := 1167) (by decide +kernel)⟩
theorem lw_p50 : lw_okq (⟨"StripFlagModel", "isApart", "(I)Z"⟩, 40) := ⟨⟨by decide +kernel, by decide +kernel⟩, List.mem_of_getElem? (i := 814) (by decide +kernel), List.mem_of_getElem? (i := 1170) (by decide +kernel), List.mem_of_getElem? (i := 1171) (by decide +kernel)⟩
def lw_privs_4 : List (MethodName × Nat) := [(⟨"StripFlagModel", "worth", "(III)I"⟩, 40), (⟨"StripFlagModel", "rows", "(Z)I"⟩, 40), (⟨"StripFlagModel", "isApart", "(I)Z"⟩, 40)]
theorem lw_r4 : ∀ q ∈ lw_privs_4, lw_okq q := List.forall_mem_cons.mpr ⟨lw_p48, List.forall_mem_cons.mpr ⟨lw_p49, List.forall_mem_cons.mpr ⟨lw_p50, fun _ h => absurd h List.not_mem_nil⟩⟩⟩
def lw_privs : List (MethodName × Nat) := lw_privs_1 ++ (lw_privs_2 ++ (lw_privs_3 ++ (lw_privs_4)))
def lw_tbl : List Cond := k2_sels lw_privs ++ tables_1
theorem lw_privs_ok : ∀ q ∈ lw_privs, lw_okq q := by
  show ∀ q ∈ lw_privs_1 ++ (lw_privs_2 ++ (lw_privs_3 ++ (lw_privs_4))), lw_okq q
  exact List.forall_mem_append.mpr ⟨lw_r1, List.forall_mem_append.mpr ⟨lw_r2, List.forall_mem_append.mpr ⟨lw_r3, lw_r4⟩⟩⟩
def RX0 : String := "StripFlag$Book"
def TX0 : u_T := fun k => match k with
  | 0 => ("StripFlag$Book", "strips", "[I", true)
  | 1 => ("StripFlag$Book", "seams", "[I", true)
  | _ => ("StripFlag$Book", "count", "I", false)
def tyX0 : Nat → FieldType := fun k => match k with
  | 0 => .array .int
  | 1 => .array .int
  | _ => .int
abbrev wsX00 : List Cond := u_ws RX0 TX0 3
theorem nmX0 : ∀ a, a < 3 → ∀ b, b < 3 → a ≠ b → (TX0 a).2.1 ≠ (TX0 b).2.1 := by decide +kernel
theorem tyX0_ok : ∀ k, k < 3 → parseFieldDescriptor (TX0 k).2.2.1 = some (tyX0 k) := by decide +kernel
abbrev cX0_init : ByteArray := prog_2_method_1_code
def yX0_init : MethodName := ⟨RX0, "<init>", "()V"⟩
abbrev cX0_add : ByteArray := prog_2_method_2_code
def yX0_add : MethodName := ⟨RX0, "add", "(II)V"⟩
abbrev cX0_firstWrong : ByteArray := prog_2_method_3_code
def yX0_firstWrong : MethodName := ⟨RX0, "firstWrong", "(LStripFlag$Plan;LStripFlag$Cloth;)I"⟩
def RX1 : String := "StripFlag$Cloth"
def TX1 : u_T := fun k => match k with
  | 0 => ("StripFlag$Cloth", "strengths", "[I", true)
  | 1 => ("StripFlag$Cloth", "colours", "[I", true)
  | 2 => ("StripFlag$Cloth", "hems", "I", false)
  | _ => ("StripFlag$Cloth", "seed", "I", false)
def tyX1 : Nat → FieldType := fun k => match k with
  | 0 => .array .int
  | 1 => .array .int
  | 2 => .int
  | _ => .int
abbrev wsX10 : List Cond := u_ws RX1 TX1 4
theorem nmX1 : ∀ a, a < 4 → ∀ b, b < 4 → a ≠ b → (TX1 a).2.1 ≠ (TX1 b).2.1 := by decide +kernel
theorem tyX1_ok : ∀ k, k < 4 → parseFieldDescriptor (TX1 k).2.2.1 = some (tyX1 k) := by decide +kernel
abbrev cX1_init : ByteArray := prog_3_method_1_code
def yX1_init : MethodName := ⟨RX1, "<init>", "()V"⟩
abbrev cX1_begin : ByteArray := prog_3_method_2_code
def yX1_begin : MethodName := ⟨RX1, "begin", "(LStripFlag$Plan;)V"⟩
abbrev cX1_copy : ByteArray := prog_3_method_3_code
def yX1_copy : MethodName := ⟨RX1, "copy", "(LStripFlag$Cloth;)V"⟩
abbrev cX1_sewn : ByteArray := prog_3_method_4_code
def yX1_sewn : MethodName := ⟨RX1, "sewn", "()I"⟩
abbrev cX1_holding : ByteArray := prog_3_method_5_code
def yX1_holding : MethodName := ⟨RX1, "holding", "(I)I"⟩
abbrev cX1_cost : ByteArray := prog_3_method_6_code
def yX1_cost : MethodName := ⟨RX1, "cost", "(LStripFlag$Plan;)I"⟩
abbrev cX1_frayEnds : ByteArray := prog_3_method_7_code
def yX1_frayEnds : MethodName := ⟨RX1, "frayEnds", "(LStripFlag$Plan;I)I"⟩
abbrev cX1_looseSeams : ByteArray := prog_3_method_8_code
def yX1_looseSeams : MethodName := ⟨RX1, "looseSeams", "(LStripFlag$Plan;)I"⟩
abbrev cX1_passYear : ByteArray := prog_3_method_9_code
def yX1_passYear : MethodName := ⟨RX1, "passYear", "(LStripFlag$Plan;)V"⟩
abbrev cX1_tryUnpick : ByteArray := prog_3_method_10_code
def yX1_tryUnpick : MethodName := ⟨RX1, "tryUnpick", "(LStripFlag$Plan;II)V"⟩
abbrev cX1_draw : ByteArray := prog_3_method_11_code
def yX1_draw : MethodName := ⟨RX1, "draw", "(I)I"⟩
def RX2 : String := "StripFlag$Cuts"
def TX2 : u_T := fun k => match k with
  | 0 => ("StripFlag$Cuts", "weak", "[I", true)
  | 1 => ("StripFlag$Cuts", "helps", "[I", true)
  | _ => ("StripFlag$Cuts", "count", "I", false)
def tyX2 : Nat → FieldType := fun k => match k with
  | 0 => .array .int
  | 1 => .array .int
  | _ => .int
abbrev wsX20 : List Cond := u_ws RX2 TX2 3
theorem nmX2 : ∀ a, a < 3 → ∀ b, b < 3 → a ≠ b → (TX2 a).2.1 ≠ (TX2 b).2.1 := by decide +kernel
theorem tyX2_ok : ∀ k, k < 3 → parseFieldDescriptor (TX2 k).2.2.1 = some (tyX2 k) := by decide +kernel
abbrev cX2_init : ByteArray := prog_4_method_1_code
def yX2_init : MethodName := ⟨RX2, "<init>", "()V"⟩
abbrev cX2_fewestSeams : ByteArray := prog_4_method_2_code
def yX2_fewestSeams : MethodName := ⟨RX2, "fewestSeams", "(LStripFlag$Plan;II)I"⟩
abbrev cX2_lesser : ByteArray := prog_4_method_3_code
def yX2_lesser : MethodName := ⟨RX2, "lesser", "(II)I"⟩
abbrev cX2_findWeak : ByteArray := prog_4_method_4_code
def yX2_findWeak : MethodName := ⟨RX2, "findWeak", "(LStripFlag$Plan;LStripFlag$Cloth;II)V"⟩
abbrev cX2_addWeak : ByteArray := prog_4_method_5_code
def yX2_addWeak : MethodName := ⟨RX2, "addWeak", "(II)V"⟩
abbrev cX2_fewestHems : ByteArray := prog_4_method_6_code
def yX2_fewestHems : MethodName := ⟨RX2, "fewestHems", "(I)I"⟩
abbrev cX2_isHeld : ByteArray := prog_4_method_7_code
def yX2_isHeld : MethodName := ⟨RX2, "isHeld", "(I)Z"⟩
abbrev cX2_leastThread : ByteArray := prog_4_method_8_code
def yX2_leastThread : MethodName := ⟨RX2, "leastThread", "(LStripFlag$Plan;I)I"⟩
abbrev cX2_isMended : ByteArray := prog_4_method_9_code
def yX2_isMended : MethodName := ⟨RX2, "isMended", "(II)Z"⟩
def RX3 : String := "StripFlag$Painter"
def TX3 : u_T := fun k => match k with
  | 0 => ("StripFlag$Painter", "found", "Z", false)
  | 1 => ("StripFlag$Painter", "leastSum", "I", false)
  | 2 => ("StripFlag$Painter", "best", "[I", true)
  | 3 => ("StripFlag$Painter", "near", "[I", true)
  | 4 => ("StripFlag$Painter", "open", "[I", true)
  | 5 => ("StripFlag$Painter", "chosen", "[I", true)
  | _ => ("StripFlag$Painter", "cheapest", "I", false)
def tyX3 : Nat → FieldType := fun k => match k with
  | 0 => .boolean
  | 1 => .int
  | 2 => .array .int
  | 3 => .array .int
  | 4 => .array .int
  | 5 => .array .int
  | _ => .int
abbrev wsX30 : List Cond := u_ws RX3 TX3 7
theorem nmX3 : ∀ a, a < 7 → ∀ b, b < 7 → a ≠ b → (TX3 a).2.1 ≠ (TX3 b).2.1 := by decide +kernel
theorem tyX3_ok : ∀ k, k < 7 → parseFieldDescriptor (TX3 k).2.2.1 = some (tyX3 k) := by decide +kernel
abbrev cX3_init : ByteArray := prog_5_method_1_code
def yX3_init : MethodName := ⟨RX3, "<init>", "()V"⟩
abbrev cX3_look : ByteArray := prog_5_method_2_code
def yX3_look : MethodName := ⟨RX3, "look", "(LStripFlag$Plan;I)V"⟩
abbrev cX3_paintAnew : ByteArray := prog_5_method_3_code
def yX3_paintAnew : MethodName := ⟨RX3, "paintAnew", "(LStripFlag$Plan;I)V"⟩
abbrev cX3_paintFrom : ByteArray := prog_5_method_4_code
def yX3_paintFrom : MethodName := ⟨RX3, "paintFrom", "(LStripFlag$Painter;LStripFlag$Plan;II)V"⟩
abbrev cX3_take : ByteArray := prog_5_method_5_code
def yX3_take : MethodName := ⟨RX3, "take", "(I)V"⟩
abbrev cX3_usedNear : ByteArray := prog_5_method_6_code
def yX3_usedNear : MethodName := ⟨RX3, "usedNear", "(I)I"⟩
abbrev cX3_lookBack : ByteArray := prog_5_method_7_code
def yX3_lookBack : MethodName := ⟨RX3, "lookBack", "(LStripFlag$Plan;I[I)V"⟩
abbrev cX3_waysFrom : ByteArray := prog_5_method_8_code
def yX3_waysFrom : MethodName := ⟨RX3, "waysFrom", "(LStripFlag$Painter;LStripFlag$Plan;I)I"⟩
abbrev cX3_ways : ByteArray := prog_5_method_9_code
def yX3_ways : MethodName := ⟨RX3, "ways", "(LStripFlag$Plan;)I"⟩
abbrev cX3_onlyColour : ByteArray := prog_5_method_10_code
def yX3_onlyColour : MethodName := ⟨RX3, "onlyColour", "(LStripFlag$Plan;I)I"⟩
def RX4 : String := "StripFlag$Plan"
def TX4 : u_T := fun k => match k with
  | 0 => ("StripFlag$Plan", "prices", "[I", true)
  | 1 => ("StripFlag$Plan", "dyes", "[I", true)
  | 2 => ("StripFlag$Plan", "from", "[I", true)
  | 3 => ("StripFlag$Plan", "to", "[I", true)
  | 4 => ("StripFlag$Plan", "strengths", "[I", true)
  | 5 => ("StripFlag$Plan", "ends", "[I", true)
  | 6 => ("StripFlag$Plan", "couldEnds", "[I", true)
  | 7 => ("StripFlag$Plan", "threads", "[I", true)
  | 8 => ("StripFlag$Plan", "colours", "I", false)
  | 9 => ("StripFlag$Plan", "strips", "I", false)
  | 10 => ("StripFlag$Plan", "seams", "I", false)
  | _ => ("StripFlag$Plan", "coulds", "I", false)
def tyX4 : Nat → FieldType := fun k => match k with
  | 0 => .array .int
  | 1 => .array .int
  | 2 => .array .int
  | 3 => .array .int
  | 4 => .array .int
  | 5 => .array .int
  | 6 => .array .int
  | 7 => .array .int
  | 8 => .int
  | 9 => .int
  | 10 => .int
  | _ => .int
abbrev wsX40 : List Cond := u_ws RX4 TX4 12
theorem nmX4 : ∀ a, a < 12 → ∀ b, b < 12 → a ≠ b → (TX4 a).2.1 ≠ (TX4 b).2.1 := by decide +kernel
theorem tyX4_ok : ∀ k, k < 12 → parseFieldDescriptor (TX4 k).2.2.1 = some (tyX4 k) := by decide +kernel
abbrev cX4_init : ByteArray := prog_6_method_1_code
def yX4_init : MethodName := ⟨RX4, "<init>", "()V"⟩
abbrev cX4_clear : ByteArray := prog_6_method_2_code
def yX4_clear : MethodName := ⟨RX4, "clear", "()V"⟩
abbrev cX4_addColour : ByteArray := prog_6_method_3_code
def yX4_addColour : MethodName := ⟨RX4, "addColour", "(I)V"⟩
abbrev cX4_addStrip : ByteArray := prog_6_method_4_code
def yX4_addStrip : MethodName := ⟨RX4, "addStrip", "(I)V"⟩
abbrev cX4_addSeam : ByteArray := prog_6_method_5_code
def yX4_addSeam : MethodName := ⟨RX4, "addSeam", "(III)V"⟩
abbrev cX4_addCould : ByteArray := prog_6_method_6_code
def yX4_addCould : MethodName := ⟨RX4, "addCould", "(III)V"⟩
abbrev cX4_hasStrip : ByteArray := prog_6_method_7_code
def yX4_hasStrip : MethodName := ⟨RX4, "hasStrip", "(I)Z"⟩
abbrev cX4_hasSeam : ByteArray := prog_6_method_8_code
def yX4_hasSeam : MethodName := ⟨RX4, "hasSeam", "(I)Z"⟩
abbrev cX4_hasColour : ByteArray := prog_6_method_9_code
def yX4_hasColour : MethodName := ⟨RX4, "hasColour", "(I)Z"⟩
abbrev cX4_hasStrips : ByteArray := prog_6_method_10_code
def yX4_hasStrips : MethodName := ⟨RX4, "hasStrips", "(I)Z"⟩
abbrev cX4_hasColours : ByteArray := prog_6_method_11_code
def yX4_hasColours : MethodName := ⟨RX4, "hasColours", "(I)Z"⟩
abbrev cX4_allStrips : ByteArray := prog_6_method_12_code
def yX4_allStrips : MethodName := ⟨RX4, "allStrips", "()I"⟩
abbrev cX4_allColours : ByteArray := prog_6_method_13_code
def yX4_allColours : MethodName := ⟨RX4, "allColours", "()I"⟩
abbrev cX4_priceOf : ByteArray := prog_6_method_14_code
def yX4_priceOf : MethodName := ⟨RX4, "priceOf", "(I)I"⟩
abbrev cX4_cheapest : ByteArray := prog_6_method_15_code
def yX4_cheapest : MethodName := ⟨RX4, "cheapest", "()I"⟩
abbrev cX4_threadOf : ByteArray := prog_6_method_16_code
def yX4_threadOf : MethodName := ⟨RX4, "threadOf", "(I)I"⟩
abbrev cX4_crossing : ByteArray := prog_6_method_17_code
def yX4_crossing : MethodName := ⟨RX4, "crossing", "(II)I"⟩
abbrev cX4_couldsCrossing : ByteArray := prog_6_method_18_code
def yX4_couldsCrossing : MethodName := ⟨RX4, "couldsCrossing", "(I)I"⟩
abbrev cX4_seamsOf : ByteArray := prog_6_method_19_code
def yX4_seamsOf : MethodName := ⟨RX4, "seamsOf", "(II)I"⟩
abbrev cX4_bordering : ByteArray := prog_6_method_20_code
def yX4_bordering : MethodName := ⟨RX4, "bordering", "(II)I"⟩
abbrev cX4_unpickable : ByteArray := prog_6_method_21_code
def yX4_unpickable : MethodName := ⟨RX4, "unpickable", "(III)I"⟩
abbrev cX4_flying : ByteArray := prog_6_method_22_code
def yX4_flying : MethodName := ⟨RX4, "flying", "(I)I"⟩
abbrev cX4_spread : ByteArray := prog_6_method_23_code
def yX4_spread : MethodName := ⟨RX4, "spread", "(II)I"⟩
def RX5 : String := "StripFlag$Text"
def TX5 : u_T := fun k => match k with
  | 0 => ("StripFlag$Text", "signs", "[B", true)
  | 1 => ("StripFlag$Text", "length", "I", false)
  | 2 => ("StripFlag$Text", "fault", "I", false)
  | 3 => ("StripFlag$Text", "place", "I", false)
  | 4 => ("StripFlag$Text", "at", "I", false)
  | _ => ("StripFlag$Text", "numberAt", "I", false)
def tyX5 : Nat → FieldType := fun k => match k with
  | 0 => .array .byte
  | 1 => .int
  | 2 => .int
  | 3 => .int
  | 4 => .int
  | _ => .int
abbrev wsX50 : List Cond := u_ws RX5 TX5 6
theorem nmX5 : ∀ a, a < 6 → ∀ b, b < 6 → a ≠ b → (TX5 a).2.1 ≠ (TX5 b).2.1 := by decide +kernel
theorem tyX5_ok : ∀ k, k < 6 → parseFieldDescriptor (TX5 k).2.2.1 = some (tyX5 k) := by decide +kernel
abbrev cX5_init : ByteArray := prog_7_method_1_code
def yX5_init : MethodName := ⟨RX5, "<init>", "()V"⟩
abbrev cX5_hasRoom : ByteArray := prog_7_method_2_code
def yX5_hasRoom : MethodName := ⟨RX5, "hasRoom", "(I)Z"⟩
abbrev cX5_add : ByteArray := prog_7_method_3_code
def yX5_add : MethodName := ⟨RX5, "add", "(IJ)V"⟩
abbrev cX5_read : ByteArray := prog_7_method_4_code
def yX5_read : MethodName := ⟨RX5, "read", "(LStripFlag$Plan;)V"⟩
abbrev cX5_readClause : ByteArray := prog_7_method_5_code
def yX5_readClause : MethodName := ⟨RX5, "readClause", "(LStripFlag$Plan;)V"⟩
abbrev cX5_isTooMany : ByteArray := prog_7_method_6_code
def yX5_isTooMany : MethodName := ⟨RX5, "isTooMany", "(LStripFlag$Plan;I)Z"⟩
abbrev cX5_readColours : ByteArray := prog_7_method_7_code
def yX5_readColours : MethodName := ⟨RX5, "readColours", "(LStripFlag$Plan;)V"⟩
abbrev cX5_readNumbers : ByteArray := prog_7_method_8_code
def yX5_readNumbers : MethodName := ⟨RX5, "readNumbers", "(LStripFlag$Plan;I)V"⟩
abbrev cX5_addTold : ByteArray := prog_7_method_9_code
def yX5_addTold : MethodName := ⟨RX5, "addTold", "(LStripFlag$Plan;IIII)V"⟩
abbrev cX5_readEnd : ByteArray := prog_7_method_10_code
def yX5_readEnd : MethodName := ⟨RX5, "readEnd", "()V"⟩
abbrev cX5_readNumber : ByteArray := prog_7_method_11_code
def yX5_readNumber : MethodName := ⟨RX5, "readNumber", "(II)I"⟩
abbrev cX5_readWord : ByteArray := prog_7_method_12_code
def yX5_readWord : MethodName := ⟨RX5, "readWord", "()I"⟩
abbrev cX5_isWord : ByteArray := prog_7_method_13_code
def yX5_isWord : MethodName := ⟨RX5, "isWord", "(ILjava/lang/String;)Z"⟩
abbrev cX5_endOfRun : ByteArray := prog_7_method_14_code
def yX5_endOfRun : MethodName := ⟨RX5, "endOfRun", "(II)I"⟩
abbrev cX5_skipBlanks : ByteArray := prog_7_method_15_code
def yX5_skipBlanks : MethodName := ⟨RX5, "skipBlanks", "()V"⟩
abbrev cX5_sign : ByteArray := prog_7_method_16_code
def yX5_sign : MethodName := ⟨RX5, "sign", "()I"⟩
abbrev cX5_signAt : ByteArray := prog_7_method_17_code
def yX5_signAt : MethodName := ⟨RX5, "signAt", "(I)I"⟩
abbrev cX5_fail : ByteArray := prog_7_method_18_code
def yX5_fail : MethodName := ⟨RX5, "fail", "(II)V"⟩
def RX6 : String := "StripFlag$Turns"
def TX6 : u_T := fun k => match k with
  | 0 => ("StripFlag$Turns", "worth", "I", false)
  | 1 => ("StripFlag$Turns", "taken", "I", false)
  | 2 => ("StripFlag$Turns", "first", "I", false)
  | 3 => ("StripFlag$Turns", "second", "I", false)
  | 4 => ("StripFlag$Turns", "turns", "I", false)
  | _ => ("StripFlag$Turns", "hems", "I", false)
def tyX6 : Nat → FieldType := fun k => match k with
  | 0 => .int
  | 1 => .int
  | 2 => .int
  | 3 => .int
  | 4 => .int
  | _ => .int
abbrev wsX60 : List Cond := u_ws RX6 TX6 6
theorem nmX6 : ∀ a, a < 6 → ∀ b, b < 6 → a ≠ b → (TX6 a).2.1 ≠ (TX6 b).2.1 := by decide +kernel
theorem tyX6_ok : ∀ k, k < 6 → parseFieldDescriptor (TX6 k).2.2.1 = some (tyX6 k) := by decide +kernel
abbrev cX6_init : ByteArray := prog_8_method_1_code
def yX6_init : MethodName := ⟨RX6, "<init>", "()V"⟩
abbrev cX6_begin : ByteArray := prog_8_method_2_code
def yX6_begin : MethodName := ⟨RX6, "begin", "(IIII)V"⟩
abbrev cX6_play : ByteArray := prog_8_method_3_code
def yX6_play : MethodName := ⟨RX6, "play", "(LStripFlag$Plan;I)V"⟩
abbrev cX6_worthFrom : ByteArray := prog_8_method_4_code
def yX6_worthFrom : MethodName := ⟨RX6, "worthFrom", "(LStripFlag$Turns;LStripFlag$Plan;IIII)I"⟩
abbrev cX6_mover : ByteArray := prog_8_method_5_code
def yX6_mover : MethodName := ⟨RX6, "mover", "(I)I"⟩
abbrev cX6_worthAtEnd : ByteArray := prog_8_method_6_code
def yX6_worthAtEnd : MethodName := ⟨RX6, "worthAtEnd", "(LStripFlag$Plan;II)I"⟩
def RX7 : String := "StripFlag$Year"
def TX7 : u_T := fun k => match k with
  | 0 => ("StripFlag$Year", "strip", "I", false)
  | _ => ("StripFlag$Year", "percent", "I", false)
def tyX7 : Nat → FieldType := fun k => match k with
  | 0 => .int
  | _ => .int
abbrev wsX70 : List Cond := u_ws RX7 TX7 2
theorem nmX7 : ∀ a, a < 2 → ∀ b, b < 2 → a ≠ b → (TX7 a).2.1 ≠ (TX7 b).2.1 := by decide +kernel
theorem tyX7_ok : ∀ k, k < 2 → parseFieldDescriptor (TX7 k).2.2.1 = some (tyX7 k) := by decide +kernel
abbrev cX7_init : ByteArray := prog_9_method_1_code
def yX7_init : MethodName := ⟨RX7, "<init>", "()V"⟩
abbrev cX7_begin : ByteArray := prog_9_method_2_code
def yX7_begin : MethodName := ⟨RX7, "begin", "(II)V"⟩
abbrev cX7_partFlying : ByteArray := prog_9_method_3_code
def yX7_partFlying : MethodName := ⟨RX7, "partFlying", "(LStripFlag$Year;LStripFlag$Plan;IIIJ)J"⟩
abbrev cX7_ofBillion : ByteArray := prog_9_method_4_code
def yX7_ofBillion : MethodName := ⟨RX7, "ofBillion", "(LStripFlag$Plan;II)I"⟩
def RX8 : String := "StripFlag"
def TX8 : u_T := fun k => match k with
  | 0 => ("StripFlag", "text", "LStripFlag$Text;", true)
  | 1 => ("StripFlag", "now", "LStripFlag$Cloth;", true)
  | 2 => ("StripFlag", "images", "[LStripFlag$Cloth;", true)
  | 3 => ("StripFlag", "book", "LStripFlag$Book;", true)
  | 4 => ("StripFlag", "cuts", "LStripFlag$Cuts;", true)
  | 5 => ("StripFlag", "year", "LStripFlag$Year;", true)
  | 6 => ("StripFlag", "turns", "LStripFlag$Turns;", true)
  | 7 => ("StripFlag", "painter", "LStripFlag$Painter;", true)
  | 8 => ("StripFlag", "lefts", "[I", true)
  | 9 => ("StripFlag", "plan", "LStripFlag$Plan;", false)
  | 10 => ("StripFlag", "spare", "LStripFlag$Plan;", false)
  | _ => ("StripFlag", "kept", "I", false)
def tyX8 : Nat → FieldType := fun k => match k with
  | 0 => .object "StripFlag$Text"
  | 1 => .object "StripFlag$Cloth"
  | 2 => .array (.object "StripFlag$Cloth")
  | 3 => .object "StripFlag$Book"
  | 4 => .object "StripFlag$Cuts"
  | 5 => .object "StripFlag$Year"
  | 6 => .object "StripFlag$Turns"
  | 7 => .object "StripFlag$Painter"
  | 8 => .array .int
  | 9 => .object "StripFlag$Plan"
  | 10 => .object "StripFlag$Plan"
  | _ => .int
abbrev wsX80 : List Cond := u_ws RX8 TX8 12
theorem nmX8 : ∀ a, a < 12 → ∀ b, b < 12 → a ≠ b → (TX8 a).2.1 ≠ (TX8 b).2.1 := by decide +kernel
theorem tyX8_ok : ∀ k, k < 12 → parseFieldDescriptor (TX8 k).2.2.1 = some (tyX8 k) := by decide +kernel
abbrev cX8_init : ByteArray := prog_1_method_1_code
def yX8_init : MethodName := ⟨RX8, "<init>", "()V"⟩
abbrev cX8_feed : ByteArray := prog_1_method_2_code
def yX8_feed : MethodName := ⟨RX8, "feed", "(IJ)I"⟩
abbrev cX8_flag : ByteArray := prog_1_method_3_code
def yX8_flag : MethodName := ⟨RX8, "flag", "()I"⟩
abbrev cX8_fault : ByteArray := prog_1_method_4_code
def yX8_fault : MethodName := ⟨RX8, "fault", "()I"⟩
abbrev cX8_told : ByteArray := prog_1_method_5_code
def yX8_told : MethodName := ⟨RX8, "told", "(I)I"⟩
abbrev cX8_seam : ByteArray := prog_1_method_6_code
def yX8_seam : MethodName := ⟨RX8, "seam", "(II)I"⟩
abbrev cX8_strip : ByteArray := prog_1_method_7_code
def yX8_strip : MethodName := ⟨RX8, "strip", "(II)I"⟩
abbrev cX8_flies : ByteArray := prog_1_method_8_code
def yX8_flies : MethodName := ⟨RX8, "flies", "(I)I"⟩
abbrev cX8_unpick : ByteArray := prog_1_method_9_code
def yX8_unpick : MethodName := ⟨RX8, "unpick", "(II)I"⟩
abbrev cX8_sew : ByteArray := prog_1_method_10_code
def yX8_sew : MethodName := ⟨RX8, "sew", "(II)I"⟩
abbrev cX8_hem : ByteArray := prog_1_method_11_code
def yX8_hem : MethodName := ⟨RX8, "hem", "(IZ)I"⟩
abbrev cX8_fray : ByteArray := prog_1_method_12_code
def yX8_fray : MethodName := ⟨RX8, "fray", "(I)I"⟩
abbrev cX8_dye : ByteArray := prog_1_method_13_code
def yX8_dye : MethodName := ⟨RX8, "dye", "(II)I"⟩
abbrev cX8_drift : ByteArray := prog_1_method_14_code
def yX8_drift : MethodName := ⟨RX8, "drift", "(I)I"⟩
abbrev cX8_cut : ByteArray := prog_1_method_15_code
def yX8_cut : MethodName := ⟨RX8, "cut", "(II)I"⟩
abbrev cX8_lasts : ByteArray := prog_1_method_16_code
def yX8_lasts : MethodName := ⟨RX8, "lasts", "(II)I"⟩
abbrev cX8_hems : ByteArray := prog_1_method_17_code
def yX8_hems : MethodName := ⟨RX8, "hems", "(II)I"⟩
abbrev cX8_thread : ByteArray := prog_1_method_18_code
def yX8_thread : MethodName := ⟨RX8, "thread", "(II)I"⟩
abbrev cX8_odds : ByteArray := prog_1_method_19_code
def yX8_odds : MethodName := ⟨RX8, "odds", "(II)I"⟩
abbrev cX8_turnsOf : ByteArray := prog_1_method_20_code
def yX8_turnsOf : MethodName := ⟨RX8, "turnsOf", "(IIII)I"⟩
abbrev cX8_colours : ByteArray := prog_1_method_21_code
def yX8_colours : MethodName := ⟨RX8, "colours", "(I)I"⟩
abbrev cX8_left : ByteArray := prog_1_method_22_code
def yX8_left : MethodName := ⟨RX8, "left", "(II)I"⟩
abbrev cX8_fits : ByteArray := prog_1_method_23_code
def yX8_fits : MethodName := ⟨RX8, "fits", "()I"⟩
abbrev cX8_sure : ByteArray := prog_1_method_24_code
def yX8_sure : MethodName := ⟨RX8, "sure", "(I)I"⟩
abbrev cX8_write : ByteArray := prog_1_method_25_code
def yX8_write : MethodName := ⟨RX8, "write", "(II)I"⟩
abbrev cX8_tear : ByteArray := prog_1_method_26_code
def yX8_tear : MethodName := ⟨RX8, "tear", "()I"⟩
abbrev cX8_judge : ByteArray := prog_1_method_27_code
def yX8_judge : MethodName := ⟨RX8, "judge", "()I"⟩
abbrev cX8_seed : ByteArray := prog_1_method_28_code
def yX8_seed : MethodName := ⟨RX8, "seed", "(I)I"⟩
abbrev cX8_keep : ByteArray := prog_1_method_29_code
def yX8_keep : MethodName := ⟨RX8, "keep", "(I)I"⟩
abbrev cX8_goBack : ByteArray := prog_1_method_30_code
def yX8_goBack : MethodName := ⟨RX8, "goBack", "(I)I"⟩
abbrev cX8_has : ByteArray := prog_1_method_31_code
def yX8_has : MethodName := ⟨RX8, "has", "(II)Z"⟩
def RX9 : String := "StripFlagModel"
def TX9 : u_T := fun k => match k with
  | 0 => ("StripFlagModel", "text", "[I", true)
  | 1 => ("StripFlagModel", "many", "I", false)
  | 2 => ("StripFlagModel", "fault", "I", false)
  | 3 => ("StripFlagModel", "at", "I", false)
  | 4 => ("StripFlagModel", "wrong", "I", false)
  | 5 => ("StripFlagModel", "wrongAt", "I", false)
  | 6 => ("StripFlagModel", "begin", "I", false)
  | 7 => ("StripFlagModel", "read", "[I", true)
  | 8 => ("StripFlagModel", "readPrices", "[I", true)
  | 9 => ("StripFlagModel", "readOf", "[I", true)
  | 10 => ("StripFlagModel", "readA", "[I", true)
  | 11 => ("StripFlagModel", "readB", "[I", true)
  | 12 => ("StripFlagModel", "readS", "[I", true)
  | 13 => ("StripFlagModel", "colours", "I", false)
  | 14 => ("StripFlagModel", "strips", "I", false)
  | 15 => ("StripFlagModel", "seams", "I", false)
  | 16 => ("StripFlagModel", "coulds", "I", false)
  | 17 => ("StripFlagModel", "prices", "[I", true)
  | 18 => ("StripFlagModel", "dyes", "[I", true)
  | 19 => ("StripFlagModel", "lefts", "[I", true)
  | 20 => ("StripFlagModel", "ends", "[I", true)
  | 21 => ("StripFlagModel", "others", "[I", true)
  | 22 => ("StripFlagModel", "strengths", "[I", true)
  | 23 => ("StripFlagModel", "threads", "[I", true)
  | 24 => ("StripFlagModel", "hems", "I", false)
  | 25 => ("StripFlagModel", "seed", "I", false)
  | 26 => ("StripFlagModel", "parts", "[J", true)
  | 27 => ("StripFlagModel", "stands", "[I", true)
  | 28 => ("StripFlagModel", "tries", "[I", true)
  | 29 => ("StripFlagModel", "bests", "[I", true)
  | 30 => ("StripFlagModel", "firstMove", "I", false)
  | 31 => ("StripFlagModel", "tried", "[I", true)
  | 32 => ("StripFlagModel", "found", "[I", true)
  | 33 => ("StripFlagModel", "mayBe", "[I", true)
  | 34 => ("StripFlagModel", "near", "[I", true)
  | 35 => ("StripFlagModel", "cheapest", "I", false)
  | 36 => ("StripFlagModel", "entries", "I", false)
  | 37 => ("StripFlagModel", "who", "[I", true)
  | 38 => ("StripFlagModel", "which", "[I", true)
  | _ => ("StripFlagModel", "kept", "[I", true)
def tyX9 : Nat → FieldType := fun k => match k with
  | 0 => .array .int
  | 1 => .int
  | 2 => .int
  | 3 => .int
  | 4 => .int
  | 5 => .int
  | 6 => .int
  | 7 => .array .int
  | 8 => .array .int
  | 9 => .array .int
  | 10 => .array .int
  | 11 => .array .int
  | 12 => .array .int
  | 13 => .int
  | 14 => .int
  | 15 => .int
  | 16 => .int
  | 17 => .array .int
  | 18 => .array .int
  | 19 => .array .int
  | 20 => .array .int
  | 21 => .array .int
  | 22 => .array .int
  | 23 => .array .int
  | 24 => .int
  | 25 => .int
  | 26 => .array .long
  | 27 => .array .int
  | 28 => .array .int
  | 29 => .array .int
  | 30 => .int
  | 31 => .array .int
  | 32 => .array .int
  | 33 => .array .int
  | 34 => .array .int
  | 35 => .int
  | 36 => .int
  | 37 => .array .int
  | 38 => .array .int
  | _ => .array .int
abbrev wsX90 : List Cond := u_ws RX9 TX9 40
theorem nmX9 : ∀ a, a < 40 → ∀ b, b < 40 → a ≠ b → (TX9 a).2.1 ≠ (TX9 b).2.1 := by decide +kernel
theorem tyX9_ok : ∀ k, k < 40 → parseFieldDescriptor (TX9 k).2.2.1 = some (tyX9 k) := by decide +kernel
abbrev cX9_in : ByteArray := prog_11_method_2_code
def yX9_in : MethodName := ⟨RX9, "in", "(JJJ)Z"⟩
abbrev cX9_init : ByteArray := prog_11_method_3_code
def yX9_init : MethodName := ⟨RX9, "<init>", "()V"⟩
abbrev cX9_size : ByteArray := prog_11_method_4_code
def yX9_size : MethodName := ⟨RX9, "size", "(I)I"⟩
abbrev cX9_feed : ByteArray := prog_11_method_5_code
def yX9_feed : MethodName := ⟨RX9, "feed", "(IJ)I"⟩
abbrev cX9_fails : ByteArray := prog_11_method_6_code
def yX9_fails : MethodName := ⟨RX9, "fails", "(II)V"⟩
abbrev cX9_here : ByteArray := prog_11_method_7_code
def yX9_here : MethodName := ⟨RX9, "here", "()I"⟩
abbrev cX9_isEnd : ByteArray := prog_11_method_8_code
def yX9_isEnd : MethodName := ⟨RX9, "isEnd", "()Z"⟩
abbrev cX9_isLetter : ByteArray := prog_11_method_9_code
def yX9_isLetter : MethodName := ⟨RX9, "isLetter", "(I)Z"⟩
abbrev cX9_isFigure : ByteArray := prog_11_method_10_code
def yX9_isFigure : MethodName := ⟨RX9, "isFigure", "(I)Z"⟩
abbrev cX9_must : ByteArray := prog_11_method_11_code
def yX9_must : MethodName := ⟨RX9, "must", "(I)V"⟩
abbrev cX9_number : ByteArray := prog_11_method_12_code
def yX9_number : MethodName := ⟨RX9, "number", "(II)I"⟩
abbrev cX9_word : ByteArray := prog_11_method_13_code
def yX9_word : MethodName := ⟨RX9, "word", "()I"⟩
abbrev cX9_readColours : ByteArray := prog_11_method_14_code
def yX9_readColours : MethodName := ⟨RX9, "readColours", "()V"⟩
abbrev cX9_readSeam : ByteArray := prog_11_method_15_code
def yX9_readSeam : MethodName := ⟨RX9, "readSeam", "(II)V"⟩
abbrev cX9_readClause : ByteArray := prog_11_method_16_code
def yX9_readClause : MethodName := ⟨RX9, "readClause", "(Z)V"⟩
abbrev cX9_flag : ByteArray := prog_11_method_17_code
def yX9_flag : MethodName := ⟨RX9, "flag", "()I"⟩
abbrev cX9_takes : ByteArray := prog_11_method_18_code
def yX9_takes : MethodName := ⟨RX9, "takes", "()V"⟩
abbrev cX9_fault : ByteArray := prog_11_method_19_code
def yX9_fault : MethodName := ⟨RX9, "fault", "()I"⟩
abbrev cX9_isStrip : ByteArray := prog_11_method_20_code
def yX9_isStrip : MethodName := ⟨RX9, "isStrip", "(I)Z"⟩
abbrev cX9_isSeam : ByteArray := prog_11_method_21_code
def yX9_isSeam : MethodName := ⟨RX9, "isSeam", "(I)Z"⟩
abbrev cX9_areStrips : ByteArray := prog_11_method_22_code
def yX9_areStrips : MethodName := ⟨RX9, "areStrips", "(I)Z"⟩
abbrev cX9_there : ByteArray := prog_11_method_23_code
def yX9_there : MethodName := ⟨RX9, "there", "(I)I"⟩
abbrev cX9_told : ByteArray := prog_11_method_24_code
def yX9_told : MethodName := ⟨RX9, "told", "(I)I"⟩
abbrev cX9_seam : ByteArray := prog_11_method_25_code
def yX9_seam : MethodName := ⟨RX9, "seam", "(II)I"⟩
abbrev cX9_isOn : ByteArray := prog_11_method_26_code
def yX9_isOn : MethodName := ⟨RX9, "isOn", "(II)Z"⟩
abbrev cX9_borders : ByteArray := prog_11_method_27_code
def yX9_borders : MethodName := ⟨RX9, "borders", "(II)I"⟩
abbrev cX9_seamsOf : ByteArray := prog_11_method_28_code
def yX9_seamsOf : MethodName := ⟨RX9, "seamsOf", "(II)I"⟩
abbrev cX9_strip : ByteArray := prog_11_method_29_code
def yX9_strip : MethodName := ⟨RX9, "strip", "(II)I"⟩
abbrev cX9_flying : ByteArray := prog_11_method_30_code
def yX9_flying : MethodName := ⟨RX9, "flying", "(I)I"⟩
abbrev cX9_flies : ByteArray := prog_11_method_31_code
def yX9_flies : MethodName := ⟨RX9, "flies", "(I)I"⟩
abbrev cX9_mayUnpick : ByteArray := prog_11_method_32_code
def yX9_mayUnpick : MethodName := ⟨RX9, "mayUnpick", "(IIII)Z"⟩
abbrev cX9_unpick : ByteArray := prog_11_method_33_code
def yX9_unpick : MethodName := ⟨RX9, "unpick", "(II)I"⟩
abbrev cX9_sew : ByteArray := prog_11_method_34_code
def yX9_sew : MethodName := ⟨RX9, "sew", "(II)I"⟩
abbrev cX9_hem : ByteArray := prog_11_method_35_code
def yX9_hem : MethodName := ⟨RX9, "hem", "(IZ)I"⟩
abbrev cX9_frays : ByteArray := prog_11_method_36_code
def yX9_frays : MethodName := ⟨RX9, "frays", "(I)I"⟩
abbrev cX9_fray : ByteArray := prog_11_method_37_code
def yX9_fray : MethodName := ⟨RX9, "fray", "(I)I"⟩
abbrev cX9_dye : ByteArray := prog_11_method_38_code
def yX9_dye : MethodName := ⟨RX9, "dye", "(II)I"⟩
abbrev cX9_draws : ByteArray := prog_11_method_39_code
def yX9_draws : MethodName := ⟨RX9, "draws", "(I)I"⟩
abbrev cX9_drift : ByteArray := prog_11_method_40_code
def yX9_drift : MethodName := ⟨RX9, "drift", "(I)I"⟩
abbrev cX9_seed : ByteArray := prog_11_method_41_code
def yX9_seed : MethodName := ⟨RX9, "seed", "(I)I"⟩
abbrev cX9_cut : ByteArray := prog_11_method_42_code
def yX9_cut : MethodName := ⟨RX9, "cut", "(II)I"⟩
abbrev cX9_doLast : ByteArray := prog_11_method_43_code
def yX9_doLast : MethodName := ⟨RX9, "doLast", "(IIII)Z"⟩
abbrev cX9_lasts : ByteArray := prog_11_method_44_code
def yX9_lasts : MethodName := ⟨RX9, "lasts", "(II)I"⟩
abbrev cX9_hems : ByteArray := prog_11_method_45_code
def yX9_hems : MethodName := ⟨RX9, "hems", "(II)I"⟩
abbrev cX9_thread : ByteArray := prog_11_method_46_code
def yX9_thread : MethodName := ⟨RX9, "thread", "(II)I"⟩
abbrev cX9_odds : ByteArray := prog_11_method_47_code
def yX9_odds : MethodName := ⟨RX9, "odds", "(II)I"⟩
abbrev cX9_worth : ByteArray := prog_11_method_48_code
def yX9_worth : MethodName := ⟨RX9, "worth", "(III)I"⟩
abbrev cX9_opens : ByteArray := prog_11_method_49_code
def yX9_opens : MethodName := ⟨RX9, "opens", "(II)V"⟩
abbrev cX9_plays : ByteArray := prog_11_method_50_code
def yX9_plays : MethodName := ⟨RX9, "plays", "(III)I"⟩
abbrev cX9_turnsOf : ByteArray := prog_11_method_51_code
def yX9_turnsOf : MethodName := ⟨RX9, "turnsOf", "(IIII)I"⟩
abbrev cX9_rows : ByteArray := prog_11_method_52_code
def yX9_rows : MethodName := ⟨RX9, "rows", "(Z)I"⟩
abbrev cX9_isApart : ByteArray := prog_11_method_53_code
def yX9_isApart : MethodName := ⟨RX9, "isApart", "(I)Z"⟩
abbrev cX9_colours : ByteArray := prog_11_method_54_code
def yX9_colours : MethodName := ⟨RX9, "colours", "(I)I"⟩
abbrev cX9_left : ByteArray := prog_11_method_55_code
def yX9_left : MethodName := ⟨RX9, "left", "(II)I"⟩
abbrev cX9_fits : ByteArray := prog_11_method_56_code
def yX9_fits : MethodName := ⟨RX9, "fits", "()I"⟩
abbrev cX9_sure : ByteArray := prog_11_method_57_code
def yX9_sure : MethodName := ⟨RX9, "sure", "(I)I"⟩
abbrev cX9_write : ByteArray := prog_11_method_58_code
def yX9_write : MethodName := ⟨RX9, "write", "(II)I"⟩
abbrev cX9_tear : ByteArray := prog_11_method_59_code
def yX9_tear : MethodName := ⟨RX9, "tear", "()I"⟩
abbrev cX9_judge : ByteArray := prog_11_method_60_code
def yX9_judge : MethodName := ⟨RX9, "judge", "()I"⟩
abbrev cX9_keep : ByteArray := prog_11_method_61_code
def yX9_keep : MethodName := ⟨RX9, "keep", "(I)I"⟩
abbrev cX9_goBack : ByteArray := prog_11_method_62_code
def yX9_goBack : MethodName := ⟨RX9, "goBack", "(I)I"⟩
def RL : String := "StripFlagLaw"
abbrev cL_law : ByteArray := code
def yL_law : MethodName := ⟨RL, "law", "([I)Z"⟩
abbrev vwCl : List vw_C := [(RX0, TX0, 3), (RX1, TX1, 4), (RX2, TX2, 3), (RX3, TX3, 7), (RX4, TX4, 12), (RX5, TX5, 6), (RX6, TX6, 6), (RX7, TX7, 2), (RX8, TX8, 12), (RX9, TX9, 40)]
end
section
theorem dX0_init_0 : decode cX0_init 0 = .ok (.aload_n 0, 1) := by decide +kernel
theorem dX0_init_1 : decode cX0_init 1 = .ok (.invokespecial 3, 3) := by decide +kernel
theorem dX0_init_4 : decode cX0_init 4 = .ok (.aload_n 0, 1) := by decide +kernel
theorem dX0_init_5 : decode cX0_init 5 = .ok (.bipush 30, 2) := by decide +kernel
theorem dX0_init_7 : decode cX0_init 7 = .ok (.newarray .int, 2) := by decide +kernel
theorem dX0_init_9 : decode cX0_init 9 = .ok (.putfield 9, 3) := by decide +kernel
theorem dX0_init_12 : decode cX0_init 12 = .ok (.aload_n 0, 1) := by decide +kernel
theorem dX0_init_13 : decode cX0_init 13 = .ok (.bipush 30, 2) := by decide +kernel
theorem dX0_init_15 : decode cX0_init 15 = .ok (.newarray .int, 2) := by decide +kernel
theorem dX0_init_17 : decode cX0_init 17 = .ok (.putfield 15, 3) := by decide +kernel
theorem dX0_init_20 : decode cX0_init 20 = .ok (.return_, 1) := by decide +kernel
theorem dX0_add_0 : decode cX0_add 0 = .ok (.aload_n 0, 1) := by decide +kernel
theorem dX0_add_1 : decode cX0_add 1 = .ok (.getfield 18, 3) := by decide +kernel
theorem dX0_add_4 : decode cX0_add 4 = .ok (.ifCond .lt 42, 3) := by decide +kernel
theorem dX0_add_7 : decode cX0_add 7 = .ok (.aload_n 0, 1) := by decide +kernel
theorem dX0_add_8 : decode cX0_add 8 = .ok (.getfield 18, 3) := by decide +kernel
theorem dX0_add_11 : decode cX0_add 11 = .ok (.bipush 30, 2) := by decide +kernel
theorem dX0_add_13 : decode cX0_add 13 = .ok (.if_icmp .ge 33, 3) := by decide +kernel
theorem dX0_add_16 : decode cX0_add 16 = .ok (.aload_n 0, 1) := by decide +kernel
theorem dX0_add_17 : decode cX0_add 17 = .ok (.getfield 9, 3) := by decide +kernel
theorem dX0_add_20 : decode cX0_add 20 = .ok (.aload_n 0, 1) := by decide +kernel
theorem dX0_add_21 : decode cX0_add 21 = .ok (.getfield 18, 3) := by decide +kernel
theorem dX0_add_24 : decode cX0_add 24 = .ok (.iload_n 1, 1) := by decide +kernel
theorem dX0_add_25 : decode cX0_add 25 = .ok (.iastore, 1) := by decide +kernel
theorem dX0_add_26 : decode cX0_add 26 = .ok (.aload_n 0, 1) := by decide +kernel
theorem dX0_add_27 : decode cX0_add 27 = .ok (.getfield 15, 3) := by decide +kernel
theorem dX0_add_30 : decode cX0_add 30 = .ok (.aload_n 0, 1) := by decide +kernel
theorem dX0_add_31 : decode cX0_add 31 = .ok (.getfield 18, 3) := by decide +kernel
theorem dX0_add_34 : decode cX0_add 34 = .ok (.iload_n 2, 1) := by decide +kernel
theorem dX0_add_35 : decode cX0_add 35 = .ok (.iastore, 1) := by decide +kernel
theorem dX0_add_36 : decode cX0_add 36 = .ok (.aload_n 0, 1) := by decide +kernel
theorem dX0_add_37 : decode cX0_add 37 = .ok (.dup, 1) := by decide +kernel
theorem dX0_add_38 : decode cX0_add 38 = .ok (.getfield 18, 3) := by decide +kernel
theorem dX0_add_41 : decode cX0_add 41 = .ok (.iconst 1, 1) := by decide +kernel
theorem dX0_add_42 : decode cX0_add 42 = .ok (.iadd, 1) := by decide +kernel
theorem dX0_add_43 : decode cX0_add 43 = .ok (.putfield 18, 3) := by decide +kernel
theorem dX0_add_46 : decode cX0_add 46 = .ok (.return_, 1) := by decide +kernel
theorem dX0_firstWrong_0 : decode cX0_firstWrong 0 = .ok (.aload_n 2, 1) := by decide +kernel
theorem dX0_firstWrong_1 : decode cX0_firstWrong 1 = .ok (.invokevirtual 22, 3) := by decide +kernel
theorem dX0_firstWrong_4 : decode cX0_firstWrong 4 = .ok (.istore_n 3, 1) := by decide +kernel
theorem dX0_firstWrong_5 : decode cX0_firstWrong 5 = .ok (.iconst 0, 1) := by decide +kernel
theorem dX0_firstWrong_6 : decode cX0_firstWrong 6 = .ok (.istore 4, 2) := by decide +kernel
theorem dX0_firstWrong_8 : decode cX0_firstWrong 8 = .ok (.iload 4, 2) := by decide +kernel
theorem dX0_firstWrong_10 : decode cX0_firstWrong 10 = .ok (.aload_n 0, 1) := by decide +kernel
theorem dX0_firstWrong_11 : decode cX0_firstWrong 11 = .ok (.getfield 18, 3) := by decide +kernel
theorem dX0_firstWrong_14 : decode cX0_firstWrong 14 = .ok (.if_icmp .ge 62, 3) := by decide +kernel
theorem dX0_firstWrong_17 : decode cX0_firstWrong 17 = .ok (.iload 4, 2) := by decide +kernel
theorem dX0_firstWrong_19 : decode cX0_firstWrong 19 = .ok (.bipush 30, 2) := by decide +kernel
theorem dX0_firstWrong_21 : decode cX0_firstWrong 21 = .ok (.if_icmp .ge 55, 3) := by decide +kernel
theorem dX0_firstWrong_24 : decode cX0_firstWrong 24 = .ok (.aload_n 1, 1) := by decide +kernel
theorem dX0_firstWrong_25 : decode cX0_firstWrong 25 = .ok (.aload_n 0, 1) := by decide +kernel
theorem dX0_firstWrong_26 : decode cX0_firstWrong 26 = .ok (.getfield 9, 3) := by decide +kernel
theorem dX0_firstWrong_29 : decode cX0_firstWrong 29 = .ok (.iload 4, 2) := by decide +kernel
theorem dX0_firstWrong_31 : decode cX0_firstWrong 31 = .ok (.iaload, 1) := by decide +kernel
theorem dX0_firstWrong_32 : decode cX0_firstWrong 32 = .ok (.iload_n 3, 1) := by decide +kernel
theorem dX0_firstWrong_33 : decode cX0_firstWrong 33 = .ok (.aload_n 2, 1) := by decide +kernel
theorem dX0_firstWrong_34 : decode cX0_firstWrong 34 = .ok (.getfield 28, 3) := by decide +kernel
theorem dX0_firstWrong_37 : decode cX0_firstWrong 37 = .ok (.invokevirtual 31, 3) := by decide +kernel
theorem dX0_firstWrong_40 : decode cX0_firstWrong 40 = .ok (.aload_n 0, 1) := by decide +kernel
theorem dX0_firstWrong_41 : decode cX0_firstWrong 41 = .ok (.getfield 15, 3) := by decide +kernel
theorem dX0_firstWrong_44 : decode cX0_firstWrong 44 = .ok (.iload 4, 2) := by decide +kernel
theorem dX0_firstWrong_46 : decode cX0_firstWrong 46 = .ok (.iaload, 1) := by decide +kernel
theorem dX0_firstWrong_47 : decode cX0_firstWrong 47 = .ok (.invokestatic 37, 3) := by decide +kernel
theorem dX0_firstWrong_50 : decode cX0_firstWrong 50 = .ok (.ifCond .ne 6, 3) := by decide +kernel
theorem dX0_firstWrong_53 : decode cX0_firstWrong 53 = .ok (.iload 4, 2) := by decide +kernel
theorem dX0_firstWrong_55 : decode cX0_firstWrong 55 = .ok (.ireturn, 1) := by decide +kernel
theorem dX0_firstWrong_56 : decode cX0_firstWrong 56 = .ok (.iload_n 3, 1) := by decide +kernel
theorem dX0_firstWrong_57 : decode cX0_firstWrong 57 = .ok (.iconst 1, 1) := by decide +kernel
theorem dX0_firstWrong_58 : decode cX0_firstWrong 58 = .ok (.aload_n 0, 1) := by decide +kernel
theorem dX0_firstWrong_59 : decode cX0_firstWrong 59 = .ok (.getfield 15, 3) := by decide +kernel
theorem dX0_firstWrong_62 : decode cX0_firstWrong 62 = .ok (.iload 4, 2) := by decide +kernel
theorem dX0_firstWrong_64 : decode cX0_firstWrong 64 = .ok (.iaload, 1) := by decide +kernel
theorem dX0_firstWrong_65 : decode cX0_firstWrong 65 = .ok (.ishl, 1) := by decide +kernel
theorem dX0_firstWrong_66 : decode cX0_firstWrong 66 = .ok (.iconst (-1), 1) := by decide +kernel
theorem dX0_firstWrong_67 : decode cX0_firstWrong 67 = .ok (.ixor, 1) := by decide +kernel
theorem dX0_firstWrong_68 : decode cX0_firstWrong 68 = .ok (.iand, 1) := by decide +kernel
theorem dX0_firstWrong_69 : decode cX0_firstWrong 69 = .ok (.istore_n 3, 1) := by decide +kernel
theorem dX0_firstWrong_70 : decode cX0_firstWrong 70 = .ok (.iinc 4 1, 3) := by decide +kernel
theorem dX0_firstWrong_73 : decode cX0_firstWrong 73 = .ok (.goto (-65), 3) := by decide +kernel
theorem dX0_firstWrong_76 : decode cX0_firstWrong 76 = .ok (.iconst (-1), 1) := by decide +kernel
theorem dX0_firstWrong_77 : decode cX0_firstWrong 77 = .ok (.ireturn, 1) := by decide +kernel
theorem dX1_init_0 : decode cX1_init 0 = .ok (.aload_n 0, 1) := by decide +kernel
theorem dX1_init_1 : decode cX1_init 1 = .ok (.invokespecial 3, 3) := by decide +kernel
theorem dX1_init_4 : decode cX1_init 4 = .ok (.aload_n 0, 1) := by decide +kernel
theorem dX1_init_5 : decode cX1_init 5 = .ok (.bipush 12, 2) := by decide +kernel
theorem dX1_init_7 : decode cX1_init 7 = .ok (.newarray .int, 2) := by decide +kernel
theorem dX1_init_9 : decode cX1_init 9 = .ok (.putfield 9, 3) := by decide +kernel
theorem dX1_init_12 : decode cX1_init 12 = .ok (.aload_n 0, 1) := by decide +kernel
theorem dX1_init_13 : decode cX1_init 13 = .ok (.bipush 8, 2) := by decide +kernel
theorem dX1_init_15 : decode cX1_init 15 = .ok (.newarray .int, 2) := by decide +kernel
theorem dX1_init_17 : decode cX1_init 17 = .ok (.putfield 15, 3) := by decide +kernel
theorem dX1_init_20 : decode cX1_init 20 = .ok (.return_, 1) := by decide +kernel
theorem dX1_begin_0 : decode cX1_begin 0 = .ok (.aload_n 1, 1) := by decide +kernel
theorem dX1_begin_1 : decode cX1_begin 1 = .ok (.getfield 18, 3) := by decide +kernel
theorem dX1_begin_4 : decode cX1_begin 4 = .ok (.iconst 0, 1) := by decide +kernel
theorem dX1_begin_5 : decode cX1_begin 5 = .ok (.aload_n 0, 1) := by decide +kernel
theorem dX1_begin_6 : decode cX1_begin 6 = .ok (.getfield 9, 3) := by decide +kernel
theorem dX1_begin_9 : decode cX1_begin 9 = .ok (.iconst 0, 1) := by decide +kernel
theorem dX1_begin_10 : decode cX1_begin 10 = .ok (.bipush 12, 2) := by decide +kernel
theorem dX1_begin_12 : decode cX1_begin 12 = .ok (.invokestatic 21, 3) := by decide +kernel
theorem dX1_begin_15 : decode cX1_begin 15 = .ok (.aload_n 1, 1) := by decide +kernel
theorem dX1_begin_16 : decode cX1_begin 16 = .ok (.getfield 27, 3) := by decide +kernel
theorem dX1_begin_19 : decode cX1_begin 19 = .ok (.iconst 0, 1) := by decide +kernel
theorem dX1_begin_20 : decode cX1_begin 20 = .ok (.aload_n 0, 1) := by decide +kernel
theorem dX1_begin_21 : decode cX1_begin 21 = .ok (.getfield 15, 3) := by decide +kernel
theorem dX1_begin_24 : decode cX1_begin 24 = .ok (.iconst 0, 1) := by decide +kernel
theorem dX1_begin_25 : decode cX1_begin 25 = .ok (.bipush 8, 2) := by decide +kernel
theorem dX1_begin_27 : decode cX1_begin 27 = .ok (.invokestatic 21, 3) := by decide +kernel
theorem dX1_begin_30 : decode cX1_begin 30 = .ok (.aload_n 0, 1) := by decide +kernel
theorem dX1_begin_31 : decode cX1_begin 31 = .ok (.iconst 0, 1) := by decide +kernel
theorem dX1_begin_32 : decode cX1_begin 32 = .ok (.putfield 30, 3) := by decide +kernel
theorem dX1_begin_35 : decode cX1_begin 35 = .ok (.return_, 1) := by decide +kernel
theorem dX1_copy_0 : decode cX1_copy 0 = .ok (.aload_n 1, 1) := by decide +kernel
theorem dX1_copy_1 : decode cX1_copy 1 = .ok (.getfield 9, 3) := by decide +kernel
theorem dX1_copy_4 : decode cX1_copy 4 = .ok (.iconst 0, 1) := by decide +kernel
theorem dX1_copy_5 : decode cX1_copy 5 = .ok (.aload_n 0, 1) := by decide +kernel
theorem dX1_copy_6 : decode cX1_copy 6 = .ok (.getfield 9, 3) := by decide +kernel
theorem dX1_copy_9 : decode cX1_copy 9 = .ok (.iconst 0, 1) := by decide +kernel
theorem dX1_copy_10 : decode cX1_copy 10 = .ok (.bipush 12, 2) := by decide +kernel
theorem dX1_copy_12 : decode cX1_copy 12 = .ok (.invokestatic 21, 3) := by decide +kernel
theorem dX1_copy_15 : decode cX1_copy 15 = .ok (.aload_n 1, 1) := by decide +kernel
theorem dX1_copy_16 : decode cX1_copy 16 = .ok (.getfield 15, 3) := by decide +kernel
theorem dX1_copy_19 : decode cX1_copy 19 = .ok (.iconst 0, 1) := by decide +kernel
theorem dX1_copy_20 : decode cX1_copy 20 = .ok (.aload_n 0, 1) := by decide +kernel
theorem dX1_copy_21 : decode cX1_copy 21 = .ok (.getfield 15, 3) := by decide +kernel
theorem dX1_copy_24 : decode cX1_copy 24 = .ok (.iconst 0, 1) := by decide +kernel
theorem dX1_copy_25 : decode cX1_copy 25 = .ok (.bipush 8, 2) := by decide +kernel
theorem dX1_copy_27 : decode cX1_copy 27 = .ok (.invokestatic 21, 3) := by decide +kernel
theorem dX1_copy_30 : decode cX1_copy 30 = .ok (.aload_n 0, 1) := by decide +kernel
theorem dX1_copy_31 : decode cX1_copy 31 = .ok (.aload_n 1, 1) := by decide +kernel
theorem dX1_copy_32 : decode cX1_copy 32 = .ok (.getfield 30, 3) := by decide +kernel
theorem dX1_copy_35 : decode cX1_copy 35 = .ok (.putfield 30, 3) := by decide +kernel
theorem dX1_copy_38 : decode cX1_copy 38 = .ok (.aload_n 0, 1) := by decide +kernel
theorem dX1_copy_39 : decode cX1_copy 39 = .ok (.aload_n 1, 1) := by decide +kernel
theorem dX1_copy_40 : decode cX1_copy 40 = .ok (.getfield 34, 3) := by decide +kernel
theorem dX1_copy_43 : decode cX1_copy 43 = .ok (.putfield 34, 3) := by decide +kernel
theorem dX1_copy_46 : decode cX1_copy 46 = .ok (.return_, 1) := by decide +kernel
theorem dX1_sewn_0 : decode cX1_sewn 0 = .ok (.aload_n 0, 1) := by decide +kernel
theorem dX1_sewn_1 : decode cX1_sewn 1 = .ok (.iconst 0, 1) := by decide +kernel
theorem dX1_sewn_2 : decode cX1_sewn 2 = .ok (.invokevirtual 37, 3) := by decide +kernel
theorem dX1_sewn_5 : decode cX1_sewn 5 = .ok (.ireturn, 1) := by decide +kernel
theorem dX1_holding_0 : decode cX1_holding 0 = .ok (.iconst 0, 1) := by decide +kernel
theorem dX1_holding_1 : decode cX1_holding 1 = .ok (.istore_n 2, 1) := by decide +kernel
theorem dX1_holding_2 : decode cX1_holding 2 = .ok (.iconst 0, 1) := by decide +kernel
theorem dX1_holding_3 : decode cX1_holding 3 = .ok (.istore_n 3, 1) := by decide +kernel
theorem dX1_holding_4 : decode cX1_holding 4 = .ok (.iload_n 3, 1) := by decide +kernel
theorem dX1_holding_5 : decode cX1_holding 5 = .ok (.bipush 12, 2) := by decide +kernel
theorem dX1_holding_7 : decode cX1_holding 7 = .ok (.if_icmp .ge 34, 3) := by decide +kernel
theorem dX1_holding_10 : decode cX1_holding 10 = .ok (.aload_n 0, 1) := by decide +kernel
theorem dX1_holding_11 : decode cX1_holding 11 = .ok (.getfield 9, 3) := by decide +kernel
theorem dX1_holding_14 : decode cX1_holding 14 = .ok (.iload_n 3, 1) := by decide +kernel
theorem dX1_holding_15 : decode cX1_holding 15 = .ok (.iaload, 1) := by decide +kernel
theorem dX1_holding_16 : decode cX1_holding 16 = .ok (.ifCond .le 19, 3) := by decide +kernel
theorem dX1_holding_19 : decode cX1_holding 19 = .ok (.aload_n 0, 1) := by decide +kernel
theorem dX1_holding_20 : decode cX1_holding 20 = .ok (.getfield 9, 3) := by decide +kernel
theorem dX1_holding_23 : decode cX1_holding 23 = .ok (.iload_n 3, 1) := by decide +kernel
theorem dX1_holding_24 : decode cX1_holding 24 = .ok (.iaload, 1) := by decide +kernel
theorem dX1_holding_25 : decode cX1_holding 25 = .ok (.iload_n 1, 1) := by decide +kernel
theorem dX1_holding_26 : decode cX1_holding 26 = .ok (.if_icmp .lt 9, 3) := by decide +kernel
theorem dX1_holding_29 : decode cX1_holding 29 = .ok (.iload_n 2, 1) := by decide +kernel
theorem dX1_holding_30 : decode cX1_holding 30 = .ok (.iconst 1, 1) := by decide +kernel
theorem dX1_holding_31 : decode cX1_holding 31 = .ok (.iload_n 3, 1) := by decide +kernel
theorem dX1_holding_32 : decode cX1_holding 32 = .ok (.ishl, 1) := by decide +kernel
theorem dX1_holding_33 : decode cX1_holding 33 = .ok (.ior, 1) := by decide +kernel
theorem dX1_holding_34 : decode cX1_holding 34 = .ok (.istore_n 2, 1) := by decide +kernel
theorem dX1_holding_35 : decode cX1_holding 35 = .ok (.iinc 3 1, 3) := by decide +kernel
theorem dX1_holding_38 : decode cX1_holding 38 = .ok (.goto (-34), 3) := by decide +kernel
theorem dX1_holding_41 : decode cX1_holding 41 = .ok (.iload_n 2, 1) := by decide +kernel
theorem dX1_holding_42 : decode cX1_holding 42 = .ok (.ireturn, 1) := by decide +kernel
theorem dX1_cost_0 : decode cX1_cost 0 = .ok (.iconst 0, 1) := by decide +kernel
theorem dX1_cost_1 : decode cX1_cost 1 = .ok (.istore_n 2, 1) := by decide +kernel
theorem dX1_cost_2 : decode cX1_cost 2 = .ok (.iconst 0, 1) := by decide +kernel
theorem dX1_cost_3 : decode cX1_cost 3 = .ok (.istore_n 3, 1) := by decide +kernel
theorem dX1_cost_4 : decode cX1_cost 4 = .ok (.iload_n 3, 1) := by decide +kernel
theorem dX1_cost_5 : decode cX1_cost 5 = .ok (.aload_n 1, 1) := by decide +kernel
theorem dX1_cost_6 : decode cX1_cost 6 = .ok (.getfield 41, 3) := by decide +kernel
theorem dX1_cost_9 : decode cX1_cost 9 = .ok (.if_icmp .ge 28, 3) := by decide +kernel
theorem dX1_cost_12 : decode cX1_cost 12 = .ok (.iload_n 3, 1) := by decide +kernel
theorem dX1_cost_13 : decode cX1_cost 13 = .ok (.bipush 8, 2) := by decide +kernel
theorem dX1_cost_15 : decode cX1_cost 15 = .ok (.if_icmp .ge 22, 3) := by decide +kernel
theorem dX1_cost_18 : decode cX1_cost 18 = .ok (.iload_n 2, 1) := by decide +kernel
theorem dX1_cost_19 : decode cX1_cost 19 = .ok (.aload_n 1, 1) := by decide +kernel
theorem dX1_cost_20 : decode cX1_cost 20 = .ok (.aload_n 0, 1) := by decide +kernel
theorem dX1_cost_21 : decode cX1_cost 21 = .ok (.getfield 15, 3) := by decide +kernel
theorem dX1_cost_24 : decode cX1_cost 24 = .ok (.iload_n 3, 1) := by decide +kernel
theorem dX1_cost_25 : decode cX1_cost 25 = .ok (.iaload, 1) := by decide +kernel
theorem dX1_cost_26 : decode cX1_cost 26 = .ok (.invokevirtual 44, 3) := by decide +kernel
theorem dX1_cost_29 : decode cX1_cost 29 = .ok (.iadd, 1) := by decide +kernel
theorem dX1_cost_30 : decode cX1_cost 30 = .ok (.istore_n 2, 1) := by decide +kernel
theorem dX1_cost_31 : decode cX1_cost 31 = .ok (.iinc 3 1, 3) := by decide +kernel
theorem dX1_cost_34 : decode cX1_cost 34 = .ok (.goto (-30), 3) := by decide +kernel
theorem dX1_cost_37 : decode cX1_cost 37 = .ok (.iload_n 2, 1) := by decide +kernel
theorem dX1_cost_38 : decode cX1_cost 38 = .ok (.ireturn, 1) := by decide +kernel
theorem dX1_frayEnds_0 : decode cX1_frayEnds 0 = .ok (.aload_n 0, 1) := by decide +kernel
theorem dX1_frayEnds_1 : decode cX1_frayEnds 1 = .ok (.aload_n 1, 1) := by decide +kernel
theorem dX1_frayEnds_2 : decode cX1_frayEnds 2 = .ok (.invokevirtual 47, 3) := by decide +kernel
theorem dX1_frayEnds_5 : decode cX1_frayEnds 5 = .ok (.istore_n 3, 1) := by decide +kernel
theorem dX1_frayEnds_6 : decode cX1_frayEnds 6 = .ok (.iconst 0, 1) := by decide +kernel
theorem dX1_frayEnds_7 : decode cX1_frayEnds 7 = .ok (.istore 4, 2) := by decide +kernel
theorem dX1_frayEnds_9 : decode cX1_frayEnds 9 = .ok (.iconst 0, 1) := by decide +kernel
theorem dX1_frayEnds_10 : decode cX1_frayEnds 10 = .ok (.istore 5, 2) := by decide +kernel
theorem dX1_frayEnds_12 : decode cX1_frayEnds 12 = .ok (.iload 5, 2) := by decide +kernel
theorem dX1_frayEnds_14 : decode cX1_frayEnds 14 = .ok (.bipush 12, 2) := by decide +kernel
theorem dX1_frayEnds_16 : decode cX1_frayEnds 16 = .ok (.if_icmp .ge 61, 3) := by decide +kernel
theorem dX1_frayEnds_19 : decode cX1_frayEnds 19 = .ok (.iload_n 3, 1) := by decide +kernel
theorem dX1_frayEnds_20 : decode cX1_frayEnds 20 = .ok (.iload 5, 2) := by decide +kernel
theorem dX1_frayEnds_22 : decode cX1_frayEnds 22 = .ok (.invokestatic 51, 3) := by decide +kernel
theorem dX1_frayEnds_25 : decode cX1_frayEnds 25 = .ok (.ifCond .eq 46, 3) := by decide +kernel
theorem dX1_frayEnds_28 : decode cX1_frayEnds 28 = .ok (.aload_n 0, 1) := by decide +kernel
theorem dX1_frayEnds_29 : decode cX1_frayEnds 29 = .ok (.getfield 9, 3) := by decide +kernel
theorem dX1_frayEnds_32 : decode cX1_frayEnds 32 = .ok (.iload 5, 2) := by decide +kernel
theorem dX1_frayEnds_34 : decode cX1_frayEnds 34 = .ok (.iconst 0, 1) := by decide +kernel
theorem dX1_frayEnds_35 : decode cX1_frayEnds 35 = .ok (.aload_n 0, 1) := by decide +kernel
theorem dX1_frayEnds_36 : decode cX1_frayEnds 36 = .ok (.getfield 9, 3) := by decide +kernel
theorem dX1_frayEnds_39 : decode cX1_frayEnds 39 = .ok (.iload 5, 2) := by decide +kernel
theorem dX1_frayEnds_41 : decode cX1_frayEnds 41 = .ok (.iaload, 1) := by decide +kernel
theorem dX1_frayEnds_42 : decode cX1_frayEnds 42 = .ok (.iload_n 2, 1) := by decide +kernel
theorem dX1_frayEnds_43 : decode cX1_frayEnds 43 = .ok (.isub, 1) := by decide +kernel
theorem dX1_frayEnds_44 : decode cX1_frayEnds 44 = .ok (.invokestatic 55, 3) := by decide +kernel
theorem dX1_frayEnds_47 : decode cX1_frayEnds 47 = .ok (.iastore, 1) := by decide +kernel
theorem dX1_frayEnds_48 : decode cX1_frayEnds 48 = .ok (.iload 4, 2) := by decide +kernel
theorem dX1_frayEnds_50 : decode cX1_frayEnds 50 = .ok (.aload_n 0, 1) := by decide +kernel
theorem dX1_frayEnds_51 : decode cX1_frayEnds 51 = .ok (.getfield 9, 3) := by decide +kernel
theorem dX1_frayEnds_54 : decode cX1_frayEnds 54 = .ok (.iload 5, 2) := by decide +kernel
theorem dX1_frayEnds_56 : decode cX1_frayEnds 56 = .ok (.iaload, 1) := by decide +kernel
theorem dX1_frayEnds_57 : decode cX1_frayEnds 57 = .ok (.ifCond .ne 10, 3) := by decide +kernel
theorem dX1_frayEnds_60 : decode cX1_frayEnds 60 = .ok (.iconst 1, 1) := by decide +kernel
theorem dX1_frayEnds_61 : decode cX1_frayEnds 61 = .ok (.iload 5, 2) := by decide +kernel
theorem dX1_frayEnds_63 : decode cX1_frayEnds 63 = .ok (.ishl, 1) := by decide +kernel
theorem dX1_frayEnds_64 : decode cX1_frayEnds 64 = .ok (.goto 4, 3) := by decide +kernel
theorem dX1_frayEnds_67 : decode cX1_frayEnds 67 = .ok (.iconst 0, 1) := by decide +kernel
theorem dX1_frayEnds_68 : decode cX1_frayEnds 68 = .ok (.ior, 1) := by decide +kernel
theorem dX1_frayEnds_69 : decode cX1_frayEnds 69 = .ok (.istore 4, 2) := by decide +kernel
theorem dX1_frayEnds_71 : decode cX1_frayEnds 71 = .ok (.iinc 5 1, 3) := by decide +kernel
theorem dX1_frayEnds_74 : decode cX1_frayEnds 74 = .ok (.goto (-62), 3) := by decide +kernel
theorem dX1_frayEnds_77 : decode cX1_frayEnds 77 = .ok (.iload 4, 2) := by decide +kernel
theorem dX1_frayEnds_79 : decode cX1_frayEnds 79 = .ok (.ireturn, 1) := by decide +kernel
theorem dX1_looseSeams_0 : decode cX1_looseSeams 0 = .ok (.aload_n 0, 1) := by decide +kernel
theorem dX1_looseSeams_1 : decode cX1_looseSeams 1 = .ok (.invokevirtual 61, 3) := by decide +kernel
theorem dX1_looseSeams_4 : decode cX1_looseSeams 4 = .ok (.istore_n 2, 1) := by decide +kernel
theorem dX1_looseSeams_5 : decode cX1_looseSeams 5 = .ok (.iconst 0, 1) := by decide +kernel
theorem dX1_looseSeams_6 : decode cX1_looseSeams 6 = .ok (.istore_n 3, 1) := by decide +kernel
theorem dX1_looseSeams_7 : decode cX1_looseSeams 7 = .ok (.iconst 0, 1) := by decide +kernel
theorem dX1_looseSeams_8 : decode cX1_looseSeams 8 = .ok (.istore 4, 2) := by decide +kernel
theorem dX1_looseSeams_10 : decode cX1_looseSeams 10 = .ok (.iload 4, 2) := by decide +kernel
theorem dX1_looseSeams_12 : decode cX1_looseSeams 12 = .ok (.aload_n 1, 1) := by decide +kernel
theorem dX1_looseSeams_13 : decode cX1_looseSeams 13 = .ok (.getfield 41, 3) := by decide +kernel
theorem dX1_looseSeams_16 : decode cX1_looseSeams 16 = .ok (.if_icmp .ge 32, 3) := by decide +kernel
theorem dX1_looseSeams_19 : decode cX1_looseSeams 19 = .ok (.aload_n 1, 1) := by decide +kernel
theorem dX1_looseSeams_20 : decode cX1_looseSeams 20 = .ok (.iload 4, 2) := by decide +kernel
theorem dX1_looseSeams_22 : decode cX1_looseSeams 22 = .ok (.iload_n 2, 1) := by decide +kernel
theorem dX1_looseSeams_23 : decode cX1_looseSeams 23 = .ok (.invokevirtual 65, 3) := by decide +kernel
theorem dX1_looseSeams_26 : decode cX1_looseSeams 26 = .ok (.istore 5, 2) := by decide +kernel
theorem dX1_looseSeams_28 : decode cX1_looseSeams 28 = .ok (.iload 5, 2) := by decide +kernel
theorem dX1_looseSeams_30 : decode cX1_looseSeams 30 = .ok (.invokestatic 68, 3) := by decide +kernel
theorem dX1_looseSeams_33 : decode cX1_looseSeams 33 = .ok (.iconst 1, 1) := by decide +kernel
theorem dX1_looseSeams_34 : decode cX1_looseSeams 34 = .ok (.if_icmp .ne 8, 3) := by decide +kernel
theorem dX1_looseSeams_37 : decode cX1_looseSeams 37 = .ok (.iload_n 3, 1) := by decide +kernel
theorem dX1_looseSeams_38 : decode cX1_looseSeams 38 = .ok (.iload 5, 2) := by decide +kernel
theorem dX1_looseSeams_40 : decode cX1_looseSeams 40 = .ok (.ior, 1) := by decide +kernel
theorem dX1_looseSeams_41 : decode cX1_looseSeams 41 = .ok (.istore_n 3, 1) := by decide +kernel
theorem dX1_looseSeams_42 : decode cX1_looseSeams 42 = .ok (.iinc 4 1, 3) := by decide +kernel
theorem dX1_looseSeams_45 : decode cX1_looseSeams 45 = .ok (.goto (-35), 3) := by decide +kernel
theorem dX1_looseSeams_48 : decode cX1_looseSeams 48 = .ok (.iload_n 3, 1) := by decide +kernel
theorem dX1_looseSeams_49 : decode cX1_looseSeams 49 = .ok (.ireturn, 1) := by decide +kernel
theorem dX1_passYear_0 : decode cX1_passYear 0 = .ok (.iconst 0, 1) := by decide +kernel
theorem dX1_passYear_1 : decode cX1_passYear 1 = .ok (.istore_n 2, 1) := by decide +kernel
theorem dX1_passYear_2 : decode cX1_passYear 2 = .ok (.iload_n 2, 1) := by decide +kernel
theorem dX1_passYear_3 : decode cX1_passYear 3 = .ok (.aload_n 1, 1) := by decide +kernel
theorem dX1_passYear_4 : decode cX1_passYear 4 = .ok (.getfield 41, 3) := by decide +kernel
theorem dX1_passYear_7 : decode cX1_passYear 7 = .ok (.if_icmp .ge 38, 3) := by decide +kernel
theorem dX1_passYear_10 : decode cX1_passYear 10 = .ok (.aload_n 0, 1) := by decide +kernel
theorem dX1_passYear_11 : decode cX1_passYear 11 = .ok (.iconst 3, 1) := by decide +kernel
theorem dX1_passYear_12 : decode cX1_passYear 12 = .ok (.invokevirtual 73, 3) := by decide +kernel
theorem dX1_passYear_15 : decode cX1_passYear 15 = .ok (.ifCond .ne 24, 3) := by decide +kernel
theorem dX1_passYear_18 : decode cX1_passYear 18 = .ok (.aload_n 1, 1) := by decide +kernel
theorem dX1_passYear_19 : decode cX1_passYear 19 = .ok (.getfield 76, 3) := by decide +kernel
theorem dX1_passYear_22 : decode cX1_passYear 22 = .ok (.ifCond .le 17, 3) := by decide +kernel
theorem dX1_passYear_25 : decode cX1_passYear 25 = .ok (.aload_n 0, 1) := by decide +kernel
theorem dX1_passYear_26 : decode cX1_passYear 26 = .ok (.aload_n 1, 1) := by decide +kernel
theorem dX1_passYear_27 : decode cX1_passYear 27 = .ok (.iload_n 2, 1) := by decide +kernel
theorem dX1_passYear_28 : decode cX1_passYear 28 = .ok (.aload_n 0, 1) := by decide +kernel
theorem dX1_passYear_29 : decode cX1_passYear 29 = .ok (.aload_n 1, 1) := by decide +kernel
theorem dX1_passYear_30 : decode cX1_passYear 30 = .ok (.getfield 76, 3) := by decide +kernel
theorem dX1_passYear_33 : decode cX1_passYear 33 = .ok (.invokevirtual 73, 3) := by decide +kernel
theorem dX1_passYear_36 : decode cX1_passYear 36 = .ok (.invokevirtual 79, 3) := by decide +kernel
theorem dX1_passYear_39 : decode cX1_passYear 39 = .ok (.iinc 2 1, 3) := by decide +kernel
theorem dX1_passYear_42 : decode cX1_passYear 42 = .ok (.goto (-40), 3) := by decide +kernel
theorem dX1_passYear_45 : decode cX1_passYear 45 = .ok (.aload_n 0, 1) := by decide +kernel
theorem dX1_passYear_46 : decode cX1_passYear 46 = .ok (.aload_n 1, 1) := by decide +kernel
theorem dX1_passYear_47 : decode cX1_passYear 47 = .ok (.aload_n 0, 1) := by decide +kernel
theorem dX1_passYear_48 : decode cX1_passYear 48 = .ok (.iconst 3, 1) := by decide +kernel
theorem dX1_passYear_49 : decode cX1_passYear 49 = .ok (.invokevirtual 73, 3) := by decide +kernel
theorem dX1_passYear_52 : decode cX1_passYear 52 = .ok (.invokevirtual 83, 3) := by decide +kernel
theorem dX1_passYear_55 : decode cX1_passYear 55 = .ok (.pop, 1) := by decide +kernel
theorem dX1_passYear_56 : decode cX1_passYear 56 = .ok (.return_, 1) := by decide +kernel
theorem dX1_tryUnpick_0 : decode cX1_tryUnpick 0 = .ok (.aload_n 1, 1) := by decide +kernel
theorem dX1_tryUnpick_1 : decode cX1_tryUnpick 1 = .ok (.iload_n 3, 1) := by decide +kernel
theorem dX1_tryUnpick_2 : decode cX1_tryUnpick 2 = .ok (.invokevirtual 87, 3) := by decide +kernel
theorem dX1_tryUnpick_5 : decode cX1_tryUnpick 5 = .ok (.ifCond .eq 30, 3) := by decide +kernel
theorem dX1_tryUnpick_8 : decode cX1_tryUnpick 8 = .ok (.aload_n 1, 1) := by decide +kernel
theorem dX1_tryUnpick_9 : decode cX1_tryUnpick 9 = .ok (.iload_n 2, 1) := by decide +kernel
theorem dX1_tryUnpick_10 : decode cX1_tryUnpick 10 = .ok (.aload_n 0, 1) := by decide +kernel
theorem dX1_tryUnpick_11 : decode cX1_tryUnpick 11 = .ok (.invokevirtual 61, 3) := by decide +kernel
theorem dX1_tryUnpick_14 : decode cX1_tryUnpick 14 = .ok (.aload_n 0, 1) := by decide +kernel
theorem dX1_tryUnpick_15 : decode cX1_tryUnpick 15 = .ok (.getfield 30, 3) := by decide +kernel
theorem dX1_tryUnpick_18 : decode cX1_tryUnpick 18 = .ok (.invokevirtual 91, 3) := by decide +kernel
theorem dX1_tryUnpick_21 : decode cX1_tryUnpick 21 = .ok (.iload_n 3, 1) := by decide +kernel
theorem dX1_tryUnpick_22 : decode cX1_tryUnpick 22 = .ok (.invokestatic 51, 3) := by decide +kernel
theorem dX1_tryUnpick_25 : decode cX1_tryUnpick 25 = .ok (.ifCond .eq 10, 3) := by decide +kernel
theorem dX1_tryUnpick_28 : decode cX1_tryUnpick 28 = .ok (.aload_n 0, 1) := by decide +kernel
theorem dX1_tryUnpick_29 : decode cX1_tryUnpick 29 = .ok (.getfield 9, 3) := by decide +kernel
theorem dX1_tryUnpick_32 : decode cX1_tryUnpick 32 = .ok (.iload_n 3, 1) := by decide +kernel
theorem dX1_tryUnpick_33 : decode cX1_tryUnpick 33 = .ok (.iconst 0, 1) := by decide +kernel
theorem dX1_tryUnpick_34 : decode cX1_tryUnpick 34 = .ok (.iastore, 1) := by decide +kernel
theorem dX1_tryUnpick_35 : decode cX1_tryUnpick 35 = .ok (.return_, 1) := by decide +kernel
theorem dX1_draw_0 : decode cX1_draw 0 = .ok (.aload_n 0, 1) := by decide +kernel
theorem dX1_draw_1 : decode cX1_draw 1 = .ok (.aload_n 0, 1) := by decide +kernel
theorem dX1_draw_2 : decode cX1_draw 2 = .ok (.getfield 34, 3) := by decide +kernel
theorem dX1_draw_5 : decode cX1_draw 5 = .ok (.i2l, 1) := by decide +kernel
theorem dX1_draw_6 : decode cX1_draw 6 = .ok (.ldc2_w 95, 3) := by decide +kernel
theorem dX1_draw_9 : decode cX1_draw 9 = .ok (.lmul, 1) := by decide +kernel
theorem dX1_draw_10 : decode cX1_draw 10 = .ok (.ldc2_w 97, 3) := by decide +kernel
theorem dX1_draw_13 : decode cX1_draw 13 = .ok (.ladd, 1) := by decide +kernel
theorem dX1_draw_14 : decode cX1_draw 14 = .ok (.ldc2_w 99, 3) := by decide +kernel
theorem dX1_draw_17 : decode cX1_draw 17 = .ok (.land, 1) := by decide +kernel
theorem dX1_draw_18 : decode cX1_draw 18 = .ok (.l2i, 1) := by decide +kernel
theorem dX1_draw_19 : decode cX1_draw 19 = .ok (.putfield 34, 3) := by decide +kernel
theorem dX1_draw_22 : decode cX1_draw 22 = .ok (.iload_n 1, 1) := by decide +kernel
theorem dX1_draw_23 : decode cX1_draw 23 = .ok (.ifCond .le 15, 3) := by decide +kernel
theorem dX1_draw_26 : decode cX1_draw 26 = .ok (.aload_n 0, 1) := by decide +kernel
theorem dX1_draw_27 : decode cX1_draw 27 = .ok (.getfield 34, 3) := by decide +kernel
theorem dX1_draw_30 : decode cX1_draw 30 = .ok (.ldc 101, 2) := by decide +kernel
theorem dX1_draw_32 : decode cX1_draw 32 = .ok (.idiv, 1) := by decide +kernel
theorem dX1_draw_33 : decode cX1_draw 33 = .ok (.iload_n 1, 1) := by decide +kernel
theorem dX1_draw_34 : decode cX1_draw 34 = .ok (.irem, 1) := by decide +kernel
theorem dX1_draw_35 : decode cX1_draw 35 = .ok (.goto 4, 3) := by decide +kernel
theorem dX1_draw_38 : decode cX1_draw 38 = .ok (.iconst 0, 1) := by decide +kernel
theorem dX1_draw_39 : decode cX1_draw 39 = .ok (.ireturn, 1) := by decide +kernel
theorem dX2_init_0 : decode cX2_init 0 = .ok (.aload_n 0, 1) := by decide +kernel
theorem dX2_init_1 : decode cX2_init 1 = .ok (.invokespecial 3, 3) := by decide +kernel
theorem dX2_init_4 : decode cX2_init 4 = .ok (.aload_n 0, 1) := by decide +kernel
theorem dX2_init_5 : decode cX2_init 5 = .ok (.sipush 256, 3) := by decide +kernel
theorem dX2_init_8 : decode cX2_init 8 = .ok (.newarray .int, 2) := by decide +kernel
theorem dX2_init_10 : decode cX2_init 10 = .ok (.putfield 11, 3) := by decide +kernel
theorem dX2_init_13 : decode cX2_init 13 = .ok (.aload_n 0, 1) := by decide +kernel
theorem dX2_init_14 : decode cX2_init 14 = .ok (.sipush 256, 3) := by decide +kernel
theorem dX2_init_17 : decode cX2_init 17 = .ok (.newarray .int, 2) := by decide +kernel
theorem dX2_init_19 : decode cX2_init 19 = .ok (.putfield 15, 3) := by decide +kernel
theorem dX2_init_22 : decode cX2_init 22 = .ok (.return_, 1) := by decide +kernel
theorem dX2_fewestSeams_0 : decode cX2_fewestSeams 0 = .ok (.aload_n 0, 1) := by decide +kernel
theorem dX2_fewestSeams_1 : decode cX2_fewestSeams 1 = .ok (.iload_n 2, 1) := by decide +kernel
theorem dX2_fewestSeams_2 : decode cX2_fewestSeams 2 = .ok (.iload_n 1, 1) := by decide +kernel
theorem dX2_fewestSeams_3 : decode cX2_fewestSeams 3 = .ok (.invokevirtual 18, 3) := by decide +kernel
theorem dX2_fewestSeams_6 : decode cX2_fewestSeams 6 = .ok (.istore_n 3, 1) := by decide +kernel
theorem dX2_fewestSeams_7 : decode cX2_fewestSeams 7 = .ok (.iconst 1, 1) := by decide +kernel
theorem dX2_fewestSeams_8 : decode cX2_fewestSeams 8 = .ok (.istore 4, 2) := by decide +kernel
theorem dX2_fewestSeams_10 : decode cX2_fewestSeams 10 = .ok (.iload 4, 2) := by decide +kernel
theorem dX2_fewestSeams_12 : decode cX2_fewestSeams 12 = .ok (.aload_n 0, 1) := by decide +kernel
theorem dX2_fewestSeams_13 : decode cX2_fewestSeams 13 = .ok (.invokevirtual 24, 3) := by decide +kernel
theorem dX2_fewestSeams_16 : decode cX2_fewestSeams 16 = .ok (.if_icmp .gt 30, 3) := by decide +kernel
theorem dX2_fewestSeams_19 : decode cX2_fewestSeams 19 = .ok (.iload 4, 2) := by decide +kernel
theorem dX2_fewestSeams_21 : decode cX2_fewestSeams 21 = .ok (.iload_n 2, 1) := by decide +kernel
theorem dX2_fewestSeams_22 : decode cX2_fewestSeams 22 = .ok (.invokestatic 28, 3) := by decide +kernel
theorem dX2_fewestSeams_25 : decode cX2_fewestSeams 25 = .ok (.ifCond .eq 15, 3) := by decide +kernel
theorem dX2_fewestSeams_28 : decode cX2_fewestSeams 28 = .ok (.aload_n 0, 1) := by decide +kernel
theorem dX2_fewestSeams_29 : decode cX2_fewestSeams 29 = .ok (.iload 4, 2) := by decide +kernel
theorem dX2_fewestSeams_31 : decode cX2_fewestSeams 31 = .ok (.iload_n 1, 1) := by decide +kernel
theorem dX2_fewestSeams_32 : decode cX2_fewestSeams 32 = .ok (.invokevirtual 32, 3) := by decide +kernel
theorem dX2_fewestSeams_35 : decode cX2_fewestSeams 35 = .ok (.iload_n 3, 1) := by decide +kernel
theorem dX2_fewestSeams_36 : decode cX2_fewestSeams 36 = .ok (.invokestatic 35, 3) := by decide +kernel
theorem dX2_fewestSeams_39 : decode cX2_fewestSeams 39 = .ok (.istore_n 3, 1) := by decide +kernel
theorem dX2_fewestSeams_40 : decode cX2_fewestSeams 40 = .ok (.iinc 4 1, 3) := by decide +kernel
theorem dX2_fewestSeams_43 : decode cX2_fewestSeams 43 = .ok (.goto (-33), 3) := by decide +kernel
theorem dX2_fewestSeams_46 : decode cX2_fewestSeams 46 = .ok (.iload_n 3, 1) := by decide +kernel
theorem dX2_fewestSeams_47 : decode cX2_fewestSeams 47 = .ok (.ireturn, 1) := by decide +kernel
theorem dX2_lesser_0 : decode cX2_lesser 0 = .ok (.iload_n 0, 1) := by decide +kernel
theorem dX2_lesser_1 : decode cX2_lesser 1 = .ok (.invokestatic 38, 3) := by decide +kernel
theorem dX2_lesser_4 : decode cX2_lesser 4 = .ok (.iload_n 1, 1) := by decide +kernel
theorem dX2_lesser_5 : decode cX2_lesser 5 = .ok (.invokestatic 38, 3) := by decide +kernel
theorem dX2_lesser_8 : decode cX2_lesser 8 = .ok (.isub, 1) := by decide +kernel
theorem dX2_lesser_9 : decode cX2_lesser 9 = .ok (.istore_n 2, 1) := by decide +kernel
theorem dX2_lesser_10 : decode cX2_lesser 10 = .ok (.iload_n 2, 1) := by decide +kernel
theorem dX2_lesser_11 : decode cX2_lesser 11 = .ok (.ifCond .lt 12, 3) := by decide +kernel
theorem dX2_lesser_14 : decode cX2_lesser 14 = .ok (.iload_n 2, 1) := by decide +kernel
theorem dX2_lesser_15 : decode cX2_lesser 15 = .ok (.ifCond .ne 12, 3) := by decide +kernel
theorem dX2_lesser_18 : decode cX2_lesser 18 = .ok (.iload_n 0, 1) := by decide +kernel
theorem dX2_lesser_19 : decode cX2_lesser 19 = .ok (.iload_n 1, 1) := by decide +kernel
theorem dX2_lesser_20 : decode cX2_lesser 20 = .ok (.if_icmp .ge 7, 3) := by decide +kernel
theorem dX2_lesser_23 : decode cX2_lesser 23 = .ok (.iload_n 0, 1) := by decide +kernel
theorem dX2_lesser_24 : decode cX2_lesser 24 = .ok (.goto 4, 3) := by decide +kernel
theorem dX2_lesser_27 : decode cX2_lesser 27 = .ok (.iload_n 1, 1) := by decide +kernel
theorem dX2_lesser_28 : decode cX2_lesser 28 = .ok (.ireturn, 1) := by decide +kernel
theorem dX2_findWeak_0 : decode cX2_findWeak 0 = .ok (.aload_n 2, 1) := by decide +kernel
theorem dX2_findWeak_1 : decode cX2_findWeak 1 = .ok (.invokevirtual 44, 3) := by decide +kernel
theorem dX2_findWeak_4 : decode cX2_findWeak 4 = .ok (.istore 5, 2) := by decide +kernel
theorem dX2_findWeak_6 : decode cX2_findWeak 6 = .ok (.aload_n 0, 1) := by decide +kernel
theorem dX2_findWeak_7 : decode cX2_findWeak 7 = .ok (.iconst 0, 1) := by decide +kernel
theorem dX2_findWeak_8 : decode cX2_findWeak 8 = .ok (.putfield 49, 3) := by decide +kernel
theorem dX2_findWeak_11 : decode cX2_findWeak 11 = .ok (.iconst 1, 1) := by decide +kernel
theorem dX2_findWeak_12 : decode cX2_findWeak 12 = .ok (.istore 6, 2) := by decide +kernel
theorem dX2_findWeak_14 : decode cX2_findWeak 14 = .ok (.iload 6, 2) := by decide +kernel
theorem dX2_findWeak_16 : decode cX2_findWeak 16 = .ok (.aload_n 1, 1) := by decide +kernel
theorem dX2_findWeak_17 : decode cX2_findWeak 17 = .ok (.invokevirtual 24, 3) := by decide +kernel
theorem dX2_findWeak_20 : decode cX2_findWeak 20 = .ok (.if_icmp .gt 58, 3) := by decide +kernel
theorem dX2_findWeak_23 : decode cX2_findWeak 23 = .ok (.iload 6, 2) := by decide +kernel
theorem dX2_findWeak_25 : decode cX2_findWeak 25 = .ok (.iload_n 3, 1) := by decide +kernel
theorem dX2_findWeak_26 : decode cX2_findWeak 26 = .ok (.iand, 1) := by decide +kernel
theorem dX2_findWeak_27 : decode cX2_findWeak 27 = .ok (.ifCond .eq 45, 3) := by decide +kernel
theorem dX2_findWeak_30 : decode cX2_findWeak 30 = .ok (.aload_n 1, 1) := by decide +kernel
theorem dX2_findWeak_31 : decode cX2_findWeak 31 = .ok (.iload 6, 2) := by decide +kernel
theorem dX2_findWeak_33 : decode cX2_findWeak 33 = .ok (.iload 5, 2) := by decide +kernel
theorem dX2_findWeak_35 : decode cX2_findWeak 35 = .ok (.invokevirtual 32, 3) := by decide +kernel
theorem dX2_findWeak_38 : decode cX2_findWeak 38 = .ok (.istore 7, 2) := by decide +kernel
theorem dX2_findWeak_40 : decode cX2_findWeak 40 = .ok (.iload 7, 2) := by decide +kernel
theorem dX2_findWeak_42 : decode cX2_findWeak 42 = .ok (.aload_n 2, 1) := by decide +kernel
theorem dX2_findWeak_43 : decode cX2_findWeak 43 = .ok (.getfield 53, 3) := by decide +kernel
theorem dX2_findWeak_46 : decode cX2_findWeak 46 = .ok (.iand, 1) := by decide +kernel
theorem dX2_findWeak_47 : decode cX2_findWeak 47 = .ok (.ifCond .ne 25, 3) := by decide +kernel
theorem dX2_findWeak_50 : decode cX2_findWeak 50 = .ok (.iload 7, 2) := by decide +kernel
theorem dX2_findWeak_52 : decode cX2_findWeak 52 = .ok (.invokestatic 38, 3) := by decide +kernel
theorem dX2_findWeak_55 : decode cX2_findWeak 55 = .ok (.iload 4, 2) := by decide +kernel
theorem dX2_findWeak_57 : decode cX2_findWeak 57 = .ok (.if_icmp .gt 15, 3) := by decide +kernel
theorem dX2_findWeak_60 : decode cX2_findWeak 60 = .ok (.aload_n 0, 1) := by decide +kernel
theorem dX2_findWeak_61 : decode cX2_findWeak 61 = .ok (.iload 7, 2) := by decide +kernel
theorem dX2_findWeak_63 : decode cX2_findWeak 63 = .ok (.aload_n 1, 1) := by decide +kernel
theorem dX2_findWeak_64 : decode cX2_findWeak 64 = .ok (.iload 6, 2) := by decide +kernel
theorem dX2_findWeak_66 : decode cX2_findWeak 66 = .ok (.invokevirtual 56, 3) := by decide +kernel
theorem dX2_findWeak_69 : decode cX2_findWeak 69 = .ok (.invokevirtual 59, 3) := by decide +kernel
theorem dX2_findWeak_72 : decode cX2_findWeak 72 = .ok (.iinc 6 1, 3) := by decide +kernel
theorem dX2_findWeak_75 : decode cX2_findWeak 75 = .ok (.goto (-61), 3) := by decide +kernel
theorem dX2_findWeak_78 : decode cX2_findWeak 78 = .ok (.return_, 1) := by decide +kernel
theorem dX2_addWeak_0 : decode cX2_addWeak 0 = .ok (.aload_n 0, 1) := by decide +kernel
theorem dX2_addWeak_1 : decode cX2_addWeak 1 = .ok (.getfield 49, 3) := by decide +kernel
theorem dX2_addWeak_4 : decode cX2_addWeak 4 = .ok (.ifCond .lt 43, 3) := by decide +kernel
theorem dX2_addWeak_7 : decode cX2_addWeak 7 = .ok (.aload_n 0, 1) := by decide +kernel
theorem dX2_addWeak_8 : decode cX2_addWeak 8 = .ok (.getfield 49, 3) := by decide +kernel
theorem dX2_addWeak_11 : decode cX2_addWeak 11 = .ok (.sipush 256, 3) := by decide +kernel
theorem dX2_addWeak_14 : decode cX2_addWeak 14 = .ok (.if_icmp .ge 33, 3) := by decide +kernel
theorem dX2_addWeak_17 : decode cX2_addWeak 17 = .ok (.aload_n 0, 1) := by decide +kernel
theorem dX2_addWeak_18 : decode cX2_addWeak 18 = .ok (.getfield 11, 3) := by decide +kernel
theorem dX2_addWeak_21 : decode cX2_addWeak 21 = .ok (.aload_n 0, 1) := by decide +kernel
theorem dX2_addWeak_22 : decode cX2_addWeak 22 = .ok (.getfield 49, 3) := by decide +kernel
theorem dX2_addWeak_25 : decode cX2_addWeak 25 = .ok (.iload_n 1, 1) := by decide +kernel
theorem dX2_addWeak_26 : decode cX2_addWeak 26 = .ok (.iastore, 1) := by decide +kernel
theorem dX2_addWeak_27 : decode cX2_addWeak 27 = .ok (.aload_n 0, 1) := by decide +kernel
theorem dX2_addWeak_28 : decode cX2_addWeak 28 = .ok (.getfield 15, 3) := by decide +kernel
theorem dX2_addWeak_31 : decode cX2_addWeak 31 = .ok (.aload_n 0, 1) := by decide +kernel
theorem dX2_addWeak_32 : decode cX2_addWeak 32 = .ok (.getfield 49, 3) := by decide +kernel
theorem dX2_addWeak_35 : decode cX2_addWeak 35 = .ok (.iload_n 2, 1) := by decide +kernel
theorem dX2_addWeak_36 : decode cX2_addWeak 36 = .ok (.iastore, 1) := by decide +kernel
theorem dX2_addWeak_37 : decode cX2_addWeak 37 = .ok (.aload_n 0, 1) := by decide +kernel
theorem dX2_addWeak_38 : decode cX2_addWeak 38 = .ok (.dup, 1) := by decide +kernel
theorem dX2_addWeak_39 : decode cX2_addWeak 39 = .ok (.getfield 49, 3) := by decide +kernel
theorem dX2_addWeak_42 : decode cX2_addWeak 42 = .ok (.iconst 1, 1) := by decide +kernel
theorem dX2_addWeak_43 : decode cX2_addWeak 43 = .ok (.iadd, 1) := by decide +kernel
theorem dX2_addWeak_44 : decode cX2_addWeak 44 = .ok (.putfield 49, 3) := by decide +kernel
theorem dX2_addWeak_47 : decode cX2_addWeak 47 = .ok (.return_, 1) := by decide +kernel
theorem dX2_fewestHems_0 : decode cX2_fewestHems 0 = .ok (.iconst (-1), 1) := by decide +kernel
theorem dX2_fewestHems_1 : decode cX2_fewestHems 1 = .ok (.istore_n 2, 1) := by decide +kernel
theorem dX2_fewestHems_2 : decode cX2_fewestHems 2 = .ok (.iconst 0, 1) := by decide +kernel
theorem dX2_fewestHems_3 : decode cX2_fewestHems 3 = .ok (.istore_n 3, 1) := by decide +kernel
theorem dX2_fewestHems_4 : decode cX2_fewestHems 4 = .ok (.iload_n 3, 1) := by decide +kernel
theorem dX2_fewestHems_5 : decode cX2_fewestHems 5 = .ok (.iload_n 1, 1) := by decide +kernel
theorem dX2_fewestHems_6 : decode cX2_fewestHems 6 = .ok (.if_icmp .gt 55, 3) := by decide +kernel
theorem dX2_fewestHems_9 : decode cX2_fewestHems 9 = .ok (.iload_n 2, 1) := by decide +kernel
theorem dX2_fewestHems_10 : decode cX2_fewestHems 10 = .ok (.iconst (-1), 1) := by decide +kernel
theorem dX2_fewestHems_11 : decode cX2_fewestHems 11 = .ok (.if_icmp .eq 14, 3) := by decide +kernel
theorem dX2_fewestHems_14 : decode cX2_fewestHems 14 = .ok (.iload_n 3, 1) := by decide +kernel
theorem dX2_fewestHems_15 : decode cX2_fewestHems 15 = .ok (.invokestatic 38, 3) := by decide +kernel
theorem dX2_fewestHems_18 : decode cX2_fewestHems 18 = .ok (.iload_n 2, 1) := by decide +kernel
theorem dX2_fewestHems_19 : decode cX2_fewestHems 19 = .ok (.invokestatic 38, 3) := by decide +kernel
theorem dX2_fewestHems_22 : decode cX2_fewestHems 22 = .ok (.if_icmp .ge 7, 3) := by decide +kernel
theorem dX2_fewestHems_25 : decode cX2_fewestHems 25 = .ok (.iconst 1, 1) := by decide +kernel
theorem dX2_fewestHems_26 : decode cX2_fewestHems 26 = .ok (.goto 4, 3) := by decide +kernel
theorem dX2_fewestHems_29 : decode cX2_fewestHems 29 = .ok (.iconst 0, 1) := by decide +kernel
theorem dX2_fewestHems_30 : decode cX2_fewestHems 30 = .ok (.istore 4, 2) := by decide +kernel
theorem dX2_fewestHems_32 : decode cX2_fewestHems 32 = .ok (.iload 4, 2) := by decide +kernel
theorem dX2_fewestHems_34 : decode cX2_fewestHems 34 = .ok (.ifCond .eq 21, 3) := by decide +kernel
theorem dX2_fewestHems_37 : decode cX2_fewestHems 37 = .ok (.iload_n 3, 1) := by decide +kernel
theorem dX2_fewestHems_38 : decode cX2_fewestHems 38 = .ok (.iload_n 1, 1) := by decide +kernel
theorem dX2_fewestHems_39 : decode cX2_fewestHems 39 = .ok (.iconst (-1), 1) := by decide +kernel
theorem dX2_fewestHems_40 : decode cX2_fewestHems 40 = .ok (.ixor, 1) := by decide +kernel
theorem dX2_fewestHems_41 : decode cX2_fewestHems 41 = .ok (.iand, 1) := by decide +kernel
theorem dX2_fewestHems_42 : decode cX2_fewestHems 42 = .ok (.ifCond .ne 13, 3) := by decide +kernel
theorem dX2_fewestHems_45 : decode cX2_fewestHems 45 = .ok (.aload_n 0, 1) := by decide +kernel
theorem dX2_fewestHems_46 : decode cX2_fewestHems 46 = .ok (.iload_n 3, 1) := by decide +kernel
theorem dX2_fewestHems_47 : decode cX2_fewestHems 47 = .ok (.invokevirtual 63, 3) := by decide +kernel
theorem dX2_fewestHems_50 : decode cX2_fewestHems 50 = .ok (.ifCond .eq 5, 3) := by decide +kernel
theorem dX2_fewestHems_53 : decode cX2_fewestHems 53 = .ok (.iload_n 3, 1) := by decide +kernel
theorem dX2_fewestHems_54 : decode cX2_fewestHems 54 = .ok (.istore_n 2, 1) := by decide +kernel
theorem dX2_fewestHems_55 : decode cX2_fewestHems 55 = .ok (.iinc 3 1, 3) := by decide +kernel
theorem dX2_fewestHems_58 : decode cX2_fewestHems 58 = .ok (.goto (-54), 3) := by decide +kernel
theorem dX2_fewestHems_61 : decode cX2_fewestHems 61 = .ok (.iload_n 2, 1) := by decide +kernel
theorem dX2_fewestHems_62 : decode cX2_fewestHems 62 = .ok (.ireturn, 1) := by decide +kernel
theorem dX2_isHeld_0 : decode cX2_isHeld 0 = .ok (.iconst 0, 1) := by decide +kernel
theorem dX2_isHeld_1 : decode cX2_isHeld 1 = .ok (.istore_n 2, 1) := by decide +kernel
theorem dX2_isHeld_2 : decode cX2_isHeld 2 = .ok (.iload_n 2, 1) := by decide +kernel
theorem dX2_isHeld_3 : decode cX2_isHeld 3 = .ok (.aload_n 0, 1) := by decide +kernel
theorem dX2_isHeld_4 : decode cX2_isHeld 4 = .ok (.getfield 49, 3) := by decide +kernel
theorem dX2_isHeld_7 : decode cX2_isHeld 7 = .ok (.if_icmp .ge 29, 3) := by decide +kernel
theorem dX2_isHeld_10 : decode cX2_isHeld 10 = .ok (.iload_n 2, 1) := by decide +kernel
theorem dX2_isHeld_11 : decode cX2_isHeld 11 = .ok (.sipush 256, 3) := by decide +kernel
theorem dX2_isHeld_14 : decode cX2_isHeld 14 = .ok (.if_icmp .ge 22, 3) := by decide +kernel
theorem dX2_isHeld_17 : decode cX2_isHeld 17 = .ok (.aload_n 0, 1) := by decide +kernel
theorem dX2_isHeld_18 : decode cX2_isHeld 18 = .ok (.getfield 11, 3) := by decide +kernel
theorem dX2_isHeld_21 : decode cX2_isHeld 21 = .ok (.iload_n 2, 1) := by decide +kernel
theorem dX2_isHeld_22 : decode cX2_isHeld 22 = .ok (.iaload, 1) := by decide +kernel
theorem dX2_isHeld_23 : decode cX2_isHeld 23 = .ok (.iload_n 1, 1) := by decide +kernel
theorem dX2_isHeld_24 : decode cX2_isHeld 24 = .ok (.iand, 1) := by decide +kernel
theorem dX2_isHeld_25 : decode cX2_isHeld 25 = .ok (.ifCond .ne 5, 3) := by decide +kernel
theorem dX2_isHeld_28 : decode cX2_isHeld 28 = .ok (.iconst 0, 1) := by decide +kernel
theorem dX2_isHeld_29 : decode cX2_isHeld 29 = .ok (.ireturn, 1) := by decide +kernel
theorem dX2_isHeld_30 : decode cX2_isHeld 30 = .ok (.iinc 2 1, 3) := by decide +kernel
theorem dX2_isHeld_33 : decode cX2_isHeld 33 = .ok (.goto (-31), 3) := by decide +kernel
theorem dX2_isHeld_36 : decode cX2_isHeld 36 = .ok (.iconst 1, 1) := by decide +kernel
theorem dX2_isHeld_37 : decode cX2_isHeld 37 = .ok (.ireturn, 1) := by decide +kernel
theorem dX2_leastThread_0 : decode cX2_leastThread 0 = .ok (.iconst (-1), 1) := by decide +kernel
theorem dX2_leastThread_1 : decode cX2_leastThread 1 = .ok (.istore_n 3, 1) := by decide +kernel
theorem dX2_leastThread_2 : decode cX2_leastThread 2 = .ok (.iconst 0, 1) := by decide +kernel
theorem dX2_leastThread_3 : decode cX2_leastThread 3 = .ok (.istore 4, 2) := by decide +kernel
theorem dX2_leastThread_5 : decode cX2_leastThread 5 = .ok (.iconst 0, 1) := by decide +kernel
theorem dX2_leastThread_6 : decode cX2_leastThread 6 = .ok (.istore 5, 2) := by decide +kernel
theorem dX2_leastThread_8 : decode cX2_leastThread 8 = .ok (.iload 5, 2) := by decide +kernel
theorem dX2_leastThread_10 : decode cX2_leastThread 10 = .ok (.iconst 1, 1) := by decide +kernel
theorem dX2_leastThread_11 : decode cX2_leastThread 11 = .ok (.aload_n 1, 1) := by decide +kernel
theorem dX2_leastThread_12 : decode cX2_leastThread 12 = .ok (.getfield 67, 3) := by decide +kernel
theorem dX2_leastThread_15 : decode cX2_leastThread 15 = .ok (.ishl, 1) := by decide +kernel
theorem dX2_leastThread_16 : decode cX2_leastThread 16 = .ok (.if_icmp .ge 46, 3) := by decide +kernel
theorem dX2_leastThread_19 : decode cX2_leastThread 19 = .ok (.aload_n 1, 1) := by decide +kernel
theorem dX2_leastThread_20 : decode cX2_leastThread 20 = .ok (.iload 5, 2) := by decide +kernel
theorem dX2_leastThread_22 : decode cX2_leastThread 22 = .ok (.invokevirtual 70, 3) := by decide +kernel
theorem dX2_leastThread_25 : decode cX2_leastThread 25 = .ok (.istore 6, 2) := by decide +kernel
theorem dX2_leastThread_27 : decode cX2_leastThread 27 = .ok (.iload_n 3, 1) := by decide +kernel
theorem dX2_leastThread_28 : decode cX2_leastThread 28 = .ok (.iconst (-1), 1) := by decide +kernel
theorem dX2_leastThread_29 : decode cX2_leastThread 29 = .ok (.if_icmp .eq 10, 3) := by decide +kernel
theorem dX2_leastThread_32 : decode cX2_leastThread 32 = .ok (.iload 6, 2) := by decide +kernel
theorem dX2_leastThread_34 : decode cX2_leastThread 34 = .ok (.iload 4, 2) := by decide +kernel
theorem dX2_leastThread_36 : decode cX2_leastThread 36 = .ok (.if_icmp .ge 20, 3) := by decide +kernel
theorem dX2_leastThread_39 : decode cX2_leastThread 39 = .ok (.aload_n 0, 1) := by decide +kernel
theorem dX2_leastThread_40 : decode cX2_leastThread 40 = .ok (.iload 5, 2) := by decide +kernel
theorem dX2_leastThread_42 : decode cX2_leastThread 42 = .ok (.iload_n 2, 1) := by decide +kernel
theorem dX2_leastThread_43 : decode cX2_leastThread 43 = .ok (.invokevirtual 73, 3) := by decide +kernel
theorem dX2_leastThread_46 : decode cX2_leastThread 46 = .ok (.ifCond .eq 10, 3) := by decide +kernel
theorem dX2_leastThread_49 : decode cX2_leastThread 49 = .ok (.iload 5, 2) := by decide +kernel
theorem dX2_leastThread_51 : decode cX2_leastThread 51 = .ok (.istore_n 3, 1) := by decide +kernel
theorem dX2_leastThread_52 : decode cX2_leastThread 52 = .ok (.iload 6, 2) := by decide +kernel
theorem dX2_leastThread_54 : decode cX2_leastThread 54 = .ok (.istore 4, 2) := by decide +kernel
theorem dX2_leastThread_56 : decode cX2_leastThread 56 = .ok (.iinc 5 1, 3) := by decide +kernel
theorem dX2_leastThread_59 : decode cX2_leastThread 59 = .ok (.goto (-51), 3) := by decide +kernel
theorem dX2_leastThread_62 : decode cX2_leastThread 62 = .ok (.iload_n 3, 1) := by decide +kernel
theorem dX2_leastThread_63 : decode cX2_leastThread 63 = .ok (.ireturn, 1) := by decide +kernel
theorem dX2_isMended_0 : decode cX2_isMended 0 = .ok (.iconst 0, 1) := by decide +kernel
theorem dX2_isMended_1 : decode cX2_isMended 1 = .ok (.istore_n 3, 1) := by decide +kernel
theorem dX2_isMended_2 : decode cX2_isMended 2 = .ok (.iload_n 3, 1) := by decide +kernel
theorem dX2_isMended_3 : decode cX2_isMended 3 = .ok (.aload_n 0, 1) := by decide +kernel
theorem dX2_isMended_4 : decode cX2_isMended 4 = .ok (.getfield 49, 3) := by decide +kernel
theorem dX2_isMended_7 : decode cX2_isMended 7 = .ok (.if_icmp .ge 43, 3) := by decide +kernel
theorem dX2_isMended_10 : decode cX2_isMended 10 = .ok (.iload_n 3, 1) := by decide +kernel
theorem dX2_isMended_11 : decode cX2_isMended 11 = .ok (.sipush 256, 3) := by decide +kernel
theorem dX2_isMended_14 : decode cX2_isMended 14 = .ok (.if_icmp .ge 36, 3) := by decide +kernel
theorem dX2_isMended_17 : decode cX2_isMended 17 = .ok (.aload_n 0, 1) := by decide +kernel
theorem dX2_isMended_18 : decode cX2_isMended 18 = .ok (.getfield 11, 3) := by decide +kernel
theorem dX2_isMended_21 : decode cX2_isMended 21 = .ok (.iload_n 3, 1) := by decide +kernel
theorem dX2_isMended_22 : decode cX2_isMended 22 = .ok (.iaload, 1) := by decide +kernel
theorem dX2_isMended_23 : decode cX2_isMended 23 = .ok (.invokestatic 38, 3) := by decide +kernel
theorem dX2_isMended_26 : decode cX2_isMended 26 = .ok (.aload_n 0, 1) := by decide +kernel
theorem dX2_isMended_27 : decode cX2_isMended 27 = .ok (.getfield 15, 3) := by decide +kernel
theorem dX2_isMended_30 : decode cX2_isMended 30 = .ok (.iload_n 3, 1) := by decide +kernel
theorem dX2_isMended_31 : decode cX2_isMended 31 = .ok (.iaload, 1) := by decide +kernel
theorem dX2_isMended_32 : decode cX2_isMended 32 = .ok (.iload_n 1, 1) := by decide +kernel
theorem dX2_isMended_33 : decode cX2_isMended 33 = .ok (.iand, 1) := by decide +kernel
theorem dX2_isMended_34 : decode cX2_isMended 34 = .ok (.invokestatic 38, 3) := by decide +kernel
theorem dX2_isMended_37 : decode cX2_isMended 37 = .ok (.iadd, 1) := by decide +kernel
theorem dX2_isMended_38 : decode cX2_isMended 38 = .ok (.iload_n 2, 1) := by decide +kernel
theorem dX2_isMended_39 : decode cX2_isMended 39 = .ok (.if_icmp .gt 5, 3) := by decide +kernel
theorem dX2_isMended_42 : decode cX2_isMended 42 = .ok (.iconst 0, 1) := by decide +kernel
theorem dX2_isMended_43 : decode cX2_isMended 43 = .ok (.ireturn, 1) := by decide +kernel
theorem dX2_isMended_44 : decode cX2_isMended 44 = .ok (.iinc 3 1, 3) := by decide +kernel
theorem dX2_isMended_47 : decode cX2_isMended 47 = .ok (.goto (-45), 3) := by decide +kernel
theorem dX2_isMended_50 : decode cX2_isMended 50 = .ok (.iconst 1, 1) := by decide +kernel
theorem dX2_isMended_51 : decode cX2_isMended 51 = .ok (.ireturn, 1) := by decide +kernel
theorem dX3_init_0 : decode cX3_init 0 = .ok (.aload_n 0, 1) := by decide +kernel
theorem dX3_init_1 : decode cX3_init 1 = .ok (.invokespecial 3, 3) := by decide +kernel
theorem dX3_init_4 : decode cX3_init 4 = .ok (.aload_n 0, 1) := by decide +kernel
theorem dX3_init_5 : decode cX3_init 5 = .ok (.bipush 8, 2) := by decide +kernel
theorem dX3_init_7 : decode cX3_init 7 = .ok (.newarray .int, 2) := by decide +kernel
theorem dX3_init_9 : decode cX3_init 9 = .ok (.putfield 9, 3) := by decide +kernel
theorem dX3_init_12 : decode cX3_init 12 = .ok (.aload_n 0, 1) := by decide +kernel
theorem dX3_init_13 : decode cX3_init 13 = .ok (.bipush 8, 2) := by decide +kernel
theorem dX3_init_15 : decode cX3_init 15 = .ok (.newarray .int, 2) := by decide +kernel
theorem dX3_init_17 : decode cX3_init 17 = .ok (.putfield 15, 3) := by decide +kernel
theorem dX3_init_20 : decode cX3_init 20 = .ok (.aload_n 0, 1) := by decide +kernel
theorem dX3_init_21 : decode cX3_init 21 = .ok (.bipush 8, 2) := by decide +kernel
theorem dX3_init_23 : decode cX3_init 23 = .ok (.newarray .int, 2) := by decide +kernel
theorem dX3_init_25 : decode cX3_init 25 = .ok (.putfield 18, 3) := by decide +kernel
theorem dX3_init_28 : decode cX3_init 28 = .ok (.aload_n 0, 1) := by decide +kernel
theorem dX3_init_29 : decode cX3_init 29 = .ok (.bipush 8, 2) := by decide +kernel
theorem dX3_init_31 : decode cX3_init 31 = .ok (.newarray .int, 2) := by decide +kernel
theorem dX3_init_33 : decode cX3_init 33 = .ok (.putfield 21, 3) := by decide +kernel
theorem dX3_init_36 : decode cX3_init 36 = .ok (.return_, 1) := by decide +kernel
theorem dX3_look_0 : decode cX3_look 0 = .ok (.iconst 0, 1) := by decide +kernel
theorem dX3_look_1 : decode cX3_look 1 = .ok (.istore_n 3, 1) := by decide +kernel
theorem dX3_look_2 : decode cX3_look 2 = .ok (.iload_n 3, 1) := by decide +kernel
theorem dX3_look_3 : decode cX3_look 3 = .ok (.bipush 8, 2) := by decide +kernel
theorem dX3_look_5 : decode cX3_look 5 = .ok (.if_icmp .ge 21, 3) := by decide +kernel
theorem dX3_look_8 : decode cX3_look 8 = .ok (.aload_n 0, 1) := by decide +kernel
theorem dX3_look_9 : decode cX3_look 9 = .ok (.getfield 15, 3) := by decide +kernel
theorem dX3_look_12 : decode cX3_look 12 = .ok (.iload_n 3, 1) := by decide +kernel
theorem dX3_look_13 : decode cX3_look 13 = .ok (.aload_n 1, 1) := by decide +kernel
theorem dX3_look_14 : decode cX3_look 14 = .ok (.iload_n 3, 1) := by decide +kernel
theorem dX3_look_15 : decode cX3_look 15 = .ok (.iload_n 2, 1) := by decide +kernel
theorem dX3_look_16 : decode cX3_look 16 = .ok (.invokevirtual 24, 3) := by decide +kernel
theorem dX3_look_19 : decode cX3_look 19 = .ok (.iastore, 1) := by decide +kernel
theorem dX3_look_20 : decode cX3_look 20 = .ok (.iinc 3 1, 3) := by decide +kernel
theorem dX3_look_23 : decode cX3_look 23 = .ok (.goto (-21), 3) := by decide +kernel
theorem dX3_look_26 : decode cX3_look 26 = .ok (.return_, 1) := by decide +kernel
theorem dX3_paintAnew_0 : decode cX3_paintAnew 0 = .ok (.aload_n 0, 1) := by decide +kernel
theorem dX3_paintAnew_1 : decode cX3_paintAnew 1 = .ok (.aload_n 1, 1) := by decide +kernel
theorem dX3_paintAnew_2 : decode cX3_paintAnew 2 = .ok (.iload_n 2, 1) := by decide +kernel
theorem dX3_paintAnew_3 : decode cX3_paintAnew 3 = .ok (.invokevirtual 30, 3) := by decide +kernel
theorem dX3_paintAnew_6 : decode cX3_paintAnew 6 = .ok (.aload_n 0, 1) := by decide +kernel
theorem dX3_paintAnew_7 : decode cX3_paintAnew 7 = .ok (.iconst 0, 1) := by decide +kernel
theorem dX3_paintAnew_8 : decode cX3_paintAnew 8 = .ok (.putfield 34, 3) := by decide +kernel
theorem dX3_paintAnew_11 : decode cX3_paintAnew 11 = .ok (.aload_n 0, 1) := by decide +kernel
theorem dX3_paintAnew_12 : decode cX3_paintAnew 12 = .ok (.iconst 0, 1) := by decide +kernel
theorem dX3_paintAnew_13 : decode cX3_paintAnew 13 = .ok (.putfield 38, 3) := by decide +kernel
theorem dX3_paintAnew_16 : decode cX3_paintAnew 16 = .ok (.aload_n 0, 1) := by decide +kernel
theorem dX3_paintAnew_17 : decode cX3_paintAnew 17 = .ok (.aload_n 1, 1) := by decide +kernel
theorem dX3_paintAnew_18 : decode cX3_paintAnew 18 = .ok (.invokevirtual 42, 3) := by decide +kernel
theorem dX3_paintAnew_21 : decode cX3_paintAnew 21 = .ok (.putfield 46, 3) := by decide +kernel
theorem dX3_paintAnew_24 : decode cX3_paintAnew 24 = .ok (.aload_n 0, 1) := by decide +kernel
theorem dX3_paintAnew_25 : decode cX3_paintAnew 25 = .ok (.aload_n 1, 1) := by decide +kernel
theorem dX3_paintAnew_26 : decode cX3_paintAnew 26 = .ok (.iconst 0, 1) := by decide +kernel
theorem dX3_paintAnew_27 : decode cX3_paintAnew 27 = .ok (.iconst 0, 1) := by decide +kernel
theorem dX3_paintAnew_28 : decode cX3_paintAnew 28 = .ok (.invokestatic 48, 3) := by decide +kernel
theorem dX3_paintAnew_31 : decode cX3_paintAnew 31 = .ok (.return_, 1) := by decide +kernel
theorem dX3_paintFrom_0 : decode cX3_paintFrom 0 = .ok (.aload_n 1, 1) := by decide +kernel
theorem dX3_paintFrom_1 : decode cX3_paintFrom 1 = .ok (.getfield 52, 3) := by decide +kernel
theorem dX3_paintFrom_4 : decode cX3_paintFrom 4 = .ok (.iload_n 2, 1) := by decide +kernel
theorem dX3_paintFrom_5 : decode cX3_paintFrom 5 = .ok (.isub, 1) := by decide +kernel
theorem dX3_paintFrom_6 : decode cX3_paintFrom 6 = .ok (.aload_n 0, 1) := by decide +kernel
theorem dX3_paintFrom_7 : decode cX3_paintFrom 7 = .ok (.getfield 46, 3) := by decide +kernel
theorem dX3_paintFrom_10 : decode cX3_paintFrom 10 = .ok (.imul, 1) := by decide +kernel
theorem dX3_paintFrom_11 : decode cX3_paintFrom 11 = .ok (.istore 4, 2) := by decide +kernel
theorem dX3_paintFrom_13 : decode cX3_paintFrom 13 = .ok (.aload_n 0, 1) := by decide +kernel
theorem dX3_paintFrom_14 : decode cX3_paintFrom 14 = .ok (.getfield 34, 3) := by decide +kernel
theorem dX3_paintFrom_17 : decode cX3_paintFrom 17 = .ok (.ifCond .eq 15, 3) := by decide +kernel
theorem dX3_paintFrom_20 : decode cX3_paintFrom 20 = .ok (.iload_n 3, 1) := by decide +kernel
theorem dX3_paintFrom_21 : decode cX3_paintFrom 21 = .ok (.iload 4, 2) := by decide +kernel
theorem dX3_paintFrom_23 : decode cX3_paintFrom 23 = .ok (.iadd, 1) := by decide +kernel
theorem dX3_paintFrom_24 : decode cX3_paintFrom 24 = .ok (.aload_n 0, 1) := by decide +kernel
theorem dX3_paintFrom_25 : decode cX3_paintFrom 25 = .ok (.getfield 38, 3) := by decide +kernel
theorem dX3_paintFrom_28 : decode cX3_paintFrom 28 = .ok (.if_icmp .lt 4, 3) := by decide +kernel
theorem dX3_paintFrom_31 : decode cX3_paintFrom 31 = .ok (.return_, 1) := by decide +kernel
theorem dX3_paintFrom_32 : decode cX3_paintFrom 32 = .ok (.aload_n 1, 1) := by decide +kernel
theorem dX3_paintFrom_33 : decode cX3_paintFrom 33 = .ok (.iload_n 2, 1) := by decide +kernel
theorem dX3_paintFrom_34 : decode cX3_paintFrom 34 = .ok (.invokevirtual 55, 3) := by decide +kernel
theorem dX3_paintFrom_37 : decode cX3_paintFrom 37 = .ok (.ifCond .ne 9, 3) := by decide +kernel
theorem dX3_paintFrom_40 : decode cX3_paintFrom 40 = .ok (.aload_n 0, 1) := by decide +kernel
theorem dX3_paintFrom_41 : decode cX3_paintFrom 41 = .ok (.iload_n 3, 1) := by decide +kernel
theorem dX3_paintFrom_42 : decode cX3_paintFrom 42 = .ok (.invokevirtual 59, 3) := by decide +kernel
theorem dX3_paintFrom_45 : decode cX3_paintFrom 45 = .ok (.return_, 1) := by decide +kernel
theorem dX3_paintFrom_46 : decode cX3_paintFrom 46 = .ok (.aload_n 1, 1) := by decide +kernel
theorem dX3_paintFrom_47 : decode cX3_paintFrom 47 = .ok (.invokevirtual 63, 3) := by decide +kernel
theorem dX3_paintFrom_50 : decode cX3_paintFrom 50 = .ok (.aload_n 0, 1) := by decide +kernel
theorem dX3_paintFrom_51 : decode cX3_paintFrom 51 = .ok (.iload_n 2, 1) := by decide +kernel
theorem dX3_paintFrom_52 : decode cX3_paintFrom 52 = .ok (.invokevirtual 66, 3) := by decide +kernel
theorem dX3_paintFrom_55 : decode cX3_paintFrom 55 = .ok (.iconst (-1), 1) := by decide +kernel
theorem dX3_paintFrom_56 : decode cX3_paintFrom 56 = .ok (.ixor, 1) := by decide +kernel
theorem dX3_paintFrom_57 : decode cX3_paintFrom 57 = .ok (.iand, 1) := by decide +kernel
theorem dX3_paintFrom_58 : decode cX3_paintFrom 58 = .ok (.istore 5, 2) := by decide +kernel
theorem dX3_paintFrom_60 : decode cX3_paintFrom 60 = .ok (.iconst 0, 1) := by decide +kernel
theorem dX3_paintFrom_61 : decode cX3_paintFrom 61 = .ok (.istore 6, 2) := by decide +kernel
theorem dX3_paintFrom_63 : decode cX3_paintFrom 63 = .ok (.iload 6, 2) := by decide +kernel
theorem dX3_paintFrom_65 : decode cX3_paintFrom 65 = .ok (.iconst 4, 1) := by decide +kernel
theorem dX3_paintFrom_66 : decode cX3_paintFrom 66 = .ok (.if_icmp .ge 43, 3) := by decide +kernel
theorem dX3_paintFrom_69 : decode cX3_paintFrom 69 = .ok (.iload 5, 2) := by decide +kernel
theorem dX3_paintFrom_71 : decode cX3_paintFrom 71 = .ok (.iload 6, 2) := by decide +kernel
theorem dX3_paintFrom_73 : decode cX3_paintFrom 73 = .ok (.invokestatic 70, 3) := by decide +kernel
theorem dX3_paintFrom_76 : decode cX3_paintFrom 76 = .ok (.ifCond .eq 27, 3) := by decide +kernel
theorem dX3_paintFrom_79 : decode cX3_paintFrom 79 = .ok (.aload_n 0, 1) := by decide +kernel
theorem dX3_paintFrom_80 : decode cX3_paintFrom 80 = .ok (.getfield 21, 3) := by decide +kernel
theorem dX3_paintFrom_83 : decode cX3_paintFrom 83 = .ok (.iload_n 2, 1) := by decide +kernel
theorem dX3_paintFrom_84 : decode cX3_paintFrom 84 = .ok (.iload 6, 2) := by decide +kernel
theorem dX3_paintFrom_86 : decode cX3_paintFrom 86 = .ok (.iastore, 1) := by decide +kernel
theorem dX3_paintFrom_87 : decode cX3_paintFrom 87 = .ok (.aload_n 0, 1) := by decide +kernel
theorem dX3_paintFrom_88 : decode cX3_paintFrom 88 = .ok (.aload_n 1, 1) := by decide +kernel
theorem dX3_paintFrom_89 : decode cX3_paintFrom 89 = .ok (.iload_n 2, 1) := by decide +kernel
theorem dX3_paintFrom_90 : decode cX3_paintFrom 90 = .ok (.iconst 1, 1) := by decide +kernel
theorem dX3_paintFrom_91 : decode cX3_paintFrom 91 = .ok (.iadd, 1) := by decide +kernel
theorem dX3_paintFrom_92 : decode cX3_paintFrom 92 = .ok (.iload_n 3, 1) := by decide +kernel
theorem dX3_paintFrom_93 : decode cX3_paintFrom 93 = .ok (.aload_n 1, 1) := by decide +kernel
theorem dX3_paintFrom_94 : decode cX3_paintFrom 94 = .ok (.iload 6, 2) := by decide +kernel
theorem dX3_paintFrom_96 : decode cX3_paintFrom 96 = .ok (.invokevirtual 74, 3) := by decide +kernel
theorem dX3_paintFrom_99 : decode cX3_paintFrom 99 = .ok (.iadd, 1) := by decide +kernel
theorem dX3_paintFrom_100 : decode cX3_paintFrom 100 = .ok (.invokestatic 48, 3) := by decide +kernel
theorem dX3_paintFrom_103 : decode cX3_paintFrom 103 = .ok (.iinc 6 1, 3) := by decide +kernel
theorem dX3_paintFrom_106 : decode cX3_paintFrom 106 = .ok (.goto (-43), 3) := by decide +kernel
theorem dX3_paintFrom_109 : decode cX3_paintFrom 109 = .ok (.return_, 1) := by decide +kernel
theorem dX3_take_0 : decode cX3_take 0 = .ok (.aload_n 0, 1) := by decide +kernel
theorem dX3_take_1 : decode cX3_take 1 = .ok (.iconst 1, 1) := by decide +kernel
theorem dX3_take_2 : decode cX3_take 2 = .ok (.putfield 34, 3) := by decide +kernel
theorem dX3_take_5 : decode cX3_take 5 = .ok (.aload_n 0, 1) := by decide +kernel
theorem dX3_take_6 : decode cX3_take 6 = .ok (.iload_n 1, 1) := by decide +kernel
theorem dX3_take_7 : decode cX3_take 7 = .ok (.putfield 38, 3) := by decide +kernel
theorem dX3_take_10 : decode cX3_take 10 = .ok (.aload_n 0, 1) := by decide +kernel
theorem dX3_take_11 : decode cX3_take 11 = .ok (.getfield 21, 3) := by decide +kernel
theorem dX3_take_14 : decode cX3_take 14 = .ok (.iconst 0, 1) := by decide +kernel
theorem dX3_take_15 : decode cX3_take 15 = .ok (.aload_n 0, 1) := by decide +kernel
theorem dX3_take_16 : decode cX3_take 16 = .ok (.getfield 9, 3) := by decide +kernel
theorem dX3_take_19 : decode cX3_take 19 = .ok (.iconst 0, 1) := by decide +kernel
theorem dX3_take_20 : decode cX3_take 20 = .ok (.bipush 8, 2) := by decide +kernel
theorem dX3_take_22 : decode cX3_take 22 = .ok (.invokestatic 77, 3) := by decide +kernel
theorem dX3_take_25 : decode cX3_take 25 = .ok (.return_, 1) := by decide +kernel
theorem dX3_usedNear_0 : decode cX3_usedNear 0 = .ok (.iconst 0, 1) := by decide +kernel
theorem dX3_usedNear_1 : decode cX3_usedNear 1 = .ok (.istore_n 2, 1) := by decide +kernel
theorem dX3_usedNear_2 : decode cX3_usedNear 2 = .ok (.iconst 0, 1) := by decide +kernel
theorem dX3_usedNear_3 : decode cX3_usedNear 3 = .ok (.istore_n 3, 1) := by decide +kernel
theorem dX3_usedNear_4 : decode cX3_usedNear 4 = .ok (.iload_n 3, 1) := by decide +kernel
theorem dX3_usedNear_5 : decode cX3_usedNear 5 = .ok (.iload_n 1, 1) := by decide +kernel
theorem dX3_usedNear_6 : decode cX3_usedNear 6 = .ok (.if_icmp .ge 39, 3) := by decide +kernel
theorem dX3_usedNear_9 : decode cX3_usedNear 9 = .ok (.iload_n 1, 1) := by decide +kernel
theorem dX3_usedNear_10 : decode cX3_usedNear 10 = .ok (.bipush 8, 2) := by decide +kernel
theorem dX3_usedNear_12 : decode cX3_usedNear 12 = .ok (.if_icmp .ge 33, 3) := by decide +kernel
theorem dX3_usedNear_15 : decode cX3_usedNear 15 = .ok (.aload_n 0, 1) := by decide +kernel
theorem dX3_usedNear_16 : decode cX3_usedNear 16 = .ok (.getfield 15, 3) := by decide +kernel
theorem dX3_usedNear_19 : decode cX3_usedNear 19 = .ok (.iload_n 1, 1) := by decide +kernel
theorem dX3_usedNear_20 : decode cX3_usedNear 20 = .ok (.iaload, 1) := by decide +kernel
theorem dX3_usedNear_21 : decode cX3_usedNear 21 = .ok (.iload_n 3, 1) := by decide +kernel
theorem dX3_usedNear_22 : decode cX3_usedNear 22 = .ok (.invokestatic 70, 3) := by decide +kernel
theorem dX3_usedNear_25 : decode cX3_usedNear 25 = .ok (.ifCond .eq 14, 3) := by decide +kernel
theorem dX3_usedNear_28 : decode cX3_usedNear 28 = .ok (.iload_n 2, 1) := by decide +kernel
theorem dX3_usedNear_29 : decode cX3_usedNear 29 = .ok (.iconst 1, 1) := by decide +kernel
theorem dX3_usedNear_30 : decode cX3_usedNear 30 = .ok (.aload_n 0, 1) := by decide +kernel
theorem dX3_usedNear_31 : decode cX3_usedNear 31 = .ok (.getfield 21, 3) := by decide +kernel
theorem dX3_usedNear_34 : decode cX3_usedNear 34 = .ok (.iload_n 3, 1) := by decide +kernel
theorem dX3_usedNear_35 : decode cX3_usedNear 35 = .ok (.iaload, 1) := by decide +kernel
theorem dX3_usedNear_36 : decode cX3_usedNear 36 = .ok (.ishl, 1) := by decide +kernel
theorem dX3_usedNear_37 : decode cX3_usedNear 37 = .ok (.ior, 1) := by decide +kernel
theorem dX3_usedNear_38 : decode cX3_usedNear 38 = .ok (.istore_n 2, 1) := by decide +kernel
theorem dX3_usedNear_39 : decode cX3_usedNear 39 = .ok (.iinc 3 1, 3) := by decide +kernel
theorem dX3_usedNear_42 : decode cX3_usedNear 42 = .ok (.goto (-38), 3) := by decide +kernel
theorem dX3_usedNear_45 : decode cX3_usedNear 45 = .ok (.iload_n 2, 1) := by decide +kernel
theorem dX3_usedNear_46 : decode cX3_usedNear 46 = .ok (.ireturn, 1) := by decide +kernel
theorem dX3_lookBack_0 : decode cX3_lookBack 0 = .ok (.aload_n 0, 1) := by decide +kernel
theorem dX3_lookBack_1 : decode cX3_lookBack 1 = .ok (.aload_n 1, 1) := by decide +kernel
theorem dX3_lookBack_2 : decode cX3_lookBack 2 = .ok (.iload_n 2, 1) := by decide +kernel
theorem dX3_lookBack_3 : decode cX3_lookBack 3 = .ok (.invokevirtual 30, 3) := by decide +kernel
theorem dX3_lookBack_6 : decode cX3_lookBack 6 = .ok (.iconst 0, 1) := by decide +kernel
theorem dX3_lookBack_7 : decode cX3_lookBack 7 = .ok (.istore 4, 2) := by decide +kernel
theorem dX3_lookBack_9 : decode cX3_lookBack 9 = .ok (.iload 4, 2) := by decide +kernel
theorem dX3_lookBack_11 : decode cX3_lookBack 11 = .ok (.bipush 8, 2) := by decide +kernel
theorem dX3_lookBack_13 : decode cX3_lookBack 13 = .ok (.if_icmp .ge 27, 3) := by decide +kernel
theorem dX3_lookBack_16 : decode cX3_lookBack 16 = .ok (.iload 4, 2) := by decide +kernel
theorem dX3_lookBack_18 : decode cX3_lookBack 18 = .ok (.aload_n 3, 1) := by decide +kernel
theorem dX3_lookBack_19 : decode cX3_lookBack 19 = .ok (.arraylength, 1) := by decide +kernel
theorem dX3_lookBack_20 : decode cX3_lookBack 20 = .ok (.if_icmp .ge 20, 3) := by decide +kernel
theorem dX3_lookBack_23 : decode cX3_lookBack 23 = .ok (.aload_n 0, 1) := by decide +kernel
theorem dX3_lookBack_24 : decode cX3_lookBack 24 = .ok (.getfield 18, 3) := by decide +kernel
theorem dX3_lookBack_27 : decode cX3_lookBack 27 = .ok (.iload 4, 2) := by decide +kernel
theorem dX3_lookBack_29 : decode cX3_lookBack 29 = .ok (.aload_n 3, 1) := by decide +kernel
theorem dX3_lookBack_30 : decode cX3_lookBack 30 = .ok (.iload 4, 2) := by decide +kernel
theorem dX3_lookBack_32 : decode cX3_lookBack 32 = .ok (.iaload, 1) := by decide +kernel
theorem dX3_lookBack_33 : decode cX3_lookBack 33 = .ok (.iastore, 1) := by decide +kernel
theorem dX3_lookBack_34 : decode cX3_lookBack 34 = .ok (.iinc 4 1, 3) := by decide +kernel
theorem dX3_lookBack_37 : decode cX3_lookBack 37 = .ok (.goto (-28), 3) := by decide +kernel
theorem dX3_lookBack_40 : decode cX3_lookBack 40 = .ok (.return_, 1) := by decide +kernel
theorem dX3_waysFrom_0 : decode cX3_waysFrom 0 = .ok (.aload_n 1, 1) := by decide +kernel
theorem dX3_waysFrom_1 : decode cX3_waysFrom 1 = .ok (.iload_n 2, 1) := by decide +kernel
theorem dX3_waysFrom_2 : decode cX3_waysFrom 2 = .ok (.invokevirtual 55, 3) := by decide +kernel
theorem dX3_waysFrom_5 : decode cX3_waysFrom 5 = .ok (.ifCond .ne 5, 3) := by decide +kernel
theorem dX3_waysFrom_8 : decode cX3_waysFrom 8 = .ok (.iconst 1, 1) := by decide +kernel
theorem dX3_waysFrom_9 : decode cX3_waysFrom 9 = .ok (.ireturn, 1) := by decide +kernel
theorem dX3_waysFrom_10 : decode cX3_waysFrom 10 = .ok (.aload_n 0, 1) := by decide +kernel
theorem dX3_waysFrom_11 : decode cX3_waysFrom 11 = .ok (.getfield 18, 3) := by decide +kernel
theorem dX3_waysFrom_14 : decode cX3_waysFrom 14 = .ok (.iload_n 2, 1) := by decide +kernel
theorem dX3_waysFrom_15 : decode cX3_waysFrom 15 = .ok (.iaload, 1) := by decide +kernel
theorem dX3_waysFrom_16 : decode cX3_waysFrom 16 = .ok (.aload_n 0, 1) := by decide +kernel
theorem dX3_waysFrom_17 : decode cX3_waysFrom 17 = .ok (.iload_n 2, 1) := by decide +kernel
theorem dX3_waysFrom_18 : decode cX3_waysFrom 18 = .ok (.invokevirtual 66, 3) := by decide +kernel
theorem dX3_waysFrom_21 : decode cX3_waysFrom 21 = .ok (.iconst (-1), 1) := by decide +kernel
theorem dX3_waysFrom_22 : decode cX3_waysFrom 22 = .ok (.ixor, 1) := by decide +kernel
theorem dX3_waysFrom_23 : decode cX3_waysFrom 23 = .ok (.iand, 1) := by decide +kernel
theorem dX3_waysFrom_24 : decode cX3_waysFrom 24 = .ok (.istore_n 3, 1) := by decide +kernel
theorem dX3_waysFrom_25 : decode cX3_waysFrom 25 = .ok (.aload_n 0, 1) := by decide +kernel
theorem dX3_waysFrom_26 : decode cX3_waysFrom 26 = .ok (.getfield 15, 3) := by decide +kernel
theorem dX3_waysFrom_29 : decode cX3_waysFrom 29 = .ok (.iload_n 2, 1) := by decide +kernel
theorem dX3_waysFrom_30 : decode cX3_waysFrom 30 = .ok (.iaload, 1) := by decide +kernel
theorem dX3_waysFrom_31 : decode cX3_waysFrom 31 = .ok (.iload_n 2, 1) := by decide +kernel
theorem dX3_waysFrom_32 : decode cX3_waysFrom 32 = .ok (.ishr, 1) := by decide +kernel
theorem dX3_waysFrom_33 : decode cX3_waysFrom 33 = .ok (.ifCond .ne 25, 3) := by decide +kernel
theorem dX3_waysFrom_36 : decode cX3_waysFrom 36 = .ok (.iload_n 3, 1) := by decide +kernel
theorem dX3_waysFrom_37 : decode cX3_waysFrom 37 = .ok (.ifCond .ne 7, 3) := by decide +kernel
theorem dX3_waysFrom_40 : decode cX3_waysFrom 40 = .ok (.iconst 0, 1) := by decide +kernel
theorem dX3_waysFrom_41 : decode cX3_waysFrom 41 = .ok (.goto 16, 3) := by decide +kernel
theorem dX3_waysFrom_44 : decode cX3_waysFrom 44 = .ok (.iload_n 3, 1) := by decide +kernel
theorem dX3_waysFrom_45 : decode cX3_waysFrom 45 = .ok (.invokestatic 83, 3) := by decide +kernel
theorem dX3_waysFrom_48 : decode cX3_waysFrom 48 = .ok (.aload_n 0, 1) := by decide +kernel
theorem dX3_waysFrom_49 : decode cX3_waysFrom 49 = .ok (.aload_n 1, 1) := by decide +kernel
theorem dX3_waysFrom_50 : decode cX3_waysFrom 50 = .ok (.iload_n 2, 1) := by decide +kernel
theorem dX3_waysFrom_51 : decode cX3_waysFrom 51 = .ok (.iconst 1, 1) := by decide +kernel
theorem dX3_waysFrom_52 : decode cX3_waysFrom 52 = .ok (.iadd, 1) := by decide +kernel
theorem dX3_waysFrom_53 : decode cX3_waysFrom 53 = .ok (.invokestatic 88, 3) := by decide +kernel
theorem dX3_waysFrom_56 : decode cX3_waysFrom 56 = .ok (.imul, 1) := by decide +kernel
theorem dX3_waysFrom_57 : decode cX3_waysFrom 57 = .ok (.ireturn, 1) := by decide +kernel
theorem dX3_waysFrom_58 : decode cX3_waysFrom 58 = .ok (.iconst 0, 1) := by decide +kernel
theorem dX3_waysFrom_59 : decode cX3_waysFrom 59 = .ok (.istore 4, 2) := by decide +kernel
theorem dX3_waysFrom_61 : decode cX3_waysFrom 61 = .ok (.iconst 0, 1) := by decide +kernel
theorem dX3_waysFrom_62 : decode cX3_waysFrom 62 = .ok (.istore 5, 2) := by decide +kernel
theorem dX3_waysFrom_64 : decode cX3_waysFrom 64 = .ok (.iload 5, 2) := by decide +kernel
theorem dX3_waysFrom_66 : decode cX3_waysFrom 66 = .ok (.iconst 4, 1) := by decide +kernel
theorem dX3_waysFrom_67 : decode cX3_waysFrom 67 = .ok (.if_icmp .ge 39, 3) := by decide +kernel
theorem dX3_waysFrom_70 : decode cX3_waysFrom 70 = .ok (.iload_n 3, 1) := by decide +kernel
theorem dX3_waysFrom_71 : decode cX3_waysFrom 71 = .ok (.iload 5, 2) := by decide +kernel
theorem dX3_waysFrom_73 : decode cX3_waysFrom 73 = .ok (.invokestatic 70, 3) := by decide +kernel
theorem dX3_waysFrom_76 : decode cX3_waysFrom 76 = .ok (.ifCond .eq 24, 3) := by decide +kernel
theorem dX3_waysFrom_79 : decode cX3_waysFrom 79 = .ok (.aload_n 0, 1) := by decide +kernel
theorem dX3_waysFrom_80 : decode cX3_waysFrom 80 = .ok (.getfield 21, 3) := by decide +kernel
theorem dX3_waysFrom_83 : decode cX3_waysFrom 83 = .ok (.iload_n 2, 1) := by decide +kernel
theorem dX3_waysFrom_84 : decode cX3_waysFrom 84 = .ok (.iload 5, 2) := by decide +kernel
theorem dX3_waysFrom_86 : decode cX3_waysFrom 86 = .ok (.iastore, 1) := by decide +kernel
theorem dX3_waysFrom_87 : decode cX3_waysFrom 87 = .ok (.iload 4, 2) := by decide +kernel
theorem dX3_waysFrom_89 : decode cX3_waysFrom 89 = .ok (.aload_n 0, 1) := by decide +kernel
theorem dX3_waysFrom_90 : decode cX3_waysFrom 90 = .ok (.aload_n 1, 1) := by decide +kernel
theorem dX3_waysFrom_91 : decode cX3_waysFrom 91 = .ok (.iload_n 2, 1) := by decide +kernel
theorem dX3_waysFrom_92 : decode cX3_waysFrom 92 = .ok (.iconst 1, 1) := by decide +kernel
theorem dX3_waysFrom_93 : decode cX3_waysFrom 93 = .ok (.iadd, 1) := by decide +kernel
theorem dX3_waysFrom_94 : decode cX3_waysFrom 94 = .ok (.invokestatic 88, 3) := by decide +kernel
theorem dX3_waysFrom_97 : decode cX3_waysFrom 97 = .ok (.iadd, 1) := by decide +kernel
theorem dX3_waysFrom_98 : decode cX3_waysFrom 98 = .ok (.istore 4, 2) := by decide +kernel
theorem dX3_waysFrom_100 : decode cX3_waysFrom 100 = .ok (.iinc 5 1, 3) := by decide +kernel
theorem dX3_waysFrom_103 : decode cX3_waysFrom 103 = .ok (.goto (-39), 3) := by decide +kernel
theorem dX3_waysFrom_106 : decode cX3_waysFrom 106 = .ok (.iload 4, 2) := by decide +kernel
theorem dX3_waysFrom_108 : decode cX3_waysFrom 108 = .ok (.ireturn, 1) := by decide +kernel
theorem dX3_ways_0 : decode cX3_ways 0 = .ok (.aload_n 0, 1) := by decide +kernel
theorem dX3_ways_1 : decode cX3_ways 1 = .ok (.aload_n 1, 1) := by decide +kernel
theorem dX3_ways_2 : decode cX3_ways 2 = .ok (.iconst 0, 1) := by decide +kernel
theorem dX3_ways_3 : decode cX3_ways 3 = .ok (.invokestatic 88, 3) := by decide +kernel
theorem dX3_ways_6 : decode cX3_ways 6 = .ok (.ireturn, 1) := by decide +kernel
theorem dX3_onlyColour_0 : decode cX3_onlyColour 0 = .ok (.aload_n 1, 1) := by decide +kernel
theorem dX3_onlyColour_1 : decode cX3_onlyColour 1 = .ok (.iload_n 2, 1) := by decide +kernel
theorem dX3_onlyColour_2 : decode cX3_onlyColour 2 = .ok (.invokevirtual 55, 3) := by decide +kernel
theorem dX3_onlyColour_5 : decode cX3_onlyColour 5 = .ok (.ifCond .ne 5, 3) := by decide +kernel
theorem dX3_onlyColour_8 : decode cX3_onlyColour 8 = .ok (.iconst (-1), 1) := by decide +kernel
theorem dX3_onlyColour_9 : decode cX3_onlyColour 9 = .ok (.ireturn, 1) := by decide +kernel
theorem dX3_onlyColour_10 : decode cX3_onlyColour 10 = .ok (.aload_n 0, 1) := by decide +kernel
theorem dX3_onlyColour_11 : decode cX3_onlyColour 11 = .ok (.getfield 18, 3) := by decide +kernel
theorem dX3_onlyColour_14 : decode cX3_onlyColour 14 = .ok (.iload_n 2, 1) := by decide +kernel
theorem dX3_onlyColour_15 : decode cX3_onlyColour 15 = .ok (.iaload, 1) := by decide +kernel
theorem dX3_onlyColour_16 : decode cX3_onlyColour 16 = .ok (.istore_n 3, 1) := by decide +kernel
theorem dX3_onlyColour_17 : decode cX3_onlyColour 17 = .ok (.iconst (-1), 1) := by decide +kernel
theorem dX3_onlyColour_18 : decode cX3_onlyColour 18 = .ok (.istore 4, 2) := by decide +kernel
theorem dX3_onlyColour_20 : decode cX3_onlyColour 20 = .ok (.iconst 0, 1) := by decide +kernel
theorem dX3_onlyColour_21 : decode cX3_onlyColour 21 = .ok (.istore 5, 2) := by decide +kernel
theorem dX3_onlyColour_23 : decode cX3_onlyColour 23 = .ok (.iload 5, 2) := by decide +kernel
theorem dX3_onlyColour_25 : decode cX3_onlyColour 25 = .ok (.iconst 4, 1) := by decide +kernel
theorem dX3_onlyColour_26 : decode cX3_onlyColour 26 = .ok (.if_icmp .ge 41, 3) := by decide +kernel
theorem dX3_onlyColour_29 : decode cX3_onlyColour 29 = .ok (.aload_n 0, 1) := by decide +kernel
theorem dX3_onlyColour_30 : decode cX3_onlyColour 30 = .ok (.getfield 18, 3) := by decide +kernel
theorem dX3_onlyColour_33 : decode cX3_onlyColour 33 = .ok (.iload_n 2, 1) := by decide +kernel
theorem dX3_onlyColour_34 : decode cX3_onlyColour 34 = .ok (.iload_n 3, 1) := by decide +kernel
theorem dX3_onlyColour_35 : decode cX3_onlyColour 35 = .ok (.iconst 1, 1) := by decide +kernel
theorem dX3_onlyColour_36 : decode cX3_onlyColour 36 = .ok (.iload 5, 2) := by decide +kernel
theorem dX3_onlyColour_38 : decode cX3_onlyColour 38 = .ok (.ishl, 1) := by decide +kernel
theorem dX3_onlyColour_39 : decode cX3_onlyColour 39 = .ok (.iand, 1) := by decide +kernel
theorem dX3_onlyColour_40 : decode cX3_onlyColour 40 = .ok (.iastore, 1) := by decide +kernel
theorem dX3_onlyColour_41 : decode cX3_onlyColour 41 = .ok (.aload_n 0, 1) := by decide +kernel
theorem dX3_onlyColour_42 : decode cX3_onlyColour 42 = .ok (.aload_n 1, 1) := by decide +kernel
theorem dX3_onlyColour_43 : decode cX3_onlyColour 43 = .ok (.invokevirtual 92, 3) := by decide +kernel
theorem dX3_onlyColour_46 : decode cX3_onlyColour 46 = .ok (.ifCond .le 15, 3) := by decide +kernel
theorem dX3_onlyColour_49 : decode cX3_onlyColour 49 = .ok (.iload 4, 2) := by decide +kernel
theorem dX3_onlyColour_51 : decode cX3_onlyColour 51 = .ok (.iconst (-1), 1) := by decide +kernel
theorem dX3_onlyColour_52 : decode cX3_onlyColour 52 = .ok (.if_icmp .eq 5, 3) := by decide +kernel
theorem dX3_onlyColour_55 : decode cX3_onlyColour 55 = .ok (.iconst (-1), 1) := by decide +kernel
theorem dX3_onlyColour_56 : decode cX3_onlyColour 56 = .ok (.ireturn, 1) := by decide +kernel
theorem dX3_onlyColour_57 : decode cX3_onlyColour 57 = .ok (.iload 5, 2) := by decide +kernel
theorem dX3_onlyColour_59 : decode cX3_onlyColour 59 = .ok (.istore 4, 2) := by decide +kernel
theorem dX3_onlyColour_61 : decode cX3_onlyColour 61 = .ok (.iinc 5 1, 3) := by decide +kernel
theorem dX3_onlyColour_64 : decode cX3_onlyColour 64 = .ok (.goto (-41), 3) := by decide +kernel
theorem dX3_onlyColour_67 : decode cX3_onlyColour 67 = .ok (.iload 4, 2) := by decide +kernel
theorem dX3_onlyColour_69 : decode cX3_onlyColour 69 = .ok (.ireturn, 1) := by decide +kernel
theorem dX4_init_0 : decode cX4_init 0 = .ok (.aload_n 0, 1) := by decide +kernel
theorem dX4_init_1 : decode cX4_init 1 = .ok (.invokespecial 3, 3) := by decide +kernel
theorem dX4_init_4 : decode cX4_init 4 = .ok (.aload_n 0, 1) := by decide +kernel
theorem dX4_init_5 : decode cX4_init 5 = .ok (.iconst 4, 1) := by decide +kernel
theorem dX4_init_6 : decode cX4_init 6 = .ok (.newarray .int, 2) := by decide +kernel
theorem dX4_init_8 : decode cX4_init 8 = .ok (.putfield 9, 3) := by decide +kernel
theorem dX4_init_11 : decode cX4_init 11 = .ok (.aload_n 0, 1) := by decide +kernel
theorem dX4_init_12 : decode cX4_init 12 = .ok (.bipush 8, 2) := by decide +kernel
theorem dX4_init_14 : decode cX4_init 14 = .ok (.newarray .int, 2) := by decide +kernel
theorem dX4_init_16 : decode cX4_init 16 = .ok (.putfield 15, 3) := by decide +kernel
theorem dX4_init_19 : decode cX4_init 19 = .ok (.aload_n 0, 1) := by decide +kernel
theorem dX4_init_20 : decode cX4_init 20 = .ok (.bipush 12, 2) := by decide +kernel
theorem dX4_init_22 : decode cX4_init 22 = .ok (.newarray .int, 2) := by decide +kernel
theorem dX4_init_24 : decode cX4_init 24 = .ok (.putfield 18, 3) := by decide +kernel
theorem dX4_init_27 : decode cX4_init 27 = .ok (.aload_n 0, 1) := by decide +kernel
theorem dX4_init_28 : decode cX4_init 28 = .ok (.bipush 12, 2) := by decide +kernel
theorem dX4_init_30 : decode cX4_init 30 = .ok (.newarray .int, 2) := by decide +kernel
theorem dX4_init_32 : decode cX4_init 32 = .ok (.putfield 21, 3) := by decide +kernel
theorem dX4_init_35 : decode cX4_init 35 = .ok (.aload_n 0, 1) := by decide +kernel
theorem dX4_init_36 : decode cX4_init 36 = .ok (.bipush 12, 2) := by decide +kernel
theorem dX4_init_38 : decode cX4_init 38 = .ok (.newarray .int, 2) := by decide +kernel
theorem dX4_init_40 : decode cX4_init 40 = .ok (.putfield 24, 3) := by decide +kernel
theorem dX4_init_43 : decode cX4_init 43 = .ok (.aload_n 0, 1) := by decide +kernel
theorem dX4_init_44 : decode cX4_init 44 = .ok (.bipush 12, 2) := by decide +kernel
theorem dX4_init_46 : decode cX4_init 46 = .ok (.newarray .int, 2) := by decide +kernel
theorem dX4_init_48 : decode cX4_init 48 = .ok (.putfield 27, 3) := by decide +kernel
theorem dX4_init_51 : decode cX4_init 51 = .ok (.aload_n 0, 1) := by decide +kernel
theorem dX4_init_52 : decode cX4_init 52 = .ok (.bipush 8, 2) := by decide +kernel
theorem dX4_init_54 : decode cX4_init 54 = .ok (.newarray .int, 2) := by decide +kernel
theorem dX4_init_56 : decode cX4_init 56 = .ok (.putfield 30, 3) := by decide +kernel
theorem dX4_init_59 : decode cX4_init 59 = .ok (.aload_n 0, 1) := by decide +kernel
theorem dX4_init_60 : decode cX4_init 60 = .ok (.bipush 8, 2) := by decide +kernel
theorem dX4_init_62 : decode cX4_init 62 = .ok (.newarray .int, 2) := by decide +kernel
theorem dX4_init_64 : decode cX4_init 64 = .ok (.putfield 33, 3) := by decide +kernel
theorem dX4_init_67 : decode cX4_init 67 = .ok (.return_, 1) := by decide +kernel
theorem dX4_clear_0 : decode cX4_clear 0 = .ok (.aload_n 0, 1) := by decide +kernel
theorem dX4_clear_1 : decode cX4_clear 1 = .ok (.iconst 0, 1) := by decide +kernel
theorem dX4_clear_2 : decode cX4_clear 2 = .ok (.putfield 36, 3) := by decide +kernel
theorem dX4_clear_5 : decode cX4_clear 5 = .ok (.aload_n 0, 1) := by decide +kernel
theorem dX4_clear_6 : decode cX4_clear 6 = .ok (.iconst 0, 1) := by decide +kernel
theorem dX4_clear_7 : decode cX4_clear 7 = .ok (.putfield 40, 3) := by decide +kernel
theorem dX4_clear_10 : decode cX4_clear 10 = .ok (.aload_n 0, 1) := by decide +kernel
theorem dX4_clear_11 : decode cX4_clear 11 = .ok (.iconst 0, 1) := by decide +kernel
theorem dX4_clear_12 : decode cX4_clear 12 = .ok (.putfield 43, 3) := by decide +kernel
theorem dX4_clear_15 : decode cX4_clear 15 = .ok (.aload_n 0, 1) := by decide +kernel
theorem dX4_clear_16 : decode cX4_clear 16 = .ok (.iconst 0, 1) := by decide +kernel
theorem dX4_clear_17 : decode cX4_clear 17 = .ok (.putfield 46, 3) := by decide +kernel
theorem dX4_clear_20 : decode cX4_clear 20 = .ok (.iconst 0, 1) := by decide +kernel
theorem dX4_clear_21 : decode cX4_clear 21 = .ok (.istore_n 1, 1) := by decide +kernel
theorem dX4_clear_22 : decode cX4_clear 22 = .ok (.iload_n 1, 1) := by decide +kernel
theorem dX4_clear_23 : decode cX4_clear 23 = .ok (.bipush 12, 2) := by decide +kernel
theorem dX4_clear_25 : decode cX4_clear 25 = .ok (.if_icmp .ge 16, 3) := by decide +kernel
theorem dX4_clear_28 : decode cX4_clear 28 = .ok (.aload_n 0, 1) := by decide +kernel
theorem dX4_clear_29 : decode cX4_clear 29 = .ok (.getfield 24, 3) := by decide +kernel
theorem dX4_clear_32 : decode cX4_clear 32 = .ok (.iload_n 1, 1) := by decide +kernel
theorem dX4_clear_33 : decode cX4_clear 33 = .ok (.iconst 0, 1) := by decide +kernel
theorem dX4_clear_34 : decode cX4_clear 34 = .ok (.iastore, 1) := by decide +kernel
theorem dX4_clear_35 : decode cX4_clear 35 = .ok (.iinc 1 1, 3) := by decide +kernel
theorem dX4_clear_38 : decode cX4_clear 38 = .ok (.goto (-16), 3) := by decide +kernel
theorem dX4_clear_41 : decode cX4_clear 41 = .ok (.return_, 1) := by decide +kernel
theorem dX4_addColour_0 : decode cX4_addColour 0 = .ok (.aload_n 0, 1) := by decide +kernel
theorem dX4_addColour_1 : decode cX4_addColour 1 = .ok (.getfield 36, 3) := by decide +kernel
theorem dX4_addColour_4 : decode cX4_addColour 4 = .ok (.ifCond .lt 31, 3) := by decide +kernel
theorem dX4_addColour_7 : decode cX4_addColour 7 = .ok (.aload_n 0, 1) := by decide +kernel
theorem dX4_addColour_8 : decode cX4_addColour 8 = .ok (.getfield 36, 3) := by decide +kernel
theorem dX4_addColour_11 : decode cX4_addColour 11 = .ok (.iconst 4, 1) := by decide +kernel
theorem dX4_addColour_12 : decode cX4_addColour 12 = .ok (.if_icmp .ge 23, 3) := by decide +kernel
theorem dX4_addColour_15 : decode cX4_addColour 15 = .ok (.aload_n 0, 1) := by decide +kernel
theorem dX4_addColour_16 : decode cX4_addColour 16 = .ok (.getfield 9, 3) := by decide +kernel
theorem dX4_addColour_19 : decode cX4_addColour 19 = .ok (.aload_n 0, 1) := by decide +kernel
theorem dX4_addColour_20 : decode cX4_addColour 20 = .ok (.getfield 36, 3) := by decide +kernel
theorem dX4_addColour_23 : decode cX4_addColour 23 = .ok (.iload_n 1, 1) := by decide +kernel
theorem dX4_addColour_24 : decode cX4_addColour 24 = .ok (.iastore, 1) := by decide +kernel
theorem dX4_addColour_25 : decode cX4_addColour 25 = .ok (.aload_n 0, 1) := by decide +kernel
theorem dX4_addColour_26 : decode cX4_addColour 26 = .ok (.dup, 1) := by decide +kernel
theorem dX4_addColour_27 : decode cX4_addColour 27 = .ok (.getfield 36, 3) := by decide +kernel
theorem dX4_addColour_30 : decode cX4_addColour 30 = .ok (.iconst 1, 1) := by decide +kernel
theorem dX4_addColour_31 : decode cX4_addColour 31 = .ok (.iadd, 1) := by decide +kernel
theorem dX4_addColour_32 : decode cX4_addColour 32 = .ok (.putfield 36, 3) := by decide +kernel
theorem dX4_addColour_35 : decode cX4_addColour 35 = .ok (.return_, 1) := by decide +kernel
theorem dX4_addStrip_0 : decode cX4_addStrip 0 = .ok (.aload_n 0, 1) := by decide +kernel
theorem dX4_addStrip_1 : decode cX4_addStrip 1 = .ok (.getfield 40, 3) := by decide +kernel
theorem dX4_addStrip_4 : decode cX4_addStrip 4 = .ok (.ifCond .lt 32, 3) := by decide +kernel
theorem dX4_addStrip_7 : decode cX4_addStrip 7 = .ok (.aload_n 0, 1) := by decide +kernel
theorem dX4_addStrip_8 : decode cX4_addStrip 8 = .ok (.getfield 40, 3) := by decide +kernel
theorem dX4_addStrip_11 : decode cX4_addStrip 11 = .ok (.bipush 8, 2) := by decide +kernel
theorem dX4_addStrip_13 : decode cX4_addStrip 13 = .ok (.if_icmp .ge 23, 3) := by decide +kernel
theorem dX4_addStrip_16 : decode cX4_addStrip 16 = .ok (.aload_n 0, 1) := by decide +kernel
theorem dX4_addStrip_17 : decode cX4_addStrip 17 = .ok (.getfield 15, 3) := by decide +kernel
theorem dX4_addStrip_20 : decode cX4_addStrip 20 = .ok (.aload_n 0, 1) := by decide +kernel
theorem dX4_addStrip_21 : decode cX4_addStrip 21 = .ok (.getfield 40, 3) := by decide +kernel
theorem dX4_addStrip_24 : decode cX4_addStrip 24 = .ok (.iload_n 1, 1) := by decide +kernel
theorem dX4_addStrip_25 : decode cX4_addStrip 25 = .ok (.iastore, 1) := by decide +kernel
theorem dX4_addStrip_26 : decode cX4_addStrip 26 = .ok (.aload_n 0, 1) := by decide +kernel
theorem dX4_addStrip_27 : decode cX4_addStrip 27 = .ok (.dup, 1) := by decide +kernel
theorem dX4_addStrip_28 : decode cX4_addStrip 28 = .ok (.getfield 40, 3) := by decide +kernel
theorem dX4_addStrip_31 : decode cX4_addStrip 31 = .ok (.iconst 1, 1) := by decide +kernel
theorem dX4_addStrip_32 : decode cX4_addStrip 32 = .ok (.iadd, 1) := by decide +kernel
theorem dX4_addStrip_33 : decode cX4_addStrip 33 = .ok (.putfield 40, 3) := by decide +kernel
theorem dX4_addStrip_36 : decode cX4_addStrip 36 = .ok (.return_, 1) := by decide +kernel
theorem dX4_addSeam_0 : decode cX4_addSeam 0 = .ok (.aload_n 0, 1) := by decide +kernel
theorem dX4_addSeam_1 : decode cX4_addSeam 1 = .ok (.getfield 43, 3) := by decide +kernel
theorem dX4_addSeam_4 : decode cX4_addSeam 4 = .ok (.ifCond .lt 79, 3) := by decide +kernel
theorem dX4_addSeam_7 : decode cX4_addSeam 7 = .ok (.aload_n 0, 1) := by decide +kernel
theorem dX4_addSeam_8 : decode cX4_addSeam 8 = .ok (.getfield 43, 3) := by decide +kernel
theorem dX4_addSeam_11 : decode cX4_addSeam 11 = .ok (.bipush 12, 2) := by decide +kernel
theorem dX4_addSeam_13 : decode cX4_addSeam 13 = .ok (.if_icmp .ge 70, 3) := by decide +kernel
theorem dX4_addSeam_16 : decode cX4_addSeam 16 = .ok (.aload_n 0, 1) := by decide +kernel
theorem dX4_addSeam_17 : decode cX4_addSeam 17 = .ok (.getfield 18, 3) := by decide +kernel
theorem dX4_addSeam_20 : decode cX4_addSeam 20 = .ok (.aload_n 0, 1) := by decide +kernel
theorem dX4_addSeam_21 : decode cX4_addSeam 21 = .ok (.getfield 43, 3) := by decide +kernel
theorem dX4_addSeam_24 : decode cX4_addSeam 24 = .ok (.iload_n 1, 1) := by decide +kernel
theorem dX4_addSeam_25 : decode cX4_addSeam 25 = .ok (.iastore, 1) := by decide +kernel
theorem dX4_addSeam_26 : decode cX4_addSeam 26 = .ok (.aload_n 0, 1) := by decide +kernel
theorem dX4_addSeam_27 : decode cX4_addSeam 27 = .ok (.getfield 21, 3) := by decide +kernel
theorem dX4_addSeam_30 : decode cX4_addSeam 30 = .ok (.aload_n 0, 1) := by decide +kernel
theorem dX4_addSeam_31 : decode cX4_addSeam 31 = .ok (.getfield 43, 3) := by decide +kernel
theorem dX4_addSeam_34 : decode cX4_addSeam 34 = .ok (.iload_n 2, 1) := by decide +kernel
theorem dX4_addSeam_35 : decode cX4_addSeam 35 = .ok (.iastore, 1) := by decide +kernel
theorem dX4_addSeam_36 : decode cX4_addSeam 36 = .ok (.aload_n 0, 1) := by decide +kernel
theorem dX4_addSeam_37 : decode cX4_addSeam 37 = .ok (.getfield 27, 3) := by decide +kernel
theorem dX4_addSeam_40 : decode cX4_addSeam 40 = .ok (.aload_n 0, 1) := by decide +kernel
theorem dX4_addSeam_41 : decode cX4_addSeam 41 = .ok (.getfield 43, 3) := by decide +kernel
theorem dX4_addSeam_44 : decode cX4_addSeam 44 = .ok (.iconst 1, 1) := by decide +kernel
theorem dX4_addSeam_45 : decode cX4_addSeam 45 = .ok (.iload_n 1, 1) := by decide +kernel
theorem dX4_addSeam_46 : decode cX4_addSeam 46 = .ok (.ishl, 1) := by decide +kernel
theorem dX4_addSeam_47 : decode cX4_addSeam 47 = .ok (.iload_n 2, 1) := by decide +kernel
theorem dX4_addSeam_48 : decode cX4_addSeam 48 = .ok (.iconst (-1), 1) := by decide +kernel
theorem dX4_addSeam_49 : decode cX4_addSeam 49 = .ok (.if_icmp .ne 9, 3) := by decide +kernel
theorem dX4_addSeam_52 : decode cX4_addSeam 52 = .ok (.sipush 256, 3) := by decide +kernel
theorem dX4_addSeam_55 : decode cX4_addSeam 55 = .ok (.goto 6, 3) := by decide +kernel
theorem dX4_addSeam_58 : decode cX4_addSeam 58 = .ok (.iconst 1, 1) := by decide +kernel
theorem dX4_addSeam_59 : decode cX4_addSeam 59 = .ok (.iload_n 2, 1) := by decide +kernel
theorem dX4_addSeam_60 : decode cX4_addSeam 60 = .ok (.ishl, 1) := by decide +kernel
theorem dX4_addSeam_61 : decode cX4_addSeam 61 = .ok (.ior, 1) := by decide +kernel
theorem dX4_addSeam_62 : decode cX4_addSeam 62 = .ok (.iastore, 1) := by decide +kernel
theorem dX4_addSeam_63 : decode cX4_addSeam 63 = .ok (.aload_n 0, 1) := by decide +kernel
theorem dX4_addSeam_64 : decode cX4_addSeam 64 = .ok (.getfield 24, 3) := by decide +kernel
theorem dX4_addSeam_67 : decode cX4_addSeam 67 = .ok (.aload_n 0, 1) := by decide +kernel
theorem dX4_addSeam_68 : decode cX4_addSeam 68 = .ok (.getfield 43, 3) := by decide +kernel
theorem dX4_addSeam_71 : decode cX4_addSeam 71 = .ok (.iload_n 3, 1) := by decide +kernel
theorem dX4_addSeam_72 : decode cX4_addSeam 72 = .ok (.iastore, 1) := by decide +kernel
theorem dX4_addSeam_73 : decode cX4_addSeam 73 = .ok (.aload_n 0, 1) := by decide +kernel
theorem dX4_addSeam_74 : decode cX4_addSeam 74 = .ok (.dup, 1) := by decide +kernel
theorem dX4_addSeam_75 : decode cX4_addSeam 75 = .ok (.getfield 43, 3) := by decide +kernel
theorem dX4_addSeam_78 : decode cX4_addSeam 78 = .ok (.iconst 1, 1) := by decide +kernel
theorem dX4_addSeam_79 : decode cX4_addSeam 79 = .ok (.iadd, 1) := by decide +kernel
theorem dX4_addSeam_80 : decode cX4_addSeam 80 = .ok (.putfield 43, 3) := by decide +kernel
theorem dX4_addSeam_83 : decode cX4_addSeam 83 = .ok (.return_, 1) := by decide +kernel
theorem dX4_addCould_0 : decode cX4_addCould 0 = .ok (.aload_n 0, 1) := by decide +kernel
theorem dX4_addCould_1 : decode cX4_addCould 1 = .ok (.getfield 46, 3) := by decide +kernel
theorem dX4_addCould_4 : decode cX4_addCould 4 = .ok (.ifCond .lt 59, 3) := by decide +kernel
theorem dX4_addCould_7 : decode cX4_addCould 7 = .ok (.aload_n 0, 1) := by decide +kernel
theorem dX4_addCould_8 : decode cX4_addCould 8 = .ok (.getfield 46, 3) := by decide +kernel
theorem dX4_addCould_11 : decode cX4_addCould 11 = .ok (.bipush 8, 2) := by decide +kernel
theorem dX4_addCould_13 : decode cX4_addCould 13 = .ok (.if_icmp .ge 50, 3) := by decide +kernel
theorem dX4_addCould_16 : decode cX4_addCould 16 = .ok (.aload_n 0, 1) := by decide +kernel
theorem dX4_addCould_17 : decode cX4_addCould 17 = .ok (.getfield 30, 3) := by decide +kernel
theorem dX4_addCould_20 : decode cX4_addCould 20 = .ok (.aload_n 0, 1) := by decide +kernel
theorem dX4_addCould_21 : decode cX4_addCould 21 = .ok (.getfield 46, 3) := by decide +kernel
theorem dX4_addCould_24 : decode cX4_addCould 24 = .ok (.iconst 1, 1) := by decide +kernel
theorem dX4_addCould_25 : decode cX4_addCould 25 = .ok (.iload_n 1, 1) := by decide +kernel
theorem dX4_addCould_26 : decode cX4_addCould 26 = .ok (.ishl, 1) := by decide +kernel
theorem dX4_addCould_27 : decode cX4_addCould 27 = .ok (.iload_n 2, 1) := by decide +kernel
theorem dX4_addCould_28 : decode cX4_addCould 28 = .ok (.iload_n 1, 1) := by decide +kernel
theorem dX4_addCould_29 : decode cX4_addCould 29 = .ok (.if_icmp .ne 9, 3) := by decide +kernel
theorem dX4_addCould_32 : decode cX4_addCould 32 = .ok (.sipush 256, 3) := by decide +kernel
theorem dX4_addCould_35 : decode cX4_addCould 35 = .ok (.goto 6, 3) := by decide +kernel
theorem dX4_addCould_38 : decode cX4_addCould 38 = .ok (.iconst 1, 1) := by decide +kernel
theorem dX4_addCould_39 : decode cX4_addCould 39 = .ok (.iload_n 2, 1) := by decide +kernel
theorem dX4_addCould_40 : decode cX4_addCould 40 = .ok (.ishl, 1) := by decide +kernel
theorem dX4_addCould_41 : decode cX4_addCould 41 = .ok (.ior, 1) := by decide +kernel
theorem dX4_addCould_42 : decode cX4_addCould 42 = .ok (.iastore, 1) := by decide +kernel
theorem dX4_addCould_43 : decode cX4_addCould 43 = .ok (.aload_n 0, 1) := by decide +kernel
theorem dX4_addCould_44 : decode cX4_addCould 44 = .ok (.getfield 33, 3) := by decide +kernel
theorem dX4_addCould_47 : decode cX4_addCould 47 = .ok (.aload_n 0, 1) := by decide +kernel
theorem dX4_addCould_48 : decode cX4_addCould 48 = .ok (.getfield 46, 3) := by decide +kernel
theorem dX4_addCould_51 : decode cX4_addCould 51 = .ok (.iload_n 3, 1) := by decide +kernel
theorem dX4_addCould_52 : decode cX4_addCould 52 = .ok (.iastore, 1) := by decide +kernel
theorem dX4_addCould_53 : decode cX4_addCould 53 = .ok (.aload_n 0, 1) := by decide +kernel
theorem dX4_addCould_54 : decode cX4_addCould 54 = .ok (.dup, 1) := by decide +kernel
theorem dX4_addCould_55 : decode cX4_addCould 55 = .ok (.getfield 46, 3) := by decide +kernel
theorem dX4_addCould_58 : decode cX4_addCould 58 = .ok (.iconst 1, 1) := by decide +kernel
theorem dX4_addCould_59 : decode cX4_addCould 59 = .ok (.iadd, 1) := by decide +kernel
theorem dX4_addCould_60 : decode cX4_addCould 60 = .ok (.putfield 46, 3) := by decide +kernel
theorem dX4_addCould_63 : decode cX4_addCould 63 = .ok (.return_, 1) := by decide +kernel
theorem dX4_hasStrip_0 : decode cX4_hasStrip 0 = .ok (.iload_n 1, 1) := by decide +kernel
theorem dX4_hasStrip_1 : decode cX4_hasStrip 1 = .ok (.ifCond .lt 21, 3) := by decide +kernel
theorem dX4_hasStrip_4 : decode cX4_hasStrip 4 = .ok (.iload_n 1, 1) := by decide +kernel
theorem dX4_hasStrip_5 : decode cX4_hasStrip 5 = .ok (.aload_n 0, 1) := by decide +kernel
theorem dX4_hasStrip_6 : decode cX4_hasStrip 6 = .ok (.getfield 40, 3) := by decide +kernel
theorem dX4_hasStrip_9 : decode cX4_hasStrip 9 = .ok (.if_icmp .ge 13, 3) := by decide +kernel
theorem dX4_hasStrip_12 : decode cX4_hasStrip 12 = .ok (.iload_n 1, 1) := by decide +kernel
theorem dX4_hasStrip_13 : decode cX4_hasStrip 13 = .ok (.bipush 8, 2) := by decide +kernel
theorem dX4_hasStrip_15 : decode cX4_hasStrip 15 = .ok (.if_icmp .ge 7, 3) := by decide +kernel
theorem dX4_hasStrip_18 : decode cX4_hasStrip 18 = .ok (.iconst 1, 1) := by decide +kernel
theorem dX4_hasStrip_19 : decode cX4_hasStrip 19 = .ok (.goto 4, 3) := by decide +kernel
theorem dX4_hasStrip_22 : decode cX4_hasStrip 22 = .ok (.iconst 0, 1) := by decide +kernel
theorem dX4_hasStrip_23 : decode cX4_hasStrip 23 = .ok (.ireturn, 1) := by decide +kernel
theorem dX4_hasSeam_0 : decode cX4_hasSeam 0 = .ok (.iload_n 1, 1) := by decide +kernel
theorem dX4_hasSeam_1 : decode cX4_hasSeam 1 = .ok (.ifCond .lt 21, 3) := by decide +kernel
theorem dX4_hasSeam_4 : decode cX4_hasSeam 4 = .ok (.iload_n 1, 1) := by decide +kernel
theorem dX4_hasSeam_5 : decode cX4_hasSeam 5 = .ok (.aload_n 0, 1) := by decide +kernel
theorem dX4_hasSeam_6 : decode cX4_hasSeam 6 = .ok (.getfield 43, 3) := by decide +kernel
theorem dX4_hasSeam_9 : decode cX4_hasSeam 9 = .ok (.if_icmp .ge 13, 3) := by decide +kernel
theorem dX4_hasSeam_12 : decode cX4_hasSeam 12 = .ok (.iload_n 1, 1) := by decide +kernel
theorem dX4_hasSeam_13 : decode cX4_hasSeam 13 = .ok (.bipush 12, 2) := by decide +kernel
theorem dX4_hasSeam_15 : decode cX4_hasSeam 15 = .ok (.if_icmp .ge 7, 3) := by decide +kernel
theorem dX4_hasSeam_18 : decode cX4_hasSeam 18 = .ok (.iconst 1, 1) := by decide +kernel
theorem dX4_hasSeam_19 : decode cX4_hasSeam 19 = .ok (.goto 4, 3) := by decide +kernel
theorem dX4_hasSeam_22 : decode cX4_hasSeam 22 = .ok (.iconst 0, 1) := by decide +kernel
theorem dX4_hasSeam_23 : decode cX4_hasSeam 23 = .ok (.ireturn, 1) := by decide +kernel
theorem dX4_hasColour_0 : decode cX4_hasColour 0 = .ok (.iload_n 1, 1) := by decide +kernel
theorem dX4_hasColour_1 : decode cX4_hasColour 1 = .ok (.ifCond .lt 20, 3) := by decide +kernel
theorem dX4_hasColour_4 : decode cX4_hasColour 4 = .ok (.iload_n 1, 1) := by decide +kernel
theorem dX4_hasColour_5 : decode cX4_hasColour 5 = .ok (.aload_n 0, 1) := by decide +kernel
theorem dX4_hasColour_6 : decode cX4_hasColour 6 = .ok (.getfield 36, 3) := by decide +kernel
theorem dX4_hasColour_9 : decode cX4_hasColour 9 = .ok (.if_icmp .ge 12, 3) := by decide +kernel
theorem dX4_hasColour_12 : decode cX4_hasColour 12 = .ok (.iload_n 1, 1) := by decide +kernel
theorem dX4_hasColour_13 : decode cX4_hasColour 13 = .ok (.iconst 4, 1) := by decide +kernel
theorem dX4_hasColour_14 : decode cX4_hasColour 14 = .ok (.if_icmp .ge 7, 3) := by decide +kernel
theorem dX4_hasColour_17 : decode cX4_hasColour 17 = .ok (.iconst 1, 1) := by decide +kernel
theorem dX4_hasColour_18 : decode cX4_hasColour 18 = .ok (.goto 4, 3) := by decide +kernel
theorem dX4_hasColour_21 : decode cX4_hasColour 21 = .ok (.iconst 0, 1) := by decide +kernel
theorem dX4_hasColour_22 : decode cX4_hasColour 22 = .ok (.ireturn, 1) := by decide +kernel
theorem dX4_hasStrips_0 : decode cX4_hasStrips 0 = .ok (.iload_n 1, 1) := by decide +kernel
theorem dX4_hasStrips_1 : decode cX4_hasStrips 1 = .ok (.aload_n 0, 1) := by decide +kernel
theorem dX4_hasStrips_2 : decode cX4_hasStrips 2 = .ok (.invokevirtual 49, 3) := by decide +kernel
theorem dX4_hasStrips_5 : decode cX4_hasStrips 5 = .ok (.iconst (-1), 1) := by decide +kernel
theorem dX4_hasStrips_6 : decode cX4_hasStrips 6 = .ok (.ixor, 1) := by decide +kernel
theorem dX4_hasStrips_7 : decode cX4_hasStrips 7 = .ok (.iand, 1) := by decide +kernel
theorem dX4_hasStrips_8 : decode cX4_hasStrips 8 = .ok (.ifCond .ne 7, 3) := by decide +kernel
theorem dX4_hasStrips_11 : decode cX4_hasStrips 11 = .ok (.iconst 1, 1) := by decide +kernel
theorem dX4_hasStrips_12 : decode cX4_hasStrips 12 = .ok (.goto 4, 3) := by decide +kernel
theorem dX4_hasStrips_15 : decode cX4_hasStrips 15 = .ok (.iconst 0, 1) := by decide +kernel
theorem dX4_hasStrips_16 : decode cX4_hasStrips 16 = .ok (.ireturn, 1) := by decide +kernel
theorem dX4_hasColours_0 : decode cX4_hasColours 0 = .ok (.iload_n 1, 1) := by decide +kernel
theorem dX4_hasColours_1 : decode cX4_hasColours 1 = .ok (.aload_n 0, 1) := by decide +kernel
theorem dX4_hasColours_2 : decode cX4_hasColours 2 = .ok (.invokevirtual 53, 3) := by decide +kernel
theorem dX4_hasColours_5 : decode cX4_hasColours 5 = .ok (.iconst (-1), 1) := by decide +kernel
theorem dX4_hasColours_6 : decode cX4_hasColours 6 = .ok (.ixor, 1) := by decide +kernel
theorem dX4_hasColours_7 : decode cX4_hasColours 7 = .ok (.iand, 1) := by decide +kernel
theorem dX4_hasColours_8 : decode cX4_hasColours 8 = .ok (.ifCond .ne 7, 3) := by decide +kernel
theorem dX4_hasColours_11 : decode cX4_hasColours 11 = .ok (.iconst 1, 1) := by decide +kernel
theorem dX4_hasColours_12 : decode cX4_hasColours 12 = .ok (.goto 4, 3) := by decide +kernel
theorem dX4_hasColours_15 : decode cX4_hasColours 15 = .ok (.iconst 0, 1) := by decide +kernel
theorem dX4_hasColours_16 : decode cX4_hasColours 16 = .ok (.ireturn, 1) := by decide +kernel
theorem dX4_allStrips_0 : decode cX4_allStrips 0 = .ok (.iconst 1, 1) := by decide +kernel
theorem dX4_allStrips_1 : decode cX4_allStrips 1 = .ok (.aload_n 0, 1) := by decide +kernel
theorem dX4_allStrips_2 : decode cX4_allStrips 2 = .ok (.getfield 40, 3) := by decide +kernel
theorem dX4_allStrips_5 : decode cX4_allStrips 5 = .ok (.ishl, 1) := by decide +kernel
theorem dX4_allStrips_6 : decode cX4_allStrips 6 = .ok (.iconst 1, 1) := by decide +kernel
theorem dX4_allStrips_7 : decode cX4_allStrips 7 = .ok (.isub, 1) := by decide +kernel
theorem dX4_allStrips_8 : decode cX4_allStrips 8 = .ok (.ireturn, 1) := by decide +kernel
theorem dX4_allColours_0 : decode cX4_allColours 0 = .ok (.iconst 1, 1) := by decide +kernel
theorem dX4_allColours_1 : decode cX4_allColours 1 = .ok (.aload_n 0, 1) := by decide +kernel
theorem dX4_allColours_2 : decode cX4_allColours 2 = .ok (.getfield 36, 3) := by decide +kernel
theorem dX4_allColours_5 : decode cX4_allColours 5 = .ok (.ishl, 1) := by decide +kernel
theorem dX4_allColours_6 : decode cX4_allColours 6 = .ok (.iconst 1, 1) := by decide +kernel
theorem dX4_allColours_7 : decode cX4_allColours 7 = .ok (.isub, 1) := by decide +kernel
theorem dX4_allColours_8 : decode cX4_allColours 8 = .ok (.ireturn, 1) := by decide +kernel
theorem dX4_priceOf_0 : decode cX4_priceOf 0 = .ok (.aload_n 0, 1) := by decide +kernel
theorem dX4_priceOf_1 : decode cX4_priceOf 1 = .ok (.iload_n 1, 1) := by decide +kernel
theorem dX4_priceOf_2 : decode cX4_priceOf 2 = .ok (.invokevirtual 56, 3) := by decide +kernel
theorem dX4_priceOf_5 : decode cX4_priceOf 5 = .ok (.ifCond .eq 12, 3) := by decide +kernel
theorem dX4_priceOf_8 : decode cX4_priceOf 8 = .ok (.aload_n 0, 1) := by decide +kernel
theorem dX4_priceOf_9 : decode cX4_priceOf 9 = .ok (.getfield 9, 3) := by decide +kernel
theorem dX4_priceOf_12 : decode cX4_priceOf 12 = .ok (.iload_n 1, 1) := by decide +kernel
theorem dX4_priceOf_13 : decode cX4_priceOf 13 = .ok (.iaload, 1) := by decide +kernel
theorem dX4_priceOf_14 : decode cX4_priceOf 14 = .ok (.goto 4, 3) := by decide +kernel
theorem dX4_priceOf_17 : decode cX4_priceOf 17 = .ok (.iconst 0, 1) := by decide +kernel
theorem dX4_priceOf_18 : decode cX4_priceOf 18 = .ok (.ireturn, 1) := by decide +kernel
theorem dX4_cheapest_0 : decode cX4_cheapest 0 = .ok (.bipush 99, 2) := by decide +kernel
theorem dX4_cheapest_2 : decode cX4_cheapest 2 = .ok (.istore_n 1, 1) := by decide +kernel
theorem dX4_cheapest_3 : decode cX4_cheapest 3 = .ok (.iconst 0, 1) := by decide +kernel
theorem dX4_cheapest_4 : decode cX4_cheapest 4 = .ok (.istore_n 2, 1) := by decide +kernel
theorem dX4_cheapest_5 : decode cX4_cheapest 5 = .ok (.iload_n 2, 1) := by decide +kernel
theorem dX4_cheapest_6 : decode cX4_cheapest 6 = .ok (.aload_n 0, 1) := by decide +kernel
theorem dX4_cheapest_7 : decode cX4_cheapest 7 = .ok (.getfield 36, 3) := by decide +kernel
theorem dX4_cheapest_10 : decode cX4_cheapest 10 = .ok (.if_icmp .ge 25, 3) := by decide +kernel
theorem dX4_cheapest_13 : decode cX4_cheapest 13 = .ok (.iload_n 2, 1) := by decide +kernel
theorem dX4_cheapest_14 : decode cX4_cheapest 14 = .ok (.iconst 4, 1) := by decide +kernel
theorem dX4_cheapest_15 : decode cX4_cheapest 15 = .ok (.if_icmp .ge 20, 3) := by decide +kernel
theorem dX4_cheapest_18 : decode cX4_cheapest 18 = .ok (.iload_n 1, 1) := by decide +kernel
theorem dX4_cheapest_19 : decode cX4_cheapest 19 = .ok (.aload_n 0, 1) := by decide +kernel
theorem dX4_cheapest_20 : decode cX4_cheapest 20 = .ok (.getfield 9, 3) := by decide +kernel
theorem dX4_cheapest_23 : decode cX4_cheapest 23 = .ok (.iload_n 2, 1) := by decide +kernel
theorem dX4_cheapest_24 : decode cX4_cheapest 24 = .ok (.iaload, 1) := by decide +kernel
theorem dX4_cheapest_25 : decode cX4_cheapest 25 = .ok (.invokestatic 60, 3) := by decide +kernel
theorem dX4_cheapest_28 : decode cX4_cheapest 28 = .ok (.istore_n 1, 1) := by decide +kernel
theorem dX4_cheapest_29 : decode cX4_cheapest 29 = .ok (.iinc 2 1, 3) := by decide +kernel
theorem dX4_cheapest_32 : decode cX4_cheapest 32 = .ok (.goto (-27), 3) := by decide +kernel
theorem dX4_cheapest_35 : decode cX4_cheapest 35 = .ok (.iload_n 1, 1) := by decide +kernel
theorem dX4_cheapest_36 : decode cX4_cheapest 36 = .ok (.ireturn, 1) := by decide +kernel
theorem dX4_threadOf_0 : decode cX4_threadOf 0 = .ok (.iconst 0, 1) := by decide +kernel
theorem dX4_threadOf_1 : decode cX4_threadOf 1 = .ok (.istore_n 2, 1) := by decide +kernel
theorem dX4_threadOf_2 : decode cX4_threadOf 2 = .ok (.iconst 0, 1) := by decide +kernel
theorem dX4_threadOf_3 : decode cX4_threadOf 3 = .ok (.istore_n 3, 1) := by decide +kernel
theorem dX4_threadOf_4 : decode cX4_threadOf 4 = .ok (.iload_n 3, 1) := by decide +kernel
theorem dX4_threadOf_5 : decode cX4_threadOf 5 = .ok (.bipush 8, 2) := by decide +kernel
theorem dX4_threadOf_7 : decode cX4_threadOf 7 = .ok (.if_icmp .ge 26, 3) := by decide +kernel
theorem dX4_threadOf_10 : decode cX4_threadOf 10 = .ok (.iload_n 1, 1) := by decide +kernel
theorem dX4_threadOf_11 : decode cX4_threadOf 11 = .ok (.iload_n 3, 1) := by decide +kernel
theorem dX4_threadOf_12 : decode cX4_threadOf 12 = .ok (.invokestatic 66, 3) := by decide +kernel
theorem dX4_threadOf_15 : decode cX4_threadOf 15 = .ok (.ifCond .eq 12, 3) := by decide +kernel
theorem dX4_threadOf_18 : decode cX4_threadOf 18 = .ok (.iload_n 2, 1) := by decide +kernel
theorem dX4_threadOf_19 : decode cX4_threadOf 19 = .ok (.aload_n 0, 1) := by decide +kernel
theorem dX4_threadOf_20 : decode cX4_threadOf 20 = .ok (.getfield 33, 3) := by decide +kernel
theorem dX4_threadOf_23 : decode cX4_threadOf 23 = .ok (.iload_n 3, 1) := by decide +kernel
theorem dX4_threadOf_24 : decode cX4_threadOf 24 = .ok (.iaload, 1) := by decide +kernel
theorem dX4_threadOf_25 : decode cX4_threadOf 25 = .ok (.iadd, 1) := by decide +kernel
theorem dX4_threadOf_26 : decode cX4_threadOf 26 = .ok (.istore_n 2, 1) := by decide +kernel
theorem dX4_threadOf_27 : decode cX4_threadOf 27 = .ok (.iinc 3 1, 3) := by decide +kernel
theorem dX4_threadOf_30 : decode cX4_threadOf 30 = .ok (.goto (-26), 3) := by decide +kernel
theorem dX4_threadOf_33 : decode cX4_threadOf 33 = .ok (.iload_n 2, 1) := by decide +kernel
theorem dX4_threadOf_34 : decode cX4_threadOf 34 = .ok (.ireturn, 1) := by decide +kernel
theorem dX4_crossing_0 : decode cX4_crossing 0 = .ok (.iconst 0, 1) := by decide +kernel
theorem dX4_crossing_1 : decode cX4_crossing 1 = .ok (.istore_n 3, 1) := by decide +kernel
theorem dX4_crossing_2 : decode cX4_crossing 2 = .ok (.iconst 0, 1) := by decide +kernel
theorem dX4_crossing_3 : decode cX4_crossing 3 = .ok (.istore 4, 2) := by decide +kernel
theorem dX4_crossing_5 : decode cX4_crossing 5 = .ok (.iload 4, 2) := by decide +kernel
theorem dX4_crossing_7 : decode cX4_crossing 7 = .ok (.bipush 12, 2) := by decide +kernel
theorem dX4_crossing_9 : decode cX4_crossing 9 = .ok (.if_icmp .ge 51, 3) := by decide +kernel
theorem dX4_crossing_12 : decode cX4_crossing 12 = .ok (.iload_n 2, 1) := by decide +kernel
theorem dX4_crossing_13 : decode cX4_crossing 13 = .ok (.iload 4, 2) := by decide +kernel
theorem dX4_crossing_15 : decode cX4_crossing 15 = .ok (.invokestatic 66, 3) := by decide +kernel
theorem dX4_crossing_18 : decode cX4_crossing 18 = .ok (.ifCond .eq 36, 3) := by decide +kernel
theorem dX4_crossing_21 : decode cX4_crossing 21 = .ok (.aload_n 0, 1) := by decide +kernel
theorem dX4_crossing_22 : decode cX4_crossing 22 = .ok (.getfield 27, 3) := by decide +kernel
theorem dX4_crossing_25 : decode cX4_crossing 25 = .ok (.iload 4, 2) := by decide +kernel
theorem dX4_crossing_27 : decode cX4_crossing 27 = .ok (.iaload, 1) := by decide +kernel
theorem dX4_crossing_28 : decode cX4_crossing 28 = .ok (.iload_n 1, 1) := by decide +kernel
theorem dX4_crossing_29 : decode cX4_crossing 29 = .ok (.iand, 1) := by decide +kernel
theorem dX4_crossing_30 : decode cX4_crossing 30 = .ok (.ifCond .eq 24, 3) := by decide +kernel
theorem dX4_crossing_33 : decode cX4_crossing 33 = .ok (.aload_n 0, 1) := by decide +kernel
theorem dX4_crossing_34 : decode cX4_crossing 34 = .ok (.getfield 27, 3) := by decide +kernel
theorem dX4_crossing_37 : decode cX4_crossing 37 = .ok (.iload 4, 2) := by decide +kernel
theorem dX4_crossing_39 : decode cX4_crossing 39 = .ok (.iaload, 1) := by decide +kernel
theorem dX4_crossing_40 : decode cX4_crossing 40 = .ok (.iload_n 1, 1) := by decide +kernel
theorem dX4_crossing_41 : decode cX4_crossing 41 = .ok (.iconst (-1), 1) := by decide +kernel
theorem dX4_crossing_42 : decode cX4_crossing 42 = .ok (.ixor, 1) := by decide +kernel
theorem dX4_crossing_43 : decode cX4_crossing 43 = .ok (.iand, 1) := by decide +kernel
theorem dX4_crossing_44 : decode cX4_crossing 44 = .ok (.ifCond .eq 10, 3) := by decide +kernel
theorem dX4_crossing_47 : decode cX4_crossing 47 = .ok (.iload_n 3, 1) := by decide +kernel
theorem dX4_crossing_48 : decode cX4_crossing 48 = .ok (.iconst 1, 1) := by decide +kernel
theorem dX4_crossing_49 : decode cX4_crossing 49 = .ok (.iload 4, 2) := by decide +kernel
theorem dX4_crossing_51 : decode cX4_crossing 51 = .ok (.ishl, 1) := by decide +kernel
theorem dX4_crossing_52 : decode cX4_crossing 52 = .ok (.ior, 1) := by decide +kernel
theorem dX4_crossing_53 : decode cX4_crossing 53 = .ok (.istore_n 3, 1) := by decide +kernel
theorem dX4_crossing_54 : decode cX4_crossing 54 = .ok (.iinc 4 1, 3) := by decide +kernel
theorem dX4_crossing_57 : decode cX4_crossing 57 = .ok (.goto (-52), 3) := by decide +kernel
theorem dX4_crossing_60 : decode cX4_crossing 60 = .ok (.iload_n 3, 1) := by decide +kernel
theorem dX4_crossing_61 : decode cX4_crossing 61 = .ok (.ireturn, 1) := by decide +kernel
theorem dX4_couldsCrossing_0 : decode cX4_couldsCrossing 0 = .ok (.iconst 0, 1) := by decide +kernel
theorem dX4_couldsCrossing_1 : decode cX4_couldsCrossing 1 = .ok (.istore_n 2, 1) := by decide +kernel
theorem dX4_couldsCrossing_2 : decode cX4_couldsCrossing 2 = .ok (.iconst 0, 1) := by decide +kernel
theorem dX4_couldsCrossing_3 : decode cX4_couldsCrossing 3 = .ok (.istore_n 3, 1) := by decide +kernel
theorem dX4_couldsCrossing_4 : decode cX4_couldsCrossing 4 = .ok (.iload_n 3, 1) := by decide +kernel
theorem dX4_couldsCrossing_5 : decode cX4_couldsCrossing 5 = .ok (.aload_n 0, 1) := by decide +kernel
theorem dX4_couldsCrossing_6 : decode cX4_couldsCrossing 6 = .ok (.getfield 46, 3) := by decide +kernel
theorem dX4_couldsCrossing_9 : decode cX4_couldsCrossing 9 = .ok (.if_icmp .ge 45, 3) := by decide +kernel
theorem dX4_couldsCrossing_12 : decode cX4_couldsCrossing 12 = .ok (.iload_n 3, 1) := by decide +kernel
theorem dX4_couldsCrossing_13 : decode cX4_couldsCrossing 13 = .ok (.bipush 8, 2) := by decide +kernel
theorem dX4_couldsCrossing_15 : decode cX4_couldsCrossing 15 = .ok (.if_icmp .ge 39, 3) := by decide +kernel
theorem dX4_couldsCrossing_18 : decode cX4_couldsCrossing 18 = .ok (.aload_n 0, 1) := by decide +kernel
theorem dX4_couldsCrossing_19 : decode cX4_couldsCrossing 19 = .ok (.getfield 30, 3) := by decide +kernel
theorem dX4_couldsCrossing_22 : decode cX4_couldsCrossing 22 = .ok (.iload_n 3, 1) := by decide +kernel
theorem dX4_couldsCrossing_23 : decode cX4_couldsCrossing 23 = .ok (.iaload, 1) := by decide +kernel
theorem dX4_couldsCrossing_24 : decode cX4_couldsCrossing 24 = .ok (.iload_n 1, 1) := by decide +kernel
theorem dX4_couldsCrossing_25 : decode cX4_couldsCrossing 25 = .ok (.iand, 1) := by decide +kernel
theorem dX4_couldsCrossing_26 : decode cX4_couldsCrossing 26 = .ok (.ifCond .eq 22, 3) := by decide +kernel
theorem dX4_couldsCrossing_29 : decode cX4_couldsCrossing 29 = .ok (.aload_n 0, 1) := by decide +kernel
theorem dX4_couldsCrossing_30 : decode cX4_couldsCrossing 30 = .ok (.getfield 30, 3) := by decide +kernel
theorem dX4_couldsCrossing_33 : decode cX4_couldsCrossing 33 = .ok (.iload_n 3, 1) := by decide +kernel
theorem dX4_couldsCrossing_34 : decode cX4_couldsCrossing 34 = .ok (.iaload, 1) := by decide +kernel
theorem dX4_couldsCrossing_35 : decode cX4_couldsCrossing 35 = .ok (.iload_n 1, 1) := by decide +kernel
theorem dX4_couldsCrossing_36 : decode cX4_couldsCrossing 36 = .ok (.iconst (-1), 1) := by decide +kernel
theorem dX4_couldsCrossing_37 : decode cX4_couldsCrossing 37 = .ok (.ixor, 1) := by decide +kernel
theorem dX4_couldsCrossing_38 : decode cX4_couldsCrossing 38 = .ok (.iand, 1) := by decide +kernel
theorem dX4_couldsCrossing_39 : decode cX4_couldsCrossing 39 = .ok (.ifCond .eq 9, 3) := by decide +kernel
theorem dX4_couldsCrossing_42 : decode cX4_couldsCrossing 42 = .ok (.iload_n 2, 1) := by decide +kernel
theorem dX4_couldsCrossing_43 : decode cX4_couldsCrossing 43 = .ok (.iconst 1, 1) := by decide +kernel
theorem dX4_couldsCrossing_44 : decode cX4_couldsCrossing 44 = .ok (.iload_n 3, 1) := by decide +kernel
theorem dX4_couldsCrossing_45 : decode cX4_couldsCrossing 45 = .ok (.ishl, 1) := by decide +kernel
theorem dX4_couldsCrossing_46 : decode cX4_couldsCrossing 46 = .ok (.ior, 1) := by decide +kernel
theorem dX4_couldsCrossing_47 : decode cX4_couldsCrossing 47 = .ok (.istore_n 2, 1) := by decide +kernel
theorem dX4_couldsCrossing_48 : decode cX4_couldsCrossing 48 = .ok (.iinc 3 1, 3) := by decide +kernel
theorem dX4_couldsCrossing_51 : decode cX4_couldsCrossing 51 = .ok (.goto (-47), 3) := by decide +kernel
theorem dX4_couldsCrossing_54 : decode cX4_couldsCrossing 54 = .ok (.iload_n 2, 1) := by decide +kernel
theorem dX4_couldsCrossing_55 : decode cX4_couldsCrossing 55 = .ok (.ireturn, 1) := by decide +kernel
theorem dX4_seamsOf_0 : decode cX4_seamsOf 0 = .ok (.aload_n 0, 1) := by decide +kernel
theorem dX4_seamsOf_1 : decode cX4_seamsOf 1 = .ok (.iconst 1, 1) := by decide +kernel
theorem dX4_seamsOf_2 : decode cX4_seamsOf 2 = .ok (.iload_n 1, 1) := by decide +kernel
theorem dX4_seamsOf_3 : decode cX4_seamsOf 3 = .ok (.ishl, 1) := by decide +kernel
theorem dX4_seamsOf_4 : decode cX4_seamsOf 4 = .ok (.iload_n 2, 1) := by decide +kernel
theorem dX4_seamsOf_5 : decode cX4_seamsOf 5 = .ok (.invokevirtual 70, 3) := by decide +kernel
theorem dX4_seamsOf_8 : decode cX4_seamsOf 8 = .ok (.ireturn, 1) := by decide +kernel
theorem dX4_bordering_0 : decode cX4_bordering 0 = .ok (.iconst 0, 1) := by decide +kernel
theorem dX4_bordering_1 : decode cX4_bordering 1 = .ok (.istore_n 3, 1) := by decide +kernel
theorem dX4_bordering_2 : decode cX4_bordering 2 = .ok (.iconst 0, 1) := by decide +kernel
theorem dX4_bordering_3 : decode cX4_bordering 3 = .ok (.istore 4, 2) := by decide +kernel
theorem dX4_bordering_5 : decode cX4_bordering 5 = .ok (.iload 4, 2) := by decide +kernel
theorem dX4_bordering_7 : decode cX4_bordering 7 = .ok (.bipush 12, 2) := by decide +kernel
theorem dX4_bordering_9 : decode cX4_bordering 9 = .ok (.if_icmp .ge 42, 3) := by decide +kernel
theorem dX4_bordering_12 : decode cX4_bordering 12 = .ok (.iload_n 2, 1) := by decide +kernel
theorem dX4_bordering_13 : decode cX4_bordering 13 = .ok (.iload 4, 2) := by decide +kernel
theorem dX4_bordering_15 : decode cX4_bordering 15 = .ok (.invokestatic 66, 3) := by decide +kernel
theorem dX4_bordering_18 : decode cX4_bordering 18 = .ok (.ifCond .eq 27, 3) := by decide +kernel
theorem dX4_bordering_21 : decode cX4_bordering 21 = .ok (.aload_n 0, 1) := by decide +kernel
theorem dX4_bordering_22 : decode cX4_bordering 22 = .ok (.getfield 27, 3) := by decide +kernel
theorem dX4_bordering_25 : decode cX4_bordering 25 = .ok (.iload 4, 2) := by decide +kernel
theorem dX4_bordering_27 : decode cX4_bordering 27 = .ok (.iaload, 1) := by decide +kernel
theorem dX4_bordering_28 : decode cX4_bordering 28 = .ok (.iload_n 1, 1) := by decide +kernel
theorem dX4_bordering_29 : decode cX4_bordering 29 = .ok (.invokestatic 66, 3) := by decide +kernel
theorem dX4_bordering_32 : decode cX4_bordering 32 = .ok (.ifCond .eq 13, 3) := by decide +kernel
theorem dX4_bordering_35 : decode cX4_bordering 35 = .ok (.iload_n 3, 1) := by decide +kernel
theorem dX4_bordering_36 : decode cX4_bordering 36 = .ok (.aload_n 0, 1) := by decide +kernel
theorem dX4_bordering_37 : decode cX4_bordering 37 = .ok (.getfield 27, 3) := by decide +kernel
theorem dX4_bordering_40 : decode cX4_bordering 40 = .ok (.iload 4, 2) := by decide +kernel
theorem dX4_bordering_42 : decode cX4_bordering 42 = .ok (.iaload, 1) := by decide +kernel
theorem dX4_bordering_43 : decode cX4_bordering 43 = .ok (.ior, 1) := by decide +kernel
theorem dX4_bordering_44 : decode cX4_bordering 44 = .ok (.istore_n 3, 1) := by decide +kernel
theorem dX4_bordering_45 : decode cX4_bordering 45 = .ok (.iinc 4 1, 3) := by decide +kernel
theorem dX4_bordering_48 : decode cX4_bordering 48 = .ok (.goto (-43), 3) := by decide +kernel
theorem dX4_bordering_51 : decode cX4_bordering 51 = .ok (.iload_n 3, 1) := by decide +kernel
theorem dX4_bordering_52 : decode cX4_bordering 52 = .ok (.sipush (-257), 3) := by decide +kernel
theorem dX4_bordering_55 : decode cX4_bordering 55 = .ok (.iand, 1) := by decide +kernel
theorem dX4_bordering_56 : decode cX4_bordering 56 = .ok (.iconst 1, 1) := by decide +kernel
theorem dX4_bordering_57 : decode cX4_bordering 57 = .ok (.iload_n 1, 1) := by decide +kernel
theorem dX4_bordering_58 : decode cX4_bordering 58 = .ok (.ishl, 1) := by decide +kernel
theorem dX4_bordering_59 : decode cX4_bordering 59 = .ok (.iconst (-1), 1) := by decide +kernel
theorem dX4_bordering_60 : decode cX4_bordering 60 = .ok (.ixor, 1) := by decide +kernel
theorem dX4_bordering_61 : decode cX4_bordering 61 = .ok (.iand, 1) := by decide +kernel
theorem dX4_bordering_62 : decode cX4_bordering 62 = .ok (.ireturn, 1) := by decide +kernel
theorem dX4_unpickable_0 : decode cX4_unpickable 0 = .ok (.aload_n 0, 1) := by decide +kernel
theorem dX4_unpickable_1 : decode cX4_unpickable 1 = .ok (.iload_n 1, 1) := by decide +kernel
theorem dX4_unpickable_2 : decode cX4_unpickable 2 = .ok (.iload_n 2, 1) := by decide +kernel
theorem dX4_unpickable_3 : decode cX4_unpickable 3 = .ok (.invokevirtual 73, 3) := by decide +kernel
theorem dX4_unpickable_6 : decode cX4_unpickable 6 = .ok (.istore 4, 2) := by decide +kernel
theorem dX4_unpickable_8 : decode cX4_unpickable 8 = .ok (.iconst 0, 1) := by decide +kernel
theorem dX4_unpickable_9 : decode cX4_unpickable 9 = .ok (.istore 5, 2) := by decide +kernel
theorem dX4_unpickable_11 : decode cX4_unpickable 11 = .ok (.iconst 0, 1) := by decide +kernel
theorem dX4_unpickable_12 : decode cX4_unpickable 12 = .ok (.istore 6, 2) := by decide +kernel
theorem dX4_unpickable_14 : decode cX4_unpickable 14 = .ok (.iload 6, 2) := by decide +kernel
theorem dX4_unpickable_16 : decode cX4_unpickable 16 = .ok (.bipush 12, 2) := by decide +kernel
theorem dX4_unpickable_18 : decode cX4_unpickable 18 = .ok (.if_icmp .ge 58, 3) := by decide +kernel
theorem dX4_unpickable_21 : decode cX4_unpickable 21 = .ok (.iload_n 2, 1) := by decide +kernel
theorem dX4_unpickable_22 : decode cX4_unpickable 22 = .ok (.iload_n 3, 1) := by decide +kernel
theorem dX4_unpickable_23 : decode cX4_unpickable 23 = .ok (.iconst (-1), 1) := by decide +kernel
theorem dX4_unpickable_24 : decode cX4_unpickable 24 = .ok (.ixor, 1) := by decide +kernel
theorem dX4_unpickable_25 : decode cX4_unpickable 25 = .ok (.iand, 1) := by decide +kernel
theorem dX4_unpickable_26 : decode cX4_unpickable 26 = .ok (.iload 6, 2) := by decide +kernel
theorem dX4_unpickable_28 : decode cX4_unpickable 28 = .ok (.invokestatic 66, 3) := by decide +kernel
theorem dX4_unpickable_31 : decode cX4_unpickable 31 = .ok (.ifCond .eq 39, 3) := by decide +kernel
theorem dX4_unpickable_34 : decode cX4_unpickable 34 = .ok (.aload_n 0, 1) := by decide +kernel
theorem dX4_unpickable_35 : decode cX4_unpickable 35 = .ok (.getfield 27, 3) := by decide +kernel
theorem dX4_unpickable_38 : decode cX4_unpickable 38 = .ok (.iload 6, 2) := by decide +kernel
theorem dX4_unpickable_40 : decode cX4_unpickable 40 = .ok (.iaload, 1) := by decide +kernel
theorem dX4_unpickable_41 : decode cX4_unpickable 41 = .ok (.iload_n 1, 1) := by decide +kernel
theorem dX4_unpickable_42 : decode cX4_unpickable 42 = .ok (.invokestatic 66, 3) := by decide +kernel
theorem dX4_unpickable_45 : decode cX4_unpickable 45 = .ok (.ifCond .ne 25, 3) := by decide +kernel
theorem dX4_unpickable_48 : decode cX4_unpickable 48 = .ok (.aload_n 0, 1) := by decide +kernel
theorem dX4_unpickable_49 : decode cX4_unpickable 49 = .ok (.getfield 27, 3) := by decide +kernel
theorem dX4_unpickable_52 : decode cX4_unpickable 52 = .ok (.iload 6, 2) := by decide +kernel
theorem dX4_unpickable_54 : decode cX4_unpickable 54 = .ok (.iaload, 1) := by decide +kernel
theorem dX4_unpickable_55 : decode cX4_unpickable 55 = .ok (.iload 4, 2) := by decide +kernel
theorem dX4_unpickable_57 : decode cX4_unpickable 57 = .ok (.iand, 1) := by decide +kernel
theorem dX4_unpickable_58 : decode cX4_unpickable 58 = .ok (.ifCond .eq 12, 3) := by decide +kernel
theorem dX4_unpickable_61 : decode cX4_unpickable 61 = .ok (.iload 5, 2) := by decide +kernel
theorem dX4_unpickable_63 : decode cX4_unpickable 63 = .ok (.iconst 1, 1) := by decide +kernel
theorem dX4_unpickable_64 : decode cX4_unpickable 64 = .ok (.iload 6, 2) := by decide +kernel
theorem dX4_unpickable_66 : decode cX4_unpickable 66 = .ok (.ishl, 1) := by decide +kernel
theorem dX4_unpickable_67 : decode cX4_unpickable 67 = .ok (.ior, 1) := by decide +kernel
theorem dX4_unpickable_68 : decode cX4_unpickable 68 = .ok (.istore 5, 2) := by decide +kernel
theorem dX4_unpickable_70 : decode cX4_unpickable 70 = .ok (.iinc 6 1, 3) := by decide +kernel
theorem dX4_unpickable_73 : decode cX4_unpickable 73 = .ok (.goto (-59), 3) := by decide +kernel
theorem dX4_unpickable_76 : decode cX4_unpickable 76 = .ok (.iload 5, 2) := by decide +kernel
theorem dX4_unpickable_78 : decode cX4_unpickable 78 = .ok (.ireturn, 1) := by decide +kernel
theorem dX4_flying_0 : decode cX4_flying 0 = .ok (.sipush 256, 3) := by decide +kernel
theorem dX4_flying_3 : decode cX4_flying 3 = .ok (.istore_n 2, 1) := by decide +kernel
theorem dX4_flying_4 : decode cX4_flying 4 = .ok (.iconst 0, 1) := by decide +kernel
theorem dX4_flying_5 : decode cX4_flying 5 = .ok (.istore_n 3, 1) := by decide +kernel
theorem dX4_flying_6 : decode cX4_flying 6 = .ok (.iload_n 3, 1) := by decide +kernel
theorem dX4_flying_7 : decode cX4_flying 7 = .ok (.bipush 8, 2) := by decide +kernel
theorem dX4_flying_9 : decode cX4_flying 9 = .ok (.if_icmp .ge 29, 3) := by decide +kernel
theorem dX4_flying_12 : decode cX4_flying 12 = .ok (.aload_n 0, 1) := by decide +kernel
theorem dX4_flying_13 : decode cX4_flying 13 = .ok (.iload_n 2, 1) := by decide +kernel
theorem dX4_flying_14 : decode cX4_flying 14 = .ok (.iload_n 1, 1) := by decide +kernel
theorem dX4_flying_15 : decode cX4_flying 15 = .ok (.invokevirtual 76, 3) := by decide +kernel
theorem dX4_flying_18 : decode cX4_flying 18 = .ok (.istore 4, 2) := by decide +kernel
theorem dX4_flying_20 : decode cX4_flying 20 = .ok (.iload 4, 2) := by decide +kernel
theorem dX4_flying_22 : decode cX4_flying 22 = .ok (.iload_n 2, 1) := by decide +kernel
theorem dX4_flying_23 : decode cX4_flying 23 = .ok (.if_icmp .ne 6, 3) := by decide +kernel
theorem dX4_flying_26 : decode cX4_flying 26 = .ok (.goto 12, 3) := by decide +kernel
theorem dX4_flying_29 : decode cX4_flying 29 = .ok (.iload 4, 2) := by decide +kernel
theorem dX4_flying_31 : decode cX4_flying 31 = .ok (.istore_n 2, 1) := by decide +kernel
theorem dX4_flying_32 : decode cX4_flying 32 = .ok (.iinc 3 1, 3) := by decide +kernel
theorem dX4_flying_35 : decode cX4_flying 35 = .ok (.goto (-29), 3) := by decide +kernel
theorem dX4_flying_38 : decode cX4_flying 38 = .ok (.iload_n 2, 1) := by decide +kernel
theorem dX4_flying_39 : decode cX4_flying 39 = .ok (.sipush (-257), 3) := by decide +kernel
theorem dX4_flying_42 : decode cX4_flying 42 = .ok (.iand, 1) := by decide +kernel
theorem dX4_flying_43 : decode cX4_flying 43 = .ok (.ireturn, 1) := by decide +kernel
theorem dX4_spread_0 : decode cX4_spread 0 = .ok (.iload_n 1, 1) := by decide +kernel
theorem dX4_spread_1 : decode cX4_spread 1 = .ok (.istore_n 3, 1) := by decide +kernel
theorem dX4_spread_2 : decode cX4_spread 2 = .ok (.iconst 0, 1) := by decide +kernel
theorem dX4_spread_3 : decode cX4_spread 3 = .ok (.istore 4, 2) := by decide +kernel
theorem dX4_spread_5 : decode cX4_spread 5 = .ok (.iload 4, 2) := by decide +kernel
theorem dX4_spread_7 : decode cX4_spread 7 = .ok (.bipush 12, 2) := by decide +kernel
theorem dX4_spread_9 : decode cX4_spread 9 = .ok (.if_icmp .ge 40, 3) := by decide +kernel
theorem dX4_spread_12 : decode cX4_spread 12 = .ok (.iload_n 2, 1) := by decide +kernel
theorem dX4_spread_13 : decode cX4_spread 13 = .ok (.iload 4, 2) := by decide +kernel
theorem dX4_spread_15 : decode cX4_spread 15 = .ok (.invokestatic 66, 3) := by decide +kernel
theorem dX4_spread_18 : decode cX4_spread 18 = .ok (.ifCond .eq 25, 3) := by decide +kernel
theorem dX4_spread_21 : decode cX4_spread 21 = .ok (.aload_n 0, 1) := by decide +kernel
theorem dX4_spread_22 : decode cX4_spread 22 = .ok (.getfield 27, 3) := by decide +kernel
theorem dX4_spread_25 : decode cX4_spread 25 = .ok (.iload 4, 2) := by decide +kernel
theorem dX4_spread_27 : decode cX4_spread 27 = .ok (.iaload, 1) := by decide +kernel
theorem dX4_spread_28 : decode cX4_spread 28 = .ok (.iload_n 3, 1) := by decide +kernel
theorem dX4_spread_29 : decode cX4_spread 29 = .ok (.iand, 1) := by decide +kernel
theorem dX4_spread_30 : decode cX4_spread 30 = .ok (.ifCond .eq 13, 3) := by decide +kernel
theorem dX4_spread_33 : decode cX4_spread 33 = .ok (.iload_n 3, 1) := by decide +kernel
theorem dX4_spread_34 : decode cX4_spread 34 = .ok (.aload_n 0, 1) := by decide +kernel
theorem dX4_spread_35 : decode cX4_spread 35 = .ok (.getfield 27, 3) := by decide +kernel
theorem dX4_spread_38 : decode cX4_spread 38 = .ok (.iload 4, 2) := by decide +kernel
theorem dX4_spread_40 : decode cX4_spread 40 = .ok (.iaload, 1) := by decide +kernel
theorem dX4_spread_41 : decode cX4_spread 41 = .ok (.ior, 1) := by decide +kernel
theorem dX4_spread_42 : decode cX4_spread 42 = .ok (.istore_n 3, 1) := by decide +kernel
theorem dX4_spread_43 : decode cX4_spread 43 = .ok (.iinc 4 1, 3) := by decide +kernel
theorem dX4_spread_46 : decode cX4_spread 46 = .ok (.goto (-41), 3) := by decide +kernel
theorem dX4_spread_49 : decode cX4_spread 49 = .ok (.iload_n 3, 1) := by decide +kernel
theorem dX4_spread_50 : decode cX4_spread 50 = .ok (.ireturn, 1) := by decide +kernel
theorem dX5_init_0 : decode cX5_init 0 = .ok (.aload_n 0, 1) := by decide +kernel
theorem dX5_init_1 : decode cX5_init 1 = .ok (.invokespecial 3, 3) := by decide +kernel
theorem dX5_init_4 : decode cX5_init 4 = .ok (.aload_n 0, 1) := by decide +kernel
theorem dX5_init_5 : decode cX5_init 5 = .ok (.sipush 500, 3) := by decide +kernel
theorem dX5_init_8 : decode cX5_init 8 = .ok (.newarray .byte, 2) := by decide +kernel
theorem dX5_init_10 : decode cX5_init 10 = .ok (.putfield 9, 3) := by decide +kernel
theorem dX5_init_13 : decode cX5_init 13 = .ok (.aload_n 0, 1) := by decide +kernel
theorem dX5_init_14 : decode cX5_init 14 = .ok (.iconst (-1), 1) := by decide +kernel
theorem dX5_init_15 : decode cX5_init 15 = .ok (.putfield 15, 3) := by decide +kernel
theorem dX5_init_18 : decode cX5_init 18 = .ok (.return_, 1) := by decide +kernel
theorem dX5_hasRoom_0 : decode cX5_hasRoom 0 = .ok (.aload_n 0, 1) := by decide +kernel
theorem dX5_hasRoom_1 : decode cX5_hasRoom 1 = .ok (.getfield 19, 3) := by decide +kernel
theorem dX5_hasRoom_4 : decode cX5_hasRoom 4 = .ok (.iload_n 1, 1) := by decide +kernel
theorem dX5_hasRoom_5 : decode cX5_hasRoom 5 = .ok (.iadd, 1) := by decide +kernel
theorem dX5_hasRoom_6 : decode cX5_hasRoom 6 = .ok (.sipush 500, 3) := by decide +kernel
theorem dX5_hasRoom_9 : decode cX5_hasRoom 9 = .ok (.if_icmp .gt 7, 3) := by decide +kernel
theorem dX5_hasRoom_12 : decode cX5_hasRoom 12 = .ok (.iconst 1, 1) := by decide +kernel
theorem dX5_hasRoom_13 : decode cX5_hasRoom 13 = .ok (.goto 4, 3) := by decide +kernel
theorem dX5_hasRoom_16 : decode cX5_hasRoom 16 = .ok (.iconst 0, 1) := by decide +kernel
theorem dX5_hasRoom_17 : decode cX5_hasRoom 17 = .ok (.ireturn, 1) := by decide +kernel
theorem dX5_add_0 : decode cX5_add 0 = .ok (.iload_n 1, 1) := by decide +kernel
theorem dX5_add_1 : decode cX5_add 1 = .ok (.iconst 1, 1) := by decide +kernel
theorem dX5_add_2 : decode cX5_add 2 = .ok (.isub, 1) := by decide +kernel
theorem dX5_add_3 : decode cX5_add 3 = .ok (.istore 4, 2) := by decide +kernel
theorem dX5_add_5 : decode cX5_add 5 = .ok (.iload 4, 2) := by decide +kernel
theorem dX5_add_7 : decode cX5_add 7 = .ok (.ifCond .lt 54, 3) := by decide +kernel
theorem dX5_add_10 : decode cX5_add 10 = .ok (.aload_n 0, 1) := by decide +kernel
theorem dX5_add_11 : decode cX5_add 11 = .ok (.getfield 19, 3) := by decide +kernel
theorem dX5_add_14 : decode cX5_add 14 = .ok (.ifCond .lt 41, 3) := by decide +kernel
theorem dX5_add_17 : decode cX5_add 17 = .ok (.aload_n 0, 1) := by decide +kernel
theorem dX5_add_18 : decode cX5_add 18 = .ok (.getfield 19, 3) := by decide +kernel
theorem dX5_add_21 : decode cX5_add 21 = .ok (.sipush 500, 3) := by decide +kernel
theorem dX5_add_24 : decode cX5_add 24 = .ok (.if_icmp .ge 31, 3) := by decide +kernel
theorem dX5_add_27 : decode cX5_add 27 = .ok (.aload_n 0, 1) := by decide +kernel
theorem dX5_add_28 : decode cX5_add 28 = .ok (.getfield 9, 3) := by decide +kernel
theorem dX5_add_31 : decode cX5_add 31 = .ok (.aload_n 0, 1) := by decide +kernel
theorem dX5_add_32 : decode cX5_add 32 = .ok (.getfield 19, 3) := by decide +kernel
theorem dX5_add_35 : decode cX5_add 35 = .ok (.lload_n 2, 1) := by decide +kernel
theorem dX5_add_36 : decode cX5_add 36 = .ok (.bipush 8, 2) := by decide +kernel
theorem dX5_add_38 : decode cX5_add 38 = .ok (.iload 4, 2) := by decide +kernel
theorem dX5_add_40 : decode cX5_add 40 = .ok (.imul, 1) := by decide +kernel
theorem dX5_add_41 : decode cX5_add 41 = .ok (.lshr, 1) := by decide +kernel
theorem dX5_add_42 : decode cX5_add 42 = .ok (.l2i, 1) := by decide +kernel
theorem dX5_add_43 : decode cX5_add 43 = .ok (.i2b, 1) := by decide +kernel
theorem dX5_add_44 : decode cX5_add 44 = .ok (.bastore, 1) := by decide +kernel
theorem dX5_add_45 : decode cX5_add 45 = .ok (.aload_n 0, 1) := by decide +kernel
theorem dX5_add_46 : decode cX5_add 46 = .ok (.dup, 1) := by decide +kernel
theorem dX5_add_47 : decode cX5_add 47 = .ok (.getfield 19, 3) := by decide +kernel
theorem dX5_add_50 : decode cX5_add 50 = .ok (.iconst 1, 1) := by decide +kernel
theorem dX5_add_51 : decode cX5_add 51 = .ok (.iadd, 1) := by decide +kernel
theorem dX5_add_52 : decode cX5_add 52 = .ok (.putfield 19, 3) := by decide +kernel
theorem dX5_add_55 : decode cX5_add 55 = .ok (.iinc 4 (-1), 3) := by decide +kernel
theorem dX5_add_58 : decode cX5_add 58 = .ok (.goto (-53), 3) := by decide +kernel
theorem dX5_add_61 : decode cX5_add 61 = .ok (.return_, 1) := by decide +kernel
theorem dX5_read_0 : decode cX5_read 0 = .ok (.aload_n 1, 1) := by decide +kernel
theorem dX5_read_1 : decode cX5_read 1 = .ok (.invokevirtual 22, 3) := by decide +kernel
theorem dX5_read_4 : decode cX5_read 4 = .ok (.aload_n 0, 1) := by decide +kernel
theorem dX5_read_5 : decode cX5_read 5 = .ok (.iconst 0, 1) := by decide +kernel
theorem dX5_read_6 : decode cX5_read 6 = .ok (.putfield 27, 3) := by decide +kernel
theorem dX5_read_9 : decode cX5_read 9 = .ok (.aload_n 0, 1) := by decide +kernel
theorem dX5_read_10 : decode cX5_read 10 = .ok (.iconst (-1), 1) := by decide +kernel
theorem dX5_read_11 : decode cX5_read 11 = .ok (.putfield 15, 3) := by decide +kernel
theorem dX5_read_14 : decode cX5_read 14 = .ok (.aload_n 0, 1) := by decide +kernel
theorem dX5_read_15 : decode cX5_read 15 = .ok (.iconst 0, 1) := by decide +kernel
theorem dX5_read_16 : decode cX5_read 16 = .ok (.putfield 30, 3) := by decide +kernel
theorem dX5_read_19 : decode cX5_read 19 = .ok (.iconst 0, 1) := by decide +kernel
theorem dX5_read_20 : decode cX5_read 20 = .ok (.istore_n 2, 1) := by decide +kernel
theorem dX5_read_21 : decode cX5_read 21 = .ok (.iload_n 2, 1) := by decide +kernel
theorem dX5_read_22 : decode cX5_read 22 = .ok (.sipush 500, 3) := by decide +kernel
theorem dX5_read_25 : decode cX5_read 25 = .ok (.if_icmp .gt 36, 3) := by decide +kernel
theorem dX5_read_28 : decode cX5_read 28 = .ok (.aload_n 0, 1) := by decide +kernel
theorem dX5_read_29 : decode cX5_read 29 = .ok (.invokevirtual 33, 3) := by decide +kernel
theorem dX5_read_32 : decode cX5_read 32 = .ok (.aload_n 0, 1) := by decide +kernel
theorem dX5_read_33 : decode cX5_read 33 = .ok (.invokevirtual 36, 3) := by decide +kernel
theorem dX5_read_36 : decode cX5_read 36 = .ok (.iconst (-1), 1) := by decide +kernel
theorem dX5_read_37 : decode cX5_read 37 = .ok (.if_icmp .eq 24, 3) := by decide +kernel
theorem dX5_read_40 : decode cX5_read 40 = .ok (.aload_n 0, 1) := by decide +kernel
theorem dX5_read_41 : decode cX5_read 41 = .ok (.getfield 27, 3) := by decide +kernel
theorem dX5_read_44 : decode cX5_read 44 = .ok (.ifCond .eq 6, 3) := by decide +kernel
theorem dX5_read_47 : decode cX5_read 47 = .ok (.goto 14, 3) := by decide +kernel
theorem dX5_read_50 : decode cX5_read 50 = .ok (.aload_n 0, 1) := by decide +kernel
theorem dX5_read_51 : decode cX5_read 51 = .ok (.aload_n 1, 1) := by decide +kernel
theorem dX5_read_52 : decode cX5_read 52 = .ok (.invokevirtual 40, 3) := by decide +kernel
theorem dX5_read_55 : decode cX5_read 55 = .ok (.iinc 2 1, 3) := by decide +kernel
theorem dX5_read_58 : decode cX5_read 58 = .ok (.goto (-37), 3) := by decide +kernel
theorem dX5_read_61 : decode cX5_read 61 = .ok (.return_, 1) := by decide +kernel
theorem dX5_readClause_0 : decode cX5_readClause 0 = .ok (.aload_n 0, 1) := by decide +kernel
theorem dX5_readClause_1 : decode cX5_readClause 1 = .ok (.getfield 30, 3) := by decide +kernel
theorem dX5_readClause_4 : decode cX5_readClause 4 = .ok (.istore_n 2, 1) := by decide +kernel
theorem dX5_readClause_5 : decode cX5_readClause 5 = .ok (.aload_n 0, 1) := by decide +kernel
theorem dX5_readClause_6 : decode cX5_readClause 6 = .ok (.invokevirtual 44, 3) := by decide +kernel
theorem dX5_readClause_9 : decode cX5_readClause 9 = .ok (.istore_n 3, 1) := by decide +kernel
theorem dX5_readClause_10 : decode cX5_readClause 10 = .ok (.iload_n 3, 1) := by decide +kernel
theorem dX5_readClause_11 : decode cX5_readClause 11 = .ok (.ifCond .eq 15, 3) := by decide +kernel
theorem dX5_readClause_14 : decode cX5_readClause 14 = .ok (.iload_n 3, 1) := by decide +kernel
theorem dX5_readClause_15 : decode cX5_readClause 15 = .ok (.iconst 1, 1) := by decide +kernel
theorem dX5_readClause_16 : decode cX5_readClause 16 = .ok (.if_icmp .eq 19, 3) := by decide +kernel
theorem dX5_readClause_19 : decode cX5_readClause 19 = .ok (.aload_n 1, 1) := by decide +kernel
theorem dX5_readClause_20 : decode cX5_readClause 20 = .ok (.getfield 47, 3) := by decide +kernel
theorem dX5_readClause_23 : decode cX5_readClause 23 = .ok (.ifCond .ne 12, 3) := by decide +kernel
theorem dX5_readClause_26 : decode cX5_readClause 26 = .ok (.aload_n 0, 1) := by decide +kernel
theorem dX5_readClause_27 : decode cX5_readClause 27 = .ok (.iconst 1, 1) := by decide +kernel
theorem dX5_readClause_28 : decode cX5_readClause 28 = .ok (.iload_n 2, 1) := by decide +kernel
theorem dX5_readClause_29 : decode cX5_readClause 29 = .ok (.invokevirtual 50, 3) := by decide +kernel
theorem dX5_readClause_32 : decode cX5_readClause 32 = .ok (.goto 39, 3) := by decide +kernel
theorem dX5_readClause_35 : decode cX5_readClause 35 = .ok (.aload_n 1, 1) := by decide +kernel
theorem dX5_readClause_36 : decode cX5_readClause 36 = .ok (.iload_n 3, 1) := by decide +kernel
theorem dX5_readClause_37 : decode cX5_readClause 37 = .ok (.invokestatic 54, 3) := by decide +kernel
theorem dX5_readClause_40 : decode cX5_readClause 40 = .ok (.ifCond .eq 12, 3) := by decide +kernel
theorem dX5_readClause_43 : decode cX5_readClause 43 = .ok (.aload_n 0, 1) := by decide +kernel
theorem dX5_readClause_44 : decode cX5_readClause 44 = .ok (.iconst 3, 1) := by decide +kernel
theorem dX5_readClause_45 : decode cX5_readClause 45 = .ok (.iload_n 2, 1) := by decide +kernel
theorem dX5_readClause_46 : decode cX5_readClause 46 = .ok (.invokevirtual 50, 3) := by decide +kernel
theorem dX5_readClause_49 : decode cX5_readClause 49 = .ok (.goto 22, 3) := by decide +kernel
theorem dX5_readClause_52 : decode cX5_readClause 52 = .ok (.iload_n 3, 1) := by decide +kernel
theorem dX5_readClause_53 : decode cX5_readClause 53 = .ok (.iconst 1, 1) := by decide +kernel
theorem dX5_readClause_54 : decode cX5_readClause 54 = .ok (.if_icmp .ne 11, 3) := by decide +kernel
theorem dX5_readClause_57 : decode cX5_readClause 57 = .ok (.aload_n 0, 1) := by decide +kernel
theorem dX5_readClause_58 : decode cX5_readClause 58 = .ok (.aload_n 1, 1) := by decide +kernel
theorem dX5_readClause_59 : decode cX5_readClause 59 = .ok (.invokevirtual 58, 3) := by decide +kernel
theorem dX5_readClause_62 : decode cX5_readClause 62 = .ok (.goto 9, 3) := by decide +kernel
theorem dX5_readClause_65 : decode cX5_readClause 65 = .ok (.aload_n 0, 1) := by decide +kernel
theorem dX5_readClause_66 : decode cX5_readClause 66 = .ok (.aload_n 1, 1) := by decide +kernel
theorem dX5_readClause_67 : decode cX5_readClause 67 = .ok (.iload_n 3, 1) := by decide +kernel
theorem dX5_readClause_68 : decode cX5_readClause 68 = .ok (.invokevirtual 61, 3) := by decide +kernel
theorem dX5_readClause_71 : decode cX5_readClause 71 = .ok (.return_, 1) := by decide +kernel
theorem dX5_isTooMany_0 : decode cX5_isTooMany 0 = .ok (.iload_n 1, 1) := by decide +kernel
theorem dX5_isTooMany_1 : decode cX5_isTooMany 1 = .ok (.tableswitch 78 1 5 #[35, 48, 78, 78, 63], 35) := by decide +kernel
theorem dX5_isTooMany_36 : decode cX5_isTooMany 36 = .ok (.aload_n 0, 1) := by decide +kernel
theorem dX5_isTooMany_37 : decode cX5_isTooMany 37 = .ok (.getfield 47, 3) := by decide +kernel
theorem dX5_isTooMany_40 : decode cX5_isTooMany 40 = .ok (.ifCond .le 7, 3) := by decide +kernel
theorem dX5_isTooMany_43 : decode cX5_isTooMany 43 = .ok (.iconst 1, 1) := by decide +kernel
theorem dX5_isTooMany_44 : decode cX5_isTooMany 44 = .ok (.goto 4, 3) := by decide +kernel
theorem dX5_isTooMany_47 : decode cX5_isTooMany 47 = .ok (.iconst 0, 1) := by decide +kernel
theorem dX5_isTooMany_48 : decode cX5_isTooMany 48 = .ok (.ireturn, 1) := by decide +kernel
theorem dX5_isTooMany_49 : decode cX5_isTooMany 49 = .ok (.aload_n 0, 1) := by decide +kernel
theorem dX5_isTooMany_50 : decode cX5_isTooMany 50 = .ok (.getfield 65, 3) := by decide +kernel
theorem dX5_isTooMany_53 : decode cX5_isTooMany 53 = .ok (.bipush 8, 2) := by decide +kernel
theorem dX5_isTooMany_55 : decode cX5_isTooMany 55 = .ok (.if_icmp .lt 7, 3) := by decide +kernel
theorem dX5_isTooMany_58 : decode cX5_isTooMany 58 = .ok (.iconst 1, 1) := by decide +kernel
theorem dX5_isTooMany_59 : decode cX5_isTooMany 59 = .ok (.goto 4, 3) := by decide +kernel
theorem dX5_isTooMany_62 : decode cX5_isTooMany 62 = .ok (.iconst 0, 1) := by decide +kernel
theorem dX5_isTooMany_63 : decode cX5_isTooMany 63 = .ok (.ireturn, 1) := by decide +kernel
theorem dX5_isTooMany_64 : decode cX5_isTooMany 64 = .ok (.aload_n 0, 1) := by decide +kernel
theorem dX5_isTooMany_65 : decode cX5_isTooMany 65 = .ok (.getfield 68, 3) := by decide +kernel
theorem dX5_isTooMany_68 : decode cX5_isTooMany 68 = .ok (.bipush 8, 2) := by decide +kernel
theorem dX5_isTooMany_70 : decode cX5_isTooMany 70 = .ok (.if_icmp .lt 7, 3) := by decide +kernel
theorem dX5_isTooMany_73 : decode cX5_isTooMany 73 = .ok (.iconst 1, 1) := by decide +kernel
theorem dX5_isTooMany_74 : decode cX5_isTooMany 74 = .ok (.goto 4, 3) := by decide +kernel
theorem dX5_isTooMany_77 : decode cX5_isTooMany 77 = .ok (.iconst 0, 1) := by decide +kernel
theorem dX5_isTooMany_78 : decode cX5_isTooMany 78 = .ok (.ireturn, 1) := by decide +kernel
theorem dX5_isTooMany_79 : decode cX5_isTooMany 79 = .ok (.aload_n 0, 1) := by decide +kernel
theorem dX5_isTooMany_80 : decode cX5_isTooMany 80 = .ok (.getfield 71, 3) := by decide +kernel
theorem dX5_isTooMany_83 : decode cX5_isTooMany 83 = .ok (.bipush 12, 2) := by decide +kernel
theorem dX5_isTooMany_85 : decode cX5_isTooMany 85 = .ok (.if_icmp .lt 7, 3) := by decide +kernel
theorem dX5_isTooMany_88 : decode cX5_isTooMany 88 = .ok (.iconst 1, 1) := by decide +kernel
theorem dX5_isTooMany_89 : decode cX5_isTooMany 89 = .ok (.goto 4, 3) := by decide +kernel
theorem dX5_isTooMany_92 : decode cX5_isTooMany 92 = .ok (.iconst 0, 1) := by decide +kernel
theorem dX5_isTooMany_93 : decode cX5_isTooMany 93 = .ok (.ireturn, 1) := by decide +kernel
theorem dX5_readColours_0 : decode cX5_readColours 0 = .ok (.iconst 0, 1) := by decide +kernel
theorem dX5_readColours_1 : decode cX5_readColours 1 = .ok (.istore_n 2, 1) := by decide +kernel
theorem dX5_readColours_2 : decode cX5_readColours 2 = .ok (.iload_n 2, 1) := by decide +kernel
theorem dX5_readColours_3 : decode cX5_readColours 3 = .ok (.iconst 4, 1) := by decide +kernel
theorem dX5_readColours_4 : decode cX5_readColours 4 = .ok (.if_icmp .ge 94, 3) := by decide +kernel
theorem dX5_readColours_7 : decode cX5_readColours 7 = .ok (.aload_n 0, 1) := by decide +kernel
theorem dX5_readColours_8 : decode cX5_readColours 8 = .ok (.iconst 0, 1) := by decide +kernel
theorem dX5_readColours_9 : decode cX5_readColours 9 = .ok (.bipush 99, 2) := by decide +kernel
theorem dX5_readColours_11 : decode cX5_readColours 11 = .ok (.invokevirtual 74, 3) := by decide +kernel
theorem dX5_readColours_14 : decode cX5_readColours 14 = .ok (.istore_n 3, 1) := by decide +kernel
theorem dX5_readColours_15 : decode cX5_readColours 15 = .ok (.aload_n 0, 1) := by decide +kernel
theorem dX5_readColours_16 : decode cX5_readColours 16 = .ok (.invokevirtual 33, 3) := by decide +kernel
theorem dX5_readColours_19 : decode cX5_readColours 19 = .ok (.aload_n 0, 1) := by decide +kernel
theorem dX5_readColours_20 : decode cX5_readColours 20 = .ok (.invokevirtual 36, 3) := by decide +kernel
theorem dX5_readColours_23 : decode cX5_readColours 23 = .ok (.bipush 59, 2) := by decide +kernel
theorem dX5_readColours_25 : decode cX5_readColours 25 = .ok (.if_icmp .ne 7, 3) := by decide +kernel
theorem dX5_readColours_28 : decode cX5_readColours 28 = .ok (.iconst 1, 1) := by decide +kernel
theorem dX5_readColours_29 : decode cX5_readColours 29 = .ok (.goto 4, 3) := by decide +kernel
theorem dX5_readColours_32 : decode cX5_readColours 32 = .ok (.iconst 0, 1) := by decide +kernel
theorem dX5_readColours_33 : decode cX5_readColours 33 = .ok (.istore 4, 2) := by decide +kernel
theorem dX5_readColours_35 : decode cX5_readColours 35 = .ok (.iload 4, 2) := by decide +kernel
theorem dX5_readColours_37 : decode cX5_readColours 37 = .ok (.ifCond .ne 26, 3) := by decide +kernel
theorem dX5_readColours_40 : decode cX5_readColours 40 = .ok (.aload_n 0, 1) := by decide +kernel
theorem dX5_readColours_41 : decode cX5_readColours 41 = .ok (.invokevirtual 36, 3) := by decide +kernel
theorem dX5_readColours_44 : decode cX5_readColours 44 = .ok (.bipush 44, 2) := by decide +kernel
theorem dX5_readColours_46 : decode cX5_readColours 46 = .ok (.if_icmp .ne 8, 3) := by decide +kernel
theorem dX5_readColours_49 : decode cX5_readColours 49 = .ok (.iload_n 2, 1) := by decide +kernel
theorem dX5_readColours_50 : decode cX5_readColours 50 = .ok (.iconst 3, 1) := by decide +kernel
theorem dX5_readColours_51 : decode cX5_readColours 51 = .ok (.if_icmp .ne 12, 3) := by decide +kernel
theorem dX5_readColours_54 : decode cX5_readColours 54 = .ok (.aload_n 0, 1) := by decide +kernel
theorem dX5_readColours_55 : decode cX5_readColours 55 = .ok (.iconst 1, 1) := by decide +kernel
theorem dX5_readColours_56 : decode cX5_readColours 56 = .ok (.aload_n 0, 1) := by decide +kernel
theorem dX5_readColours_57 : decode cX5_readColours 57 = .ok (.getfield 30, 3) := by decide +kernel
theorem dX5_readColours_60 : decode cX5_readColours 60 = .ok (.invokevirtual 50, 3) := by decide +kernel
theorem dX5_readColours_63 : decode cX5_readColours 63 = .ok (.aload_n 0, 1) := by decide +kernel
theorem dX5_readColours_64 : decode cX5_readColours 64 = .ok (.getfield 27, 3) := by decide +kernel
theorem dX5_readColours_67 : decode cX5_readColours 67 = .ok (.ifCond .eq 4, 3) := by decide +kernel
theorem dX5_readColours_70 : decode cX5_readColours 70 = .ok (.return_, 1) := by decide +kernel
theorem dX5_readColours_71 : decode cX5_readColours 71 = .ok (.aload_n 1, 1) := by decide +kernel
theorem dX5_readColours_72 : decode cX5_readColours 72 = .ok (.iload_n 3, 1) := by decide +kernel
theorem dX5_readColours_73 : decode cX5_readColours 73 = .ok (.invokevirtual 78, 3) := by decide +kernel
theorem dX5_readColours_76 : decode cX5_readColours 76 = .ok (.aload_n 0, 1) := by decide +kernel
theorem dX5_readColours_77 : decode cX5_readColours 77 = .ok (.dup, 1) := by decide +kernel
theorem dX5_readColours_78 : decode cX5_readColours 78 = .ok (.getfield 30, 3) := by decide +kernel
theorem dX5_readColours_81 : decode cX5_readColours 81 = .ok (.iconst 1, 1) := by decide +kernel
theorem dX5_readColours_82 : decode cX5_readColours 82 = .ok (.iadd, 1) := by decide +kernel
theorem dX5_readColours_83 : decode cX5_readColours 83 = .ok (.putfield 30, 3) := by decide +kernel
theorem dX5_readColours_86 : decode cX5_readColours 86 = .ok (.iload 4, 2) := by decide +kernel
theorem dX5_readColours_88 : decode cX5_readColours 88 = .ok (.ifCond .eq 4, 3) := by decide +kernel
theorem dX5_readColours_91 : decode cX5_readColours 91 = .ok (.return_, 1) := by decide +kernel
theorem dX5_readColours_92 : decode cX5_readColours 92 = .ok (.iinc 2 1, 3) := by decide +kernel
theorem dX5_readColours_95 : decode cX5_readColours 95 = .ok (.goto (-93), 3) := by decide +kernel
theorem dX5_readColours_98 : decode cX5_readColours 98 = .ok (.return_, 1) := by decide +kernel
theorem dX5_readNumbers_0 : decode cX5_readNumbers 0 = .ok (.aload_n 0, 1) := by decide +kernel
theorem dX5_readNumbers_1 : decode cX5_readNumbers 1 = .ok (.iconst 0, 1) := by decide +kernel
theorem dX5_readNumbers_2 : decode cX5_readNumbers 2 = .ok (.iload_n 2, 1) := by decide +kernel
theorem dX5_readNumbers_3 : decode cX5_readNumbers 3 = .ok (.iconst 2, 1) := by decide +kernel
theorem dX5_readNumbers_4 : decode cX5_readNumbers 4 = .ok (.if_icmp .ne 12, 3) := by decide +kernel
theorem dX5_readNumbers_7 : decode cX5_readNumbers 7 = .ok (.aload_n 1, 1) := by decide +kernel
theorem dX5_readNumbers_8 : decode cX5_readNumbers 8 = .ok (.getfield 47, 3) := by decide +kernel
theorem dX5_readNumbers_11 : decode cX5_readNumbers 11 = .ok (.iconst 1, 1) := by decide +kernel
theorem dX5_readNumbers_12 : decode cX5_readNumbers 12 = .ok (.isub, 1) := by decide +kernel
theorem dX5_readNumbers_13 : decode cX5_readNumbers 13 = .ok (.goto 9, 3) := by decide +kernel
theorem dX5_readNumbers_16 : decode cX5_readNumbers 16 = .ok (.aload_n 1, 1) := by decide +kernel
theorem dX5_readNumbers_17 : decode cX5_readNumbers 17 = .ok (.getfield 65, 3) := by decide +kernel
theorem dX5_readNumbers_20 : decode cX5_readNumbers 20 = .ok (.iconst 1, 1) := by decide +kernel
theorem dX5_readNumbers_21 : decode cX5_readNumbers 21 = .ok (.isub, 1) := by decide +kernel
theorem dX5_readNumbers_22 : decode cX5_readNumbers 22 = .ok (.invokevirtual 74, 3) := by decide +kernel
theorem dX5_readNumbers_25 : decode cX5_readNumbers 25 = .ok (.istore_n 3, 1) := by decide +kernel
theorem dX5_readNumbers_26 : decode cX5_readNumbers 26 = .ok (.iconst (-1), 1) := by decide +kernel
theorem dX5_readNumbers_27 : decode cX5_readNumbers 27 = .ok (.istore 4, 2) := by decide +kernel
theorem dX5_readNumbers_29 : decode cX5_readNumbers 29 = .ok (.iload_n 2, 1) := by decide +kernel
theorem dX5_readNumbers_30 : decode cX5_readNumbers 30 = .ok (.iconst 4, 1) := by decide +kernel
theorem dX5_readNumbers_31 : decode cX5_readNumbers 31 = .ok (.if_icmp .eq 8, 3) := by decide +kernel
theorem dX5_readNumbers_34 : decode cX5_readNumbers 34 = .ok (.iload_n 2, 1) := by decide +kernel
theorem dX5_readNumbers_35 : decode cX5_readNumbers 35 = .ok (.iconst 5, 1) := by decide +kernel
theorem dX5_readNumbers_36 : decode cX5_readNumbers 36 = .ok (.if_icmp .ne 36, 3) := by decide +kernel
theorem dX5_readNumbers_39 : decode cX5_readNumbers 39 = .ok (.aload_n 0, 1) := by decide +kernel
theorem dX5_readNumbers_40 : decode cX5_readNumbers 40 = .ok (.iconst 0, 1) := by decide +kernel
theorem dX5_readNumbers_41 : decode cX5_readNumbers 41 = .ok (.aload_n 1, 1) := by decide +kernel
theorem dX5_readNumbers_42 : decode cX5_readNumbers 42 = .ok (.getfield 65, 3) := by decide +kernel
theorem dX5_readNumbers_45 : decode cX5_readNumbers 45 = .ok (.iconst 1, 1) := by decide +kernel
theorem dX5_readNumbers_46 : decode cX5_readNumbers 46 = .ok (.isub, 1) := by decide +kernel
theorem dX5_readNumbers_47 : decode cX5_readNumbers 47 = .ok (.invokevirtual 74, 3) := by decide +kernel
theorem dX5_readNumbers_50 : decode cX5_readNumbers 50 = .ok (.istore 4, 2) := by decide +kernel
theorem dX5_readNumbers_52 : decode cX5_readNumbers 52 = .ok (.iload_n 2, 1) := by decide +kernel
theorem dX5_readNumbers_53 : decode cX5_readNumbers 53 = .ok (.iconst 4, 1) := by decide +kernel
theorem dX5_readNumbers_54 : decode cX5_readNumbers 54 = .ok (.if_icmp .ne 18, 3) := by decide +kernel
theorem dX5_readNumbers_57 : decode cX5_readNumbers 57 = .ok (.iload_n 3, 1) := by decide +kernel
theorem dX5_readNumbers_58 : decode cX5_readNumbers 58 = .ok (.iload 4, 2) := by decide +kernel
theorem dX5_readNumbers_60 : decode cX5_readNumbers 60 = .ok (.if_icmp .ne 12, 3) := by decide +kernel
theorem dX5_readNumbers_63 : decode cX5_readNumbers 63 = .ok (.aload_n 0, 1) := by decide +kernel
theorem dX5_readNumbers_64 : decode cX5_readNumbers 64 = .ok (.iconst 4, 1) := by decide +kernel
theorem dX5_readNumbers_65 : decode cX5_readNumbers 65 = .ok (.aload_n 0, 1) := by decide +kernel
theorem dX5_readNumbers_66 : decode cX5_readNumbers 66 = .ok (.getfield 82, 3) := by decide +kernel
theorem dX5_readNumbers_69 : decode cX5_readNumbers 69 = .ok (.invokevirtual 50, 3) := by decide +kernel
theorem dX5_readNumbers_72 : decode cX5_readNumbers 72 = .ok (.iconst 0, 1) := by decide +kernel
theorem dX5_readNumbers_73 : decode cX5_readNumbers 73 = .ok (.istore 5, 2) := by decide +kernel
theorem dX5_readNumbers_75 : decode cX5_readNumbers 75 = .ok (.iload_n 2, 1) := by decide +kernel
theorem dX5_readNumbers_76 : decode cX5_readNumbers 76 = .ok (.iconst 5, 1) := by decide +kernel
theorem dX5_readNumbers_77 : decode cX5_readNumbers 77 = .ok (.if_icmp .ne 15, 3) := by decide +kernel
theorem dX5_readNumbers_80 : decode cX5_readNumbers 80 = .ok (.aload_n 0, 1) := by decide +kernel
theorem dX5_readNumbers_81 : decode cX5_readNumbers 81 = .ok (.iconst 0, 1) := by decide +kernel
theorem dX5_readNumbers_82 : decode cX5_readNumbers 82 = .ok (.bipush 99, 2) := by decide +kernel
theorem dX5_readNumbers_84 : decode cX5_readNumbers 84 = .ok (.invokevirtual 74, 3) := by decide +kernel
theorem dX5_readNumbers_87 : decode cX5_readNumbers 87 = .ok (.istore 5, 2) := by decide +kernel
theorem dX5_readNumbers_89 : decode cX5_readNumbers 89 = .ok (.goto 17, 3) := by decide +kernel
theorem dX5_readNumbers_92 : decode cX5_readNumbers 92 = .ok (.iload_n 2, 1) := by decide +kernel
theorem dX5_readNumbers_93 : decode cX5_readNumbers 93 = .ok (.iconst 2, 1) := by decide +kernel
theorem dX5_readNumbers_94 : decode cX5_readNumbers 94 = .ok (.if_icmp .eq 12, 3) := by decide +kernel
theorem dX5_readNumbers_97 : decode cX5_readNumbers 97 = .ok (.aload_n 0, 1) := by decide +kernel
theorem dX5_readNumbers_98 : decode cX5_readNumbers 98 = .ok (.iconst 1, 1) := by decide +kernel
theorem dX5_readNumbers_99 : decode cX5_readNumbers 99 = .ok (.bipush 9, 2) := by decide +kernel
theorem dX5_readNumbers_101 : decode cX5_readNumbers 101 = .ok (.invokevirtual 74, 3) := by decide +kernel
theorem dX5_readNumbers_104 : decode cX5_readNumbers 104 = .ok (.istore 5, 2) := by decide +kernel
theorem dX5_readNumbers_106 : decode cX5_readNumbers 106 = .ok (.aload_n 0, 1) := by decide +kernel
theorem dX5_readNumbers_107 : decode cX5_readNumbers 107 = .ok (.invokevirtual 85, 3) := by decide +kernel
theorem dX5_readNumbers_110 : decode cX5_readNumbers 110 = .ok (.aload_n 0, 1) := by decide +kernel
theorem dX5_readNumbers_111 : decode cX5_readNumbers 111 = .ok (.getfield 27, 3) := by decide +kernel
theorem dX5_readNumbers_114 : decode cX5_readNumbers 114 = .ok (.ifCond .ne 13, 3) := by decide +kernel
theorem dX5_readNumbers_117 : decode cX5_readNumbers 117 = .ok (.aload_n 1, 1) := by decide +kernel
theorem dX5_readNumbers_118 : decode cX5_readNumbers 118 = .ok (.iload_n 2, 1) := by decide +kernel
theorem dX5_readNumbers_119 : decode cX5_readNumbers 119 = .ok (.iload_n 3, 1) := by decide +kernel
theorem dX5_readNumbers_120 : decode cX5_readNumbers 120 = .ok (.iload 4, 2) := by decide +kernel
theorem dX5_readNumbers_122 : decode cX5_readNumbers 122 = .ok (.iload 5, 2) := by decide +kernel
theorem dX5_readNumbers_124 : decode cX5_readNumbers 124 = .ok (.invokestatic 88, 3) := by decide +kernel
theorem dX5_readNumbers_127 : decode cX5_readNumbers 127 = .ok (.return_, 1) := by decide +kernel
theorem dX5_addTold_0 : decode cX5_addTold 0 = .ok (.iload_n 1, 1) := by decide +kernel
theorem dX5_addTold_1 : decode cX5_addTold 1 = .ok (.iconst 2, 1) := by decide +kernel
theorem dX5_addTold_2 : decode cX5_addTold 2 = .ok (.if_icmp .ne 11, 3) := by decide +kernel
theorem dX5_addTold_5 : decode cX5_addTold 5 = .ok (.aload_n 0, 1) := by decide +kernel
theorem dX5_addTold_6 : decode cX5_addTold 6 = .ok (.iload_n 2, 1) := by decide +kernel
theorem dX5_addTold_7 : decode cX5_addTold 7 = .ok (.invokevirtual 92, 3) := by decide +kernel
theorem dX5_addTold_10 : decode cX5_addTold 10 = .ok (.goto 27, 3) := by decide +kernel
theorem dX5_addTold_13 : decode cX5_addTold 13 = .ok (.iload_n 1, 1) := by decide +kernel
theorem dX5_addTold_14 : decode cX5_addTold 14 = .ok (.iconst 5, 1) := by decide +kernel
theorem dX5_addTold_15 : decode cX5_addTold 15 = .ok (.if_icmp .ne 14, 3) := by decide +kernel
theorem dX5_addTold_18 : decode cX5_addTold 18 = .ok (.aload_n 0, 1) := by decide +kernel
theorem dX5_addTold_19 : decode cX5_addTold 19 = .ok (.iload_n 2, 1) := by decide +kernel
theorem dX5_addTold_20 : decode cX5_addTold 20 = .ok (.iload_n 3, 1) := by decide +kernel
theorem dX5_addTold_21 : decode cX5_addTold 21 = .ok (.iload 4, 2) := by decide +kernel
theorem dX5_addTold_23 : decode cX5_addTold 23 = .ok (.invokevirtual 95, 3) := by decide +kernel
theorem dX5_addTold_26 : decode cX5_addTold 26 = .ok (.goto 11, 3) := by decide +kernel
theorem dX5_addTold_29 : decode cX5_addTold 29 = .ok (.aload_n 0, 1) := by decide +kernel
theorem dX5_addTold_30 : decode cX5_addTold 30 = .ok (.iload_n 2, 1) := by decide +kernel
theorem dX5_addTold_31 : decode cX5_addTold 31 = .ok (.iload_n 3, 1) := by decide +kernel
theorem dX5_addTold_32 : decode cX5_addTold 32 = .ok (.iload 4, 2) := by decide +kernel
theorem dX5_addTold_34 : decode cX5_addTold 34 = .ok (.invokevirtual 99, 3) := by decide +kernel
theorem dX5_addTold_37 : decode cX5_addTold 37 = .ok (.return_, 1) := by decide +kernel
theorem dX5_readEnd_0 : decode cX5_readEnd 0 = .ok (.aload_n 0, 1) := by decide +kernel
theorem dX5_readEnd_1 : decode cX5_readEnd 1 = .ok (.invokevirtual 33, 3) := by decide +kernel
theorem dX5_readEnd_4 : decode cX5_readEnd 4 = .ok (.aload_n 0, 1) := by decide +kernel
theorem dX5_readEnd_5 : decode cX5_readEnd 5 = .ok (.invokevirtual 36, 3) := by decide +kernel
theorem dX5_readEnd_8 : decode cX5_readEnd 8 = .ok (.bipush 59, 2) := by decide +kernel
theorem dX5_readEnd_10 : decode cX5_readEnd 10 = .ok (.if_icmp .ne 16, 3) := by decide +kernel
theorem dX5_readEnd_13 : decode cX5_readEnd 13 = .ok (.aload_n 0, 1) := by decide +kernel
theorem dX5_readEnd_14 : decode cX5_readEnd 14 = .ok (.dup, 1) := by decide +kernel
theorem dX5_readEnd_15 : decode cX5_readEnd 15 = .ok (.getfield 30, 3) := by decide +kernel
theorem dX5_readEnd_18 : decode cX5_readEnd 18 = .ok (.iconst 1, 1) := by decide +kernel
theorem dX5_readEnd_19 : decode cX5_readEnd 19 = .ok (.iadd, 1) := by decide +kernel
theorem dX5_readEnd_20 : decode cX5_readEnd 20 = .ok (.putfield 30, 3) := by decide +kernel
theorem dX5_readEnd_23 : decode cX5_readEnd 23 = .ok (.goto 12, 3) := by decide +kernel
theorem dX5_readEnd_26 : decode cX5_readEnd 26 = .ok (.aload_n 0, 1) := by decide +kernel
theorem dX5_readEnd_27 : decode cX5_readEnd 27 = .ok (.iconst 1, 1) := by decide +kernel
theorem dX5_readEnd_28 : decode cX5_readEnd 28 = .ok (.aload_n 0, 1) := by decide +kernel
theorem dX5_readEnd_29 : decode cX5_readEnd 29 = .ok (.getfield 30, 3) := by decide +kernel
theorem dX5_readEnd_32 : decode cX5_readEnd 32 = .ok (.invokevirtual 50, 3) := by decide +kernel
theorem dX5_readEnd_35 : decode cX5_readEnd 35 = .ok (.return_, 1) := by decide +kernel
theorem dX5_readNumber_0 : decode cX5_readNumber 0 = .ok (.aload_n 0, 1) := by decide +kernel
theorem dX5_readNumber_1 : decode cX5_readNumber 1 = .ok (.invokevirtual 33, 3) := by decide +kernel
theorem dX5_readNumber_4 : decode cX5_readNumber 4 = .ok (.aload_n 0, 1) := by decide +kernel
theorem dX5_readNumber_5 : decode cX5_readNumber 5 = .ok (.aload_n 0, 1) := by decide +kernel
theorem dX5_readNumber_6 : decode cX5_readNumber 6 = .ok (.getfield 30, 3) := by decide +kernel
theorem dX5_readNumber_9 : decode cX5_readNumber 9 = .ok (.putfield 82, 3) := by decide +kernel
theorem dX5_readNumber_12 : decode cX5_readNumber 12 = .ok (.iconst 0, 1) := by decide +kernel
theorem dX5_readNumber_13 : decode cX5_readNumber 13 = .ok (.istore_n 3, 1) := by decide +kernel
theorem dX5_readNumber_14 : decode cX5_readNumber 14 = .ok (.aload_n 0, 1) := by decide +kernel
theorem dX5_readNumber_15 : decode cX5_readNumber 15 = .ok (.bipush 48, 2) := by decide +kernel
theorem dX5_readNumber_17 : decode cX5_readNumber 17 = .ok (.bipush 57, 2) := by decide +kernel
theorem dX5_readNumber_19 : decode cX5_readNumber 19 = .ok (.invokevirtual 102, 3) := by decide +kernel
theorem dX5_readNumber_22 : decode cX5_readNumber 22 = .ok (.istore 4, 2) := by decide +kernel
theorem dX5_readNumber_24 : decode cX5_readNumber 24 = .ok (.iload 4, 2) := by decide +kernel
theorem dX5_readNumber_26 : decode cX5_readNumber 26 = .ok (.aload_n 0, 1) := by decide +kernel
theorem dX5_readNumber_27 : decode cX5_readNumber 27 = .ok (.getfield 30, 3) := by decide +kernel
theorem dX5_readNumber_30 : decode cX5_readNumber 30 = .ok (.if_icmp .ne 12, 3) := by decide +kernel
theorem dX5_readNumber_33 : decode cX5_readNumber 33 = .ok (.aload_n 0, 1) := by decide +kernel
theorem dX5_readNumber_34 : decode cX5_readNumber 34 = .ok (.iconst 1, 1) := by decide +kernel
theorem dX5_readNumber_35 : decode cX5_readNumber 35 = .ok (.aload_n 0, 1) := by decide +kernel
theorem dX5_readNumber_36 : decode cX5_readNumber 36 = .ok (.getfield 30, 3) := by decide +kernel
theorem dX5_readNumber_39 : decode cX5_readNumber 39 = .ok (.invokevirtual 50, 3) := by decide +kernel
theorem dX5_readNumber_42 : decode cX5_readNumber 42 = .ok (.aload_n 0, 1) := by decide +kernel
theorem dX5_readNumber_43 : decode cX5_readNumber 43 = .ok (.getfield 30, 3) := by decide +kernel
theorem dX5_readNumber_46 : decode cX5_readNumber 46 = .ok (.istore 5, 2) := by decide +kernel
theorem dX5_readNumber_48 : decode cX5_readNumber 48 = .ok (.iload 5, 2) := by decide +kernel
theorem dX5_readNumber_50 : decode cX5_readNumber 50 = .ok (.iload 4, 2) := by decide +kernel
theorem dX5_readNumber_52 : decode cX5_readNumber 52 = .ok (.if_icmp .ge 35, 3) := by decide +kernel
theorem dX5_readNumber_55 : decode cX5_readNumber 55 = .ok (.iload 5, 2) := by decide +kernel
theorem dX5_readNumber_57 : decode cX5_readNumber 57 = .ok (.aload_n 0, 1) := by decide +kernel
theorem dX5_readNumber_58 : decode cX5_readNumber 58 = .ok (.getfield 30, 3) := by decide +kernel
theorem dX5_readNumber_61 : decode cX5_readNumber 61 = .ok (.iconst 3, 1) := by decide +kernel
theorem dX5_readNumber_62 : decode cX5_readNumber 62 = .ok (.iadd, 1) := by decide +kernel
theorem dX5_readNumber_63 : decode cX5_readNumber 63 = .ok (.if_icmp .ge 24, 3) := by decide +kernel
theorem dX5_readNumber_66 : decode cX5_readNumber 66 = .ok (.iload_n 3, 1) := by decide +kernel
theorem dX5_readNumber_67 : decode cX5_readNumber 67 = .ok (.bipush 10, 2) := by decide +kernel
theorem dX5_readNumber_69 : decode cX5_readNumber 69 = .ok (.imul, 1) := by decide +kernel
theorem dX5_readNumber_70 : decode cX5_readNumber 70 = .ok (.aload_n 0, 1) := by decide +kernel
theorem dX5_readNumber_71 : decode cX5_readNumber 71 = .ok (.iload 5, 2) := by decide +kernel
theorem dX5_readNumber_73 : decode cX5_readNumber 73 = .ok (.invokevirtual 105, 3) := by decide +kernel
theorem dX5_readNumber_76 : decode cX5_readNumber 76 = .ok (.iadd, 1) := by decide +kernel
theorem dX5_readNumber_77 : decode cX5_readNumber 77 = .ok (.bipush 48, 2) := by decide +kernel
theorem dX5_readNumber_79 : decode cX5_readNumber 79 = .ok (.isub, 1) := by decide +kernel
theorem dX5_readNumber_80 : decode cX5_readNumber 80 = .ok (.istore_n 3, 1) := by decide +kernel
theorem dX5_readNumber_81 : decode cX5_readNumber 81 = .ok (.iinc 5 1, 3) := by decide +kernel
theorem dX5_readNumber_84 : decode cX5_readNumber 84 = .ok (.goto (-36), 3) := by decide +kernel
theorem dX5_readNumber_87 : decode cX5_readNumber 87 = .ok (.iload 4, 2) := by decide +kernel
theorem dX5_readNumber_89 : decode cX5_readNumber 89 = .ok (.aload_n 0, 1) := by decide +kernel
theorem dX5_readNumber_90 : decode cX5_readNumber 90 = .ok (.getfield 30, 3) := by decide +kernel
theorem dX5_readNumber_93 : decode cX5_readNumber 93 = .ok (.isub, 1) := by decide +kernel
theorem dX5_readNumber_94 : decode cX5_readNumber 94 = .ok (.iconst 3, 1) := by decide +kernel
theorem dX5_readNumber_95 : decode cX5_readNumber 95 = .ok (.if_icmp .gt 13, 3) := by decide +kernel
theorem dX5_readNumber_98 : decode cX5_readNumber 98 = .ok (.iload_n 3, 1) := by decide +kernel
theorem dX5_readNumber_99 : decode cX5_readNumber 99 = .ok (.iload_n 1, 1) := by decide +kernel
theorem dX5_readNumber_100 : decode cX5_readNumber 100 = .ok (.if_icmp .lt 8, 3) := by decide +kernel
theorem dX5_readNumber_103 : decode cX5_readNumber 103 = .ok (.iload_n 3, 1) := by decide +kernel
theorem dX5_readNumber_104 : decode cX5_readNumber 104 = .ok (.iload_n 2, 1) := by decide +kernel
theorem dX5_readNumber_105 : decode cX5_readNumber 105 = .ok (.if_icmp .le 12, 3) := by decide +kernel
theorem dX5_readNumber_108 : decode cX5_readNumber 108 = .ok (.aload_n 0, 1) := by decide +kernel
theorem dX5_readNumber_109 : decode cX5_readNumber 109 = .ok (.iconst 2, 1) := by decide +kernel
theorem dX5_readNumber_110 : decode cX5_readNumber 110 = .ok (.aload_n 0, 1) := by decide +kernel
theorem dX5_readNumber_111 : decode cX5_readNumber 111 = .ok (.getfield 30, 3) := by decide +kernel
theorem dX5_readNumber_114 : decode cX5_readNumber 114 = .ok (.invokevirtual 50, 3) := by decide +kernel
theorem dX5_readNumber_117 : decode cX5_readNumber 117 = .ok (.aload_n 0, 1) := by decide +kernel
theorem dX5_readNumber_118 : decode cX5_readNumber 118 = .ok (.iload 4, 2) := by decide +kernel
theorem dX5_readNumber_120 : decode cX5_readNumber 120 = .ok (.putfield 30, 3) := by decide +kernel
theorem dX5_readNumber_123 : decode cX5_readNumber 123 = .ok (.iload_n 3, 1) := by decide +kernel
theorem dX5_readNumber_124 : decode cX5_readNumber 124 = .ok (.ireturn, 1) := by decide +kernel
theorem dX5_readWord_0 : decode cX5_readWord 0 = .ok (.aload_n 0, 1) := by decide +kernel
theorem dX5_readWord_1 : decode cX5_readWord 1 = .ok (.getfield 30, 3) := by decide +kernel
theorem dX5_readWord_4 : decode cX5_readWord 4 = .ok (.istore_n 1, 1) := by decide +kernel
theorem dX5_readWord_5 : decode cX5_readWord 5 = .ok (.aload_n 0, 1) := by decide +kernel
theorem dX5_readWord_6 : decode cX5_readWord 6 = .ok (.aload_n 0, 1) := by decide +kernel
theorem dX5_readWord_7 : decode cX5_readWord 7 = .ok (.bipush 97, 2) := by decide +kernel
theorem dX5_readWord_9 : decode cX5_readWord 9 = .ok (.bipush 122, 2) := by decide +kernel
theorem dX5_readWord_11 : decode cX5_readWord 11 = .ok (.invokevirtual 102, 3) := by decide +kernel
theorem dX5_readWord_14 : decode cX5_readWord 14 = .ok (.putfield 30, 3) := by decide +kernel
theorem dX5_readWord_17 : decode cX5_readWord 17 = .ok (.aload_n 0, 1) := by decide +kernel
theorem dX5_readWord_18 : decode cX5_readWord 18 = .ok (.iload_n 1, 1) := by decide +kernel
theorem dX5_readWord_19 : decode cX5_readWord 19 = .ok (.ldc 109, 2) := by decide +kernel
theorem dX5_readWord_21 : decode cX5_readWord 21 = .ok (.invokevirtual 110, 3) := by decide +kernel
theorem dX5_readWord_24 : decode cX5_readWord 24 = .ok (.ifCond .eq 5, 3) := by decide +kernel
theorem dX5_readWord_27 : decode cX5_readWord 27 = .ok (.iconst 1, 1) := by decide +kernel
theorem dX5_readWord_28 : decode cX5_readWord 28 = .ok (.ireturn, 1) := by decide +kernel
theorem dX5_readWord_29 : decode cX5_readWord 29 = .ok (.aload_n 0, 1) := by decide +kernel
theorem dX5_readWord_30 : decode cX5_readWord 30 = .ok (.iload_n 1, 1) := by decide +kernel
theorem dX5_readWord_31 : decode cX5_readWord 31 = .ok (.ldc 114, 2) := by decide +kernel
theorem dX5_readWord_33 : decode cX5_readWord 33 = .ok (.invokevirtual 110, 3) := by decide +kernel
theorem dX5_readWord_36 : decode cX5_readWord 36 = .ok (.ifCond .eq 5, 3) := by decide +kernel
theorem dX5_readWord_39 : decode cX5_readWord 39 = .ok (.iconst 2, 1) := by decide +kernel
theorem dX5_readWord_40 : decode cX5_readWord 40 = .ok (.ireturn, 1) := by decide +kernel
theorem dX5_readWord_41 : decode cX5_readWord 41 = .ok (.aload_n 0, 1) := by decide +kernel
theorem dX5_readWord_42 : decode cX5_readWord 42 = .ok (.iload_n 1, 1) := by decide +kernel
theorem dX5_readWord_43 : decode cX5_readWord 43 = .ok (.ldc 116, 2) := by decide +kernel
theorem dX5_readWord_45 : decode cX5_readWord 45 = .ok (.invokevirtual 110, 3) := by decide +kernel
theorem dX5_readWord_48 : decode cX5_readWord 48 = .ok (.ifCond .eq 5, 3) := by decide +kernel
theorem dX5_readWord_51 : decode cX5_readWord 51 = .ok (.iconst 3, 1) := by decide +kernel
theorem dX5_readWord_52 : decode cX5_readWord 52 = .ok (.ireturn, 1) := by decide +kernel
theorem dX5_readWord_53 : decode cX5_readWord 53 = .ok (.aload_n 0, 1) := by decide +kernel
theorem dX5_readWord_54 : decode cX5_readWord 54 = .ok (.iload_n 1, 1) := by decide +kernel
theorem dX5_readWord_55 : decode cX5_readWord 55 = .ok (.ldc 118, 2) := by decide +kernel
theorem dX5_readWord_57 : decode cX5_readWord 57 = .ok (.invokevirtual 110, 3) := by decide +kernel
theorem dX5_readWord_60 : decode cX5_readWord 60 = .ok (.ifCond .eq 5, 3) := by decide +kernel
theorem dX5_readWord_63 : decode cX5_readWord 63 = .ok (.iconst 4, 1) := by decide +kernel
theorem dX5_readWord_64 : decode cX5_readWord 64 = .ok (.ireturn, 1) := by decide +kernel
theorem dX5_readWord_65 : decode cX5_readWord 65 = .ok (.aload_n 0, 1) := by decide +kernel
theorem dX5_readWord_66 : decode cX5_readWord 66 = .ok (.iload_n 1, 1) := by decide +kernel
theorem dX5_readWord_67 : decode cX5_readWord 67 = .ok (.ldc 120, 2) := by decide +kernel
theorem dX5_readWord_69 : decode cX5_readWord 69 = .ok (.invokevirtual 110, 3) := by decide +kernel
theorem dX5_readWord_72 : decode cX5_readWord 72 = .ok (.ifCond .eq 7, 3) := by decide +kernel
theorem dX5_readWord_75 : decode cX5_readWord 75 = .ok (.iconst 5, 1) := by decide +kernel
theorem dX5_readWord_76 : decode cX5_readWord 76 = .ok (.goto 4, 3) := by decide +kernel
theorem dX5_readWord_79 : decode cX5_readWord 79 = .ok (.iconst 0, 1) := by decide +kernel
theorem dX5_readWord_80 : decode cX5_readWord 80 = .ok (.ireturn, 1) := by decide +kernel
theorem dX5_isWord_0 : decode cX5_isWord 0 = .ok (.aload_n 0, 1) := by decide +kernel
theorem dX5_isWord_1 : decode cX5_isWord 1 = .ok (.getfield 30, 3) := by decide +kernel
theorem dX5_isWord_4 : decode cX5_isWord 4 = .ok (.iload_n 1, 1) := by decide +kernel
theorem dX5_isWord_5 : decode cX5_isWord 5 = .ok (.isub, 1) := by decide +kernel
theorem dX5_isWord_6 : decode cX5_isWord 6 = .ok (.aload_n 2, 1) := by decide +kernel
theorem dX5_isWord_7 : decode cX5_isWord 7 = .ok (.invokevirtual 122, 3) := by decide +kernel
theorem dX5_isWord_10 : decode cX5_isWord 10 = .ok (.if_icmp .eq 5, 3) := by decide +kernel
theorem dX5_isWord_13 : decode cX5_isWord 13 = .ok (.iconst 0, 1) := by decide +kernel
theorem dX5_isWord_14 : decode cX5_isWord 14 = .ok (.ireturn, 1) := by decide +kernel
theorem dX5_isWord_15 : decode cX5_isWord 15 = .ok (.iconst 0, 1) := by decide +kernel
theorem dX5_isWord_16 : decode cX5_isWord 16 = .ok (.istore_n 3, 1) := by decide +kernel
theorem dX5_isWord_17 : decode cX5_isWord 17 = .ok (.iload_n 3, 1) := by decide +kernel
theorem dX5_isWord_18 : decode cX5_isWord 18 = .ok (.aload_n 2, 1) := by decide +kernel
theorem dX5_isWord_19 : decode cX5_isWord 19 = .ok (.invokevirtual 122, 3) := by decide +kernel
theorem dX5_isWord_22 : decode cX5_isWord 22 = .ok (.if_icmp .ge 26, 3) := by decide +kernel
theorem dX5_isWord_25 : decode cX5_isWord 25 = .ok (.aload_n 0, 1) := by decide +kernel
theorem dX5_isWord_26 : decode cX5_isWord 26 = .ok (.iload_n 1, 1) := by decide +kernel
theorem dX5_isWord_27 : decode cX5_isWord 27 = .ok (.iload_n 3, 1) := by decide +kernel
theorem dX5_isWord_28 : decode cX5_isWord 28 = .ok (.iadd, 1) := by decide +kernel
theorem dX5_isWord_29 : decode cX5_isWord 29 = .ok (.invokevirtual 105, 3) := by decide +kernel
theorem dX5_isWord_32 : decode cX5_isWord 32 = .ok (.aload_n 2, 1) := by decide +kernel
theorem dX5_isWord_33 : decode cX5_isWord 33 = .ok (.iload_n 3, 1) := by decide +kernel
theorem dX5_isWord_34 : decode cX5_isWord 34 = .ok (.invokevirtual 126, 3) := by decide +kernel
theorem dX5_isWord_37 : decode cX5_isWord 37 = .ok (.if_icmp .eq 5, 3) := by decide +kernel
theorem dX5_isWord_40 : decode cX5_isWord 40 = .ok (.iconst 0, 1) := by decide +kernel
theorem dX5_isWord_41 : decode cX5_isWord 41 = .ok (.ireturn, 1) := by decide +kernel
theorem dX5_isWord_42 : decode cX5_isWord 42 = .ok (.iinc 3 1, 3) := by decide +kernel
theorem dX5_isWord_45 : decode cX5_isWord 45 = .ok (.goto (-28), 3) := by decide +kernel
theorem dX5_isWord_48 : decode cX5_isWord 48 = .ok (.iconst 1, 1) := by decide +kernel
theorem dX5_isWord_49 : decode cX5_isWord 49 = .ok (.ireturn, 1) := by decide +kernel
theorem dX5_endOfRun_0 : decode cX5_endOfRun 0 = .ok (.aload_n 0, 1) := by decide +kernel
theorem dX5_endOfRun_1 : decode cX5_endOfRun 1 = .ok (.getfield 30, 3) := by decide +kernel
theorem dX5_endOfRun_4 : decode cX5_endOfRun 4 = .ok (.istore_n 3, 1) := by decide +kernel
theorem dX5_endOfRun_5 : decode cX5_endOfRun 5 = .ok (.iload_n 3, 1) := by decide +kernel
theorem dX5_endOfRun_6 : decode cX5_endOfRun 6 = .ok (.aload_n 0, 1) := by decide +kernel
theorem dX5_endOfRun_7 : decode cX5_endOfRun 7 = .ok (.getfield 19, 3) := by decide +kernel
theorem dX5_endOfRun_10 : decode cX5_endOfRun 10 = .ok (.if_icmp .ge 27, 3) := by decide +kernel
theorem dX5_endOfRun_13 : decode cX5_endOfRun 13 = .ok (.aload_n 0, 1) := by decide +kernel
theorem dX5_endOfRun_14 : decode cX5_endOfRun 14 = .ok (.iload_n 3, 1) := by decide +kernel
theorem dX5_endOfRun_15 : decode cX5_endOfRun 15 = .ok (.invokevirtual 105, 3) := by decide +kernel
theorem dX5_endOfRun_18 : decode cX5_endOfRun 18 = .ok (.iload_n 1, 1) := by decide +kernel
theorem dX5_endOfRun_19 : decode cX5_endOfRun 19 = .ok (.if_icmp .lt 18, 3) := by decide +kernel
theorem dX5_endOfRun_22 : decode cX5_endOfRun 22 = .ok (.aload_n 0, 1) := by decide +kernel
theorem dX5_endOfRun_23 : decode cX5_endOfRun 23 = .ok (.iload_n 3, 1) := by decide +kernel
theorem dX5_endOfRun_24 : decode cX5_endOfRun 24 = .ok (.invokevirtual 105, 3) := by decide +kernel
theorem dX5_endOfRun_27 : decode cX5_endOfRun 27 = .ok (.iload_n 2, 1) := by decide +kernel
theorem dX5_endOfRun_28 : decode cX5_endOfRun 28 = .ok (.if_icmp .gt 9, 3) := by decide +kernel
theorem dX5_endOfRun_31 : decode cX5_endOfRun 31 = .ok (.iinc 3 1, 3) := by decide +kernel
theorem dX5_endOfRun_34 : decode cX5_endOfRun 34 = .ok (.goto (-29), 3) := by decide +kernel
theorem dX5_endOfRun_37 : decode cX5_endOfRun 37 = .ok (.iload_n 3, 1) := by decide +kernel
theorem dX5_endOfRun_38 : decode cX5_endOfRun 38 = .ok (.ireturn, 1) := by decide +kernel
theorem dX5_skipBlanks_0 : decode cX5_skipBlanks 0 = .ok (.aload_n 0, 1) := by decide +kernel
theorem dX5_skipBlanks_1 : decode cX5_skipBlanks 1 = .ok (.getfield 30, 3) := by decide +kernel
theorem dX5_skipBlanks_4 : decode cX5_skipBlanks 4 = .ok (.aload_n 0, 1) := by decide +kernel
theorem dX5_skipBlanks_5 : decode cX5_skipBlanks 5 = .ok (.getfield 19, 3) := by decide +kernel
theorem dX5_skipBlanks_8 : decode cX5_skipBlanks 8 = .ok (.if_icmp .ge 29, 3) := by decide +kernel
theorem dX5_skipBlanks_11 : decode cX5_skipBlanks 11 = .ok (.aload_n 0, 1) := by decide +kernel
theorem dX5_skipBlanks_12 : decode cX5_skipBlanks 12 = .ok (.aload_n 0, 1) := by decide +kernel
theorem dX5_skipBlanks_13 : decode cX5_skipBlanks 13 = .ok (.getfield 30, 3) := by decide +kernel
theorem dX5_skipBlanks_16 : decode cX5_skipBlanks 16 = .ok (.invokevirtual 105, 3) := by decide +kernel
theorem dX5_skipBlanks_19 : decode cX5_skipBlanks 19 = .ok (.bipush 32, 2) := by decide +kernel
theorem dX5_skipBlanks_21 : decode cX5_skipBlanks 21 = .ok (.if_icmp .ne 16, 3) := by decide +kernel
theorem dX5_skipBlanks_24 : decode cX5_skipBlanks 24 = .ok (.aload_n 0, 1) := by decide +kernel
theorem dX5_skipBlanks_25 : decode cX5_skipBlanks 25 = .ok (.dup, 1) := by decide +kernel
theorem dX5_skipBlanks_26 : decode cX5_skipBlanks 26 = .ok (.getfield 30, 3) := by decide +kernel
theorem dX5_skipBlanks_29 : decode cX5_skipBlanks 29 = .ok (.iconst 1, 1) := by decide +kernel
theorem dX5_skipBlanks_30 : decode cX5_skipBlanks 30 = .ok (.iadd, 1) := by decide +kernel
theorem dX5_skipBlanks_31 : decode cX5_skipBlanks 31 = .ok (.putfield 30, 3) := by decide +kernel
theorem dX5_skipBlanks_34 : decode cX5_skipBlanks 34 = .ok (.goto (-34), 3) := by decide +kernel
theorem dX5_skipBlanks_37 : decode cX5_skipBlanks 37 = .ok (.return_, 1) := by decide +kernel
theorem dX5_sign_0 : decode cX5_sign 0 = .ok (.aload_n 0, 1) := by decide +kernel
theorem dX5_sign_1 : decode cX5_sign 1 = .ok (.aload_n 0, 1) := by decide +kernel
theorem dX5_sign_2 : decode cX5_sign 2 = .ok (.getfield 30, 3) := by decide +kernel
theorem dX5_sign_5 : decode cX5_sign 5 = .ok (.invokevirtual 105, 3) := by decide +kernel
theorem dX5_sign_8 : decode cX5_sign 8 = .ok (.ireturn, 1) := by decide +kernel
theorem dX5_signAt_0 : decode cX5_signAt 0 = .ok (.iload_n 1, 1) := by decide +kernel
theorem dX5_signAt_1 : decode cX5_signAt 1 = .ok (.ifCond .lt 31, 3) := by decide +kernel
theorem dX5_signAt_4 : decode cX5_signAt 4 = .ok (.iload_n 1, 1) := by decide +kernel
theorem dX5_signAt_5 : decode cX5_signAt 5 = .ok (.aload_n 0, 1) := by decide +kernel
theorem dX5_signAt_6 : decode cX5_signAt 6 = .ok (.getfield 19, 3) := by decide +kernel
theorem dX5_signAt_9 : decode cX5_signAt 9 = .ok (.if_icmp .ge 23, 3) := by decide +kernel
theorem dX5_signAt_12 : decode cX5_signAt 12 = .ok (.iload_n 1, 1) := by decide +kernel
theorem dX5_signAt_13 : decode cX5_signAt 13 = .ok (.sipush 500, 3) := by decide +kernel
theorem dX5_signAt_16 : decode cX5_signAt 16 = .ok (.if_icmp .ge 16, 3) := by decide +kernel
theorem dX5_signAt_19 : decode cX5_signAt 19 = .ok (.aload_n 0, 1) := by decide +kernel
theorem dX5_signAt_20 : decode cX5_signAt 20 = .ok (.getfield 9, 3) := by decide +kernel
theorem dX5_signAt_23 : decode cX5_signAt 23 = .ok (.iload_n 1, 1) := by decide +kernel
theorem dX5_signAt_24 : decode cX5_signAt 24 = .ok (.baload, 1) := by decide +kernel
theorem dX5_signAt_25 : decode cX5_signAt 25 = .ok (.sipush 255, 3) := by decide +kernel
theorem dX5_signAt_28 : decode cX5_signAt 28 = .ok (.iand, 1) := by decide +kernel
theorem dX5_signAt_29 : decode cX5_signAt 29 = .ok (.goto 4, 3) := by decide +kernel
theorem dX5_signAt_32 : decode cX5_signAt 32 = .ok (.iconst (-1), 1) := by decide +kernel
theorem dX5_signAt_33 : decode cX5_signAt 33 = .ok (.ireturn, 1) := by decide +kernel
theorem dX5_fail_0 : decode cX5_fail 0 = .ok (.aload_n 0, 1) := by decide +kernel
theorem dX5_fail_1 : decode cX5_fail 1 = .ok (.getfield 27, 3) := by decide +kernel
theorem dX5_fail_4 : decode cX5_fail 4 = .ok (.ifCond .ne 13, 3) := by decide +kernel
theorem dX5_fail_7 : decode cX5_fail 7 = .ok (.aload_n 0, 1) := by decide +kernel
theorem dX5_fail_8 : decode cX5_fail 8 = .ok (.iload_n 1, 1) := by decide +kernel
theorem dX5_fail_9 : decode cX5_fail 9 = .ok (.putfield 27, 3) := by decide +kernel
theorem dX5_fail_12 : decode cX5_fail 12 = .ok (.aload_n 0, 1) := by decide +kernel
theorem dX5_fail_13 : decode cX5_fail 13 = .ok (.iload_n 2, 1) := by decide +kernel
theorem dX5_fail_14 : decode cX5_fail 14 = .ok (.putfield 15, 3) := by decide +kernel
theorem dX5_fail_17 : decode cX5_fail 17 = .ok (.return_, 1) := by decide +kernel
theorem dX6_init_0 : decode cX6_init 0 = .ok (.aload_n 0, 1) := by decide +kernel
theorem dX6_init_1 : decode cX6_init 1 = .ok (.invokespecial 3, 3) := by decide +kernel
theorem dX6_init_4 : decode cX6_init 4 = .ok (.return_, 1) := by decide +kernel
theorem dX6_begin_0 : decode cX6_begin 0 = .ok (.aload_n 0, 1) := by decide +kernel
theorem dX6_begin_1 : decode cX6_begin 1 = .ok (.iload_n 1, 1) := by decide +kernel
theorem dX6_begin_2 : decode cX6_begin 2 = .ok (.putfield 9, 3) := by decide +kernel
theorem dX6_begin_5 : decode cX6_begin 5 = .ok (.aload_n 0, 1) := by decide +kernel
theorem dX6_begin_6 : decode cX6_begin 6 = .ok (.iload_n 2, 1) := by decide +kernel
theorem dX6_begin_7 : decode cX6_begin 7 = .ok (.putfield 15, 3) := by decide +kernel
theorem dX6_begin_10 : decode cX6_begin 10 = .ok (.aload_n 0, 1) := by decide +kernel
theorem dX6_begin_11 : decode cX6_begin 11 = .ok (.iload_n 3, 1) := by decide +kernel
theorem dX6_begin_12 : decode cX6_begin 12 = .ok (.putfield 18, 3) := by decide +kernel
theorem dX6_begin_15 : decode cX6_begin 15 = .ok (.aload_n 0, 1) := by decide +kernel
theorem dX6_begin_16 : decode cX6_begin 16 = .ok (.iload 4, 2) := by decide +kernel
theorem dX6_begin_18 : decode cX6_begin 18 = .ok (.putfield 21, 3) := by decide +kernel
theorem dX6_begin_21 : decode cX6_begin 21 = .ok (.return_, 1) := by decide +kernel
theorem dX6_play_0 : decode cX6_play 0 = .ok (.aload_n 0, 1) := by decide +kernel
theorem dX6_play_1 : decode cX6_play 1 = .ok (.iconst (-1), 1) := by decide +kernel
theorem dX6_play_2 : decode cX6_play 2 = .ok (.putfield 24, 3) := by decide +kernel
theorem dX6_play_5 : decode cX6_play 5 = .ok (.aload_n 0, 1) := by decide +kernel
theorem dX6_play_6 : decode cX6_play 6 = .ok (.getfield 18, 3) := by decide +kernel
theorem dX6_play_9 : decode cX6_play 9 = .ok (.ifCond .gt 15, 3) := by decide +kernel
theorem dX6_play_12 : decode cX6_play 12 = .ok (.aload_n 0, 1) := by decide +kernel
theorem dX6_play_13 : decode cX6_play 13 = .ok (.aload_n 0, 1) := by decide +kernel
theorem dX6_play_14 : decode cX6_play 14 = .ok (.aload_n 1, 1) := by decide +kernel
theorem dX6_play_15 : decode cX6_play 15 = .ok (.iload_n 2, 1) := by decide +kernel
theorem dX6_play_16 : decode cX6_play 16 = .ok (.iconst 0, 1) := by decide +kernel
theorem dX6_play_17 : decode cX6_play 17 = .ok (.invokevirtual 27, 3) := by decide +kernel
theorem dX6_play_20 : decode cX6_play 20 = .ok (.putfield 31, 3) := by decide +kernel
theorem dX6_play_23 : decode cX6_play 23 = .ok (.return_, 1) := by decide +kernel
theorem dX6_play_24 : decode cX6_play 24 = .ok (.aload_n 0, 1) := by decide +kernel
theorem dX6_play_25 : decode cX6_play 25 = .ok (.aload_n 0, 1) := by decide +kernel
theorem dX6_play_26 : decode cX6_play 26 = .ok (.aload_n 1, 1) := by decide +kernel
theorem dX6_play_27 : decode cX6_play 27 = .ok (.iload_n 2, 1) := by decide +kernel
theorem dX6_play_28 : decode cX6_play 28 = .ok (.iconst 1, 1) := by decide +kernel
theorem dX6_play_29 : decode cX6_play 29 = .ok (.bipush (-3), 2) := by decide +kernel
theorem dX6_play_31 : decode cX6_play 31 = .ok (.iconst 3, 1) := by decide +kernel
theorem dX6_play_32 : decode cX6_play 32 = .ok (.invokestatic 34, 3) := by decide +kernel
theorem dX6_play_35 : decode cX6_play 35 = .ok (.ineg, 1) := by decide +kernel
theorem dX6_play_36 : decode cX6_play 36 = .ok (.putfield 31, 3) := by decide +kernel
theorem dX6_play_39 : decode cX6_play 39 = .ok (.aload_n 1, 1) := by decide +kernel
theorem dX6_play_40 : decode cX6_play 40 = .ok (.aload_n 0, 1) := by decide +kernel
theorem dX6_play_41 : decode cX6_play 41 = .ok (.getfield 9, 3) := by decide +kernel
theorem dX6_play_44 : decode cX6_play 44 = .ok (.iload_n 2, 1) := by decide +kernel
theorem dX6_play_45 : decode cX6_play 45 = .ok (.aload_n 0, 1) := by decide +kernel
theorem dX6_play_46 : decode cX6_play 46 = .ok (.getfield 21, 3) := by decide +kernel
theorem dX6_play_49 : decode cX6_play 49 = .ok (.invokevirtual 38, 3) := by decide +kernel
theorem dX6_play_52 : decode cX6_play 52 = .ok (.istore_n 3, 1) := by decide +kernel
theorem dX6_play_53 : decode cX6_play 53 = .ok (.iconst 0, 1) := by decide +kernel
theorem dX6_play_54 : decode cX6_play 54 = .ok (.istore 4, 2) := by decide +kernel
theorem dX6_play_56 : decode cX6_play 56 = .ok (.iload 4, 2) := by decide +kernel
theorem dX6_play_58 : decode cX6_play 58 = .ok (.bipush 12, 2) := by decide +kernel
theorem dX6_play_60 : decode cX6_play 60 = .ok (.if_icmp .ge 71, 3) := by decide +kernel
theorem dX6_play_63 : decode cX6_play 63 = .ok (.aload_n 0, 1) := by decide +kernel
theorem dX6_play_64 : decode cX6_play 64 = .ok (.getfield 31, 3) := by decide +kernel
theorem dX6_play_67 : decode cX6_play 67 = .ok (.iconst 3, 1) := by decide +kernel
theorem dX6_play_68 : decode cX6_play 68 = .ok (.if_icmp .ge 63, 3) := by decide +kernel
theorem dX6_play_71 : decode cX6_play 71 = .ok (.iload_n 3, 1) := by decide +kernel
theorem dX6_play_72 : decode cX6_play 72 = .ok (.iload 4, 2) := by decide +kernel
theorem dX6_play_74 : decode cX6_play 74 = .ok (.invokestatic 44, 3) := by decide +kernel
theorem dX6_play_77 : decode cX6_play 77 = .ok (.ifCond .eq 48, 3) := by decide +kernel
theorem dX6_play_80 : decode cX6_play 80 = .ok (.aload_n 0, 1) := by decide +kernel
theorem dX6_play_81 : decode cX6_play 81 = .ok (.aload_n 1, 1) := by decide +kernel
theorem dX6_play_82 : decode cX6_play 82 = .ok (.iload_n 2, 1) := by decide +kernel
theorem dX6_play_83 : decode cX6_play 83 = .ok (.iconst 1, 1) := by decide +kernel
theorem dX6_play_84 : decode cX6_play 84 = .ok (.iload 4, 2) := by decide +kernel
theorem dX6_play_86 : decode cX6_play 86 = .ok (.ishl, 1) := by decide +kernel
theorem dX6_play_87 : decode cX6_play 87 = .ok (.iconst (-1), 1) := by decide +kernel
theorem dX6_play_88 : decode cX6_play 88 = .ok (.ixor, 1) := by decide +kernel
theorem dX6_play_89 : decode cX6_play 89 = .ok (.iand, 1) := by decide +kernel
theorem dX6_play_90 : decode cX6_play 90 = .ok (.iconst 1, 1) := by decide +kernel
theorem dX6_play_91 : decode cX6_play 91 = .ok (.bipush (-3), 2) := by decide +kernel
theorem dX6_play_93 : decode cX6_play 93 = .ok (.aload_n 0, 1) := by decide +kernel
theorem dX6_play_94 : decode cX6_play 94 = .ok (.getfield 31, 3) := by decide +kernel
theorem dX6_play_97 : decode cX6_play 97 = .ok (.ineg, 1) := by decide +kernel
theorem dX6_play_98 : decode cX6_play 98 = .ok (.invokestatic 34, 3) := by decide +kernel
theorem dX6_play_101 : decode cX6_play 101 = .ok (.ineg, 1) := by decide +kernel
theorem dX6_play_102 : decode cX6_play 102 = .ok (.istore 5, 2) := by decide +kernel
theorem dX6_play_104 : decode cX6_play 104 = .ok (.iload 5, 2) := by decide +kernel
theorem dX6_play_106 : decode cX6_play 106 = .ok (.aload_n 0, 1) := by decide +kernel
theorem dX6_play_107 : decode cX6_play 107 = .ok (.getfield 31, 3) := by decide +kernel
theorem dX6_play_110 : decode cX6_play 110 = .ok (.if_icmp .le 15, 3) := by decide +kernel
theorem dX6_play_113 : decode cX6_play 113 = .ok (.aload_n 0, 1) := by decide +kernel
theorem dX6_play_114 : decode cX6_play 114 = .ok (.iload 5, 2) := by decide +kernel
theorem dX6_play_116 : decode cX6_play 116 = .ok (.putfield 31, 3) := by decide +kernel
theorem dX6_play_119 : decode cX6_play 119 = .ok (.aload_n 0, 1) := by decide +kernel
theorem dX6_play_120 : decode cX6_play 120 = .ok (.iload 4, 2) := by decide +kernel
theorem dX6_play_122 : decode cX6_play 122 = .ok (.putfield 24, 3) := by decide +kernel
theorem dX6_play_125 : decode cX6_play 125 = .ok (.iinc 4 1, 3) := by decide +kernel
theorem dX6_play_128 : decode cX6_play 128 = .ok (.goto (-72), 3) := by decide +kernel
theorem dX6_play_131 : decode cX6_play 131 = .ok (.return_, 1) := by decide +kernel
theorem dX6_worthFrom_0 : decode cX6_worthFrom 0 = .ok (.iload_n 3, 1) := by decide +kernel
theorem dX6_worthFrom_1 : decode cX6_worthFrom 1 = .ok (.aload_n 0, 1) := by decide +kernel
theorem dX6_worthFrom_2 : decode cX6_worthFrom 2 = .ok (.getfield 18, 3) := by decide +kernel
theorem dX6_worthFrom_5 : decode cX6_worthFrom 5 = .ok (.if_icmp .ge 8, 3) := by decide +kernel
theorem dX6_worthFrom_8 : decode cX6_worthFrom 8 = .ok (.iload_n 3, 1) := by decide +kernel
theorem dX6_worthFrom_9 : decode cX6_worthFrom 9 = .ok (.iconst 4, 1) := by decide +kernel
theorem dX6_worthFrom_10 : decode cX6_worthFrom 10 = .ok (.if_icmp .lt 11, 3) := by decide +kernel
theorem dX6_worthFrom_13 : decode cX6_worthFrom 13 = .ok (.aload_n 0, 1) := by decide +kernel
theorem dX6_worthFrom_14 : decode cX6_worthFrom 14 = .ok (.aload_n 1, 1) := by decide +kernel
theorem dX6_worthFrom_15 : decode cX6_worthFrom 15 = .ok (.iload_n 2, 1) := by decide +kernel
theorem dX6_worthFrom_16 : decode cX6_worthFrom 16 = .ok (.iload_n 3, 1) := by decide +kernel
theorem dX6_worthFrom_17 : decode cX6_worthFrom 17 = .ok (.invokevirtual 27, 3) := by decide +kernel
theorem dX6_worthFrom_20 : decode cX6_worthFrom 20 = .ok (.ireturn, 1) := by decide +kernel
theorem dX6_worthFrom_21 : decode cX6_worthFrom 21 = .ok (.aload_n 0, 1) := by decide +kernel
theorem dX6_worthFrom_22 : decode cX6_worthFrom 22 = .ok (.aload_n 1, 1) := by decide +kernel
theorem dX6_worthFrom_23 : decode cX6_worthFrom 23 = .ok (.iload_n 2, 1) := by decide +kernel
theorem dX6_worthFrom_24 : decode cX6_worthFrom 24 = .ok (.iload_n 3, 1) := by decide +kernel
theorem dX6_worthFrom_25 : decode cX6_worthFrom 25 = .ok (.iconst 1, 1) := by decide +kernel
theorem dX6_worthFrom_26 : decode cX6_worthFrom 26 = .ok (.iadd, 1) := by decide +kernel
theorem dX6_worthFrom_27 : decode cX6_worthFrom 27 = .ok (.iload 5, 2) := by decide +kernel
theorem dX6_worthFrom_29 : decode cX6_worthFrom 29 = .ok (.ineg, 1) := by decide +kernel
theorem dX6_worthFrom_30 : decode cX6_worthFrom 30 = .ok (.iload 4, 2) := by decide +kernel
theorem dX6_worthFrom_32 : decode cX6_worthFrom 32 = .ok (.ineg, 1) := by decide +kernel
theorem dX6_worthFrom_33 : decode cX6_worthFrom 33 = .ok (.invokestatic 34, 3) := by decide +kernel
theorem dX6_worthFrom_36 : decode cX6_worthFrom 36 = .ok (.ineg, 1) := by decide +kernel
theorem dX6_worthFrom_37 : decode cX6_worthFrom 37 = .ok (.istore 6, 2) := by decide +kernel
theorem dX6_worthFrom_39 : decode cX6_worthFrom 39 = .ok (.aload_n 1, 1) := by decide +kernel
theorem dX6_worthFrom_40 : decode cX6_worthFrom 40 = .ok (.aload_n 0, 1) := by decide +kernel
theorem dX6_worthFrom_41 : decode cX6_worthFrom 41 = .ok (.iload_n 3, 1) := by decide +kernel
theorem dX6_worthFrom_42 : decode cX6_worthFrom 42 = .ok (.invokevirtual 48, 3) := by decide +kernel
theorem dX6_worthFrom_45 : decode cX6_worthFrom 45 = .ok (.iload_n 2, 1) := by decide +kernel
theorem dX6_worthFrom_46 : decode cX6_worthFrom 46 = .ok (.aload_n 0, 1) := by decide +kernel
theorem dX6_worthFrom_47 : decode cX6_worthFrom 47 = .ok (.getfield 21, 3) := by decide +kernel
theorem dX6_worthFrom_50 : decode cX6_worthFrom 50 = .ok (.invokevirtual 38, 3) := by decide +kernel
theorem dX6_worthFrom_53 : decode cX6_worthFrom 53 = .ok (.istore 7, 2) := by decide +kernel
theorem dX6_worthFrom_55 : decode cX6_worthFrom 55 = .ok (.iconst 0, 1) := by decide +kernel
theorem dX6_worthFrom_56 : decode cX6_worthFrom 56 = .ok (.istore 8, 2) := by decide +kernel
theorem dX6_worthFrom_58 : decode cX6_worthFrom 58 = .ok (.iload 8, 2) := by decide +kernel
theorem dX6_worthFrom_60 : decode cX6_worthFrom 60 = .ok (.bipush 12, 2) := by decide +kernel
theorem dX6_worthFrom_62 : decode cX6_worthFrom 62 = .ok (.if_icmp .ge 65, 3) := by decide +kernel
theorem dX6_worthFrom_65 : decode cX6_worthFrom 65 = .ok (.iload 6, 2) := by decide +kernel
theorem dX6_worthFrom_67 : decode cX6_worthFrom 67 = .ok (.iload 5, 2) := by decide +kernel
theorem dX6_worthFrom_69 : decode cX6_worthFrom 69 = .ok (.if_icmp .ge 58, 3) := by decide +kernel
theorem dX6_worthFrom_72 : decode cX6_worthFrom 72 = .ok (.iload 7, 2) := by decide +kernel
theorem dX6_worthFrom_74 : decode cX6_worthFrom 74 = .ok (.iload 8, 2) := by decide +kernel
theorem dX6_worthFrom_76 : decode cX6_worthFrom 76 = .ok (.invokestatic 44, 3) := by decide +kernel
theorem dX6_worthFrom_79 : decode cX6_worthFrom 79 = .ok (.ifCond .eq 42, 3) := by decide +kernel
theorem dX6_worthFrom_82 : decode cX6_worthFrom 82 = .ok (.aload_n 0, 1) := by decide +kernel
theorem dX6_worthFrom_83 : decode cX6_worthFrom 83 = .ok (.aload_n 1, 1) := by decide +kernel
theorem dX6_worthFrom_84 : decode cX6_worthFrom 84 = .ok (.iload_n 2, 1) := by decide +kernel
theorem dX6_worthFrom_85 : decode cX6_worthFrom 85 = .ok (.iconst 1, 1) := by decide +kernel
theorem dX6_worthFrom_86 : decode cX6_worthFrom 86 = .ok (.iload 8, 2) := by decide +kernel
theorem dX6_worthFrom_88 : decode cX6_worthFrom 88 = .ok (.ishl, 1) := by decide +kernel
theorem dX6_worthFrom_89 : decode cX6_worthFrom 89 = .ok (.iconst (-1), 1) := by decide +kernel
theorem dX6_worthFrom_90 : decode cX6_worthFrom 90 = .ok (.ixor, 1) := by decide +kernel
theorem dX6_worthFrom_91 : decode cX6_worthFrom 91 = .ok (.iand, 1) := by decide +kernel
theorem dX6_worthFrom_92 : decode cX6_worthFrom 92 = .ok (.iload_n 3, 1) := by decide +kernel
theorem dX6_worthFrom_93 : decode cX6_worthFrom 93 = .ok (.iconst 1, 1) := by decide +kernel
theorem dX6_worthFrom_94 : decode cX6_worthFrom 94 = .ok (.iadd, 1) := by decide +kernel
theorem dX6_worthFrom_95 : decode cX6_worthFrom 95 = .ok (.iload 5, 2) := by decide +kernel
theorem dX6_worthFrom_97 : decode cX6_worthFrom 97 = .ok (.ineg, 1) := by decide +kernel
theorem dX6_worthFrom_98 : decode cX6_worthFrom 98 = .ok (.iload 4, 2) := by decide +kernel
theorem dX6_worthFrom_100 : decode cX6_worthFrom 100 = .ok (.iload 6, 2) := by decide +kernel
theorem dX6_worthFrom_102 : decode cX6_worthFrom 102 = .ok (.invokestatic 52, 3) := by decide +kernel
theorem dX6_worthFrom_105 : decode cX6_worthFrom 105 = .ok (.ineg, 1) := by decide +kernel
theorem dX6_worthFrom_106 : decode cX6_worthFrom 106 = .ok (.invokestatic 34, 3) := by decide +kernel
theorem dX6_worthFrom_109 : decode cX6_worthFrom 109 = .ok (.ineg, 1) := by decide +kernel
theorem dX6_worthFrom_110 : decode cX6_worthFrom 110 = .ok (.istore 9, 2) := by decide +kernel
theorem dX6_worthFrom_112 : decode cX6_worthFrom 112 = .ok (.iload 6, 2) := by decide +kernel
theorem dX6_worthFrom_114 : decode cX6_worthFrom 114 = .ok (.iload 9, 2) := by decide +kernel
theorem dX6_worthFrom_116 : decode cX6_worthFrom 116 = .ok (.invokestatic 52, 3) := by decide +kernel
theorem dX6_worthFrom_119 : decode cX6_worthFrom 119 = .ok (.istore 6, 2) := by decide +kernel
theorem dX6_worthFrom_121 : decode cX6_worthFrom 121 = .ok (.iinc 8 1, 3) := by decide +kernel
theorem dX6_worthFrom_124 : decode cX6_worthFrom 124 = .ok (.goto (-66), 3) := by decide +kernel
theorem dX6_worthFrom_127 : decode cX6_worthFrom 127 = .ok (.iload 6, 2) := by decide +kernel
theorem dX6_worthFrom_129 : decode cX6_worthFrom 129 = .ok (.ireturn, 1) := by decide +kernel
theorem dX6_mover_0 : decode cX6_mover 0 = .ok (.iload_n 1, 1) := by decide +kernel
theorem dX6_mover_1 : decode cX6_mover 1 = .ok (.iconst 2, 1) := by decide +kernel
theorem dX6_mover_2 : decode cX6_mover 2 = .ok (.irem, 1) := by decide +kernel
theorem dX6_mover_3 : decode cX6_mover 3 = .ok (.ifCond .ne 10, 3) := by decide +kernel
theorem dX6_mover_6 : decode cX6_mover 6 = .ok (.aload_n 0, 1) := by decide +kernel
theorem dX6_mover_7 : decode cX6_mover 7 = .ok (.getfield 9, 3) := by decide +kernel
theorem dX6_mover_10 : decode cX6_mover 10 = .ok (.goto 7, 3) := by decide +kernel
theorem dX6_mover_13 : decode cX6_mover 13 = .ok (.aload_n 0, 1) := by decide +kernel
theorem dX6_mover_14 : decode cX6_mover 14 = .ok (.getfield 15, 3) := by decide +kernel
theorem dX6_mover_17 : decode cX6_mover 17 = .ok (.ireturn, 1) := by decide +kernel
theorem dX6_worthAtEnd_0 : decode cX6_worthAtEnd 0 = .ok (.aload_n 1, 1) := by decide +kernel
theorem dX6_worthAtEnd_1 : decode cX6_worthAtEnd 1 = .ok (.iload_n 2, 1) := by decide +kernel
theorem dX6_worthAtEnd_2 : decode cX6_worthAtEnd 2 = .ok (.invokevirtual 58, 3) := by decide +kernel
theorem dX6_worthAtEnd_5 : decode cX6_worthAtEnd 5 = .ok (.istore 4, 2) := by decide +kernel
theorem dX6_worthAtEnd_7 : decode cX6_worthAtEnd 7 = .ok (.iload 4, 2) := by decide +kernel
theorem dX6_worthAtEnd_9 : decode cX6_worthAtEnd 9 = .ok (.aload_n 0, 1) := by decide +kernel
theorem dX6_worthAtEnd_10 : decode cX6_worthAtEnd 10 = .ok (.iload_n 3, 1) := by decide +kernel
theorem dX6_worthAtEnd_11 : decode cX6_worthAtEnd 11 = .ok (.invokevirtual 48, 3) := by decide +kernel
theorem dX6_worthAtEnd_14 : decode cX6_worthAtEnd 14 = .ok (.invokestatic 44, 3) := by decide +kernel
theorem dX6_worthAtEnd_17 : decode cX6_worthAtEnd 17 = .ok (.ifCond .eq 7, 3) := by decide +kernel
theorem dX6_worthAtEnd_20 : decode cX6_worthAtEnd 20 = .ok (.iconst 1, 1) := by decide +kernel
theorem dX6_worthAtEnd_21 : decode cX6_worthAtEnd 21 = .ok (.goto 4, 3) := by decide +kernel
theorem dX6_worthAtEnd_24 : decode cX6_worthAtEnd 24 = .ok (.iconst 0, 1) := by decide +kernel
theorem dX6_worthAtEnd_25 : decode cX6_worthAtEnd 25 = .ok (.istore 5, 2) := by decide +kernel
theorem dX6_worthAtEnd_27 : decode cX6_worthAtEnd 27 = .ok (.iload 4, 2) := by decide +kernel
theorem dX6_worthAtEnd_29 : decode cX6_worthAtEnd 29 = .ok (.aload_n 0, 1) := by decide +kernel
theorem dX6_worthAtEnd_30 : decode cX6_worthAtEnd 30 = .ok (.iload_n 3, 1) := by decide +kernel
theorem dX6_worthAtEnd_31 : decode cX6_worthAtEnd 31 = .ok (.iconst 1, 1) := by decide +kernel
theorem dX6_worthAtEnd_32 : decode cX6_worthAtEnd 32 = .ok (.iadd, 1) := by decide +kernel
theorem dX6_worthAtEnd_33 : decode cX6_worthAtEnd 33 = .ok (.invokevirtual 48, 3) := by decide +kernel
theorem dX6_worthAtEnd_36 : decode cX6_worthAtEnd 36 = .ok (.invokestatic 44, 3) := by decide +kernel
theorem dX6_worthAtEnd_39 : decode cX6_worthAtEnd 39 = .ok (.ifCond .eq 7, 3) := by decide +kernel
theorem dX6_worthAtEnd_42 : decode cX6_worthAtEnd 42 = .ok (.iconst 1, 1) := by decide +kernel
theorem dX6_worthAtEnd_43 : decode cX6_worthAtEnd 43 = .ok (.goto 4, 3) := by decide +kernel
theorem dX6_worthAtEnd_46 : decode cX6_worthAtEnd 46 = .ok (.iconst 0, 1) := by decide +kernel
theorem dX6_worthAtEnd_47 : decode cX6_worthAtEnd 47 = .ok (.istore 6, 2) := by decide +kernel
theorem dX6_worthAtEnd_49 : decode cX6_worthAtEnd 49 = .ok (.iconst 2, 1) := by decide +kernel
theorem dX6_worthAtEnd_50 : decode cX6_worthAtEnd 50 = .ok (.iload 5, 2) := by decide +kernel
theorem dX6_worthAtEnd_52 : decode cX6_worthAtEnd 52 = .ok (.imul, 1) := by decide +kernel
theorem dX6_worthAtEnd_53 : decode cX6_worthAtEnd 53 = .ok (.iload 6, 2) := by decide +kernel
theorem dX6_worthAtEnd_55 : decode cX6_worthAtEnd 55 = .ok (.isub, 1) := by decide +kernel
theorem dX6_worthAtEnd_56 : decode cX6_worthAtEnd 56 = .ok (.iconst 2, 1) := by decide +kernel
theorem dX6_worthAtEnd_57 : decode cX6_worthAtEnd 57 = .ok (.iload 6, 2) := by decide +kernel
theorem dX6_worthAtEnd_59 : decode cX6_worthAtEnd 59 = .ok (.imul, 1) := by decide +kernel
theorem dX6_worthAtEnd_60 : decode cX6_worthAtEnd 60 = .ok (.iload 5, 2) := by decide +kernel
theorem dX6_worthAtEnd_62 : decode cX6_worthAtEnd 62 = .ok (.isub, 1) := by decide +kernel
theorem dX6_worthAtEnd_63 : decode cX6_worthAtEnd 63 = .ok (.isub, 1) := by decide +kernel
theorem dX6_worthAtEnd_64 : decode cX6_worthAtEnd 64 = .ok (.ireturn, 1) := by decide +kernel
theorem dX7_init_0 : decode cX7_init 0 = .ok (.aload_n 0, 1) := by decide +kernel
theorem dX7_init_1 : decode cX7_init 1 = .ok (.invokespecial 3, 3) := by decide +kernel
theorem dX7_init_4 : decode cX7_init 4 = .ok (.return_, 1) := by decide +kernel
theorem dX7_begin_0 : decode cX7_begin 0 = .ok (.aload_n 0, 1) := by decide +kernel
theorem dX7_begin_1 : decode cX7_begin 1 = .ok (.iload_n 1, 1) := by decide +kernel
theorem dX7_begin_2 : decode cX7_begin 2 = .ok (.putfield 9, 3) := by decide +kernel
theorem dX7_begin_5 : decode cX7_begin 5 = .ok (.aload_n 0, 1) := by decide +kernel
theorem dX7_begin_6 : decode cX7_begin 6 = .ok (.iload_n 2, 1) := by decide +kernel
theorem dX7_begin_7 : decode cX7_begin 7 = .ok (.putfield 15, 3) := by decide +kernel
theorem dX7_begin_10 : decode cX7_begin 10 = .ok (.return_, 1) := by decide +kernel
theorem dX7_partFlying_0 : decode cX7_partFlying 0 = .ok (.lload 5, 2) := by decide +kernel
theorem dX7_partFlying_2 : decode cX7_partFlying 2 = .ok (.lconst 0, 1) := by decide +kernel
theorem dX7_partFlying_3 : decode cX7_partFlying 3 = .ok (.lcmp, 1) := by decide +kernel
theorem dX7_partFlying_4 : decode cX7_partFlying 4 = .ok (.ifCond .eq 20, 3) := by decide +kernel
theorem dX7_partFlying_7 : decode cX7_partFlying 7 = .ok (.aload_n 1, 1) := by decide +kernel
theorem dX7_partFlying_8 : decode cX7_partFlying 8 = .ok (.iload_n 2, 1) := by decide +kernel
theorem dX7_partFlying_9 : decode cX7_partFlying 9 = .ok (.iload_n 3, 1) := by decide +kernel
theorem dX7_partFlying_10 : decode cX7_partFlying 10 = .ok (.ior, 1) := by decide +kernel
theorem dX7_partFlying_11 : decode cX7_partFlying 11 = .ok (.invokevirtual 18, 3) := by decide +kernel
theorem dX7_partFlying_14 : decode cX7_partFlying 14 = .ok (.aload_n 0, 1) := by decide +kernel
theorem dX7_partFlying_15 : decode cX7_partFlying 15 = .ok (.getfield 9, 3) := by decide +kernel
theorem dX7_partFlying_18 : decode cX7_partFlying 18 = .ok (.invokestatic 24, 3) := by decide +kernel
theorem dX7_partFlying_21 : decode cX7_partFlying 21 = .ok (.ifCond .ne 5, 3) := by decide +kernel
theorem dX7_partFlying_24 : decode cX7_partFlying 24 = .ok (.lconst 0, 1) := by decide +kernel
theorem dX7_partFlying_25 : decode cX7_partFlying 25 = .ok (.lreturn, 1) := by decide +kernel
theorem dX7_partFlying_26 : decode cX7_partFlying 26 = .ok (.iload 4, 2) := by decide +kernel
theorem dX7_partFlying_28 : decode cX7_partFlying 28 = .ok (.bipush 12, 2) := by decide +kernel
theorem dX7_partFlying_30 : decode cX7_partFlying 30 = .ok (.if_icmp .ge 18, 3) := by decide +kernel
theorem dX7_partFlying_33 : decode cX7_partFlying 33 = .ok (.aload_n 1, 1) := by decide +kernel
theorem dX7_partFlying_34 : decode cX7_partFlying 34 = .ok (.iload_n 2, 1) := by decide +kernel
theorem dX7_partFlying_35 : decode cX7_partFlying 35 = .ok (.invokevirtual 18, 3) := by decide +kernel
theorem dX7_partFlying_38 : decode cX7_partFlying 38 = .ok (.aload_n 0, 1) := by decide +kernel
theorem dX7_partFlying_39 : decode cX7_partFlying 39 = .ok (.getfield 9, 3) := by decide +kernel
theorem dX7_partFlying_42 : decode cX7_partFlying 42 = .ok (.invokestatic 24, 3) := by decide +kernel
theorem dX7_partFlying_45 : decode cX7_partFlying 45 = .ok (.ifCond .eq 6, 3) := by decide +kernel
theorem dX7_partFlying_48 : decode cX7_partFlying 48 = .ok (.lload 5, 2) := by decide +kernel
theorem dX7_partFlying_50 : decode cX7_partFlying 50 = .ok (.lreturn, 1) := by decide +kernel
theorem dX7_partFlying_51 : decode cX7_partFlying 51 = .ok (.iconst 1, 1) := by decide +kernel
theorem dX7_partFlying_52 : decode cX7_partFlying 52 = .ok (.iload 4, 2) := by decide +kernel
theorem dX7_partFlying_54 : decode cX7_partFlying 54 = .ok (.ishl, 1) := by decide +kernel
theorem dX7_partFlying_55 : decode cX7_partFlying 55 = .ok (.istore 7, 2) := by decide +kernel
theorem dX7_partFlying_57 : decode cX7_partFlying 57 = .ok (.iload_n 3, 1) := by decide +kernel
theorem dX7_partFlying_58 : decode cX7_partFlying 58 = .ok (.iload 7, 2) := by decide +kernel
theorem dX7_partFlying_60 : decode cX7_partFlying 60 = .ok (.iand, 1) := by decide +kernel
theorem dX7_partFlying_61 : decode cX7_partFlying 61 = .ok (.ifCond .ne 17, 3) := by decide +kernel
theorem dX7_partFlying_64 : decode cX7_partFlying 64 = .ok (.aload_n 0, 1) := by decide +kernel
theorem dX7_partFlying_65 : decode cX7_partFlying 65 = .ok (.aload_n 1, 1) := by decide +kernel
theorem dX7_partFlying_66 : decode cX7_partFlying 66 = .ok (.iload_n 2, 1) := by decide +kernel
theorem dX7_partFlying_67 : decode cX7_partFlying 67 = .ok (.iload_n 3, 1) := by decide +kernel
theorem dX7_partFlying_68 : decode cX7_partFlying 68 = .ok (.iload 4, 2) := by decide +kernel
theorem dX7_partFlying_70 : decode cX7_partFlying 70 = .ok (.iconst 1, 1) := by decide +kernel
theorem dX7_partFlying_71 : decode cX7_partFlying 71 = .ok (.iadd, 1) := by decide +kernel
theorem dX7_partFlying_72 : decode cX7_partFlying 72 = .ok (.lload 5, 2) := by decide +kernel
theorem dX7_partFlying_74 : decode cX7_partFlying 74 = .ok (.invokestatic 28, 3) := by decide +kernel
theorem dX7_partFlying_77 : decode cX7_partFlying 77 = .ok (.lreturn, 1) := by decide +kernel
theorem dX7_partFlying_78 : decode cX7_partFlying 78 = .ok (.lload 5, 2) := by decide +kernel
theorem dX7_partFlying_80 : decode cX7_partFlying 80 = .ok (.aload_n 0, 1) := by decide +kernel
theorem dX7_partFlying_81 : decode cX7_partFlying 81 = .ok (.getfield 15, 3) := by decide +kernel
theorem dX7_partFlying_84 : decode cX7_partFlying 84 = .ok (.i2l, 1) := by decide +kernel
theorem dX7_partFlying_85 : decode cX7_partFlying 85 = .ok (.lmul, 1) := by decide +kernel
theorem dX7_partFlying_86 : decode cX7_partFlying 86 = .ok (.ldc2_w 32, 3) := by decide +kernel
theorem dX7_partFlying_89 : decode cX7_partFlying 89 = .ok (.ldiv, 1) := by decide +kernel
theorem dX7_partFlying_90 : decode cX7_partFlying 90 = .ok (.lstore 8, 2) := by decide +kernel
theorem dX7_partFlying_92 : decode cX7_partFlying 92 = .ok (.aload_n 0, 1) := by decide +kernel
theorem dX7_partFlying_93 : decode cX7_partFlying 93 = .ok (.aload_n 1, 1) := by decide +kernel
theorem dX7_partFlying_94 : decode cX7_partFlying 94 = .ok (.iload_n 2, 1) := by decide +kernel
theorem dX7_partFlying_95 : decode cX7_partFlying 95 = .ok (.iload_n 3, 1) := by decide +kernel
theorem dX7_partFlying_96 : decode cX7_partFlying 96 = .ok (.iload 7, 2) := by decide +kernel
theorem dX7_partFlying_98 : decode cX7_partFlying 98 = .ok (.iconst (-1), 1) := by decide +kernel
theorem dX7_partFlying_99 : decode cX7_partFlying 99 = .ok (.ixor, 1) := by decide +kernel
theorem dX7_partFlying_100 : decode cX7_partFlying 100 = .ok (.iand, 1) := by decide +kernel
theorem dX7_partFlying_101 : decode cX7_partFlying 101 = .ok (.iload 4, 2) := by decide +kernel
theorem dX7_partFlying_103 : decode cX7_partFlying 103 = .ok (.iconst 1, 1) := by decide +kernel
theorem dX7_partFlying_104 : decode cX7_partFlying 104 = .ok (.iadd, 1) := by decide +kernel
theorem dX7_partFlying_105 : decode cX7_partFlying 105 = .ok (.lload 8, 2) := by decide +kernel
theorem dX7_partFlying_107 : decode cX7_partFlying 107 = .ok (.invokestatic 28, 3) := by decide +kernel
theorem dX7_partFlying_110 : decode cX7_partFlying 110 = .ok (.aload_n 0, 1) := by decide +kernel
theorem dX7_partFlying_111 : decode cX7_partFlying 111 = .ok (.aload_n 1, 1) := by decide +kernel
theorem dX7_partFlying_112 : decode cX7_partFlying 112 = .ok (.iload_n 2, 1) := by decide +kernel
theorem dX7_partFlying_113 : decode cX7_partFlying 113 = .ok (.iload 7, 2) := by decide +kernel
theorem dX7_partFlying_115 : decode cX7_partFlying 115 = .ok (.ior, 1) := by decide +kernel
theorem dX7_partFlying_116 : decode cX7_partFlying 116 = .ok (.iload_n 3, 1) := by decide +kernel
theorem dX7_partFlying_117 : decode cX7_partFlying 117 = .ok (.iload 7, 2) := by decide +kernel
theorem dX7_partFlying_119 : decode cX7_partFlying 119 = .ok (.iconst (-1), 1) := by decide +kernel
theorem dX7_partFlying_120 : decode cX7_partFlying 120 = .ok (.ixor, 1) := by decide +kernel
theorem dX7_partFlying_121 : decode cX7_partFlying 121 = .ok (.iand, 1) := by decide +kernel
theorem dX7_partFlying_122 : decode cX7_partFlying 122 = .ok (.iload 4, 2) := by decide +kernel
theorem dX7_partFlying_124 : decode cX7_partFlying 124 = .ok (.iconst 1, 1) := by decide +kernel
theorem dX7_partFlying_125 : decode cX7_partFlying 125 = .ok (.iadd, 1) := by decide +kernel
theorem dX7_partFlying_126 : decode cX7_partFlying 126 = .ok (.lload 5, 2) := by decide +kernel
theorem dX7_partFlying_128 : decode cX7_partFlying 128 = .ok (.lload 8, 2) := by decide +kernel
theorem dX7_partFlying_130 : decode cX7_partFlying 130 = .ok (.lsub, 1) := by decide +kernel
theorem dX7_partFlying_131 : decode cX7_partFlying 131 = .ok (.invokestatic 28, 3) := by decide +kernel
theorem dX7_partFlying_134 : decode cX7_partFlying 134 = .ok (.ladd, 1) := by decide +kernel
theorem dX7_partFlying_135 : decode cX7_partFlying 135 = .ok (.lreturn, 1) := by decide +kernel
theorem dX7_ofBillion_0 : decode cX7_ofBillion 0 = .ok (.aload_n 0, 1) := by decide +kernel
theorem dX7_ofBillion_1 : decode cX7_ofBillion 1 = .ok (.aload_n 1, 1) := by decide +kernel
theorem dX7_ofBillion_2 : decode cX7_ofBillion 2 = .ok (.iload_n 2, 1) := by decide +kernel
theorem dX7_ofBillion_3 : decode cX7_ofBillion 3 = .ok (.iload_n 3, 1) := by decide +kernel
theorem dX7_ofBillion_4 : decode cX7_ofBillion 4 = .ok (.iand, 1) := by decide +kernel
theorem dX7_ofBillion_5 : decode cX7_ofBillion 5 = .ok (.iload_n 2, 1) := by decide +kernel
theorem dX7_ofBillion_6 : decode cX7_ofBillion 6 = .ok (.iload_n 3, 1) := by decide +kernel
theorem dX7_ofBillion_7 : decode cX7_ofBillion 7 = .ok (.iconst (-1), 1) := by decide +kernel
theorem dX7_ofBillion_8 : decode cX7_ofBillion 8 = .ok (.ixor, 1) := by decide +kernel
theorem dX7_ofBillion_9 : decode cX7_ofBillion 9 = .ok (.iand, 1) := by decide +kernel
theorem dX7_ofBillion_10 : decode cX7_ofBillion 10 = .ok (.iconst 0, 1) := by decide +kernel
theorem dX7_ofBillion_11 : decode cX7_ofBillion 11 = .ok (.ldc2_w 34, 3) := by decide +kernel
theorem dX7_ofBillion_14 : decode cX7_ofBillion 14 = .ok (.invokestatic 28, 3) := by decide +kernel
theorem dX7_ofBillion_17 : decode cX7_ofBillion 17 = .ok (.l2i, 1) := by decide +kernel
theorem dX7_ofBillion_18 : decode cX7_ofBillion 18 = .ok (.ireturn, 1) := by decide +kernel
theorem dX8_init_0 : decode cX8_init 0 = .ok (.aload_n 0, 1) := by decide +kernel
theorem dX8_init_1 : decode cX8_init 1 = .ok (.invokespecial 3, 3) := by decide +kernel
theorem dX8_init_4 : decode cX8_init 4 = .ok (.aload_n 0, 1) := by decide +kernel
theorem dX8_init_5 : decode cX8_init 5 = .ok (.new 9, 3) := by decide +kernel
theorem dX8_init_8 : decode cX8_init 8 = .ok (.dup, 1) := by decide +kernel
theorem dX8_init_9 : decode cX8_init 9 = .ok (.invokespecial 11, 3) := by decide +kernel
theorem dX8_init_12 : decode cX8_init 12 = .ok (.putfield 12, 3) := by decide +kernel
theorem dX8_init_15 : decode cX8_init 15 = .ok (.aload_n 0, 1) := by decide +kernel
theorem dX8_init_16 : decode cX8_init 16 = .ok (.new 16, 3) := by decide +kernel
theorem dX8_init_19 : decode cX8_init 19 = .ok (.dup, 1) := by decide +kernel
theorem dX8_init_20 : decode cX8_init 20 = .ok (.invokespecial 18, 3) := by decide +kernel
theorem dX8_init_23 : decode cX8_init 23 = .ok (.putfield 19, 3) := by decide +kernel
theorem dX8_init_26 : decode cX8_init 26 = .ok (.aload_n 0, 1) := by decide +kernel
theorem dX8_init_27 : decode cX8_init 27 = .ok (.iconst 2, 1) := by decide +kernel
theorem dX8_init_28 : decode cX8_init 28 = .ok (.anewarray 16, 3) := by decide +kernel
theorem dX8_init_31 : decode cX8_init 31 = .ok (.dup, 1) := by decide +kernel
theorem dX8_init_32 : decode cX8_init 32 = .ok (.iconst 0, 1) := by decide +kernel
theorem dX8_init_33 : decode cX8_init 33 = .ok (.new 16, 3) := by decide +kernel
theorem dX8_init_36 : decode cX8_init 36 = .ok (.dup, 1) := by decide +kernel
theorem dX8_init_37 : decode cX8_init 37 = .ok (.invokespecial 18, 3) := by decide +kernel
theorem dX8_init_40 : decode cX8_init 40 = .ok (.aastore, 1) := by decide +kernel
theorem dX8_init_41 : decode cX8_init 41 = .ok (.dup, 1) := by decide +kernel
theorem dX8_init_42 : decode cX8_init 42 = .ok (.iconst 1, 1) := by decide +kernel
theorem dX8_init_43 : decode cX8_init 43 = .ok (.new 16, 3) := by decide +kernel
theorem dX8_init_46 : decode cX8_init 46 = .ok (.dup, 1) := by decide +kernel
theorem dX8_init_47 : decode cX8_init 47 = .ok (.invokespecial 18, 3) := by decide +kernel
theorem dX8_init_50 : decode cX8_init 50 = .ok (.aastore, 1) := by decide +kernel
theorem dX8_init_51 : decode cX8_init 51 = .ok (.putfield 23, 3) := by decide +kernel
theorem dX8_init_54 : decode cX8_init 54 = .ok (.aload_n 0, 1) := by decide +kernel
theorem dX8_init_55 : decode cX8_init 55 = .ok (.new 27, 3) := by decide +kernel
theorem dX8_init_58 : decode cX8_init 58 = .ok (.dup, 1) := by decide +kernel
theorem dX8_init_59 : decode cX8_init 59 = .ok (.invokespecial 29, 3) := by decide +kernel
theorem dX8_init_62 : decode cX8_init 62 = .ok (.putfield 30, 3) := by decide +kernel
theorem dX8_init_65 : decode cX8_init 65 = .ok (.aload_n 0, 1) := by decide +kernel
theorem dX8_init_66 : decode cX8_init 66 = .ok (.new 34, 3) := by decide +kernel
theorem dX8_init_69 : decode cX8_init 69 = .ok (.dup, 1) := by decide +kernel
theorem dX8_init_70 : decode cX8_init 70 = .ok (.invokespecial 36, 3) := by decide +kernel
theorem dX8_init_73 : decode cX8_init 73 = .ok (.putfield 37, 3) := by decide +kernel
theorem dX8_init_76 : decode cX8_init 76 = .ok (.aload_n 0, 1) := by decide +kernel
theorem dX8_init_77 : decode cX8_init 77 = .ok (.new 41, 3) := by decide +kernel
theorem dX8_init_80 : decode cX8_init 80 = .ok (.dup, 1) := by decide +kernel
theorem dX8_init_81 : decode cX8_init 81 = .ok (.invokespecial 43, 3) := by decide +kernel
theorem dX8_init_84 : decode cX8_init 84 = .ok (.putfield 44, 3) := by decide +kernel
theorem dX8_init_87 : decode cX8_init 87 = .ok (.aload_n 0, 1) := by decide +kernel
theorem dX8_init_88 : decode cX8_init 88 = .ok (.new 48, 3) := by decide +kernel
theorem dX8_init_91 : decode cX8_init 91 = .ok (.dup, 1) := by decide +kernel
theorem dX8_init_92 : decode cX8_init 92 = .ok (.invokespecial 50, 3) := by decide +kernel
theorem dX8_init_95 : decode cX8_init 95 = .ok (.putfield 51, 3) := by decide +kernel
theorem dX8_init_98 : decode cX8_init 98 = .ok (.aload_n 0, 1) := by decide +kernel
theorem dX8_init_99 : decode cX8_init 99 = .ok (.new 55, 3) := by decide +kernel
theorem dX8_init_102 : decode cX8_init 102 = .ok (.dup, 1) := by decide +kernel
theorem dX8_init_103 : decode cX8_init 103 = .ok (.invokespecial 57, 3) := by decide +kernel
theorem dX8_init_106 : decode cX8_init 106 = .ok (.putfield 58, 3) := by decide +kernel
theorem dX8_init_109 : decode cX8_init 109 = .ok (.aload_n 0, 1) := by decide +kernel
theorem dX8_init_110 : decode cX8_init 110 = .ok (.bipush 8, 2) := by decide +kernel
theorem dX8_init_112 : decode cX8_init 112 = .ok (.newarray .int, 2) := by decide +kernel
theorem dX8_init_114 : decode cX8_init 114 = .ok (.putfield 62, 3) := by decide +kernel
theorem dX8_init_117 : decode cX8_init 117 = .ok (.aload_n 0, 1) := by decide +kernel
theorem dX8_init_118 : decode cX8_init 118 = .ok (.new 66, 3) := by decide +kernel
theorem dX8_init_121 : decode cX8_init 121 = .ok (.dup, 1) := by decide +kernel
theorem dX8_init_122 : decode cX8_init 122 = .ok (.invokespecial 68, 3) := by decide +kernel
theorem dX8_init_125 : decode cX8_init 125 = .ok (.putfield 69, 3) := by decide +kernel
theorem dX8_init_128 : decode cX8_init 128 = .ok (.aload_n 0, 1) := by decide +kernel
theorem dX8_init_129 : decode cX8_init 129 = .ok (.new 66, 3) := by decide +kernel
theorem dX8_init_132 : decode cX8_init 132 = .ok (.dup, 1) := by decide +kernel
theorem dX8_init_133 : decode cX8_init 133 = .ok (.invokespecial 68, 3) := by decide +kernel
theorem dX8_init_136 : decode cX8_init 136 = .ok (.putfield 73, 3) := by decide +kernel
theorem dX8_init_139 : decode cX8_init 139 = .ok (.return_, 1) := by decide +kernel
theorem dX8_feed_0 : decode cX8_feed 0 = .ok (.iload_n 1, 1) := by decide +kernel
theorem dX8_feed_1 : decode cX8_feed 1 = .ok (.iconst 1, 1) := by decide +kernel
theorem dX8_feed_2 : decode cX8_feed 2 = .ok (.if_icmp .lt 9, 3) := by decide +kernel
theorem dX8_feed_5 : decode cX8_feed 5 = .ok (.iload_n 1, 1) := by decide +kernel
theorem dX8_feed_6 : decode cX8_feed 6 = .ok (.bipush 8, 2) := by decide +kernel
theorem dX8_feed_8 : decode cX8_feed 8 = .ok (.if_icmp .le 6, 3) := by decide +kernel
theorem dX8_feed_11 : decode cX8_feed 11 = .ok (.ldc 76, 2) := by decide +kernel
theorem dX8_feed_13 : decode cX8_feed 13 = .ok (.ireturn, 1) := by decide +kernel
theorem dX8_feed_14 : decode cX8_feed 14 = .ok (.aload_n 0, 1) := by decide +kernel
theorem dX8_feed_15 : decode cX8_feed 15 = .ok (.getfield 12, 3) := by decide +kernel
theorem dX8_feed_18 : decode cX8_feed 18 = .ok (.iload_n 1, 1) := by decide +kernel
theorem dX8_feed_19 : decode cX8_feed 19 = .ok (.invokevirtual 77, 3) := by decide +kernel
theorem dX8_feed_22 : decode cX8_feed 22 = .ok (.ifCond .ne 6, 3) := by decide +kernel
theorem dX8_feed_25 : decode cX8_feed 25 = .ok (.ldc 81, 2) := by decide +kernel
theorem dX8_feed_27 : decode cX8_feed 27 = .ok (.ireturn, 1) := by decide +kernel
theorem dX8_feed_28 : decode cX8_feed 28 = .ok (.aload_n 0, 1) := by decide +kernel
theorem dX8_feed_29 : decode cX8_feed 29 = .ok (.getfield 12, 3) := by decide +kernel
theorem dX8_feed_32 : decode cX8_feed 32 = .ok (.iload_n 1, 1) := by decide +kernel
theorem dX8_feed_33 : decode cX8_feed 33 = .ok (.lload_n 2, 1) := by decide +kernel
theorem dX8_feed_34 : decode cX8_feed 34 = .ok (.invokevirtual 82, 3) := by decide +kernel
theorem dX8_feed_37 : decode cX8_feed 37 = .ok (.aload_n 0, 1) := by decide +kernel
theorem dX8_feed_38 : decode cX8_feed 38 = .ok (.getfield 12, 3) := by decide +kernel
theorem dX8_feed_41 : decode cX8_feed 41 = .ok (.getfield 86, 3) := by decide +kernel
theorem dX8_feed_44 : decode cX8_feed 44 = .ok (.ireturn, 1) := by decide +kernel
theorem dX8_flag_0 : decode cX8_flag 0 = .ok (.aload_n 0, 1) := by decide +kernel
theorem dX8_flag_1 : decode cX8_flag 1 = .ok (.getfield 12, 3) := by decide +kernel
theorem dX8_flag_4 : decode cX8_flag 4 = .ok (.aload_n 0, 1) := by decide +kernel
theorem dX8_flag_5 : decode cX8_flag 5 = .ok (.getfield 73, 3) := by decide +kernel
theorem dX8_flag_8 : decode cX8_flag 8 = .ok (.invokevirtual 90, 3) := by decide +kernel
theorem dX8_flag_11 : decode cX8_flag 11 = .ok (.aload_n 0, 1) := by decide +kernel
theorem dX8_flag_12 : decode cX8_flag 12 = .ok (.getfield 12, 3) := by decide +kernel
theorem dX8_flag_15 : decode cX8_flag 15 = .ok (.iconst 0, 1) := by decide +kernel
theorem dX8_flag_16 : decode cX8_flag 16 = .ok (.putfield 86, 3) := by decide +kernel
theorem dX8_flag_19 : decode cX8_flag 19 = .ok (.aload_n 0, 1) := by decide +kernel
theorem dX8_flag_20 : decode cX8_flag 20 = .ok (.getfield 12, 3) := by decide +kernel
theorem dX8_flag_23 : decode cX8_flag 23 = .ok (.getfield 94, 3) := by decide +kernel
theorem dX8_flag_26 : decode cX8_flag 26 = .ok (.ifCond .eq 14, 3) := by decide +kernel
theorem dX8_flag_29 : decode cX8_flag 29 = .ok (.bipush (-10), 2) := by decide +kernel
theorem dX8_flag_31 : decode cX8_flag 31 = .ok (.aload_n 0, 1) := by decide +kernel
theorem dX8_flag_32 : decode cX8_flag 32 = .ok (.getfield 12, 3) := by decide +kernel
theorem dX8_flag_35 : decode cX8_flag 35 = .ok (.getfield 94, 3) := by decide +kernel
theorem dX8_flag_38 : decode cX8_flag 38 = .ok (.isub, 1) := by decide +kernel
theorem dX8_flag_39 : decode cX8_flag 39 = .ok (.ireturn, 1) := by decide +kernel
theorem dX8_flag_40 : decode cX8_flag 40 = .ok (.aload_n 0, 1) := by decide +kernel
theorem dX8_flag_41 : decode cX8_flag 41 = .ok (.getfield 73, 3) := by decide +kernel
theorem dX8_flag_44 : decode cX8_flag 44 = .ok (.astore_n 1, 1) := by decide +kernel
theorem dX8_flag_45 : decode cX8_flag 45 = .ok (.aload_n 0, 1) := by decide +kernel
theorem dX8_flag_46 : decode cX8_flag 46 = .ok (.aload_n 0, 1) := by decide +kernel
theorem dX8_flag_47 : decode cX8_flag 47 = .ok (.getfield 69, 3) := by decide +kernel
theorem dX8_flag_50 : decode cX8_flag 50 = .ok (.putfield 73, 3) := by decide +kernel
theorem dX8_flag_53 : decode cX8_flag 53 = .ok (.aload_n 0, 1) := by decide +kernel
theorem dX8_flag_54 : decode cX8_flag 54 = .ok (.aload_n 1, 1) := by decide +kernel
theorem dX8_flag_55 : decode cX8_flag 55 = .ok (.putfield 69, 3) := by decide +kernel
theorem dX8_flag_58 : decode cX8_flag 58 = .ok (.aload_n 0, 1) := by decide +kernel
theorem dX8_flag_59 : decode cX8_flag 59 = .ok (.getfield 19, 3) := by decide +kernel
theorem dX8_flag_62 : decode cX8_flag 62 = .ok (.aload_n 0, 1) := by decide +kernel
theorem dX8_flag_63 : decode cX8_flag 63 = .ok (.getfield 69, 3) := by decide +kernel
theorem dX8_flag_66 : decode cX8_flag 66 = .ok (.invokevirtual 97, 3) := by decide +kernel
theorem dX8_flag_69 : decode cX8_flag 69 = .ok (.iconst 0, 1) := by decide +kernel
theorem dX8_flag_70 : decode cX8_flag 70 = .ok (.istore_n 2, 1) := by decide +kernel
theorem dX8_flag_71 : decode cX8_flag 71 = .ok (.iload_n 2, 1) := by decide +kernel
theorem dX8_flag_72 : decode cX8_flag 72 = .ok (.bipush 8, 2) := by decide +kernel
theorem dX8_flag_74 : decode cX8_flag 74 = .ok (.if_icmp .ge 22, 3) := by decide +kernel
theorem dX8_flag_77 : decode cX8_flag 77 = .ok (.aload_n 0, 1) := by decide +kernel
theorem dX8_flag_78 : decode cX8_flag 78 = .ok (.getfield 62, 3) := by decide +kernel
theorem dX8_flag_81 : decode cX8_flag 81 = .ok (.iload_n 2, 1) := by decide +kernel
theorem dX8_flag_82 : decode cX8_flag 82 = .ok (.aload_n 0, 1) := by decide +kernel
theorem dX8_flag_83 : decode cX8_flag 83 = .ok (.getfield 69, 3) := by decide +kernel
theorem dX8_flag_86 : decode cX8_flag 86 = .ok (.invokevirtual 100, 3) := by decide +kernel
theorem dX8_flag_89 : decode cX8_flag 89 = .ok (.iastore, 1) := by decide +kernel
theorem dX8_flag_90 : decode cX8_flag 90 = .ok (.iinc 2 1, 3) := by decide +kernel
theorem dX8_flag_93 : decode cX8_flag 93 = .ok (.goto (-22), 3) := by decide +kernel
theorem dX8_flag_96 : decode cX8_flag 96 = .ok (.aload_n 0, 1) := by decide +kernel
theorem dX8_flag_97 : decode cX8_flag 97 = .ok (.getfield 30, 3) := by decide +kernel
theorem dX8_flag_100 : decode cX8_flag 100 = .ok (.iconst 0, 1) := by decide +kernel
theorem dX8_flag_101 : decode cX8_flag 101 = .ok (.putfield 104, 3) := by decide +kernel
theorem dX8_flag_104 : decode cX8_flag 104 = .ok (.aload_n 0, 1) := by decide +kernel
theorem dX8_flag_105 : decode cX8_flag 105 = .ok (.iconst 0, 1) := by decide +kernel
theorem dX8_flag_106 : decode cX8_flag 106 = .ok (.putfield 107, 3) := by decide +kernel
theorem dX8_flag_109 : decode cX8_flag 109 = .ok (.aload_n 0, 1) := by decide +kernel
theorem dX8_flag_110 : decode cX8_flag 110 = .ok (.getfield 69, 3) := by decide +kernel
theorem dX8_flag_113 : decode cX8_flag 113 = .ok (.getfield 110, 3) := by decide +kernel
theorem dX8_flag_116 : decode cX8_flag 116 = .ok (.ireturn, 1) := by decide +kernel
theorem dX8_fault_0 : decode cX8_fault 0 = .ok (.aload_n 0, 1) := by decide +kernel
theorem dX8_fault_1 : decode cX8_fault 1 = .ok (.getfield 12, 3) := by decide +kernel
theorem dX8_fault_4 : decode cX8_fault 4 = .ok (.getfield 113, 3) := by decide +kernel
theorem dX8_fault_7 : decode cX8_fault 7 = .ok (.ireturn, 1) := by decide +kernel
theorem dX8_told_0 : decode cX8_told 0 = .ok (.iload_n 1, 1) := by decide +kernel
theorem dX8_told_1 : decode cX8_told 1 = .ok (.tableswitch 127 0 8 #[51, 59, 67, 75, 83, 91, 99, 107, 119], 51) := by decide +kernel
theorem dX8_told_52 : decode cX8_told 52 = .ok (.aload_n 0, 1) := by decide +kernel
theorem dX8_told_53 : decode cX8_told 53 = .ok (.getfield 69, 3) := by decide +kernel
theorem dX8_told_56 : decode cX8_told 56 = .ok (.getfield 116, 3) := by decide +kernel
theorem dX8_told_59 : decode cX8_told 59 = .ok (.ireturn, 1) := by decide +kernel
theorem dX8_told_60 : decode cX8_told 60 = .ok (.aload_n 0, 1) := by decide +kernel
theorem dX8_told_61 : decode cX8_told 61 = .ok (.getfield 69, 3) := by decide +kernel
theorem dX8_told_64 : decode cX8_told 64 = .ok (.getfield 110, 3) := by decide +kernel
theorem dX8_told_67 : decode cX8_told 67 = .ok (.ireturn, 1) := by decide +kernel
theorem dX8_told_68 : decode cX8_told 68 = .ok (.aload_n 0, 1) := by decide +kernel
theorem dX8_told_69 : decode cX8_told 69 = .ok (.getfield 69, 3) := by decide +kernel
theorem dX8_told_72 : decode cX8_told 72 = .ok (.getfield 119, 3) := by decide +kernel
theorem dX8_told_75 : decode cX8_told 75 = .ok (.ireturn, 1) := by decide +kernel
theorem dX8_told_76 : decode cX8_told 76 = .ok (.aload_n 0, 1) := by decide +kernel
theorem dX8_told_77 : decode cX8_told 77 = .ok (.getfield 69, 3) := by decide +kernel
theorem dX8_told_80 : decode cX8_told 80 = .ok (.getfield 122, 3) := by decide +kernel
theorem dX8_told_83 : decode cX8_told 83 = .ok (.ireturn, 1) := by decide +kernel
theorem dX8_told_84 : decode cX8_told 84 = .ok (.aload_n 0, 1) := by decide +kernel
theorem dX8_told_85 : decode cX8_told 85 = .ok (.getfield 12, 3) := by decide +kernel
theorem dX8_told_88 : decode cX8_told 88 = .ok (.getfield 86, 3) := by decide +kernel
theorem dX8_told_91 : decode cX8_told 91 = .ok (.ireturn, 1) := by decide +kernel
theorem dX8_told_92 : decode cX8_told 92 = .ok (.aload_n 0, 1) := by decide +kernel
theorem dX8_told_93 : decode cX8_told 93 = .ok (.getfield 19, 3) := by decide +kernel
theorem dX8_told_96 : decode cX8_told 96 = .ok (.invokevirtual 125, 3) := by decide +kernel
theorem dX8_told_99 : decode cX8_told 99 = .ok (.ireturn, 1) := by decide +kernel
theorem dX8_told_100 : decode cX8_told 100 = .ok (.aload_n 0, 1) := by decide +kernel
theorem dX8_told_101 : decode cX8_told 101 = .ok (.getfield 19, 3) := by decide +kernel
theorem dX8_told_104 : decode cX8_told 104 = .ok (.getfield 128, 3) := by decide +kernel
theorem dX8_told_107 : decode cX8_told 107 = .ok (.ireturn, 1) := by decide +kernel
theorem dX8_told_108 : decode cX8_told 108 = .ok (.aload_n 0, 1) := by decide +kernel
theorem dX8_told_109 : decode cX8_told 109 = .ok (.getfield 19, 3) := by decide +kernel
theorem dX8_told_112 : decode cX8_told 112 = .ok (.aload_n 0, 1) := by decide +kernel
theorem dX8_told_113 : decode cX8_told 113 = .ok (.getfield 69, 3) := by decide +kernel
theorem dX8_told_116 : decode cX8_told 116 = .ok (.invokevirtual 131, 3) := by decide +kernel
theorem dX8_told_119 : decode cX8_told 119 = .ok (.ireturn, 1) := by decide +kernel
theorem dX8_told_120 : decode cX8_told 120 = .ok (.aload_n 0, 1) := by decide +kernel
theorem dX8_told_121 : decode cX8_told 121 = .ok (.getfield 30, 3) := by decide +kernel
theorem dX8_told_124 : decode cX8_told 124 = .ok (.getfield 104, 3) := by decide +kernel
theorem dX8_told_127 : decode cX8_told 127 = .ok (.ireturn, 1) := by decide +kernel
theorem dX8_told_128 : decode cX8_told 128 = .ok (.ldc 76, 2) := by decide +kernel
theorem dX8_told_130 : decode cX8_told 130 = .ok (.ireturn, 1) := by decide +kernel
theorem dX8_seam_0 : decode cX8_seam 0 = .ok (.aload_n 0, 1) := by decide +kernel
theorem dX8_seam_1 : decode cX8_seam 1 = .ok (.getfield 69, 3) := by decide +kernel
theorem dX8_seam_4 : decode cX8_seam 4 = .ok (.iload_n 1, 1) := by decide +kernel
theorem dX8_seam_5 : decode cX8_seam 5 = .ok (.invokevirtual 135, 3) := by decide +kernel
theorem dX8_seam_8 : decode cX8_seam 8 = .ok (.ifCond .ne 6, 3) := by decide +kernel
theorem dX8_seam_11 : decode cX8_seam 11 = .ok (.ldc 138, 2) := by decide +kernel
theorem dX8_seam_13 : decode cX8_seam 13 = .ok (.ireturn, 1) := by decide +kernel
theorem dX8_seam_14 : decode cX8_seam 14 = .ok (.iload_n 2, 1) := by decide +kernel
theorem dX8_seam_15 : decode cX8_seam 15 = .ok (.tableswitch 79 0 3 #[29, 39, 49, 59], 29) := by decide +kernel
theorem dX8_seam_44 : decode cX8_seam 44 = .ok (.aload_n 0, 1) := by decide +kernel
theorem dX8_seam_45 : decode cX8_seam 45 = .ok (.getfield 69, 3) := by decide +kernel
theorem dX8_seam_48 : decode cX8_seam 48 = .ok (.getfield 139, 3) := by decide +kernel
theorem dX8_seam_51 : decode cX8_seam 51 = .ok (.iload_n 1, 1) := by decide +kernel
theorem dX8_seam_52 : decode cX8_seam 52 = .ok (.iaload, 1) := by decide +kernel
theorem dX8_seam_53 : decode cX8_seam 53 = .ok (.ireturn, 1) := by decide +kernel
theorem dX8_seam_54 : decode cX8_seam 54 = .ok (.aload_n 0, 1) := by decide +kernel
theorem dX8_seam_55 : decode cX8_seam 55 = .ok (.getfield 69, 3) := by decide +kernel
theorem dX8_seam_58 : decode cX8_seam 58 = .ok (.getfield 142, 3) := by decide +kernel
theorem dX8_seam_61 : decode cX8_seam 61 = .ok (.iload_n 1, 1) := by decide +kernel
theorem dX8_seam_62 : decode cX8_seam 62 = .ok (.iaload, 1) := by decide +kernel
theorem dX8_seam_63 : decode cX8_seam 63 = .ok (.ireturn, 1) := by decide +kernel
theorem dX8_seam_64 : decode cX8_seam 64 = .ok (.aload_n 0, 1) := by decide +kernel
theorem dX8_seam_65 : decode cX8_seam 65 = .ok (.getfield 19, 3) := by decide +kernel
theorem dX8_seam_68 : decode cX8_seam 68 = .ok (.getfield 145, 3) := by decide +kernel
theorem dX8_seam_71 : decode cX8_seam 71 = .ok (.iload_n 1, 1) := by decide +kernel
theorem dX8_seam_72 : decode cX8_seam 72 = .ok (.iaload, 1) := by decide +kernel
theorem dX8_seam_73 : decode cX8_seam 73 = .ok (.ireturn, 1) := by decide +kernel
theorem dX8_seam_74 : decode cX8_seam 74 = .ok (.aload_n 0, 1) := by decide +kernel
theorem dX8_seam_75 : decode cX8_seam 75 = .ok (.getfield 19, 3) := by decide +kernel
theorem dX8_seam_78 : decode cX8_seam 78 = .ok (.getfield 128, 3) := by decide +kernel
theorem dX8_seam_81 : decode cX8_seam 81 = .ok (.iload_n 1, 1) := by decide +kernel
theorem dX8_seam_82 : decode cX8_seam 82 = .ok (.invokestatic 148, 3) := by decide +kernel
theorem dX8_seam_85 : decode cX8_seam 85 = .ok (.ifCond .eq 7, 3) := by decide +kernel
theorem dX8_seam_88 : decode cX8_seam 88 = .ok (.iconst 1, 1) := by decide +kernel
theorem dX8_seam_89 : decode cX8_seam 89 = .ok (.goto 4, 3) := by decide +kernel
theorem dX8_seam_92 : decode cX8_seam 92 = .ok (.iconst 0, 1) := by decide +kernel
theorem dX8_seam_93 : decode cX8_seam 93 = .ok (.ireturn, 1) := by decide +kernel
theorem dX8_seam_94 : decode cX8_seam 94 = .ok (.ldc 76, 2) := by decide +kernel
theorem dX8_seam_96 : decode cX8_seam 96 = .ok (.ireturn, 1) := by decide +kernel
theorem dX8_strip_0 : decode cX8_strip 0 = .ok (.aload_n 0, 1) := by decide +kernel
theorem dX8_strip_1 : decode cX8_strip 1 = .ok (.getfield 69, 3) := by decide +kernel
theorem dX8_strip_4 : decode cX8_strip 4 = .ok (.iload_n 1, 1) := by decide +kernel
theorem dX8_strip_5 : decode cX8_strip 5 = .ok (.invokevirtual 152, 3) := by decide +kernel
theorem dX8_strip_8 : decode cX8_strip 8 = .ok (.ifCond .ne 6, 3) := by decide +kernel
theorem dX8_strip_11 : decode cX8_strip 11 = .ok (.ldc 138, 2) := by decide +kernel
theorem dX8_strip_13 : decode cX8_strip 13 = .ok (.ireturn, 1) := by decide +kernel
theorem dX8_strip_14 : decode cX8_strip 14 = .ok (.iload_n 2, 1) := by decide +kernel
theorem dX8_strip_15 : decode cX8_strip 15 = .ok (.tableswitch 78 0 3 #[29, 39, 55, 71], 29) := by decide +kernel
theorem dX8_strip_44 : decode cX8_strip 44 = .ok (.aload_n 0, 1) := by decide +kernel
theorem dX8_strip_45 : decode cX8_strip 45 = .ok (.getfield 19, 3) := by decide +kernel
theorem dX8_strip_48 : decode cX8_strip 48 = .ok (.getfield 155, 3) := by decide +kernel
theorem dX8_strip_51 : decode cX8_strip 51 = .ok (.iload_n 1, 1) := by decide +kernel
theorem dX8_strip_52 : decode cX8_strip 52 = .ok (.iaload, 1) := by decide +kernel
theorem dX8_strip_53 : decode cX8_strip 53 = .ok (.ireturn, 1) := by decide +kernel
theorem dX8_strip_54 : decode cX8_strip 54 = .ok (.aload_n 0, 1) := by decide +kernel
theorem dX8_strip_55 : decode cX8_strip 55 = .ok (.getfield 69, 3) := by decide +kernel
theorem dX8_strip_58 : decode cX8_strip 58 = .ok (.iload_n 1, 1) := by decide +kernel
theorem dX8_strip_59 : decode cX8_strip 59 = .ok (.aload_n 0, 1) := by decide +kernel
theorem dX8_strip_60 : decode cX8_strip 60 = .ok (.getfield 19, 3) := by decide +kernel
theorem dX8_strip_63 : decode cX8_strip 63 = .ok (.invokevirtual 125, 3) := by decide +kernel
theorem dX8_strip_66 : decode cX8_strip 66 = .ok (.invokevirtual 157, 3) := by decide +kernel
theorem dX8_strip_69 : decode cX8_strip 69 = .ok (.ireturn, 1) := by decide +kernel
theorem dX8_strip_70 : decode cX8_strip 70 = .ok (.aload_n 0, 1) := by decide +kernel
theorem dX8_strip_71 : decode cX8_strip 71 = .ok (.getfield 69, 3) := by decide +kernel
theorem dX8_strip_74 : decode cX8_strip 74 = .ok (.iload_n 1, 1) := by decide +kernel
theorem dX8_strip_75 : decode cX8_strip 75 = .ok (.aload_n 0, 1) := by decide +kernel
theorem dX8_strip_76 : decode cX8_strip 76 = .ok (.getfield 19, 3) := by decide +kernel
theorem dX8_strip_79 : decode cX8_strip 79 = .ok (.invokevirtual 125, 3) := by decide +kernel
theorem dX8_strip_82 : decode cX8_strip 82 = .ok (.invokevirtual 161, 3) := by decide +kernel
theorem dX8_strip_85 : decode cX8_strip 85 = .ok (.ireturn, 1) := by decide +kernel
theorem dX8_strip_86 : decode cX8_strip 86 = .ok (.aload_n 0, 1) := by decide +kernel
theorem dX8_strip_87 : decode cX8_strip 87 = .ok (.getfield 62, 3) := by decide +kernel
theorem dX8_strip_90 : decode cX8_strip 90 = .ok (.iload_n 1, 1) := by decide +kernel
theorem dX8_strip_91 : decode cX8_strip 91 = .ok (.iaload, 1) := by decide +kernel
theorem dX8_strip_92 : decode cX8_strip 92 = .ok (.ireturn, 1) := by decide +kernel
theorem dX8_strip_93 : decode cX8_strip 93 = .ok (.ldc 76, 2) := by decide +kernel
theorem dX8_strip_95 : decode cX8_strip 95 = .ok (.ireturn, 1) := by decide +kernel
theorem dX8_flies_0 : decode cX8_flies 0 = .ok (.iload_n 1, 1) := by decide +kernel
theorem dX8_flies_1 : decode cX8_flies 1 = .ok (.ifCond .lt 9, 3) := by decide +kernel
theorem dX8_flies_4 : decode cX8_flies 4 = .ok (.iload_n 1, 1) := by decide +kernel
theorem dX8_flies_5 : decode cX8_flies 5 = .ok (.bipush 9, 2) := by decide +kernel
theorem dX8_flies_7 : decode cX8_flies 7 = .ok (.if_icmp .le 6, 3) := by decide +kernel
theorem dX8_flies_10 : decode cX8_flies 10 = .ok (.ldc 76, 2) := by decide +kernel
theorem dX8_flies_12 : decode cX8_flies 12 = .ok (.ireturn, 1) := by decide +kernel
theorem dX8_flies_13 : decode cX8_flies 13 = .ok (.aload_n 0, 1) := by decide +kernel
theorem dX8_flies_14 : decode cX8_flies 14 = .ok (.getfield 69, 3) := by decide +kernel
theorem dX8_flies_17 : decode cX8_flies 17 = .ok (.aload_n 0, 1) := by decide +kernel
theorem dX8_flies_18 : decode cX8_flies 18 = .ok (.getfield 19, 3) := by decide +kernel
theorem dX8_flies_21 : decode cX8_flies 21 = .ok (.iload_n 1, 1) := by decide +kernel
theorem dX8_flies_22 : decode cX8_flies 22 = .ok (.invokevirtual 164, 3) := by decide +kernel
theorem dX8_flies_25 : decode cX8_flies 25 = .ok (.invokevirtual 168, 3) := by decide +kernel
theorem dX8_flies_28 : decode cX8_flies 28 = .ok (.ireturn, 1) := by decide +kernel
theorem dX8_unpick_0 : decode cX8_unpick 0 = .ok (.aload_n 0, 1) := by decide +kernel
theorem dX8_unpick_1 : decode cX8_unpick 1 = .ok (.getfield 69, 3) := by decide +kernel
theorem dX8_unpick_4 : decode cX8_unpick 4 = .ok (.iload_n 1, 1) := by decide +kernel
theorem dX8_unpick_5 : decode cX8_unpick 5 = .ok (.invokevirtual 152, 3) := by decide +kernel
theorem dX8_unpick_8 : decode cX8_unpick 8 = .ok (.ifCond .eq 14, 3) := by decide +kernel
theorem dX8_unpick_11 : decode cX8_unpick 11 = .ok (.aload_n 0, 1) := by decide +kernel
theorem dX8_unpick_12 : decode cX8_unpick 12 = .ok (.getfield 69, 3) := by decide +kernel
theorem dX8_unpick_15 : decode cX8_unpick 15 = .ok (.iload_n 2, 1) := by decide +kernel
theorem dX8_unpick_16 : decode cX8_unpick 16 = .ok (.invokevirtual 135, 3) := by decide +kernel
theorem dX8_unpick_19 : decode cX8_unpick 19 = .ok (.ifCond .ne 6, 3) := by decide +kernel
theorem dX8_unpick_22 : decode cX8_unpick 22 = .ok (.ldc 138, 2) := by decide +kernel
theorem dX8_unpick_24 : decode cX8_unpick 24 = .ok (.ireturn, 1) := by decide +kernel
theorem dX8_unpick_25 : decode cX8_unpick 25 = .ok (.aload_n 0, 1) := by decide +kernel
theorem dX8_unpick_26 : decode cX8_unpick 26 = .ok (.getfield 69, 3) := by decide +kernel
theorem dX8_unpick_29 : decode cX8_unpick 29 = .ok (.iload_n 1, 1) := by decide +kernel
theorem dX8_unpick_30 : decode cX8_unpick 30 = .ok (.aload_n 0, 1) := by decide +kernel
theorem dX8_unpick_31 : decode cX8_unpick 31 = .ok (.getfield 19, 3) := by decide +kernel
theorem dX8_unpick_34 : decode cX8_unpick 34 = .ok (.invokevirtual 125, 3) := by decide +kernel
theorem dX8_unpick_37 : decode cX8_unpick 37 = .ok (.aload_n 0, 1) := by decide +kernel
theorem dX8_unpick_38 : decode cX8_unpick 38 = .ok (.getfield 19, 3) := by decide +kernel
theorem dX8_unpick_41 : decode cX8_unpick 41 = .ok (.getfield 128, 3) := by decide +kernel
theorem dX8_unpick_44 : decode cX8_unpick 44 = .ok (.invokevirtual 171, 3) := by decide +kernel
theorem dX8_unpick_47 : decode cX8_unpick 47 = .ok (.iload_n 2, 1) := by decide +kernel
theorem dX8_unpick_48 : decode cX8_unpick 48 = .ok (.invokestatic 148, 3) := by decide +kernel
theorem dX8_unpick_51 : decode cX8_unpick 51 = .ok (.ifCond .ne 6, 3) := by decide +kernel
theorem dX8_unpick_54 : decode cX8_unpick 54 = .ok (.ldc 175, 2) := by decide +kernel
theorem dX8_unpick_56 : decode cX8_unpick 56 = .ok (.ireturn, 1) := by decide +kernel
theorem dX8_unpick_57 : decode cX8_unpick 57 = .ok (.aload_n 0, 1) := by decide +kernel
theorem dX8_unpick_58 : decode cX8_unpick 58 = .ok (.getfield 19, 3) := by decide +kernel
theorem dX8_unpick_61 : decode cX8_unpick 61 = .ok (.getfield 145, 3) := by decide +kernel
theorem dX8_unpick_64 : decode cX8_unpick 64 = .ok (.iload_n 2, 1) := by decide +kernel
theorem dX8_unpick_65 : decode cX8_unpick 65 = .ok (.iconst 0, 1) := by decide +kernel
theorem dX8_unpick_66 : decode cX8_unpick 66 = .ok (.iastore, 1) := by decide +kernel
theorem dX8_unpick_67 : decode cX8_unpick 67 = .ok (.aload_n 0, 1) := by decide +kernel
theorem dX8_unpick_68 : decode cX8_unpick 68 = .ok (.getfield 19, 3) := by decide +kernel
theorem dX8_unpick_71 : decode cX8_unpick 71 = .ok (.invokevirtual 125, 3) := by decide +kernel
theorem dX8_unpick_74 : decode cX8_unpick 74 = .ok (.invokestatic 176, 3) := by decide +kernel
theorem dX8_unpick_77 : decode cX8_unpick 77 = .ok (.ireturn, 1) := by decide +kernel
theorem dX8_sew_0 : decode cX8_sew 0 = .ok (.aload_n 0, 1) := by decide +kernel
theorem dX8_sew_1 : decode cX8_sew 1 = .ok (.getfield 69, 3) := by decide +kernel
theorem dX8_sew_4 : decode cX8_sew 4 = .ok (.iload_n 1, 1) := by decide +kernel
theorem dX8_sew_5 : decode cX8_sew 5 = .ok (.invokevirtual 135, 3) := by decide +kernel
theorem dX8_sew_8 : decode cX8_sew 8 = .ok (.ifCond .ne 6, 3) := by decide +kernel
theorem dX8_sew_11 : decode cX8_sew 11 = .ok (.ldc 138, 2) := by decide +kernel
theorem dX8_sew_13 : decode cX8_sew 13 = .ok (.ireturn, 1) := by decide +kernel
theorem dX8_sew_14 : decode cX8_sew 14 = .ok (.iload_n 2, 1) := by decide +kernel
theorem dX8_sew_15 : decode cX8_sew 15 = .ok (.ifCond .lt 9, 3) := by decide +kernel
theorem dX8_sew_18 : decode cX8_sew 18 = .ok (.iload_n 2, 1) := by decide +kernel
theorem dX8_sew_19 : decode cX8_sew 19 = .ok (.bipush 9, 2) := by decide +kernel
theorem dX8_sew_21 : decode cX8_sew 21 = .ok (.if_icmp .le 6, 3) := by decide +kernel
theorem dX8_sew_24 : decode cX8_sew 24 = .ok (.ldc 76, 2) := by decide +kernel
theorem dX8_sew_26 : decode cX8_sew 26 = .ok (.ireturn, 1) := by decide +kernel
theorem dX8_sew_27 : decode cX8_sew 27 = .ok (.aload_n 0, 1) := by decide +kernel
theorem dX8_sew_28 : decode cX8_sew 28 = .ok (.getfield 19, 3) := by decide +kernel
theorem dX8_sew_31 : decode cX8_sew 31 = .ok (.getfield 145, 3) := by decide +kernel
theorem dX8_sew_34 : decode cX8_sew 34 = .ok (.iload_n 1, 1) := by decide +kernel
theorem dX8_sew_35 : decode cX8_sew 35 = .ok (.iaload, 1) := by decide +kernel
theorem dX8_sew_36 : decode cX8_sew 36 = .ok (.istore_n 3, 1) := by decide +kernel
theorem dX8_sew_37 : decode cX8_sew 37 = .ok (.aload_n 0, 1) := by decide +kernel
theorem dX8_sew_38 : decode cX8_sew 38 = .ok (.getfield 19, 3) := by decide +kernel
theorem dX8_sew_41 : decode cX8_sew 41 = .ok (.getfield 145, 3) := by decide +kernel
theorem dX8_sew_44 : decode cX8_sew 44 = .ok (.iload_n 1, 1) := by decide +kernel
theorem dX8_sew_45 : decode cX8_sew 45 = .ok (.iload_n 2, 1) := by decide +kernel
theorem dX8_sew_46 : decode cX8_sew 46 = .ok (.iastore, 1) := by decide +kernel
theorem dX8_sew_47 : decode cX8_sew 47 = .ok (.iload_n 3, 1) := by decide +kernel
theorem dX8_sew_48 : decode cX8_sew 48 = .ok (.ireturn, 1) := by decide +kernel
theorem dX8_hem_0 : decode cX8_hem 0 = .ok (.aload_n 0, 1) := by decide +kernel
theorem dX8_hem_1 : decode cX8_hem 1 = .ok (.getfield 69, 3) := by decide +kernel
theorem dX8_hem_4 : decode cX8_hem 4 = .ok (.iload_n 1, 1) := by decide +kernel
theorem dX8_hem_5 : decode cX8_hem 5 = .ok (.invokevirtual 135, 3) := by decide +kernel
theorem dX8_hem_8 : decode cX8_hem 8 = .ok (.ifCond .ne 6, 3) := by decide +kernel
theorem dX8_hem_11 : decode cX8_hem 11 = .ok (.ldc 138, 2) := by decide +kernel
theorem dX8_hem_13 : decode cX8_hem 13 = .ok (.ireturn, 1) := by decide +kernel
theorem dX8_hem_14 : decode cX8_hem 14 = .ok (.aload_n 0, 1) := by decide +kernel
theorem dX8_hem_15 : decode cX8_hem 15 = .ok (.getfield 19, 3) := by decide +kernel
theorem dX8_hem_18 : decode cX8_hem 18 = .ok (.getfield 128, 3) := by decide +kernel
theorem dX8_hem_21 : decode cX8_hem 21 = .ok (.iload_n 1, 1) := by decide +kernel
theorem dX8_hem_22 : decode cX8_hem 22 = .ok (.invokestatic 148, 3) := by decide +kernel
theorem dX8_hem_25 : decode cX8_hem 25 = .ok (.ifCond .eq 7, 3) := by decide +kernel
theorem dX8_hem_28 : decode cX8_hem 28 = .ok (.iconst 1, 1) := by decide +kernel
theorem dX8_hem_29 : decode cX8_hem 29 = .ok (.goto 4, 3) := by decide +kernel
theorem dX8_hem_32 : decode cX8_hem 32 = .ok (.iconst 0, 1) := by decide +kernel
theorem dX8_hem_33 : decode cX8_hem 33 = .ok (.istore_n 3, 1) := by decide +kernel
theorem dX8_hem_34 : decode cX8_hem 34 = .ok (.aload_n 0, 1) := by decide +kernel
theorem dX8_hem_35 : decode cX8_hem 35 = .ok (.getfield 19, 3) := by decide +kernel
theorem dX8_hem_38 : decode cX8_hem 38 = .ok (.iload_n 2, 1) := by decide +kernel
theorem dX8_hem_39 : decode cX8_hem 39 = .ok (.ifCond .eq 17, 3) := by decide +kernel
theorem dX8_hem_42 : decode cX8_hem 42 = .ok (.aload_n 0, 1) := by decide +kernel
theorem dX8_hem_43 : decode cX8_hem 43 = .ok (.getfield 19, 3) := by decide +kernel
theorem dX8_hem_46 : decode cX8_hem 46 = .ok (.getfield 128, 3) := by decide +kernel
theorem dX8_hem_49 : decode cX8_hem 49 = .ok (.iconst 1, 1) := by decide +kernel
theorem dX8_hem_50 : decode cX8_hem 50 = .ok (.iload_n 1, 1) := by decide +kernel
theorem dX8_hem_51 : decode cX8_hem 51 = .ok (.ishl, 1) := by decide +kernel
theorem dX8_hem_52 : decode cX8_hem 52 = .ok (.ior, 1) := by decide +kernel
theorem dX8_hem_53 : decode cX8_hem 53 = .ok (.goto 16, 3) := by decide +kernel
theorem dX8_hem_56 : decode cX8_hem 56 = .ok (.aload_n 0, 1) := by decide +kernel
theorem dX8_hem_57 : decode cX8_hem 57 = .ok (.getfield 19, 3) := by decide +kernel
theorem dX8_hem_60 : decode cX8_hem 60 = .ok (.getfield 128, 3) := by decide +kernel
theorem dX8_hem_63 : decode cX8_hem 63 = .ok (.iconst 1, 1) := by decide +kernel
theorem dX8_hem_64 : decode cX8_hem 64 = .ok (.iload_n 1, 1) := by decide +kernel
theorem dX8_hem_65 : decode cX8_hem 65 = .ok (.ishl, 1) := by decide +kernel
theorem dX8_hem_66 : decode cX8_hem 66 = .ok (.iconst (-1), 1) := by decide +kernel
theorem dX8_hem_67 : decode cX8_hem 67 = .ok (.ixor, 1) := by decide +kernel
theorem dX8_hem_68 : decode cX8_hem 68 = .ok (.iand, 1) := by decide +kernel
theorem dX8_hem_69 : decode cX8_hem 69 = .ok (.putfield 128, 3) := by decide +kernel
theorem dX8_hem_72 : decode cX8_hem 72 = .ok (.iload_n 3, 1) := by decide +kernel
theorem dX8_hem_73 : decode cX8_hem 73 = .ok (.ireturn, 1) := by decide +kernel
theorem dX8_fray_0 : decode cX8_fray 0 = .ok (.iload_n 1, 1) := by decide +kernel
theorem dX8_fray_1 : decode cX8_fray 1 = .ok (.ifCond .lt 9, 3) := by decide +kernel
theorem dX8_fray_4 : decode cX8_fray 4 = .ok (.iload_n 1, 1) := by decide +kernel
theorem dX8_fray_5 : decode cX8_fray 5 = .ok (.bipush 9, 2) := by decide +kernel
theorem dX8_fray_7 : decode cX8_fray 7 = .ok (.if_icmp .le 6, 3) := by decide +kernel
theorem dX8_fray_10 : decode cX8_fray 10 = .ok (.ldc 76, 2) := by decide +kernel
theorem dX8_fray_12 : decode cX8_fray 12 = .ok (.ireturn, 1) := by decide +kernel
theorem dX8_fray_13 : decode cX8_fray 13 = .ok (.aload_n 0, 1) := by decide +kernel
theorem dX8_fray_14 : decode cX8_fray 14 = .ok (.getfield 19, 3) := by decide +kernel
theorem dX8_fray_17 : decode cX8_fray 17 = .ok (.aload_n 0, 1) := by decide +kernel
theorem dX8_fray_18 : decode cX8_fray 18 = .ok (.getfield 69, 3) := by decide +kernel
theorem dX8_fray_21 : decode cX8_fray 21 = .ok (.iload_n 1, 1) := by decide +kernel
theorem dX8_fray_22 : decode cX8_fray 22 = .ok (.invokevirtual 181, 3) := by decide +kernel
theorem dX8_fray_25 : decode cX8_fray 25 = .ok (.ireturn, 1) := by decide +kernel
theorem dX8_dye_0 : decode cX8_dye 0 = .ok (.aload_n 0, 1) := by decide +kernel
theorem dX8_dye_1 : decode cX8_dye 1 = .ok (.getfield 69, 3) := by decide +kernel
theorem dX8_dye_4 : decode cX8_dye 4 = .ok (.iload_n 1, 1) := by decide +kernel
theorem dX8_dye_5 : decode cX8_dye 5 = .ok (.invokevirtual 152, 3) := by decide +kernel
theorem dX8_dye_8 : decode cX8_dye 8 = .ok (.ifCond .eq 14, 3) := by decide +kernel
theorem dX8_dye_11 : decode cX8_dye 11 = .ok (.aload_n 0, 1) := by decide +kernel
theorem dX8_dye_12 : decode cX8_dye 12 = .ok (.getfield 69, 3) := by decide +kernel
theorem dX8_dye_15 : decode cX8_dye 15 = .ok (.iload_n 2, 1) := by decide +kernel
theorem dX8_dye_16 : decode cX8_dye 16 = .ok (.invokevirtual 185, 3) := by decide +kernel
theorem dX8_dye_19 : decode cX8_dye 19 = .ok (.ifCond .ne 6, 3) := by decide +kernel
theorem dX8_dye_22 : decode cX8_dye 22 = .ok (.ldc 138, 2) := by decide +kernel
theorem dX8_dye_24 : decode cX8_dye 24 = .ok (.ireturn, 1) := by decide +kernel
theorem dX8_dye_25 : decode cX8_dye 25 = .ok (.aload_n 0, 1) := by decide +kernel
theorem dX8_dye_26 : decode cX8_dye 26 = .ok (.getfield 19, 3) := by decide +kernel
theorem dX8_dye_29 : decode cX8_dye 29 = .ok (.getfield 155, 3) := by decide +kernel
theorem dX8_dye_32 : decode cX8_dye 32 = .ok (.iload_n 1, 1) := by decide +kernel
theorem dX8_dye_33 : decode cX8_dye 33 = .ok (.iaload, 1) := by decide +kernel
theorem dX8_dye_34 : decode cX8_dye 34 = .ok (.istore_n 3, 1) := by decide +kernel
theorem dX8_dye_35 : decode cX8_dye 35 = .ok (.aload_n 0, 1) := by decide +kernel
theorem dX8_dye_36 : decode cX8_dye 36 = .ok (.getfield 19, 3) := by decide +kernel
theorem dX8_dye_39 : decode cX8_dye 39 = .ok (.getfield 155, 3) := by decide +kernel
theorem dX8_dye_42 : decode cX8_dye 42 = .ok (.iload_n 1, 1) := by decide +kernel
theorem dX8_dye_43 : decode cX8_dye 43 = .ok (.iload_n 2, 1) := by decide +kernel
theorem dX8_dye_44 : decode cX8_dye 44 = .ok (.iastore, 1) := by decide +kernel
theorem dX8_dye_45 : decode cX8_dye 45 = .ok (.iload_n 3, 1) := by decide +kernel
theorem dX8_dye_46 : decode cX8_dye 46 = .ok (.ireturn, 1) := by decide +kernel
theorem dX8_drift_0 : decode cX8_drift 0 = .ok (.iload_n 1, 1) := by decide +kernel
theorem dX8_drift_1 : decode cX8_drift 1 = .ok (.iconst 1, 1) := by decide +kernel
theorem dX8_drift_2 : decode cX8_drift 2 = .ok (.if_icmp .lt 9, 3) := by decide +kernel
theorem dX8_drift_5 : decode cX8_drift 5 = .ok (.iload_n 1, 1) := by decide +kernel
theorem dX8_drift_6 : decode cX8_drift 6 = .ok (.bipush 99, 2) := by decide +kernel
theorem dX8_drift_8 : decode cX8_drift 8 = .ok (.if_icmp .le 6, 3) := by decide +kernel
theorem dX8_drift_11 : decode cX8_drift 11 = .ok (.ldc 76, 2) := by decide +kernel
theorem dX8_drift_13 : decode cX8_drift 13 = .ok (.ireturn, 1) := by decide +kernel
theorem dX8_drift_14 : decode cX8_drift 14 = .ok (.aload_n 0, 1) := by decide +kernel
theorem dX8_drift_15 : decode cX8_drift 15 = .ok (.getfield 69, 3) := by decide +kernel
theorem dX8_drift_18 : decode cX8_drift 18 = .ok (.getfield 110, 3) := by decide +kernel
theorem dX8_drift_21 : decode cX8_drift 21 = .ok (.ifCond .ne 6, 3) := by decide +kernel
theorem dX8_drift_24 : decode cX8_drift 24 = .ok (.ldc 175, 2) := by decide +kernel
theorem dX8_drift_26 : decode cX8_drift 26 = .ok (.ireturn, 1) := by decide +kernel
theorem dX8_drift_27 : decode cX8_drift 27 = .ok (.iconst 0, 1) := by decide +kernel
theorem dX8_drift_28 : decode cX8_drift 28 = .ok (.istore_n 2, 1) := by decide +kernel
theorem dX8_drift_29 : decode cX8_drift 29 = .ok (.iload_n 2, 1) := by decide +kernel
theorem dX8_drift_30 : decode cX8_drift 30 = .ok (.iload_n 1, 1) := by decide +kernel
theorem dX8_drift_31 : decode cX8_drift 31 = .ok (.if_icmp .ge 20, 3) := by decide +kernel
theorem dX8_drift_34 : decode cX8_drift 34 = .ok (.aload_n 0, 1) := by decide +kernel
theorem dX8_drift_35 : decode cX8_drift 35 = .ok (.getfield 19, 3) := by decide +kernel
theorem dX8_drift_38 : decode cX8_drift 38 = .ok (.aload_n 0, 1) := by decide +kernel
theorem dX8_drift_39 : decode cX8_drift 39 = .ok (.getfield 69, 3) := by decide +kernel
theorem dX8_drift_42 : decode cX8_drift 42 = .ok (.invokevirtual 188, 3) := by decide +kernel
theorem dX8_drift_45 : decode cX8_drift 45 = .ok (.iinc 2 1, 3) := by decide +kernel
theorem dX8_drift_48 : decode cX8_drift 48 = .ok (.goto (-19), 3) := by decide +kernel
theorem dX8_drift_51 : decode cX8_drift 51 = .ok (.aload_n 0, 1) := by decide +kernel
theorem dX8_drift_52 : decode cX8_drift 52 = .ok (.getfield 69, 3) := by decide +kernel
theorem dX8_drift_55 : decode cX8_drift 55 = .ok (.aload_n 0, 1) := by decide +kernel
theorem dX8_drift_56 : decode cX8_drift 56 = .ok (.getfield 19, 3) := by decide +kernel
theorem dX8_drift_59 : decode cX8_drift 59 = .ok (.invokevirtual 125, 3) := by decide +kernel
theorem dX8_drift_62 : decode cX8_drift 62 = .ok (.invokevirtual 168, 3) := by decide +kernel
theorem dX8_drift_65 : decode cX8_drift 65 = .ok (.ireturn, 1) := by decide +kernel
theorem dX8_cut_0 : decode cX8_cut 0 = .ok (.aload_n 0, 1) := by decide +kernel
theorem dX8_cut_1 : decode cX8_cut 1 = .ok (.getfield 69, 3) := by decide +kernel
theorem dX8_cut_4 : decode cX8_cut 4 = .ok (.iload_n 1, 1) := by decide +kernel
theorem dX8_cut_5 : decode cX8_cut 5 = .ok (.invokevirtual 152, 3) := by decide +kernel
theorem dX8_cut_8 : decode cX8_cut 8 = .ok (.ifCond .ne 6, 3) := by decide +kernel
theorem dX8_cut_11 : decode cX8_cut 11 = .ok (.ldc 138, 2) := by decide +kernel
theorem dX8_cut_13 : decode cX8_cut 13 = .ok (.ireturn, 1) := by decide +kernel
theorem dX8_cut_14 : decode cX8_cut 14 = .ok (.iload_n 2, 1) := by decide +kernel
theorem dX8_cut_15 : decode cX8_cut 15 = .ok (.ifCond .lt 8, 3) := by decide +kernel
theorem dX8_cut_18 : decode cX8_cut 18 = .ok (.iload_n 2, 1) := by decide +kernel
theorem dX8_cut_19 : decode cX8_cut 19 = .ok (.iconst 1, 1) := by decide +kernel
theorem dX8_cut_20 : decode cX8_cut 20 = .ok (.if_icmp .le 6, 3) := by decide +kernel
theorem dX8_cut_23 : decode cX8_cut 23 = .ok (.ldc 76, 2) := by decide +kernel
theorem dX8_cut_25 : decode cX8_cut 25 = .ok (.ireturn, 1) := by decide +kernel
theorem dX8_cut_26 : decode cX8_cut 26 = .ok (.aload_n 0, 1) := by decide +kernel
theorem dX8_cut_27 : decode cX8_cut 27 = .ok (.getfield 69, 3) := by decide +kernel
theorem dX8_cut_30 : decode cX8_cut 30 = .ok (.aload_n 0, 1) := by decide +kernel
theorem dX8_cut_31 : decode cX8_cut 31 = .ok (.getfield 19, 3) := by decide +kernel
theorem dX8_cut_34 : decode cX8_cut 34 = .ok (.invokevirtual 125, 3) := by decide +kernel
theorem dX8_cut_37 : decode cX8_cut 37 = .ok (.iload_n 1, 1) := by decide +kernel
theorem dX8_cut_38 : decode cX8_cut 38 = .ok (.invokestatic 191, 3) := by decide +kernel
theorem dX8_cut_41 : decode cX8_cut 41 = .ok (.istore_n 3, 1) := by decide +kernel
theorem dX8_cut_42 : decode cX8_cut 42 = .ok (.iload_n 2, 1) := by decide +kernel
theorem dX8_cut_43 : decode cX8_cut 43 = .ok (.ifCond .ne 10, 3) := by decide +kernel
theorem dX8_cut_46 : decode cX8_cut 46 = .ok (.iload_n 3, 1) := by decide +kernel
theorem dX8_cut_47 : decode cX8_cut 47 = .ok (.invokestatic 176, 3) := by decide +kernel
theorem dX8_cut_50 : decode cX8_cut 50 = .ok (.goto 4, 3) := by decide +kernel
theorem dX8_cut_53 : decode cX8_cut 53 = .ok (.iload_n 3, 1) := by decide +kernel
theorem dX8_cut_54 : decode cX8_cut 54 = .ok (.ireturn, 1) := by decide +kernel
theorem dX8_lasts_0 : decode cX8_lasts 0 = .ok (.aload_n 0, 1) := by decide +kernel
theorem dX8_lasts_1 : decode cX8_lasts 1 = .ok (.getfield 69, 3) := by decide +kernel
theorem dX8_lasts_4 : decode cX8_lasts 4 = .ok (.iload_n 1, 1) := by decide +kernel
theorem dX8_lasts_5 : decode cX8_lasts 5 = .ok (.invokevirtual 195, 3) := by decide +kernel
theorem dX8_lasts_8 : decode cX8_lasts 8 = .ok (.ifCond .ne 6, 3) := by decide +kernel
theorem dX8_lasts_11 : decode cX8_lasts 11 = .ok (.ldc 138, 2) := by decide +kernel
theorem dX8_lasts_13 : decode cX8_lasts 13 = .ok (.ireturn, 1) := by decide +kernel
theorem dX8_lasts_14 : decode cX8_lasts 14 = .ok (.iload_n 2, 1) := by decide +kernel
theorem dX8_lasts_15 : decode cX8_lasts 15 = .ok (.ifCond .lt 8, 3) := by decide +kernel
theorem dX8_lasts_18 : decode cX8_lasts 18 = .ok (.iload_n 2, 1) := by decide +kernel
theorem dX8_lasts_19 : decode cX8_lasts 19 = .ok (.iconst 3, 1) := by decide +kernel
theorem dX8_lasts_20 : decode cX8_lasts 20 = .ok (.if_icmp .le 6, 3) := by decide +kernel
theorem dX8_lasts_23 : decode cX8_lasts 23 = .ok (.ldc 76, 2) := by decide +kernel
theorem dX8_lasts_25 : decode cX8_lasts 25 = .ok (.ireturn, 1) := by decide +kernel
theorem dX8_lasts_26 : decode cX8_lasts 26 = .ok (.aload_n 0, 1) := by decide +kernel
theorem dX8_lasts_27 : decode cX8_lasts 27 = .ok (.getfield 37, 3) := by decide +kernel
theorem dX8_lasts_30 : decode cX8_lasts 30 = .ok (.aload_n 0, 1) := by decide +kernel
theorem dX8_lasts_31 : decode cX8_lasts 31 = .ok (.getfield 69, 3) := by decide +kernel
theorem dX8_lasts_34 : decode cX8_lasts 34 = .ok (.aload_n 0, 1) := by decide +kernel
theorem dX8_lasts_35 : decode cX8_lasts 35 = .ok (.getfield 19, 3) := by decide +kernel
theorem dX8_lasts_38 : decode cX8_lasts 38 = .ok (.iload_n 1, 1) := by decide +kernel
theorem dX8_lasts_39 : decode cX8_lasts 39 = .ok (.iload_n 2, 1) := by decide +kernel
theorem dX8_lasts_40 : decode cX8_lasts 40 = .ok (.invokevirtual 198, 3) := by decide +kernel
theorem dX8_lasts_43 : decode cX8_lasts 43 = .ok (.aload_n 0, 1) := by decide +kernel
theorem dX8_lasts_44 : decode cX8_lasts 44 = .ok (.getfield 37, 3) := by decide +kernel
theorem dX8_lasts_47 : decode cX8_lasts 47 = .ok (.getfield 202, 3) := by decide +kernel
theorem dX8_lasts_50 : decode cX8_lasts 50 = .ok (.ifCond .ne 7, 3) := by decide +kernel
theorem dX8_lasts_53 : decode cX8_lasts 53 = .ok (.iconst 1, 1) := by decide +kernel
theorem dX8_lasts_54 : decode cX8_lasts 54 = .ok (.goto 4, 3) := by decide +kernel
theorem dX8_lasts_57 : decode cX8_lasts 57 = .ok (.iconst 0, 1) := by decide +kernel
theorem dX8_lasts_58 : decode cX8_lasts 58 = .ok (.ireturn, 1) := by decide +kernel
theorem dX8_hems_0 : decode cX8_hems 0 = .ok (.aload_n 0, 1) := by decide +kernel
theorem dX8_hems_1 : decode cX8_hems 1 = .ok (.getfield 69, 3) := by decide +kernel
theorem dX8_hems_4 : decode cX8_hems 4 = .ok (.iload_n 1, 1) := by decide +kernel
theorem dX8_hems_5 : decode cX8_hems 5 = .ok (.invokevirtual 195, 3) := by decide +kernel
theorem dX8_hems_8 : decode cX8_hems 8 = .ok (.ifCond .ne 6, 3) := by decide +kernel
theorem dX8_hems_11 : decode cX8_hems 11 = .ok (.ldc 138, 2) := by decide +kernel
theorem dX8_hems_13 : decode cX8_hems 13 = .ok (.ireturn, 1) := by decide +kernel
theorem dX8_hems_14 : decode cX8_hems 14 = .ok (.iload_n 2, 1) := by decide +kernel
theorem dX8_hems_15 : decode cX8_hems 15 = .ok (.iconst 1, 1) := by decide +kernel
theorem dX8_hems_16 : decode cX8_hems 16 = .ok (.if_icmp .lt 8, 3) := by decide +kernel
theorem dX8_hems_19 : decode cX8_hems 19 = .ok (.iload_n 2, 1) := by decide +kernel
theorem dX8_hems_20 : decode cX8_hems 20 = .ok (.iconst 2, 1) := by decide +kernel
theorem dX8_hems_21 : decode cX8_hems 21 = .ok (.if_icmp .le 6, 3) := by decide +kernel
theorem dX8_hems_24 : decode cX8_hems 24 = .ok (.ldc 76, 2) := by decide +kernel
theorem dX8_hems_26 : decode cX8_hems 26 = .ok (.ireturn, 1) := by decide +kernel
theorem dX8_hems_27 : decode cX8_hems 27 = .ok (.aload_n 0, 1) := by decide +kernel
theorem dX8_hems_28 : decode cX8_hems 28 = .ok (.getfield 37, 3) := by decide +kernel
theorem dX8_hems_31 : decode cX8_hems 31 = .ok (.aload_n 0, 1) := by decide +kernel
theorem dX8_hems_32 : decode cX8_hems 32 = .ok (.getfield 69, 3) := by decide +kernel
theorem dX8_hems_35 : decode cX8_hems 35 = .ok (.aload_n 0, 1) := by decide +kernel
theorem dX8_hems_36 : decode cX8_hems 36 = .ok (.getfield 19, 3) := by decide +kernel
theorem dX8_hems_39 : decode cX8_hems 39 = .ok (.iload_n 1, 1) := by decide +kernel
theorem dX8_hems_40 : decode cX8_hems 40 = .ok (.iload_n 2, 1) := by decide +kernel
theorem dX8_hems_41 : decode cX8_hems 41 = .ok (.invokevirtual 198, 3) := by decide +kernel
theorem dX8_hems_44 : decode cX8_hems 44 = .ok (.aload_n 0, 1) := by decide +kernel
theorem dX8_hems_45 : decode cX8_hems 45 = .ok (.getfield 37, 3) := by decide +kernel
theorem dX8_hems_48 : decode cX8_hems 48 = .ok (.aload_n 0, 1) := by decide +kernel
theorem dX8_hems_49 : decode cX8_hems 49 = .ok (.getfield 19, 3) := by decide +kernel
theorem dX8_hems_52 : decode cX8_hems 52 = .ok (.invokevirtual 125, 3) := by decide +kernel
theorem dX8_hems_55 : decode cX8_hems 55 = .ok (.aload_n 0, 1) := by decide +kernel
theorem dX8_hems_56 : decode cX8_hems 56 = .ok (.getfield 19, 3) := by decide +kernel
theorem dX8_hems_59 : decode cX8_hems 59 = .ok (.getfield 128, 3) := by decide +kernel
theorem dX8_hems_62 : decode cX8_hems 62 = .ok (.iconst (-1), 1) := by decide +kernel
theorem dX8_hems_63 : decode cX8_hems 63 = .ok (.ixor, 1) := by decide +kernel
theorem dX8_hems_64 : decode cX8_hems 64 = .ok (.iand, 1) := by decide +kernel
theorem dX8_hems_65 : decode cX8_hems 65 = .ok (.invokevirtual 203, 3) := by decide +kernel
theorem dX8_hems_68 : decode cX8_hems 68 = .ok (.ireturn, 1) := by decide +kernel
theorem dX8_thread_0 : decode cX8_thread 0 = .ok (.iload_n 1, 1) := by decide +kernel
theorem dX8_thread_1 : decode cX8_thread 1 = .ok (.ifCond .lt 17, 3) := by decide +kernel
theorem dX8_thread_4 : decode cX8_thread 4 = .ok (.iload_n 1, 1) := by decide +kernel
theorem dX8_thread_5 : decode cX8_thread 5 = .ok (.iconst 2, 1) := by decide +kernel
theorem dX8_thread_6 : decode cX8_thread 6 = .ok (.if_icmp .gt 12, 3) := by decide +kernel
theorem dX8_thread_9 : decode cX8_thread 9 = .ok (.iload_n 2, 1) := by decide +kernel
theorem dX8_thread_10 : decode cX8_thread 10 = .ok (.ifCond .lt 8, 3) := by decide +kernel
theorem dX8_thread_13 : decode cX8_thread 13 = .ok (.iload_n 2, 1) := by decide +kernel
theorem dX8_thread_14 : decode cX8_thread 14 = .ok (.iconst 1, 1) := by decide +kernel
theorem dX8_thread_15 : decode cX8_thread 15 = .ok (.if_icmp .le 6, 3) := by decide +kernel
theorem dX8_thread_18 : decode cX8_thread 18 = .ok (.ldc 76, 2) := by decide +kernel
theorem dX8_thread_20 : decode cX8_thread 20 = .ok (.ireturn, 1) := by decide +kernel
theorem dX8_thread_21 : decode cX8_thread 21 = .ok (.aload_n 0, 1) := by decide +kernel
theorem dX8_thread_22 : decode cX8_thread 22 = .ok (.getfield 37, 3) := by decide +kernel
theorem dX8_thread_25 : decode cX8_thread 25 = .ok (.aload_n 0, 1) := by decide +kernel
theorem dX8_thread_26 : decode cX8_thread 26 = .ok (.getfield 69, 3) := by decide +kernel
theorem dX8_thread_29 : decode cX8_thread 29 = .ok (.aload_n 0, 1) := by decide +kernel
theorem dX8_thread_30 : decode cX8_thread 30 = .ok (.getfield 19, 3) := by decide +kernel
theorem dX8_thread_33 : decode cX8_thread 33 = .ok (.aload_n 0, 1) := by decide +kernel
theorem dX8_thread_34 : decode cX8_thread 34 = .ok (.getfield 69, 3) := by decide +kernel
theorem dX8_thread_37 : decode cX8_thread 37 = .ok (.invokevirtual 206, 3) := by decide +kernel
theorem dX8_thread_40 : decode cX8_thread 40 = .ok (.iload_n 1, 1) := by decide +kernel
theorem dX8_thread_41 : decode cX8_thread 41 = .ok (.invokevirtual 198, 3) := by decide +kernel
theorem dX8_thread_44 : decode cX8_thread 44 = .ok (.aload_n 0, 1) := by decide +kernel
theorem dX8_thread_45 : decode cX8_thread 45 = .ok (.getfield 37, 3) := by decide +kernel
theorem dX8_thread_48 : decode cX8_thread 48 = .ok (.aload_n 0, 1) := by decide +kernel
theorem dX8_thread_49 : decode cX8_thread 49 = .ok (.getfield 69, 3) := by decide +kernel
theorem dX8_thread_52 : decode cX8_thread 52 = .ok (.iload_n 1, 1) := by decide +kernel
theorem dX8_thread_53 : decode cX8_thread 53 = .ok (.invokevirtual 209, 3) := by decide +kernel
theorem dX8_thread_56 : decode cX8_thread 56 = .ok (.istore_n 3, 1) := by decide +kernel
theorem dX8_thread_57 : decode cX8_thread 57 = .ok (.iload_n 2, 1) := by decide +kernel
theorem dX8_thread_58 : decode cX8_thread 58 = .ok (.iconst 1, 1) := by decide +kernel
theorem dX8_thread_59 : decode cX8_thread 59 = .ok (.if_icmp .eq 8, 3) := by decide +kernel
theorem dX8_thread_62 : decode cX8_thread 62 = .ok (.iload_n 3, 1) := by decide +kernel
theorem dX8_thread_63 : decode cX8_thread 63 = .ok (.iconst (-1), 1) := by decide +kernel
theorem dX8_thread_64 : decode cX8_thread 64 = .ok (.if_icmp .ne 7, 3) := by decide +kernel
theorem dX8_thread_67 : decode cX8_thread 67 = .ok (.iload_n 3, 1) := by decide +kernel
theorem dX8_thread_68 : decode cX8_thread 68 = .ok (.goto 11, 3) := by decide +kernel
theorem dX8_thread_71 : decode cX8_thread 71 = .ok (.aload_n 0, 1) := by decide +kernel
theorem dX8_thread_72 : decode cX8_thread 72 = .ok (.getfield 69, 3) := by decide +kernel
theorem dX8_thread_75 : decode cX8_thread 75 = .ok (.iload_n 3, 1) := by decide +kernel
theorem dX8_thread_76 : decode cX8_thread 76 = .ok (.invokevirtual 212, 3) := by decide +kernel
theorem dX8_thread_79 : decode cX8_thread 79 = .ok (.ireturn, 1) := by decide +kernel
theorem dX8_odds_0 : decode cX8_odds 0 = .ok (.aload_n 0, 1) := by decide +kernel
theorem dX8_odds_1 : decode cX8_odds 1 = .ok (.getfield 69, 3) := by decide +kernel
theorem dX8_odds_4 : decode cX8_odds 4 = .ok (.iload_n 1, 1) := by decide +kernel
theorem dX8_odds_5 : decode cX8_odds 5 = .ok (.invokevirtual 152, 3) := by decide +kernel
theorem dX8_odds_8 : decode cX8_odds 8 = .ok (.ifCond .ne 6, 3) := by decide +kernel
theorem dX8_odds_11 : decode cX8_odds 11 = .ok (.ldc 138, 2) := by decide +kernel
theorem dX8_odds_13 : decode cX8_odds 13 = .ok (.ireturn, 1) := by decide +kernel
theorem dX8_odds_14 : decode cX8_odds 14 = .ok (.iload_n 2, 1) := by decide +kernel
theorem dX8_odds_15 : decode cX8_odds 15 = .ok (.ifCond .lt 9, 3) := by decide +kernel
theorem dX8_odds_18 : decode cX8_odds 18 = .ok (.iload_n 2, 1) := by decide +kernel
theorem dX8_odds_19 : decode cX8_odds 19 = .ok (.bipush 100, 2) := by decide +kernel
theorem dX8_odds_21 : decode cX8_odds 21 = .ok (.if_icmp .le 6, 3) := by decide +kernel
theorem dX8_odds_24 : decode cX8_odds 24 = .ok (.ldc 76, 2) := by decide +kernel
theorem dX8_odds_26 : decode cX8_odds 26 = .ok (.ireturn, 1) := by decide +kernel
theorem dX8_odds_27 : decode cX8_odds 27 = .ok (.aload_n 0, 1) := by decide +kernel
theorem dX8_odds_28 : decode cX8_odds 28 = .ok (.getfield 44, 3) := by decide +kernel
theorem dX8_odds_31 : decode cX8_odds 31 = .ok (.iload_n 1, 1) := by decide +kernel
theorem dX8_odds_32 : decode cX8_odds 32 = .ok (.iload_n 2, 1) := by decide +kernel
theorem dX8_odds_33 : decode cX8_odds 33 = .ok (.invokevirtual 215, 3) := by decide +kernel
theorem dX8_odds_36 : decode cX8_odds 36 = .ok (.aload_n 0, 1) := by decide +kernel
theorem dX8_odds_37 : decode cX8_odds 37 = .ok (.getfield 44, 3) := by decide +kernel
theorem dX8_odds_40 : decode cX8_odds 40 = .ok (.aload_n 0, 1) := by decide +kernel
theorem dX8_odds_41 : decode cX8_odds 41 = .ok (.getfield 69, 3) := by decide +kernel
theorem dX8_odds_44 : decode cX8_odds 44 = .ok (.aload_n 0, 1) := by decide +kernel
theorem dX8_odds_45 : decode cX8_odds 45 = .ok (.getfield 19, 3) := by decide +kernel
theorem dX8_odds_48 : decode cX8_odds 48 = .ok (.invokevirtual 125, 3) := by decide +kernel
theorem dX8_odds_51 : decode cX8_odds 51 = .ok (.aload_n 0, 1) := by decide +kernel
theorem dX8_odds_52 : decode cX8_odds 52 = .ok (.getfield 19, 3) := by decide +kernel
theorem dX8_odds_55 : decode cX8_odds 55 = .ok (.getfield 128, 3) := by decide +kernel
theorem dX8_odds_58 : decode cX8_odds 58 = .ok (.invokevirtual 218, 3) := by decide +kernel
theorem dX8_odds_61 : decode cX8_odds 61 = .ok (.ireturn, 1) := by decide +kernel
theorem dX8_turnsOf_0 : decode cX8_turnsOf 0 = .ok (.aload_n 0, 1) := by decide +kernel
theorem dX8_turnsOf_1 : decode cX8_turnsOf 1 = .ok (.getfield 69, 3) := by decide +kernel
theorem dX8_turnsOf_4 : decode cX8_turnsOf 4 = .ok (.iload_n 1, 1) := by decide +kernel
theorem dX8_turnsOf_5 : decode cX8_turnsOf 5 = .ok (.invokevirtual 152, 3) := by decide +kernel
theorem dX8_turnsOf_8 : decode cX8_turnsOf 8 = .ok (.ifCond .eq 19, 3) := by decide +kernel
theorem dX8_turnsOf_11 : decode cX8_turnsOf 11 = .ok (.aload_n 0, 1) := by decide +kernel
theorem dX8_turnsOf_12 : decode cX8_turnsOf 12 = .ok (.getfield 69, 3) := by decide +kernel
theorem dX8_turnsOf_15 : decode cX8_turnsOf 15 = .ok (.iload_n 2, 1) := by decide +kernel
theorem dX8_turnsOf_16 : decode cX8_turnsOf 16 = .ok (.invokevirtual 152, 3) := by decide +kernel
theorem dX8_turnsOf_19 : decode cX8_turnsOf 19 = .ok (.ifCond .eq 8, 3) := by decide +kernel
theorem dX8_turnsOf_22 : decode cX8_turnsOf 22 = .ok (.iload_n 1, 1) := by decide +kernel
theorem dX8_turnsOf_23 : decode cX8_turnsOf 23 = .ok (.iload_n 2, 1) := by decide +kernel
theorem dX8_turnsOf_24 : decode cX8_turnsOf 24 = .ok (.if_icmp .ne 6, 3) := by decide +kernel
theorem dX8_turnsOf_27 : decode cX8_turnsOf 27 = .ok (.ldc 138, 2) := by decide +kernel
theorem dX8_turnsOf_29 : decode cX8_turnsOf 29 = .ok (.ireturn, 1) := by decide +kernel
theorem dX8_turnsOf_30 : decode cX8_turnsOf 30 = .ok (.iload_n 3, 1) := by decide +kernel
theorem dX8_turnsOf_31 : decode cX8_turnsOf 31 = .ok (.ifCond .lt 19, 3) := by decide +kernel
theorem dX8_turnsOf_34 : decode cX8_turnsOf 34 = .ok (.iload_n 3, 1) := by decide +kernel
theorem dX8_turnsOf_35 : decode cX8_turnsOf 35 = .ok (.iconst 4, 1) := by decide +kernel
theorem dX8_turnsOf_36 : decode cX8_turnsOf 36 = .ok (.if_icmp .gt 14, 3) := by decide +kernel
theorem dX8_turnsOf_39 : decode cX8_turnsOf 39 = .ok (.iload 4, 2) := by decide +kernel
theorem dX8_turnsOf_41 : decode cX8_turnsOf 41 = .ok (.ifCond .lt 9, 3) := by decide +kernel
theorem dX8_turnsOf_44 : decode cX8_turnsOf 44 = .ok (.iload 4, 2) := by decide +kernel
theorem dX8_turnsOf_46 : decode cX8_turnsOf 46 = .ok (.iconst 1, 1) := by decide +kernel
theorem dX8_turnsOf_47 : decode cX8_turnsOf 47 = .ok (.if_icmp .le 6, 3) := by decide +kernel
theorem dX8_turnsOf_50 : decode cX8_turnsOf 50 = .ok (.ldc 76, 2) := by decide +kernel
theorem dX8_turnsOf_52 : decode cX8_turnsOf 52 = .ok (.ireturn, 1) := by decide +kernel
theorem dX8_turnsOf_53 : decode cX8_turnsOf 53 = .ok (.aload_n 0, 1) := by decide +kernel
theorem dX8_turnsOf_54 : decode cX8_turnsOf 54 = .ok (.getfield 51, 3) := by decide +kernel
theorem dX8_turnsOf_57 : decode cX8_turnsOf 57 = .ok (.iload_n 1, 1) := by decide +kernel
theorem dX8_turnsOf_58 : decode cX8_turnsOf 58 = .ok (.iload_n 2, 1) := by decide +kernel
theorem dX8_turnsOf_59 : decode cX8_turnsOf 59 = .ok (.iload_n 3, 1) := by decide +kernel
theorem dX8_turnsOf_60 : decode cX8_turnsOf 60 = .ok (.aload_n 0, 1) := by decide +kernel
theorem dX8_turnsOf_61 : decode cX8_turnsOf 61 = .ok (.getfield 19, 3) := by decide +kernel
theorem dX8_turnsOf_64 : decode cX8_turnsOf 64 = .ok (.getfield 128, 3) := by decide +kernel
theorem dX8_turnsOf_67 : decode cX8_turnsOf 67 = .ok (.invokevirtual 221, 3) := by decide +kernel
theorem dX8_turnsOf_70 : decode cX8_turnsOf 70 = .ok (.aload_n 0, 1) := by decide +kernel
theorem dX8_turnsOf_71 : decode cX8_turnsOf 71 = .ok (.getfield 51, 3) := by decide +kernel
theorem dX8_turnsOf_74 : decode cX8_turnsOf 74 = .ok (.aload_n 0, 1) := by decide +kernel
theorem dX8_turnsOf_75 : decode cX8_turnsOf 75 = .ok (.getfield 69, 3) := by decide +kernel
theorem dX8_turnsOf_78 : decode cX8_turnsOf 78 = .ok (.aload_n 0, 1) := by decide +kernel
theorem dX8_turnsOf_79 : decode cX8_turnsOf 79 = .ok (.getfield 19, 3) := by decide +kernel
theorem dX8_turnsOf_82 : decode cX8_turnsOf 82 = .ok (.invokevirtual 125, 3) := by decide +kernel
theorem dX8_turnsOf_85 : decode cX8_turnsOf 85 = .ok (.invokevirtual 224, 3) := by decide +kernel
theorem dX8_turnsOf_88 : decode cX8_turnsOf 88 = .ok (.iload 4, 2) := by decide +kernel
theorem dX8_turnsOf_90 : decode cX8_turnsOf 90 = .ok (.ifCond .ne 13, 3) := by decide +kernel
theorem dX8_turnsOf_93 : decode cX8_turnsOf 93 = .ok (.aload_n 0, 1) := by decide +kernel
theorem dX8_turnsOf_94 : decode cX8_turnsOf 94 = .ok (.getfield 51, 3) := by decide +kernel
theorem dX8_turnsOf_97 : decode cX8_turnsOf 97 = .ok (.getfield 228, 3) := by decide +kernel
theorem dX8_turnsOf_100 : decode cX8_turnsOf 100 = .ok (.goto 10, 3) := by decide +kernel
theorem dX8_turnsOf_103 : decode cX8_turnsOf 103 = .ok (.aload_n 0, 1) := by decide +kernel
theorem dX8_turnsOf_104 : decode cX8_turnsOf 104 = .ok (.getfield 51, 3) := by decide +kernel
theorem dX8_turnsOf_107 : decode cX8_turnsOf 107 = .ok (.getfield 231, 3) := by decide +kernel
theorem dX8_turnsOf_110 : decode cX8_turnsOf 110 = .ok (.ireturn, 1) := by decide +kernel
theorem dX8_colours_0 : decode cX8_colours 0 = .ok (.iload_n 1, 1) := by decide +kernel
theorem dX8_colours_1 : decode cX8_colours 1 = .ok (.iconst (-1), 1) := by decide +kernel
theorem dX8_colours_2 : decode cX8_colours 2 = .ok (.if_icmp .eq 17, 3) := by decide +kernel
theorem dX8_colours_5 : decode cX8_colours 5 = .ok (.aload_n 0, 1) := by decide +kernel
theorem dX8_colours_6 : decode cX8_colours 6 = .ok (.getfield 69, 3) := by decide +kernel
theorem dX8_colours_9 : decode cX8_colours 9 = .ok (.iload_n 1, 1) := by decide +kernel
theorem dX8_colours_10 : decode cX8_colours 10 = .ok (.invokevirtual 152, 3) := by decide +kernel
theorem dX8_colours_13 : decode cX8_colours 13 = .ok (.ifCond .ne 6, 3) := by decide +kernel
theorem dX8_colours_16 : decode cX8_colours 16 = .ok (.ldc 138, 2) := by decide +kernel
theorem dX8_colours_18 : decode cX8_colours 18 = .ok (.ireturn, 1) := by decide +kernel
theorem dX8_colours_19 : decode cX8_colours 19 = .ok (.aload_n 0, 1) := by decide +kernel
theorem dX8_colours_20 : decode cX8_colours 20 = .ok (.getfield 58, 3) := by decide +kernel
theorem dX8_colours_23 : decode cX8_colours 23 = .ok (.aload_n 0, 1) := by decide +kernel
theorem dX8_colours_24 : decode cX8_colours 24 = .ok (.getfield 69, 3) := by decide +kernel
theorem dX8_colours_27 : decode cX8_colours 27 = .ok (.aload_n 0, 1) := by decide +kernel
theorem dX8_colours_28 : decode cX8_colours 28 = .ok (.getfield 19, 3) := by decide +kernel
theorem dX8_colours_31 : decode cX8_colours 31 = .ok (.invokevirtual 125, 3) := by decide +kernel
theorem dX8_colours_34 : decode cX8_colours 34 = .ok (.invokevirtual 234, 3) := by decide +kernel
theorem dX8_colours_37 : decode cX8_colours 37 = .ok (.aload_n 0, 1) := by decide +kernel
theorem dX8_colours_38 : decode cX8_colours 38 = .ok (.getfield 58, 3) := by decide +kernel
theorem dX8_colours_41 : decode cX8_colours 41 = .ok (.getfield 237, 3) := by decide +kernel
theorem dX8_colours_44 : decode cX8_colours 44 = .ok (.ifCond .ne 5, 3) := by decide +kernel
theorem dX8_colours_47 : decode cX8_colours 47 = .ok (.iconst (-1), 1) := by decide +kernel
theorem dX8_colours_48 : decode cX8_colours 48 = .ok (.ireturn, 1) := by decide +kernel
theorem dX8_colours_49 : decode cX8_colours 49 = .ok (.iload_n 1, 1) := by decide +kernel
theorem dX8_colours_50 : decode cX8_colours 50 = .ok (.iconst (-1), 1) := by decide +kernel
theorem dX8_colours_51 : decode cX8_colours 51 = .ok (.if_icmp .ne 13, 3) := by decide +kernel
theorem dX8_colours_54 : decode cX8_colours 54 = .ok (.aload_n 0, 1) := by decide +kernel
theorem dX8_colours_55 : decode cX8_colours 55 = .ok (.getfield 58, 3) := by decide +kernel
theorem dX8_colours_58 : decode cX8_colours 58 = .ok (.getfield 241, 3) := by decide +kernel
theorem dX8_colours_61 : decode cX8_colours 61 = .ok (.goto 12, 3) := by decide +kernel
theorem dX8_colours_64 : decode cX8_colours 64 = .ok (.aload_n 0, 1) := by decide +kernel
theorem dX8_colours_65 : decode cX8_colours 65 = .ok (.getfield 58, 3) := by decide +kernel
theorem dX8_colours_68 : decode cX8_colours 68 = .ok (.getfield 244, 3) := by decide +kernel
theorem dX8_colours_71 : decode cX8_colours 71 = .ok (.iload_n 1, 1) := by decide +kernel
theorem dX8_colours_72 : decode cX8_colours 72 = .ok (.iaload, 1) := by decide +kernel
theorem dX8_colours_73 : decode cX8_colours 73 = .ok (.ireturn, 1) := by decide +kernel
theorem dX8_left_0 : decode cX8_left 0 = .ok (.aload_n 0, 1) := by decide +kernel
theorem dX8_left_1 : decode cX8_left 1 = .ok (.getfield 69, 3) := by decide +kernel
theorem dX8_left_4 : decode cX8_left 4 = .ok (.iload_n 1, 1) := by decide +kernel
theorem dX8_left_5 : decode cX8_left 5 = .ok (.invokevirtual 152, 3) := by decide +kernel
theorem dX8_left_8 : decode cX8_left 8 = .ok (.ifCond .eq 14, 3) := by decide +kernel
theorem dX8_left_11 : decode cX8_left 11 = .ok (.aload_n 0, 1) := by decide +kernel
theorem dX8_left_12 : decode cX8_left 12 = .ok (.getfield 69, 3) := by decide +kernel
theorem dX8_left_15 : decode cX8_left 15 = .ok (.iload_n 2, 1) := by decide +kernel
theorem dX8_left_16 : decode cX8_left 16 = .ok (.invokevirtual 247, 3) := by decide +kernel
theorem dX8_left_19 : decode cX8_left 19 = .ok (.ifCond .ne 6, 3) := by decide +kernel
theorem dX8_left_22 : decode cX8_left 22 = .ok (.ldc 138, 2) := by decide +kernel
theorem dX8_left_24 : decode cX8_left 24 = .ok (.ireturn, 1) := by decide +kernel
theorem dX8_left_25 : decode cX8_left 25 = .ok (.aload_n 0, 1) := by decide +kernel
theorem dX8_left_26 : decode cX8_left 26 = .ok (.getfield 62, 3) := by decide +kernel
theorem dX8_left_29 : decode cX8_left 29 = .ok (.iload_n 1, 1) := by decide +kernel
theorem dX8_left_30 : decode cX8_left 30 = .ok (.iaload, 1) := by decide +kernel
theorem dX8_left_31 : decode cX8_left 31 = .ok (.istore_n 3, 1) := by decide +kernel
theorem dX8_left_32 : decode cX8_left 32 = .ok (.aload_n 0, 1) := by decide +kernel
theorem dX8_left_33 : decode cX8_left 33 = .ok (.getfield 62, 3) := by decide +kernel
theorem dX8_left_36 : decode cX8_left 36 = .ok (.iload_n 1, 1) := by decide +kernel
theorem dX8_left_37 : decode cX8_left 37 = .ok (.iload_n 2, 1) := by decide +kernel
theorem dX8_left_38 : decode cX8_left 38 = .ok (.iastore, 1) := by decide +kernel
theorem dX8_left_39 : decode cX8_left 39 = .ok (.iload_n 3, 1) := by decide +kernel
theorem dX8_left_40 : decode cX8_left 40 = .ok (.ireturn, 1) := by decide +kernel
theorem dX8_fits_0 : decode cX8_fits 0 = .ok (.aload_n 0, 1) := by decide +kernel
theorem dX8_fits_1 : decode cX8_fits 1 = .ok (.getfield 58, 3) := by decide +kernel
theorem dX8_fits_4 : decode cX8_fits 4 = .ok (.aload_n 0, 1) := by decide +kernel
theorem dX8_fits_5 : decode cX8_fits 5 = .ok (.getfield 69, 3) := by decide +kernel
theorem dX8_fits_8 : decode cX8_fits 8 = .ok (.aload_n 0, 1) := by decide +kernel
theorem dX8_fits_9 : decode cX8_fits 9 = .ok (.getfield 19, 3) := by decide +kernel
theorem dX8_fits_12 : decode cX8_fits 12 = .ok (.invokevirtual 125, 3) := by decide +kernel
theorem dX8_fits_15 : decode cX8_fits 15 = .ok (.aload_n 0, 1) := by decide +kernel
theorem dX8_fits_16 : decode cX8_fits 16 = .ok (.getfield 62, 3) := by decide +kernel
theorem dX8_fits_19 : decode cX8_fits 19 = .ok (.invokevirtual 250, 3) := by decide +kernel
theorem dX8_fits_22 : decode cX8_fits 22 = .ok (.aload_n 0, 1) := by decide +kernel
theorem dX8_fits_23 : decode cX8_fits 23 = .ok (.getfield 58, 3) := by decide +kernel
theorem dX8_fits_26 : decode cX8_fits 26 = .ok (.aload_n 0, 1) := by decide +kernel
theorem dX8_fits_27 : decode cX8_fits 27 = .ok (.getfield 69, 3) := by decide +kernel
theorem dX8_fits_30 : decode cX8_fits 30 = .ok (.invokevirtual 254, 3) := by decide +kernel
theorem dX8_fits_33 : decode cX8_fits 33 = .ok (.ireturn, 1) := by decide +kernel
theorem dX8_sure_0 : decode cX8_sure 0 = .ok (.aload_n 0, 1) := by decide +kernel
theorem dX8_sure_1 : decode cX8_sure 1 = .ok (.getfield 69, 3) := by decide +kernel
theorem dX8_sure_4 : decode cX8_sure 4 = .ok (.iload_n 1, 1) := by decide +kernel
theorem dX8_sure_5 : decode cX8_sure 5 = .ok (.invokevirtual 152, 3) := by decide +kernel
theorem dX8_sure_8 : decode cX8_sure 8 = .ok (.ifCond .ne 6, 3) := by decide +kernel
theorem dX8_sure_11 : decode cX8_sure 11 = .ok (.ldc 138, 2) := by decide +kernel
theorem dX8_sure_13 : decode cX8_sure 13 = .ok (.ireturn, 1) := by decide +kernel
theorem dX8_sure_14 : decode cX8_sure 14 = .ok (.aload_n 0, 1) := by decide +kernel
theorem dX8_sure_15 : decode cX8_sure 15 = .ok (.getfield 58, 3) := by decide +kernel
theorem dX8_sure_18 : decode cX8_sure 18 = .ok (.aload_n 0, 1) := by decide +kernel
theorem dX8_sure_19 : decode cX8_sure 19 = .ok (.getfield 69, 3) := by decide +kernel
theorem dX8_sure_22 : decode cX8_sure 22 = .ok (.aload_n 0, 1) := by decide +kernel
theorem dX8_sure_23 : decode cX8_sure 23 = .ok (.getfield 19, 3) := by decide +kernel
theorem dX8_sure_26 : decode cX8_sure 26 = .ok (.invokevirtual 125, 3) := by decide +kernel
theorem dX8_sure_29 : decode cX8_sure 29 = .ok (.aload_n 0, 1) := by decide +kernel
theorem dX8_sure_30 : decode cX8_sure 30 = .ok (.getfield 62, 3) := by decide +kernel
theorem dX8_sure_33 : decode cX8_sure 33 = .ok (.invokevirtual 250, 3) := by decide +kernel
theorem dX8_sure_36 : decode cX8_sure 36 = .ok (.aload_n 0, 1) := by decide +kernel
theorem dX8_sure_37 : decode cX8_sure 37 = .ok (.getfield 58, 3) := by decide +kernel
theorem dX8_sure_40 : decode cX8_sure 40 = .ok (.aload_n 0, 1) := by decide +kernel
theorem dX8_sure_41 : decode cX8_sure 41 = .ok (.getfield 69, 3) := by decide +kernel
theorem dX8_sure_44 : decode cX8_sure 44 = .ok (.iload_n 1, 1) := by decide +kernel
theorem dX8_sure_45 : decode cX8_sure 45 = .ok (.invokevirtual 257, 3) := by decide +kernel
theorem dX8_sure_48 : decode cX8_sure 48 = .ok (.ireturn, 1) := by decide +kernel
theorem dX8_write_0 : decode cX8_write 0 = .ok (.aload_n 0, 1) := by decide +kernel
theorem dX8_write_1 : decode cX8_write 1 = .ok (.getfield 69, 3) := by decide +kernel
theorem dX8_write_4 : decode cX8_write 4 = .ok (.iload_n 1, 1) := by decide +kernel
theorem dX8_write_5 : decode cX8_write 5 = .ok (.invokevirtual 152, 3) := by decide +kernel
theorem dX8_write_8 : decode cX8_write 8 = .ok (.ifCond .eq 14, 3) := by decide +kernel
theorem dX8_write_11 : decode cX8_write 11 = .ok (.aload_n 0, 1) := by decide +kernel
theorem dX8_write_12 : decode cX8_write 12 = .ok (.getfield 69, 3) := by decide +kernel
theorem dX8_write_15 : decode cX8_write 15 = .ok (.iload_n 2, 1) := by decide +kernel
theorem dX8_write_16 : decode cX8_write 16 = .ok (.invokevirtual 135, 3) := by decide +kernel
theorem dX8_write_19 : decode cX8_write 19 = .ok (.ifCond .ne 6, 3) := by decide +kernel
theorem dX8_write_22 : decode cX8_write 22 = .ok (.ldc 138, 2) := by decide +kernel
theorem dX8_write_24 : decode cX8_write 24 = .ok (.ireturn, 1) := by decide +kernel
theorem dX8_write_25 : decode cX8_write 25 = .ok (.aload_n 0, 1) := by decide +kernel
theorem dX8_write_26 : decode cX8_write 26 = .ok (.getfield 30, 3) := by decide +kernel
theorem dX8_write_29 : decode cX8_write 29 = .ok (.getfield 104, 3) := by decide +kernel
theorem dX8_write_32 : decode cX8_write 32 = .ok (.bipush 30, 2) := by decide +kernel
theorem dX8_write_34 : decode cX8_write 34 = .ok (.if_icmp .lt 6, 3) := by decide +kernel
theorem dX8_write_37 : decode cX8_write 37 = .ok (.ldc 81, 2) := by decide +kernel
theorem dX8_write_39 : decode cX8_write 39 = .ok (.ireturn, 1) := by decide +kernel
theorem dX8_write_40 : decode cX8_write 40 = .ok (.aload_n 0, 1) := by decide +kernel
theorem dX8_write_41 : decode cX8_write 41 = .ok (.getfield 30, 3) := by decide +kernel
theorem dX8_write_44 : decode cX8_write 44 = .ok (.iload_n 1, 1) := by decide +kernel
theorem dX8_write_45 : decode cX8_write 45 = .ok (.iload_n 2, 1) := by decide +kernel
theorem dX8_write_46 : decode cX8_write 46 = .ok (.invokevirtual 260, 3) := by decide +kernel
theorem dX8_write_49 : decode cX8_write 49 = .ok (.aload_n 0, 1) := by decide +kernel
theorem dX8_write_50 : decode cX8_write 50 = .ok (.getfield 30, 3) := by decide +kernel
theorem dX8_write_53 : decode cX8_write 53 = .ok (.getfield 104, 3) := by decide +kernel
theorem dX8_write_56 : decode cX8_write 56 = .ok (.ireturn, 1) := by decide +kernel
theorem dX8_tear_0 : decode cX8_tear 0 = .ok (.aload_n 0, 1) := by decide +kernel
theorem dX8_tear_1 : decode cX8_tear 1 = .ok (.getfield 30, 3) := by decide +kernel
theorem dX8_tear_4 : decode cX8_tear 4 = .ok (.getfield 104, 3) := by decide +kernel
theorem dX8_tear_7 : decode cX8_tear 7 = .ok (.istore_n 1, 1) := by decide +kernel
theorem dX8_tear_8 : decode cX8_tear 8 = .ok (.aload_n 0, 1) := by decide +kernel
theorem dX8_tear_9 : decode cX8_tear 9 = .ok (.getfield 30, 3) := by decide +kernel
theorem dX8_tear_12 : decode cX8_tear 12 = .ok (.iconst 0, 1) := by decide +kernel
theorem dX8_tear_13 : decode cX8_tear 13 = .ok (.putfield 104, 3) := by decide +kernel
theorem dX8_tear_16 : decode cX8_tear 16 = .ok (.iload_n 1, 1) := by decide +kernel
theorem dX8_tear_17 : decode cX8_tear 17 = .ok (.ireturn, 1) := by decide +kernel
theorem dX8_judge_0 : decode cX8_judge 0 = .ok (.aload_n 0, 1) := by decide +kernel
theorem dX8_judge_1 : decode cX8_judge 1 = .ok (.getfield 30, 3) := by decide +kernel
theorem dX8_judge_4 : decode cX8_judge 4 = .ok (.aload_n 0, 1) := by decide +kernel
theorem dX8_judge_5 : decode cX8_judge 5 = .ok (.getfield 69, 3) := by decide +kernel
theorem dX8_judge_8 : decode cX8_judge 8 = .ok (.aload_n 0, 1) := by decide +kernel
theorem dX8_judge_9 : decode cX8_judge 9 = .ok (.getfield 19, 3) := by decide +kernel
theorem dX8_judge_12 : decode cX8_judge 12 = .ok (.invokevirtual 262, 3) := by decide +kernel
theorem dX8_judge_15 : decode cX8_judge 15 = .ok (.ireturn, 1) := by decide +kernel
theorem dX8_seed_0 : decode cX8_seed 0 = .ok (.iload_n 1, 1) := by decide +kernel
theorem dX8_seed_1 : decode cX8_seed 1 = .ok (.ifCond .ge 6, 3) := by decide +kernel
theorem dX8_seed_4 : decode cX8_seed 4 = .ok (.ldc 76, 2) := by decide +kernel
theorem dX8_seed_6 : decode cX8_seed 6 = .ok (.ireturn, 1) := by decide +kernel
theorem dX8_seed_7 : decode cX8_seed 7 = .ok (.aload_n 0, 1) := by decide +kernel
theorem dX8_seed_8 : decode cX8_seed 8 = .ok (.getfield 19, 3) := by decide +kernel
theorem dX8_seed_11 : decode cX8_seed 11 = .ok (.getfield 266, 3) := by decide +kernel
theorem dX8_seed_14 : decode cX8_seed 14 = .ok (.istore_n 2, 1) := by decide +kernel
theorem dX8_seed_15 : decode cX8_seed 15 = .ok (.aload_n 0, 1) := by decide +kernel
theorem dX8_seed_16 : decode cX8_seed 16 = .ok (.getfield 19, 3) := by decide +kernel
theorem dX8_seed_19 : decode cX8_seed 19 = .ok (.iload_n 1, 1) := by decide +kernel
theorem dX8_seed_20 : decode cX8_seed 20 = .ok (.putfield 266, 3) := by decide +kernel
theorem dX8_seed_23 : decode cX8_seed 23 = .ok (.iload_n 2, 1) := by decide +kernel
theorem dX8_seed_24 : decode cX8_seed 24 = .ok (.ireturn, 1) := by decide +kernel
theorem dX8_keep_0 : decode cX8_keep 0 = .ok (.iload_n 1, 1) := by decide +kernel
theorem dX8_keep_1 : decode cX8_keep 1 = .ok (.ifCond .lt 8, 3) := by decide +kernel
theorem dX8_keep_4 : decode cX8_keep 4 = .ok (.iload_n 1, 1) := by decide +kernel
theorem dX8_keep_5 : decode cX8_keep 5 = .ok (.iconst 2, 1) := by decide +kernel
theorem dX8_keep_6 : decode cX8_keep 6 = .ok (.if_icmp .lt 6, 3) := by decide +kernel
theorem dX8_keep_9 : decode cX8_keep 9 = .ok (.ldc 138, 2) := by decide +kernel
theorem dX8_keep_11 : decode cX8_keep 11 = .ok (.ireturn, 1) := by decide +kernel
theorem dX8_keep_12 : decode cX8_keep 12 = .ok (.aload_n 0, 1) := by decide +kernel
theorem dX8_keep_13 : decode cX8_keep 13 = .ok (.getfield 23, 3) := by decide +kernel
theorem dX8_keep_16 : decode cX8_keep 16 = .ok (.iload_n 1, 1) := by decide +kernel
theorem dX8_keep_17 : decode cX8_keep 17 = .ok (.aaload, 1) := by decide +kernel
theorem dX8_keep_18 : decode cX8_keep 18 = .ok (.aload_n 0, 1) := by decide +kernel
theorem dX8_keep_19 : decode cX8_keep 19 = .ok (.getfield 19, 3) := by decide +kernel
theorem dX8_keep_22 : decode cX8_keep 22 = .ok (.invokevirtual 269, 3) := by decide +kernel
theorem dX8_keep_25 : decode cX8_keep 25 = .ok (.aload_n 0, 1) := by decide +kernel
theorem dX8_keep_26 : decode cX8_keep 26 = .ok (.dup, 1) := by decide +kernel
theorem dX8_keep_27 : decode cX8_keep 27 = .ok (.getfield 107, 3) := by decide +kernel
theorem dX8_keep_30 : decode cX8_keep 30 = .ok (.iconst 1, 1) := by decide +kernel
theorem dX8_keep_31 : decode cX8_keep 31 = .ok (.iload_n 1, 1) := by decide +kernel
theorem dX8_keep_32 : decode cX8_keep 32 = .ok (.ishl, 1) := by decide +kernel
theorem dX8_keep_33 : decode cX8_keep 33 = .ok (.ior, 1) := by decide +kernel
theorem dX8_keep_34 : decode cX8_keep 34 = .ok (.putfield 107, 3) := by decide +kernel
theorem dX8_keep_37 : decode cX8_keep 37 = .ok (.iconst 1, 1) := by decide +kernel
theorem dX8_keep_38 : decode cX8_keep 38 = .ok (.ireturn, 1) := by decide +kernel
theorem dX8_goBack_0 : decode cX8_goBack 0 = .ok (.iload_n 1, 1) := by decide +kernel
theorem dX8_goBack_1 : decode cX8_goBack 1 = .ok (.ifCond .lt 8, 3) := by decide +kernel
theorem dX8_goBack_4 : decode cX8_goBack 4 = .ok (.iload_n 1, 1) := by decide +kernel
theorem dX8_goBack_5 : decode cX8_goBack 5 = .ok (.iconst 2, 1) := by decide +kernel
theorem dX8_goBack_6 : decode cX8_goBack 6 = .ok (.if_icmp .lt 6, 3) := by decide +kernel
theorem dX8_goBack_9 : decode cX8_goBack 9 = .ok (.ldc 138, 2) := by decide +kernel
theorem dX8_goBack_11 : decode cX8_goBack 11 = .ok (.ireturn, 1) := by decide +kernel
theorem dX8_goBack_12 : decode cX8_goBack 12 = .ok (.aload_n 0, 1) := by decide +kernel
theorem dX8_goBack_13 : decode cX8_goBack 13 = .ok (.getfield 107, 3) := by decide +kernel
theorem dX8_goBack_16 : decode cX8_goBack 16 = .ok (.iload_n 1, 1) := by decide +kernel
theorem dX8_goBack_17 : decode cX8_goBack 17 = .ok (.invokestatic 148, 3) := by decide +kernel
theorem dX8_goBack_20 : decode cX8_goBack 20 = .ok (.ifCond .ne 6, 3) := by decide +kernel
theorem dX8_goBack_23 : decode cX8_goBack 23 = .ok (.ldc 175, 2) := by decide +kernel
theorem dX8_goBack_25 : decode cX8_goBack 25 = .ok (.ireturn, 1) := by decide +kernel
theorem dX8_goBack_26 : decode cX8_goBack 26 = .ok (.aload_n 0, 1) := by decide +kernel
theorem dX8_goBack_27 : decode cX8_goBack 27 = .ok (.getfield 19, 3) := by decide +kernel
theorem dX8_goBack_30 : decode cX8_goBack 30 = .ok (.aload_n 0, 1) := by decide +kernel
theorem dX8_goBack_31 : decode cX8_goBack 31 = .ok (.getfield 23, 3) := by decide +kernel
theorem dX8_goBack_34 : decode cX8_goBack 34 = .ok (.iload_n 1, 1) := by decide +kernel
theorem dX8_goBack_35 : decode cX8_goBack 35 = .ok (.aaload, 1) := by decide +kernel
theorem dX8_goBack_36 : decode cX8_goBack 36 = .ok (.invokevirtual 269, 3) := by decide +kernel
theorem dX8_goBack_39 : decode cX8_goBack 39 = .ok (.iconst 1, 1) := by decide +kernel
theorem dX8_goBack_40 : decode cX8_goBack 40 = .ok (.ireturn, 1) := by decide +kernel
theorem dX8_has_0 : decode cX8_has 0 = .ok (.iload_n 0, 1) := by decide +kernel
theorem dX8_has_1 : decode cX8_has 1 = .ok (.iload_n 1, 1) := by decide +kernel
theorem dX8_has_2 : decode cX8_has 2 = .ok (.ishr, 1) := by decide +kernel
theorem dX8_has_3 : decode cX8_has 3 = .ok (.iconst 1, 1) := by decide +kernel
theorem dX8_has_4 : decode cX8_has 4 = .ok (.iand, 1) := by decide +kernel
theorem dX8_has_5 : decode cX8_has 5 = .ok (.ifCond .eq 7, 3) := by decide +kernel
theorem dX8_has_8 : decode cX8_has 8 = .ok (.iconst 1, 1) := by decide +kernel
theorem dX8_has_9 : decode cX8_has 9 = .ok (.goto 4, 3) := by decide +kernel
theorem dX8_has_12 : decode cX8_has 12 = .ok (.iconst 0, 1) := by decide +kernel
theorem dX8_has_13 : decode cX8_has 13 = .ok (.ireturn, 1) := by decide +kernel
end
section
theorem dX9_in_0 : decode cX9_in 0 = .ok (.lload_n 0, 1) := by decide +kernel
theorem dX9_in_1 : decode cX9_in 1 = .ok (.lload_n 2, 1) := by decide +kernel
theorem dX9_in_2 : decode cX9_in 2 = .ok (.lcmp, 1) := by decide +kernel
theorem dX9_in_3 : decode cX9_in 3 = .ok (.ifCond .lt 14, 3) := by decide +kernel
theorem dX9_in_6 : decode cX9_in 6 = .ok (.lload_n 0, 1) := by decide +kernel
theorem dX9_in_7 : decode cX9_in 7 = .ok (.lload 4, 2) := by decide +kernel
theorem dX9_in_9 : decode cX9_in 9 = .ok (.lcmp, 1) := by decide +kernel
theorem dX9_in_10 : decode cX9_in 10 = .ok (.ifCond .gt 7, 3) := by decide +kernel
theorem dX9_in_13 : decode cX9_in 13 = .ok (.iconst 1, 1) := by decide +kernel
theorem dX9_in_14 : decode cX9_in 14 = .ok (.goto 4, 3) := by decide +kernel
theorem dX9_in_17 : decode cX9_in 17 = .ok (.iconst 0, 1) := by decide +kernel
theorem dX9_in_18 : decode cX9_in 18 = .ok (.ireturn, 1) := by decide +kernel
theorem dX9_init_0 : decode cX9_init 0 = .ok (.aload_n 0, 1) := by decide +kernel
theorem dX9_init_1 : decode cX9_init 1 = .ok (.invokespecial 1, 3) := by decide +kernel
theorem dX9_init_4 : decode cX9_init 4 = .ok (.aload_n 0, 1) := by decide +kernel
theorem dX9_init_5 : decode cX9_init 5 = .ok (.sipush 500, 3) := by decide +kernel
theorem dX9_init_8 : decode cX9_init 8 = .ok (.newarray .int, 2) := by decide +kernel
theorem dX9_init_10 : decode cX9_init 10 = .ok (.putfield 7, 3) := by decide +kernel
theorem dX9_init_13 : decode cX9_init 13 = .ok (.aload_n 0, 1) := by decide +kernel
theorem dX9_init_14 : decode cX9_init 14 = .ok (.iconst 4, 1) := by decide +kernel
theorem dX9_init_15 : decode cX9_init 15 = .ok (.newarray .int, 2) := by decide +kernel
theorem dX9_init_17 : decode cX9_init 17 = .ok (.putfield 13, 3) := by decide +kernel
theorem dX9_init_20 : decode cX9_init 20 = .ok (.aload_n 0, 1) := by decide +kernel
theorem dX9_init_21 : decode cX9_init 21 = .ok (.iconst 4, 1) := by decide +kernel
theorem dX9_init_22 : decode cX9_init 22 = .ok (.newarray .int, 2) := by decide +kernel
theorem dX9_init_24 : decode cX9_init 24 = .ok (.putfield 16, 3) := by decide +kernel
theorem dX9_init_27 : decode cX9_init 27 = .ok (.aload_n 0, 1) := by decide +kernel
theorem dX9_init_28 : decode cX9_init 28 = .ok (.bipush 8, 2) := by decide +kernel
theorem dX9_init_30 : decode cX9_init 30 = .ok (.newarray .int, 2) := by decide +kernel
theorem dX9_init_32 : decode cX9_init 32 = .ok (.putfield 19, 3) := by decide +kernel
theorem dX9_init_35 : decode cX9_init 35 = .ok (.aload_n 0, 1) := by decide +kernel
theorem dX9_init_36 : decode cX9_init 36 = .ok (.bipush 20, 2) := by decide +kernel
theorem dX9_init_38 : decode cX9_init 38 = .ok (.newarray .int, 2) := by decide +kernel
theorem dX9_init_40 : decode cX9_init 40 = .ok (.putfield 22, 3) := by decide +kernel
theorem dX9_init_43 : decode cX9_init 43 = .ok (.aload_n 0, 1) := by decide +kernel
theorem dX9_init_44 : decode cX9_init 44 = .ok (.bipush 20, 2) := by decide +kernel
theorem dX9_init_46 : decode cX9_init 46 = .ok (.newarray .int, 2) := by decide +kernel
theorem dX9_init_48 : decode cX9_init 48 = .ok (.putfield 25, 3) := by decide +kernel
theorem dX9_init_51 : decode cX9_init 51 = .ok (.aload_n 0, 1) := by decide +kernel
theorem dX9_init_52 : decode cX9_init 52 = .ok (.bipush 20, 2) := by decide +kernel
theorem dX9_init_54 : decode cX9_init 54 = .ok (.newarray .int, 2) := by decide +kernel
theorem dX9_init_56 : decode cX9_init 56 = .ok (.putfield 28, 3) := by decide +kernel
theorem dX9_init_59 : decode cX9_init 59 = .ok (.aload_n 0, 1) := by decide +kernel
theorem dX9_init_60 : decode cX9_init 60 = .ok (.iconst 4, 1) := by decide +kernel
theorem dX9_init_61 : decode cX9_init 61 = .ok (.newarray .int, 2) := by decide +kernel
theorem dX9_init_63 : decode cX9_init 63 = .ok (.putfield 31, 3) := by decide +kernel
theorem dX9_init_66 : decode cX9_init 66 = .ok (.aload_n 0, 1) := by decide +kernel
theorem dX9_init_67 : decode cX9_init 67 = .ok (.bipush 8, 2) := by decide +kernel
theorem dX9_init_69 : decode cX9_init 69 = .ok (.newarray .int, 2) := by decide +kernel
theorem dX9_init_71 : decode cX9_init 71 = .ok (.putfield 34, 3) := by decide +kernel
theorem dX9_init_74 : decode cX9_init 74 = .ok (.aload_n 0, 1) := by decide +kernel
theorem dX9_init_75 : decode cX9_init 75 = .ok (.bipush 8, 2) := by decide +kernel
theorem dX9_init_77 : decode cX9_init 77 = .ok (.newarray .int, 2) := by decide +kernel
theorem dX9_init_79 : decode cX9_init 79 = .ok (.putfield 37, 3) := by decide +kernel
theorem dX9_init_82 : decode cX9_init 82 = .ok (.aload_n 0, 1) := by decide +kernel
theorem dX9_init_83 : decode cX9_init 83 = .ok (.bipush 20, 2) := by decide +kernel
theorem dX9_init_85 : decode cX9_init 85 = .ok (.newarray .int, 2) := by decide +kernel
theorem dX9_init_87 : decode cX9_init 87 = .ok (.putfield 40, 3) := by decide +kernel
theorem dX9_init_90 : decode cX9_init 90 = .ok (.aload_n 0, 1) := by decide +kernel
theorem dX9_init_91 : decode cX9_init 91 = .ok (.bipush 20, 2) := by decide +kernel
theorem dX9_init_93 : decode cX9_init 93 = .ok (.newarray .int, 2) := by decide +kernel
theorem dX9_init_95 : decode cX9_init 95 = .ok (.putfield 43, 3) := by decide +kernel
theorem dX9_init_98 : decode cX9_init 98 = .ok (.aload_n 0, 1) := by decide +kernel
theorem dX9_init_99 : decode cX9_init 99 = .ok (.bipush 20, 2) := by decide +kernel
theorem dX9_init_101 : decode cX9_init 101 = .ok (.newarray .int, 2) := by decide +kernel
theorem dX9_init_103 : decode cX9_init 103 = .ok (.putfield 46, 3) := by decide +kernel
theorem dX9_init_106 : decode cX9_init 106 = .ok (.aload_n 0, 1) := by decide +kernel
theorem dX9_init_107 : decode cX9_init 107 = .ok (.bipush 20, 2) := by decide +kernel
theorem dX9_init_109 : decode cX9_init 109 = .ok (.newarray .int, 2) := by decide +kernel
theorem dX9_init_111 : decode cX9_init 111 = .ok (.putfield 49, 3) := by decide +kernel
theorem dX9_init_114 : decode cX9_init 114 = .ok (.aload_n 0, 1) := by decide +kernel
theorem dX9_init_115 : decode cX9_init 115 = .ok (.sipush 4096, 3) := by decide +kernel
theorem dX9_init_118 : decode cX9_init 118 = .ok (.newarray .long, 2) := by decide +kernel
theorem dX9_init_120 : decode cX9_init 120 = .ok (.putfield 52, 3) := by decide +kernel
theorem dX9_init_123 : decode cX9_init 123 = .ok (.aload_n 0, 1) := by decide +kernel
theorem dX9_init_124 : decode cX9_init 124 = .ok (.iconst 5, 1) := by decide +kernel
theorem dX9_init_125 : decode cX9_init 125 = .ok (.newarray .int, 2) := by decide +kernel
theorem dX9_init_127 : decode cX9_init 127 = .ok (.putfield 56, 3) := by decide +kernel
theorem dX9_init_130 : decode cX9_init 130 = .ok (.aload_n 0, 1) := by decide +kernel
theorem dX9_init_131 : decode cX9_init 131 = .ok (.iconst 5, 1) := by decide +kernel
theorem dX9_init_132 : decode cX9_init 132 = .ok (.newarray .int, 2) := by decide +kernel
theorem dX9_init_134 : decode cX9_init 134 = .ok (.putfield 59, 3) := by decide +kernel
theorem dX9_init_137 : decode cX9_init 137 = .ok (.aload_n 0, 1) := by decide +kernel
theorem dX9_init_138 : decode cX9_init 138 = .ok (.iconst 5, 1) := by decide +kernel
theorem dX9_init_139 : decode cX9_init 139 = .ok (.newarray .int, 2) := by decide +kernel
theorem dX9_init_141 : decode cX9_init 141 = .ok (.putfield 62, 3) := by decide +kernel
theorem dX9_init_144 : decode cX9_init 144 = .ok (.aload_n 0, 1) := by decide +kernel
theorem dX9_init_145 : decode cX9_init 145 = .ok (.bipush 8, 2) := by decide +kernel
theorem dX9_init_147 : decode cX9_init 147 = .ok (.newarray .int, 2) := by decide +kernel
theorem dX9_init_149 : decode cX9_init 149 = .ok (.putfield 65, 3) := by decide +kernel
theorem dX9_init_152 : decode cX9_init 152 = .ok (.aload_n 0, 1) := by decide +kernel
theorem dX9_init_153 : decode cX9_init 153 = .ok (.bipush 8, 2) := by decide +kernel
theorem dX9_init_155 : decode cX9_init 155 = .ok (.newarray .int, 2) := by decide +kernel
theorem dX9_init_157 : decode cX9_init 157 = .ok (.putfield 68, 3) := by decide +kernel
theorem dX9_init_160 : decode cX9_init 160 = .ok (.aload_n 0, 1) := by decide +kernel
theorem dX9_init_161 : decode cX9_init 161 = .ok (.bipush 8, 2) := by decide +kernel
theorem dX9_init_163 : decode cX9_init 163 = .ok (.newarray .int, 2) := by decide +kernel
theorem dX9_init_165 : decode cX9_init 165 = .ok (.putfield 71, 3) := by decide +kernel
theorem dX9_init_168 : decode cX9_init 168 = .ok (.aload_n 0, 1) := by decide +kernel
theorem dX9_init_169 : decode cX9_init 169 = .ok (.bipush 8, 2) := by decide +kernel
theorem dX9_init_171 : decode cX9_init 171 = .ok (.newarray .int, 2) := by decide +kernel
theorem dX9_init_173 : decode cX9_init 173 = .ok (.putfield 74, 3) := by decide +kernel
theorem dX9_init_176 : decode cX9_init 176 = .ok (.aload_n 0, 1) := by decide +kernel
theorem dX9_init_177 : decode cX9_init 177 = .ok (.bipush 30, 2) := by decide +kernel
theorem dX9_init_179 : decode cX9_init 179 = .ok (.newarray .int, 2) := by decide +kernel
theorem dX9_init_181 : decode cX9_init 181 = .ok (.putfield 77, 3) := by decide +kernel
theorem dX9_init_184 : decode cX9_init 184 = .ok (.aload_n 0, 1) := by decide +kernel
theorem dX9_init_185 : decode cX9_init 185 = .ok (.bipush 30, 2) := by decide +kernel
theorem dX9_init_187 : decode cX9_init 187 = .ok (.newarray .int, 2) := by decide +kernel
theorem dX9_init_189 : decode cX9_init 189 = .ok (.putfield 80, 3) := by decide +kernel
theorem dX9_init_192 : decode cX9_init 192 = .ok (.aload_n 0, 1) := by decide +kernel
theorem dX9_init_193 : decode cX9_init 193 = .ok (.bipush 46, 2) := by decide +kernel
theorem dX9_init_195 : decode cX9_init 195 = .ok (.newarray .int, 2) := by decide +kernel
theorem dX9_init_197 : decode cX9_init 197 = .ok (.putfield 83, 3) := by decide +kernel
theorem dX9_init_200 : decode cX9_init 200 = .ok (.aload_n 0, 1) := by decide +kernel
theorem dX9_init_201 : decode cX9_init 201 = .ok (.iconst (-1), 1) := by decide +kernel
theorem dX9_init_202 : decode cX9_init 202 = .ok (.putfield 86, 3) := by decide +kernel
theorem dX9_init_205 : decode cX9_init 205 = .ok (.return_, 1) := by decide +kernel
theorem dX9_size_0 : decode cX9_size 0 = .ok (.iconst 0, 1) := by decide +kernel
theorem dX9_size_1 : decode cX9_size 1 = .ok (.istore_n 1, 1) := by decide +kernel
theorem dX9_size_2 : decode cX9_size 2 = .ok (.iload_n 0, 1) := by decide +kernel
theorem dX9_size_3 : decode cX9_size 3 = .ok (.istore_n 2, 1) := by decide +kernel
theorem dX9_size_4 : decode cX9_size 4 = .ok (.iload_n 2, 1) := by decide +kernel
theorem dX9_size_5 : decode cX9_size 5 = .ok (.ifCond .eq 15, 3) := by decide +kernel
theorem dX9_size_8 : decode cX9_size 8 = .ok (.iinc 1 1, 3) := by decide +kernel
theorem dX9_size_11 : decode cX9_size 11 = .ok (.iload_n 2, 1) := by decide +kernel
theorem dX9_size_12 : decode cX9_size 12 = .ok (.iload_n 2, 1) := by decide +kernel
theorem dX9_size_13 : decode cX9_size 13 = .ok (.iconst 1, 1) := by decide +kernel
theorem dX9_size_14 : decode cX9_size 14 = .ok (.isub, 1) := by decide +kernel
theorem dX9_size_15 : decode cX9_size 15 = .ok (.iand, 1) := by decide +kernel
theorem dX9_size_16 : decode cX9_size 16 = .ok (.istore_n 2, 1) := by decide +kernel
theorem dX9_size_17 : decode cX9_size 17 = .ok (.goto (-13), 3) := by decide +kernel
theorem dX9_size_20 : decode cX9_size 20 = .ok (.iload_n 1, 1) := by decide +kernel
theorem dX9_size_21 : decode cX9_size 21 = .ok (.ireturn, 1) := by decide +kernel
theorem dX9_feed_0 : decode cX9_feed 0 = .ok (.iload_n 1, 1) := by decide +kernel
theorem dX9_feed_1 : decode cX9_feed 1 = .ok (.i2l, 1) := by decide +kernel
theorem dX9_feed_2 : decode cX9_feed 2 = .ok (.lconst 1, 1) := by decide +kernel
theorem dX9_feed_3 : decode cX9_feed 3 = .ok (.ldc2_w 90, 3) := by decide +kernel
theorem dX9_feed_6 : decode cX9_feed 6 = .ok (.invokestatic 92, 3) := by decide +kernel
theorem dX9_feed_9 : decode cX9_feed 9 = .ok (.ifCond .ne 6, 3) := by decide +kernel
theorem dX9_feed_12 : decode cX9_feed 12 = .ok (.ldc 96, 2) := by decide +kernel
theorem dX9_feed_14 : decode cX9_feed 14 = .ok (.ireturn, 1) := by decide +kernel
theorem dX9_feed_15 : decode cX9_feed 15 = .ok (.aload_n 0, 1) := by decide +kernel
theorem dX9_feed_16 : decode cX9_feed 16 = .ok (.getfield 97, 3) := by decide +kernel
theorem dX9_feed_19 : decode cX9_feed 19 = .ok (.iload_n 1, 1) := by decide +kernel
theorem dX9_feed_20 : decode cX9_feed 20 = .ok (.iadd, 1) := by decide +kernel
theorem dX9_feed_21 : decode cX9_feed 21 = .ok (.sipush 500, 3) := by decide +kernel
theorem dX9_feed_24 : decode cX9_feed 24 = .ok (.if_icmp .le 6, 3) := by decide +kernel
theorem dX9_feed_27 : decode cX9_feed 27 = .ok (.ldc 100, 2) := by decide +kernel
theorem dX9_feed_29 : decode cX9_feed 29 = .ok (.ireturn, 1) := by decide +kernel
theorem dX9_feed_30 : decode cX9_feed 30 = .ok (.iload_n 1, 1) := by decide +kernel
theorem dX9_feed_31 : decode cX9_feed 31 = .ok (.iconst 1, 1) := by decide +kernel
theorem dX9_feed_32 : decode cX9_feed 32 = .ok (.isub, 1) := by decide +kernel
theorem dX9_feed_33 : decode cX9_feed 33 = .ok (.istore 4, 2) := by decide +kernel
theorem dX9_feed_35 : decode cX9_feed 35 = .ok (.iload 4, 2) := by decide +kernel
theorem dX9_feed_37 : decode cX9_feed 37 = .ok (.ifCond .lt 40, 3) := by decide +kernel
theorem dX9_feed_40 : decode cX9_feed 40 = .ok (.aload_n 0, 1) := by decide +kernel
theorem dX9_feed_41 : decode cX9_feed 41 = .ok (.getfield 7, 3) := by decide +kernel
theorem dX9_feed_44 : decode cX9_feed 44 = .ok (.aload_n 0, 1) := by decide +kernel
theorem dX9_feed_45 : decode cX9_feed 45 = .ok (.getfield 97, 3) := by decide +kernel
theorem dX9_feed_48 : decode cX9_feed 48 = .ok (.lload_n 2, 1) := by decide +kernel
theorem dX9_feed_49 : decode cX9_feed 49 = .ok (.bipush 8, 2) := by decide +kernel
theorem dX9_feed_51 : decode cX9_feed 51 = .ok (.iload 4, 2) := by decide +kernel
theorem dX9_feed_53 : decode cX9_feed 53 = .ok (.imul, 1) := by decide +kernel
theorem dX9_feed_54 : decode cX9_feed 54 = .ok (.lshr, 1) := by decide +kernel
theorem dX9_feed_55 : decode cX9_feed 55 = .ok (.ldc2_w 101, 3) := by decide +kernel
theorem dX9_feed_58 : decode cX9_feed 58 = .ok (.land, 1) := by decide +kernel
theorem dX9_feed_59 : decode cX9_feed 59 = .ok (.l2i, 1) := by decide +kernel
theorem dX9_feed_60 : decode cX9_feed 60 = .ok (.iastore, 1) := by decide +kernel
theorem dX9_feed_61 : decode cX9_feed 61 = .ok (.aload_n 0, 1) := by decide +kernel
theorem dX9_feed_62 : decode cX9_feed 62 = .ok (.dup, 1) := by decide +kernel
theorem dX9_feed_63 : decode cX9_feed 63 = .ok (.getfield 97, 3) := by decide +kernel
theorem dX9_feed_66 : decode cX9_feed 66 = .ok (.iconst 1, 1) := by decide +kernel
theorem dX9_feed_67 : decode cX9_feed 67 = .ok (.iadd, 1) := by decide +kernel
theorem dX9_feed_68 : decode cX9_feed 68 = .ok (.putfield 97, 3) := by decide +kernel
theorem dX9_feed_71 : decode cX9_feed 71 = .ok (.iinc 4 (-1), 3) := by decide +kernel
theorem dX9_feed_74 : decode cX9_feed 74 = .ok (.goto (-39), 3) := by decide +kernel
theorem dX9_feed_77 : decode cX9_feed 77 = .ok (.aload_n 0, 1) := by decide +kernel
theorem dX9_feed_78 : decode cX9_feed 78 = .ok (.getfield 97, 3) := by decide +kernel
theorem dX9_feed_81 : decode cX9_feed 81 = .ok (.ireturn, 1) := by decide +kernel
theorem dX9_fails_0 : decode cX9_fails 0 = .ok (.aload_n 0, 1) := by decide +kernel
theorem dX9_fails_1 : decode cX9_fails 1 = .ok (.aload_n 0, 1) := by decide +kernel
theorem dX9_fails_2 : decode cX9_fails 2 = .ok (.getfield 103, 3) := by decide +kernel
theorem dX9_fails_5 : decode cX9_fails 5 = .ok (.ifCond .ne 7, 3) := by decide +kernel
theorem dX9_fails_8 : decode cX9_fails 8 = .ok (.iload_n 2, 1) := by decide +kernel
theorem dX9_fails_9 : decode cX9_fails 9 = .ok (.goto 7, 3) := by decide +kernel
theorem dX9_fails_12 : decode cX9_fails 12 = .ok (.aload_n 0, 1) := by decide +kernel
theorem dX9_fails_13 : decode cX9_fails 13 = .ok (.getfield 106, 3) := by decide +kernel
theorem dX9_fails_16 : decode cX9_fails 16 = .ok (.putfield 106, 3) := by decide +kernel
theorem dX9_fails_19 : decode cX9_fails 19 = .ok (.aload_n 0, 1) := by decide +kernel
theorem dX9_fails_20 : decode cX9_fails 20 = .ok (.aload_n 0, 1) := by decide +kernel
theorem dX9_fails_21 : decode cX9_fails 21 = .ok (.getfield 103, 3) := by decide +kernel
theorem dX9_fails_24 : decode cX9_fails 24 = .ok (.ifCond .ne 7, 3) := by decide +kernel
theorem dX9_fails_27 : decode cX9_fails 27 = .ok (.iload_n 1, 1) := by decide +kernel
theorem dX9_fails_28 : decode cX9_fails 28 = .ok (.goto 7, 3) := by decide +kernel
theorem dX9_fails_31 : decode cX9_fails 31 = .ok (.aload_n 0, 1) := by decide +kernel
theorem dX9_fails_32 : decode cX9_fails 32 = .ok (.getfield 103, 3) := by decide +kernel
theorem dX9_fails_35 : decode cX9_fails 35 = .ok (.putfield 103, 3) := by decide +kernel
theorem dX9_fails_38 : decode cX9_fails 38 = .ok (.return_, 1) := by decide +kernel
theorem dX9_here_0 : decode cX9_here 0 = .ok (.aload_n 0, 1) := by decide +kernel
theorem dX9_here_1 : decode cX9_here 1 = .ok (.getfield 109, 3) := by decide +kernel
theorem dX9_here_4 : decode cX9_here 4 = .ok (.aload_n 0, 1) := by decide +kernel
theorem dX9_here_5 : decode cX9_here 5 = .ok (.getfield 97, 3) := by decide +kernel
theorem dX9_here_8 : decode cX9_here 8 = .ok (.if_icmp .ge 30, 3) := by decide +kernel
theorem dX9_here_11 : decode cX9_here 11 = .ok (.aload_n 0, 1) := by decide +kernel
theorem dX9_here_12 : decode cX9_here 12 = .ok (.getfield 7, 3) := by decide +kernel
theorem dX9_here_15 : decode cX9_here 15 = .ok (.aload_n 0, 1) := by decide +kernel
theorem dX9_here_16 : decode cX9_here 16 = .ok (.getfield 109, 3) := by decide +kernel
theorem dX9_here_19 : decode cX9_here 19 = .ok (.iaload, 1) := by decide +kernel
theorem dX9_here_20 : decode cX9_here 20 = .ok (.bipush 32, 2) := by decide +kernel
theorem dX9_here_22 : decode cX9_here 22 = .ok (.if_icmp .ne 16, 3) := by decide +kernel
theorem dX9_here_25 : decode cX9_here 25 = .ok (.aload_n 0, 1) := by decide +kernel
theorem dX9_here_26 : decode cX9_here 26 = .ok (.dup, 1) := by decide +kernel
theorem dX9_here_27 : decode cX9_here 27 = .ok (.getfield 109, 3) := by decide +kernel
theorem dX9_here_30 : decode cX9_here 30 = .ok (.iconst 1, 1) := by decide +kernel
theorem dX9_here_31 : decode cX9_here 31 = .ok (.iadd, 1) := by decide +kernel
theorem dX9_here_32 : decode cX9_here 32 = .ok (.putfield 109, 3) := by decide +kernel
theorem dX9_here_35 : decode cX9_here 35 = .ok (.goto (-35), 3) := by decide +kernel
theorem dX9_here_38 : decode cX9_here 38 = .ok (.aload_n 0, 1) := by decide +kernel
theorem dX9_here_39 : decode cX9_here 39 = .ok (.getfield 109, 3) := by decide +kernel
theorem dX9_here_42 : decode cX9_here 42 = .ok (.aload_n 0, 1) := by decide +kernel
theorem dX9_here_43 : decode cX9_here 43 = .ok (.getfield 97, 3) := by decide +kernel
theorem dX9_here_46 : decode cX9_here 46 = .ok (.if_icmp .ge 15, 3) := by decide +kernel
theorem dX9_here_49 : decode cX9_here 49 = .ok (.aload_n 0, 1) := by decide +kernel
theorem dX9_here_50 : decode cX9_here 50 = .ok (.getfield 7, 3) := by decide +kernel
theorem dX9_here_53 : decode cX9_here 53 = .ok (.aload_n 0, 1) := by decide +kernel
theorem dX9_here_54 : decode cX9_here 54 = .ok (.getfield 109, 3) := by decide +kernel
theorem dX9_here_57 : decode cX9_here 57 = .ok (.iaload, 1) := by decide +kernel
theorem dX9_here_58 : decode cX9_here 58 = .ok (.goto 4, 3) := by decide +kernel
theorem dX9_here_61 : decode cX9_here 61 = .ok (.iconst 0, 1) := by decide +kernel
theorem dX9_here_62 : decode cX9_here 62 = .ok (.ireturn, 1) := by decide +kernel
theorem dX9_isEnd_0 : decode cX9_isEnd 0 = .ok (.aload_n 0, 1) := by decide +kernel
theorem dX9_isEnd_1 : decode cX9_isEnd 1 = .ok (.invokevirtual 112, 3) := by decide +kernel
theorem dX9_isEnd_4 : decode cX9_isEnd 4 = .ok (.pop, 1) := by decide +kernel
theorem dX9_isEnd_5 : decode cX9_isEnd 5 = .ok (.aload_n 0, 1) := by decide +kernel
theorem dX9_isEnd_6 : decode cX9_isEnd 6 = .ok (.getfield 109, 3) := by decide +kernel
theorem dX9_isEnd_9 : decode cX9_isEnd 9 = .ok (.aload_n 0, 1) := by decide +kernel
theorem dX9_isEnd_10 : decode cX9_isEnd 10 = .ok (.getfield 97, 3) := by decide +kernel
theorem dX9_isEnd_13 : decode cX9_isEnd 13 = .ok (.if_icmp .ne 7, 3) := by decide +kernel
theorem dX9_isEnd_16 : decode cX9_isEnd 16 = .ok (.iconst 1, 1) := by decide +kernel
theorem dX9_isEnd_17 : decode cX9_isEnd 17 = .ok (.goto 4, 3) := by decide +kernel
theorem dX9_isEnd_20 : decode cX9_isEnd 20 = .ok (.iconst 0, 1) := by decide +kernel
theorem dX9_isEnd_21 : decode cX9_isEnd 21 = .ok (.ireturn, 1) := by decide +kernel
theorem dX9_isLetter_0 : decode cX9_isLetter 0 = .ok (.iload_n 0, 1) := by decide +kernel
theorem dX9_isLetter_1 : decode cX9_isLetter 1 = .ok (.i2l, 1) := by decide +kernel
theorem dX9_isLetter_2 : decode cX9_isLetter 2 = .ok (.ldc2_w 116, 3) := by decide +kernel
theorem dX9_isLetter_5 : decode cX9_isLetter 5 = .ok (.ldc2_w 118, 3) := by decide +kernel
theorem dX9_isLetter_8 : decode cX9_isLetter 8 = .ok (.invokestatic 92, 3) := by decide +kernel
theorem dX9_isLetter_11 : decode cX9_isLetter 11 = .ok (.ireturn, 1) := by decide +kernel
theorem dX9_isFigure_0 : decode cX9_isFigure 0 = .ok (.iload_n 0, 1) := by decide +kernel
theorem dX9_isFigure_1 : decode cX9_isFigure 1 = .ok (.i2l, 1) := by decide +kernel
theorem dX9_isFigure_2 : decode cX9_isFigure 2 = .ok (.ldc2_w 120, 3) := by decide +kernel
theorem dX9_isFigure_5 : decode cX9_isFigure 5 = .ok (.ldc2_w 122, 3) := by decide +kernel
theorem dX9_isFigure_8 : decode cX9_isFigure 8 = .ok (.invokestatic 92, 3) := by decide +kernel
theorem dX9_isFigure_11 : decode cX9_isFigure 11 = .ok (.ireturn, 1) := by decide +kernel
theorem dX9_must_0 : decode cX9_must 0 = .ok (.aload_n 0, 1) := by decide +kernel
theorem dX9_must_1 : decode cX9_must 1 = .ok (.getfield 103, 3) := by decide +kernel
theorem dX9_must_4 : decode cX9_must 4 = .ok (.ifCond .ne 44, 3) := by decide +kernel
theorem dX9_must_7 : decode cX9_must 7 = .ok (.aload_n 0, 1) := by decide +kernel
theorem dX9_must_8 : decode cX9_must 8 = .ok (.invokevirtual 112, 3) := by decide +kernel
theorem dX9_must_11 : decode cX9_must 11 = .ok (.iload_n 1, 1) := by decide +kernel
theorem dX9_must_12 : decode cX9_must 12 = .ok (.if_icmp .ne 27, 3) := by decide +kernel
theorem dX9_must_15 : decode cX9_must 15 = .ok (.aload_n 0, 1) := by decide +kernel
theorem dX9_must_16 : decode cX9_must 16 = .ok (.getfield 109, 3) := by decide +kernel
theorem dX9_must_19 : decode cX9_must 19 = .ok (.aload_n 0, 1) := by decide +kernel
theorem dX9_must_20 : decode cX9_must 20 = .ok (.getfield 97, 3) := by decide +kernel
theorem dX9_must_23 : decode cX9_must 23 = .ok (.if_icmp .ge 16, 3) := by decide +kernel
theorem dX9_must_26 : decode cX9_must 26 = .ok (.aload_n 0, 1) := by decide +kernel
theorem dX9_must_27 : decode cX9_must 27 = .ok (.dup, 1) := by decide +kernel
theorem dX9_must_28 : decode cX9_must 28 = .ok (.getfield 109, 3) := by decide +kernel
theorem dX9_must_31 : decode cX9_must 31 = .ok (.iconst 1, 1) := by decide +kernel
theorem dX9_must_32 : decode cX9_must 32 = .ok (.iadd, 1) := by decide +kernel
theorem dX9_must_33 : decode cX9_must 33 = .ok (.putfield 109, 3) := by decide +kernel
theorem dX9_must_36 : decode cX9_must 36 = .ok (.goto 12, 3) := by decide +kernel
theorem dX9_must_39 : decode cX9_must 39 = .ok (.aload_n 0, 1) := by decide +kernel
theorem dX9_must_40 : decode cX9_must 40 = .ok (.iconst 1, 1) := by decide +kernel
theorem dX9_must_41 : decode cX9_must 41 = .ok (.aload_n 0, 1) := by decide +kernel
theorem dX9_must_42 : decode cX9_must 42 = .ok (.getfield 109, 3) := by decide +kernel
theorem dX9_must_45 : decode cX9_must 45 = .ok (.invokevirtual 124, 3) := by decide +kernel
theorem dX9_must_48 : decode cX9_must 48 = .ok (.return_, 1) := by decide +kernel
theorem dX9_number_0 : decode cX9_number 0 = .ok (.aload_n 0, 1) := by decide +kernel
theorem dX9_number_1 : decode cX9_number 1 = .ok (.getfield 103, 3) := by decide +kernel
theorem dX9_number_4 : decode cX9_number 4 = .ok (.ifCond .eq 5, 3) := by decide +kernel
theorem dX9_number_7 : decode cX9_number 7 = .ok (.iconst 0, 1) := by decide +kernel
theorem dX9_number_8 : decode cX9_number 8 = .ok (.ireturn, 1) := by decide +kernel
theorem dX9_number_9 : decode cX9_number 9 = .ok (.aload_n 0, 1) := by decide +kernel
theorem dX9_number_10 : decode cX9_number 10 = .ok (.invokevirtual 112, 3) := by decide +kernel
theorem dX9_number_13 : decode cX9_number 13 = .ok (.invokestatic 128, 3) := by decide +kernel
theorem dX9_number_16 : decode cX9_number 16 = .ok (.ifCond .eq 14, 3) := by decide +kernel
theorem dX9_number_19 : decode cX9_number 19 = .ok (.aload_n 0, 1) := by decide +kernel
theorem dX9_number_20 : decode cX9_number 20 = .ok (.getfield 109, 3) := by decide +kernel
theorem dX9_number_23 : decode cX9_number 23 = .ok (.aload_n 0, 1) := by decide +kernel
theorem dX9_number_24 : decode cX9_number 24 = .ok (.getfield 97, 3) := by decide +kernel
theorem dX9_number_27 : decode cX9_number 27 = .ok (.if_icmp .ne 14, 3) := by decide +kernel
theorem dX9_number_30 : decode cX9_number 30 = .ok (.aload_n 0, 1) := by decide +kernel
theorem dX9_number_31 : decode cX9_number 31 = .ok (.iconst 1, 1) := by decide +kernel
theorem dX9_number_32 : decode cX9_number 32 = .ok (.aload_n 0, 1) := by decide +kernel
theorem dX9_number_33 : decode cX9_number 33 = .ok (.getfield 109, 3) := by decide +kernel
theorem dX9_number_36 : decode cX9_number 36 = .ok (.invokevirtual 124, 3) := by decide +kernel
theorem dX9_number_39 : decode cX9_number 39 = .ok (.iconst 0, 1) := by decide +kernel
theorem dX9_number_40 : decode cX9_number 40 = .ok (.ireturn, 1) := by decide +kernel
theorem dX9_number_41 : decode cX9_number 41 = .ok (.aload_n 0, 1) := by decide +kernel
theorem dX9_number_42 : decode cX9_number 42 = .ok (.aload_n 0, 1) := by decide +kernel
theorem dX9_number_43 : decode cX9_number 43 = .ok (.getfield 109, 3) := by decide +kernel
theorem dX9_number_46 : decode cX9_number 46 = .ok (.putfield 132, 3) := by decide +kernel
theorem dX9_number_49 : decode cX9_number 49 = .ok (.iconst 0, 1) := by decide +kernel
theorem dX9_number_50 : decode cX9_number 50 = .ok (.istore_n 3, 1) := by decide +kernel
theorem dX9_number_51 : decode cX9_number 51 = .ok (.aload_n 0, 1) := by decide +kernel
theorem dX9_number_52 : decode cX9_number 52 = .ok (.getfield 109, 3) := by decide +kernel
theorem dX9_number_55 : decode cX9_number 55 = .ok (.aload_n 0, 1) := by decide +kernel
theorem dX9_number_56 : decode cX9_number 56 = .ok (.getfield 97, 3) := by decide +kernel
theorem dX9_number_59 : decode cX9_number 59 = .ok (.if_icmp .ge 60, 3) := by decide +kernel
theorem dX9_number_62 : decode cX9_number 62 = .ok (.aload_n 0, 1) := by decide +kernel
theorem dX9_number_63 : decode cX9_number 63 = .ok (.getfield 7, 3) := by decide +kernel
theorem dX9_number_66 : decode cX9_number 66 = .ok (.aload_n 0, 1) := by decide +kernel
theorem dX9_number_67 : decode cX9_number 67 = .ok (.getfield 109, 3) := by decide +kernel
theorem dX9_number_70 : decode cX9_number 70 = .ok (.iaload, 1) := by decide +kernel
theorem dX9_number_71 : decode cX9_number 71 = .ok (.invokestatic 128, 3) := by decide +kernel
theorem dX9_number_74 : decode cX9_number 74 = .ok (.ifCond .eq 45, 3) := by decide +kernel
theorem dX9_number_77 : decode cX9_number 77 = .ok (.iload_n 3, 1) := by decide +kernel
theorem dX9_number_78 : decode cX9_number 78 = .ok (.sipush 9999, 3) := by decide +kernel
theorem dX9_number_81 : decode cX9_number 81 = .ok (.if_icmp .le 7, 3) := by decide +kernel
theorem dX9_number_84 : decode cX9_number 84 = .ok (.iload_n 3, 1) := by decide +kernel
theorem dX9_number_85 : decode cX9_number 85 = .ok (.goto 20, 3) := by decide +kernel
theorem dX9_number_88 : decode cX9_number 88 = .ok (.bipush 10, 2) := by decide +kernel
theorem dX9_number_90 : decode cX9_number 90 = .ok (.iload_n 3, 1) := by decide +kernel
theorem dX9_number_91 : decode cX9_number 91 = .ok (.imul, 1) := by decide +kernel
theorem dX9_number_92 : decode cX9_number 92 = .ok (.aload_n 0, 1) := by decide +kernel
theorem dX9_number_93 : decode cX9_number 93 = .ok (.getfield 7, 3) := by decide +kernel
theorem dX9_number_96 : decode cX9_number 96 = .ok (.aload_n 0, 1) := by decide +kernel
theorem dX9_number_97 : decode cX9_number 97 = .ok (.getfield 109, 3) := by decide +kernel
theorem dX9_number_100 : decode cX9_number 100 = .ok (.iaload, 1) := by decide +kernel
theorem dX9_number_101 : decode cX9_number 101 = .ok (.iadd, 1) := by decide +kernel
theorem dX9_number_102 : decode cX9_number 102 = .ok (.bipush 48, 2) := by decide +kernel
theorem dX9_number_104 : decode cX9_number 104 = .ok (.isub, 1) := by decide +kernel
theorem dX9_number_105 : decode cX9_number 105 = .ok (.istore_n 3, 1) := by decide +kernel
theorem dX9_number_106 : decode cX9_number 106 = .ok (.aload_n 0, 1) := by decide +kernel
theorem dX9_number_107 : decode cX9_number 107 = .ok (.dup, 1) := by decide +kernel
theorem dX9_number_108 : decode cX9_number 108 = .ok (.getfield 109, 3) := by decide +kernel
theorem dX9_number_111 : decode cX9_number 111 = .ok (.iconst 1, 1) := by decide +kernel
theorem dX9_number_112 : decode cX9_number 112 = .ok (.iadd, 1) := by decide +kernel
theorem dX9_number_113 : decode cX9_number 113 = .ok (.putfield 109, 3) := by decide +kernel
theorem dX9_number_116 : decode cX9_number 116 = .ok (.goto (-65), 3) := by decide +kernel
theorem dX9_number_119 : decode cX9_number 119 = .ok (.aload_n 0, 1) := by decide +kernel
theorem dX9_number_120 : decode cX9_number 120 = .ok (.getfield 109, 3) := by decide +kernel
theorem dX9_number_123 : decode cX9_number 123 = .ok (.aload_n 0, 1) := by decide +kernel
theorem dX9_number_124 : decode cX9_number 124 = .ok (.getfield 132, 3) := by decide +kernel
theorem dX9_number_127 : decode cX9_number 127 = .ok (.isub, 1) := by decide +kernel
theorem dX9_number_128 : decode cX9_number 128 = .ok (.iconst 3, 1) := by decide +kernel
theorem dX9_number_129 : decode cX9_number 129 = .ok (.if_icmp .gt 15, 3) := by decide +kernel
theorem dX9_number_132 : decode cX9_number 132 = .ok (.iload_n 3, 1) := by decide +kernel
theorem dX9_number_133 : decode cX9_number 133 = .ok (.i2l, 1) := by decide +kernel
theorem dX9_number_134 : decode cX9_number 134 = .ok (.iload_n 1, 1) := by decide +kernel
theorem dX9_number_135 : decode cX9_number 135 = .ok (.i2l, 1) := by decide +kernel
theorem dX9_number_136 : decode cX9_number 136 = .ok (.iload_n 2, 1) := by decide +kernel
theorem dX9_number_137 : decode cX9_number 137 = .ok (.i2l, 1) := by decide +kernel
theorem dX9_number_138 : decode cX9_number 138 = .ok (.invokestatic 92, 3) := by decide +kernel
theorem dX9_number_141 : decode cX9_number 141 = .ok (.ifCond .ne 12, 3) := by decide +kernel
theorem dX9_number_144 : decode cX9_number 144 = .ok (.aload_n 0, 1) := by decide +kernel
theorem dX9_number_145 : decode cX9_number 145 = .ok (.iconst 2, 1) := by decide +kernel
theorem dX9_number_146 : decode cX9_number 146 = .ok (.aload_n 0, 1) := by decide +kernel
theorem dX9_number_147 : decode cX9_number 147 = .ok (.getfield 132, 3) := by decide +kernel
theorem dX9_number_150 : decode cX9_number 150 = .ok (.invokevirtual 124, 3) := by decide +kernel
theorem dX9_number_153 : decode cX9_number 153 = .ok (.iload_n 3, 1) := by decide +kernel
theorem dX9_number_154 : decode cX9_number 154 = .ok (.ireturn, 1) := by decide +kernel
theorem dX9_word_0 : decode cX9_word 0 = .ok (.aload_n 0, 1) := by decide +kernel
theorem dX9_word_1 : decode cX9_word 1 = .ok (.invokevirtual 112, 3) := by decide +kernel
theorem dX9_word_4 : decode cX9_word 4 = .ok (.pop, 1) := by decide +kernel
theorem dX9_word_5 : decode cX9_word 5 = .ok (.aload_n 0, 1) := by decide +kernel
theorem dX9_word_6 : decode cX9_word 6 = .ok (.aload_n 0, 1) := by decide +kernel
theorem dX9_word_7 : decode cX9_word 7 = .ok (.getfield 109, 3) := by decide +kernel
theorem dX9_word_10 : decode cX9_word 10 = .ok (.putfield 132, 3) := by decide +kernel
theorem dX9_word_13 : decode cX9_word 13 = .ok (.lconst 0, 1) := by decide +kernel
theorem dX9_word_14 : decode cX9_word 14 = .ok (.lstore_n 1, 1) := by decide +kernel
theorem dX9_word_15 : decode cX9_word 15 = .ok (.aload_n 0, 1) := by decide +kernel
theorem dX9_word_16 : decode cX9_word 16 = .ok (.getfield 109, 3) := by decide +kernel
theorem dX9_word_19 : decode cX9_word 19 = .ok (.aload_n 0, 1) := by decide +kernel
theorem dX9_word_20 : decode cX9_word 20 = .ok (.getfield 97, 3) := by decide +kernel
theorem dX9_word_23 : decode cX9_word 23 = .ok (.if_icmp .ge 68, 3) := by decide +kernel
theorem dX9_word_26 : decode cX9_word 26 = .ok (.aload_n 0, 1) := by decide +kernel
theorem dX9_word_27 : decode cX9_word 27 = .ok (.getfield 7, 3) := by decide +kernel
theorem dX9_word_30 : decode cX9_word 30 = .ok (.aload_n 0, 1) := by decide +kernel
theorem dX9_word_31 : decode cX9_word 31 = .ok (.getfield 109, 3) := by decide +kernel
theorem dX9_word_34 : decode cX9_word 34 = .ok (.iaload, 1) := by decide +kernel
theorem dX9_word_35 : decode cX9_word 35 = .ok (.invokestatic 135, 3) := by decide +kernel
theorem dX9_word_38 : decode cX9_word 38 = .ok (.ifCond .eq 53, 3) := by decide +kernel
theorem dX9_word_41 : decode cX9_word 41 = .ok (.aload_n 0, 1) := by decide +kernel
theorem dX9_word_42 : decode cX9_word 42 = .ok (.getfield 109, 3) := by decide +kernel
theorem dX9_word_45 : decode cX9_word 45 = .ok (.aload_n 0, 1) := by decide +kernel
theorem dX9_word_46 : decode cX9_word 46 = .ok (.getfield 132, 3) := by decide +kernel
theorem dX9_word_49 : decode cX9_word 49 = .ok (.isub, 1) := by decide +kernel
theorem dX9_word_50 : decode cX9_word 50 = .ok (.bipush 7, 2) := by decide +kernel
theorem dX9_word_52 : decode cX9_word 52 = .ok (.if_icmp .le 9, 3) := by decide +kernel
theorem dX9_word_55 : decode cX9_word 55 = .ok (.ldc2_w 138, 3) := by decide +kernel
theorem dX9_word_58 : decode cX9_word 58 = .ok (.goto 19, 3) := by decide +kernel
theorem dX9_word_61 : decode cX9_word 61 = .ok (.lload_n 1, 1) := by decide +kernel
theorem dX9_word_62 : decode cX9_word 62 = .ok (.ldc2_w 140, 3) := by decide +kernel
theorem dX9_word_65 : decode cX9_word 65 = .ok (.lmul, 1) := by decide +kernel
theorem dX9_word_66 : decode cX9_word 66 = .ok (.aload_n 0, 1) := by decide +kernel
theorem dX9_word_67 : decode cX9_word 67 = .ok (.getfield 7, 3) := by decide +kernel
theorem dX9_word_70 : decode cX9_word 70 = .ok (.aload_n 0, 1) := by decide +kernel
theorem dX9_word_71 : decode cX9_word 71 = .ok (.getfield 109, 3) := by decide +kernel
theorem dX9_word_74 : decode cX9_word 74 = .ok (.iaload, 1) := by decide +kernel
theorem dX9_word_75 : decode cX9_word 75 = .ok (.i2l, 1) := by decide +kernel
theorem dX9_word_76 : decode cX9_word 76 = .ok (.ladd, 1) := by decide +kernel
theorem dX9_word_77 : decode cX9_word 77 = .ok (.lstore_n 1, 1) := by decide +kernel
theorem dX9_word_78 : decode cX9_word 78 = .ok (.aload_n 0, 1) := by decide +kernel
theorem dX9_word_79 : decode cX9_word 79 = .ok (.dup, 1) := by decide +kernel
theorem dX9_word_80 : decode cX9_word 80 = .ok (.getfield 109, 3) := by decide +kernel
theorem dX9_word_83 : decode cX9_word 83 = .ok (.iconst 1, 1) := by decide +kernel
theorem dX9_word_84 : decode cX9_word 84 = .ok (.iadd, 1) := by decide +kernel
theorem dX9_word_85 : decode cX9_word 85 = .ok (.putfield 109, 3) := by decide +kernel
theorem dX9_word_88 : decode cX9_word 88 = .ok (.goto (-73), 3) := by decide +kernel
theorem dX9_word_91 : decode cX9_word 91 = .ok (.lload_n 1, 1) := by decide +kernel
theorem dX9_word_92 : decode cX9_word 92 = .ok (.ldc2_w 142, 3) := by decide +kernel
theorem dX9_word_95 : decode cX9_word 95 = .ok (.lcmp, 1) := by decide +kernel
theorem dX9_word_96 : decode cX9_word 96 = .ok (.ifCond .ne 7, 3) := by decide +kernel
theorem dX9_word_99 : decode cX9_word 99 = .ok (.iconst 0, 1) := by decide +kernel
theorem dX9_word_100 : decode cX9_word 100 = .ok (.goto 52, 3) := by decide +kernel
theorem dX9_word_103 : decode cX9_word 103 = .ok (.lload_n 1, 1) := by decide +kernel
theorem dX9_word_104 : decode cX9_word 104 = .ok (.ldc2_w 144, 3) := by decide +kernel
theorem dX9_word_107 : decode cX9_word 107 = .ok (.lcmp, 1) := by decide +kernel
theorem dX9_word_108 : decode cX9_word 108 = .ok (.ifCond .ne 7, 3) := by decide +kernel
theorem dX9_word_111 : decode cX9_word 111 = .ok (.iconst 1, 1) := by decide +kernel
theorem dX9_word_112 : decode cX9_word 112 = .ok (.goto 40, 3) := by decide +kernel
theorem dX9_word_115 : decode cX9_word 115 = .ok (.lload_n 1, 1) := by decide +kernel
theorem dX9_word_116 : decode cX9_word 116 = .ok (.ldc2_w 146, 3) := by decide +kernel
theorem dX9_word_119 : decode cX9_word 119 = .ok (.lcmp, 1) := by decide +kernel
theorem dX9_word_120 : decode cX9_word 120 = .ok (.ifCond .ne 7, 3) := by decide +kernel
theorem dX9_word_123 : decode cX9_word 123 = .ok (.iconst 2, 1) := by decide +kernel
theorem dX9_word_124 : decode cX9_word 124 = .ok (.goto 28, 3) := by decide +kernel
theorem dX9_word_127 : decode cX9_word 127 = .ok (.lload_n 1, 1) := by decide +kernel
theorem dX9_word_128 : decode cX9_word 128 = .ok (.ldc2_w 148, 3) := by decide +kernel
theorem dX9_word_131 : decode cX9_word 131 = .ok (.lcmp, 1) := by decide +kernel
theorem dX9_word_132 : decode cX9_word 132 = .ok (.ifCond .ne 7, 3) := by decide +kernel
theorem dX9_word_135 : decode cX9_word 135 = .ok (.iconst 3, 1) := by decide +kernel
theorem dX9_word_136 : decode cX9_word 136 = .ok (.goto 16, 3) := by decide +kernel
theorem dX9_word_139 : decode cX9_word 139 = .ok (.lload_n 1, 1) := by decide +kernel
theorem dX9_word_140 : decode cX9_word 140 = .ok (.ldc2_w 150, 3) := by decide +kernel
theorem dX9_word_143 : decode cX9_word 143 = .ok (.lcmp, 1) := by decide +kernel
theorem dX9_word_144 : decode cX9_word 144 = .ok (.ifCond .ne 7, 3) := by decide +kernel
theorem dX9_word_147 : decode cX9_word 147 = .ok (.iconst 4, 1) := by decide +kernel
theorem dX9_word_148 : decode cX9_word 148 = .ok (.goto 4, 3) := by decide +kernel
theorem dX9_word_151 : decode cX9_word 151 = .ok (.iconst (-1), 1) := by decide +kernel
theorem dX9_word_152 : decode cX9_word 152 = .ok (.ireturn, 1) := by decide +kernel
theorem dX9_readColours_0 : decode cX9_readColours 0 = .ok (.iconst 1, 1) := by decide +kernel
theorem dX9_readColours_1 : decode cX9_readColours 1 = .ok (.istore_n 1, 1) := by decide +kernel
theorem dX9_readColours_2 : decode cX9_readColours 2 = .ok (.iload_n 1, 1) := by decide +kernel
theorem dX9_readColours_3 : decode cX9_readColours 3 = .ok (.ifCond .eq 122, 3) := by decide +kernel
theorem dX9_readColours_6 : decode cX9_readColours 6 = .ok (.aload_n 0, 1) := by decide +kernel
theorem dX9_readColours_7 : decode cX9_readColours 7 = .ok (.getfield 103, 3) := by decide +kernel
theorem dX9_readColours_10 : decode cX9_readColours 10 = .ok (.ifCond .ne 115, 3) := by decide +kernel
theorem dX9_readColours_13 : decode cX9_readColours 13 = .ok (.aload_n 0, 1) := by decide +kernel
theorem dX9_readColours_14 : decode cX9_readColours 14 = .ok (.getfield 16, 3) := by decide +kernel
theorem dX9_readColours_17 : decode cX9_readColours 17 = .ok (.aload_n 0, 1) := by decide +kernel
theorem dX9_readColours_18 : decode cX9_readColours 18 = .ok (.getfield 13, 3) := by decide +kernel
theorem dX9_readColours_21 : decode cX9_readColours 21 = .ok (.iconst 0, 1) := by decide +kernel
theorem dX9_readColours_22 : decode cX9_readColours 22 = .ok (.iaload, 1) := by decide +kernel
theorem dX9_readColours_23 : decode cX9_readColours 23 = .ok (.aload_n 0, 1) := by decide +kernel
theorem dX9_readColours_24 : decode cX9_readColours 24 = .ok (.iconst 0, 1) := by decide +kernel
theorem dX9_readColours_25 : decode cX9_readColours 25 = .ok (.bipush 99, 2) := by decide +kernel
theorem dX9_readColours_27 : decode cX9_readColours 27 = .ok (.invokevirtual 152, 3) := by decide +kernel
theorem dX9_readColours_30 : decode cX9_readColours 30 = .ok (.iastore, 1) := by decide +kernel
theorem dX9_readColours_31 : decode cX9_readColours 31 = .ok (.aload_n 0, 1) := by decide +kernel
theorem dX9_readColours_32 : decode cX9_readColours 32 = .ok (.getfield 13, 3) := by decide +kernel
theorem dX9_readColours_35 : decode cX9_readColours 35 = .ok (.iconst 0, 1) := by decide +kernel
theorem dX9_readColours_36 : decode cX9_readColours 36 = .ok (.dup2, 1) := by decide +kernel
theorem dX9_readColours_37 : decode cX9_readColours 37 = .ok (.iaload, 1) := by decide +kernel
theorem dX9_readColours_38 : decode cX9_readColours 38 = .ok (.iconst 1, 1) := by decide +kernel
theorem dX9_readColours_39 : decode cX9_readColours 39 = .ok (.iadd, 1) := by decide +kernel
theorem dX9_readColours_40 : decode cX9_readColours 40 = .ok (.iastore, 1) := by decide +kernel
theorem dX9_readColours_41 : decode cX9_readColours 41 = .ok (.aload_n 0, 1) := by decide +kernel
theorem dX9_readColours_42 : decode cX9_readColours 42 = .ok (.getfield 103, 3) := by decide +kernel
theorem dX9_readColours_45 : decode cX9_readColours 45 = .ok (.ifCond .ne 27, 3) := by decide +kernel
theorem dX9_readColours_48 : decode cX9_readColours 48 = .ok (.aload_n 0, 1) := by decide +kernel
theorem dX9_readColours_49 : decode cX9_readColours 49 = .ok (.invokevirtual 112, 3) := by decide +kernel
theorem dX9_readColours_52 : decode cX9_readColours 52 = .ok (.bipush 44, 2) := by decide +kernel
theorem dX9_readColours_54 : decode cX9_readColours 54 = .ok (.if_icmp .ne 18, 3) := by decide +kernel
theorem dX9_readColours_57 : decode cX9_readColours 57 = .ok (.aload_n 0, 1) := by decide +kernel
theorem dX9_readColours_58 : decode cX9_readColours 58 = .ok (.getfield 109, 3) := by decide +kernel
theorem dX9_readColours_61 : decode cX9_readColours 61 = .ok (.aload_n 0, 1) := by decide +kernel
theorem dX9_readColours_62 : decode cX9_readColours 62 = .ok (.getfield 97, 3) := by decide +kernel
theorem dX9_readColours_65 : decode cX9_readColours 65 = .ok (.if_icmp .ge 7, 3) := by decide +kernel
theorem dX9_readColours_68 : decode cX9_readColours 68 = .ok (.iconst 1, 1) := by decide +kernel
theorem dX9_readColours_69 : decode cX9_readColours 69 = .ok (.goto 4, 3) := by decide +kernel
theorem dX9_readColours_72 : decode cX9_readColours 72 = .ok (.iconst 0, 1) := by decide +kernel
theorem dX9_readColours_73 : decode cX9_readColours 73 = .ok (.istore_n 1, 1) := by decide +kernel
theorem dX9_readColours_74 : decode cX9_readColours 74 = .ok (.iload_n 1, 1) := by decide +kernel
theorem dX9_readColours_75 : decode cX9_readColours 75 = .ok (.ifCond .eq 22, 3) := by decide +kernel
theorem dX9_readColours_78 : decode cX9_readColours 78 = .ok (.aload_n 0, 1) := by decide +kernel
theorem dX9_readColours_79 : decode cX9_readColours 79 = .ok (.getfield 13, 3) := by decide +kernel
theorem dX9_readColours_82 : decode cX9_readColours 82 = .ok (.iconst 0, 1) := by decide +kernel
theorem dX9_readColours_83 : decode cX9_readColours 83 = .ok (.iaload, 1) := by decide +kernel
theorem dX9_readColours_84 : decode cX9_readColours 84 = .ok (.iconst 4, 1) := by decide +kernel
theorem dX9_readColours_85 : decode cX9_readColours 85 = .ok (.if_icmp .ne 12, 3) := by decide +kernel
theorem dX9_readColours_88 : decode cX9_readColours 88 = .ok (.aload_n 0, 1) := by decide +kernel
theorem dX9_readColours_89 : decode cX9_readColours 89 = .ok (.iconst 1, 1) := by decide +kernel
theorem dX9_readColours_90 : decode cX9_readColours 90 = .ok (.aload_n 0, 1) := by decide +kernel
theorem dX9_readColours_91 : decode cX9_readColours 91 = .ok (.getfield 109, 3) := by decide +kernel
theorem dX9_readColours_94 : decode cX9_readColours 94 = .ok (.invokevirtual 124, 3) := by decide +kernel
theorem dX9_readColours_97 : decode cX9_readColours 97 = .ok (.aload_n 0, 1) := by decide +kernel
theorem dX9_readColours_98 : decode cX9_readColours 98 = .ok (.dup, 1) := by decide +kernel
theorem dX9_readColours_99 : decode cX9_readColours 99 = .ok (.getfield 109, 3) := by decide +kernel
theorem dX9_readColours_102 : decode cX9_readColours 102 = .ok (.iload_n 1, 1) := by decide +kernel
theorem dX9_readColours_103 : decode cX9_readColours 103 = .ok (.ifCond .eq 14, 3) := by decide +kernel
theorem dX9_readColours_106 : decode cX9_readColours 106 = .ok (.aload_n 0, 1) := by decide +kernel
theorem dX9_readColours_107 : decode cX9_readColours 107 = .ok (.getfield 103, 3) := by decide +kernel
theorem dX9_readColours_110 : decode cX9_readColours 110 = .ok (.ifCond .ne 7, 3) := by decide +kernel
theorem dX9_readColours_113 : decode cX9_readColours 113 = .ok (.iconst 1, 1) := by decide +kernel
theorem dX9_readColours_114 : decode cX9_readColours 114 = .ok (.goto 4, 3) := by decide +kernel
theorem dX9_readColours_117 : decode cX9_readColours 117 = .ok (.iconst 0, 1) := by decide +kernel
theorem dX9_readColours_118 : decode cX9_readColours 118 = .ok (.iadd, 1) := by decide +kernel
theorem dX9_readColours_119 : decode cX9_readColours 119 = .ok (.putfield 109, 3) := by decide +kernel
theorem dX9_readColours_122 : decode cX9_readColours 122 = .ok (.goto (-120), 3) := by decide +kernel
theorem dX9_readColours_125 : decode cX9_readColours 125 = .ok (.aload_n 0, 1) := by decide +kernel
theorem dX9_readColours_126 : decode cX9_readColours 126 = .ok (.bipush 59, 2) := by decide +kernel
theorem dX9_readColours_128 : decode cX9_readColours 128 = .ok (.invokevirtual 156, 3) := by decide +kernel
theorem dX9_readColours_131 : decode cX9_readColours 131 = .ok (.return_, 1) := by decide +kernel
theorem dX9_readSeam_0 : decode cX9_readSeam 0 = .ok (.aload_n 0, 1) := by decide +kernel
theorem dX9_readSeam_1 : decode cX9_readSeam 1 = .ok (.getfield 22, 3) := by decide +kernel
theorem dX9_readSeam_4 : decode cX9_readSeam 4 = .ok (.iload_n 2, 1) := by decide +kernel
theorem dX9_readSeam_5 : decode cX9_readSeam 5 = .ok (.aload_n 0, 1) := by decide +kernel
theorem dX9_readSeam_6 : decode cX9_readSeam 6 = .ok (.iconst 0, 1) := by decide +kernel
theorem dX9_readSeam_7 : decode cX9_readSeam 7 = .ok (.aload_n 0, 1) := by decide +kernel
theorem dX9_readSeam_8 : decode cX9_readSeam 8 = .ok (.getfield 13, 3) := by decide +kernel
theorem dX9_readSeam_11 : decode cX9_readSeam 11 = .ok (.iconst 1, 1) := by decide +kernel
theorem dX9_readSeam_12 : decode cX9_readSeam 12 = .ok (.iaload, 1) := by decide +kernel
theorem dX9_readSeam_13 : decode cX9_readSeam 13 = .ok (.iconst 1, 1) := by decide +kernel
theorem dX9_readSeam_14 : decode cX9_readSeam 14 = .ok (.isub, 1) := by decide +kernel
theorem dX9_readSeam_15 : decode cX9_readSeam 15 = .ok (.invokevirtual 152, 3) := by decide +kernel
theorem dX9_readSeam_18 : decode cX9_readSeam 18 = .ok (.iastore, 1) := by decide +kernel
theorem dX9_readSeam_19 : decode cX9_readSeam 19 = .ok (.aload_n 0, 1) := by decide +kernel
theorem dX9_readSeam_20 : decode cX9_readSeam 20 = .ok (.getfield 25, 3) := by decide +kernel
theorem dX9_readSeam_23 : decode cX9_readSeam 23 = .ok (.iload_n 2, 1) := by decide +kernel
theorem dX9_readSeam_24 : decode cX9_readSeam 24 = .ok (.bipush 8, 2) := by decide +kernel
theorem dX9_readSeam_26 : decode cX9_readSeam 26 = .ok (.iastore, 1) := by decide +kernel
theorem dX9_readSeam_27 : decode cX9_readSeam 27 = .ok (.iload_n 1, 1) := by decide +kernel
theorem dX9_readSeam_28 : decode cX9_readSeam 28 = .ok (.iconst 2, 1) := by decide +kernel
theorem dX9_readSeam_29 : decode cX9_readSeam 29 = .ok (.if_icmp .le 70, 3) := by decide +kernel
theorem dX9_readSeam_32 : decode cX9_readSeam 32 = .ok (.aload_n 0, 1) := by decide +kernel
theorem dX9_readSeam_33 : decode cX9_readSeam 33 = .ok (.iconst 0, 1) := by decide +kernel
theorem dX9_readSeam_34 : decode cX9_readSeam 34 = .ok (.aload_n 0, 1) := by decide +kernel
theorem dX9_readSeam_35 : decode cX9_readSeam 35 = .ok (.getfield 13, 3) := by decide +kernel
theorem dX9_readSeam_38 : decode cX9_readSeam 38 = .ok (.iconst 1, 1) := by decide +kernel
theorem dX9_readSeam_39 : decode cX9_readSeam 39 = .ok (.iaload, 1) := by decide +kernel
theorem dX9_readSeam_40 : decode cX9_readSeam 40 = .ok (.iconst 1, 1) := by decide +kernel
theorem dX9_readSeam_41 : decode cX9_readSeam 41 = .ok (.isub, 1) := by decide +kernel
theorem dX9_readSeam_42 : decode cX9_readSeam 42 = .ok (.invokevirtual 152, 3) := by decide +kernel
theorem dX9_readSeam_45 : decode cX9_readSeam 45 = .ok (.istore_n 3, 1) := by decide +kernel
theorem dX9_readSeam_46 : decode cX9_readSeam 46 = .ok (.aload_n 0, 1) := by decide +kernel
theorem dX9_readSeam_47 : decode cX9_readSeam 47 = .ok (.getfield 103, 3) := by decide +kernel
theorem dX9_readSeam_50 : decode cX9_readSeam 50 = .ok (.ifCond .ne 27, 3) := by decide +kernel
theorem dX9_readSeam_53 : decode cX9_readSeam 53 = .ok (.iload_n 1, 1) := by decide +kernel
theorem dX9_readSeam_54 : decode cX9_readSeam 54 = .ok (.iconst 3, 1) := by decide +kernel
theorem dX9_readSeam_55 : decode cX9_readSeam 55 = .ok (.if_icmp .ne 22, 3) := by decide +kernel
theorem dX9_readSeam_58 : decode cX9_readSeam 58 = .ok (.iload_n 3, 1) := by decide +kernel
theorem dX9_readSeam_59 : decode cX9_readSeam 59 = .ok (.aload_n 0, 1) := by decide +kernel
theorem dX9_readSeam_60 : decode cX9_readSeam 60 = .ok (.getfield 22, 3) := by decide +kernel
theorem dX9_readSeam_63 : decode cX9_readSeam 63 = .ok (.iload_n 2, 1) := by decide +kernel
theorem dX9_readSeam_64 : decode cX9_readSeam 64 = .ok (.iaload, 1) := by decide +kernel
theorem dX9_readSeam_65 : decode cX9_readSeam 65 = .ok (.if_icmp .ne 12, 3) := by decide +kernel
theorem dX9_readSeam_68 : decode cX9_readSeam 68 = .ok (.aload_n 0, 1) := by decide +kernel
theorem dX9_readSeam_69 : decode cX9_readSeam 69 = .ok (.iconst 4, 1) := by decide +kernel
theorem dX9_readSeam_70 : decode cX9_readSeam 70 = .ok (.aload_n 0, 1) := by decide +kernel
theorem dX9_readSeam_71 : decode cX9_readSeam 71 = .ok (.getfield 132, 3) := by decide +kernel
theorem dX9_readSeam_74 : decode cX9_readSeam 74 = .ok (.invokevirtual 124, 3) := by decide +kernel
theorem dX9_readSeam_77 : decode cX9_readSeam 77 = .ok (.aload_n 0, 1) := by decide +kernel
theorem dX9_readSeam_78 : decode cX9_readSeam 78 = .ok (.getfield 25, 3) := by decide +kernel
theorem dX9_readSeam_81 : decode cX9_readSeam 81 = .ok (.iload_n 2, 1) := by decide +kernel
theorem dX9_readSeam_82 : decode cX9_readSeam 82 = .ok (.iload_n 3, 1) := by decide +kernel
theorem dX9_readSeam_83 : decode cX9_readSeam 83 = .ok (.aload_n 0, 1) := by decide +kernel
theorem dX9_readSeam_84 : decode cX9_readSeam 84 = .ok (.getfield 22, 3) := by decide +kernel
theorem dX9_readSeam_87 : decode cX9_readSeam 87 = .ok (.iload_n 2, 1) := by decide +kernel
theorem dX9_readSeam_88 : decode cX9_readSeam 88 = .ok (.iaload, 1) := by decide +kernel
theorem dX9_readSeam_89 : decode cX9_readSeam 89 = .ok (.if_icmp .ne 8, 3) := by decide +kernel
theorem dX9_readSeam_92 : decode cX9_readSeam 92 = .ok (.bipush 8, 2) := by decide +kernel
theorem dX9_readSeam_94 : decode cX9_readSeam 94 = .ok (.goto 4, 3) := by decide +kernel
theorem dX9_readSeam_97 : decode cX9_readSeam 97 = .ok (.iload_n 3, 1) := by decide +kernel
theorem dX9_readSeam_98 : decode cX9_readSeam 98 = .ok (.iastore, 1) := by decide +kernel
theorem dX9_readSeam_99 : decode cX9_readSeam 99 = .ok (.aload_n 0, 1) := by decide +kernel
theorem dX9_readSeam_100 : decode cX9_readSeam 100 = .ok (.getfield 28, 3) := by decide +kernel
theorem dX9_readSeam_103 : decode cX9_readSeam 103 = .ok (.iload_n 2, 1) := by decide +kernel
theorem dX9_readSeam_104 : decode cX9_readSeam 104 = .ok (.iload_n 1, 1) := by decide +kernel
theorem dX9_readSeam_105 : decode cX9_readSeam 105 = .ok (.iconst 4, 1) := by decide +kernel
theorem dX9_readSeam_106 : decode cX9_readSeam 106 = .ok (.if_icmp .ne 13, 3) := by decide +kernel
theorem dX9_readSeam_109 : decode cX9_readSeam 109 = .ok (.aload_n 0, 1) := by decide +kernel
theorem dX9_readSeam_110 : decode cX9_readSeam 110 = .ok (.iconst 0, 1) := by decide +kernel
theorem dX9_readSeam_111 : decode cX9_readSeam 111 = .ok (.bipush 99, 2) := by decide +kernel
theorem dX9_readSeam_113 : decode cX9_readSeam 113 = .ok (.invokevirtual 152, 3) := by decide +kernel
theorem dX9_readSeam_116 : decode cX9_readSeam 116 = .ok (.goto 10, 3) := by decide +kernel
theorem dX9_readSeam_119 : decode cX9_readSeam 119 = .ok (.aload_n 0, 1) := by decide +kernel
theorem dX9_readSeam_120 : decode cX9_readSeam 120 = .ok (.iconst 1, 1) := by decide +kernel
theorem dX9_readSeam_121 : decode cX9_readSeam 121 = .ok (.bipush 9, 2) := by decide +kernel
theorem dX9_readSeam_123 : decode cX9_readSeam 123 = .ok (.invokevirtual 152, 3) := by decide +kernel
theorem dX9_readSeam_126 : decode cX9_readSeam 126 = .ok (.iastore, 1) := by decide +kernel
theorem dX9_readSeam_127 : decode cX9_readSeam 127 = .ok (.aload_n 0, 1) := by decide +kernel
theorem dX9_readSeam_128 : decode cX9_readSeam 128 = .ok (.bipush 59, 2) := by decide +kernel
theorem dX9_readSeam_130 : decode cX9_readSeam 130 = .ok (.invokevirtual 156, 3) := by decide +kernel
theorem dX9_readSeam_133 : decode cX9_readSeam 133 = .ok (.return_, 1) := by decide +kernel
theorem dX9_readClause_0 : decode cX9_readClause 0 = .ok (.aload_n 0, 1) := by decide +kernel
theorem dX9_readClause_1 : decode cX9_readClause 1 = .ok (.invokevirtual 160, 3) := by decide +kernel
theorem dX9_readClause_4 : decode cX9_readClause 4 = .ok (.istore_n 2, 1) := by decide +kernel
theorem dX9_readClause_5 : decode cX9_readClause 5 = .ok (.iload_n 2, 1) := by decide +kernel
theorem dX9_readClause_6 : decode cX9_readClause 6 = .ok (.iconst (-1), 1) := by decide +kernel
theorem dX9_readClause_7 : decode cX9_readClause 7 = .ok (.if_icmp .eq 20, 3) := by decide +kernel
theorem dX9_readClause_10 : decode cX9_readClause 10 = .ok (.iload_n 1, 1) := by decide +kernel
theorem dX9_readClause_11 : decode cX9_readClause 11 = .ok (.iload_n 2, 1) := by decide +kernel
theorem dX9_readClause_12 : decode cX9_readClause 12 = .ok (.ifCond .ne 7, 3) := by decide +kernel
theorem dX9_readClause_15 : decode cX9_readClause 15 = .ok (.iconst 1, 1) := by decide +kernel
theorem dX9_readClause_16 : decode cX9_readClause 16 = .ok (.goto 4, 3) := by decide +kernel
theorem dX9_readClause_19 : decode cX9_readClause 19 = .ok (.iconst 0, 1) := by decide +kernel
theorem dX9_readClause_20 : decode cX9_readClause 20 = .ok (.if_icmp .eq 19, 3) := by decide +kernel
theorem dX9_readClause_23 : decode cX9_readClause 23 = .ok (.iload_n 1, 1) := by decide +kernel
theorem dX9_readClause_24 : decode cX9_readClause 24 = .ok (.ifCond .eq 15, 3) := by decide +kernel
theorem dX9_readClause_27 : decode cX9_readClause 27 = .ok (.aload_n 0, 1) := by decide +kernel
theorem dX9_readClause_28 : decode cX9_readClause 28 = .ok (.iconst 1, 1) := by decide +kernel
theorem dX9_readClause_29 : decode cX9_readClause 29 = .ok (.aload_n 0, 1) := by decide +kernel
theorem dX9_readClause_30 : decode cX9_readClause 30 = .ok (.getfield 132, 3) := by decide +kernel
theorem dX9_readClause_33 : decode cX9_readClause 33 = .ok (.invokevirtual 124, 3) := by decide +kernel
theorem dX9_readClause_36 : decode cX9_readClause 36 = .ok (.goto 182, 3) := by decide +kernel
theorem dX9_readClause_39 : decode cX9_readClause 39 = .ok (.iload_n 1, 1) := by decide +kernel
theorem dX9_readClause_40 : decode cX9_readClause 40 = .ok (.ifCond .ne 7, 3) := by decide +kernel
theorem dX9_readClause_43 : decode cX9_readClause 43 = .ok (.iload_n 2, 1) := by decide +kernel
theorem dX9_readClause_44 : decode cX9_readClause 44 = .ok (.ifCond .eq 56, 3) := by decide +kernel
theorem dX9_readClause_47 : decode cX9_readClause 47 = .ok (.iload_n 2, 1) := by decide +kernel
theorem dX9_readClause_48 : decode cX9_readClause 48 = .ok (.iconst 1, 1) := by decide +kernel
theorem dX9_readClause_49 : decode cX9_readClause 49 = .ok (.if_icmp .ne 14, 3) := by decide +kernel
theorem dX9_readClause_52 : decode cX9_readClause 52 = .ok (.aload_n 0, 1) := by decide +kernel
theorem dX9_readClause_53 : decode cX9_readClause 53 = .ok (.getfield 13, 3) := by decide +kernel
theorem dX9_readClause_56 : decode cX9_readClause 56 = .ok (.iconst 1, 1) := by decide +kernel
theorem dX9_readClause_57 : decode cX9_readClause 57 = .ok (.iaload, 1) := by decide +kernel
theorem dX9_readClause_58 : decode cX9_readClause 58 = .ok (.bipush 8, 2) := by decide +kernel
theorem dX9_readClause_60 : decode cX9_readClause 60 = .ok (.if_icmp .eq 40, 3) := by decide +kernel
theorem dX9_readClause_63 : decode cX9_readClause 63 = .ok (.iload_n 2, 1) := by decide +kernel
theorem dX9_readClause_64 : decode cX9_readClause 64 = .ok (.iconst 2, 1) := by decide +kernel
theorem dX9_readClause_65 : decode cX9_readClause 65 = .ok (.if_icmp .eq 8, 3) := by decide +kernel
theorem dX9_readClause_68 : decode cX9_readClause 68 = .ok (.iload_n 2, 1) := by decide +kernel
theorem dX9_readClause_69 : decode cX9_readClause 69 = .ok (.iconst 3, 1) := by decide +kernel
theorem dX9_readClause_70 : decode cX9_readClause 70 = .ok (.if_icmp .ne 14, 3) := by decide +kernel
theorem dX9_readClause_73 : decode cX9_readClause 73 = .ok (.aload_n 0, 1) := by decide +kernel
theorem dX9_readClause_74 : decode cX9_readClause 74 = .ok (.getfield 13, 3) := by decide +kernel
theorem dX9_readClause_77 : decode cX9_readClause 77 = .ok (.iconst 2, 1) := by decide +kernel
theorem dX9_readClause_78 : decode cX9_readClause 78 = .ok (.iaload, 1) := by decide +kernel
theorem dX9_readClause_79 : decode cX9_readClause 79 = .ok (.bipush 12, 2) := by decide +kernel
theorem dX9_readClause_81 : decode cX9_readClause 81 = .ok (.if_icmp .eq 19, 3) := by decide +kernel
theorem dX9_readClause_84 : decode cX9_readClause 84 = .ok (.iload_n 2, 1) := by decide +kernel
theorem dX9_readClause_85 : decode cX9_readClause 85 = .ok (.iconst 4, 1) := by decide +kernel
theorem dX9_readClause_86 : decode cX9_readClause 86 = .ok (.if_icmp .ne 26, 3) := by decide +kernel
theorem dX9_readClause_89 : decode cX9_readClause 89 = .ok (.aload_n 0, 1) := by decide +kernel
theorem dX9_readClause_90 : decode cX9_readClause 90 = .ok (.getfield 13, 3) := by decide +kernel
theorem dX9_readClause_93 : decode cX9_readClause 93 = .ok (.iconst 3, 1) := by decide +kernel
theorem dX9_readClause_94 : decode cX9_readClause 94 = .ok (.iaload, 1) := by decide +kernel
theorem dX9_readClause_95 : decode cX9_readClause 95 = .ok (.bipush 8, 2) := by decide +kernel
theorem dX9_readClause_97 : decode cX9_readClause 97 = .ok (.if_icmp .ne 15, 3) := by decide +kernel
theorem dX9_readClause_100 : decode cX9_readClause 100 = .ok (.aload_n 0, 1) := by decide +kernel
theorem dX9_readClause_101 : decode cX9_readClause 101 = .ok (.iconst 3, 1) := by decide +kernel
theorem dX9_readClause_102 : decode cX9_readClause 102 = .ok (.aload_n 0, 1) := by decide +kernel
theorem dX9_readClause_103 : decode cX9_readClause 103 = .ok (.getfield 132, 3) := by decide +kernel
theorem dX9_readClause_106 : decode cX9_readClause 106 = .ok (.invokevirtual 124, 3) := by decide +kernel
theorem dX9_readClause_109 : decode cX9_readClause 109 = .ok (.goto 109, 3) := by decide +kernel
theorem dX9_readClause_112 : decode cX9_readClause 112 = .ok (.iload_n 2, 1) := by decide +kernel
theorem dX9_readClause_113 : decode cX9_readClause 113 = .ok (.ifCond .ne 10, 3) := by decide +kernel
theorem dX9_readClause_116 : decode cX9_readClause 116 = .ok (.aload_n 0, 1) := by decide +kernel
theorem dX9_readClause_117 : decode cX9_readClause 117 = .ok (.invokevirtual 163, 3) := by decide +kernel
theorem dX9_readClause_120 : decode cX9_readClause 120 = .ok (.goto 98, 3) := by decide +kernel
theorem dX9_readClause_123 : decode cX9_readClause 123 = .ok (.iload_n 2, 1) := by decide +kernel
theorem dX9_readClause_124 : decode cX9_readClause 124 = .ok (.iconst 1, 1) := by decide +kernel
theorem dX9_readClause_125 : decode cX9_readClause 125 = .ok (.if_icmp .ne 46, 3) := by decide +kernel
theorem dX9_readClause_128 : decode cX9_readClause 128 = .ok (.aload_n 0, 1) := by decide +kernel
theorem dX9_readClause_129 : decode cX9_readClause 129 = .ok (.getfield 19, 3) := by decide +kernel
theorem dX9_readClause_132 : decode cX9_readClause 132 = .ok (.aload_n 0, 1) := by decide +kernel
theorem dX9_readClause_133 : decode cX9_readClause 133 = .ok (.getfield 13, 3) := by decide +kernel
theorem dX9_readClause_136 : decode cX9_readClause 136 = .ok (.iconst 1, 1) := by decide +kernel
theorem dX9_readClause_137 : decode cX9_readClause 137 = .ok (.iaload, 1) := by decide +kernel
theorem dX9_readClause_138 : decode cX9_readClause 138 = .ok (.aload_n 0, 1) := by decide +kernel
theorem dX9_readClause_139 : decode cX9_readClause 139 = .ok (.iconst 0, 1) := by decide +kernel
theorem dX9_readClause_140 : decode cX9_readClause 140 = .ok (.aload_n 0, 1) := by decide +kernel
theorem dX9_readClause_141 : decode cX9_readClause 141 = .ok (.getfield 13, 3) := by decide +kernel
theorem dX9_readClause_144 : decode cX9_readClause 144 = .ok (.iconst 0, 1) := by decide +kernel
theorem dX9_readClause_145 : decode cX9_readClause 145 = .ok (.iaload, 1) := by decide +kernel
theorem dX9_readClause_146 : decode cX9_readClause 146 = .ok (.iconst 1, 1) := by decide +kernel
theorem dX9_readClause_147 : decode cX9_readClause 147 = .ok (.isub, 1) := by decide +kernel
theorem dX9_readClause_148 : decode cX9_readClause 148 = .ok (.invokevirtual 152, 3) := by decide +kernel
theorem dX9_readClause_151 : decode cX9_readClause 151 = .ok (.iastore, 1) := by decide +kernel
theorem dX9_readClause_152 : decode cX9_readClause 152 = .ok (.aload_n 0, 1) := by decide +kernel
theorem dX9_readClause_153 : decode cX9_readClause 153 = .ok (.bipush 59, 2) := by decide +kernel
theorem dX9_readClause_155 : decode cX9_readClause 155 = .ok (.invokevirtual 156, 3) := by decide +kernel
theorem dX9_readClause_158 : decode cX9_readClause 158 = .ok (.aload_n 0, 1) := by decide +kernel
theorem dX9_readClause_159 : decode cX9_readClause 159 = .ok (.getfield 13, 3) := by decide +kernel
theorem dX9_readClause_162 : decode cX9_readClause 162 = .ok (.iconst 1, 1) := by decide +kernel
theorem dX9_readClause_163 : decode cX9_readClause 163 = .ok (.dup2, 1) := by decide +kernel
theorem dX9_readClause_164 : decode cX9_readClause 164 = .ok (.iaload, 1) := by decide +kernel
theorem dX9_readClause_165 : decode cX9_readClause 165 = .ok (.iconst 1, 1) := by decide +kernel
theorem dX9_readClause_166 : decode cX9_readClause 166 = .ok (.iadd, 1) := by decide +kernel
theorem dX9_readClause_167 : decode cX9_readClause 167 = .ok (.iastore, 1) := by decide +kernel
theorem dX9_readClause_168 : decode cX9_readClause 168 = .ok (.goto 50, 3) := by decide +kernel
theorem dX9_readClause_171 : decode cX9_readClause 171 = .ok (.aload_n 0, 1) := by decide +kernel
theorem dX9_readClause_172 : decode cX9_readClause 172 = .ok (.iload_n 2, 1) := by decide +kernel
theorem dX9_readClause_173 : decode cX9_readClause 173 = .ok (.iload_n 2, 1) := by decide +kernel
theorem dX9_readClause_174 : decode cX9_readClause 174 = .ok (.iconst 4, 1) := by decide +kernel
theorem dX9_readClause_175 : decode cX9_readClause 175 = .ok (.if_icmp .ne 15, 3) := by decide +kernel
theorem dX9_readClause_178 : decode cX9_readClause 178 = .ok (.bipush 12, 2) := by decide +kernel
theorem dX9_readClause_180 : decode cX9_readClause 180 = .ok (.aload_n 0, 1) := by decide +kernel
theorem dX9_readClause_181 : decode cX9_readClause 181 = .ok (.getfield 13, 3) := by decide +kernel
theorem dX9_readClause_184 : decode cX9_readClause 184 = .ok (.iconst 3, 1) := by decide +kernel
theorem dX9_readClause_185 : decode cX9_readClause 185 = .ok (.iaload, 1) := by decide +kernel
theorem dX9_readClause_186 : decode cX9_readClause 186 = .ok (.iadd, 1) := by decide +kernel
theorem dX9_readClause_187 : decode cX9_readClause 187 = .ok (.goto 9, 3) := by decide +kernel
theorem dX9_readClause_190 : decode cX9_readClause 190 = .ok (.aload_n 0, 1) := by decide +kernel
theorem dX9_readClause_191 : decode cX9_readClause 191 = .ok (.getfield 13, 3) := by decide +kernel
theorem dX9_readClause_194 : decode cX9_readClause 194 = .ok (.iconst 2, 1) := by decide +kernel
theorem dX9_readClause_195 : decode cX9_readClause 195 = .ok (.iaload, 1) := by decide +kernel
theorem dX9_readClause_196 : decode cX9_readClause 196 = .ok (.invokevirtual 166, 3) := by decide +kernel
theorem dX9_readClause_199 : decode cX9_readClause 199 = .ok (.aload_n 0, 1) := by decide +kernel
theorem dX9_readClause_200 : decode cX9_readClause 200 = .ok (.getfield 13, 3) := by decide +kernel
theorem dX9_readClause_203 : decode cX9_readClause 203 = .ok (.iload_n 2, 1) := by decide +kernel
theorem dX9_readClause_204 : decode cX9_readClause 204 = .ok (.iconst 4, 1) := by decide +kernel
theorem dX9_readClause_205 : decode cX9_readClause 205 = .ok (.if_icmp .ne 7, 3) := by decide +kernel
theorem dX9_readClause_208 : decode cX9_readClause 208 = .ok (.iconst 3, 1) := by decide +kernel
theorem dX9_readClause_209 : decode cX9_readClause 209 = .ok (.goto 4, 3) := by decide +kernel
theorem dX9_readClause_212 : decode cX9_readClause 212 = .ok (.iconst 2, 1) := by decide +kernel
theorem dX9_readClause_213 : decode cX9_readClause 213 = .ok (.dup2, 1) := by decide +kernel
theorem dX9_readClause_214 : decode cX9_readClause 214 = .ok (.iaload, 1) := by decide +kernel
theorem dX9_readClause_215 : decode cX9_readClause 215 = .ok (.iconst 1, 1) := by decide +kernel
theorem dX9_readClause_216 : decode cX9_readClause 216 = .ok (.iadd, 1) := by decide +kernel
theorem dX9_readClause_217 : decode cX9_readClause 217 = .ok (.iastore, 1) := by decide +kernel
theorem dX9_readClause_218 : decode cX9_readClause 218 = .ok (.return_, 1) := by decide +kernel
theorem dX9_flag_0 : decode cX9_flag 0 = .ok (.aload_n 0, 1) := by decide +kernel
theorem dX9_flag_1 : decode cX9_flag 1 = .ok (.iconst 0, 1) := by decide +kernel
theorem dX9_flag_2 : decode cX9_flag 2 = .ok (.putfield 109, 3) := by decide +kernel
theorem dX9_flag_5 : decode cX9_flag 5 = .ok (.aload_n 0, 1) := by decide +kernel
theorem dX9_flag_6 : decode cX9_flag 6 = .ok (.iconst 0, 1) := by decide +kernel
theorem dX9_flag_7 : decode cX9_flag 7 = .ok (.putfield 103, 3) := by decide +kernel
theorem dX9_flag_10 : decode cX9_flag 10 = .ok (.iconst 0, 1) := by decide +kernel
theorem dX9_flag_11 : decode cX9_flag 11 = .ok (.istore_n 1, 1) := by decide +kernel
theorem dX9_flag_12 : decode cX9_flag 12 = .ok (.iload_n 1, 1) := by decide +kernel
theorem dX9_flag_13 : decode cX9_flag 13 = .ok (.iconst 4, 1) := by decide +kernel
theorem dX9_flag_14 : decode cX9_flag 14 = .ok (.if_icmp .ge 16, 3) := by decide +kernel
theorem dX9_flag_17 : decode cX9_flag 17 = .ok (.aload_n 0, 1) := by decide +kernel
theorem dX9_flag_18 : decode cX9_flag 18 = .ok (.getfield 13, 3) := by decide +kernel
theorem dX9_flag_21 : decode cX9_flag 21 = .ok (.iload_n 1, 1) := by decide +kernel
theorem dX9_flag_22 : decode cX9_flag 22 = .ok (.iconst 0, 1) := by decide +kernel
theorem dX9_flag_23 : decode cX9_flag 23 = .ok (.iastore, 1) := by decide +kernel
theorem dX9_flag_24 : decode cX9_flag 24 = .ok (.iinc 1 1, 3) := by decide +kernel
theorem dX9_flag_27 : decode cX9_flag 27 = .ok (.goto (-15), 3) := by decide +kernel
theorem dX9_flag_30 : decode cX9_flag 30 = .ok (.iconst 1, 1) := by decide +kernel
theorem dX9_flag_31 : decode cX9_flag 31 = .ok (.istore_n 1, 1) := by decide +kernel
theorem dX9_flag_32 : decode cX9_flag 32 = .ok (.aload_n 0, 1) := by decide +kernel
theorem dX9_flag_33 : decode cX9_flag 33 = .ok (.getfield 103, 3) := by decide +kernel
theorem dX9_flag_36 : decode cX9_flag 36 = .ok (.ifCond .ne 20, 3) := by decide +kernel
theorem dX9_flag_39 : decode cX9_flag 39 = .ok (.aload_n 0, 1) := by decide +kernel
theorem dX9_flag_40 : decode cX9_flag 40 = .ok (.invokevirtual 169, 3) := by decide +kernel
theorem dX9_flag_43 : decode cX9_flag 43 = .ok (.ifCond .ne 13, 3) := by decide +kernel
theorem dX9_flag_46 : decode cX9_flag 46 = .ok (.aload_n 0, 1) := by decide +kernel
theorem dX9_flag_47 : decode cX9_flag 47 = .ok (.iload_n 1, 1) := by decide +kernel
theorem dX9_flag_48 : decode cX9_flag 48 = .ok (.invokevirtual 173, 3) := by decide +kernel
theorem dX9_flag_51 : decode cX9_flag 51 = .ok (.iconst 0, 1) := by decide +kernel
theorem dX9_flag_52 : decode cX9_flag 52 = .ok (.istore_n 1, 1) := by decide +kernel
theorem dX9_flag_53 : decode cX9_flag 53 = .ok (.goto (-21), 3) := by decide +kernel
theorem dX9_flag_56 : decode cX9_flag 56 = .ok (.aload_n 0, 1) := by decide +kernel
theorem dX9_flag_57 : decode cX9_flag 57 = .ok (.iconst 0, 1) := by decide +kernel
theorem dX9_flag_58 : decode cX9_flag 58 = .ok (.putfield 97, 3) := by decide +kernel
theorem dX9_flag_61 : decode cX9_flag 61 = .ok (.aload_n 0, 1) := by decide +kernel
theorem dX9_flag_62 : decode cX9_flag 62 = .ok (.aload_n 0, 1) := by decide +kernel
theorem dX9_flag_63 : decode cX9_flag 63 = .ok (.getfield 103, 3) := by decide +kernel
theorem dX9_flag_66 : decode cX9_flag 66 = .ok (.ifCond .ne 7, 3) := by decide +kernel
theorem dX9_flag_69 : decode cX9_flag 69 = .ok (.iconst (-1), 1) := by decide +kernel
theorem dX9_flag_70 : decode cX9_flag 70 = .ok (.goto 7, 3) := by decide +kernel
theorem dX9_flag_73 : decode cX9_flag 73 = .ok (.aload_n 0, 1) := by decide +kernel
theorem dX9_flag_74 : decode cX9_flag 74 = .ok (.getfield 106, 3) := by decide +kernel
theorem dX9_flag_77 : decode cX9_flag 77 = .ok (.putfield 86, 3) := by decide +kernel
theorem dX9_flag_80 : decode cX9_flag 80 = .ok (.aload_n 0, 1) := by decide +kernel
theorem dX9_flag_81 : decode cX9_flag 81 = .ok (.getfield 103, 3) := by decide +kernel
theorem dX9_flag_84 : decode cX9_flag 84 = .ok (.ifCond .eq 11, 3) := by decide +kernel
theorem dX9_flag_87 : decode cX9_flag 87 = .ok (.bipush (-10), 2) := by decide +kernel
theorem dX9_flag_89 : decode cX9_flag 89 = .ok (.aload_n 0, 1) := by decide +kernel
theorem dX9_flag_90 : decode cX9_flag 90 = .ok (.getfield 103, 3) := by decide +kernel
theorem dX9_flag_93 : decode cX9_flag 93 = .ok (.isub, 1) := by decide +kernel
theorem dX9_flag_94 : decode cX9_flag 94 = .ok (.ireturn, 1) := by decide +kernel
theorem dX9_flag_95 : decode cX9_flag 95 = .ok (.aload_n 0, 1) := by decide +kernel
theorem dX9_flag_96 : decode cX9_flag 96 = .ok (.invokevirtual 177, 3) := by decide +kernel
theorem dX9_flag_99 : decode cX9_flag 99 = .ok (.aload_n 0, 1) := by decide +kernel
theorem dX9_flag_100 : decode cX9_flag 100 = .ok (.getfield 180, 3) := by decide +kernel
theorem dX9_flag_103 : decode cX9_flag 103 = .ok (.ireturn, 1) := by decide +kernel
theorem dX9_takes_0 : decode cX9_takes 0 = .ok (.aload_n 0, 1) := by decide +kernel
theorem dX9_takes_1 : decode cX9_takes 1 = .ok (.aload_n 0, 1) := by decide +kernel
theorem dX9_takes_2 : decode cX9_takes 2 = .ok (.getfield 13, 3) := by decide +kernel
theorem dX9_takes_5 : decode cX9_takes 5 = .ok (.iconst 0, 1) := by decide +kernel
theorem dX9_takes_6 : decode cX9_takes 6 = .ok (.iaload, 1) := by decide +kernel
theorem dX9_takes_7 : decode cX9_takes 7 = .ok (.putfield 183, 3) := by decide +kernel
theorem dX9_takes_10 : decode cX9_takes 10 = .ok (.aload_n 0, 1) := by decide +kernel
theorem dX9_takes_11 : decode cX9_takes 11 = .ok (.aload_n 0, 1) := by decide +kernel
theorem dX9_takes_12 : decode cX9_takes 12 = .ok (.getfield 13, 3) := by decide +kernel
theorem dX9_takes_15 : decode cX9_takes 15 = .ok (.iconst 1, 1) := by decide +kernel
theorem dX9_takes_16 : decode cX9_takes 16 = .ok (.iaload, 1) := by decide +kernel
theorem dX9_takes_17 : decode cX9_takes 17 = .ok (.putfield 180, 3) := by decide +kernel
theorem dX9_takes_20 : decode cX9_takes 20 = .ok (.aload_n 0, 1) := by decide +kernel
theorem dX9_takes_21 : decode cX9_takes 21 = .ok (.aload_n 0, 1) := by decide +kernel
theorem dX9_takes_22 : decode cX9_takes 22 = .ok (.getfield 13, 3) := by decide +kernel
theorem dX9_takes_25 : decode cX9_takes 25 = .ok (.iconst 2, 1) := by decide +kernel
theorem dX9_takes_26 : decode cX9_takes 26 = .ok (.iaload, 1) := by decide +kernel
theorem dX9_takes_27 : decode cX9_takes 27 = .ok (.putfield 186, 3) := by decide +kernel
theorem dX9_takes_30 : decode cX9_takes 30 = .ok (.aload_n 0, 1) := by decide +kernel
theorem dX9_takes_31 : decode cX9_takes 31 = .ok (.aload_n 0, 1) := by decide +kernel
theorem dX9_takes_32 : decode cX9_takes 32 = .ok (.getfield 13, 3) := by decide +kernel
theorem dX9_takes_35 : decode cX9_takes 35 = .ok (.iconst 3, 1) := by decide +kernel
theorem dX9_takes_36 : decode cX9_takes 36 = .ok (.iaload, 1) := by decide +kernel
theorem dX9_takes_37 : decode cX9_takes 37 = .ok (.putfield 189, 3) := by decide +kernel
theorem dX9_takes_40 : decode cX9_takes 40 = .ok (.iconst 0, 1) := by decide +kernel
theorem dX9_takes_41 : decode cX9_takes 41 = .ok (.istore_n 1, 1) := by decide +kernel
theorem dX9_takes_42 : decode cX9_takes 42 = .ok (.iload_n 1, 1) := by decide +kernel
theorem dX9_takes_43 : decode cX9_takes 43 = .ok (.aload_n 0, 1) := by decide +kernel
theorem dX9_takes_44 : decode cX9_takes 44 = .ok (.getfield 183, 3) := by decide +kernel
theorem dX9_takes_47 : decode cX9_takes 47 = .ok (.if_icmp .ge 21, 3) := by decide +kernel
theorem dX9_takes_50 : decode cX9_takes 50 = .ok (.aload_n 0, 1) := by decide +kernel
theorem dX9_takes_51 : decode cX9_takes 51 = .ok (.getfield 31, 3) := by decide +kernel
theorem dX9_takes_54 : decode cX9_takes 54 = .ok (.iload_n 1, 1) := by decide +kernel
theorem dX9_takes_55 : decode cX9_takes 55 = .ok (.aload_n 0, 1) := by decide +kernel
theorem dX9_takes_56 : decode cX9_takes 56 = .ok (.getfield 16, 3) := by decide +kernel
theorem dX9_takes_59 : decode cX9_takes 59 = .ok (.iload_n 1, 1) := by decide +kernel
theorem dX9_takes_60 : decode cX9_takes 60 = .ok (.iaload, 1) := by decide +kernel
theorem dX9_takes_61 : decode cX9_takes 61 = .ok (.iastore, 1) := by decide +kernel
theorem dX9_takes_62 : decode cX9_takes 62 = .ok (.iinc 1 1, 3) := by decide +kernel
theorem dX9_takes_65 : decode cX9_takes 65 = .ok (.goto (-23), 3) := by decide +kernel
theorem dX9_takes_68 : decode cX9_takes 68 = .ok (.iconst 0, 1) := by decide +kernel
theorem dX9_takes_69 : decode cX9_takes 69 = .ok (.istore_n 1, 1) := by decide +kernel
theorem dX9_takes_70 : decode cX9_takes 70 = .ok (.iload_n 1, 1) := by decide +kernel
theorem dX9_takes_71 : decode cX9_takes 71 = .ok (.aload_n 0, 1) := by decide +kernel
theorem dX9_takes_72 : decode cX9_takes 72 = .ok (.getfield 180, 3) := by decide +kernel
theorem dX9_takes_75 : decode cX9_takes 75 = .ok (.if_icmp .ge 35, 3) := by decide +kernel
theorem dX9_takes_78 : decode cX9_takes 78 = .ok (.aload_n 0, 1) := by decide +kernel
theorem dX9_takes_79 : decode cX9_takes 79 = .ok (.getfield 34, 3) := by decide +kernel
theorem dX9_takes_82 : decode cX9_takes 82 = .ok (.iload_n 1, 1) := by decide +kernel
theorem dX9_takes_83 : decode cX9_takes 83 = .ok (.aload_n 0, 1) := by decide +kernel
theorem dX9_takes_84 : decode cX9_takes 84 = .ok (.getfield 19, 3) := by decide +kernel
theorem dX9_takes_87 : decode cX9_takes 87 = .ok (.iload_n 1, 1) := by decide +kernel
theorem dX9_takes_88 : decode cX9_takes 88 = .ok (.iaload, 1) := by decide +kernel
theorem dX9_takes_89 : decode cX9_takes 89 = .ok (.iastore, 1) := by decide +kernel
theorem dX9_takes_90 : decode cX9_takes 90 = .ok (.aload_n 0, 1) := by decide +kernel
theorem dX9_takes_91 : decode cX9_takes 91 = .ok (.getfield 37, 3) := by decide +kernel
theorem dX9_takes_94 : decode cX9_takes 94 = .ok (.iload_n 1, 1) := by decide +kernel
theorem dX9_takes_95 : decode cX9_takes 95 = .ok (.iconst 1, 1) := by decide +kernel
theorem dX9_takes_96 : decode cX9_takes 96 = .ok (.aload_n 0, 1) := by decide +kernel
theorem dX9_takes_97 : decode cX9_takes 97 = .ok (.getfield 183, 3) := by decide +kernel
theorem dX9_takes_100 : decode cX9_takes 100 = .ok (.ishl, 1) := by decide +kernel
theorem dX9_takes_101 : decode cX9_takes 101 = .ok (.iconst 1, 1) := by decide +kernel
theorem dX9_takes_102 : decode cX9_takes 102 = .ok (.isub, 1) := by decide +kernel
theorem dX9_takes_103 : decode cX9_takes 103 = .ok (.iastore, 1) := by decide +kernel
theorem dX9_takes_104 : decode cX9_takes 104 = .ok (.iinc 1 1, 3) := by decide +kernel
theorem dX9_takes_107 : decode cX9_takes 107 = .ok (.goto (-37), 3) := by decide +kernel
theorem dX9_takes_110 : decode cX9_takes 110 = .ok (.iconst 0, 1) := by decide +kernel
theorem dX9_takes_111 : decode cX9_takes 111 = .ok (.istore_n 1, 1) := by decide +kernel
theorem dX9_takes_112 : decode cX9_takes 112 = .ok (.iload_n 1, 1) := by decide +kernel
theorem dX9_takes_113 : decode cX9_takes 113 = .ok (.bipush 20, 2) := by decide +kernel
theorem dX9_takes_115 : decode cX9_takes 115 = .ok (.if_icmp .ge 68, 3) := by decide +kernel
theorem dX9_takes_118 : decode cX9_takes 118 = .ok (.aload_n 0, 1) := by decide +kernel
theorem dX9_takes_119 : decode cX9_takes 119 = .ok (.getfield 40, 3) := by decide +kernel
theorem dX9_takes_122 : decode cX9_takes 122 = .ok (.iload_n 1, 1) := by decide +kernel
theorem dX9_takes_123 : decode cX9_takes 123 = .ok (.aload_n 0, 1) := by decide +kernel
theorem dX9_takes_124 : decode cX9_takes 124 = .ok (.getfield 22, 3) := by decide +kernel
theorem dX9_takes_127 : decode cX9_takes 127 = .ok (.iload_n 1, 1) := by decide +kernel
theorem dX9_takes_128 : decode cX9_takes 128 = .ok (.iaload, 1) := by decide +kernel
theorem dX9_takes_129 : decode cX9_takes 129 = .ok (.iastore, 1) := by decide +kernel
theorem dX9_takes_130 : decode cX9_takes 130 = .ok (.aload_n 0, 1) := by decide +kernel
theorem dX9_takes_131 : decode cX9_takes 131 = .ok (.getfield 43, 3) := by decide +kernel
theorem dX9_takes_134 : decode cX9_takes 134 = .ok (.iload_n 1, 1) := by decide +kernel
theorem dX9_takes_135 : decode cX9_takes 135 = .ok (.aload_n 0, 1) := by decide +kernel
theorem dX9_takes_136 : decode cX9_takes 136 = .ok (.getfield 25, 3) := by decide +kernel
theorem dX9_takes_139 : decode cX9_takes 139 = .ok (.iload_n 1, 1) := by decide +kernel
theorem dX9_takes_140 : decode cX9_takes 140 = .ok (.iaload, 1) := by decide +kernel
theorem dX9_takes_141 : decode cX9_takes 141 = .ok (.iastore, 1) := by decide +kernel
theorem dX9_takes_142 : decode cX9_takes 142 = .ok (.aload_n 0, 1) := by decide +kernel
theorem dX9_takes_143 : decode cX9_takes 143 = .ok (.getfield 46, 3) := by decide +kernel
theorem dX9_takes_146 : decode cX9_takes 146 = .ok (.iload_n 1, 1) := by decide +kernel
theorem dX9_takes_147 : decode cX9_takes 147 = .ok (.iload_n 1, 1) := by decide +kernel
theorem dX9_takes_148 : decode cX9_takes 148 = .ok (.bipush 12, 2) := by decide +kernel
theorem dX9_takes_150 : decode cX9_takes 150 = .ok (.if_icmp .ge 12, 3) := by decide +kernel
theorem dX9_takes_153 : decode cX9_takes 153 = .ok (.aload_n 0, 1) := by decide +kernel
theorem dX9_takes_154 : decode cX9_takes 154 = .ok (.getfield 28, 3) := by decide +kernel
theorem dX9_takes_157 : decode cX9_takes 157 = .ok (.iload_n 1, 1) := by decide +kernel
theorem dX9_takes_158 : decode cX9_takes 158 = .ok (.iaload, 1) := by decide +kernel
theorem dX9_takes_159 : decode cX9_takes 159 = .ok (.goto 5, 3) := by decide +kernel
theorem dX9_takes_162 : decode cX9_takes 162 = .ok (.bipush 9, 2) := by decide +kernel
theorem dX9_takes_164 : decode cX9_takes 164 = .ok (.iastore, 1) := by decide +kernel
theorem dX9_takes_165 : decode cX9_takes 165 = .ok (.aload_n 0, 1) := by decide +kernel
theorem dX9_takes_166 : decode cX9_takes 166 = .ok (.getfield 49, 3) := by decide +kernel
theorem dX9_takes_169 : decode cX9_takes 169 = .ok (.iload_n 1, 1) := by decide +kernel
theorem dX9_takes_170 : decode cX9_takes 170 = .ok (.aload_n 0, 1) := by decide +kernel
theorem dX9_takes_171 : decode cX9_takes 171 = .ok (.getfield 28, 3) := by decide +kernel
theorem dX9_takes_174 : decode cX9_takes 174 = .ok (.iload_n 1, 1) := by decide +kernel
theorem dX9_takes_175 : decode cX9_takes 175 = .ok (.iaload, 1) := by decide +kernel
theorem dX9_takes_176 : decode cX9_takes 176 = .ok (.iastore, 1) := by decide +kernel
theorem dX9_takes_177 : decode cX9_takes 177 = .ok (.iinc 1 1, 3) := by decide +kernel
theorem dX9_takes_180 : decode cX9_takes 180 = .ok (.goto (-68), 3) := by decide +kernel
theorem dX9_takes_183 : decode cX9_takes 183 = .ok (.aload_n 0, 1) := by decide +kernel
theorem dX9_takes_184 : decode cX9_takes 184 = .ok (.iconst 0, 1) := by decide +kernel
theorem dX9_takes_185 : decode cX9_takes 185 = .ok (.putfield 192, 3) := by decide +kernel
theorem dX9_takes_188 : decode cX9_takes 188 = .ok (.aload_n 0, 1) := by decide +kernel
theorem dX9_takes_189 : decode cX9_takes 189 = .ok (.iconst 0, 1) := by decide +kernel
theorem dX9_takes_190 : decode cX9_takes 190 = .ok (.putfield 195, 3) := by decide +kernel
theorem dX9_takes_193 : decode cX9_takes 193 = .ok (.aload_n 0, 1) := by decide +kernel
theorem dX9_takes_194 : decode cX9_takes 194 = .ok (.getfield 83, 3) := by decide +kernel
theorem dX9_takes_197 : decode cX9_takes 197 = .ok (.iconst 0, 1) := by decide +kernel
theorem dX9_takes_198 : decode cX9_takes 198 = .ok (.iconst 0, 1) := by decide +kernel
theorem dX9_takes_199 : decode cX9_takes 199 = .ok (.iastore, 1) := by decide +kernel
theorem dX9_takes_200 : decode cX9_takes 200 = .ok (.aload_n 0, 1) := by decide +kernel
theorem dX9_takes_201 : decode cX9_takes 201 = .ok (.getfield 83, 3) := by decide +kernel
theorem dX9_takes_204 : decode cX9_takes 204 = .ok (.bipush 23, 2) := by decide +kernel
theorem dX9_takes_206 : decode cX9_takes 206 = .ok (.iconst 0, 1) := by decide +kernel
theorem dX9_takes_207 : decode cX9_takes 207 = .ok (.iastore, 1) := by decide +kernel
theorem dX9_takes_208 : decode cX9_takes 208 = .ok (.return_, 1) := by decide +kernel
theorem dX9_fault_0 : decode cX9_fault 0 = .ok (.aload_n 0, 1) := by decide +kernel
theorem dX9_fault_1 : decode cX9_fault 1 = .ok (.getfield 86, 3) := by decide +kernel
theorem dX9_fault_4 : decode cX9_fault 4 = .ok (.ireturn, 1) := by decide +kernel
theorem dX9_isStrip_0 : decode cX9_isStrip 0 = .ok (.iload_n 1, 1) := by decide +kernel
theorem dX9_isStrip_1 : decode cX9_isStrip 1 = .ok (.i2l, 1) := by decide +kernel
theorem dX9_isStrip_2 : decode cX9_isStrip 2 = .ok (.lconst 0, 1) := by decide +kernel
theorem dX9_isStrip_3 : decode cX9_isStrip 3 = .ok (.aload_n 0, 1) := by decide +kernel
theorem dX9_isStrip_4 : decode cX9_isStrip 4 = .ok (.getfield 180, 3) := by decide +kernel
theorem dX9_isStrip_7 : decode cX9_isStrip 7 = .ok (.iconst 1, 1) := by decide +kernel
theorem dX9_isStrip_8 : decode cX9_isStrip 8 = .ok (.isub, 1) := by decide +kernel
theorem dX9_isStrip_9 : decode cX9_isStrip 9 = .ok (.i2l, 1) := by decide +kernel
theorem dX9_isStrip_10 : decode cX9_isStrip 10 = .ok (.invokestatic 92, 3) := by decide +kernel
theorem dX9_isStrip_13 : decode cX9_isStrip 13 = .ok (.ireturn, 1) := by decide +kernel
theorem dX9_isSeam_0 : decode cX9_isSeam 0 = .ok (.iload_n 1, 1) := by decide +kernel
theorem dX9_isSeam_1 : decode cX9_isSeam 1 = .ok (.i2l, 1) := by decide +kernel
theorem dX9_isSeam_2 : decode cX9_isSeam 2 = .ok (.lconst 0, 1) := by decide +kernel
theorem dX9_isSeam_3 : decode cX9_isSeam 3 = .ok (.aload_n 0, 1) := by decide +kernel
theorem dX9_isSeam_4 : decode cX9_isSeam 4 = .ok (.getfield 186, 3) := by decide +kernel
theorem dX9_isSeam_7 : decode cX9_isSeam 7 = .ok (.iconst 1, 1) := by decide +kernel
theorem dX9_isSeam_8 : decode cX9_isSeam 8 = .ok (.isub, 1) := by decide +kernel
theorem dX9_isSeam_9 : decode cX9_isSeam 9 = .ok (.i2l, 1) := by decide +kernel
theorem dX9_isSeam_10 : decode cX9_isSeam 10 = .ok (.invokestatic 92, 3) := by decide +kernel
theorem dX9_isSeam_13 : decode cX9_isSeam 13 = .ok (.ireturn, 1) := by decide +kernel
theorem dX9_areStrips_0 : decode cX9_areStrips 0 = .ok (.iload_n 1, 1) := by decide +kernel
theorem dX9_areStrips_1 : decode cX9_areStrips 1 = .ok (.i2l, 1) := by decide +kernel
theorem dX9_areStrips_2 : decode cX9_areStrips 2 = .ok (.lconst 0, 1) := by decide +kernel
theorem dX9_areStrips_3 : decode cX9_areStrips 3 = .ok (.iconst 1, 1) := by decide +kernel
theorem dX9_areStrips_4 : decode cX9_areStrips 4 = .ok (.aload_n 0, 1) := by decide +kernel
theorem dX9_areStrips_5 : decode cX9_areStrips 5 = .ok (.getfield 180, 3) := by decide +kernel
theorem dX9_areStrips_8 : decode cX9_areStrips 8 = .ok (.ishl, 1) := by decide +kernel
theorem dX9_areStrips_9 : decode cX9_areStrips 9 = .ok (.iconst 1, 1) := by decide +kernel
theorem dX9_areStrips_10 : decode cX9_areStrips 10 = .ok (.isub, 1) := by decide +kernel
theorem dX9_areStrips_11 : decode cX9_areStrips 11 = .ok (.i2l, 1) := by decide +kernel
theorem dX9_areStrips_12 : decode cX9_areStrips 12 = .ok (.invokestatic 92, 3) := by decide +kernel
theorem dX9_areStrips_15 : decode cX9_areStrips 15 = .ok (.ireturn, 1) := by decide +kernel
theorem dX9_there_0 : decode cX9_there 0 = .ok (.iconst 0, 1) := by decide +kernel
theorem dX9_there_1 : decode cX9_there 1 = .ok (.istore_n 2, 1) := by decide +kernel
theorem dX9_there_2 : decode cX9_there 2 = .ok (.iconst 0, 1) := by decide +kernel
theorem dX9_there_3 : decode cX9_there 3 = .ok (.istore_n 3, 1) := by decide +kernel
theorem dX9_there_4 : decode cX9_there 4 = .ok (.iload_n 3, 1) := by decide +kernel
theorem dX9_there_5 : decode cX9_there 5 = .ok (.aload_n 0, 1) := by decide +kernel
theorem dX9_there_6 : decode cX9_there 6 = .ok (.getfield 186, 3) := by decide +kernel
theorem dX9_there_9 : decode cX9_there 9 = .ok (.if_icmp .ge 38, 3) := by decide +kernel
theorem dX9_there_12 : decode cX9_there 12 = .ok (.iload_n 2, 1) := by decide +kernel
theorem dX9_there_13 : decode cX9_there 13 = .ok (.aload_n 0, 1) := by decide +kernel
theorem dX9_there_14 : decode cX9_there 14 = .ok (.getfield 46, 3) := by decide +kernel
theorem dX9_there_17 : decode cX9_there 17 = .ok (.iload_n 3, 1) := by decide +kernel
theorem dX9_there_18 : decode cX9_there 18 = .ok (.iaload, 1) := by decide +kernel
theorem dX9_there_19 : decode cX9_there 19 = .ok (.ifCond .le 19, 3) := by decide +kernel
theorem dX9_there_22 : decode cX9_there 22 = .ok (.aload_n 0, 1) := by decide +kernel
theorem dX9_there_23 : decode cX9_there 23 = .ok (.getfield 46, 3) := by decide +kernel
theorem dX9_there_26 : decode cX9_there 26 = .ok (.iload_n 3, 1) := by decide +kernel
theorem dX9_there_27 : decode cX9_there 27 = .ok (.iaload, 1) := by decide +kernel
theorem dX9_there_28 : decode cX9_there 28 = .ok (.iload_n 1, 1) := by decide +kernel
theorem dX9_there_29 : decode cX9_there 29 = .ok (.if_icmp .lt 9, 3) := by decide +kernel
theorem dX9_there_32 : decode cX9_there 32 = .ok (.iconst 1, 1) := by decide +kernel
theorem dX9_there_33 : decode cX9_there 33 = .ok (.iload_n 3, 1) := by decide +kernel
theorem dX9_there_34 : decode cX9_there 34 = .ok (.ishl, 1) := by decide +kernel
theorem dX9_there_35 : decode cX9_there 35 = .ok (.goto 4, 3) := by decide +kernel
theorem dX9_there_38 : decode cX9_there 38 = .ok (.iconst 0, 1) := by decide +kernel
theorem dX9_there_39 : decode cX9_there 39 = .ok (.ior, 1) := by decide +kernel
theorem dX9_there_40 : decode cX9_there 40 = .ok (.istore_n 2, 1) := by decide +kernel
theorem dX9_there_41 : decode cX9_there 41 = .ok (.iinc 3 1, 3) := by decide +kernel
theorem dX9_there_44 : decode cX9_there 44 = .ok (.goto (-40), 3) := by decide +kernel
theorem dX9_there_47 : decode cX9_there 47 = .ok (.iload_n 2, 1) := by decide +kernel
theorem dX9_there_48 : decode cX9_there 48 = .ok (.ireturn, 1) := by decide +kernel
theorem dX9_told_0 : decode cX9_told 0 = .ok (.iconst 0, 1) := by decide +kernel
theorem dX9_told_1 : decode cX9_told 1 = .ok (.istore_n 2, 1) := by decide +kernel
theorem dX9_told_2 : decode cX9_told 2 = .ok (.iconst 0, 1) := by decide +kernel
theorem dX9_told_3 : decode cX9_told 3 = .ok (.istore_n 3, 1) := by decide +kernel
theorem dX9_told_4 : decode cX9_told 4 = .ok (.iload_n 3, 1) := by decide +kernel
theorem dX9_told_5 : decode cX9_told 5 = .ok (.aload_n 0, 1) := by decide +kernel
theorem dX9_told_6 : decode cX9_told 6 = .ok (.getfield 180, 3) := by decide +kernel
theorem dX9_told_9 : decode cX9_told 9 = .ok (.if_icmp .ge 23, 3) := by decide +kernel
theorem dX9_told_12 : decode cX9_told 12 = .ok (.iload_n 2, 1) := by decide +kernel
theorem dX9_told_13 : decode cX9_told 13 = .ok (.aload_n 0, 1) := by decide +kernel
theorem dX9_told_14 : decode cX9_told 14 = .ok (.getfield 31, 3) := by decide +kernel
theorem dX9_told_17 : decode cX9_told 17 = .ok (.aload_n 0, 1) := by decide +kernel
theorem dX9_told_18 : decode cX9_told 18 = .ok (.getfield 34, 3) := by decide +kernel
theorem dX9_told_21 : decode cX9_told 21 = .ok (.iload_n 3, 1) := by decide +kernel
theorem dX9_told_22 : decode cX9_told 22 = .ok (.iaload, 1) := by decide +kernel
theorem dX9_told_23 : decode cX9_told 23 = .ok (.iaload, 1) := by decide +kernel
theorem dX9_told_24 : decode cX9_told 24 = .ok (.iadd, 1) := by decide +kernel
theorem dX9_told_25 : decode cX9_told 25 = .ok (.istore_n 2, 1) := by decide +kernel
theorem dX9_told_26 : decode cX9_told 26 = .ok (.iinc 3 1, 3) := by decide +kernel
theorem dX9_told_29 : decode cX9_told 29 = .ok (.goto (-25), 3) := by decide +kernel
theorem dX9_told_32 : decode cX9_told 32 = .ok (.iload_n 1, 1) := by decide +kernel
theorem dX9_told_33 : decode cX9_told 33 = .ok (.tableswitch 94 0 8 #[51, 56, 61, 66, 71, 76, 82, 87, 89], 51) := by decide +kernel
theorem dX9_told_84 : decode cX9_told 84 = .ok (.aload_n 0, 1) := by decide +kernel
theorem dX9_told_85 : decode cX9_told 85 = .ok (.getfield 183, 3) := by decide +kernel
theorem dX9_told_88 : decode cX9_told 88 = .ok (.ireturn, 1) := by decide +kernel
theorem dX9_told_89 : decode cX9_told 89 = .ok (.aload_n 0, 1) := by decide +kernel
theorem dX9_told_90 : decode cX9_told 90 = .ok (.getfield 180, 3) := by decide +kernel
theorem dX9_told_93 : decode cX9_told 93 = .ok (.ireturn, 1) := by decide +kernel
theorem dX9_told_94 : decode cX9_told 94 = .ok (.aload_n 0, 1) := by decide +kernel
theorem dX9_told_95 : decode cX9_told 95 = .ok (.getfield 186, 3) := by decide +kernel
theorem dX9_told_98 : decode cX9_told 98 = .ok (.ireturn, 1) := by decide +kernel
theorem dX9_told_99 : decode cX9_told 99 = .ok (.aload_n 0, 1) := by decide +kernel
theorem dX9_told_100 : decode cX9_told 100 = .ok (.getfield 189, 3) := by decide +kernel
theorem dX9_told_103 : decode cX9_told 103 = .ok (.ireturn, 1) := by decide +kernel
theorem dX9_told_104 : decode cX9_told 104 = .ok (.aload_n 0, 1) := by decide +kernel
theorem dX9_told_105 : decode cX9_told 105 = .ok (.getfield 97, 3) := by decide +kernel
theorem dX9_told_108 : decode cX9_told 108 = .ok (.ireturn, 1) := by decide +kernel
theorem dX9_told_109 : decode cX9_told 109 = .ok (.aload_n 0, 1) := by decide +kernel
theorem dX9_told_110 : decode cX9_told 110 = .ok (.iconst 0, 1) := by decide +kernel
theorem dX9_told_111 : decode cX9_told 111 = .ok (.invokevirtual 198, 3) := by decide +kernel
theorem dX9_told_114 : decode cX9_told 114 = .ok (.ireturn, 1) := by decide +kernel
theorem dX9_told_115 : decode cX9_told 115 = .ok (.aload_n 0, 1) := by decide +kernel
theorem dX9_told_116 : decode cX9_told 116 = .ok (.getfield 192, 3) := by decide +kernel
theorem dX9_told_119 : decode cX9_told 119 = .ok (.ireturn, 1) := by decide +kernel
theorem dX9_told_120 : decode cX9_told 120 = .ok (.iload_n 2, 1) := by decide +kernel
theorem dX9_told_121 : decode cX9_told 121 = .ok (.ireturn, 1) := by decide +kernel
theorem dX9_told_122 : decode cX9_told 122 = .ok (.aload_n 0, 1) := by decide +kernel
theorem dX9_told_123 : decode cX9_told 123 = .ok (.getfield 195, 3) := by decide +kernel
theorem dX9_told_126 : decode cX9_told 126 = .ok (.ireturn, 1) := by decide +kernel
theorem dX9_told_127 : decode cX9_told 127 = .ok (.ldc 96, 2) := by decide +kernel
theorem dX9_told_129 : decode cX9_told 129 = .ok (.ireturn, 1) := by decide +kernel
theorem dX9_seam_0 : decode cX9_seam 0 = .ok (.aload_n 0, 1) := by decide +kernel
theorem dX9_seam_1 : decode cX9_seam 1 = .ok (.iload_n 1, 1) := by decide +kernel
theorem dX9_seam_2 : decode cX9_seam 2 = .ok (.invokevirtual 202, 3) := by decide +kernel
theorem dX9_seam_5 : decode cX9_seam 5 = .ok (.ifCond .ne 6, 3) := by decide +kernel
theorem dX9_seam_8 : decode cX9_seam 8 = .ok (.ldc 205, 2) := by decide +kernel
theorem dX9_seam_10 : decode cX9_seam 10 = .ok (.ireturn, 1) := by decide +kernel
theorem dX9_seam_11 : decode cX9_seam 11 = .ok (.iload_n 2, 1) := by decide +kernel
theorem dX9_seam_12 : decode cX9_seam 12 = .ok (.i2l, 1) := by decide +kernel
theorem dX9_seam_13 : decode cX9_seam 13 = .ok (.lconst 0, 1) := by decide +kernel
theorem dX9_seam_14 : decode cX9_seam 14 = .ok (.ldc2_w 206, 3) := by decide +kernel
theorem dX9_seam_17 : decode cX9_seam 17 = .ok (.invokestatic 92, 3) := by decide +kernel
theorem dX9_seam_20 : decode cX9_seam 20 = .ok (.ifCond .ne 6, 3) := by decide +kernel
theorem dX9_seam_23 : decode cX9_seam 23 = .ok (.ldc 96, 2) := by decide +kernel
theorem dX9_seam_25 : decode cX9_seam 25 = .ok (.ireturn, 1) := by decide +kernel
theorem dX9_seam_26 : decode cX9_seam 26 = .ok (.iload_n 2, 1) := by decide +kernel
theorem dX9_seam_27 : decode cX9_seam 27 = .ok (.ifCond .ne 12, 3) := by decide +kernel
theorem dX9_seam_30 : decode cX9_seam 30 = .ok (.aload_n 0, 1) := by decide +kernel
theorem dX9_seam_31 : decode cX9_seam 31 = .ok (.getfield 40, 3) := by decide +kernel
theorem dX9_seam_34 : decode cX9_seam 34 = .ok (.iload_n 1, 1) := by decide +kernel
theorem dX9_seam_35 : decode cX9_seam 35 = .ok (.iaload, 1) := by decide +kernel
theorem dX9_seam_36 : decode cX9_seam 36 = .ok (.goto 54, 3) := by decide +kernel
theorem dX9_seam_39 : decode cX9_seam 39 = .ok (.iload_n 2, 1) := by decide +kernel
theorem dX9_seam_40 : decode cX9_seam 40 = .ok (.iconst 1, 1) := by decide +kernel
theorem dX9_seam_41 : decode cX9_seam 41 = .ok (.if_icmp .ne 27, 3) := by decide +kernel
theorem dX9_seam_44 : decode cX9_seam 44 = .ok (.aload_n 0, 1) := by decide +kernel
theorem dX9_seam_45 : decode cX9_seam 45 = .ok (.getfield 43, 3) := by decide +kernel
theorem dX9_seam_48 : decode cX9_seam 48 = .ok (.iload_n 1, 1) := by decide +kernel
theorem dX9_seam_49 : decode cX9_seam 49 = .ok (.iaload, 1) := by decide +kernel
theorem dX9_seam_50 : decode cX9_seam 50 = .ok (.bipush 8, 2) := by decide +kernel
theorem dX9_seam_52 : decode cX9_seam 52 = .ok (.if_icmp .ne 7, 3) := by decide +kernel
theorem dX9_seam_55 : decode cX9_seam 55 = .ok (.iconst (-1), 1) := by decide +kernel
theorem dX9_seam_56 : decode cX9_seam 56 = .ok (.goto 34, 3) := by decide +kernel
theorem dX9_seam_59 : decode cX9_seam 59 = .ok (.aload_n 0, 1) := by decide +kernel
theorem dX9_seam_60 : decode cX9_seam 60 = .ok (.getfield 43, 3) := by decide +kernel
theorem dX9_seam_63 : decode cX9_seam 63 = .ok (.iload_n 1, 1) := by decide +kernel
theorem dX9_seam_64 : decode cX9_seam 64 = .ok (.iaload, 1) := by decide +kernel
theorem dX9_seam_65 : decode cX9_seam 65 = .ok (.goto 25, 3) := by decide +kernel
theorem dX9_seam_68 : decode cX9_seam 68 = .ok (.iload_n 2, 1) := by decide +kernel
theorem dX9_seam_69 : decode cX9_seam 69 = .ok (.iconst 2, 1) := by decide +kernel
theorem dX9_seam_70 : decode cX9_seam 70 = .ok (.if_icmp .ne 12, 3) := by decide +kernel
theorem dX9_seam_73 : decode cX9_seam 73 = .ok (.aload_n 0, 1) := by decide +kernel
theorem dX9_seam_74 : decode cX9_seam 74 = .ok (.getfield 46, 3) := by decide +kernel
theorem dX9_seam_77 : decode cX9_seam 77 = .ok (.iload_n 1, 1) := by decide +kernel
theorem dX9_seam_78 : decode cX9_seam 78 = .ok (.iaload, 1) := by decide +kernel
theorem dX9_seam_79 : decode cX9_seam 79 = .ok (.goto 11, 3) := by decide +kernel
theorem dX9_seam_82 : decode cX9_seam 82 = .ok (.aload_n 0, 1) := by decide +kernel
theorem dX9_seam_83 : decode cX9_seam 83 = .ok (.getfield 192, 3) := by decide +kernel
theorem dX9_seam_86 : decode cX9_seam 86 = .ok (.iload_n 1, 1) := by decide +kernel
theorem dX9_seam_87 : decode cX9_seam 87 = .ok (.ishr, 1) := by decide +kernel
theorem dX9_seam_88 : decode cX9_seam 88 = .ok (.iconst 1, 1) := by decide +kernel
theorem dX9_seam_89 : decode cX9_seam 89 = .ok (.iand, 1) := by decide +kernel
theorem dX9_seam_90 : decode cX9_seam 90 = .ok (.ireturn, 1) := by decide +kernel
theorem dX9_isOn_0 : decode cX9_isOn 0 = .ok (.aload_n 0, 1) := by decide +kernel
theorem dX9_isOn_1 : decode cX9_isOn 1 = .ok (.getfield 40, 3) := by decide +kernel
theorem dX9_isOn_4 : decode cX9_isOn 4 = .ok (.iload_n 1, 1) := by decide +kernel
theorem dX9_isOn_5 : decode cX9_isOn 5 = .ok (.iaload, 1) := by decide +kernel
theorem dX9_isOn_6 : decode cX9_isOn 6 = .ok (.iload_n 2, 1) := by decide +kernel
theorem dX9_isOn_7 : decode cX9_isOn 7 = .ok (.if_icmp .eq 13, 3) := by decide +kernel
theorem dX9_isOn_10 : decode cX9_isOn 10 = .ok (.aload_n 0, 1) := by decide +kernel
theorem dX9_isOn_11 : decode cX9_isOn 11 = .ok (.getfield 43, 3) := by decide +kernel
theorem dX9_isOn_14 : decode cX9_isOn 14 = .ok (.iload_n 1, 1) := by decide +kernel
theorem dX9_isOn_15 : decode cX9_isOn 15 = .ok (.iaload, 1) := by decide +kernel
theorem dX9_isOn_16 : decode cX9_isOn 16 = .ok (.iload_n 2, 1) := by decide +kernel
theorem dX9_isOn_17 : decode cX9_isOn 17 = .ok (.if_icmp .ne 7, 3) := by decide +kernel
theorem dX9_isOn_20 : decode cX9_isOn 20 = .ok (.iconst 1, 1) := by decide +kernel
theorem dX9_isOn_21 : decode cX9_isOn 21 = .ok (.goto 4, 3) := by decide +kernel
theorem dX9_isOn_24 : decode cX9_isOn 24 = .ok (.iconst 0, 1) := by decide +kernel
theorem dX9_isOn_25 : decode cX9_isOn 25 = .ok (.ireturn, 1) := by decide +kernel
theorem dX9_borders_0 : decode cX9_borders 0 = .ok (.iconst 0, 1) := by decide +kernel
theorem dX9_borders_1 : decode cX9_borders 1 = .ok (.istore_n 3, 1) := by decide +kernel
theorem dX9_borders_2 : decode cX9_borders 2 = .ok (.iconst 0, 1) := by decide +kernel
theorem dX9_borders_3 : decode cX9_borders 3 = .ok (.istore 4, 2) := by decide +kernel
theorem dX9_borders_5 : decode cX9_borders 5 = .ok (.iload 4, 2) := by decide +kernel
theorem dX9_borders_7 : decode cX9_borders 7 = .ok (.aload_n 0, 1) := by decide +kernel
theorem dX9_borders_8 : decode cX9_borders 8 = .ok (.getfield 186, 3) := by decide +kernel
theorem dX9_borders_11 : decode cX9_borders 11 = .ok (.if_icmp .ge 79, 3) := by decide +kernel
theorem dX9_borders_14 : decode cX9_borders 14 = .ok (.iload_n 2, 1) := by decide +kernel
theorem dX9_borders_15 : decode cX9_borders 15 = .ok (.iload 4, 2) := by decide +kernel
theorem dX9_borders_17 : decode cX9_borders 17 = .ok (.ishr, 1) := by decide +kernel
theorem dX9_borders_18 : decode cX9_borders 18 = .ok (.iconst 1, 1) := by decide +kernel
theorem dX9_borders_19 : decode cX9_borders 19 = .ok (.iand, 1) := by decide +kernel
theorem dX9_borders_20 : decode cX9_borders 20 = .ok (.iconst 1, 1) := by decide +kernel
theorem dX9_borders_21 : decode cX9_borders 21 = .ok (.if_icmp .ne 29, 3) := by decide +kernel
theorem dX9_borders_24 : decode cX9_borders 24 = .ok (.aload_n 0, 1) := by decide +kernel
theorem dX9_borders_25 : decode cX9_borders 25 = .ok (.iload 4, 2) := by decide +kernel
theorem dX9_borders_27 : decode cX9_borders 27 = .ok (.iload_n 1, 1) := by decide +kernel
theorem dX9_borders_28 : decode cX9_borders 28 = .ok (.invokevirtual 208, 3) := by decide +kernel
theorem dX9_borders_31 : decode cX9_borders 31 = .ok (.ifCond .eq 19, 3) := by decide +kernel
theorem dX9_borders_34 : decode cX9_borders 34 = .ok (.aload_n 0, 1) := by decide +kernel
theorem dX9_borders_35 : decode cX9_borders 35 = .ok (.getfield 43, 3) := by decide +kernel
theorem dX9_borders_38 : decode cX9_borders 38 = .ok (.iload 4, 2) := by decide +kernel
theorem dX9_borders_40 : decode cX9_borders 40 = .ok (.iaload, 1) := by decide +kernel
theorem dX9_borders_41 : decode cX9_borders 41 = .ok (.bipush 8, 2) := by decide +kernel
theorem dX9_borders_43 : decode cX9_borders 43 = .ok (.if_icmp .eq 7, 3) := by decide +kernel
theorem dX9_borders_46 : decode cX9_borders 46 = .ok (.iconst 1, 1) := by decide +kernel
theorem dX9_borders_47 : decode cX9_borders 47 = .ok (.goto 4, 3) := by decide +kernel
theorem dX9_borders_50 : decode cX9_borders 50 = .ok (.iconst 0, 1) := by decide +kernel
theorem dX9_borders_51 : decode cX9_borders 51 = .ok (.istore 5, 2) := by decide +kernel
theorem dX9_borders_53 : decode cX9_borders 53 = .ok (.iload_n 3, 1) := by decide +kernel
theorem dX9_borders_54 : decode cX9_borders 54 = .ok (.iload 5, 2) := by decide +kernel
theorem dX9_borders_56 : decode cX9_borders 56 = .ok (.ifCond .eq 25, 3) := by decide +kernel
theorem dX9_borders_59 : decode cX9_borders 59 = .ok (.iconst 1, 1) := by decide +kernel
theorem dX9_borders_60 : decode cX9_borders 60 = .ok (.aload_n 0, 1) := by decide +kernel
theorem dX9_borders_61 : decode cX9_borders 61 = .ok (.getfield 40, 3) := by decide +kernel
theorem dX9_borders_64 : decode cX9_borders 64 = .ok (.iload 4, 2) := by decide +kernel
theorem dX9_borders_66 : decode cX9_borders 66 = .ok (.iaload, 1) := by decide +kernel
theorem dX9_borders_67 : decode cX9_borders 67 = .ok (.aload_n 0, 1) := by decide +kernel
theorem dX9_borders_68 : decode cX9_borders 68 = .ok (.getfield 43, 3) := by decide +kernel
theorem dX9_borders_71 : decode cX9_borders 71 = .ok (.iload 4, 2) := by decide +kernel
theorem dX9_borders_73 : decode cX9_borders 73 = .ok (.iaload, 1) := by decide +kernel
theorem dX9_borders_74 : decode cX9_borders 74 = .ok (.iadd, 1) := by decide +kernel
theorem dX9_borders_75 : decode cX9_borders 75 = .ok (.iload_n 1, 1) := by decide +kernel
theorem dX9_borders_76 : decode cX9_borders 76 = .ok (.isub, 1) := by decide +kernel
theorem dX9_borders_77 : decode cX9_borders 77 = .ok (.ishl, 1) := by decide +kernel
theorem dX9_borders_78 : decode cX9_borders 78 = .ok (.goto 4, 3) := by decide +kernel
theorem dX9_borders_81 : decode cX9_borders 81 = .ok (.iconst 0, 1) := by decide +kernel
theorem dX9_borders_82 : decode cX9_borders 82 = .ok (.ior, 1) := by decide +kernel
theorem dX9_borders_83 : decode cX9_borders 83 = .ok (.istore_n 3, 1) := by decide +kernel
theorem dX9_borders_84 : decode cX9_borders 84 = .ok (.iinc 4 1, 3) := by decide +kernel
theorem dX9_borders_87 : decode cX9_borders 87 = .ok (.goto (-82), 3) := by decide +kernel
theorem dX9_borders_90 : decode cX9_borders 90 = .ok (.iload_n 3, 1) := by decide +kernel
theorem dX9_borders_91 : decode cX9_borders 91 = .ok (.ireturn, 1) := by decide +kernel
theorem dX9_seamsOf_0 : decode cX9_seamsOf 0 = .ok (.iconst 0, 1) := by decide +kernel
theorem dX9_seamsOf_1 : decode cX9_seamsOf 1 = .ok (.istore_n 3, 1) := by decide +kernel
theorem dX9_seamsOf_2 : decode cX9_seamsOf 2 = .ok (.iconst 0, 1) := by decide +kernel
theorem dX9_seamsOf_3 : decode cX9_seamsOf 3 = .ok (.istore 4, 2) := by decide +kernel
theorem dX9_seamsOf_5 : decode cX9_seamsOf 5 = .ok (.iload 4, 2) := by decide +kernel
theorem dX9_seamsOf_7 : decode cX9_seamsOf 7 = .ok (.aload_n 0, 1) := by decide +kernel
theorem dX9_seamsOf_8 : decode cX9_seamsOf 8 = .ok (.getfield 186, 3) := by decide +kernel
theorem dX9_seamsOf_11 : decode cX9_seamsOf 11 = .ok (.if_icmp .ge 40, 3) := by decide +kernel
theorem dX9_seamsOf_14 : decode cX9_seamsOf 14 = .ok (.iload_n 3, 1) := by decide +kernel
theorem dX9_seamsOf_15 : decode cX9_seamsOf 15 = .ok (.iload_n 2, 1) := by decide +kernel
theorem dX9_seamsOf_16 : decode cX9_seamsOf 16 = .ok (.iload 4, 2) := by decide +kernel
theorem dX9_seamsOf_18 : decode cX9_seamsOf 18 = .ok (.ishr, 1) := by decide +kernel
theorem dX9_seamsOf_19 : decode cX9_seamsOf 19 = .ok (.iconst 1, 1) := by decide +kernel
theorem dX9_seamsOf_20 : decode cX9_seamsOf 20 = .ok (.iand, 1) := by decide +kernel
theorem dX9_seamsOf_21 : decode cX9_seamsOf 21 = .ok (.iconst 1, 1) := by decide +kernel
theorem dX9_seamsOf_22 : decode cX9_seamsOf 22 = .ok (.if_icmp .ne 20, 3) := by decide +kernel
theorem dX9_seamsOf_25 : decode cX9_seamsOf 25 = .ok (.aload_n 0, 1) := by decide +kernel
theorem dX9_seamsOf_26 : decode cX9_seamsOf 26 = .ok (.iload 4, 2) := by decide +kernel
theorem dX9_seamsOf_28 : decode cX9_seamsOf 28 = .ok (.iload_n 1, 1) := by decide +kernel
theorem dX9_seamsOf_29 : decode cX9_seamsOf 29 = .ok (.invokevirtual 208, 3) := by decide +kernel
theorem dX9_seamsOf_32 : decode cX9_seamsOf 32 = .ok (.ifCond .eq 10, 3) := by decide +kernel
theorem dX9_seamsOf_35 : decode cX9_seamsOf 35 = .ok (.iconst 1, 1) := by decide +kernel
theorem dX9_seamsOf_36 : decode cX9_seamsOf 36 = .ok (.iload 4, 2) := by decide +kernel
theorem dX9_seamsOf_38 : decode cX9_seamsOf 38 = .ok (.ishl, 1) := by decide +kernel
theorem dX9_seamsOf_39 : decode cX9_seamsOf 39 = .ok (.goto 4, 3) := by decide +kernel
theorem dX9_seamsOf_42 : decode cX9_seamsOf 42 = .ok (.iconst 0, 1) := by decide +kernel
theorem dX9_seamsOf_43 : decode cX9_seamsOf 43 = .ok (.ior, 1) := by decide +kernel
theorem dX9_seamsOf_44 : decode cX9_seamsOf 44 = .ok (.istore_n 3, 1) := by decide +kernel
theorem dX9_seamsOf_45 : decode cX9_seamsOf 45 = .ok (.iinc 4 1, 3) := by decide +kernel
theorem dX9_seamsOf_48 : decode cX9_seamsOf 48 = .ok (.goto (-43), 3) := by decide +kernel
theorem dX9_seamsOf_51 : decode cX9_seamsOf 51 = .ok (.iload_n 3, 1) := by decide +kernel
theorem dX9_seamsOf_52 : decode cX9_seamsOf 52 = .ok (.ireturn, 1) := by decide +kernel
theorem dX9_strip_0 : decode cX9_strip 0 = .ok (.aload_n 0, 1) := by decide +kernel
theorem dX9_strip_1 : decode cX9_strip 1 = .ok (.iload_n 1, 1) := by decide +kernel
theorem dX9_strip_2 : decode cX9_strip 2 = .ok (.invokevirtual 212, 3) := by decide +kernel
theorem dX9_strip_5 : decode cX9_strip 5 = .ok (.ifCond .ne 6, 3) := by decide +kernel
theorem dX9_strip_8 : decode cX9_strip 8 = .ok (.ldc 205, 2) := by decide +kernel
theorem dX9_strip_10 : decode cX9_strip 10 = .ok (.ireturn, 1) := by decide +kernel
theorem dX9_strip_11 : decode cX9_strip 11 = .ok (.iload_n 2, 1) := by decide +kernel
theorem dX9_strip_12 : decode cX9_strip 12 = .ok (.tableswitch 68 0 3 #[32, 39, 50, 61], 32) := by decide +kernel
theorem dX9_strip_44 : decode cX9_strip 44 = .ok (.aload_n 0, 1) := by decide +kernel
theorem dX9_strip_45 : decode cX9_strip 45 = .ok (.getfield 34, 3) := by decide +kernel
theorem dX9_strip_48 : decode cX9_strip 48 = .ok (.iload_n 1, 1) := by decide +kernel
theorem dX9_strip_49 : decode cX9_strip 49 = .ok (.iaload, 1) := by decide +kernel
theorem dX9_strip_50 : decode cX9_strip 50 = .ok (.ireturn, 1) := by decide +kernel
theorem dX9_strip_51 : decode cX9_strip 51 = .ok (.aload_n 0, 1) := by decide +kernel
theorem dX9_strip_52 : decode cX9_strip 52 = .ok (.iload_n 1, 1) := by decide +kernel
theorem dX9_strip_53 : decode cX9_strip 53 = .ok (.aload_n 0, 1) := by decide +kernel
theorem dX9_strip_54 : decode cX9_strip 54 = .ok (.iconst 0, 1) := by decide +kernel
theorem dX9_strip_55 : decode cX9_strip 55 = .ok (.invokevirtual 198, 3) := by decide +kernel
theorem dX9_strip_58 : decode cX9_strip 58 = .ok (.invokevirtual 215, 3) := by decide +kernel
theorem dX9_strip_61 : decode cX9_strip 61 = .ok (.ireturn, 1) := by decide +kernel
theorem dX9_strip_62 : decode cX9_strip 62 = .ok (.aload_n 0, 1) := by decide +kernel
theorem dX9_strip_63 : decode cX9_strip 63 = .ok (.iload_n 1, 1) := by decide +kernel
theorem dX9_strip_64 : decode cX9_strip 64 = .ok (.aload_n 0, 1) := by decide +kernel
theorem dX9_strip_65 : decode cX9_strip 65 = .ok (.iconst 0, 1) := by decide +kernel
theorem dX9_strip_66 : decode cX9_strip 66 = .ok (.invokevirtual 198, 3) := by decide +kernel
theorem dX9_strip_69 : decode cX9_strip 69 = .ok (.invokevirtual 218, 3) := by decide +kernel
theorem dX9_strip_72 : decode cX9_strip 72 = .ok (.ireturn, 1) := by decide +kernel
theorem dX9_strip_73 : decode cX9_strip 73 = .ok (.aload_n 0, 1) := by decide +kernel
theorem dX9_strip_74 : decode cX9_strip 74 = .ok (.getfield 37, 3) := by decide +kernel
theorem dX9_strip_77 : decode cX9_strip 77 = .ok (.iload_n 1, 1) := by decide +kernel
theorem dX9_strip_78 : decode cX9_strip 78 = .ok (.iaload, 1) := by decide +kernel
theorem dX9_strip_79 : decode cX9_strip 79 = .ok (.ireturn, 1) := by decide +kernel
theorem dX9_strip_80 : decode cX9_strip 80 = .ok (.ldc 96, 2) := by decide +kernel
theorem dX9_strip_82 : decode cX9_strip 82 = .ok (.ireturn, 1) := by decide +kernel
theorem dX9_flying_0 : decode cX9_flying 0 = .ok (.sipush 256, 3) := by decide +kernel
theorem dX9_flying_3 : decode cX9_flying 3 = .ok (.istore_n 2, 1) := by decide +kernel
theorem dX9_flying_4 : decode cX9_flying 4 = .ok (.iconst 0, 1) := by decide +kernel
theorem dX9_flying_5 : decode cX9_flying 5 = .ok (.istore_n 3, 1) := by decide +kernel
theorem dX9_flying_6 : decode cX9_flying 6 = .ok (.iload_n 2, 1) := by decide +kernel
theorem dX9_flying_7 : decode cX9_flying 7 = .ok (.iload_n 3, 1) := by decide +kernel
theorem dX9_flying_8 : decode cX9_flying 8 = .ok (.if_icmp .eq 97, 3) := by decide +kernel
theorem dX9_flying_11 : decode cX9_flying 11 = .ok (.iload_n 2, 1) := by decide +kernel
theorem dX9_flying_12 : decode cX9_flying 12 = .ok (.istore_n 3, 1) := by decide +kernel
theorem dX9_flying_13 : decode cX9_flying 13 = .ok (.iconst 0, 1) := by decide +kernel
theorem dX9_flying_14 : decode cX9_flying 14 = .ok (.istore 4, 2) := by decide +kernel
theorem dX9_flying_16 : decode cX9_flying 16 = .ok (.iload 4, 2) := by decide +kernel
theorem dX9_flying_18 : decode cX9_flying 18 = .ok (.bipush 20, 2) := by decide +kernel
theorem dX9_flying_20 : decode cX9_flying 20 = .ok (.if_icmp .ge 82, 3) := by decide +kernel
theorem dX9_flying_23 : decode cX9_flying 23 = .ok (.iload_n 1, 1) := by decide +kernel
theorem dX9_flying_24 : decode cX9_flying 24 = .ok (.iload 4, 2) := by decide +kernel
theorem dX9_flying_26 : decode cX9_flying 26 = .ok (.ishr, 1) := by decide +kernel
theorem dX9_flying_27 : decode cX9_flying 27 = .ok (.iconst 1, 1) := by decide +kernel
theorem dX9_flying_28 : decode cX9_flying 28 = .ok (.iand, 1) := by decide +kernel
theorem dX9_flying_29 : decode cX9_flying 29 = .ok (.iconst 1, 1) := by decide +kernel
theorem dX9_flying_30 : decode cX9_flying 30 = .ok (.if_icmp .ne 32, 3) := by decide +kernel
theorem dX9_flying_33 : decode cX9_flying 33 = .ok (.iload_n 2, 1) := by decide +kernel
theorem dX9_flying_34 : decode cX9_flying 34 = .ok (.aload_n 0, 1) := by decide +kernel
theorem dX9_flying_35 : decode cX9_flying 35 = .ok (.getfield 40, 3) := by decide +kernel
theorem dX9_flying_38 : decode cX9_flying 38 = .ok (.iload 4, 2) := by decide +kernel
theorem dX9_flying_40 : decode cX9_flying 40 = .ok (.iaload, 1) := by decide +kernel
theorem dX9_flying_41 : decode cX9_flying 41 = .ok (.ishr, 1) := by decide +kernel
theorem dX9_flying_42 : decode cX9_flying 42 = .ok (.iload_n 2, 1) := by decide +kernel
theorem dX9_flying_43 : decode cX9_flying 43 = .ok (.aload_n 0, 1) := by decide +kernel
theorem dX9_flying_44 : decode cX9_flying 44 = .ok (.getfield 43, 3) := by decide +kernel
theorem dX9_flying_47 : decode cX9_flying 47 = .ok (.iload 4, 2) := by decide +kernel
theorem dX9_flying_49 : decode cX9_flying 49 = .ok (.iaload, 1) := by decide +kernel
theorem dX9_flying_50 : decode cX9_flying 50 = .ok (.ishr, 1) := by decide +kernel
theorem dX9_flying_51 : decode cX9_flying 51 = .ok (.ior, 1) := by decide +kernel
theorem dX9_flying_52 : decode cX9_flying 52 = .ok (.iconst 1, 1) := by decide +kernel
theorem dX9_flying_53 : decode cX9_flying 53 = .ok (.iand, 1) := by decide +kernel
theorem dX9_flying_54 : decode cX9_flying 54 = .ok (.iconst 1, 1) := by decide +kernel
theorem dX9_flying_55 : decode cX9_flying 55 = .ok (.if_icmp .ne 7, 3) := by decide +kernel
theorem dX9_flying_58 : decode cX9_flying 58 = .ok (.iconst 1, 1) := by decide +kernel
theorem dX9_flying_59 : decode cX9_flying 59 = .ok (.goto 4, 3) := by decide +kernel
theorem dX9_flying_62 : decode cX9_flying 62 = .ok (.iconst 0, 1) := by decide +kernel
theorem dX9_flying_63 : decode cX9_flying 63 = .ok (.istore 5, 2) := by decide +kernel
theorem dX9_flying_65 : decode cX9_flying 65 = .ok (.iload_n 2, 1) := by decide +kernel
theorem dX9_flying_66 : decode cX9_flying 66 = .ok (.iload 5, 2) := by decide +kernel
theorem dX9_flying_68 : decode cX9_flying 68 = .ok (.ifCond .eq 25, 3) := by decide +kernel
theorem dX9_flying_71 : decode cX9_flying 71 = .ok (.iconst 1, 1) := by decide +kernel
theorem dX9_flying_72 : decode cX9_flying 72 = .ok (.aload_n 0, 1) := by decide +kernel
theorem dX9_flying_73 : decode cX9_flying 73 = .ok (.getfield 40, 3) := by decide +kernel
theorem dX9_flying_76 : decode cX9_flying 76 = .ok (.iload 4, 2) := by decide +kernel
theorem dX9_flying_78 : decode cX9_flying 78 = .ok (.iaload, 1) := by decide +kernel
theorem dX9_flying_79 : decode cX9_flying 79 = .ok (.ishl, 1) := by decide +kernel
theorem dX9_flying_80 : decode cX9_flying 80 = .ok (.iconst 1, 1) := by decide +kernel
theorem dX9_flying_81 : decode cX9_flying 81 = .ok (.aload_n 0, 1) := by decide +kernel
theorem dX9_flying_82 : decode cX9_flying 82 = .ok (.getfield 43, 3) := by decide +kernel
theorem dX9_flying_85 : decode cX9_flying 85 = .ok (.iload 4, 2) := by decide +kernel
theorem dX9_flying_87 : decode cX9_flying 87 = .ok (.iaload, 1) := by decide +kernel
theorem dX9_flying_88 : decode cX9_flying 88 = .ok (.ishl, 1) := by decide +kernel
theorem dX9_flying_89 : decode cX9_flying 89 = .ok (.ior, 1) := by decide +kernel
theorem dX9_flying_90 : decode cX9_flying 90 = .ok (.goto 4, 3) := by decide +kernel
theorem dX9_flying_93 : decode cX9_flying 93 = .ok (.iconst 0, 1) := by decide +kernel
theorem dX9_flying_94 : decode cX9_flying 94 = .ok (.ior, 1) := by decide +kernel
theorem dX9_flying_95 : decode cX9_flying 95 = .ok (.istore_n 2, 1) := by decide +kernel
theorem dX9_flying_96 : decode cX9_flying 96 = .ok (.iinc 4 1, 3) := by decide +kernel
theorem dX9_flying_99 : decode cX9_flying 99 = .ok (.goto (-83), 3) := by decide +kernel
theorem dX9_flying_102 : decode cX9_flying 102 = .ok (.goto (-96), 3) := by decide +kernel
theorem dX9_flying_105 : decode cX9_flying 105 = .ok (.iload_n 2, 1) := by decide +kernel
theorem dX9_flying_106 : decode cX9_flying 106 = .ok (.sipush 255, 3) := by decide +kernel
theorem dX9_flying_109 : decode cX9_flying 109 = .ok (.iand, 1) := by decide +kernel
theorem dX9_flying_110 : decode cX9_flying 110 = .ok (.ireturn, 1) := by decide +kernel
theorem dX9_flies_0 : decode cX9_flies 0 = .ok (.iload_n 1, 1) := by decide +kernel
theorem dX9_flies_1 : decode cX9_flies 1 = .ok (.i2l, 1) := by decide +kernel
theorem dX9_flies_2 : decode cX9_flies 2 = .ok (.lconst 0, 1) := by decide +kernel
theorem dX9_flies_3 : decode cX9_flies 3 = .ok (.ldc2_w 221, 3) := by decide +kernel
theorem dX9_flies_6 : decode cX9_flies 6 = .ok (.invokestatic 92, 3) := by decide +kernel
theorem dX9_flies_9 : decode cX9_flies 9 = .ok (.ifCond .eq 15, 3) := by decide +kernel
theorem dX9_flies_12 : decode cX9_flies 12 = .ok (.aload_n 0, 1) := by decide +kernel
theorem dX9_flies_13 : decode cX9_flies 13 = .ok (.aload_n 0, 1) := by decide +kernel
theorem dX9_flies_14 : decode cX9_flies 14 = .ok (.iload_n 1, 1) := by decide +kernel
theorem dX9_flies_15 : decode cX9_flies 15 = .ok (.invokevirtual 198, 3) := by decide +kernel
theorem dX9_flies_18 : decode cX9_flies 18 = .ok (.invokevirtual 223, 3) := by decide +kernel
theorem dX9_flies_21 : decode cX9_flies 21 = .ok (.goto 5, 3) := by decide +kernel
theorem dX9_flies_24 : decode cX9_flies 24 = .ok (.ldc 96, 2) := by decide +kernel
theorem dX9_flies_26 : decode cX9_flies 26 = .ok (.ireturn, 1) := by decide +kernel
theorem dX9_mayUnpick_0 : decode cX9_mayUnpick 0 = .ok (.iload_n 3, 1) := by decide +kernel
theorem dX9_mayUnpick_1 : decode cX9_mayUnpick 1 = .ok (.iload_n 2, 1) := by decide +kernel
theorem dX9_mayUnpick_2 : decode cX9_mayUnpick 2 = .ok (.ishr, 1) := by decide +kernel
theorem dX9_mayUnpick_3 : decode cX9_mayUnpick 3 = .ok (.iconst 1, 1) := by decide +kernel
theorem dX9_mayUnpick_4 : decode cX9_mayUnpick 4 = .ok (.iand, 1) := by decide +kernel
theorem dX9_mayUnpick_5 : decode cX9_mayUnpick 5 = .ok (.iconst 1, 1) := by decide +kernel
theorem dX9_mayUnpick_6 : decode cX9_mayUnpick 6 = .ok (.if_icmp .ne 25, 3) := by decide +kernel
theorem dX9_mayUnpick_9 : decode cX9_mayUnpick 9 = .ok (.iload 4, 2) := by decide +kernel
theorem dX9_mayUnpick_11 : decode cX9_mayUnpick 11 = .ok (.iload_n 2, 1) := by decide +kernel
theorem dX9_mayUnpick_12 : decode cX9_mayUnpick 12 = .ok (.ishr, 1) := by decide +kernel
theorem dX9_mayUnpick_13 : decode cX9_mayUnpick 13 = .ok (.iconst 1, 1) := by decide +kernel
theorem dX9_mayUnpick_14 : decode cX9_mayUnpick 14 = .ok (.iand, 1) := by decide +kernel
theorem dX9_mayUnpick_15 : decode cX9_mayUnpick 15 = .ok (.ifCond .ne 16, 3) := by decide +kernel
theorem dX9_mayUnpick_18 : decode cX9_mayUnpick 18 = .ok (.aload_n 0, 1) := by decide +kernel
theorem dX9_mayUnpick_19 : decode cX9_mayUnpick 19 = .ok (.iload_n 2, 1) := by decide +kernel
theorem dX9_mayUnpick_20 : decode cX9_mayUnpick 20 = .ok (.iload_n 1, 1) := by decide +kernel
theorem dX9_mayUnpick_21 : decode cX9_mayUnpick 21 = .ok (.invokevirtual 208, 3) := by decide +kernel
theorem dX9_mayUnpick_24 : decode cX9_mayUnpick 24 = .ok (.ifCond .ne 7, 3) := by decide +kernel
theorem dX9_mayUnpick_27 : decode cX9_mayUnpick 27 = .ok (.iconst 1, 1) := by decide +kernel
theorem dX9_mayUnpick_28 : decode cX9_mayUnpick 28 = .ok (.goto 4, 3) := by decide +kernel
theorem dX9_mayUnpick_31 : decode cX9_mayUnpick 31 = .ok (.iconst 0, 1) := by decide +kernel
theorem dX9_mayUnpick_32 : decode cX9_mayUnpick 32 = .ok (.istore 5, 2) := by decide +kernel
theorem dX9_mayUnpick_34 : decode cX9_mayUnpick 34 = .ok (.aload_n 0, 1) := by decide +kernel
theorem dX9_mayUnpick_35 : decode cX9_mayUnpick 35 = .ok (.iload_n 1, 1) := by decide +kernel
theorem dX9_mayUnpick_36 : decode cX9_mayUnpick 36 = .ok (.iload_n 3, 1) := by decide +kernel
theorem dX9_mayUnpick_37 : decode cX9_mayUnpick 37 = .ok (.invokevirtual 218, 3) := by decide +kernel
theorem dX9_mayUnpick_40 : decode cX9_mayUnpick 40 = .ok (.istore 6, 2) := by decide +kernel
theorem dX9_mayUnpick_42 : decode cX9_mayUnpick 42 = .ok (.iload 5, 2) := by decide +kernel
theorem dX9_mayUnpick_44 : decode cX9_mayUnpick 44 = .ok (.ifCond .eq 48, 3) := by decide +kernel
theorem dX9_mayUnpick_47 : decode cX9_mayUnpick 47 = .ok (.iload 6, 2) := by decide +kernel
theorem dX9_mayUnpick_49 : decode cX9_mayUnpick 49 = .ok (.aload_n 0, 1) := by decide +kernel
theorem dX9_mayUnpick_50 : decode cX9_mayUnpick 50 = .ok (.getfield 40, 3) := by decide +kernel
theorem dX9_mayUnpick_53 : decode cX9_mayUnpick 53 = .ok (.iload_n 2, 1) := by decide +kernel
theorem dX9_mayUnpick_54 : decode cX9_mayUnpick 54 = .ok (.iaload, 1) := by decide +kernel
theorem dX9_mayUnpick_55 : decode cX9_mayUnpick 55 = .ok (.ishr, 1) := by decide +kernel
theorem dX9_mayUnpick_56 : decode cX9_mayUnpick 56 = .ok (.iconst 1, 1) := by decide +kernel
theorem dX9_mayUnpick_57 : decode cX9_mayUnpick 57 = .ok (.iand, 1) := by decide +kernel
theorem dX9_mayUnpick_58 : decode cX9_mayUnpick 58 = .ok (.iconst 1, 1) := by decide +kernel
theorem dX9_mayUnpick_59 : decode cX9_mayUnpick 59 = .ok (.if_icmp .eq 29, 3) := by decide +kernel
theorem dX9_mayUnpick_62 : decode cX9_mayUnpick 62 = .ok (.aload_n 0, 1) := by decide +kernel
theorem dX9_mayUnpick_63 : decode cX9_mayUnpick 63 = .ok (.getfield 43, 3) := by decide +kernel
theorem dX9_mayUnpick_66 : decode cX9_mayUnpick 66 = .ok (.iload_n 2, 1) := by decide +kernel
theorem dX9_mayUnpick_67 : decode cX9_mayUnpick 67 = .ok (.iaload, 1) := by decide +kernel
theorem dX9_mayUnpick_68 : decode cX9_mayUnpick 68 = .ok (.bipush 8, 2) := by decide +kernel
theorem dX9_mayUnpick_70 : decode cX9_mayUnpick 70 = .ok (.if_icmp .eq 22, 3) := by decide +kernel
theorem dX9_mayUnpick_73 : decode cX9_mayUnpick 73 = .ok (.iload 6, 2) := by decide +kernel
theorem dX9_mayUnpick_75 : decode cX9_mayUnpick 75 = .ok (.aload_n 0, 1) := by decide +kernel
theorem dX9_mayUnpick_76 : decode cX9_mayUnpick 76 = .ok (.getfield 43, 3) := by decide +kernel
theorem dX9_mayUnpick_79 : decode cX9_mayUnpick 79 = .ok (.iload_n 2, 1) := by decide +kernel
theorem dX9_mayUnpick_80 : decode cX9_mayUnpick 80 = .ok (.iaload, 1) := by decide +kernel
theorem dX9_mayUnpick_81 : decode cX9_mayUnpick 81 = .ok (.ishr, 1) := by decide +kernel
theorem dX9_mayUnpick_82 : decode cX9_mayUnpick 82 = .ok (.iconst 1, 1) := by decide +kernel
theorem dX9_mayUnpick_83 : decode cX9_mayUnpick 83 = .ok (.iand, 1) := by decide +kernel
theorem dX9_mayUnpick_84 : decode cX9_mayUnpick 84 = .ok (.iconst 1, 1) := by decide +kernel
theorem dX9_mayUnpick_85 : decode cX9_mayUnpick 85 = .ok (.if_icmp .ne 7, 3) := by decide +kernel
theorem dX9_mayUnpick_88 : decode cX9_mayUnpick 88 = .ok (.iconst 1, 1) := by decide +kernel
theorem dX9_mayUnpick_89 : decode cX9_mayUnpick 89 = .ok (.goto 4, 3) := by decide +kernel
theorem dX9_mayUnpick_92 : decode cX9_mayUnpick 92 = .ok (.iconst 0, 1) := by decide +kernel
theorem dX9_mayUnpick_93 : decode cX9_mayUnpick 93 = .ok (.ireturn, 1) := by decide +kernel
theorem dX9_unpick_0 : decode cX9_unpick 0 = .ok (.aload_n 0, 1) := by decide +kernel
theorem dX9_unpick_1 : decode cX9_unpick 1 = .ok (.iload_n 1, 1) := by decide +kernel
theorem dX9_unpick_2 : decode cX9_unpick 2 = .ok (.invokevirtual 212, 3) := by decide +kernel
theorem dX9_unpick_5 : decode cX9_unpick 5 = .ok (.ifCond .eq 11, 3) := by decide +kernel
theorem dX9_unpick_8 : decode cX9_unpick 8 = .ok (.aload_n 0, 1) := by decide +kernel
theorem dX9_unpick_9 : decode cX9_unpick 9 = .ok (.iload_n 2, 1) := by decide +kernel
theorem dX9_unpick_10 : decode cX9_unpick 10 = .ok (.invokevirtual 202, 3) := by decide +kernel
theorem dX9_unpick_13 : decode cX9_unpick 13 = .ok (.ifCond .ne 6, 3) := by decide +kernel
theorem dX9_unpick_16 : decode cX9_unpick 16 = .ok (.ldc 205, 2) := by decide +kernel
theorem dX9_unpick_18 : decode cX9_unpick 18 = .ok (.ireturn, 1) := by decide +kernel
theorem dX9_unpick_19 : decode cX9_unpick 19 = .ok (.aload_n 0, 1) := by decide +kernel
theorem dX9_unpick_20 : decode cX9_unpick 20 = .ok (.iload_n 1, 1) := by decide +kernel
theorem dX9_unpick_21 : decode cX9_unpick 21 = .ok (.iload_n 2, 1) := by decide +kernel
theorem dX9_unpick_22 : decode cX9_unpick 22 = .ok (.aload_n 0, 1) := by decide +kernel
theorem dX9_unpick_23 : decode cX9_unpick 23 = .ok (.iconst 0, 1) := by decide +kernel
theorem dX9_unpick_24 : decode cX9_unpick 24 = .ok (.invokevirtual 198, 3) := by decide +kernel
theorem dX9_unpick_27 : decode cX9_unpick 27 = .ok (.aload_n 0, 1) := by decide +kernel
theorem dX9_unpick_28 : decode cX9_unpick 28 = .ok (.getfield 192, 3) := by decide +kernel
theorem dX9_unpick_31 : decode cX9_unpick 31 = .ok (.invokevirtual 226, 3) := by decide +kernel
theorem dX9_unpick_34 : decode cX9_unpick 34 = .ok (.ifCond .ne 6, 3) := by decide +kernel
theorem dX9_unpick_37 : decode cX9_unpick 37 = .ok (.ldc 230, 2) := by decide +kernel
theorem dX9_unpick_39 : decode cX9_unpick 39 = .ok (.ireturn, 1) := by decide +kernel
theorem dX9_unpick_40 : decode cX9_unpick 40 = .ok (.aload_n 0, 1) := by decide +kernel
theorem dX9_unpick_41 : decode cX9_unpick 41 = .ok (.getfield 46, 3) := by decide +kernel
theorem dX9_unpick_44 : decode cX9_unpick 44 = .ok (.iload_n 2, 1) := by decide +kernel
theorem dX9_unpick_45 : decode cX9_unpick 45 = .ok (.iconst 0, 1) := by decide +kernel
theorem dX9_unpick_46 : decode cX9_unpick 46 = .ok (.iastore, 1) := by decide +kernel
theorem dX9_unpick_47 : decode cX9_unpick 47 = .ok (.aload_n 0, 1) := by decide +kernel
theorem dX9_unpick_48 : decode cX9_unpick 48 = .ok (.iconst 0, 1) := by decide +kernel
theorem dX9_unpick_49 : decode cX9_unpick 49 = .ok (.invokevirtual 198, 3) := by decide +kernel
theorem dX9_unpick_52 : decode cX9_unpick 52 = .ok (.invokestatic 231, 3) := by decide +kernel
theorem dX9_unpick_55 : decode cX9_unpick 55 = .ok (.ireturn, 1) := by decide +kernel
theorem dX9_sew_0 : decode cX9_sew 0 = .ok (.aload_n 0, 1) := by decide +kernel
theorem dX9_sew_1 : decode cX9_sew 1 = .ok (.iload_n 1, 1) := by decide +kernel
theorem dX9_sew_2 : decode cX9_sew 2 = .ok (.invokevirtual 202, 3) := by decide +kernel
theorem dX9_sew_5 : decode cX9_sew 5 = .ok (.ifCond .ne 6, 3) := by decide +kernel
theorem dX9_sew_8 : decode cX9_sew 8 = .ok (.ldc 205, 2) := by decide +kernel
theorem dX9_sew_10 : decode cX9_sew 10 = .ok (.ireturn, 1) := by decide +kernel
theorem dX9_sew_11 : decode cX9_sew 11 = .ok (.iload_n 2, 1) := by decide +kernel
theorem dX9_sew_12 : decode cX9_sew 12 = .ok (.i2l, 1) := by decide +kernel
theorem dX9_sew_13 : decode cX9_sew 13 = .ok (.lconst 0, 1) := by decide +kernel
theorem dX9_sew_14 : decode cX9_sew 14 = .ok (.ldc2_w 221, 3) := by decide +kernel
theorem dX9_sew_17 : decode cX9_sew 17 = .ok (.invokestatic 92, 3) := by decide +kernel
theorem dX9_sew_20 : decode cX9_sew 20 = .ok (.ifCond .ne 6, 3) := by decide +kernel
theorem dX9_sew_23 : decode cX9_sew 23 = .ok (.ldc 96, 2) := by decide +kernel
theorem dX9_sew_25 : decode cX9_sew 25 = .ok (.ireturn, 1) := by decide +kernel
theorem dX9_sew_26 : decode cX9_sew 26 = .ok (.aload_n 0, 1) := by decide +kernel
theorem dX9_sew_27 : decode cX9_sew 27 = .ok (.getfield 46, 3) := by decide +kernel
theorem dX9_sew_30 : decode cX9_sew 30 = .ok (.iload_n 1, 1) := by decide +kernel
theorem dX9_sew_31 : decode cX9_sew 31 = .ok (.iaload, 1) := by decide +kernel
theorem dX9_sew_32 : decode cX9_sew 32 = .ok (.istore_n 3, 1) := by decide +kernel
theorem dX9_sew_33 : decode cX9_sew 33 = .ok (.aload_n 0, 1) := by decide +kernel
theorem dX9_sew_34 : decode cX9_sew 34 = .ok (.getfield 46, 3) := by decide +kernel
theorem dX9_sew_37 : decode cX9_sew 37 = .ok (.iload_n 1, 1) := by decide +kernel
theorem dX9_sew_38 : decode cX9_sew 38 = .ok (.iload_n 2, 1) := by decide +kernel
theorem dX9_sew_39 : decode cX9_sew 39 = .ok (.iastore, 1) := by decide +kernel
theorem dX9_sew_40 : decode cX9_sew 40 = .ok (.iload_n 3, 1) := by decide +kernel
theorem dX9_sew_41 : decode cX9_sew 41 = .ok (.ireturn, 1) := by decide +kernel
theorem dX9_hem_0 : decode cX9_hem 0 = .ok (.aload_n 0, 1) := by decide +kernel
theorem dX9_hem_1 : decode cX9_hem 1 = .ok (.iload_n 1, 1) := by decide +kernel
theorem dX9_hem_2 : decode cX9_hem 2 = .ok (.invokevirtual 202, 3) := by decide +kernel
theorem dX9_hem_5 : decode cX9_hem 5 = .ok (.ifCond .ne 6, 3) := by decide +kernel
theorem dX9_hem_8 : decode cX9_hem 8 = .ok (.ldc 205, 2) := by decide +kernel
theorem dX9_hem_10 : decode cX9_hem 10 = .ok (.ireturn, 1) := by decide +kernel
theorem dX9_hem_11 : decode cX9_hem 11 = .ok (.aload_n 0, 1) := by decide +kernel
theorem dX9_hem_12 : decode cX9_hem 12 = .ok (.getfield 192, 3) := by decide +kernel
theorem dX9_hem_15 : decode cX9_hem 15 = .ok (.iload_n 1, 1) := by decide +kernel
theorem dX9_hem_16 : decode cX9_hem 16 = .ok (.ishr, 1) := by decide +kernel
theorem dX9_hem_17 : decode cX9_hem 17 = .ok (.iconst 1, 1) := by decide +kernel
theorem dX9_hem_18 : decode cX9_hem 18 = .ok (.iand, 1) := by decide +kernel
theorem dX9_hem_19 : decode cX9_hem 19 = .ok (.istore_n 3, 1) := by decide +kernel
theorem dX9_hem_20 : decode cX9_hem 20 = .ok (.aload_n 0, 1) := by decide +kernel
theorem dX9_hem_21 : decode cX9_hem 21 = .ok (.iload_n 2, 1) := by decide +kernel
theorem dX9_hem_22 : decode cX9_hem 22 = .ok (.ifCond .eq 14, 3) := by decide +kernel
theorem dX9_hem_25 : decode cX9_hem 25 = .ok (.aload_n 0, 1) := by decide +kernel
theorem dX9_hem_26 : decode cX9_hem 26 = .ok (.getfield 192, 3) := by decide +kernel
theorem dX9_hem_29 : decode cX9_hem 29 = .ok (.iconst 1, 1) := by decide +kernel
theorem dX9_hem_30 : decode cX9_hem 30 = .ok (.iload_n 1, 1) := by decide +kernel
theorem dX9_hem_31 : decode cX9_hem 31 = .ok (.ishl, 1) := by decide +kernel
theorem dX9_hem_32 : decode cX9_hem 32 = .ok (.ior, 1) := by decide +kernel
theorem dX9_hem_33 : decode cX9_hem 33 = .ok (.goto 13, 3) := by decide +kernel
theorem dX9_hem_36 : decode cX9_hem 36 = .ok (.aload_n 0, 1) := by decide +kernel
theorem dX9_hem_37 : decode cX9_hem 37 = .ok (.getfield 192, 3) := by decide +kernel
theorem dX9_hem_40 : decode cX9_hem 40 = .ok (.iconst 1, 1) := by decide +kernel
theorem dX9_hem_41 : decode cX9_hem 41 = .ok (.iload_n 1, 1) := by decide +kernel
theorem dX9_hem_42 : decode cX9_hem 42 = .ok (.ishl, 1) := by decide +kernel
theorem dX9_hem_43 : decode cX9_hem 43 = .ok (.iconst (-1), 1) := by decide +kernel
theorem dX9_hem_44 : decode cX9_hem 44 = .ok (.ixor, 1) := by decide +kernel
theorem dX9_hem_45 : decode cX9_hem 45 = .ok (.iand, 1) := by decide +kernel
theorem dX9_hem_46 : decode cX9_hem 46 = .ok (.putfield 192, 3) := by decide +kernel
theorem dX9_hem_49 : decode cX9_hem 49 = .ok (.iload_n 3, 1) := by decide +kernel
theorem dX9_hem_50 : decode cX9_hem 50 = .ok (.ireturn, 1) := by decide +kernel
theorem dX9_frays_0 : decode cX9_frays 0 = .ok (.aload_n 0, 1) := by decide +kernel
theorem dX9_frays_1 : decode cX9_frays 1 = .ok (.iconst 0, 1) := by decide +kernel
theorem dX9_frays_2 : decode cX9_frays 2 = .ok (.invokevirtual 198, 3) := by decide +kernel
theorem dX9_frays_5 : decode cX9_frays 5 = .ok (.istore_n 2, 1) := by decide +kernel
theorem dX9_frays_6 : decode cX9_frays 6 = .ok (.iconst 0, 1) := by decide +kernel
theorem dX9_frays_7 : decode cX9_frays 7 = .ok (.istore_n 3, 1) := by decide +kernel
theorem dX9_frays_8 : decode cX9_frays 8 = .ok (.iconst 0, 1) := by decide +kernel
theorem dX9_frays_9 : decode cX9_frays 9 = .ok (.istore 4, 2) := by decide +kernel
theorem dX9_frays_11 : decode cX9_frays 11 = .ok (.iload 4, 2) := by decide +kernel
theorem dX9_frays_13 : decode cX9_frays 13 = .ok (.aload_n 0, 1) := by decide +kernel
theorem dX9_frays_14 : decode cX9_frays 14 = .ok (.getfield 180, 3) := by decide +kernel
theorem dX9_frays_17 : decode cX9_frays 17 = .ok (.if_icmp .ge 36, 3) := by decide +kernel
theorem dX9_frays_20 : decode cX9_frays 20 = .ok (.aload_n 0, 1) := by decide +kernel
theorem dX9_frays_21 : decode cX9_frays 21 = .ok (.iload 4, 2) := by decide +kernel
theorem dX9_frays_23 : decode cX9_frays 23 = .ok (.iload_n 2, 1) := by decide +kernel
theorem dX9_frays_24 : decode cX9_frays 24 = .ok (.invokevirtual 215, 3) := by decide +kernel
theorem dX9_frays_27 : decode cX9_frays 27 = .ok (.istore 5, 2) := by decide +kernel
theorem dX9_frays_29 : decode cX9_frays 29 = .ok (.iload_n 3, 1) := by decide +kernel
theorem dX9_frays_30 : decode cX9_frays 30 = .ok (.iload 5, 2) := by decide +kernel
theorem dX9_frays_32 : decode cX9_frays 32 = .ok (.invokestatic 231, 3) := by decide +kernel
theorem dX9_frays_35 : decode cX9_frays 35 = .ok (.iconst 1, 1) := by decide +kernel
theorem dX9_frays_36 : decode cX9_frays 36 = .ok (.if_icmp .ne 8, 3) := by decide +kernel
theorem dX9_frays_39 : decode cX9_frays 39 = .ok (.iload 5, 2) := by decide +kernel
theorem dX9_frays_41 : decode cX9_frays 41 = .ok (.goto 4, 3) := by decide +kernel
theorem dX9_frays_44 : decode cX9_frays 44 = .ok (.iconst 0, 1) := by decide +kernel
theorem dX9_frays_45 : decode cX9_frays 45 = .ok (.ior, 1) := by decide +kernel
theorem dX9_frays_46 : decode cX9_frays 46 = .ok (.istore_n 3, 1) := by decide +kernel
theorem dX9_frays_47 : decode cX9_frays 47 = .ok (.iinc 4 1, 3) := by decide +kernel
theorem dX9_frays_50 : decode cX9_frays 50 = .ok (.goto (-39), 3) := by decide +kernel
theorem dX9_frays_53 : decode cX9_frays 53 = .ok (.iconst 0, 1) := by decide +kernel
theorem dX9_frays_54 : decode cX9_frays 54 = .ok (.istore 4, 2) := by decide +kernel
theorem dX9_frays_56 : decode cX9_frays 56 = .ok (.iload 4, 2) := by decide +kernel
theorem dX9_frays_58 : decode cX9_frays 58 = .ok (.aload_n 0, 1) := by decide +kernel
theorem dX9_frays_59 : decode cX9_frays 59 = .ok (.getfield 186, 3) := by decide +kernel
theorem dX9_frays_62 : decode cX9_frays 62 = .ok (.if_icmp .ge 50, 3) := by decide +kernel
theorem dX9_frays_65 : decode cX9_frays 65 = .ok (.iload_n 3, 1) := by decide +kernel
theorem dX9_frays_66 : decode cX9_frays 66 = .ok (.iload 4, 2) := by decide +kernel
theorem dX9_frays_68 : decode cX9_frays 68 = .ok (.ishr, 1) := by decide +kernel
theorem dX9_frays_69 : decode cX9_frays 69 = .ok (.iconst 1, 1) := by decide +kernel
theorem dX9_frays_70 : decode cX9_frays 70 = .ok (.iand, 1) := by decide +kernel
theorem dX9_frays_71 : decode cX9_frays 71 = .ok (.iconst 1, 1) := by decide +kernel
theorem dX9_frays_72 : decode cX9_frays 72 = .ok (.if_icmp .ne 34, 3) := by decide +kernel
theorem dX9_frays_75 : decode cX9_frays 75 = .ok (.aload_n 0, 1) := by decide +kernel
theorem dX9_frays_76 : decode cX9_frays 76 = .ok (.getfield 46, 3) := by decide +kernel
theorem dX9_frays_79 : decode cX9_frays 79 = .ok (.iload 4, 2) := by decide +kernel
theorem dX9_frays_81 : decode cX9_frays 81 = .ok (.aload_n 0, 1) := by decide +kernel
theorem dX9_frays_82 : decode cX9_frays 82 = .ok (.getfield 46, 3) := by decide +kernel
theorem dX9_frays_85 : decode cX9_frays 85 = .ok (.iload 4, 2) := by decide +kernel
theorem dX9_frays_87 : decode cX9_frays 87 = .ok (.iaload, 1) := by decide +kernel
theorem dX9_frays_88 : decode cX9_frays 88 = .ok (.iload_n 1, 1) := by decide +kernel
theorem dX9_frays_89 : decode cX9_frays 89 = .ok (.if_icmp .le 15, 3) := by decide +kernel
theorem dX9_frays_92 : decode cX9_frays 92 = .ok (.aload_n 0, 1) := by decide +kernel
theorem dX9_frays_93 : decode cX9_frays 93 = .ok (.getfield 46, 3) := by decide +kernel
theorem dX9_frays_96 : decode cX9_frays 96 = .ok (.iload 4, 2) := by decide +kernel
theorem dX9_frays_98 : decode cX9_frays 98 = .ok (.iaload, 1) := by decide +kernel
theorem dX9_frays_99 : decode cX9_frays 99 = .ok (.iload_n 1, 1) := by decide +kernel
theorem dX9_frays_100 : decode cX9_frays 100 = .ok (.isub, 1) := by decide +kernel
theorem dX9_frays_101 : decode cX9_frays 101 = .ok (.goto 4, 3) := by decide +kernel
theorem dX9_frays_104 : decode cX9_frays 104 = .ok (.iconst 0, 1) := by decide +kernel
theorem dX9_frays_105 : decode cX9_frays 105 = .ok (.iastore, 1) := by decide +kernel
theorem dX9_frays_106 : decode cX9_frays 106 = .ok (.iinc 4 1, 3) := by decide +kernel
theorem dX9_frays_109 : decode cX9_frays 109 = .ok (.goto (-53), 3) := by decide +kernel
theorem dX9_frays_112 : decode cX9_frays 112 = .ok (.iload_n 2, 1) := by decide +kernel
theorem dX9_frays_113 : decode cX9_frays 113 = .ok (.aload_n 0, 1) := by decide +kernel
theorem dX9_frays_114 : decode cX9_frays 114 = .ok (.iconst 0, 1) := by decide +kernel
theorem dX9_frays_115 : decode cX9_frays 115 = .ok (.invokevirtual 198, 3) := by decide +kernel
theorem dX9_frays_118 : decode cX9_frays 118 = .ok (.iconst (-1), 1) := by decide +kernel
theorem dX9_frays_119 : decode cX9_frays 119 = .ok (.ixor, 1) := by decide +kernel
theorem dX9_frays_120 : decode cX9_frays 120 = .ok (.iand, 1) := by decide +kernel
theorem dX9_frays_121 : decode cX9_frays 121 = .ok (.ireturn, 1) := by decide +kernel
theorem dX9_fray_0 : decode cX9_fray 0 = .ok (.iload_n 1, 1) := by decide +kernel
theorem dX9_fray_1 : decode cX9_fray 1 = .ok (.i2l, 1) := by decide +kernel
theorem dX9_fray_2 : decode cX9_fray 2 = .ok (.lconst 0, 1) := by decide +kernel
theorem dX9_fray_3 : decode cX9_fray 3 = .ok (.ldc2_w 221, 3) := by decide +kernel
theorem dX9_fray_6 : decode cX9_fray 6 = .ok (.invokestatic 92, 3) := by decide +kernel
theorem dX9_fray_9 : decode cX9_fray 9 = .ok (.ifCond .eq 11, 3) := by decide +kernel
theorem dX9_fray_12 : decode cX9_fray 12 = .ok (.aload_n 0, 1) := by decide +kernel
theorem dX9_fray_13 : decode cX9_fray 13 = .ok (.iload_n 1, 1) := by decide +kernel
theorem dX9_fray_14 : decode cX9_fray 14 = .ok (.invokevirtual 234, 3) := by decide +kernel
theorem dX9_fray_17 : decode cX9_fray 17 = .ok (.goto 5, 3) := by decide +kernel
theorem dX9_fray_20 : decode cX9_fray 20 = .ok (.ldc 96, 2) := by decide +kernel
theorem dX9_fray_22 : decode cX9_fray 22 = .ok (.ireturn, 1) := by decide +kernel
theorem dX9_dye_0 : decode cX9_dye 0 = .ok (.aload_n 0, 1) := by decide +kernel
theorem dX9_dye_1 : decode cX9_dye 1 = .ok (.iload_n 1, 1) := by decide +kernel
theorem dX9_dye_2 : decode cX9_dye 2 = .ok (.invokevirtual 212, 3) := by decide +kernel
theorem dX9_dye_5 : decode cX9_dye 5 = .ok (.ifCond .eq 19, 3) := by decide +kernel
theorem dX9_dye_8 : decode cX9_dye 8 = .ok (.iload_n 2, 1) := by decide +kernel
theorem dX9_dye_9 : decode cX9_dye 9 = .ok (.i2l, 1) := by decide +kernel
theorem dX9_dye_10 : decode cX9_dye 10 = .ok (.lconst 0, 1) := by decide +kernel
theorem dX9_dye_11 : decode cX9_dye 11 = .ok (.aload_n 0, 1) := by decide +kernel
theorem dX9_dye_12 : decode cX9_dye 12 = .ok (.getfield 183, 3) := by decide +kernel
theorem dX9_dye_15 : decode cX9_dye 15 = .ok (.iconst 1, 1) := by decide +kernel
theorem dX9_dye_16 : decode cX9_dye 16 = .ok (.isub, 1) := by decide +kernel
theorem dX9_dye_17 : decode cX9_dye 17 = .ok (.i2l, 1) := by decide +kernel
theorem dX9_dye_18 : decode cX9_dye 18 = .ok (.invokestatic 92, 3) := by decide +kernel
theorem dX9_dye_21 : decode cX9_dye 21 = .ok (.ifCond .ne 6, 3) := by decide +kernel
theorem dX9_dye_24 : decode cX9_dye 24 = .ok (.ldc 205, 2) := by decide +kernel
theorem dX9_dye_26 : decode cX9_dye 26 = .ok (.ireturn, 1) := by decide +kernel
theorem dX9_dye_27 : decode cX9_dye 27 = .ok (.aload_n 0, 1) := by decide +kernel
theorem dX9_dye_28 : decode cX9_dye 28 = .ok (.getfield 34, 3) := by decide +kernel
theorem dX9_dye_31 : decode cX9_dye 31 = .ok (.iload_n 1, 1) := by decide +kernel
theorem dX9_dye_32 : decode cX9_dye 32 = .ok (.iaload, 1) := by decide +kernel
theorem dX9_dye_33 : decode cX9_dye 33 = .ok (.istore_n 3, 1) := by decide +kernel
theorem dX9_dye_34 : decode cX9_dye 34 = .ok (.aload_n 0, 1) := by decide +kernel
theorem dX9_dye_35 : decode cX9_dye 35 = .ok (.getfield 34, 3) := by decide +kernel
theorem dX9_dye_38 : decode cX9_dye 38 = .ok (.iload_n 1, 1) := by decide +kernel
theorem dX9_dye_39 : decode cX9_dye 39 = .ok (.iload_n 2, 1) := by decide +kernel
theorem dX9_dye_40 : decode cX9_dye 40 = .ok (.iastore, 1) := by decide +kernel
theorem dX9_dye_41 : decode cX9_dye 41 = .ok (.iload_n 3, 1) := by decide +kernel
theorem dX9_dye_42 : decode cX9_dye 42 = .ok (.ireturn, 1) := by decide +kernel
theorem dX9_draws_0 : decode cX9_draws 0 = .ok (.aload_n 0, 1) := by decide +kernel
theorem dX9_draws_1 : decode cX9_draws 1 = .ok (.aload_n 0, 1) := by decide +kernel
theorem dX9_draws_2 : decode cX9_draws 2 = .ok (.getfield 237, 3) := by decide +kernel
theorem dX9_draws_5 : decode cX9_draws 5 = .ok (.i2l, 1) := by decide +kernel
theorem dX9_draws_6 : decode cX9_draws 6 = .ok (.ldc2_w 240, 3) := by decide +kernel
theorem dX9_draws_9 : decode cX9_draws 9 = .ok (.lmul, 1) := by decide +kernel
theorem dX9_draws_10 : decode cX9_draws 10 = .ok (.ldc2_w 242, 3) := by decide +kernel
theorem dX9_draws_13 : decode cX9_draws 13 = .ok (.ladd, 1) := by decide +kernel
theorem dX9_draws_14 : decode cX9_draws 14 = .ok (.ldc2_w 244, 3) := by decide +kernel
theorem dX9_draws_17 : decode cX9_draws 17 = .ok (.land, 1) := by decide +kernel
theorem dX9_draws_18 : decode cX9_draws 18 = .ok (.l2i, 1) := by decide +kernel
theorem dX9_draws_19 : decode cX9_draws 19 = .ok (.putfield 237, 3) := by decide +kernel
theorem dX9_draws_22 : decode cX9_draws 22 = .ok (.aload_n 0, 1) := by decide +kernel
theorem dX9_draws_23 : decode cX9_draws 23 = .ok (.getfield 237, 3) := by decide +kernel
theorem dX9_draws_26 : decode cX9_draws 26 = .ok (.ldc 246, 2) := by decide +kernel
theorem dX9_draws_28 : decode cX9_draws 28 = .ok (.idiv, 1) := by decide +kernel
theorem dX9_draws_29 : decode cX9_draws 29 = .ok (.iload_n 1, 1) := by decide +kernel
theorem dX9_draws_30 : decode cX9_draws 30 = .ok (.irem, 1) := by decide +kernel
theorem dX9_draws_31 : decode cX9_draws 31 = .ok (.ireturn, 1) := by decide +kernel
theorem dX9_drift_0 : decode cX9_drift 0 = .ok (.iload_n 1, 1) := by decide +kernel
theorem dX9_drift_1 : decode cX9_drift 1 = .ok (.i2l, 1) := by decide +kernel
theorem dX9_drift_2 : decode cX9_drift 2 = .ok (.lconst 1, 1) := by decide +kernel
theorem dX9_drift_3 : decode cX9_drift 3 = .ok (.ldc2_w 247, 3) := by decide +kernel
theorem dX9_drift_6 : decode cX9_drift 6 = .ok (.invokestatic 92, 3) := by decide +kernel
theorem dX9_drift_9 : decode cX9_drift 9 = .ok (.ifCond .ne 6, 3) := by decide +kernel
theorem dX9_drift_12 : decode cX9_drift 12 = .ok (.ldc 96, 2) := by decide +kernel
theorem dX9_drift_14 : decode cX9_drift 14 = .ok (.ireturn, 1) := by decide +kernel
theorem dX9_drift_15 : decode cX9_drift 15 = .ok (.aload_n 0, 1) := by decide +kernel
theorem dX9_drift_16 : decode cX9_drift 16 = .ok (.getfield 180, 3) := by decide +kernel
theorem dX9_drift_19 : decode cX9_drift 19 = .ok (.ifCond .ne 6, 3) := by decide +kernel
theorem dX9_drift_22 : decode cX9_drift 22 = .ok (.ldc 230, 2) := by decide +kernel
theorem dX9_drift_24 : decode cX9_drift 24 = .ok (.ireturn, 1) := by decide +kernel
theorem dX9_drift_25 : decode cX9_drift 25 = .ok (.iconst 0, 1) := by decide +kernel
theorem dX9_drift_26 : decode cX9_drift 26 = .ok (.istore_n 2, 1) := by decide +kernel
theorem dX9_drift_27 : decode cX9_drift 27 = .ok (.iload_n 2, 1) := by decide +kernel
theorem dX9_drift_28 : decode cX9_drift 28 = .ok (.iload_n 1, 1) := by decide +kernel
theorem dX9_drift_29 : decode cX9_drift 29 = .ok (.if_icmp .ge 97, 3) := by decide +kernel
theorem dX9_drift_32 : decode cX9_drift 32 = .ok (.iconst 0, 1) := by decide +kernel
theorem dX9_drift_33 : decode cX9_drift 33 = .ok (.istore_n 3, 1) := by decide +kernel
theorem dX9_drift_34 : decode cX9_drift 34 = .ok (.iload_n 3, 1) := by decide +kernel
theorem dX9_drift_35 : decode cX9_drift 35 = .ok (.aload_n 0, 1) := by decide +kernel
theorem dX9_drift_36 : decode cX9_drift 36 = .ok (.getfield 180, 3) := by decide +kernel
theorem dX9_drift_39 : decode cX9_drift 39 = .ok (.if_icmp .ge 71, 3) := by decide +kernel
theorem dX9_drift_42 : decode cX9_drift 42 = .ok (.aload_n 0, 1) := by decide +kernel
theorem dX9_drift_43 : decode cX9_drift 43 = .ok (.iconst 3, 1) := by decide +kernel
theorem dX9_drift_44 : decode cX9_drift 44 = .ok (.invokevirtual 249, 3) := by decide +kernel
theorem dX9_drift_47 : decode cX9_drift 47 = .ok (.ifCond .ne 57, 3) := by decide +kernel
theorem dX9_drift_50 : decode cX9_drift 50 = .ok (.aload_n 0, 1) := by decide +kernel
theorem dX9_drift_51 : decode cX9_drift 51 = .ok (.getfield 186, 3) := by decide +kernel
theorem dX9_drift_54 : decode cX9_drift 54 = .ok (.ifCond .le 50, 3) := by decide +kernel
theorem dX9_drift_57 : decode cX9_drift 57 = .ok (.aload_n 0, 1) := by decide +kernel
theorem dX9_drift_58 : decode cX9_drift 58 = .ok (.aload_n 0, 1) := by decide +kernel
theorem dX9_drift_59 : decode cX9_drift 59 = .ok (.getfield 186, 3) := by decide +kernel
theorem dX9_drift_62 : decode cX9_drift 62 = .ok (.invokevirtual 249, 3) := by decide +kernel
theorem dX9_drift_65 : decode cX9_drift 65 = .ok (.istore 4, 2) := by decide +kernel
theorem dX9_drift_67 : decode cX9_drift 67 = .ok (.aload_n 0, 1) := by decide +kernel
theorem dX9_drift_68 : decode cX9_drift 68 = .ok (.getfield 46, 3) := by decide +kernel
theorem dX9_drift_71 : decode cX9_drift 71 = .ok (.iload 4, 2) := by decide +kernel
theorem dX9_drift_73 : decode cX9_drift 73 = .ok (.aload_n 0, 1) := by decide +kernel
theorem dX9_drift_74 : decode cX9_drift 74 = .ok (.iload_n 3, 1) := by decide +kernel
theorem dX9_drift_75 : decode cX9_drift 75 = .ok (.iload 4, 2) := by decide +kernel
theorem dX9_drift_77 : decode cX9_drift 77 = .ok (.aload_n 0, 1) := by decide +kernel
theorem dX9_drift_78 : decode cX9_drift 78 = .ok (.iconst 0, 1) := by decide +kernel
theorem dX9_drift_79 : decode cX9_drift 79 = .ok (.invokevirtual 198, 3) := by decide +kernel
theorem dX9_drift_82 : decode cX9_drift 82 = .ok (.aload_n 0, 1) := by decide +kernel
theorem dX9_drift_83 : decode cX9_drift 83 = .ok (.getfield 192, 3) := by decide +kernel
theorem dX9_drift_86 : decode cX9_drift 86 = .ok (.invokevirtual 226, 3) := by decide +kernel
theorem dX9_drift_89 : decode cX9_drift 89 = .ok (.ifCond .eq 7, 3) := by decide +kernel
theorem dX9_drift_92 : decode cX9_drift 92 = .ok (.iconst 0, 1) := by decide +kernel
theorem dX9_drift_93 : decode cX9_drift 93 = .ok (.goto 10, 3) := by decide +kernel
theorem dX9_drift_96 : decode cX9_drift 96 = .ok (.aload_n 0, 1) := by decide +kernel
theorem dX9_drift_97 : decode cX9_drift 97 = .ok (.getfield 46, 3) := by decide +kernel
theorem dX9_drift_100 : decode cX9_drift 100 = .ok (.iload 4, 2) := by decide +kernel
theorem dX9_drift_102 : decode cX9_drift 102 = .ok (.iaload, 1) := by decide +kernel
theorem dX9_drift_103 : decode cX9_drift 103 = .ok (.iastore, 1) := by decide +kernel
theorem dX9_drift_104 : decode cX9_drift 104 = .ok (.iinc 3 1, 3) := by decide +kernel
theorem dX9_drift_107 : decode cX9_drift 107 = .ok (.goto (-73), 3) := by decide +kernel
theorem dX9_drift_110 : decode cX9_drift 110 = .ok (.aload_n 0, 1) := by decide +kernel
theorem dX9_drift_111 : decode cX9_drift 111 = .ok (.aload_n 0, 1) := by decide +kernel
theorem dX9_drift_112 : decode cX9_drift 112 = .ok (.iconst 3, 1) := by decide +kernel
theorem dX9_drift_113 : decode cX9_drift 113 = .ok (.invokevirtual 249, 3) := by decide +kernel
theorem dX9_drift_116 : decode cX9_drift 116 = .ok (.invokevirtual 234, 3) := by decide +kernel
theorem dX9_drift_119 : decode cX9_drift 119 = .ok (.pop, 1) := by decide +kernel
theorem dX9_drift_120 : decode cX9_drift 120 = .ok (.iinc 2 1, 3) := by decide +kernel
theorem dX9_drift_123 : decode cX9_drift 123 = .ok (.goto (-96), 3) := by decide +kernel
theorem dX9_drift_126 : decode cX9_drift 126 = .ok (.aload_n 0, 1) := by decide +kernel
theorem dX9_drift_127 : decode cX9_drift 127 = .ok (.aload_n 0, 1) := by decide +kernel
theorem dX9_drift_128 : decode cX9_drift 128 = .ok (.iconst 0, 1) := by decide +kernel
theorem dX9_drift_129 : decode cX9_drift 129 = .ok (.invokevirtual 198, 3) := by decide +kernel
theorem dX9_drift_132 : decode cX9_drift 132 = .ok (.invokevirtual 223, 3) := by decide +kernel
theorem dX9_drift_135 : decode cX9_drift 135 = .ok (.ireturn, 1) := by decide +kernel
theorem dX9_seed_0 : decode cX9_seed 0 = .ok (.iload_n 1, 1) := by decide +kernel
theorem dX9_seed_1 : decode cX9_seed 1 = .ok (.ifCond .ge 6, 3) := by decide +kernel
theorem dX9_seed_4 : decode cX9_seed 4 = .ok (.ldc 96, 2) := by decide +kernel
theorem dX9_seed_6 : decode cX9_seed 6 = .ok (.ireturn, 1) := by decide +kernel
theorem dX9_seed_7 : decode cX9_seed 7 = .ok (.aload_n 0, 1) := by decide +kernel
theorem dX9_seed_8 : decode cX9_seed 8 = .ok (.getfield 237, 3) := by decide +kernel
theorem dX9_seed_11 : decode cX9_seed 11 = .ok (.istore_n 2, 1) := by decide +kernel
theorem dX9_seed_12 : decode cX9_seed 12 = .ok (.aload_n 0, 1) := by decide +kernel
theorem dX9_seed_13 : decode cX9_seed 13 = .ok (.iload_n 1, 1) := by decide +kernel
theorem dX9_seed_14 : decode cX9_seed 14 = .ok (.putfield 237, 3) := by decide +kernel
theorem dX9_seed_17 : decode cX9_seed 17 = .ok (.iload_n 2, 1) := by decide +kernel
theorem dX9_seed_18 : decode cX9_seed 18 = .ok (.ireturn, 1) := by decide +kernel
theorem dX9_cut_0 : decode cX9_cut 0 = .ok (.aload_n 0, 1) := by decide +kernel
theorem dX9_cut_1 : decode cX9_cut 1 = .ok (.iload_n 1, 1) := by decide +kernel
theorem dX9_cut_2 : decode cX9_cut 2 = .ok (.invokevirtual 212, 3) := by decide +kernel
theorem dX9_cut_5 : decode cX9_cut 5 = .ok (.ifCond .ne 6, 3) := by decide +kernel
theorem dX9_cut_8 : decode cX9_cut 8 = .ok (.ldc 205, 2) := by decide +kernel
theorem dX9_cut_10 : decode cX9_cut 10 = .ok (.ireturn, 1) := by decide +kernel
theorem dX9_cut_11 : decode cX9_cut 11 = .ok (.iload_n 2, 1) := by decide +kernel
theorem dX9_cut_12 : decode cX9_cut 12 = .ok (.i2l, 1) := by decide +kernel
theorem dX9_cut_13 : decode cX9_cut 13 = .ok (.lconst 0, 1) := by decide +kernel
theorem dX9_cut_14 : decode cX9_cut 14 = .ok (.lconst 1, 1) := by decide +kernel
theorem dX9_cut_15 : decode cX9_cut 15 = .ok (.invokestatic 92, 3) := by decide +kernel
theorem dX9_cut_18 : decode cX9_cut 18 = .ok (.ifCond .ne 6, 3) := by decide +kernel
theorem dX9_cut_21 : decode cX9_cut 21 = .ok (.ldc 96, 2) := by decide +kernel
theorem dX9_cut_23 : decode cX9_cut 23 = .ok (.ireturn, 1) := by decide +kernel
theorem dX9_cut_24 : decode cX9_cut 24 = .ok (.aload_n 0, 1) := by decide +kernel
theorem dX9_cut_25 : decode cX9_cut 25 = .ok (.iconst 0, 1) := by decide +kernel
theorem dX9_cut_26 : decode cX9_cut 26 = .ok (.invokevirtual 198, 3) := by decide +kernel
theorem dX9_cut_29 : decode cX9_cut 29 = .ok (.istore_n 3, 1) := by decide +kernel
theorem dX9_cut_30 : decode cX9_cut 30 = .ok (.iload_n 3, 1) := by decide +kernel
theorem dX9_cut_31 : decode cX9_cut 31 = .ok (.istore 4, 2) := by decide +kernel
theorem dX9_cut_33 : decode cX9_cut 33 = .ok (.aload_n 0, 1) := by decide +kernel
theorem dX9_cut_34 : decode cX9_cut 34 = .ok (.iload_n 3, 1) := by decide +kernel
theorem dX9_cut_35 : decode cX9_cut 35 = .ok (.invokevirtual 223, 3) := by decide +kernel
theorem dX9_cut_38 : decode cX9_cut 38 = .ok (.iload_n 1, 1) := by decide +kernel
theorem dX9_cut_39 : decode cX9_cut 39 = .ok (.ishr, 1) := by decide +kernel
theorem dX9_cut_40 : decode cX9_cut 40 = .ok (.iconst 1, 1) := by decide +kernel
theorem dX9_cut_41 : decode cX9_cut 41 = .ok (.iand, 1) := by decide +kernel
theorem dX9_cut_42 : decode cX9_cut 42 = .ok (.iconst 1, 1) := by decide +kernel
theorem dX9_cut_43 : decode cX9_cut 43 = .ok (.if_icmp .ne 7, 3) := by decide +kernel
theorem dX9_cut_46 : decode cX9_cut 46 = .ok (.iconst 1, 1) := by decide +kernel
theorem dX9_cut_47 : decode cX9_cut 47 = .ok (.goto 4, 3) := by decide +kernel
theorem dX9_cut_50 : decode cX9_cut 50 = .ok (.iconst 0, 1) := by decide +kernel
theorem dX9_cut_51 : decode cX9_cut 51 = .ok (.istore 5, 2) := by decide +kernel
theorem dX9_cut_53 : decode cX9_cut 53 = .ok (.iconst 1, 1) := by decide +kernel
theorem dX9_cut_54 : decode cX9_cut 54 = .ok (.aload_n 0, 1) := by decide +kernel
theorem dX9_cut_55 : decode cX9_cut 55 = .ok (.getfield 186, 3) := by decide +kernel
theorem dX9_cut_58 : decode cX9_cut 58 = .ok (.ishl, 1) := by decide +kernel
theorem dX9_cut_59 : decode cX9_cut 59 = .ok (.iconst 1, 1) := by decide +kernel
theorem dX9_cut_60 : decode cX9_cut 60 = .ok (.isub, 1) := by decide +kernel
theorem dX9_cut_61 : decode cX9_cut 61 = .ok (.istore 6, 2) := by decide +kernel
theorem dX9_cut_63 : decode cX9_cut 63 = .ok (.iload 6, 2) := by decide +kernel
theorem dX9_cut_65 : decode cX9_cut 65 = .ok (.ifCond .lt 74, 3) := by decide +kernel
theorem dX9_cut_68 : decode cX9_cut 68 = .ok (.iload 5, 2) := by decide +kernel
theorem dX9_cut_70 : decode cX9_cut 70 = .ok (.ifCond .eq 69, 3) := by decide +kernel
theorem dX9_cut_73 : decode cX9_cut 73 = .ok (.iload 6, 2) := by decide +kernel
theorem dX9_cut_75 : decode cX9_cut 75 = .ok (.iload_n 3, 1) := by decide +kernel
theorem dX9_cut_76 : decode cX9_cut 76 = .ok (.iconst (-1), 1) := by decide +kernel
theorem dX9_cut_77 : decode cX9_cut 77 = .ok (.ixor, 1) := by decide +kernel
theorem dX9_cut_78 : decode cX9_cut 78 = .ok (.iand, 1) := by decide +kernel
theorem dX9_cut_79 : decode cX9_cut 79 = .ok (.ifCond .ne 37, 3) := by decide +kernel
theorem dX9_cut_82 : decode cX9_cut 82 = .ok (.iload 6, 2) := by decide +kernel
theorem dX9_cut_84 : decode cX9_cut 84 = .ok (.invokestatic 231, 3) := by decide +kernel
theorem dX9_cut_87 : decode cX9_cut 87 = .ok (.iload 4, 2) := by decide +kernel
theorem dX9_cut_89 : decode cX9_cut 89 = .ok (.invokestatic 231, 3) := by decide +kernel
theorem dX9_cut_92 : decode cX9_cut 92 = .ok (.if_icmp .gt 24, 3) := by decide +kernel
theorem dX9_cut_95 : decode cX9_cut 95 = .ok (.aload_n 0, 1) := by decide +kernel
theorem dX9_cut_96 : decode cX9_cut 96 = .ok (.iload_n 3, 1) := by decide +kernel
theorem dX9_cut_97 : decode cX9_cut 97 = .ok (.iload 6, 2) := by decide +kernel
theorem dX9_cut_99 : decode cX9_cut 99 = .ok (.iconst (-1), 1) := by decide +kernel
theorem dX9_cut_100 : decode cX9_cut 100 = .ok (.ixor, 1) := by decide +kernel
theorem dX9_cut_101 : decode cX9_cut 101 = .ok (.iand, 1) := by decide +kernel
theorem dX9_cut_102 : decode cX9_cut 102 = .ok (.invokevirtual 223, 3) := by decide +kernel
theorem dX9_cut_105 : decode cX9_cut 105 = .ok (.iload_n 1, 1) := by decide +kernel
theorem dX9_cut_106 : decode cX9_cut 106 = .ok (.ishr, 1) := by decide +kernel
theorem dX9_cut_107 : decode cX9_cut 107 = .ok (.iconst 1, 1) := by decide +kernel
theorem dX9_cut_108 : decode cX9_cut 108 = .ok (.iand, 1) := by decide +kernel
theorem dX9_cut_109 : decode cX9_cut 109 = .ok (.ifCond .ne 7, 3) := by decide +kernel
theorem dX9_cut_112 : decode cX9_cut 112 = .ok (.iconst 1, 1) := by decide +kernel
theorem dX9_cut_113 : decode cX9_cut 113 = .ok (.goto 4, 3) := by decide +kernel
theorem dX9_cut_116 : decode cX9_cut 116 = .ok (.iconst 0, 1) := by decide +kernel
theorem dX9_cut_117 : decode cX9_cut 117 = .ok (.istore 7, 2) := by decide +kernel
theorem dX9_cut_119 : decode cX9_cut 119 = .ok (.iload 7, 2) := by decide +kernel
theorem dX9_cut_121 : decode cX9_cut 121 = .ok (.ifCond .eq 8, 3) := by decide +kernel
theorem dX9_cut_124 : decode cX9_cut 124 = .ok (.iload 6, 2) := by decide +kernel
theorem dX9_cut_126 : decode cX9_cut 126 = .ok (.goto 5, 3) := by decide +kernel
theorem dX9_cut_129 : decode cX9_cut 129 = .ok (.iload 4, 2) := by decide +kernel
theorem dX9_cut_131 : decode cX9_cut 131 = .ok (.istore 4, 2) := by decide +kernel
theorem dX9_cut_133 : decode cX9_cut 133 = .ok (.iinc 6 (-1), 3) := by decide +kernel
theorem dX9_cut_136 : decode cX9_cut 136 = .ok (.goto (-73), 3) := by decide +kernel
theorem dX9_cut_139 : decode cX9_cut 139 = .ok (.iload 5, 2) := by decide +kernel
theorem dX9_cut_141 : decode cX9_cut 141 = .ok (.ifCond .eq 8, 3) := by decide +kernel
theorem dX9_cut_144 : decode cX9_cut 144 = .ok (.iload 4, 2) := by decide +kernel
theorem dX9_cut_146 : decode cX9_cut 146 = .ok (.goto 4, 3) := by decide +kernel
theorem dX9_cut_149 : decode cX9_cut 149 = .ok (.iconst 0, 1) := by decide +kernel
theorem dX9_cut_150 : decode cX9_cut 150 = .ok (.istore 4, 2) := by decide +kernel
theorem dX9_cut_152 : decode cX9_cut 152 = .ok (.iload_n 2, 1) := by decide +kernel
theorem dX9_cut_153 : decode cX9_cut 153 = .ok (.ifCond .ne 11, 3) := by decide +kernel
theorem dX9_cut_156 : decode cX9_cut 156 = .ok (.iload 4, 2) := by decide +kernel
theorem dX9_cut_158 : decode cX9_cut 158 = .ok (.invokestatic 231, 3) := by decide +kernel
theorem dX9_cut_161 : decode cX9_cut 161 = .ok (.goto 5, 3) := by decide +kernel
theorem dX9_cut_164 : decode cX9_cut 164 = .ok (.iload 4, 2) := by decide +kernel
theorem dX9_cut_166 : decode cX9_cut 166 = .ok (.ireturn, 1) := by decide +kernel
theorem dX9_doLast_0 : decode cX9_doLast 0 = .ok (.iload_n 1, 1) := by decide +kernel
theorem dX9_doLast_1 : decode cX9_doLast 1 = .ok (.aload_n 0, 1) := by decide +kernel
theorem dX9_doLast_2 : decode cX9_doLast 2 = .ok (.iload_n 2, 1) := by decide +kernel
theorem dX9_doLast_3 : decode cX9_doLast 3 = .ok (.invokevirtual 223, 3) := by decide +kernel
theorem dX9_doLast_6 : decode cX9_doLast 6 = .ok (.iconst (-1), 1) := by decide +kernel
theorem dX9_doLast_7 : decode cX9_doLast 7 = .ok (.ixor, 1) := by decide +kernel
theorem dX9_doLast_8 : decode cX9_doLast 8 = .ok (.iand, 1) := by decide +kernel
theorem dX9_doLast_9 : decode cX9_doLast 9 = .ok (.ifCond .eq 5, 3) := by decide +kernel
theorem dX9_doLast_12 : decode cX9_doLast 12 = .ok (.iconst 0, 1) := by decide +kernel
theorem dX9_doLast_13 : decode cX9_doLast 13 = .ok (.ireturn, 1) := by decide +kernel
theorem dX9_doLast_14 : decode cX9_doLast 14 = .ok (.iconst 0, 1) := by decide +kernel
theorem dX9_doLast_15 : decode cX9_doLast 15 = .ok (.istore 5, 2) := by decide +kernel
theorem dX9_doLast_17 : decode cX9_doLast 17 = .ok (.iload 5, 2) := by decide +kernel
theorem dX9_doLast_19 : decode cX9_doLast 19 = .ok (.bipush 20, 2) := by decide +kernel
theorem dX9_doLast_21 : decode cX9_doLast 21 = .ok (.if_icmp .ge 152, 3) := by decide +kernel
theorem dX9_doLast_24 : decode cX9_doLast 24 = .ok (.iload 4, 2) := by decide +kernel
theorem dX9_doLast_26 : decode cX9_doLast 26 = .ok (.ifCond .le 147, 3) := by decide +kernel
theorem dX9_doLast_29 : decode cX9_doLast 29 = .ok (.iload_n 3, 1) := by decide +kernel
theorem dX9_doLast_30 : decode cX9_doLast 30 = .ok (.iconst 1, 1) := by decide +kernel
theorem dX9_doLast_31 : decode cX9_doLast 31 = .ok (.iload 5, 2) := by decide +kernel
theorem dX9_doLast_33 : decode cX9_doLast 33 = .ok (.ishl, 1) := by decide +kernel
theorem dX9_doLast_34 : decode cX9_doLast 34 = .ok (.iand, 1) := by decide +kernel
theorem dX9_doLast_35 : decode cX9_doLast 35 = .ok (.istore 6, 2) := by decide +kernel
theorem dX9_doLast_37 : decode cX9_doLast 37 = .ok (.iconst 0, 1) := by decide +kernel
theorem dX9_doLast_38 : decode cX9_doLast 38 = .ok (.istore 7, 2) := by decide +kernel
theorem dX9_doLast_40 : decode cX9_doLast 40 = .ok (.iload 7, 2) := by decide +kernel
theorem dX9_doLast_42 : decode cX9_doLast 42 = .ok (.iload 5, 2) := by decide +kernel
theorem dX9_doLast_44 : decode cX9_doLast 44 = .ok (.if_icmp .gt 123, 3) := by decide +kernel
theorem dX9_doLast_47 : decode cX9_doLast 47 = .ok (.iload 6, 2) := by decide +kernel
theorem dX9_doLast_49 : decode cX9_doLast 49 = .ok (.ifCond .eq 118, 3) := by decide +kernel
theorem dX9_doLast_52 : decode cX9_doLast 52 = .ok (.iload 4, 2) := by decide +kernel
theorem dX9_doLast_54 : decode cX9_doLast 54 = .ok (.iconst 1, 1) := by decide +kernel
theorem dX9_doLast_55 : decode cX9_doLast 55 = .ok (.if_icmp .le 15, 3) := by decide +kernel
theorem dX9_doLast_58 : decode cX9_doLast 58 = .ok (.iload 6, 2) := by decide +kernel
theorem dX9_doLast_60 : decode cX9_doLast 60 = .ok (.iload_n 3, 1) := by decide +kernel
theorem dX9_doLast_61 : decode cX9_doLast 61 = .ok (.iconst 1, 1) := by decide +kernel
theorem dX9_doLast_62 : decode cX9_doLast 62 = .ok (.iload 7, 2) := by decide +kernel
theorem dX9_doLast_64 : decode cX9_doLast 64 = .ok (.ishl, 1) := by decide +kernel
theorem dX9_doLast_65 : decode cX9_doLast 65 = .ok (.iand, 1) := by decide +kernel
theorem dX9_doLast_66 : decode cX9_doLast 66 = .ok (.ior, 1) := by decide +kernel
theorem dX9_doLast_67 : decode cX9_doLast 67 = .ok (.goto 5, 3) := by decide +kernel
theorem dX9_doLast_70 : decode cX9_doLast 70 = .ok (.iload 6, 2) := by decide +kernel
theorem dX9_doLast_72 : decode cX9_doLast 72 = .ok (.istore 8, 2) := by decide +kernel
theorem dX9_doLast_74 : decode cX9_doLast 74 = .ok (.iconst 0, 1) := by decide +kernel
theorem dX9_doLast_75 : decode cX9_doLast 75 = .ok (.istore 9, 2) := by decide +kernel
theorem dX9_doLast_77 : decode cX9_doLast 77 = .ok (.iload 9, 2) := by decide +kernel
theorem dX9_doLast_79 : decode cX9_doLast 79 = .ok (.iload 7, 2) := by decide +kernel
theorem dX9_doLast_81 : decode cX9_doLast 81 = .ok (.if_icmp .gt 65, 3) := by decide +kernel
theorem dX9_doLast_84 : decode cX9_doLast 84 = .ok (.iload 4, 2) := by decide +kernel
theorem dX9_doLast_86 : decode cX9_doLast 86 = .ok (.iconst 2, 1) := by decide +kernel
theorem dX9_doLast_87 : decode cX9_doLast 87 = .ok (.if_icmp .le 15, 3) := by decide +kernel
theorem dX9_doLast_90 : decode cX9_doLast 90 = .ok (.iload 8, 2) := by decide +kernel
theorem dX9_doLast_92 : decode cX9_doLast 92 = .ok (.iload_n 3, 1) := by decide +kernel
theorem dX9_doLast_93 : decode cX9_doLast 93 = .ok (.iconst 1, 1) := by decide +kernel
theorem dX9_doLast_94 : decode cX9_doLast 94 = .ok (.iload 9, 2) := by decide +kernel
theorem dX9_doLast_96 : decode cX9_doLast 96 = .ok (.ishl, 1) := by decide +kernel
theorem dX9_doLast_97 : decode cX9_doLast 97 = .ok (.iand, 1) := by decide +kernel
theorem dX9_doLast_98 : decode cX9_doLast 98 = .ok (.ior, 1) := by decide +kernel
theorem dX9_doLast_99 : decode cX9_doLast 99 = .ok (.goto 5, 3) := by decide +kernel
theorem dX9_doLast_102 : decode cX9_doLast 102 = .ok (.iload 8, 2) := by decide +kernel
theorem dX9_doLast_104 : decode cX9_doLast 104 = .ok (.istore 10, 2) := by decide +kernel
theorem dX9_doLast_106 : decode cX9_doLast 106 = .ok (.iload_n 1, 1) := by decide +kernel
theorem dX9_doLast_107 : decode cX9_doLast 107 = .ok (.aload_n 0, 1) := by decide +kernel
theorem dX9_doLast_108 : decode cX9_doLast 108 = .ok (.iload_n 2, 1) := by decide +kernel
theorem dX9_doLast_109 : decode cX9_doLast 109 = .ok (.iload 10, 2) := by decide +kernel
theorem dX9_doLast_111 : decode cX9_doLast 111 = .ok (.iconst (-1), 1) := by decide +kernel
theorem dX9_doLast_112 : decode cX9_doLast 112 = .ok (.ixor, 1) := by decide +kernel
theorem dX9_doLast_113 : decode cX9_doLast 113 = .ok (.iand, 1) := by decide +kernel
theorem dX9_doLast_114 : decode cX9_doLast 114 = .ok (.invokevirtual 223, 3) := by decide +kernel
theorem dX9_doLast_117 : decode cX9_doLast 117 = .ok (.iconst (-1), 1) := by decide +kernel
theorem dX9_doLast_118 : decode cX9_doLast 118 = .ok (.ixor, 1) := by decide +kernel
theorem dX9_doLast_119 : decode cX9_doLast 119 = .ok (.iand, 1) := by decide +kernel
theorem dX9_doLast_120 : decode cX9_doLast 120 = .ok (.ifCond .eq 5, 3) := by decide +kernel
theorem dX9_doLast_123 : decode cX9_doLast 123 = .ok (.iconst 0, 1) := by decide +kernel
theorem dX9_doLast_124 : decode cX9_doLast 124 = .ok (.ireturn, 1) := by decide +kernel
theorem dX9_doLast_125 : decode cX9_doLast 125 = .ok (.iload 4, 2) := by decide +kernel
theorem dX9_doLast_127 : decode cX9_doLast 127 = .ok (.iconst 2, 1) := by decide +kernel
theorem dX9_doLast_128 : decode cX9_doLast 128 = .ok (.if_icmp .le 8, 3) := by decide +kernel
theorem dX9_doLast_131 : decode cX9_doLast 131 = .ok (.iload 9, 2) := by decide +kernel
theorem dX9_doLast_133 : decode cX9_doLast 133 = .ok (.goto 5, 3) := by decide +kernel
theorem dX9_doLast_136 : decode cX9_doLast 136 = .ok (.iload 7, 2) := by decide +kernel
theorem dX9_doLast_138 : decode cX9_doLast 138 = .ok (.istore 9, 2) := by decide +kernel
theorem dX9_doLast_140 : decode cX9_doLast 140 = .ok (.iinc 9 1, 3) := by decide +kernel
theorem dX9_doLast_143 : decode cX9_doLast 143 = .ok (.goto (-66), 3) := by decide +kernel
theorem dX9_doLast_146 : decode cX9_doLast 146 = .ok (.iload 4, 2) := by decide +kernel
theorem dX9_doLast_148 : decode cX9_doLast 148 = .ok (.iconst 1, 1) := by decide +kernel
theorem dX9_doLast_149 : decode cX9_doLast 149 = .ok (.if_icmp .le 8, 3) := by decide +kernel
theorem dX9_doLast_152 : decode cX9_doLast 152 = .ok (.iload 7, 2) := by decide +kernel
theorem dX9_doLast_154 : decode cX9_doLast 154 = .ok (.goto 5, 3) := by decide +kernel
theorem dX9_doLast_157 : decode cX9_doLast 157 = .ok (.iload 5, 2) := by decide +kernel
theorem dX9_doLast_159 : decode cX9_doLast 159 = .ok (.istore 7, 2) := by decide +kernel
theorem dX9_doLast_161 : decode cX9_doLast 161 = .ok (.iinc 7 1, 3) := by decide +kernel
theorem dX9_doLast_164 : decode cX9_doLast 164 = .ok (.goto (-124), 3) := by decide +kernel
theorem dX9_doLast_167 : decode cX9_doLast 167 = .ok (.iinc 5 1, 3) := by decide +kernel
theorem dX9_doLast_170 : decode cX9_doLast 170 = .ok (.goto (-153), 3) := by decide +kernel
theorem dX9_doLast_173 : decode cX9_doLast 173 = .ok (.iconst 1, 1) := by decide +kernel
theorem dX9_doLast_174 : decode cX9_doLast 174 = .ok (.ireturn, 1) := by decide +kernel
theorem dX9_lasts_0 : decode cX9_lasts 0 = .ok (.aload_n 0, 1) := by decide +kernel
theorem dX9_lasts_1 : decode cX9_lasts 1 = .ok (.iload_n 1, 1) := by decide +kernel
theorem dX9_lasts_2 : decode cX9_lasts 2 = .ok (.invokevirtual 252, 3) := by decide +kernel
theorem dX9_lasts_5 : decode cX9_lasts 5 = .ok (.ifCond .ne 6, 3) := by decide +kernel
theorem dX9_lasts_8 : decode cX9_lasts 8 = .ok (.ldc 205, 2) := by decide +kernel
theorem dX9_lasts_10 : decode cX9_lasts 10 = .ok (.ireturn, 1) := by decide +kernel
theorem dX9_lasts_11 : decode cX9_lasts 11 = .ok (.iload_n 2, 1) := by decide +kernel
theorem dX9_lasts_12 : decode cX9_lasts 12 = .ok (.i2l, 1) := by decide +kernel
theorem dX9_lasts_13 : decode cX9_lasts 13 = .ok (.lconst 0, 1) := by decide +kernel
theorem dX9_lasts_14 : decode cX9_lasts 14 = .ok (.ldc2_w 206, 3) := by decide +kernel
theorem dX9_lasts_17 : decode cX9_lasts 17 = .ok (.invokestatic 92, 3) := by decide +kernel
theorem dX9_lasts_20 : decode cX9_lasts 20 = .ok (.ifCond .ne 6, 3) := by decide +kernel
theorem dX9_lasts_23 : decode cX9_lasts 23 = .ok (.ldc 96, 2) := by decide +kernel
theorem dX9_lasts_25 : decode cX9_lasts 25 = .ok (.ireturn, 1) := by decide +kernel
theorem dX9_lasts_26 : decode cX9_lasts 26 = .ok (.aload_n 0, 1) := by decide +kernel
theorem dX9_lasts_27 : decode cX9_lasts 27 = .ok (.iload_n 1, 1) := by decide +kernel
theorem dX9_lasts_28 : decode cX9_lasts 28 = .ok (.aload_n 0, 1) := by decide +kernel
theorem dX9_lasts_29 : decode cX9_lasts 29 = .ok (.iconst 0, 1) := by decide +kernel
theorem dX9_lasts_30 : decode cX9_lasts 30 = .ok (.invokevirtual 198, 3) := by decide +kernel
theorem dX9_lasts_33 : decode cX9_lasts 33 = .ok (.aload_n 0, 1) := by decide +kernel
theorem dX9_lasts_34 : decode cX9_lasts 34 = .ok (.iconst 0, 1) := by decide +kernel
theorem dX9_lasts_35 : decode cX9_lasts 35 = .ok (.invokevirtual 198, 3) := by decide +kernel
theorem dX9_lasts_38 : decode cX9_lasts 38 = .ok (.aload_n 0, 1) := by decide +kernel
theorem dX9_lasts_39 : decode cX9_lasts 39 = .ok (.getfield 192, 3) := by decide +kernel
theorem dX9_lasts_42 : decode cX9_lasts 42 = .ok (.iconst (-1), 1) := by decide +kernel
theorem dX9_lasts_43 : decode cX9_lasts 43 = .ok (.ixor, 1) := by decide +kernel
theorem dX9_lasts_44 : decode cX9_lasts 44 = .ok (.iand, 1) := by decide +kernel
theorem dX9_lasts_45 : decode cX9_lasts 45 = .ok (.iload_n 2, 1) := by decide +kernel
theorem dX9_lasts_46 : decode cX9_lasts 46 = .ok (.invokevirtual 255, 3) := by decide +kernel
theorem dX9_lasts_49 : decode cX9_lasts 49 = .ok (.ifCond .eq 7, 3) := by decide +kernel
theorem dX9_lasts_52 : decode cX9_lasts 52 = .ok (.iconst 1, 1) := by decide +kernel
theorem dX9_lasts_53 : decode cX9_lasts 53 = .ok (.goto 4, 3) := by decide +kernel
theorem dX9_lasts_56 : decode cX9_lasts 56 = .ok (.iconst 0, 1) := by decide +kernel
theorem dX9_lasts_57 : decode cX9_lasts 57 = .ok (.ireturn, 1) := by decide +kernel
theorem dX9_hems_0 : decode cX9_hems 0 = .ok (.aload_n 0, 1) := by decide +kernel
theorem dX9_hems_1 : decode cX9_hems 1 = .ok (.iload_n 1, 1) := by decide +kernel
theorem dX9_hems_2 : decode cX9_hems 2 = .ok (.invokevirtual 252, 3) := by decide +kernel
theorem dX9_hems_5 : decode cX9_hems 5 = .ok (.ifCond .ne 6, 3) := by decide +kernel
theorem dX9_hems_8 : decode cX9_hems 8 = .ok (.ldc 205, 2) := by decide +kernel
theorem dX9_hems_10 : decode cX9_hems 10 = .ok (.ireturn, 1) := by decide +kernel
theorem dX9_hems_11 : decode cX9_hems 11 = .ok (.iload_n 2, 1) := by decide +kernel
theorem dX9_hems_12 : decode cX9_hems 12 = .ok (.i2l, 1) := by decide +kernel
theorem dX9_hems_13 : decode cX9_hems 13 = .ok (.lconst 1, 1) := by decide +kernel
theorem dX9_hems_14 : decode cX9_hems 14 = .ok (.ldc2_w 258, 3) := by decide +kernel
theorem dX9_hems_17 : decode cX9_hems 17 = .ok (.invokestatic 92, 3) := by decide +kernel
theorem dX9_hems_20 : decode cX9_hems 20 = .ok (.ifCond .ne 6, 3) := by decide +kernel
theorem dX9_hems_23 : decode cX9_hems 23 = .ok (.ldc 96, 2) := by decide +kernel
theorem dX9_hems_25 : decode cX9_hems 25 = .ok (.ireturn, 1) := by decide +kernel
theorem dX9_hems_26 : decode cX9_hems 26 = .ok (.aload_n 0, 1) := by decide +kernel
theorem dX9_hems_27 : decode cX9_hems 27 = .ok (.iconst 0, 1) := by decide +kernel
theorem dX9_hems_28 : decode cX9_hems 28 = .ok (.invokevirtual 198, 3) := by decide +kernel
theorem dX9_hems_31 : decode cX9_hems 31 = .ok (.istore_n 3, 1) := by decide +kernel
theorem dX9_hems_32 : decode cX9_hems 32 = .ok (.iload_n 3, 1) := by decide +kernel
theorem dX9_hems_33 : decode cX9_hems 33 = .ok (.aload_n 0, 1) := by decide +kernel
theorem dX9_hems_34 : decode cX9_hems 34 = .ok (.getfield 192, 3) := by decide +kernel
theorem dX9_hems_37 : decode cX9_hems 37 = .ok (.iconst (-1), 1) := by decide +kernel
theorem dX9_hems_38 : decode cX9_hems 38 = .ok (.ixor, 1) := by decide +kernel
theorem dX9_hems_39 : decode cX9_hems 39 = .ok (.iand, 1) := by decide +kernel
theorem dX9_hems_40 : decode cX9_hems 40 = .ok (.istore 4, 2) := by decide +kernel
theorem dX9_hems_42 : decode cX9_hems 42 = .ok (.iconst (-1), 1) := by decide +kernel
theorem dX9_hems_43 : decode cX9_hems 43 = .ok (.istore 5, 2) := by decide +kernel
theorem dX9_hems_45 : decode cX9_hems 45 = .ok (.iconst 0, 1) := by decide +kernel
theorem dX9_hems_46 : decode cX9_hems 46 = .ok (.istore 6, 2) := by decide +kernel
theorem dX9_hems_48 : decode cX9_hems 48 = .ok (.iload 6, 2) := by decide +kernel
theorem dX9_hems_50 : decode cX9_hems 50 = .ok (.iconst 1, 1) := by decide +kernel
theorem dX9_hems_51 : decode cX9_hems 51 = .ok (.aload_n 0, 1) := by decide +kernel
theorem dX9_hems_52 : decode cX9_hems 52 = .ok (.getfield 186, 3) := by decide +kernel
theorem dX9_hems_55 : decode cX9_hems 55 = .ok (.ishl, 1) := by decide +kernel
theorem dX9_hems_56 : decode cX9_hems 56 = .ok (.if_icmp .ge 64, 3) := by decide +kernel
theorem dX9_hems_59 : decode cX9_hems 59 = .ok (.iload 6, 2) := by decide +kernel
theorem dX9_hems_61 : decode cX9_hems 61 = .ok (.iload 4, 2) := by decide +kernel
theorem dX9_hems_63 : decode cX9_hems 63 = .ok (.iconst (-1), 1) := by decide +kernel
theorem dX9_hems_64 : decode cX9_hems 64 = .ok (.ixor, 1) := by decide +kernel
theorem dX9_hems_65 : decode cX9_hems 65 = .ok (.iand, 1) := by decide +kernel
theorem dX9_hems_66 : decode cX9_hems 66 = .ok (.ifCond .ne 48, 3) := by decide +kernel
theorem dX9_hems_69 : decode cX9_hems 69 = .ok (.iload 5, 2) := by decide +kernel
theorem dX9_hems_71 : decode cX9_hems 71 = .ok (.iconst (-1), 1) := by decide +kernel
theorem dX9_hems_72 : decode cX9_hems 72 = .ok (.if_icmp .eq 16, 3) := by decide +kernel
theorem dX9_hems_75 : decode cX9_hems 75 = .ok (.iload 6, 2) := by decide +kernel
theorem dX9_hems_77 : decode cX9_hems 77 = .ok (.invokestatic 231, 3) := by decide +kernel
theorem dX9_hems_80 : decode cX9_hems 80 = .ok (.iload 5, 2) := by decide +kernel
theorem dX9_hems_82 : decode cX9_hems 82 = .ok (.invokestatic 231, 3) := by decide +kernel
theorem dX9_hems_85 : decode cX9_hems 85 = .ok (.if_icmp .ge 29, 3) := by decide +kernel
theorem dX9_hems_88 : decode cX9_hems 88 = .ok (.aload_n 0, 1) := by decide +kernel
theorem dX9_hems_89 : decode cX9_hems 89 = .ok (.iload_n 1, 1) := by decide +kernel
theorem dX9_hems_90 : decode cX9_hems 90 = .ok (.iload_n 3, 1) := by decide +kernel
theorem dX9_hems_91 : decode cX9_hems 91 = .ok (.iload 4, 2) := by decide +kernel
theorem dX9_hems_93 : decode cX9_hems 93 = .ok (.iload 6, 2) := by decide +kernel
theorem dX9_hems_95 : decode cX9_hems 95 = .ok (.iconst (-1), 1) := by decide +kernel
theorem dX9_hems_96 : decode cX9_hems 96 = .ok (.ixor, 1) := by decide +kernel
theorem dX9_hems_97 : decode cX9_hems 97 = .ok (.iand, 1) := by decide +kernel
theorem dX9_hems_98 : decode cX9_hems 98 = .ok (.iload_n 2, 1) := by decide +kernel
theorem dX9_hems_99 : decode cX9_hems 99 = .ok (.invokevirtual 255, 3) := by decide +kernel
theorem dX9_hems_102 : decode cX9_hems 102 = .ok (.ifCond .eq 8, 3) := by decide +kernel
theorem dX9_hems_105 : decode cX9_hems 105 = .ok (.iload 6, 2) := by decide +kernel
theorem dX9_hems_107 : decode cX9_hems 107 = .ok (.goto 5, 3) := by decide +kernel
theorem dX9_hems_110 : decode cX9_hems 110 = .ok (.iload 5, 2) := by decide +kernel
theorem dX9_hems_112 : decode cX9_hems 112 = .ok (.istore 5, 2) := by decide +kernel
theorem dX9_hems_114 : decode cX9_hems 114 = .ok (.iinc 6 1, 3) := by decide +kernel
theorem dX9_hems_117 : decode cX9_hems 117 = .ok (.goto (-69), 3) := by decide +kernel
theorem dX9_hems_120 : decode cX9_hems 120 = .ok (.iload 5, 2) := by decide +kernel
theorem dX9_hems_122 : decode cX9_hems 122 = .ok (.ireturn, 1) := by decide +kernel
theorem dX9_thread_0 : decode cX9_thread 0 = .ok (.iload_n 1, 1) := by decide +kernel
theorem dX9_thread_1 : decode cX9_thread 1 = .ok (.i2l, 1) := by decide +kernel
theorem dX9_thread_2 : decode cX9_thread 2 = .ok (.lconst 0, 1) := by decide +kernel
theorem dX9_thread_3 : decode cX9_thread 3 = .ok (.ldc2_w 258, 3) := by decide +kernel
theorem dX9_thread_6 : decode cX9_thread 6 = .ok (.invokestatic 92, 3) := by decide +kernel
theorem dX9_thread_9 : decode cX9_thread 9 = .ok (.ifCond .eq 13, 3) := by decide +kernel
theorem dX9_thread_12 : decode cX9_thread 12 = .ok (.iload_n 2, 1) := by decide +kernel
theorem dX9_thread_13 : decode cX9_thread 13 = .ok (.i2l, 1) := by decide +kernel
theorem dX9_thread_14 : decode cX9_thread 14 = .ok (.lconst 0, 1) := by decide +kernel
theorem dX9_thread_15 : decode cX9_thread 15 = .ok (.lconst 1, 1) := by decide +kernel
theorem dX9_thread_16 : decode cX9_thread 16 = .ok (.invokestatic 92, 3) := by decide +kernel
theorem dX9_thread_19 : decode cX9_thread 19 = .ok (.ifCond .ne 6, 3) := by decide +kernel
theorem dX9_thread_22 : decode cX9_thread 22 = .ok (.ldc 96, 2) := by decide +kernel
theorem dX9_thread_24 : decode cX9_thread 24 = .ok (.ireturn, 1) := by decide +kernel
theorem dX9_thread_25 : decode cX9_thread 25 = .ok (.aload_n 0, 1) := by decide +kernel
theorem dX9_thread_26 : decode cX9_thread 26 = .ok (.iconst 0, 1) := by decide +kernel
theorem dX9_thread_27 : decode cX9_thread 27 = .ok (.invokevirtual 198, 3) := by decide +kernel
theorem dX9_thread_30 : decode cX9_thread 30 = .ok (.istore_n 3, 1) := by decide +kernel
theorem dX9_thread_31 : decode cX9_thread 31 = .ok (.iconst (-1), 1) := by decide +kernel
theorem dX9_thread_32 : decode cX9_thread 32 = .ok (.istore 4, 2) := by decide +kernel
theorem dX9_thread_34 : decode cX9_thread 34 = .ok (.iconst 0, 1) := by decide +kernel
theorem dX9_thread_35 : decode cX9_thread 35 = .ok (.istore 5, 2) := by decide +kernel
theorem dX9_thread_37 : decode cX9_thread 37 = .ok (.iconst 0, 1) := by decide +kernel
theorem dX9_thread_38 : decode cX9_thread 38 = .ok (.istore 6, 2) := by decide +kernel
theorem dX9_thread_40 : decode cX9_thread 40 = .ok (.iload 6, 2) := by decide +kernel
theorem dX9_thread_42 : decode cX9_thread 42 = .ok (.iconst 1, 1) := by decide +kernel
theorem dX9_thread_43 : decode cX9_thread 43 = .ok (.aload_n 0, 1) := by decide +kernel
theorem dX9_thread_44 : decode cX9_thread 44 = .ok (.getfield 189, 3) := by decide +kernel
theorem dX9_thread_47 : decode cX9_thread 47 = .ok (.ishl, 1) := by decide +kernel
theorem dX9_thread_48 : decode cX9_thread 48 = .ok (.if_icmp .ge 110, 3) := by decide +kernel
theorem dX9_thread_51 : decode cX9_thread 51 = .ok (.iconst 0, 1) := by decide +kernel
theorem dX9_thread_52 : decode cX9_thread 52 = .ok (.istore 7, 2) := by decide +kernel
theorem dX9_thread_54 : decode cX9_thread 54 = .ok (.iconst 0, 1) := by decide +kernel
theorem dX9_thread_55 : decode cX9_thread 55 = .ok (.istore 8, 2) := by decide +kernel
theorem dX9_thread_57 : decode cX9_thread 57 = .ok (.iload 8, 2) := by decide +kernel
theorem dX9_thread_59 : decode cX9_thread 59 = .ok (.aload_n 0, 1) := by decide +kernel
theorem dX9_thread_60 : decode cX9_thread 60 = .ok (.getfield 189, 3) := by decide +kernel
theorem dX9_thread_63 : decode cX9_thread 63 = .ok (.if_icmp .ge 32, 3) := by decide +kernel
theorem dX9_thread_66 : decode cX9_thread 66 = .ok (.iload 7, 2) := by decide +kernel
theorem dX9_thread_68 : decode cX9_thread 68 = .ok (.iload 6, 2) := by decide +kernel
theorem dX9_thread_70 : decode cX9_thread 70 = .ok (.iload 8, 2) := by decide +kernel
theorem dX9_thread_72 : decode cX9_thread 72 = .ok (.ishr, 1) := by decide +kernel
theorem dX9_thread_73 : decode cX9_thread 73 = .ok (.iconst 1, 1) := by decide +kernel
theorem dX9_thread_74 : decode cX9_thread 74 = .ok (.iand, 1) := by decide +kernel
theorem dX9_thread_75 : decode cX9_thread 75 = .ok (.aload_n 0, 1) := by decide +kernel
theorem dX9_thread_76 : decode cX9_thread 76 = .ok (.getfield 49, 3) := by decide +kernel
theorem dX9_thread_79 : decode cX9_thread 79 = .ok (.bipush 12, 2) := by decide +kernel
theorem dX9_thread_81 : decode cX9_thread 81 = .ok (.iload 8, 2) := by decide +kernel
theorem dX9_thread_83 : decode cX9_thread 83 = .ok (.iadd, 1) := by decide +kernel
theorem dX9_thread_84 : decode cX9_thread 84 = .ok (.iaload, 1) := by decide +kernel
theorem dX9_thread_85 : decode cX9_thread 85 = .ok (.imul, 1) := by decide +kernel
theorem dX9_thread_86 : decode cX9_thread 86 = .ok (.iadd, 1) := by decide +kernel
theorem dX9_thread_87 : decode cX9_thread 87 = .ok (.istore 7, 2) := by decide +kernel
theorem dX9_thread_89 : decode cX9_thread 89 = .ok (.iinc 8 1, 3) := by decide +kernel
theorem dX9_thread_92 : decode cX9_thread 92 = .ok (.goto (-35), 3) := by decide +kernel
theorem dX9_thread_95 : decode cX9_thread 95 = .ok (.iload_n 3, 1) := by decide +kernel
theorem dX9_thread_96 : decode cX9_thread 96 = .ok (.iload 6, 2) := by decide +kernel
theorem dX9_thread_98 : decode cX9_thread 98 = .ok (.bipush 12, 2) := by decide +kernel
theorem dX9_thread_100 : decode cX9_thread 100 = .ok (.ishl, 1) := by decide +kernel
theorem dX9_thread_101 : decode cX9_thread 101 = .ok (.ior, 1) := by decide +kernel
theorem dX9_thread_102 : decode cX9_thread 102 = .ok (.istore 8, 2) := by decide +kernel
theorem dX9_thread_104 : decode cX9_thread 104 = .ok (.iload 4, 2) := by decide +kernel
theorem dX9_thread_106 : decode cX9_thread 106 = .ok (.iconst (-1), 1) := by decide +kernel
theorem dX9_thread_107 : decode cX9_thread 107 = .ok (.if_icmp .eq 10, 3) := by decide +kernel
theorem dX9_thread_110 : decode cX9_thread 110 = .ok (.iload 7, 2) := by decide +kernel
theorem dX9_thread_112 : decode cX9_thread 112 = .ok (.iload 5, 2) := by decide +kernel
theorem dX9_thread_114 : decode cX9_thread 114 = .ok (.if_icmp .ge 38, 3) := by decide +kernel
theorem dX9_thread_117 : decode cX9_thread 117 = .ok (.aload_n 0, 1) := by decide +kernel
theorem dX9_thread_118 : decode cX9_thread 118 = .ok (.iconst 1, 1) := by decide +kernel
theorem dX9_thread_119 : decode cX9_thread 119 = .ok (.aload_n 0, 1) := by decide +kernel
theorem dX9_thread_120 : decode cX9_thread 120 = .ok (.getfield 180, 3) := by decide +kernel
theorem dX9_thread_123 : decode cX9_thread 123 = .ok (.ishl, 1) := by decide +kernel
theorem dX9_thread_124 : decode cX9_thread 124 = .ok (.iconst 1, 1) := by decide +kernel
theorem dX9_thread_125 : decode cX9_thread 125 = .ok (.isub, 1) := by decide +kernel
theorem dX9_thread_126 : decode cX9_thread 126 = .ok (.iload 8, 2) := by decide +kernel
theorem dX9_thread_128 : decode cX9_thread 128 = .ok (.iload 8, 2) := by decide +kernel
theorem dX9_thread_130 : decode cX9_thread 130 = .ok (.aload_n 0, 1) := by decide +kernel
theorem dX9_thread_131 : decode cX9_thread 131 = .ok (.getfield 192, 3) := by decide +kernel
theorem dX9_thread_134 : decode cX9_thread 134 = .ok (.iconst (-1), 1) := by decide +kernel
theorem dX9_thread_135 : decode cX9_thread 135 = .ok (.ixor, 1) := by decide +kernel
theorem dX9_thread_136 : decode cX9_thread 136 = .ok (.iand, 1) := by decide +kernel
theorem dX9_thread_137 : decode cX9_thread 137 = .ok (.iload_n 1, 1) := by decide +kernel
theorem dX9_thread_138 : decode cX9_thread 138 = .ok (.invokevirtual 255, 3) := by decide +kernel
theorem dX9_thread_141 : decode cX9_thread 141 = .ok (.ifCond .eq 11, 3) := by decide +kernel
theorem dX9_thread_144 : decode cX9_thread 144 = .ok (.iload 6, 2) := by decide +kernel
theorem dX9_thread_146 : decode cX9_thread 146 = .ok (.istore 4, 2) := by decide +kernel
theorem dX9_thread_148 : decode cX9_thread 148 = .ok (.iload 7, 2) := by decide +kernel
theorem dX9_thread_150 : decode cX9_thread 150 = .ok (.istore 5, 2) := by decide +kernel
theorem dX9_thread_152 : decode cX9_thread 152 = .ok (.iinc 6 1, 3) := by decide +kernel
theorem dX9_thread_155 : decode cX9_thread 155 = .ok (.goto (-115), 3) := by decide +kernel
theorem dX9_thread_158 : decode cX9_thread 158 = .ok (.iload 4, 2) := by decide +kernel
theorem dX9_thread_160 : decode cX9_thread 160 = .ok (.iconst (-1), 1) := by decide +kernel
theorem dX9_thread_161 : decode cX9_thread 161 = .ok (.if_icmp .ne 7, 3) := by decide +kernel
theorem dX9_thread_164 : decode cX9_thread 164 = .ok (.iconst (-1), 1) := by decide +kernel
theorem dX9_thread_165 : decode cX9_thread 165 = .ok (.goto 14, 3) := by decide +kernel
theorem dX9_thread_168 : decode cX9_thread 168 = .ok (.iload_n 2, 1) := by decide +kernel
theorem dX9_thread_169 : decode cX9_thread 169 = .ok (.ifCond .ne 8, 3) := by decide +kernel
theorem dX9_thread_172 : decode cX9_thread 172 = .ok (.iload 5, 2) := by decide +kernel
theorem dX9_thread_174 : decode cX9_thread 174 = .ok (.goto 5, 3) := by decide +kernel
theorem dX9_thread_177 : decode cX9_thread 177 = .ok (.iload 4, 2) := by decide +kernel
theorem dX9_thread_179 : decode cX9_thread 179 = .ok (.ireturn, 1) := by decide +kernel
theorem dX9_odds_0 : decode cX9_odds 0 = .ok (.aload_n 0, 1) := by decide +kernel
theorem dX9_odds_1 : decode cX9_odds 1 = .ok (.iload_n 1, 1) := by decide +kernel
theorem dX9_odds_2 : decode cX9_odds 2 = .ok (.invokevirtual 212, 3) := by decide +kernel
theorem dX9_odds_5 : decode cX9_odds 5 = .ok (.ifCond .ne 6, 3) := by decide +kernel
theorem dX9_odds_8 : decode cX9_odds 8 = .ok (.ldc 205, 2) := by decide +kernel
theorem dX9_odds_10 : decode cX9_odds 10 = .ok (.ireturn, 1) := by decide +kernel
theorem dX9_odds_11 : decode cX9_odds 11 = .ok (.iload_n 2, 1) := by decide +kernel
theorem dX9_odds_12 : decode cX9_odds 12 = .ok (.i2l, 1) := by decide +kernel
theorem dX9_odds_13 : decode cX9_odds 13 = .ok (.lconst 0, 1) := by decide +kernel
theorem dX9_odds_14 : decode cX9_odds 14 = .ok (.ldc2_w 260, 3) := by decide +kernel
theorem dX9_odds_17 : decode cX9_odds 17 = .ok (.invokestatic 92, 3) := by decide +kernel
theorem dX9_odds_20 : decode cX9_odds 20 = .ok (.ifCond .ne 6, 3) := by decide +kernel
theorem dX9_odds_23 : decode cX9_odds 23 = .ok (.ldc 96, 2) := by decide +kernel
theorem dX9_odds_25 : decode cX9_odds 25 = .ok (.ireturn, 1) := by decide +kernel
theorem dX9_odds_26 : decode cX9_odds 26 = .ok (.aload_n 0, 1) := by decide +kernel
theorem dX9_odds_27 : decode cX9_odds 27 = .ok (.iconst 0, 1) := by decide +kernel
theorem dX9_odds_28 : decode cX9_odds 28 = .ok (.invokevirtual 198, 3) := by decide +kernel
theorem dX9_odds_31 : decode cX9_odds 31 = .ok (.istore_n 3, 1) := by decide +kernel
theorem dX9_odds_32 : decode cX9_odds 32 = .ok (.iconst 0, 1) := by decide +kernel
theorem dX9_odds_33 : decode cX9_odds 33 = .ok (.istore 4, 2) := by decide +kernel
theorem dX9_odds_35 : decode cX9_odds 35 = .ok (.iload 4, 2) := by decide +kernel
theorem dX9_odds_37 : decode cX9_odds 37 = .ok (.iconst 1, 1) := by decide +kernel
theorem dX9_odds_38 : decode cX9_odds 38 = .ok (.aload_n 0, 1) := by decide +kernel
theorem dX9_odds_39 : decode cX9_odds 39 = .ok (.getfield 186, 3) := by decide +kernel
theorem dX9_odds_42 : decode cX9_odds 42 = .ok (.ishl, 1) := by decide +kernel
theorem dX9_odds_43 : decode cX9_odds 43 = .ok (.if_icmp .ge 28, 3) := by decide +kernel
theorem dX9_odds_46 : decode cX9_odds 46 = .ok (.aload_n 0, 1) := by decide +kernel
theorem dX9_odds_47 : decode cX9_odds 47 = .ok (.getfield 52, 3) := by decide +kernel
theorem dX9_odds_50 : decode cX9_odds 50 = .ok (.iload 4, 2) := by decide +kernel
theorem dX9_odds_52 : decode cX9_odds 52 = .ok (.iload 4, 2) := by decide +kernel
theorem dX9_odds_54 : decode cX9_odds 54 = .ok (.ifCond .ne 9, 3) := by decide +kernel
theorem dX9_odds_57 : decode cX9_odds 57 = .ok (.ldc2_w 262, 3) := by decide +kernel
theorem dX9_odds_60 : decode cX9_odds 60 = .ok (.goto 4, 3) := by decide +kernel
theorem dX9_odds_63 : decode cX9_odds 63 = .ok (.lconst 0, 1) := by decide +kernel
theorem dX9_odds_64 : decode cX9_odds 64 = .ok (.lastore, 1) := by decide +kernel
theorem dX9_odds_65 : decode cX9_odds 65 = .ok (.iinc 4 1, 3) := by decide +kernel
theorem dX9_odds_68 : decode cX9_odds 68 = .ok (.goto (-33), 3) := by decide +kernel
theorem dX9_odds_71 : decode cX9_odds 71 = .ok (.iconst 0, 1) := by decide +kernel
theorem dX9_odds_72 : decode cX9_odds 72 = .ok (.istore 4, 2) := by decide +kernel
theorem dX9_odds_74 : decode cX9_odds 74 = .ok (.iload 4, 2) := by decide +kernel
theorem dX9_odds_76 : decode cX9_odds 76 = .ok (.aload_n 0, 1) := by decide +kernel
theorem dX9_odds_77 : decode cX9_odds 77 = .ok (.getfield 186, 3) := by decide +kernel
theorem dX9_odds_80 : decode cX9_odds 80 = .ok (.if_icmp .ge 97, 3) := by decide +kernel
theorem dX9_odds_83 : decode cX9_odds 83 = .ok (.iload_n 3, 1) := by decide +kernel
theorem dX9_odds_84 : decode cX9_odds 84 = .ok (.aload_n 0, 1) := by decide +kernel
theorem dX9_odds_85 : decode cX9_odds 85 = .ok (.getfield 192, 3) := by decide +kernel
theorem dX9_odds_88 : decode cX9_odds 88 = .ok (.iconst (-1), 1) := by decide +kernel
theorem dX9_odds_89 : decode cX9_odds 89 = .ok (.ixor, 1) := by decide +kernel
theorem dX9_odds_90 : decode cX9_odds 90 = .ok (.iand, 1) := by decide +kernel
theorem dX9_odds_91 : decode cX9_odds 91 = .ok (.iconst 1, 1) := by decide +kernel
theorem dX9_odds_92 : decode cX9_odds 92 = .ok (.iload 4, 2) := by decide +kernel
theorem dX9_odds_94 : decode cX9_odds 94 = .ok (.ishl, 1) := by decide +kernel
theorem dX9_odds_95 : decode cX9_odds 95 = .ok (.iand, 1) := by decide +kernel
theorem dX9_odds_96 : decode cX9_odds 96 = .ok (.ifCond .eq 7, 3) := by decide +kernel
theorem dX9_odds_99 : decode cX9_odds 99 = .ok (.iconst 1, 1) := by decide +kernel
theorem dX9_odds_100 : decode cX9_odds 100 = .ok (.goto 4, 3) := by decide +kernel
theorem dX9_odds_103 : decode cX9_odds 103 = .ok (.iconst 0, 1) := by decide +kernel
theorem dX9_odds_104 : decode cX9_odds 104 = .ok (.istore 5, 2) := by decide +kernel
theorem dX9_odds_106 : decode cX9_odds 106 = .ok (.iconst 0, 1) := by decide +kernel
theorem dX9_odds_107 : decode cX9_odds 107 = .ok (.istore 6, 2) := by decide +kernel
theorem dX9_odds_109 : decode cX9_odds 109 = .ok (.iload 6, 2) := by decide +kernel
theorem dX9_odds_111 : decode cX9_odds 111 = .ok (.iconst 1, 1) := by decide +kernel
theorem dX9_odds_112 : decode cX9_odds 112 = .ok (.iload 4, 2) := by decide +kernel
theorem dX9_odds_114 : decode cX9_odds 114 = .ok (.ishl, 1) := by decide +kernel
theorem dX9_odds_115 : decode cX9_odds 115 = .ok (.if_icmp .ge 56, 3) := by decide +kernel
theorem dX9_odds_118 : decode cX9_odds 118 = .ok (.iload 5, 2) := by decide +kernel
theorem dX9_odds_120 : decode cX9_odds 120 = .ok (.ifCond .eq 51, 3) := by decide +kernel
theorem dX9_odds_123 : decode cX9_odds 123 = .ok (.aload_n 0, 1) := by decide +kernel
theorem dX9_odds_124 : decode cX9_odds 124 = .ok (.getfield 52, 3) := by decide +kernel
theorem dX9_odds_127 : decode cX9_odds 127 = .ok (.iload 6, 2) := by decide +kernel
theorem dX9_odds_129 : decode cX9_odds 129 = .ok (.laload, 1) := by decide +kernel
theorem dX9_odds_130 : decode cX9_odds 130 = .ok (.iload_n 2, 1) := by decide +kernel
theorem dX9_odds_131 : decode cX9_odds 131 = .ok (.i2l, 1) := by decide +kernel
theorem dX9_odds_132 : decode cX9_odds 132 = .ok (.lmul, 1) := by decide +kernel
theorem dX9_odds_133 : decode cX9_odds 133 = .ok (.ldc2_w 260, 3) := by decide +kernel
theorem dX9_odds_136 : decode cX9_odds 136 = .ok (.ldiv, 1) := by decide +kernel
theorem dX9_odds_137 : decode cX9_odds 137 = .ok (.lstore 7, 2) := by decide +kernel
theorem dX9_odds_139 : decode cX9_odds 139 = .ok (.aload_n 0, 1) := by decide +kernel
theorem dX9_odds_140 : decode cX9_odds 140 = .ok (.getfield 52, 3) := by decide +kernel
theorem dX9_odds_143 : decode cX9_odds 143 = .ok (.iload 6, 2) := by decide +kernel
theorem dX9_odds_145 : decode cX9_odds 145 = .ok (.iconst 1, 1) := by decide +kernel
theorem dX9_odds_146 : decode cX9_odds 146 = .ok (.iload 4, 2) := by decide +kernel
theorem dX9_odds_148 : decode cX9_odds 148 = .ok (.ishl, 1) := by decide +kernel
theorem dX9_odds_149 : decode cX9_odds 149 = .ok (.ior, 1) := by decide +kernel
theorem dX9_odds_150 : decode cX9_odds 150 = .ok (.lload 7, 2) := by decide +kernel
theorem dX9_odds_152 : decode cX9_odds 152 = .ok (.lastore, 1) := by decide +kernel
theorem dX9_odds_153 : decode cX9_odds 153 = .ok (.aload_n 0, 1) := by decide +kernel
theorem dX9_odds_154 : decode cX9_odds 154 = .ok (.getfield 52, 3) := by decide +kernel
theorem dX9_odds_157 : decode cX9_odds 157 = .ok (.iload 6, 2) := by decide +kernel
theorem dX9_odds_159 : decode cX9_odds 159 = .ok (.dup2, 1) := by decide +kernel
theorem dX9_odds_160 : decode cX9_odds 160 = .ok (.laload, 1) := by decide +kernel
theorem dX9_odds_161 : decode cX9_odds 161 = .ok (.lload 7, 2) := by decide +kernel
theorem dX9_odds_163 : decode cX9_odds 163 = .ok (.lsub, 1) := by decide +kernel
theorem dX9_odds_164 : decode cX9_odds 164 = .ok (.lastore, 1) := by decide +kernel
theorem dX9_odds_165 : decode cX9_odds 165 = .ok (.iinc 6 1, 3) := by decide +kernel
theorem dX9_odds_168 : decode cX9_odds 168 = .ok (.goto (-59), 3) := by decide +kernel
theorem dX9_odds_171 : decode cX9_odds 171 = .ok (.iinc 4 1, 3) := by decide +kernel
theorem dX9_odds_174 : decode cX9_odds 174 = .ok (.goto (-100), 3) := by decide +kernel
theorem dX9_odds_177 : decode cX9_odds 177 = .ok (.lconst 0, 1) := by decide +kernel
theorem dX9_odds_178 : decode cX9_odds 178 = .ok (.lstore 4, 2) := by decide +kernel
theorem dX9_odds_180 : decode cX9_odds 180 = .ok (.iconst 0, 1) := by decide +kernel
theorem dX9_odds_181 : decode cX9_odds 181 = .ok (.istore 6, 2) := by decide +kernel
theorem dX9_odds_183 : decode cX9_odds 183 = .ok (.iload 6, 2) := by decide +kernel
theorem dX9_odds_185 : decode cX9_odds 185 = .ok (.iconst 1, 1) := by decide +kernel
theorem dX9_odds_186 : decode cX9_odds 186 = .ok (.aload_n 0, 1) := by decide +kernel
theorem dX9_odds_187 : decode cX9_odds 187 = .ok (.getfield 186, 3) := by decide +kernel
theorem dX9_odds_190 : decode cX9_odds 190 = .ok (.ishl, 1) := by decide +kernel
theorem dX9_odds_191 : decode cX9_odds 191 = .ok (.if_icmp .ge 67, 3) := by decide +kernel
theorem dX9_odds_194 : decode cX9_odds 194 = .ok (.aload_n 0, 1) := by decide +kernel
theorem dX9_odds_195 : decode cX9_odds 195 = .ok (.getfield 52, 3) := by decide +kernel
theorem dX9_odds_198 : decode cX9_odds 198 = .ok (.iload 6, 2) := by decide +kernel
theorem dX9_odds_200 : decode cX9_odds 200 = .ok (.laload, 1) := by decide +kernel
theorem dX9_odds_201 : decode cX9_odds 201 = .ok (.lconst 0, 1) := by decide +kernel
theorem dX9_odds_202 : decode cX9_odds 202 = .ok (.lcmp, 1) := by decide +kernel
theorem dX9_odds_203 : decode cX9_odds 203 = .ok (.ifCond .le 25, 3) := by decide +kernel
theorem dX9_odds_206 : decode cX9_odds 206 = .ok (.aload_n 0, 1) := by decide +kernel
theorem dX9_odds_207 : decode cX9_odds 207 = .ok (.iload_n 3, 1) := by decide +kernel
theorem dX9_odds_208 : decode cX9_odds 208 = .ok (.iload 6, 2) := by decide +kernel
theorem dX9_odds_210 : decode cX9_odds 210 = .ok (.iconst (-1), 1) := by decide +kernel
theorem dX9_odds_211 : decode cX9_odds 211 = .ok (.ixor, 1) := by decide +kernel
theorem dX9_odds_212 : decode cX9_odds 212 = .ok (.iand, 1) := by decide +kernel
theorem dX9_odds_213 : decode cX9_odds 213 = .ok (.invokevirtual 223, 3) := by decide +kernel
theorem dX9_odds_216 : decode cX9_odds 216 = .ok (.iload_n 1, 1) := by decide +kernel
theorem dX9_odds_217 : decode cX9_odds 217 = .ok (.ishr, 1) := by decide +kernel
theorem dX9_odds_218 : decode cX9_odds 218 = .ok (.iconst 1, 1) := by decide +kernel
theorem dX9_odds_219 : decode cX9_odds 219 = .ok (.iand, 1) := by decide +kernel
theorem dX9_odds_220 : decode cX9_odds 220 = .ok (.iconst 1, 1) := by decide +kernel
theorem dX9_odds_221 : decode cX9_odds 221 = .ok (.if_icmp .ne 7, 3) := by decide +kernel
theorem dX9_odds_224 : decode cX9_odds 224 = .ok (.iconst 1, 1) := by decide +kernel
theorem dX9_odds_225 : decode cX9_odds 225 = .ok (.goto 4, 3) := by decide +kernel
theorem dX9_odds_228 : decode cX9_odds 228 = .ok (.iconst 0, 1) := by decide +kernel
theorem dX9_odds_229 : decode cX9_odds 229 = .ok (.istore 7, 2) := by decide +kernel
theorem dX9_odds_231 : decode cX9_odds 231 = .ok (.lload 4, 2) := by decide +kernel
theorem dX9_odds_233 : decode cX9_odds 233 = .ok (.iload 7, 2) := by decide +kernel
theorem dX9_odds_235 : decode cX9_odds 235 = .ok (.ifCond .eq 13, 3) := by decide +kernel
theorem dX9_odds_238 : decode cX9_odds 238 = .ok (.aload_n 0, 1) := by decide +kernel
theorem dX9_odds_239 : decode cX9_odds 239 = .ok (.getfield 52, 3) := by decide +kernel
theorem dX9_odds_242 : decode cX9_odds 242 = .ok (.iload 6, 2) := by decide +kernel
theorem dX9_odds_244 : decode cX9_odds 244 = .ok (.laload, 1) := by decide +kernel
theorem dX9_odds_245 : decode cX9_odds 245 = .ok (.goto 4, 3) := by decide +kernel
theorem dX9_odds_248 : decode cX9_odds 248 = .ok (.lconst 0, 1) := by decide +kernel
theorem dX9_odds_249 : decode cX9_odds 249 = .ok (.ladd, 1) := by decide +kernel
theorem dX9_odds_250 : decode cX9_odds 250 = .ok (.lstore 4, 2) := by decide +kernel
theorem dX9_odds_252 : decode cX9_odds 252 = .ok (.iinc 6 1, 3) := by decide +kernel
theorem dX9_odds_255 : decode cX9_odds 255 = .ok (.goto (-72), 3) := by decide +kernel
theorem dX9_odds_258 : decode cX9_odds 258 = .ok (.lload 4, 2) := by decide +kernel
theorem dX9_odds_260 : decode cX9_odds 260 = .ok (.l2i, 1) := by decide +kernel
theorem dX9_odds_261 : decode cX9_odds 261 = .ok (.ireturn, 1) := by decide +kernel
theorem dX9_worth_0 : decode cX9_worth 0 = .ok (.aload_n 0, 1) := by decide +kernel
theorem dX9_worth_1 : decode cX9_worth 1 = .ok (.iload_n 3, 1) := by decide +kernel
theorem dX9_worth_2 : decode cX9_worth 2 = .ok (.invokevirtual 223, 3) := by decide +kernel
theorem dX9_worth_5 : decode cX9_worth 5 = .ok (.istore 4, 2) := by decide +kernel
theorem dX9_worth_7 : decode cX9_worth 7 = .ok (.iconst 3, 1) := by decide +kernel
theorem dX9_worth_8 : decode cX9_worth 8 = .ok (.iload 4, 2) := by decide +kernel
theorem dX9_worth_10 : decode cX9_worth 10 = .ok (.iload_n 1, 1) := by decide +kernel
theorem dX9_worth_11 : decode cX9_worth 11 = .ok (.ishr, 1) := by decide +kernel
theorem dX9_worth_12 : decode cX9_worth 12 = .ok (.iconst 1, 1) := by decide +kernel
theorem dX9_worth_13 : decode cX9_worth 13 = .ok (.iand, 1) := by decide +kernel
theorem dX9_worth_14 : decode cX9_worth 14 = .ok (.iload 4, 2) := by decide +kernel
theorem dX9_worth_16 : decode cX9_worth 16 = .ok (.iload_n 2, 1) := by decide +kernel
theorem dX9_worth_17 : decode cX9_worth 17 = .ok (.ishr, 1) := by decide +kernel
theorem dX9_worth_18 : decode cX9_worth 18 = .ok (.iconst 1, 1) := by decide +kernel
theorem dX9_worth_19 : decode cX9_worth 19 = .ok (.iand, 1) := by decide +kernel
theorem dX9_worth_20 : decode cX9_worth 20 = .ok (.isub, 1) := by decide +kernel
theorem dX9_worth_21 : decode cX9_worth 21 = .ok (.imul, 1) := by decide +kernel
theorem dX9_worth_22 : decode cX9_worth 22 = .ok (.ireturn, 1) := by decide +kernel
theorem dX9_opens_0 : decode cX9_opens 0 = .ok (.aload_n 0, 1) := by decide +kernel
theorem dX9_opens_1 : decode cX9_opens 1 = .ok (.getfield 56, 3) := by decide +kernel
theorem dX9_opens_4 : decode cX9_opens 4 = .ok (.iload_n 1, 1) := by decide +kernel
theorem dX9_opens_5 : decode cX9_opens 5 = .ok (.iload_n 2, 1) := by decide +kernel
theorem dX9_opens_6 : decode cX9_opens 6 = .ok (.iastore, 1) := by decide +kernel
theorem dX9_opens_7 : decode cX9_opens 7 = .ok (.aload_n 0, 1) := by decide +kernel
theorem dX9_opens_8 : decode cX9_opens 8 = .ok (.getfield 59, 3) := by decide +kernel
theorem dX9_opens_11 : decode cX9_opens 11 = .ok (.iload_n 1, 1) := by decide +kernel
theorem dX9_opens_12 : decode cX9_opens 12 = .ok (.iconst (-1), 1) := by decide +kernel
theorem dX9_opens_13 : decode cX9_opens 13 = .ok (.iastore, 1) := by decide +kernel
theorem dX9_opens_14 : decode cX9_opens 14 = .ok (.aload_n 0, 1) := by decide +kernel
theorem dX9_opens_15 : decode cX9_opens 15 = .ok (.getfield 62, 3) := by decide +kernel
theorem dX9_opens_18 : decode cX9_opens 18 = .ok (.iload_n 1, 1) := by decide +kernel
theorem dX9_opens_19 : decode cX9_opens 19 = .ok (.bipush (-9), 2) := by decide +kernel
theorem dX9_opens_21 : decode cX9_opens 21 = .ok (.iastore, 1) := by decide +kernel
theorem dX9_opens_22 : decode cX9_opens 22 = .ok (.return_, 1) := by decide +kernel
theorem dX9_plays_0 : decode cX9_plays 0 = .ok (.iconst 0, 1) := by decide +kernel
theorem dX9_plays_1 : decode cX9_plays 1 = .ok (.istore 4, 2) := by decide +kernel
theorem dX9_plays_3 : decode cX9_plays 3 = .ok (.iconst 0, 1) := by decide +kernel
theorem dX9_plays_4 : decode cX9_plays 4 = .ok (.istore 5, 2) := by decide +kernel
theorem dX9_plays_6 : decode cX9_plays 6 = .ok (.iconst 1, 1) := by decide +kernel
theorem dX9_plays_7 : decode cX9_plays 7 = .ok (.istore 6, 2) := by decide +kernel
theorem dX9_plays_9 : decode cX9_plays 9 = .ok (.aload_n 0, 1) := by decide +kernel
theorem dX9_plays_10 : decode cX9_plays 10 = .ok (.iconst 0, 1) := by decide +kernel
theorem dX9_plays_11 : decode cX9_plays 11 = .ok (.aload_n 0, 1) := by decide +kernel
theorem dX9_plays_12 : decode cX9_plays 12 = .ok (.iconst 0, 1) := by decide +kernel
theorem dX9_plays_13 : decode cX9_plays 13 = .ok (.invokevirtual 198, 3) := by decide +kernel
theorem dX9_plays_16 : decode cX9_plays 16 = .ok (.invokevirtual 264, 3) := by decide +kernel
theorem dX9_plays_19 : decode cX9_plays 19 = .ok (.iload 4, 2) := by decide +kernel
theorem dX9_plays_21 : decode cX9_plays 21 = .ok (.ifCond .lt 311, 3) := by decide +kernel
theorem dX9_plays_24 : decode cX9_plays 24 = .ok (.iload 4, 2) := by decide +kernel
theorem dX9_plays_26 : decode cX9_plays 26 = .ok (.iload_n 3, 1) := by decide +kernel
theorem dX9_plays_27 : decode cX9_plays 27 = .ok (.if_icmp .ne 51, 3) := by decide +kernel
theorem dX9_plays_30 : decode cX9_plays 30 = .ok (.iload 4, 2) := by decide +kernel
theorem dX9_plays_32 : decode cX9_plays 32 = .ok (.iconst 2, 1) := by decide +kernel
theorem dX9_plays_33 : decode cX9_plays 33 = .ok (.irem, 1) := by decide +kernel
theorem dX9_plays_34 : decode cX9_plays 34 = .ok (.ifCond .ne 19, 3) := by decide +kernel
theorem dX9_plays_37 : decode cX9_plays 37 = .ok (.aload_n 0, 1) := by decide +kernel
theorem dX9_plays_38 : decode cX9_plays 38 = .ok (.iload_n 1, 1) := by decide +kernel
theorem dX9_plays_39 : decode cX9_plays 39 = .ok (.iload_n 2, 1) := by decide +kernel
theorem dX9_plays_40 : decode cX9_plays 40 = .ok (.aload_n 0, 1) := by decide +kernel
theorem dX9_plays_41 : decode cX9_plays 41 = .ok (.getfield 56, 3) := by decide +kernel
theorem dX9_plays_44 : decode cX9_plays 44 = .ok (.iload 4, 2) := by decide +kernel
theorem dX9_plays_46 : decode cX9_plays 46 = .ok (.iaload, 1) := by decide +kernel
theorem dX9_plays_47 : decode cX9_plays 47 = .ok (.invokevirtual 267, 3) := by decide +kernel
theorem dX9_plays_50 : decode cX9_plays 50 = .ok (.goto 17, 3) := by decide +kernel
theorem dX9_plays_53 : decode cX9_plays 53 = .ok (.aload_n 0, 1) := by decide +kernel
theorem dX9_plays_54 : decode cX9_plays 54 = .ok (.iload_n 1, 1) := by decide +kernel
theorem dX9_plays_55 : decode cX9_plays 55 = .ok (.iload_n 2, 1) := by decide +kernel
theorem dX9_plays_56 : decode cX9_plays 56 = .ok (.aload_n 0, 1) := by decide +kernel
theorem dX9_plays_57 : decode cX9_plays 57 = .ok (.getfield 56, 3) := by decide +kernel
theorem dX9_plays_60 : decode cX9_plays 60 = .ok (.iload 4, 2) := by decide +kernel
theorem dX9_plays_62 : decode cX9_plays 62 = .ok (.iaload, 1) := by decide +kernel
theorem dX9_plays_63 : decode cX9_plays 63 = .ok (.invokevirtual 267, 3) := by decide +kernel
theorem dX9_plays_66 : decode cX9_plays 66 = .ok (.ineg, 1) := by decide +kernel
theorem dX9_plays_67 : decode cX9_plays 67 = .ok (.istore 5, 2) := by decide +kernel
theorem dX9_plays_69 : decode cX9_plays 69 = .ok (.iinc 4 (-1), 3) := by decide +kernel
theorem dX9_plays_72 : decode cX9_plays 72 = .ok (.iconst 0, 1) := by decide +kernel
theorem dX9_plays_73 : decode cX9_plays 73 = .ok (.istore 6, 2) := by decide +kernel
theorem dX9_plays_75 : decode cX9_plays 75 = .ok (.goto (-56), 3) := by decide +kernel
theorem dX9_plays_78 : decode cX9_plays 78 = .ok (.iload 4, 2) := by decide +kernel
theorem dX9_plays_80 : decode cX9_plays 80 = .ok (.iconst 2, 1) := by decide +kernel
theorem dX9_plays_81 : decode cX9_plays 81 = .ok (.irem, 1) := by decide +kernel
theorem dX9_plays_82 : decode cX9_plays 82 = .ok (.ifCond .ne 7, 3) := by decide +kernel
theorem dX9_plays_85 : decode cX9_plays 85 = .ok (.iload_n 1, 1) := by decide +kernel
theorem dX9_plays_86 : decode cX9_plays 86 = .ok (.goto 4, 3) := by decide +kernel
theorem dX9_plays_89 : decode cX9_plays 89 = .ok (.iload_n 2, 1) := by decide +kernel
theorem dX9_plays_90 : decode cX9_plays 90 = .ok (.istore 7, 2) := by decide +kernel
theorem dX9_plays_92 : decode cX9_plays 92 = .ok (.iload 6, 2) := by decide +kernel
theorem dX9_plays_94 : decode cX9_plays 94 = .ok (.ifCond .ne 86, 3) := by decide +kernel
theorem dX9_plays_97 : decode cX9_plays 97 = .ok (.iload 5, 2) := by decide +kernel
theorem dX9_plays_99 : decode cX9_plays 99 = .ok (.ineg, 1) := by decide +kernel
theorem dX9_plays_100 : decode cX9_plays 100 = .ok (.aload_n 0, 1) := by decide +kernel
theorem dX9_plays_101 : decode cX9_plays 101 = .ok (.getfield 62, 3) := by decide +kernel
theorem dX9_plays_104 : decode cX9_plays 104 = .ok (.iload 4, 2) := by decide +kernel
theorem dX9_plays_106 : decode cX9_plays 106 = .ok (.iaload, 1) := by decide +kernel
theorem dX9_plays_107 : decode cX9_plays 107 = .ok (.if_icmp .le 7, 3) := by decide +kernel
theorem dX9_plays_110 : decode cX9_plays 110 = .ok (.iconst 1, 1) := by decide +kernel
theorem dX9_plays_111 : decode cX9_plays 111 = .ok (.goto 4, 3) := by decide +kernel
theorem dX9_plays_114 : decode cX9_plays 114 = .ok (.iconst 0, 1) := by decide +kernel
theorem dX9_plays_115 : decode cX9_plays 115 = .ok (.istore 8, 2) := by decide +kernel
theorem dX9_plays_117 : decode cX9_plays 117 = .ok (.aload_n 0, 1) := by decide +kernel
theorem dX9_plays_118 : decode cX9_plays 118 = .ok (.iload 8, 2) := by decide +kernel
theorem dX9_plays_120 : decode cX9_plays 120 = .ok (.ifCond .eq 17, 3) := by decide +kernel
theorem dX9_plays_123 : decode cX9_plays 123 = .ok (.iload 4, 2) := by decide +kernel
theorem dX9_plays_125 : decode cX9_plays 125 = .ok (.ifCond .ne 12, 3) := by decide +kernel
theorem dX9_plays_128 : decode cX9_plays 128 = .ok (.aload_n 0, 1) := by decide +kernel
theorem dX9_plays_129 : decode cX9_plays 129 = .ok (.getfield 59, 3) := by decide +kernel
theorem dX9_plays_132 : decode cX9_plays 132 = .ok (.iconst 0, 1) := by decide +kernel
theorem dX9_plays_133 : decode cX9_plays 133 = .ok (.iaload, 1) := by decide +kernel
theorem dX9_plays_134 : decode cX9_plays 134 = .ok (.goto 7, 3) := by decide +kernel
theorem dX9_plays_137 : decode cX9_plays 137 = .ok (.aload_n 0, 1) := by decide +kernel
theorem dX9_plays_138 : decode cX9_plays 138 = .ok (.getfield 271, 3) := by decide +kernel
theorem dX9_plays_141 : decode cX9_plays 141 = .ok (.putfield 271, 3) := by decide +kernel
theorem dX9_plays_144 : decode cX9_plays 144 = .ok (.aload_n 0, 1) := by decide +kernel
theorem dX9_plays_145 : decode cX9_plays 145 = .ok (.getfield 62, 3) := by decide +kernel
theorem dX9_plays_148 : decode cX9_plays 148 = .ok (.iload 4, 2) := by decide +kernel
theorem dX9_plays_150 : decode cX9_plays 150 = .ok (.iload 8, 2) := by decide +kernel
theorem dX9_plays_152 : decode cX9_plays 152 = .ok (.ifCond .eq 9, 3) := by decide +kernel
theorem dX9_plays_155 : decode cX9_plays 155 = .ok (.iload 5, 2) := by decide +kernel
theorem dX9_plays_157 : decode cX9_plays 157 = .ok (.ineg, 1) := by decide +kernel
theorem dX9_plays_158 : decode cX9_plays 158 = .ok (.goto 10, 3) := by decide +kernel
theorem dX9_plays_161 : decode cX9_plays 161 = .ok (.aload_n 0, 1) := by decide +kernel
theorem dX9_plays_162 : decode cX9_plays 162 = .ok (.getfield 62, 3) := by decide +kernel
theorem dX9_plays_165 : decode cX9_plays 165 = .ok (.iload 4, 2) := by decide +kernel
theorem dX9_plays_167 : decode cX9_plays 167 = .ok (.iaload, 1) := by decide +kernel
theorem dX9_plays_168 : decode cX9_plays 168 = .ok (.iastore, 1) := by decide +kernel
theorem dX9_plays_169 : decode cX9_plays 169 = .ok (.aload_n 0, 1) := by decide +kernel
theorem dX9_plays_170 : decode cX9_plays 170 = .ok (.getfield 59, 3) := by decide +kernel
theorem dX9_plays_173 : decode cX9_plays 173 = .ok (.iload 4, 2) := by decide +kernel
theorem dX9_plays_175 : decode cX9_plays 175 = .ok (.dup2, 1) := by decide +kernel
theorem dX9_plays_176 : decode cX9_plays 176 = .ok (.iaload, 1) := by decide +kernel
theorem dX9_plays_177 : decode cX9_plays 177 = .ok (.iconst 1, 1) := by decide +kernel
theorem dX9_plays_178 : decode cX9_plays 178 = .ok (.iadd, 1) := by decide +kernel
theorem dX9_plays_179 : decode cX9_plays 179 = .ok (.iastore, 1) := by decide +kernel
theorem dX9_plays_180 : decode cX9_plays 180 = .ok (.aload_n 0, 1) := by decide +kernel
theorem dX9_plays_181 : decode cX9_plays 181 = .ok (.getfield 59, 3) := by decide +kernel
theorem dX9_plays_184 : decode cX9_plays 184 = .ok (.iload 4, 2) := by decide +kernel
theorem dX9_plays_186 : decode cX9_plays 186 = .ok (.iaload, 1) := by decide +kernel
theorem dX9_plays_187 : decode cX9_plays 187 = .ok (.ifCond .lt 58, 3) := by decide +kernel
theorem dX9_plays_190 : decode cX9_plays 190 = .ok (.aload_n 0, 1) := by decide +kernel
theorem dX9_plays_191 : decode cX9_plays 191 = .ok (.getfield 59, 3) := by decide +kernel
theorem dX9_plays_194 : decode cX9_plays 194 = .ok (.iload 4, 2) := by decide +kernel
theorem dX9_plays_196 : decode cX9_plays 196 = .ok (.iaload, 1) := by decide +kernel
theorem dX9_plays_197 : decode cX9_plays 197 = .ok (.aload_n 0, 1) := by decide +kernel
theorem dX9_plays_198 : decode cX9_plays 198 = .ok (.getfield 186, 3) := by decide +kernel
theorem dX9_plays_201 : decode cX9_plays 201 = .ok (.if_icmp .ge 44, 3) := by decide +kernel
theorem dX9_plays_204 : decode cX9_plays 204 = .ok (.aload_n 0, 1) := by decide +kernel
theorem dX9_plays_205 : decode cX9_plays 205 = .ok (.iload 7, 2) := by decide +kernel
theorem dX9_plays_207 : decode cX9_plays 207 = .ok (.aload_n 0, 1) := by decide +kernel
theorem dX9_plays_208 : decode cX9_plays 208 = .ok (.getfield 59, 3) := by decide +kernel
theorem dX9_plays_211 : decode cX9_plays 211 = .ok (.iload 4, 2) := by decide +kernel
theorem dX9_plays_213 : decode cX9_plays 213 = .ok (.iaload, 1) := by decide +kernel
theorem dX9_plays_214 : decode cX9_plays 214 = .ok (.aload_n 0, 1) := by decide +kernel
theorem dX9_plays_215 : decode cX9_plays 215 = .ok (.getfield 56, 3) := by decide +kernel
theorem dX9_plays_218 : decode cX9_plays 218 = .ok (.iload 4, 2) := by decide +kernel
theorem dX9_plays_220 : decode cX9_plays 220 = .ok (.iaload, 1) := by decide +kernel
theorem dX9_plays_221 : decode cX9_plays 221 = .ok (.aload_n 0, 1) := by decide +kernel
theorem dX9_plays_222 : decode cX9_plays 222 = .ok (.getfield 192, 3) := by decide +kernel
theorem dX9_plays_225 : decode cX9_plays 225 = .ok (.invokevirtual 226, 3) := by decide +kernel
theorem dX9_plays_228 : decode cX9_plays 228 = .ok (.ifCond .ne 17, 3) := by decide +kernel
theorem dX9_plays_231 : decode cX9_plays 231 = .ok (.aload_n 0, 1) := by decide +kernel
theorem dX9_plays_232 : decode cX9_plays 232 = .ok (.getfield 59, 3) := by decide +kernel
theorem dX9_plays_235 : decode cX9_plays 235 = .ok (.iload 4, 2) := by decide +kernel
theorem dX9_plays_237 : decode cX9_plays 237 = .ok (.dup2, 1) := by decide +kernel
theorem dX9_plays_238 : decode cX9_plays 238 = .ok (.iaload, 1) := by decide +kernel
theorem dX9_plays_239 : decode cX9_plays 239 = .ok (.iconst 1, 1) := by decide +kernel
theorem dX9_plays_240 : decode cX9_plays 240 = .ok (.iadd, 1) := by decide +kernel
theorem dX9_plays_241 : decode cX9_plays 241 = .ok (.iastore, 1) := by decide +kernel
theorem dX9_plays_242 : decode cX9_plays 242 = .ok (.goto (-62), 3) := by decide +kernel
theorem dX9_plays_245 : decode cX9_plays 245 = .ok (.aload_n 0, 1) := by decide +kernel
theorem dX9_plays_246 : decode cX9_plays 246 = .ok (.getfield 59, 3) := by decide +kernel
theorem dX9_plays_249 : decode cX9_plays 249 = .ok (.iload 4, 2) := by decide +kernel
theorem dX9_plays_251 : decode cX9_plays 251 = .ok (.iaload, 1) := by decide +kernel
theorem dX9_plays_252 : decode cX9_plays 252 = .ok (.aload_n 0, 1) := by decide +kernel
theorem dX9_plays_253 : decode cX9_plays 253 = .ok (.getfield 186, 3) := by decide +kernel
theorem dX9_plays_256 : decode cX9_plays 256 = .ok (.if_icmp .ne 21, 3) := by decide +kernel
theorem dX9_plays_259 : decode cX9_plays 259 = .ok (.aload_n 0, 1) := by decide +kernel
theorem dX9_plays_260 : decode cX9_plays 260 = .ok (.getfield 62, 3) := by decide +kernel
theorem dX9_plays_263 : decode cX9_plays 263 = .ok (.iload 4, 2) := by decide +kernel
theorem dX9_plays_265 : decode cX9_plays 265 = .ok (.iaload, 1) := by decide +kernel
theorem dX9_plays_266 : decode cX9_plays 266 = .ok (.istore 5, 2) := by decide +kernel
theorem dX9_plays_268 : decode cX9_plays 268 = .ok (.iinc 4 (-1), 3) := by decide +kernel
theorem dX9_plays_271 : decode cX9_plays 271 = .ok (.iconst 0, 1) := by decide +kernel
theorem dX9_plays_272 : decode cX9_plays 272 = .ok (.istore 6, 2) := by decide +kernel
theorem dX9_plays_274 : decode cX9_plays 274 = .ok (.goto 55, 3) := by decide +kernel
theorem dX9_plays_277 : decode cX9_plays 277 = .ok (.aload_n 0, 1) := by decide +kernel
theorem dX9_plays_278 : decode cX9_plays 278 = .ok (.getfield 59, 3) := by decide +kernel
theorem dX9_plays_281 : decode cX9_plays 281 = .ok (.iload 4, 2) := by decide +kernel
theorem dX9_plays_283 : decode cX9_plays 283 = .ok (.iaload, 1) := by decide +kernel
theorem dX9_plays_284 : decode cX9_plays 284 = .ok (.istore 8, 2) := by decide +kernel
theorem dX9_plays_286 : decode cX9_plays 286 = .ok (.aload_n 0, 1) := by decide +kernel
theorem dX9_plays_287 : decode cX9_plays 287 = .ok (.iload 4, 2) := by decide +kernel
theorem dX9_plays_289 : decode cX9_plays 289 = .ok (.iconst 1, 1) := by decide +kernel
theorem dX9_plays_290 : decode cX9_plays 290 = .ok (.iadd, 1) := by decide +kernel
theorem dX9_plays_291 : decode cX9_plays 291 = .ok (.iload 8, 2) := by decide +kernel
theorem dX9_plays_293 : decode cX9_plays 293 = .ok (.ifCond .ge 13, 3) := by decide +kernel
theorem dX9_plays_296 : decode cX9_plays 296 = .ok (.aload_n 0, 1) := by decide +kernel
theorem dX9_plays_297 : decode cX9_plays 297 = .ok (.getfield 56, 3) := by decide +kernel
theorem dX9_plays_300 : decode cX9_plays 300 = .ok (.iload 4, 2) := by decide +kernel
theorem dX9_plays_302 : decode cX9_plays 302 = .ok (.iaload, 1) := by decide +kernel
theorem dX9_plays_303 : decode cX9_plays 303 = .ok (.goto 17, 3) := by decide +kernel
theorem dX9_plays_306 : decode cX9_plays 306 = .ok (.aload_n 0, 1) := by decide +kernel
theorem dX9_plays_307 : decode cX9_plays 307 = .ok (.getfield 56, 3) := by decide +kernel
theorem dX9_plays_310 : decode cX9_plays 310 = .ok (.iload 4, 2) := by decide +kernel
theorem dX9_plays_312 : decode cX9_plays 312 = .ok (.iaload, 1) := by decide +kernel
theorem dX9_plays_313 : decode cX9_plays 313 = .ok (.iconst 1, 1) := by decide +kernel
theorem dX9_plays_314 : decode cX9_plays 314 = .ok (.iload 8, 2) := by decide +kernel
theorem dX9_plays_316 : decode cX9_plays 316 = .ok (.ishl, 1) := by decide +kernel
theorem dX9_plays_317 : decode cX9_plays 317 = .ok (.iconst (-1), 1) := by decide +kernel
theorem dX9_plays_318 : decode cX9_plays 318 = .ok (.ixor, 1) := by decide +kernel
theorem dX9_plays_319 : decode cX9_plays 319 = .ok (.iand, 1) := by decide +kernel
theorem dX9_plays_320 : decode cX9_plays 320 = .ok (.invokevirtual 264, 3) := by decide +kernel
theorem dX9_plays_323 : decode cX9_plays 323 = .ok (.iinc 4 1, 3) := by decide +kernel
theorem dX9_plays_326 : decode cX9_plays 326 = .ok (.iconst 1, 1) := by decide +kernel
theorem dX9_plays_327 : decode cX9_plays 327 = .ok (.istore 6, 2) := by decide +kernel
theorem dX9_plays_329 : decode cX9_plays 329 = .ok (.goto (-310), 3) := by decide +kernel
theorem dX9_plays_332 : decode cX9_plays 332 = .ok (.iload 5, 2) := by decide +kernel
theorem dX9_plays_334 : decode cX9_plays 334 = .ok (.ireturn, 1) := by decide +kernel
theorem dX9_turnsOf_0 : decode cX9_turnsOf 0 = .ok (.aload_n 0, 1) := by decide +kernel
theorem dX9_turnsOf_1 : decode cX9_turnsOf 1 = .ok (.iload_n 1, 1) := by decide +kernel
theorem dX9_turnsOf_2 : decode cX9_turnsOf 2 = .ok (.invokevirtual 212, 3) := by decide +kernel
theorem dX9_turnsOf_5 : decode cX9_turnsOf 5 = .ok (.ifCond .eq 16, 3) := by decide +kernel
theorem dX9_turnsOf_8 : decode cX9_turnsOf 8 = .ok (.aload_n 0, 1) := by decide +kernel
theorem dX9_turnsOf_9 : decode cX9_turnsOf 9 = .ok (.iload_n 2, 1) := by decide +kernel
theorem dX9_turnsOf_10 : decode cX9_turnsOf 10 = .ok (.invokevirtual 212, 3) := by decide +kernel
theorem dX9_turnsOf_13 : decode cX9_turnsOf 13 = .ok (.ifCond .eq 8, 3) := by decide +kernel
theorem dX9_turnsOf_16 : decode cX9_turnsOf 16 = .ok (.iload_n 1, 1) := by decide +kernel
theorem dX9_turnsOf_17 : decode cX9_turnsOf 17 = .ok (.iload_n 2, 1) := by decide +kernel
theorem dX9_turnsOf_18 : decode cX9_turnsOf 18 = .ok (.if_icmp .ne 6, 3) := by decide +kernel
theorem dX9_turnsOf_21 : decode cX9_turnsOf 21 = .ok (.ldc 205, 2) := by decide +kernel
theorem dX9_turnsOf_23 : decode cX9_turnsOf 23 = .ok (.ireturn, 1) := by decide +kernel
theorem dX9_turnsOf_24 : decode cX9_turnsOf 24 = .ok (.iload_n 3, 1) := by decide +kernel
theorem dX9_turnsOf_25 : decode cX9_turnsOf 25 = .ok (.i2l, 1) := by decide +kernel
theorem dX9_turnsOf_26 : decode cX9_turnsOf 26 = .ok (.lconst 0, 1) := by decide +kernel
theorem dX9_turnsOf_27 : decode cX9_turnsOf 27 = .ok (.ldc2_w 274, 3) := by decide +kernel
theorem dX9_turnsOf_30 : decode cX9_turnsOf 30 = .ok (.invokestatic 92, 3) := by decide +kernel
theorem dX9_turnsOf_33 : decode cX9_turnsOf 33 = .ok (.ifCond .eq 14, 3) := by decide +kernel
theorem dX9_turnsOf_36 : decode cX9_turnsOf 36 = .ok (.iload 4, 2) := by decide +kernel
theorem dX9_turnsOf_38 : decode cX9_turnsOf 38 = .ok (.i2l, 1) := by decide +kernel
theorem dX9_turnsOf_39 : decode cX9_turnsOf 39 = .ok (.lconst 0, 1) := by decide +kernel
theorem dX9_turnsOf_40 : decode cX9_turnsOf 40 = .ok (.lconst 1, 1) := by decide +kernel
theorem dX9_turnsOf_41 : decode cX9_turnsOf 41 = .ok (.invokestatic 92, 3) := by decide +kernel
theorem dX9_turnsOf_44 : decode cX9_turnsOf 44 = .ok (.ifCond .ne 6, 3) := by decide +kernel
theorem dX9_turnsOf_47 : decode cX9_turnsOf 47 = .ok (.ldc 96, 2) := by decide +kernel
theorem dX9_turnsOf_49 : decode cX9_turnsOf 49 = .ok (.ireturn, 1) := by decide +kernel
theorem dX9_turnsOf_50 : decode cX9_turnsOf 50 = .ok (.aload_n 0, 1) := by decide +kernel
theorem dX9_turnsOf_51 : decode cX9_turnsOf 51 = .ok (.iconst (-1), 1) := by decide +kernel
theorem dX9_turnsOf_52 : decode cX9_turnsOf 52 = .ok (.putfield 271, 3) := by decide +kernel
theorem dX9_turnsOf_55 : decode cX9_turnsOf 55 = .ok (.aload_n 0, 1) := by decide +kernel
theorem dX9_turnsOf_56 : decode cX9_turnsOf 56 = .ok (.iload_n 1, 1) := by decide +kernel
theorem dX9_turnsOf_57 : decode cX9_turnsOf 57 = .ok (.iload_n 2, 1) := by decide +kernel
theorem dX9_turnsOf_58 : decode cX9_turnsOf 58 = .ok (.iload_n 3, 1) := by decide +kernel
theorem dX9_turnsOf_59 : decode cX9_turnsOf 59 = .ok (.invokevirtual 276, 3) := by decide +kernel
theorem dX9_turnsOf_62 : decode cX9_turnsOf 62 = .ok (.istore 5, 2) := by decide +kernel
theorem dX9_turnsOf_64 : decode cX9_turnsOf 64 = .ok (.iload 4, 2) := by decide +kernel
theorem dX9_turnsOf_66 : decode cX9_turnsOf 66 = .ok (.ifCond .ne 8, 3) := by decide +kernel
theorem dX9_turnsOf_69 : decode cX9_turnsOf 69 = .ok (.iload 5, 2) := by decide +kernel
theorem dX9_turnsOf_71 : decode cX9_turnsOf 71 = .ok (.goto 7, 3) := by decide +kernel
theorem dX9_turnsOf_74 : decode cX9_turnsOf 74 = .ok (.aload_n 0, 1) := by decide +kernel
theorem dX9_turnsOf_75 : decode cX9_turnsOf 75 = .ok (.getfield 271, 3) := by decide +kernel
theorem dX9_turnsOf_78 : decode cX9_turnsOf 78 = .ok (.ireturn, 1) := by decide +kernel
theorem dX9_rows_0 : decode cX9_rows 0 = .ok (.iconst 0, 1) := by decide +kernel
theorem dX9_rows_1 : decode cX9_rows 1 = .ok (.istore_n 2, 1) := by decide +kernel
theorem dX9_rows_2 : decode cX9_rows 2 = .ok (.iconst 0, 1) := by decide +kernel
theorem dX9_rows_3 : decode cX9_rows 3 = .ok (.istore_n 3, 1) := by decide +kernel
theorem dX9_rows_4 : decode cX9_rows 4 = .ok (.aload_n 0, 1) := by decide +kernel
theorem dX9_rows_5 : decode cX9_rows 5 = .ok (.iconst 0, 1) := by decide +kernel
theorem dX9_rows_6 : decode cX9_rows 6 = .ok (.invokevirtual 198, 3) := by decide +kernel
theorem dX9_rows_9 : decode cX9_rows 9 = .ok (.istore 4, 2) := by decide +kernel
theorem dX9_rows_11 : decode cX9_rows 11 = .ok (.iconst 0, 1) := by decide +kernel
theorem dX9_rows_12 : decode cX9_rows 12 = .ok (.istore 5, 2) := by decide +kernel
theorem dX9_rows_14 : decode cX9_rows 14 = .ok (.iload 5, 2) := by decide +kernel
theorem dX9_rows_16 : decode cX9_rows 16 = .ok (.bipush 8, 2) := by decide +kernel
theorem dX9_rows_18 : decode cX9_rows 18 = .ok (.if_icmp .ge 53, 3) := by decide +kernel
theorem dX9_rows_21 : decode cX9_rows 21 = .ok (.aload_n 0, 1) := by decide +kernel
theorem dX9_rows_22 : decode cX9_rows 22 = .ok (.getfield 65, 3) := by decide +kernel
theorem dX9_rows_25 : decode cX9_rows 25 = .ok (.iload 5, 2) := by decide +kernel
theorem dX9_rows_27 : decode cX9_rows 27 = .ok (.iconst (-1), 1) := by decide +kernel
theorem dX9_rows_28 : decode cX9_rows 28 = .ok (.iastore, 1) := by decide +kernel
theorem dX9_rows_29 : decode cX9_rows 29 = .ok (.aload_n 0, 1) := by decide +kernel
theorem dX9_rows_30 : decode cX9_rows 30 = .ok (.getfield 71, 3) := by decide +kernel
theorem dX9_rows_33 : decode cX9_rows 33 = .ok (.iload 5, 2) := by decide +kernel
theorem dX9_rows_35 : decode cX9_rows 35 = .ok (.iconst 0, 1) := by decide +kernel
theorem dX9_rows_36 : decode cX9_rows 36 = .ok (.iastore, 1) := by decide +kernel
theorem dX9_rows_37 : decode cX9_rows 37 = .ok (.aload_n 0, 1) := by decide +kernel
theorem dX9_rows_38 : decode cX9_rows 38 = .ok (.getfield 74, 3) := by decide +kernel
theorem dX9_rows_41 : decode cX9_rows 41 = .ok (.iload 5, 2) := by decide +kernel
theorem dX9_rows_43 : decode cX9_rows 43 = .ok (.iload 5, 2) := by decide +kernel
theorem dX9_rows_45 : decode cX9_rows 45 = .ok (.aload_n 0, 1) := by decide +kernel
theorem dX9_rows_46 : decode cX9_rows 46 = .ok (.getfield 180, 3) := by decide +kernel
theorem dX9_rows_49 : decode cX9_rows 49 = .ok (.if_icmp .ge 14, 3) := by decide +kernel
theorem dX9_rows_52 : decode cX9_rows 52 = .ok (.aload_n 0, 1) := by decide +kernel
theorem dX9_rows_53 : decode cX9_rows 53 = .ok (.iload 5, 2) := by decide +kernel
theorem dX9_rows_55 : decode cX9_rows 55 = .ok (.iload 4, 2) := by decide +kernel
theorem dX9_rows_57 : decode cX9_rows 57 = .ok (.invokevirtual 218, 3) := by decide +kernel
theorem dX9_rows_60 : decode cX9_rows 60 = .ok (.goto 4, 3) := by decide +kernel
theorem dX9_rows_63 : decode cX9_rows 63 = .ok (.iconst 0, 1) := by decide +kernel
theorem dX9_rows_64 : decode cX9_rows 64 = .ok (.iastore, 1) := by decide +kernel
theorem dX9_rows_65 : decode cX9_rows 65 = .ok (.iinc 5 1, 3) := by decide +kernel
theorem dX9_rows_68 : decode cX9_rows 68 = .ok (.goto (-54), 3) := by decide +kernel
theorem dX9_rows_71 : decode cX9_rows 71 = .ok (.iconst 0, 1) := by decide +kernel
theorem dX9_rows_72 : decode cX9_rows 72 = .ok (.istore 5, 2) := by decide +kernel
theorem dX9_rows_74 : decode cX9_rows 74 = .ok (.iload 5, 2) := by decide +kernel
theorem dX9_rows_76 : decode cX9_rows 76 = .ok (.ifCond .lt 223, 3) := by decide +kernel
theorem dX9_rows_79 : decode cX9_rows 79 = .ok (.iload 5, 2) := by decide +kernel
theorem dX9_rows_81 : decode cX9_rows 81 = .ok (.aload_n 0, 1) := by decide +kernel
theorem dX9_rows_82 : decode cX9_rows 82 = .ok (.getfield 180, 3) := by decide +kernel
theorem dX9_rows_85 : decode cX9_rows 85 = .ok (.if_icmp .ne 135, 3) := by decide +kernel
theorem dX9_rows_88 : decode cX9_rows 88 = .ok (.iconst 0, 1) := by decide +kernel
theorem dX9_rows_89 : decode cX9_rows 89 = .ok (.istore 6, 2) := by decide +kernel
theorem dX9_rows_91 : decode cX9_rows 91 = .ok (.iconst 0, 1) := by decide +kernel
theorem dX9_rows_92 : decode cX9_rows 92 = .ok (.istore 7, 2) := by decide +kernel
theorem dX9_rows_94 : decode cX9_rows 94 = .ok (.iload 7, 2) := by decide +kernel
theorem dX9_rows_96 : decode cX9_rows 96 = .ok (.aload_n 0, 1) := by decide +kernel
theorem dX9_rows_97 : decode cX9_rows 97 = .ok (.getfield 180, 3) := by decide +kernel
theorem dX9_rows_100 : decode cX9_rows 100 = .ok (.if_icmp .ge 45, 3) := by decide +kernel
theorem dX9_rows_103 : decode cX9_rows 103 = .ok (.iload 6, 2) := by decide +kernel
theorem dX9_rows_105 : decode cX9_rows 105 = .ok (.aload_n 0, 1) := by decide +kernel
theorem dX9_rows_106 : decode cX9_rows 106 = .ok (.getfield 31, 3) := by decide +kernel
theorem dX9_rows_109 : decode cX9_rows 109 = .ok (.aload_n 0, 1) := by decide +kernel
theorem dX9_rows_110 : decode cX9_rows 110 = .ok (.getfield 65, 3) := by decide +kernel
theorem dX9_rows_113 : decode cX9_rows 113 = .ok (.iload 7, 2) := by decide +kernel
theorem dX9_rows_115 : decode cX9_rows 115 = .ok (.iaload, 1) := by decide +kernel
theorem dX9_rows_116 : decode cX9_rows 116 = .ok (.iaload, 1) := by decide +kernel
theorem dX9_rows_117 : decode cX9_rows 117 = .ok (.iadd, 1) := by decide +kernel
theorem dX9_rows_118 : decode cX9_rows 118 = .ok (.istore 6, 2) := by decide +kernel
theorem dX9_rows_120 : decode cX9_rows 120 = .ok (.aload_n 0, 1) := by decide +kernel
theorem dX9_rows_121 : decode cX9_rows 121 = .ok (.getfield 71, 3) := by decide +kernel
theorem dX9_rows_124 : decode cX9_rows 124 = .ok (.iload 7, 2) := by decide +kernel
theorem dX9_rows_126 : decode cX9_rows 126 = .ok (.dup2, 1) := by decide +kernel
theorem dX9_rows_127 : decode cX9_rows 127 = .ok (.iaload, 1) := by decide +kernel
theorem dX9_rows_128 : decode cX9_rows 128 = .ok (.iconst 1, 1) := by decide +kernel
theorem dX9_rows_129 : decode cX9_rows 129 = .ok (.aload_n 0, 1) := by decide +kernel
theorem dX9_rows_130 : decode cX9_rows 130 = .ok (.getfield 65, 3) := by decide +kernel
theorem dX9_rows_133 : decode cX9_rows 133 = .ok (.iload 7, 2) := by decide +kernel
theorem dX9_rows_135 : decode cX9_rows 135 = .ok (.iaload, 1) := by decide +kernel
theorem dX9_rows_136 : decode cX9_rows 136 = .ok (.ishl, 1) := by decide +kernel
theorem dX9_rows_137 : decode cX9_rows 137 = .ok (.ior, 1) := by decide +kernel
theorem dX9_rows_138 : decode cX9_rows 138 = .ok (.iastore, 1) := by decide +kernel
theorem dX9_rows_139 : decode cX9_rows 139 = .ok (.iinc 7 1, 3) := by decide +kernel
theorem dX9_rows_142 : decode cX9_rows 142 = .ok (.goto (-48), 3) := by decide +kernel
theorem dX9_rows_145 : decode cX9_rows 145 = .ok (.iload_n 2, 1) := by decide +kernel
theorem dX9_rows_146 : decode cX9_rows 146 = .ok (.ifCond .eq 9, 3) := by decide +kernel
theorem dX9_rows_149 : decode cX9_rows 149 = .ok (.iload 6, 2) := by decide +kernel
theorem dX9_rows_151 : decode cX9_rows 151 = .ok (.iload_n 3, 1) := by decide +kernel
theorem dX9_rows_152 : decode cX9_rows 152 = .ok (.if_icmp .ge 7, 3) := by decide +kernel
theorem dX9_rows_155 : decode cX9_rows 155 = .ok (.iconst 1, 1) := by decide +kernel
theorem dX9_rows_156 : decode cX9_rows 156 = .ok (.goto 4, 3) := by decide +kernel
theorem dX9_rows_159 : decode cX9_rows 159 = .ok (.iconst 0, 1) := by decide +kernel
theorem dX9_rows_160 : decode cX9_rows 160 = .ok (.istore 7, 2) := by decide +kernel
theorem dX9_rows_162 : decode cX9_rows 162 = .ok (.iload 7, 2) := by decide +kernel
theorem dX9_rows_164 : decode cX9_rows 164 = .ok (.ifCond .eq 8, 3) := by decide +kernel
theorem dX9_rows_167 : decode cX9_rows 167 = .ok (.iload 6, 2) := by decide +kernel
theorem dX9_rows_169 : decode cX9_rows 169 = .ok (.goto 4, 3) := by decide +kernel
theorem dX9_rows_172 : decode cX9_rows 172 = .ok (.iload_n 3, 1) := by decide +kernel
theorem dX9_rows_173 : decode cX9_rows 173 = .ok (.istore_n 3, 1) := by decide +kernel
theorem dX9_rows_174 : decode cX9_rows 174 = .ok (.iconst 0, 1) := by decide +kernel
theorem dX9_rows_175 : decode cX9_rows 175 = .ok (.istore 8, 2) := by decide +kernel
theorem dX9_rows_177 : decode cX9_rows 177 = .ok (.iload 8, 2) := by decide +kernel
theorem dX9_rows_179 : decode cX9_rows 179 = .ok (.aload_n 0, 1) := by decide +kernel
theorem dX9_rows_180 : decode cX9_rows 180 = .ok (.getfield 180, 3) := by decide +kernel
theorem dX9_rows_183 : decode cX9_rows 183 = .ok (.if_icmp .ge 28, 3) := by decide +kernel
theorem dX9_rows_186 : decode cX9_rows 186 = .ok (.iload 7, 2) := by decide +kernel
theorem dX9_rows_188 : decode cX9_rows 188 = .ok (.ifCond .eq 23, 3) := by decide +kernel
theorem dX9_rows_191 : decode cX9_rows 191 = .ok (.aload_n 0, 1) := by decide +kernel
theorem dX9_rows_192 : decode cX9_rows 192 = .ok (.getfield 68, 3) := by decide +kernel
theorem dX9_rows_195 : decode cX9_rows 195 = .ok (.iload 8, 2) := by decide +kernel
theorem dX9_rows_197 : decode cX9_rows 197 = .ok (.aload_n 0, 1) := by decide +kernel
theorem dX9_rows_198 : decode cX9_rows 198 = .ok (.getfield 65, 3) := by decide +kernel
theorem dX9_rows_201 : decode cX9_rows 201 = .ok (.iload 8, 2) := by decide +kernel
theorem dX9_rows_203 : decode cX9_rows 203 = .ok (.iaload, 1) := by decide +kernel
theorem dX9_rows_204 : decode cX9_rows 204 = .ok (.iastore, 1) := by decide +kernel
theorem dX9_rows_205 : decode cX9_rows 205 = .ok (.iinc 8 1, 3) := by decide +kernel
theorem dX9_rows_208 : decode cX9_rows 208 = .ok (.goto (-31), 3) := by decide +kernel
theorem dX9_rows_211 : decode cX9_rows 211 = .ok (.iinc 2 1, 3) := by decide +kernel
theorem dX9_rows_214 : decode cX9_rows 214 = .ok (.iinc 5 (-1), 3) := by decide +kernel
theorem dX9_rows_217 : decode cX9_rows 217 = .ok (.goto (-143), 3) := by decide +kernel
theorem dX9_rows_220 : decode cX9_rows 220 = .ok (.aload_n 0, 1) := by decide +kernel
theorem dX9_rows_221 : decode cX9_rows 221 = .ok (.getfield 65, 3) := by decide +kernel
theorem dX9_rows_224 : decode cX9_rows 224 = .ok (.iload 5, 2) := by decide +kernel
theorem dX9_rows_226 : decode cX9_rows 226 = .ok (.dup2, 1) := by decide +kernel
theorem dX9_rows_227 : decode cX9_rows 227 = .ok (.iaload, 1) := by decide +kernel
theorem dX9_rows_228 : decode cX9_rows 228 = .ok (.iconst 1, 1) := by decide +kernel
theorem dX9_rows_229 : decode cX9_rows 229 = .ok (.iadd, 1) := by decide +kernel
theorem dX9_rows_230 : decode cX9_rows 230 = .ok (.iastore, 1) := by decide +kernel
theorem dX9_rows_231 : decode cX9_rows 231 = .ok (.aload_n 0, 1) := by decide +kernel
theorem dX9_rows_232 : decode cX9_rows 232 = .ok (.getfield 65, 3) := by decide +kernel
theorem dX9_rows_235 : decode cX9_rows 235 = .ok (.iload 5, 2) := by decide +kernel
theorem dX9_rows_237 : decode cX9_rows 237 = .ok (.iaload, 1) := by decide +kernel
theorem dX9_rows_238 : decode cX9_rows 238 = .ok (.aload_n 0, 1) := by decide +kernel
theorem dX9_rows_239 : decode cX9_rows 239 = .ok (.getfield 183, 3) := by decide +kernel
theorem dX9_rows_242 : decode cX9_rows 242 = .ok (.if_icmp .ne 17, 3) := by decide +kernel
theorem dX9_rows_245 : decode cX9_rows 245 = .ok (.aload_n 0, 1) := by decide +kernel
theorem dX9_rows_246 : decode cX9_rows 246 = .ok (.getfield 65, 3) := by decide +kernel
theorem dX9_rows_249 : decode cX9_rows 249 = .ok (.iload 5, 2) := by decide +kernel
theorem dX9_rows_251 : decode cX9_rows 251 = .ok (.iconst (-1), 1) := by decide +kernel
theorem dX9_rows_252 : decode cX9_rows 252 = .ok (.iastore, 1) := by decide +kernel
theorem dX9_rows_253 : decode cX9_rows 253 = .ok (.iinc 5 (-1), 3) := by decide +kernel
theorem dX9_rows_256 : decode cX9_rows 256 = .ok (.goto (-182), 3) := by decide +kernel
theorem dX9_rows_259 : decode cX9_rows 259 = .ok (.iload_n 1, 1) := by decide +kernel
theorem dX9_rows_260 : decode cX9_rows 260 = .ok (.ifCond .ne 24, 3) := by decide +kernel
theorem dX9_rows_263 : decode cX9_rows 263 = .ok (.aload_n 0, 1) := by decide +kernel
theorem dX9_rows_264 : decode cX9_rows 264 = .ok (.getfield 37, 3) := by decide +kernel
theorem dX9_rows_267 : decode cX9_rows 267 = .ok (.iload 5, 2) := by decide +kernel
theorem dX9_rows_269 : decode cX9_rows 269 = .ok (.iaload, 1) := by decide +kernel
theorem dX9_rows_270 : decode cX9_rows 270 = .ok (.aload_n 0, 1) := by decide +kernel
theorem dX9_rows_271 : decode cX9_rows 271 = .ok (.getfield 65, 3) := by decide +kernel
theorem dX9_rows_274 : decode cX9_rows 274 = .ok (.iload 5, 2) := by decide +kernel
theorem dX9_rows_276 : decode cX9_rows 276 = .ok (.iaload, 1) := by decide +kernel
theorem dX9_rows_277 : decode cX9_rows 277 = .ok (.ishr, 1) := by decide +kernel
theorem dX9_rows_278 : decode cX9_rows 278 = .ok (.iconst 1, 1) := by decide +kernel
theorem dX9_rows_279 : decode cX9_rows 279 = .ok (.iand, 1) := by decide +kernel
theorem dX9_rows_280 : decode cX9_rows 280 = .ok (.iconst 1, 1) := by decide +kernel
theorem dX9_rows_281 : decode cX9_rows 281 = .ok (.if_icmp .ne (-207), 3) := by decide +kernel
theorem dX9_rows_284 : decode cX9_rows 284 = .ok (.aload_n 0, 1) := by decide +kernel
theorem dX9_rows_285 : decode cX9_rows 285 = .ok (.iload 5, 2) := by decide +kernel
theorem dX9_rows_287 : decode cX9_rows 287 = .ok (.invokevirtual 279, 3) := by decide +kernel
theorem dX9_rows_290 : decode cX9_rows 290 = .ok (.ifCond .eq (-216), 3) := by decide +kernel
theorem dX9_rows_293 : decode cX9_rows 293 = .ok (.iinc 5 1, 3) := by decide +kernel
theorem dX9_rows_296 : decode cX9_rows 296 = .ok (.goto (-222), 3) := by decide +kernel
theorem dX9_rows_299 : decode cX9_rows 299 = .ok (.aload_n 0, 1) := by decide +kernel
theorem dX9_rows_300 : decode cX9_rows 300 = .ok (.iload_n 3, 1) := by decide +kernel
theorem dX9_rows_301 : decode cX9_rows 301 = .ok (.putfield 282, 3) := by decide +kernel
theorem dX9_rows_304 : decode cX9_rows 304 = .ok (.iload_n 2, 1) := by decide +kernel
theorem dX9_rows_305 : decode cX9_rows 305 = .ok (.ireturn, 1) := by decide +kernel
theorem dX9_isApart_0 : decode cX9_isApart 0 = .ok (.iconst 1, 1) := by decide +kernel
theorem dX9_isApart_1 : decode cX9_isApart 1 = .ok (.istore_n 2, 1) := by decide +kernel
theorem dX9_isApart_2 : decode cX9_isApart 2 = .ok (.iconst 0, 1) := by decide +kernel
theorem dX9_isApart_3 : decode cX9_isApart 3 = .ok (.istore_n 3, 1) := by decide +kernel
theorem dX9_isApart_4 : decode cX9_isApart 4 = .ok (.iload_n 3, 1) := by decide +kernel
theorem dX9_isApart_5 : decode cX9_isApart 5 = .ok (.iload_n 1, 1) := by decide +kernel
theorem dX9_isApart_6 : decode cX9_isApart 6 = .ok (.if_icmp .ge 47, 3) := by decide +kernel
theorem dX9_isApart_9 : decode cX9_isApart 9 = .ok (.iload_n 2, 1) := by decide +kernel
theorem dX9_isApart_10 : decode cX9_isApart 10 = .ok (.ifCond .eq 35, 3) := by decide +kernel
theorem dX9_isApart_13 : decode cX9_isApart 13 = .ok (.aload_n 0, 1) := by decide +kernel
theorem dX9_isApart_14 : decode cX9_isApart 14 = .ok (.getfield 74, 3) := by decide +kernel
theorem dX9_isApart_17 : decode cX9_isApart 17 = .ok (.iload_n 1, 1) := by decide +kernel
theorem dX9_isApart_18 : decode cX9_isApart 18 = .ok (.iaload, 1) := by decide +kernel
theorem dX9_isApart_19 : decode cX9_isApart 19 = .ok (.iload_n 3, 1) := by decide +kernel
theorem dX9_isApart_20 : decode cX9_isApart 20 = .ok (.ishr, 1) := by decide +kernel
theorem dX9_isApart_21 : decode cX9_isApart 21 = .ok (.iconst 1, 1) := by decide +kernel
theorem dX9_isApart_22 : decode cX9_isApart 22 = .ok (.iand, 1) := by decide +kernel
theorem dX9_isApart_23 : decode cX9_isApart 23 = .ok (.ifCond .eq 18, 3) := by decide +kernel
theorem dX9_isApart_26 : decode cX9_isApart 26 = .ok (.aload_n 0, 1) := by decide +kernel
theorem dX9_isApart_27 : decode cX9_isApart 27 = .ok (.getfield 65, 3) := by decide +kernel
theorem dX9_isApart_30 : decode cX9_isApart 30 = .ok (.iload_n 3, 1) := by decide +kernel
theorem dX9_isApart_31 : decode cX9_isApart 31 = .ok (.iaload, 1) := by decide +kernel
theorem dX9_isApart_32 : decode cX9_isApart 32 = .ok (.aload_n 0, 1) := by decide +kernel
theorem dX9_isApart_33 : decode cX9_isApart 33 = .ok (.getfield 65, 3) := by decide +kernel
theorem dX9_isApart_36 : decode cX9_isApart 36 = .ok (.iload_n 1, 1) := by decide +kernel
theorem dX9_isApart_37 : decode cX9_isApart 37 = .ok (.iaload, 1) := by decide +kernel
theorem dX9_isApart_38 : decode cX9_isApart 38 = .ok (.if_icmp .eq 7, 3) := by decide +kernel
theorem dX9_isApart_41 : decode cX9_isApart 41 = .ok (.iconst 1, 1) := by decide +kernel
theorem dX9_isApart_42 : decode cX9_isApart 42 = .ok (.goto 4, 3) := by decide +kernel
theorem dX9_isApart_45 : decode cX9_isApart 45 = .ok (.iconst 0, 1) := by decide +kernel
theorem dX9_isApart_46 : decode cX9_isApart 46 = .ok (.istore_n 2, 1) := by decide +kernel
theorem dX9_isApart_47 : decode cX9_isApart 47 = .ok (.iinc 3 1, 3) := by decide +kernel
theorem dX9_isApart_50 : decode cX9_isApart 50 = .ok (.goto (-46), 3) := by decide +kernel
theorem dX9_isApart_53 : decode cX9_isApart 53 = .ok (.iload_n 2, 1) := by decide +kernel
theorem dX9_isApart_54 : decode cX9_isApart 54 = .ok (.ireturn, 1) := by decide +kernel
theorem dX9_colours_0 : decode cX9_colours 0 = .ok (.iload_n 1, 1) := by decide +kernel
theorem dX9_colours_1 : decode cX9_colours 1 = .ok (.iconst (-1), 1) := by decide +kernel
theorem dX9_colours_2 : decode cX9_colours 2 = .ok (.if_icmp .eq 14, 3) := by decide +kernel
theorem dX9_colours_5 : decode cX9_colours 5 = .ok (.aload_n 0, 1) := by decide +kernel
theorem dX9_colours_6 : decode cX9_colours 6 = .ok (.iload_n 1, 1) := by decide +kernel
theorem dX9_colours_7 : decode cX9_colours 7 = .ok (.invokevirtual 212, 3) := by decide +kernel
theorem dX9_colours_10 : decode cX9_colours 10 = .ok (.ifCond .ne 6, 3) := by decide +kernel
theorem dX9_colours_13 : decode cX9_colours 13 = .ok (.ldc 205, 2) := by decide +kernel
theorem dX9_colours_15 : decode cX9_colours 15 = .ok (.ireturn, 1) := by decide +kernel
theorem dX9_colours_16 : decode cX9_colours 16 = .ok (.aload_n 0, 1) := by decide +kernel
theorem dX9_colours_17 : decode cX9_colours 17 = .ok (.iconst 1, 1) := by decide +kernel
theorem dX9_colours_18 : decode cX9_colours 18 = .ok (.invokevirtual 285, 3) := by decide +kernel
theorem dX9_colours_21 : decode cX9_colours 21 = .ok (.ifCond .ne 5, 3) := by decide +kernel
theorem dX9_colours_24 : decode cX9_colours 24 = .ok (.iconst (-1), 1) := by decide +kernel
theorem dX9_colours_25 : decode cX9_colours 25 = .ok (.ireturn, 1) := by decide +kernel
theorem dX9_colours_26 : decode cX9_colours 26 = .ok (.iload_n 1, 1) := by decide +kernel
theorem dX9_colours_27 : decode cX9_colours 27 = .ok (.iconst (-1), 1) := by decide +kernel
theorem dX9_colours_28 : decode cX9_colours 28 = .ok (.if_icmp .ne 10, 3) := by decide +kernel
theorem dX9_colours_31 : decode cX9_colours 31 = .ok (.aload_n 0, 1) := by decide +kernel
theorem dX9_colours_32 : decode cX9_colours 32 = .ok (.getfield 282, 3) := by decide +kernel
theorem dX9_colours_35 : decode cX9_colours 35 = .ok (.goto 9, 3) := by decide +kernel
theorem dX9_colours_38 : decode cX9_colours 38 = .ok (.aload_n 0, 1) := by decide +kernel
theorem dX9_colours_39 : decode cX9_colours 39 = .ok (.getfield 68, 3) := by decide +kernel
theorem dX9_colours_42 : decode cX9_colours 42 = .ok (.iload_n 1, 1) := by decide +kernel
theorem dX9_colours_43 : decode cX9_colours 43 = .ok (.iaload, 1) := by decide +kernel
theorem dX9_colours_44 : decode cX9_colours 44 = .ok (.ireturn, 1) := by decide +kernel
theorem dX9_left_0 : decode cX9_left 0 = .ok (.aload_n 0, 1) := by decide +kernel
theorem dX9_left_1 : decode cX9_left 1 = .ok (.iload_n 1, 1) := by decide +kernel
theorem dX9_left_2 : decode cX9_left 2 = .ok (.invokevirtual 212, 3) := by decide +kernel
theorem dX9_left_5 : decode cX9_left 5 = .ok (.ifCond .eq 21, 3) := by decide +kernel
theorem dX9_left_8 : decode cX9_left 8 = .ok (.iload_n 2, 1) := by decide +kernel
theorem dX9_left_9 : decode cX9_left 9 = .ok (.i2l, 1) := by decide +kernel
theorem dX9_left_10 : decode cX9_left 10 = .ok (.lconst 0, 1) := by decide +kernel
theorem dX9_left_11 : decode cX9_left 11 = .ok (.iconst 1, 1) := by decide +kernel
theorem dX9_left_12 : decode cX9_left 12 = .ok (.aload_n 0, 1) := by decide +kernel
theorem dX9_left_13 : decode cX9_left 13 = .ok (.getfield 183, 3) := by decide +kernel
theorem dX9_left_16 : decode cX9_left 16 = .ok (.ishl, 1) := by decide +kernel
theorem dX9_left_17 : decode cX9_left 17 = .ok (.iconst 1, 1) := by decide +kernel
theorem dX9_left_18 : decode cX9_left 18 = .ok (.isub, 1) := by decide +kernel
theorem dX9_left_19 : decode cX9_left 19 = .ok (.i2l, 1) := by decide +kernel
theorem dX9_left_20 : decode cX9_left 20 = .ok (.invokestatic 92, 3) := by decide +kernel
theorem dX9_left_23 : decode cX9_left 23 = .ok (.ifCond .ne 6, 3) := by decide +kernel
theorem dX9_left_26 : decode cX9_left 26 = .ok (.ldc 205, 2) := by decide +kernel
theorem dX9_left_28 : decode cX9_left 28 = .ok (.ireturn, 1) := by decide +kernel
theorem dX9_left_29 : decode cX9_left 29 = .ok (.aload_n 0, 1) := by decide +kernel
theorem dX9_left_30 : decode cX9_left 30 = .ok (.getfield 37, 3) := by decide +kernel
theorem dX9_left_33 : decode cX9_left 33 = .ok (.iload_n 1, 1) := by decide +kernel
theorem dX9_left_34 : decode cX9_left 34 = .ok (.iaload, 1) := by decide +kernel
theorem dX9_left_35 : decode cX9_left 35 = .ok (.istore_n 3, 1) := by decide +kernel
theorem dX9_left_36 : decode cX9_left 36 = .ok (.aload_n 0, 1) := by decide +kernel
theorem dX9_left_37 : decode cX9_left 37 = .ok (.getfield 37, 3) := by decide +kernel
theorem dX9_left_40 : decode cX9_left 40 = .ok (.iload_n 1, 1) := by decide +kernel
theorem dX9_left_41 : decode cX9_left 41 = .ok (.iload_n 2, 1) := by decide +kernel
theorem dX9_left_42 : decode cX9_left 42 = .ok (.iastore, 1) := by decide +kernel
theorem dX9_left_43 : decode cX9_left 43 = .ok (.iload_n 3, 1) := by decide +kernel
theorem dX9_left_44 : decode cX9_left 44 = .ok (.ireturn, 1) := by decide +kernel
theorem dX9_fits_0 : decode cX9_fits 0 = .ok (.aload_n 0, 1) := by decide +kernel
theorem dX9_fits_1 : decode cX9_fits 1 = .ok (.iconst 0, 1) := by decide +kernel
theorem dX9_fits_2 : decode cX9_fits 2 = .ok (.invokevirtual 285, 3) := by decide +kernel
theorem dX9_fits_5 : decode cX9_fits 5 = .ok (.ireturn, 1) := by decide +kernel
theorem dX9_sure_0 : decode cX9_sure 0 = .ok (.aload_n 0, 1) := by decide +kernel
theorem dX9_sure_1 : decode cX9_sure 1 = .ok (.iload_n 1, 1) := by decide +kernel
theorem dX9_sure_2 : decode cX9_sure 2 = .ok (.invokevirtual 212, 3) := by decide +kernel
theorem dX9_sure_5 : decode cX9_sure 5 = .ok (.ifCond .ne 6, 3) := by decide +kernel
theorem dX9_sure_8 : decode cX9_sure 8 = .ok (.ldc 205, 2) := by decide +kernel
theorem dX9_sure_10 : decode cX9_sure 10 = .ok (.ireturn, 1) := by decide +kernel
theorem dX9_sure_11 : decode cX9_sure 11 = .ok (.aload_n 0, 1) := by decide +kernel
theorem dX9_sure_12 : decode cX9_sure 12 = .ok (.iconst 0, 1) := by decide +kernel
theorem dX9_sure_13 : decode cX9_sure 13 = .ok (.invokevirtual 285, 3) := by decide +kernel
theorem dX9_sure_16 : decode cX9_sure 16 = .ok (.ifCond .le 20, 3) := by decide +kernel
theorem dX9_sure_19 : decode cX9_sure 19 = .ok (.aload_n 0, 1) := by decide +kernel
theorem dX9_sure_20 : decode cX9_sure 20 = .ok (.getfield 71, 3) := by decide +kernel
theorem dX9_sure_23 : decode cX9_sure 23 = .ok (.iload_n 1, 1) := by decide +kernel
theorem dX9_sure_24 : decode cX9_sure 24 = .ok (.iaload, 1) := by decide +kernel
theorem dX9_sure_25 : decode cX9_sure 25 = .ok (.invokestatic 231, 3) := by decide +kernel
theorem dX9_sure_28 : decode cX9_sure 28 = .ok (.iconst 1, 1) := by decide +kernel
theorem dX9_sure_29 : decode cX9_sure 29 = .ok (.if_icmp .ne 7, 3) := by decide +kernel
theorem dX9_sure_32 : decode cX9_sure 32 = .ok (.iconst 1, 1) := by decide +kernel
theorem dX9_sure_33 : decode cX9_sure 33 = .ok (.goto 4, 3) := by decide +kernel
theorem dX9_sure_36 : decode cX9_sure 36 = .ok (.iconst 0, 1) := by decide +kernel
theorem dX9_sure_37 : decode cX9_sure 37 = .ok (.istore_n 2, 1) := by decide +kernel
theorem dX9_sure_38 : decode cX9_sure 38 = .ok (.iload_n 2, 1) := by decide +kernel
theorem dX9_sure_39 : decode cX9_sure 39 = .ok (.ifCond .eq 12, 3) := by decide +kernel
theorem dX9_sure_42 : decode cX9_sure 42 = .ok (.aload_n 0, 1) := by decide +kernel
theorem dX9_sure_43 : decode cX9_sure 43 = .ok (.getfield 68, 3) := by decide +kernel
theorem dX9_sure_46 : decode cX9_sure 46 = .ok (.iload_n 1, 1) := by decide +kernel
theorem dX9_sure_47 : decode cX9_sure 47 = .ok (.iaload, 1) := by decide +kernel
theorem dX9_sure_48 : decode cX9_sure 48 = .ok (.goto 4, 3) := by decide +kernel
theorem dX9_sure_51 : decode cX9_sure 51 = .ok (.iconst (-1), 1) := by decide +kernel
theorem dX9_sure_52 : decode cX9_sure 52 = .ok (.ireturn, 1) := by decide +kernel
theorem dX9_write_0 : decode cX9_write 0 = .ok (.aload_n 0, 1) := by decide +kernel
theorem dX9_write_1 : decode cX9_write 1 = .ok (.iload_n 1, 1) := by decide +kernel
theorem dX9_write_2 : decode cX9_write 2 = .ok (.invokevirtual 212, 3) := by decide +kernel
theorem dX9_write_5 : decode cX9_write 5 = .ok (.ifCond .eq 11, 3) := by decide +kernel
theorem dX9_write_8 : decode cX9_write 8 = .ok (.aload_n 0, 1) := by decide +kernel
theorem dX9_write_9 : decode cX9_write 9 = .ok (.iload_n 2, 1) := by decide +kernel
theorem dX9_write_10 : decode cX9_write 10 = .ok (.invokevirtual 202, 3) := by decide +kernel
theorem dX9_write_13 : decode cX9_write 13 = .ok (.ifCond .ne 6, 3) := by decide +kernel
theorem dX9_write_16 : decode cX9_write 16 = .ok (.ldc 205, 2) := by decide +kernel
theorem dX9_write_18 : decode cX9_write 18 = .ok (.ireturn, 1) := by decide +kernel
theorem dX9_write_19 : decode cX9_write 19 = .ok (.aload_n 0, 1) := by decide +kernel
theorem dX9_write_20 : decode cX9_write 20 = .ok (.getfield 195, 3) := by decide +kernel
theorem dX9_write_23 : decode cX9_write 23 = .ok (.bipush 30, 2) := by decide +kernel
theorem dX9_write_25 : decode cX9_write 25 = .ok (.if_icmp .ne 6, 3) := by decide +kernel
theorem dX9_write_28 : decode cX9_write 28 = .ok (.ldc 100, 2) := by decide +kernel
theorem dX9_write_30 : decode cX9_write 30 = .ok (.ireturn, 1) := by decide +kernel
theorem dX9_write_31 : decode cX9_write 31 = .ok (.aload_n 0, 1) := by decide +kernel
theorem dX9_write_32 : decode cX9_write 32 = .ok (.getfield 77, 3) := by decide +kernel
theorem dX9_write_35 : decode cX9_write 35 = .ok (.aload_n 0, 1) := by decide +kernel
theorem dX9_write_36 : decode cX9_write 36 = .ok (.getfield 195, 3) := by decide +kernel
theorem dX9_write_39 : decode cX9_write 39 = .ok (.iload_n 1, 1) := by decide +kernel
theorem dX9_write_40 : decode cX9_write 40 = .ok (.iastore, 1) := by decide +kernel
theorem dX9_write_41 : decode cX9_write 41 = .ok (.aload_n 0, 1) := by decide +kernel
theorem dX9_write_42 : decode cX9_write 42 = .ok (.getfield 80, 3) := by decide +kernel
theorem dX9_write_45 : decode cX9_write 45 = .ok (.aload_n 0, 1) := by decide +kernel
theorem dX9_write_46 : decode cX9_write 46 = .ok (.getfield 195, 3) := by decide +kernel
theorem dX9_write_49 : decode cX9_write 49 = .ok (.iload_n 2, 1) := by decide +kernel
theorem dX9_write_50 : decode cX9_write 50 = .ok (.iastore, 1) := by decide +kernel
theorem dX9_write_51 : decode cX9_write 51 = .ok (.aload_n 0, 1) := by decide +kernel
theorem dX9_write_52 : decode cX9_write 52 = .ok (.dup, 1) := by decide +kernel
theorem dX9_write_53 : decode cX9_write 53 = .ok (.getfield 195, 3) := by decide +kernel
theorem dX9_write_56 : decode cX9_write 56 = .ok (.iconst 1, 1) := by decide +kernel
theorem dX9_write_57 : decode cX9_write 57 = .ok (.iadd, 1) := by decide +kernel
theorem dX9_write_58 : decode cX9_write 58 = .ok (.putfield 195, 3) := by decide +kernel
theorem dX9_write_61 : decode cX9_write 61 = .ok (.aload_n 0, 1) := by decide +kernel
theorem dX9_write_62 : decode cX9_write 62 = .ok (.getfield 195, 3) := by decide +kernel
theorem dX9_write_65 : decode cX9_write 65 = .ok (.ireturn, 1) := by decide +kernel
theorem dX9_tear_0 : decode cX9_tear 0 = .ok (.aload_n 0, 1) := by decide +kernel
theorem dX9_tear_1 : decode cX9_tear 1 = .ok (.getfield 195, 3) := by decide +kernel
theorem dX9_tear_4 : decode cX9_tear 4 = .ok (.istore_n 1, 1) := by decide +kernel
theorem dX9_tear_5 : decode cX9_tear 5 = .ok (.aload_n 0, 1) := by decide +kernel
theorem dX9_tear_6 : decode cX9_tear 6 = .ok (.iconst 0, 1) := by decide +kernel
theorem dX9_tear_7 : decode cX9_tear 7 = .ok (.putfield 195, 3) := by decide +kernel
theorem dX9_tear_10 : decode cX9_tear 10 = .ok (.iload_n 1, 1) := by decide +kernel
theorem dX9_tear_11 : decode cX9_tear 11 = .ok (.ireturn, 1) := by decide +kernel
theorem dX9_judge_0 : decode cX9_judge 0 = .ok (.aload_n 0, 1) := by decide +kernel
theorem dX9_judge_1 : decode cX9_judge 1 = .ok (.iconst 0, 1) := by decide +kernel
theorem dX9_judge_2 : decode cX9_judge 2 = .ok (.invokevirtual 198, 3) := by decide +kernel
theorem dX9_judge_5 : decode cX9_judge 5 = .ok (.istore_n 1, 1) := by decide +kernel
theorem dX9_judge_6 : decode cX9_judge 6 = .ok (.iconst 0, 1) := by decide +kernel
theorem dX9_judge_7 : decode cX9_judge 7 = .ok (.istore_n 2, 1) := by decide +kernel
theorem dX9_judge_8 : decode cX9_judge 8 = .ok (.iload_n 2, 1) := by decide +kernel
theorem dX9_judge_9 : decode cX9_judge 9 = .ok (.aload_n 0, 1) := by decide +kernel
theorem dX9_judge_10 : decode cX9_judge 10 = .ok (.getfield 195, 3) := by decide +kernel
theorem dX9_judge_13 : decode cX9_judge 13 = .ok (.if_icmp .ge 48, 3) := by decide +kernel
theorem dX9_judge_16 : decode cX9_judge 16 = .ok (.aload_n 0, 1) := by decide +kernel
theorem dX9_judge_17 : decode cX9_judge 17 = .ok (.aload_n 0, 1) := by decide +kernel
theorem dX9_judge_18 : decode cX9_judge 18 = .ok (.getfield 77, 3) := by decide +kernel
theorem dX9_judge_21 : decode cX9_judge 21 = .ok (.iload_n 2, 1) := by decide +kernel
theorem dX9_judge_22 : decode cX9_judge 22 = .ok (.iaload, 1) := by decide +kernel
theorem dX9_judge_23 : decode cX9_judge 23 = .ok (.aload_n 0, 1) := by decide +kernel
theorem dX9_judge_24 : decode cX9_judge 24 = .ok (.getfield 80, 3) := by decide +kernel
theorem dX9_judge_27 : decode cX9_judge 27 = .ok (.iload_n 2, 1) := by decide +kernel
theorem dX9_judge_28 : decode cX9_judge 28 = .ok (.iaload, 1) := by decide +kernel
theorem dX9_judge_29 : decode cX9_judge 29 = .ok (.iload_n 1, 1) := by decide +kernel
theorem dX9_judge_30 : decode cX9_judge 30 = .ok (.aload_n 0, 1) := by decide +kernel
theorem dX9_judge_31 : decode cX9_judge 31 = .ok (.getfield 192, 3) := by decide +kernel
theorem dX9_judge_34 : decode cX9_judge 34 = .ok (.invokevirtual 226, 3) := by decide +kernel
theorem dX9_judge_37 : decode cX9_judge 37 = .ok (.ifCond .ne 5, 3) := by decide +kernel
theorem dX9_judge_40 : decode cX9_judge 40 = .ok (.iload_n 2, 1) := by decide +kernel
theorem dX9_judge_41 : decode cX9_judge 41 = .ok (.ireturn, 1) := by decide +kernel
theorem dX9_judge_42 : decode cX9_judge 42 = .ok (.iload_n 1, 1) := by decide +kernel
theorem dX9_judge_43 : decode cX9_judge 43 = .ok (.iconst 1, 1) := by decide +kernel
theorem dX9_judge_44 : decode cX9_judge 44 = .ok (.aload_n 0, 1) := by decide +kernel
theorem dX9_judge_45 : decode cX9_judge 45 = .ok (.getfield 80, 3) := by decide +kernel
theorem dX9_judge_48 : decode cX9_judge 48 = .ok (.iload_n 2, 1) := by decide +kernel
theorem dX9_judge_49 : decode cX9_judge 49 = .ok (.iaload, 1) := by decide +kernel
theorem dX9_judge_50 : decode cX9_judge 50 = .ok (.ishl, 1) := by decide +kernel
theorem dX9_judge_51 : decode cX9_judge 51 = .ok (.iconst (-1), 1) := by decide +kernel
theorem dX9_judge_52 : decode cX9_judge 52 = .ok (.ixor, 1) := by decide +kernel
theorem dX9_judge_53 : decode cX9_judge 53 = .ok (.iand, 1) := by decide +kernel
theorem dX9_judge_54 : decode cX9_judge 54 = .ok (.istore_n 1, 1) := by decide +kernel
theorem dX9_judge_55 : decode cX9_judge 55 = .ok (.iinc 2 1, 3) := by decide +kernel
theorem dX9_judge_58 : decode cX9_judge 58 = .ok (.goto (-50), 3) := by decide +kernel
theorem dX9_judge_61 : decode cX9_judge 61 = .ok (.iconst (-1), 1) := by decide +kernel
theorem dX9_judge_62 : decode cX9_judge 62 = .ok (.ireturn, 1) := by decide +kernel
theorem dX9_keep_0 : decode cX9_keep 0 = .ok (.iload_n 1, 1) := by decide +kernel
theorem dX9_keep_1 : decode cX9_keep 1 = .ok (.i2l, 1) := by decide +kernel
theorem dX9_keep_2 : decode cX9_keep 2 = .ok (.lconst 0, 1) := by decide +kernel
theorem dX9_keep_3 : decode cX9_keep 3 = .ok (.lconst 1, 1) := by decide +kernel
theorem dX9_keep_4 : decode cX9_keep 4 = .ok (.invokestatic 92, 3) := by decide +kernel
theorem dX9_keep_7 : decode cX9_keep 7 = .ok (.ifCond .ne 6, 3) := by decide +kernel
theorem dX9_keep_10 : decode cX9_keep 10 = .ok (.ldc 205, 2) := by decide +kernel
theorem dX9_keep_12 : decode cX9_keep 12 = .ok (.ireturn, 1) := by decide +kernel
theorem dX9_keep_13 : decode cX9_keep 13 = .ok (.bipush 23, 2) := by decide +kernel
theorem dX9_keep_15 : decode cX9_keep 15 = .ok (.iload_n 1, 1) := by decide +kernel
theorem dX9_keep_16 : decode cX9_keep 16 = .ok (.imul, 1) := by decide +kernel
theorem dX9_keep_17 : decode cX9_keep 17 = .ok (.istore_n 2, 1) := by decide +kernel
theorem dX9_keep_18 : decode cX9_keep 18 = .ok (.aload_n 0, 1) := by decide +kernel
theorem dX9_keep_19 : decode cX9_keep 19 = .ok (.getfield 83, 3) := by decide +kernel
theorem dX9_keep_22 : decode cX9_keep 22 = .ok (.iload_n 2, 1) := by decide +kernel
theorem dX9_keep_23 : decode cX9_keep 23 = .ok (.iconst 1, 1) := by decide +kernel
theorem dX9_keep_24 : decode cX9_keep 24 = .ok (.iastore, 1) := by decide +kernel
theorem dX9_keep_25 : decode cX9_keep 25 = .ok (.aload_n 0, 1) := by decide +kernel
theorem dX9_keep_26 : decode cX9_keep 26 = .ok (.getfield 83, 3) := by decide +kernel
theorem dX9_keep_29 : decode cX9_keep 29 = .ok (.iload_n 2, 1) := by decide +kernel
theorem dX9_keep_30 : decode cX9_keep 30 = .ok (.iconst 1, 1) := by decide +kernel
theorem dX9_keep_31 : decode cX9_keep 31 = .ok (.iadd, 1) := by decide +kernel
theorem dX9_keep_32 : decode cX9_keep 32 = .ok (.aload_n 0, 1) := by decide +kernel
theorem dX9_keep_33 : decode cX9_keep 33 = .ok (.getfield 192, 3) := by decide +kernel
theorem dX9_keep_36 : decode cX9_keep 36 = .ok (.iastore, 1) := by decide +kernel
theorem dX9_keep_37 : decode cX9_keep 37 = .ok (.aload_n 0, 1) := by decide +kernel
theorem dX9_keep_38 : decode cX9_keep 38 = .ok (.getfield 83, 3) := by decide +kernel
theorem dX9_keep_41 : decode cX9_keep 41 = .ok (.iload_n 2, 1) := by decide +kernel
theorem dX9_keep_42 : decode cX9_keep 42 = .ok (.iconst 2, 1) := by decide +kernel
theorem dX9_keep_43 : decode cX9_keep 43 = .ok (.iadd, 1) := by decide +kernel
theorem dX9_keep_44 : decode cX9_keep 44 = .ok (.aload_n 0, 1) := by decide +kernel
theorem dX9_keep_45 : decode cX9_keep 45 = .ok (.getfield 237, 3) := by decide +kernel
theorem dX9_keep_48 : decode cX9_keep 48 = .ok (.iastore, 1) := by decide +kernel
theorem dX9_keep_49 : decode cX9_keep 49 = .ok (.iconst 0, 1) := by decide +kernel
theorem dX9_keep_50 : decode cX9_keep 50 = .ok (.istore_n 3, 1) := by decide +kernel
theorem dX9_keep_51 : decode cX9_keep 51 = .ok (.iload_n 3, 1) := by decide +kernel
theorem dX9_keep_52 : decode cX9_keep 52 = .ok (.bipush 12, 2) := by decide +kernel
theorem dX9_keep_54 : decode cX9_keep 54 = .ok (.if_icmp .ge 25, 3) := by decide +kernel
theorem dX9_keep_57 : decode cX9_keep 57 = .ok (.aload_n 0, 1) := by decide +kernel
theorem dX9_keep_58 : decode cX9_keep 58 = .ok (.getfield 83, 3) := by decide +kernel
theorem dX9_keep_61 : decode cX9_keep 61 = .ok (.iload_n 2, 1) := by decide +kernel
theorem dX9_keep_62 : decode cX9_keep 62 = .ok (.iconst 3, 1) := by decide +kernel
theorem dX9_keep_63 : decode cX9_keep 63 = .ok (.iadd, 1) := by decide +kernel
theorem dX9_keep_64 : decode cX9_keep 64 = .ok (.iload_n 3, 1) := by decide +kernel
theorem dX9_keep_65 : decode cX9_keep 65 = .ok (.iadd, 1) := by decide +kernel
theorem dX9_keep_66 : decode cX9_keep 66 = .ok (.aload_n 0, 1) := by decide +kernel
theorem dX9_keep_67 : decode cX9_keep 67 = .ok (.getfield 46, 3) := by decide +kernel
theorem dX9_keep_70 : decode cX9_keep 70 = .ok (.iload_n 3, 1) := by decide +kernel
theorem dX9_keep_71 : decode cX9_keep 71 = .ok (.iaload, 1) := by decide +kernel
theorem dX9_keep_72 : decode cX9_keep 72 = .ok (.iastore, 1) := by decide +kernel
theorem dX9_keep_73 : decode cX9_keep 73 = .ok (.iinc 3 1, 3) := by decide +kernel
theorem dX9_keep_76 : decode cX9_keep 76 = .ok (.goto (-25), 3) := by decide +kernel
theorem dX9_keep_79 : decode cX9_keep 79 = .ok (.iconst 0, 1) := by decide +kernel
theorem dX9_keep_80 : decode cX9_keep 80 = .ok (.istore_n 3, 1) := by decide +kernel
theorem dX9_keep_81 : decode cX9_keep 81 = .ok (.iload_n 3, 1) := by decide +kernel
theorem dX9_keep_82 : decode cX9_keep 82 = .ok (.bipush 8, 2) := by decide +kernel
theorem dX9_keep_84 : decode cX9_keep 84 = .ok (.if_icmp .ge 26, 3) := by decide +kernel
theorem dX9_keep_87 : decode cX9_keep 87 = .ok (.aload_n 0, 1) := by decide +kernel
theorem dX9_keep_88 : decode cX9_keep 88 = .ok (.getfield 83, 3) := by decide +kernel
theorem dX9_keep_91 : decode cX9_keep 91 = .ok (.iload_n 2, 1) := by decide +kernel
theorem dX9_keep_92 : decode cX9_keep 92 = .ok (.bipush 15, 2) := by decide +kernel
theorem dX9_keep_94 : decode cX9_keep 94 = .ok (.iadd, 1) := by decide +kernel
theorem dX9_keep_95 : decode cX9_keep 95 = .ok (.iload_n 3, 1) := by decide +kernel
theorem dX9_keep_96 : decode cX9_keep 96 = .ok (.iadd, 1) := by decide +kernel
theorem dX9_keep_97 : decode cX9_keep 97 = .ok (.aload_n 0, 1) := by decide +kernel
theorem dX9_keep_98 : decode cX9_keep 98 = .ok (.getfield 34, 3) := by decide +kernel
theorem dX9_keep_101 : decode cX9_keep 101 = .ok (.iload_n 3, 1) := by decide +kernel
theorem dX9_keep_102 : decode cX9_keep 102 = .ok (.iaload, 1) := by decide +kernel
theorem dX9_keep_103 : decode cX9_keep 103 = .ok (.iastore, 1) := by decide +kernel
theorem dX9_keep_104 : decode cX9_keep 104 = .ok (.iinc 3 1, 3) := by decide +kernel
theorem dX9_keep_107 : decode cX9_keep 107 = .ok (.goto (-26), 3) := by decide +kernel
theorem dX9_keep_110 : decode cX9_keep 110 = .ok (.iconst 1, 1) := by decide +kernel
theorem dX9_keep_111 : decode cX9_keep 111 = .ok (.ireturn, 1) := by decide +kernel
theorem dX9_goBack_0 : decode cX9_goBack 0 = .ok (.iload_n 1, 1) := by decide +kernel
theorem dX9_goBack_1 : decode cX9_goBack 1 = .ok (.i2l, 1) := by decide +kernel
theorem dX9_goBack_2 : decode cX9_goBack 2 = .ok (.lconst 0, 1) := by decide +kernel
theorem dX9_goBack_3 : decode cX9_goBack 3 = .ok (.lconst 1, 1) := by decide +kernel
theorem dX9_goBack_4 : decode cX9_goBack 4 = .ok (.invokestatic 92, 3) := by decide +kernel
theorem dX9_goBack_7 : decode cX9_goBack 7 = .ok (.ifCond .ne 6, 3) := by decide +kernel
theorem dX9_goBack_10 : decode cX9_goBack 10 = .ok (.ldc 205, 2) := by decide +kernel
theorem dX9_goBack_12 : decode cX9_goBack 12 = .ok (.ireturn, 1) := by decide +kernel
theorem dX9_goBack_13 : decode cX9_goBack 13 = .ok (.bipush 23, 2) := by decide +kernel
theorem dX9_goBack_15 : decode cX9_goBack 15 = .ok (.iload_n 1, 1) := by decide +kernel
theorem dX9_goBack_16 : decode cX9_goBack 16 = .ok (.imul, 1) := by decide +kernel
theorem dX9_goBack_17 : decode cX9_goBack 17 = .ok (.istore_n 2, 1) := by decide +kernel
theorem dX9_goBack_18 : decode cX9_goBack 18 = .ok (.aload_n 0, 1) := by decide +kernel
theorem dX9_goBack_19 : decode cX9_goBack 19 = .ok (.getfield 83, 3) := by decide +kernel
theorem dX9_goBack_22 : decode cX9_goBack 22 = .ok (.iload_n 2, 1) := by decide +kernel
theorem dX9_goBack_23 : decode cX9_goBack 23 = .ok (.iaload, 1) := by decide +kernel
theorem dX9_goBack_24 : decode cX9_goBack 24 = .ok (.ifCond .ne 6, 3) := by decide +kernel
theorem dX9_goBack_27 : decode cX9_goBack 27 = .ok (.ldc 230, 2) := by decide +kernel
theorem dX9_goBack_29 : decode cX9_goBack 29 = .ok (.ireturn, 1) := by decide +kernel
theorem dX9_goBack_30 : decode cX9_goBack 30 = .ok (.aload_n 0, 1) := by decide +kernel
theorem dX9_goBack_31 : decode cX9_goBack 31 = .ok (.aload_n 0, 1) := by decide +kernel
theorem dX9_goBack_32 : decode cX9_goBack 32 = .ok (.getfield 83, 3) := by decide +kernel
theorem dX9_goBack_35 : decode cX9_goBack 35 = .ok (.iload_n 2, 1) := by decide +kernel
theorem dX9_goBack_36 : decode cX9_goBack 36 = .ok (.iconst 1, 1) := by decide +kernel
theorem dX9_goBack_37 : decode cX9_goBack 37 = .ok (.iadd, 1) := by decide +kernel
theorem dX9_goBack_38 : decode cX9_goBack 38 = .ok (.iaload, 1) := by decide +kernel
theorem dX9_goBack_39 : decode cX9_goBack 39 = .ok (.putfield 192, 3) := by decide +kernel
theorem dX9_goBack_42 : decode cX9_goBack 42 = .ok (.aload_n 0, 1) := by decide +kernel
theorem dX9_goBack_43 : decode cX9_goBack 43 = .ok (.aload_n 0, 1) := by decide +kernel
theorem dX9_goBack_44 : decode cX9_goBack 44 = .ok (.getfield 83, 3) := by decide +kernel
theorem dX9_goBack_47 : decode cX9_goBack 47 = .ok (.iload_n 2, 1) := by decide +kernel
theorem dX9_goBack_48 : decode cX9_goBack 48 = .ok (.iconst 2, 1) := by decide +kernel
theorem dX9_goBack_49 : decode cX9_goBack 49 = .ok (.iadd, 1) := by decide +kernel
theorem dX9_goBack_50 : decode cX9_goBack 50 = .ok (.iaload, 1) := by decide +kernel
theorem dX9_goBack_51 : decode cX9_goBack 51 = .ok (.putfield 237, 3) := by decide +kernel
theorem dX9_goBack_54 : decode cX9_goBack 54 = .ok (.iconst 0, 1) := by decide +kernel
theorem dX9_goBack_55 : decode cX9_goBack 55 = .ok (.istore_n 3, 1) := by decide +kernel
theorem dX9_goBack_56 : decode cX9_goBack 56 = .ok (.iload_n 3, 1) := by decide +kernel
theorem dX9_goBack_57 : decode cX9_goBack 57 = .ok (.bipush 12, 2) := by decide +kernel
theorem dX9_goBack_59 : decode cX9_goBack 59 = .ok (.if_icmp .ge 25, 3) := by decide +kernel
theorem dX9_goBack_62 : decode cX9_goBack 62 = .ok (.aload_n 0, 1) := by decide +kernel
theorem dX9_goBack_63 : decode cX9_goBack 63 = .ok (.getfield 46, 3) := by decide +kernel
theorem dX9_goBack_66 : decode cX9_goBack 66 = .ok (.iload_n 3, 1) := by decide +kernel
theorem dX9_goBack_67 : decode cX9_goBack 67 = .ok (.aload_n 0, 1) := by decide +kernel
theorem dX9_goBack_68 : decode cX9_goBack 68 = .ok (.getfield 83, 3) := by decide +kernel
theorem dX9_goBack_71 : decode cX9_goBack 71 = .ok (.iload_n 2, 1) := by decide +kernel
theorem dX9_goBack_72 : decode cX9_goBack 72 = .ok (.iconst 3, 1) := by decide +kernel
theorem dX9_goBack_73 : decode cX9_goBack 73 = .ok (.iadd, 1) := by decide +kernel
theorem dX9_goBack_74 : decode cX9_goBack 74 = .ok (.iload_n 3, 1) := by decide +kernel
theorem dX9_goBack_75 : decode cX9_goBack 75 = .ok (.iadd, 1) := by decide +kernel
theorem dX9_goBack_76 : decode cX9_goBack 76 = .ok (.iaload, 1) := by decide +kernel
theorem dX9_goBack_77 : decode cX9_goBack 77 = .ok (.iastore, 1) := by decide +kernel
theorem dX9_goBack_78 : decode cX9_goBack 78 = .ok (.iinc 3 1, 3) := by decide +kernel
theorem dX9_goBack_81 : decode cX9_goBack 81 = .ok (.goto (-25), 3) := by decide +kernel
theorem dX9_goBack_84 : decode cX9_goBack 84 = .ok (.iconst 0, 1) := by decide +kernel
theorem dX9_goBack_85 : decode cX9_goBack 85 = .ok (.istore_n 3, 1) := by decide +kernel
theorem dX9_goBack_86 : decode cX9_goBack 86 = .ok (.iload_n 3, 1) := by decide +kernel
theorem dX9_goBack_87 : decode cX9_goBack 87 = .ok (.bipush 8, 2) := by decide +kernel
theorem dX9_goBack_89 : decode cX9_goBack 89 = .ok (.if_icmp .ge 26, 3) := by decide +kernel
theorem dX9_goBack_92 : decode cX9_goBack 92 = .ok (.aload_n 0, 1) := by decide +kernel
theorem dX9_goBack_93 : decode cX9_goBack 93 = .ok (.getfield 34, 3) := by decide +kernel
theorem dX9_goBack_96 : decode cX9_goBack 96 = .ok (.iload_n 3, 1) := by decide +kernel
theorem dX9_goBack_97 : decode cX9_goBack 97 = .ok (.aload_n 0, 1) := by decide +kernel
theorem dX9_goBack_98 : decode cX9_goBack 98 = .ok (.getfield 83, 3) := by decide +kernel
theorem dX9_goBack_101 : decode cX9_goBack 101 = .ok (.iload_n 2, 1) := by decide +kernel
theorem dX9_goBack_102 : decode cX9_goBack 102 = .ok (.bipush 15, 2) := by decide +kernel
theorem dX9_goBack_104 : decode cX9_goBack 104 = .ok (.iadd, 1) := by decide +kernel
theorem dX9_goBack_105 : decode cX9_goBack 105 = .ok (.iload_n 3, 1) := by decide +kernel
theorem dX9_goBack_106 : decode cX9_goBack 106 = .ok (.iadd, 1) := by decide +kernel
theorem dX9_goBack_107 : decode cX9_goBack 107 = .ok (.iaload, 1) := by decide +kernel
theorem dX9_goBack_108 : decode cX9_goBack 108 = .ok (.iastore, 1) := by decide +kernel
theorem dX9_goBack_109 : decode cX9_goBack 109 = .ok (.iinc 3 1, 3) := by decide +kernel
theorem dX9_goBack_112 : decode cX9_goBack 112 = .ok (.goto (-26), 3) := by decide +kernel
theorem dX9_goBack_115 : decode cX9_goBack 115 = .ok (.iconst 1, 1) := by decide +kernel
theorem dX9_goBack_116 : decode cX9_goBack 116 = .ok (.ireturn, 1) := by decide +kernel
theorem dL_law_0 : decode cL_law 0 = .ok (.new 7, 3) := by decide +kernel
theorem dL_law_3 : decode cL_law 3 = .ok (.dup, 1) := by decide +kernel
theorem dL_law_4 : decode cL_law 4 = .ok (.invokespecial 9, 3) := by decide +kernel
theorem dL_law_7 : decode cL_law 7 = .ok (.astore_n 1, 1) := by decide +kernel
theorem dL_law_8 : decode cL_law 8 = .ok (.new 10, 3) := by decide +kernel
theorem dL_law_11 : decode cL_law 11 = .ok (.dup, 1) := by decide +kernel
theorem dL_law_12 : decode cL_law 12 = .ok (.invokespecial 12, 3) := by decide +kernel
theorem dL_law_15 : decode cL_law 15 = .ok (.astore_n 2, 1) := by decide +kernel
theorem dL_law_16 : decode cL_law 16 = .ok (.iconst 0, 1) := by decide +kernel
theorem dL_law_17 : decode cL_law 17 = .ok (.istore_n 3, 1) := by decide +kernel
theorem dL_law_18 : decode cL_law 18 = .ok (.iload_n 3, 1) := by decide +kernel
theorem dL_law_19 : decode cL_law 19 = .ok (.aload_n 0, 1) := by decide +kernel
theorem dL_law_20 : decode cL_law 20 = .ok (.arraylength, 1) := by decide +kernel
theorem dL_law_21 : decode cL_law 21 = .ok (.iconst 5, 1) := by decide +kernel
theorem dL_law_22 : decode cL_law 22 = .ok (.isub, 1) := by decide +kernel
theorem dL_law_23 : decode cL_law 23 = .ok (.if_icmp .gt 980, 3) := by decide +kernel
theorem dL_law_26 : decode cL_law 26 = .ok (.aload_n 0, 1) := by decide +kernel
theorem dL_law_27 : decode cL_law 27 = .ok (.iload_n 3, 1) := by decide +kernel
theorem dL_law_28 : decode cL_law 28 = .ok (.iaload, 1) := by decide +kernel
theorem dL_law_29 : decode cL_law 29 = .ok (.bipush 31, 2) := by decide +kernel
theorem dL_law_31 : decode cL_law 31 = .ok (.iand, 1) := by decide +kernel
theorem dL_law_32 : decode cL_law 32 = .ok (.tableswitch 965 0 28 #[132, 195, 208, 221, 244, 277, 310, 333, 366, 399, 448, 471, 504, 527, 560, 593, 626, 659, 692, 745, 768, 801, 814, 837, 870, 883, 896, 919, 942], 132) := by decide +kernel
theorem dL_law_164 : decode cL_law 164 = .ok (.aload_n 1, 1) := by decide +kernel
theorem dL_law_165 : decode cL_law 165 = .ok (.aload_n 0, 1) := by decide +kernel
theorem dL_law_166 : decode cL_law 166 = .ok (.iload_n 3, 1) := by decide +kernel
theorem dL_law_167 : decode cL_law 167 = .ok (.iconst 1, 1) := by decide +kernel
theorem dL_law_168 : decode cL_law 168 = .ok (.iadd, 1) := by decide +kernel
theorem dL_law_169 : decode cL_law 169 = .ok (.iaload, 1) := by decide +kernel
theorem dL_law_170 : decode cL_law 170 = .ok (.aload_n 0, 1) := by decide +kernel
theorem dL_law_171 : decode cL_law 171 = .ok (.iload_n 3, 1) := by decide +kernel
theorem dL_law_172 : decode cL_law 172 = .ok (.iconst 2, 1) := by decide +kernel
theorem dL_law_173 : decode cL_law 173 = .ok (.iadd, 1) := by decide +kernel
theorem dL_law_174 : decode cL_law 174 = .ok (.iaload, 1) := by decide +kernel
theorem dL_law_175 : decode cL_law 175 = .ok (.i2l, 1) := by decide +kernel
theorem dL_law_176 : decode cL_law 176 = .ok (.bipush 32, 2) := by decide +kernel
theorem dL_law_178 : decode cL_law 178 = .ok (.lshl, 1) := by decide +kernel
theorem dL_law_179 : decode cL_law 179 = .ok (.aload_n 0, 1) := by decide +kernel
theorem dL_law_180 : decode cL_law 180 = .ok (.iload_n 3, 1) := by decide +kernel
theorem dL_law_181 : decode cL_law 181 = .ok (.iconst 3, 1) := by decide +kernel
theorem dL_law_182 : decode cL_law 182 = .ok (.iadd, 1) := by decide +kernel
theorem dL_law_183 : decode cL_law 183 = .ok (.iaload, 1) := by decide +kernel
theorem dL_law_184 : decode cL_law 184 = .ok (.i2l, 1) := by decide +kernel
theorem dL_law_185 : decode cL_law 185 = .ok (.ldc2_w 13, 3) := by decide +kernel
theorem dL_law_188 : decode cL_law 188 = .ok (.land, 1) := by decide +kernel
theorem dL_law_189 : decode cL_law 189 = .ok (.lor, 1) := by decide +kernel
theorem dL_law_190 : decode cL_law 190 = .ok (.invokevirtual 15, 3) := by decide +kernel
theorem dL_law_193 : decode cL_law 193 = .ok (.aload_n 2, 1) := by decide +kernel
theorem dL_law_194 : decode cL_law 194 = .ok (.aload_n 0, 1) := by decide +kernel
theorem dL_law_195 : decode cL_law 195 = .ok (.iload_n 3, 1) := by decide +kernel
theorem dL_law_196 : decode cL_law 196 = .ok (.iconst 1, 1) := by decide +kernel
theorem dL_law_197 : decode cL_law 197 = .ok (.iadd, 1) := by decide +kernel
theorem dL_law_198 : decode cL_law 198 = .ok (.iaload, 1) := by decide +kernel
theorem dL_law_199 : decode cL_law 199 = .ok (.aload_n 0, 1) := by decide +kernel
theorem dL_law_200 : decode cL_law 200 = .ok (.iload_n 3, 1) := by decide +kernel
theorem dL_law_201 : decode cL_law 201 = .ok (.iconst 2, 1) := by decide +kernel
theorem dL_law_202 : decode cL_law 202 = .ok (.iadd, 1) := by decide +kernel
theorem dL_law_203 : decode cL_law 203 = .ok (.iaload, 1) := by decide +kernel
theorem dL_law_204 : decode cL_law 204 = .ok (.i2l, 1) := by decide +kernel
theorem dL_law_205 : decode cL_law 205 = .ok (.bipush 32, 2) := by decide +kernel
theorem dL_law_207 : decode cL_law 207 = .ok (.lshl, 1) := by decide +kernel
theorem dL_law_208 : decode cL_law 208 = .ok (.aload_n 0, 1) := by decide +kernel
theorem dL_law_209 : decode cL_law 209 = .ok (.iload_n 3, 1) := by decide +kernel
theorem dL_law_210 : decode cL_law 210 = .ok (.iconst 3, 1) := by decide +kernel
theorem dL_law_211 : decode cL_law 211 = .ok (.iadd, 1) := by decide +kernel
theorem dL_law_212 : decode cL_law 212 = .ok (.iaload, 1) := by decide +kernel
theorem dL_law_213 : decode cL_law 213 = .ok (.i2l, 1) := by decide +kernel
theorem dL_law_214 : decode cL_law 214 = .ok (.ldc2_w 13, 3) := by decide +kernel
theorem dL_law_217 : decode cL_law 217 = .ok (.land, 1) := by decide +kernel
theorem dL_law_218 : decode cL_law 218 = .ok (.lor, 1) := by decide +kernel
theorem dL_law_219 : decode cL_law 219 = .ok (.invokevirtual 19, 3) := by decide +kernel
theorem dL_law_222 : decode cL_law 222 = .ok (.if_icmp .eq 775, 3) := by decide +kernel
theorem dL_law_225 : decode cL_law 225 = .ok (.iconst 0, 1) := by decide +kernel
theorem dL_law_226 : decode cL_law 226 = .ok (.ireturn, 1) := by decide +kernel
theorem dL_law_227 : decode cL_law 227 = .ok (.aload_n 1, 1) := by decide +kernel
theorem dL_law_228 : decode cL_law 228 = .ok (.invokevirtual 20, 3) := by decide +kernel
theorem dL_law_231 : decode cL_law 231 = .ok (.aload_n 2, 1) := by decide +kernel
theorem dL_law_232 : decode cL_law 232 = .ok (.invokevirtual 24, 3) := by decide +kernel
theorem dL_law_235 : decode cL_law 235 = .ok (.if_icmp .eq 762, 3) := by decide +kernel
theorem dL_law_238 : decode cL_law 238 = .ok (.iconst 0, 1) := by decide +kernel
theorem dL_law_239 : decode cL_law 239 = .ok (.ireturn, 1) := by decide +kernel
theorem dL_law_240 : decode cL_law 240 = .ok (.aload_n 1, 1) := by decide +kernel
theorem dL_law_241 : decode cL_law 241 = .ok (.invokevirtual 25, 3) := by decide +kernel
theorem dL_law_244 : decode cL_law 244 = .ok (.aload_n 2, 1) := by decide +kernel
theorem dL_law_245 : decode cL_law 245 = .ok (.invokevirtual 28, 3) := by decide +kernel
theorem dL_law_248 : decode cL_law 248 = .ok (.if_icmp .eq 749, 3) := by decide +kernel
theorem dL_law_251 : decode cL_law 251 = .ok (.iconst 0, 1) := by decide +kernel
theorem dL_law_252 : decode cL_law 252 = .ok (.ireturn, 1) := by decide +kernel
theorem dL_law_253 : decode cL_law 253 = .ok (.aload_n 1, 1) := by decide +kernel
theorem dL_law_254 : decode cL_law 254 = .ok (.aload_n 0, 1) := by decide +kernel
theorem dL_law_255 : decode cL_law 255 = .ok (.iload_n 3, 1) := by decide +kernel
theorem dL_law_256 : decode cL_law 256 = .ok (.iconst 1, 1) := by decide +kernel
theorem dL_law_257 : decode cL_law 257 = .ok (.iadd, 1) := by decide +kernel
theorem dL_law_258 : decode cL_law 258 = .ok (.iaload, 1) := by decide +kernel
theorem dL_law_259 : decode cL_law 259 = .ok (.invokevirtual 29, 3) := by decide +kernel
theorem dL_law_262 : decode cL_law 262 = .ok (.aload_n 2, 1) := by decide +kernel
theorem dL_law_263 : decode cL_law 263 = .ok (.aload_n 0, 1) := by decide +kernel
theorem dL_law_264 : decode cL_law 264 = .ok (.iload_n 3, 1) := by decide +kernel
theorem dL_law_265 : decode cL_law 265 = .ok (.iconst 1, 1) := by decide +kernel
theorem dL_law_266 : decode cL_law 266 = .ok (.iadd, 1) := by decide +kernel
theorem dL_law_267 : decode cL_law 267 = .ok (.iaload, 1) := by decide +kernel
theorem dL_law_268 : decode cL_law 268 = .ok (.invokevirtual 33, 3) := by decide +kernel
theorem dL_law_271 : decode cL_law 271 = .ok (.if_icmp .eq 726, 3) := by decide +kernel
theorem dL_law_274 : decode cL_law 274 = .ok (.iconst 0, 1) := by decide +kernel
theorem dL_law_275 : decode cL_law 275 = .ok (.ireturn, 1) := by decide +kernel
theorem dL_law_276 : decode cL_law 276 = .ok (.aload_n 1, 1) := by decide +kernel
theorem dL_law_277 : decode cL_law 277 = .ok (.aload_n 0, 1) := by decide +kernel
theorem dL_law_278 : decode cL_law 278 = .ok (.iload_n 3, 1) := by decide +kernel
theorem dL_law_279 : decode cL_law 279 = .ok (.iconst 1, 1) := by decide +kernel
theorem dL_law_280 : decode cL_law 280 = .ok (.iadd, 1) := by decide +kernel
theorem dL_law_281 : decode cL_law 281 = .ok (.iaload, 1) := by decide +kernel
theorem dL_law_282 : decode cL_law 282 = .ok (.aload_n 0, 1) := by decide +kernel
theorem dL_law_283 : decode cL_law 283 = .ok (.iload_n 3, 1) := by decide +kernel
theorem dL_law_284 : decode cL_law 284 = .ok (.iconst 2, 1) := by decide +kernel
theorem dL_law_285 : decode cL_law 285 = .ok (.iadd, 1) := by decide +kernel
theorem dL_law_286 : decode cL_law 286 = .ok (.iaload, 1) := by decide +kernel
theorem dL_law_287 : decode cL_law 287 = .ok (.invokevirtual 34, 3) := by decide +kernel
theorem dL_law_290 : decode cL_law 290 = .ok (.aload_n 2, 1) := by decide +kernel
theorem dL_law_291 : decode cL_law 291 = .ok (.aload_n 0, 1) := by decide +kernel
theorem dL_law_292 : decode cL_law 292 = .ok (.iload_n 3, 1) := by decide +kernel
theorem dL_law_293 : decode cL_law 293 = .ok (.iconst 1, 1) := by decide +kernel
theorem dL_law_294 : decode cL_law 294 = .ok (.iadd, 1) := by decide +kernel
theorem dL_law_295 : decode cL_law 295 = .ok (.iaload, 1) := by decide +kernel
theorem dL_law_296 : decode cL_law 296 = .ok (.aload_n 0, 1) := by decide +kernel
theorem dL_law_297 : decode cL_law 297 = .ok (.iload_n 3, 1) := by decide +kernel
theorem dL_law_298 : decode cL_law 298 = .ok (.iconst 2, 1) := by decide +kernel
theorem dL_law_299 : decode cL_law 299 = .ok (.iadd, 1) := by decide +kernel
theorem dL_law_300 : decode cL_law 300 = .ok (.iaload, 1) := by decide +kernel
theorem dL_law_301 : decode cL_law 301 = .ok (.invokevirtual 38, 3) := by decide +kernel
theorem dL_law_304 : decode cL_law 304 = .ok (.if_icmp .eq 693, 3) := by decide +kernel
theorem dL_law_307 : decode cL_law 307 = .ok (.iconst 0, 1) := by decide +kernel
theorem dL_law_308 : decode cL_law 308 = .ok (.ireturn, 1) := by decide +kernel
theorem dL_law_309 : decode cL_law 309 = .ok (.aload_n 1, 1) := by decide +kernel
theorem dL_law_310 : decode cL_law 310 = .ok (.aload_n 0, 1) := by decide +kernel
theorem dL_law_311 : decode cL_law 311 = .ok (.iload_n 3, 1) := by decide +kernel
theorem dL_law_312 : decode cL_law 312 = .ok (.iconst 1, 1) := by decide +kernel
theorem dL_law_313 : decode cL_law 313 = .ok (.iadd, 1) := by decide +kernel
theorem dL_law_314 : decode cL_law 314 = .ok (.iaload, 1) := by decide +kernel
theorem dL_law_315 : decode cL_law 315 = .ok (.aload_n 0, 1) := by decide +kernel
theorem dL_law_316 : decode cL_law 316 = .ok (.iload_n 3, 1) := by decide +kernel
theorem dL_law_317 : decode cL_law 317 = .ok (.iconst 2, 1) := by decide +kernel
theorem dL_law_318 : decode cL_law 318 = .ok (.iadd, 1) := by decide +kernel
theorem dL_law_319 : decode cL_law 319 = .ok (.iaload, 1) := by decide +kernel
theorem dL_law_320 : decode cL_law 320 = .ok (.invokevirtual 39, 3) := by decide +kernel
theorem dL_law_323 : decode cL_law 323 = .ok (.aload_n 2, 1) := by decide +kernel
theorem dL_law_324 : decode cL_law 324 = .ok (.aload_n 0, 1) := by decide +kernel
theorem dL_law_325 : decode cL_law 325 = .ok (.iload_n 3, 1) := by decide +kernel
theorem dL_law_326 : decode cL_law 326 = .ok (.iconst 1, 1) := by decide +kernel
theorem dL_law_327 : decode cL_law 327 = .ok (.iadd, 1) := by decide +kernel
theorem dL_law_328 : decode cL_law 328 = .ok (.iaload, 1) := by decide +kernel
theorem dL_law_329 : decode cL_law 329 = .ok (.aload_n 0, 1) := by decide +kernel
theorem dL_law_330 : decode cL_law 330 = .ok (.iload_n 3, 1) := by decide +kernel
theorem dL_law_331 : decode cL_law 331 = .ok (.iconst 2, 1) := by decide +kernel
theorem dL_law_332 : decode cL_law 332 = .ok (.iadd, 1) := by decide +kernel
theorem dL_law_333 : decode cL_law 333 = .ok (.iaload, 1) := by decide +kernel
theorem dL_law_334 : decode cL_law 334 = .ok (.invokevirtual 42, 3) := by decide +kernel
theorem dL_law_337 : decode cL_law 337 = .ok (.if_icmp .eq 660, 3) := by decide +kernel
theorem dL_law_340 : decode cL_law 340 = .ok (.iconst 0, 1) := by decide +kernel
theorem dL_law_341 : decode cL_law 341 = .ok (.ireturn, 1) := by decide +kernel
theorem dL_law_342 : decode cL_law 342 = .ok (.aload_n 1, 1) := by decide +kernel
theorem dL_law_343 : decode cL_law 343 = .ok (.aload_n 0, 1) := by decide +kernel
theorem dL_law_344 : decode cL_law 344 = .ok (.iload_n 3, 1) := by decide +kernel
theorem dL_law_345 : decode cL_law 345 = .ok (.iconst 1, 1) := by decide +kernel
theorem dL_law_346 : decode cL_law 346 = .ok (.iadd, 1) := by decide +kernel
theorem dL_law_347 : decode cL_law 347 = .ok (.iaload, 1) := by decide +kernel
theorem dL_law_348 : decode cL_law 348 = .ok (.invokevirtual 43, 3) := by decide +kernel
theorem dL_law_351 : decode cL_law 351 = .ok (.aload_n 2, 1) := by decide +kernel
theorem dL_law_352 : decode cL_law 352 = .ok (.aload_n 0, 1) := by decide +kernel
theorem dL_law_353 : decode cL_law 353 = .ok (.iload_n 3, 1) := by decide +kernel
theorem dL_law_354 : decode cL_law 354 = .ok (.iconst 1, 1) := by decide +kernel
theorem dL_law_355 : decode cL_law 355 = .ok (.iadd, 1) := by decide +kernel
theorem dL_law_356 : decode cL_law 356 = .ok (.iaload, 1) := by decide +kernel
theorem dL_law_357 : decode cL_law 357 = .ok (.invokevirtual 46, 3) := by decide +kernel
theorem dL_law_360 : decode cL_law 360 = .ok (.if_icmp .eq 637, 3) := by decide +kernel
theorem dL_law_363 : decode cL_law 363 = .ok (.iconst 0, 1) := by decide +kernel
theorem dL_law_364 : decode cL_law 364 = .ok (.ireturn, 1) := by decide +kernel
theorem dL_law_365 : decode cL_law 365 = .ok (.aload_n 1, 1) := by decide +kernel
theorem dL_law_366 : decode cL_law 366 = .ok (.aload_n 0, 1) := by decide +kernel
theorem dL_law_367 : decode cL_law 367 = .ok (.iload_n 3, 1) := by decide +kernel
theorem dL_law_368 : decode cL_law 368 = .ok (.iconst 1, 1) := by decide +kernel
theorem dL_law_369 : decode cL_law 369 = .ok (.iadd, 1) := by decide +kernel
theorem dL_law_370 : decode cL_law 370 = .ok (.iaload, 1) := by decide +kernel
theorem dL_law_371 : decode cL_law 371 = .ok (.aload_n 0, 1) := by decide +kernel
theorem dL_law_372 : decode cL_law 372 = .ok (.iload_n 3, 1) := by decide +kernel
theorem dL_law_373 : decode cL_law 373 = .ok (.iconst 2, 1) := by decide +kernel
theorem dL_law_374 : decode cL_law 374 = .ok (.iadd, 1) := by decide +kernel
theorem dL_law_375 : decode cL_law 375 = .ok (.iaload, 1) := by decide +kernel
theorem dL_law_376 : decode cL_law 376 = .ok (.invokevirtual 47, 3) := by decide +kernel
theorem dL_law_379 : decode cL_law 379 = .ok (.aload_n 2, 1) := by decide +kernel
theorem dL_law_380 : decode cL_law 380 = .ok (.aload_n 0, 1) := by decide +kernel
theorem dL_law_381 : decode cL_law 381 = .ok (.iload_n 3, 1) := by decide +kernel
theorem dL_law_382 : decode cL_law 382 = .ok (.iconst 1, 1) := by decide +kernel
theorem dL_law_383 : decode cL_law 383 = .ok (.iadd, 1) := by decide +kernel
theorem dL_law_384 : decode cL_law 384 = .ok (.iaload, 1) := by decide +kernel
theorem dL_law_385 : decode cL_law 385 = .ok (.aload_n 0, 1) := by decide +kernel
theorem dL_law_386 : decode cL_law 386 = .ok (.iload_n 3, 1) := by decide +kernel
theorem dL_law_387 : decode cL_law 387 = .ok (.iconst 2, 1) := by decide +kernel
theorem dL_law_388 : decode cL_law 388 = .ok (.iadd, 1) := by decide +kernel
theorem dL_law_389 : decode cL_law 389 = .ok (.iaload, 1) := by decide +kernel
theorem dL_law_390 : decode cL_law 390 = .ok (.invokevirtual 50, 3) := by decide +kernel
theorem dL_law_393 : decode cL_law 393 = .ok (.if_icmp .eq 604, 3) := by decide +kernel
theorem dL_law_396 : decode cL_law 396 = .ok (.iconst 0, 1) := by decide +kernel
theorem dL_law_397 : decode cL_law 397 = .ok (.ireturn, 1) := by decide +kernel
theorem dL_law_398 : decode cL_law 398 = .ok (.aload_n 1, 1) := by decide +kernel
theorem dL_law_399 : decode cL_law 399 = .ok (.aload_n 0, 1) := by decide +kernel
theorem dL_law_400 : decode cL_law 400 = .ok (.iload_n 3, 1) := by decide +kernel
theorem dL_law_401 : decode cL_law 401 = .ok (.iconst 1, 1) := by decide +kernel
theorem dL_law_402 : decode cL_law 402 = .ok (.iadd, 1) := by decide +kernel
theorem dL_law_403 : decode cL_law 403 = .ok (.iaload, 1) := by decide +kernel
theorem dL_law_404 : decode cL_law 404 = .ok (.aload_n 0, 1) := by decide +kernel
theorem dL_law_405 : decode cL_law 405 = .ok (.iload_n 3, 1) := by decide +kernel
theorem dL_law_406 : decode cL_law 406 = .ok (.iconst 2, 1) := by decide +kernel
theorem dL_law_407 : decode cL_law 407 = .ok (.iadd, 1) := by decide +kernel
theorem dL_law_408 : decode cL_law 408 = .ok (.iaload, 1) := by decide +kernel
theorem dL_law_409 : decode cL_law 409 = .ok (.invokevirtual 51, 3) := by decide +kernel
theorem dL_law_412 : decode cL_law 412 = .ok (.aload_n 2, 1) := by decide +kernel
theorem dL_law_413 : decode cL_law 413 = .ok (.aload_n 0, 1) := by decide +kernel
theorem dL_law_414 : decode cL_law 414 = .ok (.iload_n 3, 1) := by decide +kernel
theorem dL_law_415 : decode cL_law 415 = .ok (.iconst 1, 1) := by decide +kernel
theorem dL_law_416 : decode cL_law 416 = .ok (.iadd, 1) := by decide +kernel
theorem dL_law_417 : decode cL_law 417 = .ok (.iaload, 1) := by decide +kernel
theorem dL_law_418 : decode cL_law 418 = .ok (.aload_n 0, 1) := by decide +kernel
theorem dL_law_419 : decode cL_law 419 = .ok (.iload_n 3, 1) := by decide +kernel
theorem dL_law_420 : decode cL_law 420 = .ok (.iconst 2, 1) := by decide +kernel
theorem dL_law_421 : decode cL_law 421 = .ok (.iadd, 1) := by decide +kernel
theorem dL_law_422 : decode cL_law 422 = .ok (.iaload, 1) := by decide +kernel
theorem dL_law_423 : decode cL_law 423 = .ok (.invokevirtual 54, 3) := by decide +kernel
theorem dL_law_426 : decode cL_law 426 = .ok (.if_icmp .eq 571, 3) := by decide +kernel
theorem dL_law_429 : decode cL_law 429 = .ok (.iconst 0, 1) := by decide +kernel
theorem dL_law_430 : decode cL_law 430 = .ok (.ireturn, 1) := by decide +kernel
theorem dL_law_431 : decode cL_law 431 = .ok (.aload_n 1, 1) := by decide +kernel
theorem dL_law_432 : decode cL_law 432 = .ok (.aload_n 0, 1) := by decide +kernel
theorem dL_law_433 : decode cL_law 433 = .ok (.iload_n 3, 1) := by decide +kernel
theorem dL_law_434 : decode cL_law 434 = .ok (.iconst 1, 1) := by decide +kernel
theorem dL_law_435 : decode cL_law 435 = .ok (.iadd, 1) := by decide +kernel
theorem dL_law_436 : decode cL_law 436 = .ok (.iaload, 1) := by decide +kernel
theorem dL_law_437 : decode cL_law 437 = .ok (.aload_n 0, 1) := by decide +kernel
theorem dL_law_438 : decode cL_law 438 = .ok (.iload_n 3, 1) := by decide +kernel
theorem dL_law_439 : decode cL_law 439 = .ok (.iconst 2, 1) := by decide +kernel
theorem dL_law_440 : decode cL_law 440 = .ok (.iadd, 1) := by decide +kernel
theorem dL_law_441 : decode cL_law 441 = .ok (.iaload, 1) := by decide +kernel
theorem dL_law_442 : decode cL_law 442 = .ok (.ifCond .eq 7, 3) := by decide +kernel
theorem dL_law_445 : decode cL_law 445 = .ok (.iconst 1, 1) := by decide +kernel
theorem dL_law_446 : decode cL_law 446 = .ok (.goto 4, 3) := by decide +kernel
theorem dL_law_449 : decode cL_law 449 = .ok (.iconst 0, 1) := by decide +kernel
theorem dL_law_450 : decode cL_law 450 = .ok (.invokevirtual 55, 3) := by decide +kernel
theorem dL_law_453 : decode cL_law 453 = .ok (.aload_n 2, 1) := by decide +kernel
theorem dL_law_454 : decode cL_law 454 = .ok (.aload_n 0, 1) := by decide +kernel
theorem dL_law_455 : decode cL_law 455 = .ok (.iload_n 3, 1) := by decide +kernel
theorem dL_law_456 : decode cL_law 456 = .ok (.iconst 1, 1) := by decide +kernel
theorem dL_law_457 : decode cL_law 457 = .ok (.iadd, 1) := by decide +kernel
theorem dL_law_458 : decode cL_law 458 = .ok (.iaload, 1) := by decide +kernel
theorem dL_law_459 : decode cL_law 459 = .ok (.aload_n 0, 1) := by decide +kernel
theorem dL_law_460 : decode cL_law 460 = .ok (.iload_n 3, 1) := by decide +kernel
theorem dL_law_461 : decode cL_law 461 = .ok (.iconst 2, 1) := by decide +kernel
theorem dL_law_462 : decode cL_law 462 = .ok (.iadd, 1) := by decide +kernel
theorem dL_law_463 : decode cL_law 463 = .ok (.iaload, 1) := by decide +kernel
theorem dL_law_464 : decode cL_law 464 = .ok (.ifCond .eq 7, 3) := by decide +kernel
theorem dL_law_467 : decode cL_law 467 = .ok (.iconst 1, 1) := by decide +kernel
theorem dL_law_468 : decode cL_law 468 = .ok (.goto 4, 3) := by decide +kernel
theorem dL_law_471 : decode cL_law 471 = .ok (.iconst 0, 1) := by decide +kernel
theorem dL_law_472 : decode cL_law 472 = .ok (.invokevirtual 59, 3) := by decide +kernel
theorem dL_law_475 : decode cL_law 475 = .ok (.if_icmp .eq 522, 3) := by decide +kernel
theorem dL_law_478 : decode cL_law 478 = .ok (.iconst 0, 1) := by decide +kernel
theorem dL_law_479 : decode cL_law 479 = .ok (.ireturn, 1) := by decide +kernel
theorem dL_law_480 : decode cL_law 480 = .ok (.aload_n 1, 1) := by decide +kernel
theorem dL_law_481 : decode cL_law 481 = .ok (.aload_n 0, 1) := by decide +kernel
theorem dL_law_482 : decode cL_law 482 = .ok (.iload_n 3, 1) := by decide +kernel
theorem dL_law_483 : decode cL_law 483 = .ok (.iconst 1, 1) := by decide +kernel
theorem dL_law_484 : decode cL_law 484 = .ok (.iadd, 1) := by decide +kernel
theorem dL_law_485 : decode cL_law 485 = .ok (.iaload, 1) := by decide +kernel
theorem dL_law_486 : decode cL_law 486 = .ok (.invokevirtual 60, 3) := by decide +kernel
theorem dL_law_489 : decode cL_law 489 = .ok (.aload_n 2, 1) := by decide +kernel
theorem dL_law_490 : decode cL_law 490 = .ok (.aload_n 0, 1) := by decide +kernel
theorem dL_law_491 : decode cL_law 491 = .ok (.iload_n 3, 1) := by decide +kernel
theorem dL_law_492 : decode cL_law 492 = .ok (.iconst 1, 1) := by decide +kernel
theorem dL_law_493 : decode cL_law 493 = .ok (.iadd, 1) := by decide +kernel
theorem dL_law_494 : decode cL_law 494 = .ok (.iaload, 1) := by decide +kernel
theorem dL_law_495 : decode cL_law 495 = .ok (.invokevirtual 63, 3) := by decide +kernel
theorem dL_law_498 : decode cL_law 498 = .ok (.if_icmp .eq 499, 3) := by decide +kernel
theorem dL_law_501 : decode cL_law 501 = .ok (.iconst 0, 1) := by decide +kernel
theorem dL_law_502 : decode cL_law 502 = .ok (.ireturn, 1) := by decide +kernel
theorem dL_law_503 : decode cL_law 503 = .ok (.aload_n 1, 1) := by decide +kernel
theorem dL_law_504 : decode cL_law 504 = .ok (.aload_n 0, 1) := by decide +kernel
theorem dL_law_505 : decode cL_law 505 = .ok (.iload_n 3, 1) := by decide +kernel
theorem dL_law_506 : decode cL_law 506 = .ok (.iconst 1, 1) := by decide +kernel
theorem dL_law_507 : decode cL_law 507 = .ok (.iadd, 1) := by decide +kernel
theorem dL_law_508 : decode cL_law 508 = .ok (.iaload, 1) := by decide +kernel
theorem dL_law_509 : decode cL_law 509 = .ok (.aload_n 0, 1) := by decide +kernel
theorem dL_law_510 : decode cL_law 510 = .ok (.iload_n 3, 1) := by decide +kernel
theorem dL_law_511 : decode cL_law 511 = .ok (.iconst 2, 1) := by decide +kernel
theorem dL_law_512 : decode cL_law 512 = .ok (.iadd, 1) := by decide +kernel
theorem dL_law_513 : decode cL_law 513 = .ok (.iaload, 1) := by decide +kernel
theorem dL_law_514 : decode cL_law 514 = .ok (.invokevirtual 64, 3) := by decide +kernel
theorem dL_law_517 : decode cL_law 517 = .ok (.aload_n 2, 1) := by decide +kernel
theorem dL_law_518 : decode cL_law 518 = .ok (.aload_n 0, 1) := by decide +kernel
theorem dL_law_519 : decode cL_law 519 = .ok (.iload_n 3, 1) := by decide +kernel
theorem dL_law_520 : decode cL_law 520 = .ok (.iconst 1, 1) := by decide +kernel
theorem dL_law_521 : decode cL_law 521 = .ok (.iadd, 1) := by decide +kernel
theorem dL_law_522 : decode cL_law 522 = .ok (.iaload, 1) := by decide +kernel
theorem dL_law_523 : decode cL_law 523 = .ok (.aload_n 0, 1) := by decide +kernel
theorem dL_law_524 : decode cL_law 524 = .ok (.iload_n 3, 1) := by decide +kernel
theorem dL_law_525 : decode cL_law 525 = .ok (.iconst 2, 1) := by decide +kernel
theorem dL_law_526 : decode cL_law 526 = .ok (.iadd, 1) := by decide +kernel
theorem dL_law_527 : decode cL_law 527 = .ok (.iaload, 1) := by decide +kernel
theorem dL_law_528 : decode cL_law 528 = .ok (.invokevirtual 67, 3) := by decide +kernel
theorem dL_law_531 : decode cL_law 531 = .ok (.if_icmp .eq 466, 3) := by decide +kernel
theorem dL_law_534 : decode cL_law 534 = .ok (.iconst 0, 1) := by decide +kernel
theorem dL_law_535 : decode cL_law 535 = .ok (.ireturn, 1) := by decide +kernel
theorem dL_law_536 : decode cL_law 536 = .ok (.aload_n 1, 1) := by decide +kernel
theorem dL_law_537 : decode cL_law 537 = .ok (.aload_n 0, 1) := by decide +kernel
theorem dL_law_538 : decode cL_law 538 = .ok (.iload_n 3, 1) := by decide +kernel
theorem dL_law_539 : decode cL_law 539 = .ok (.iconst 1, 1) := by decide +kernel
theorem dL_law_540 : decode cL_law 540 = .ok (.iadd, 1) := by decide +kernel
theorem dL_law_541 : decode cL_law 541 = .ok (.iaload, 1) := by decide +kernel
theorem dL_law_542 : decode cL_law 542 = .ok (.invokevirtual 68, 3) := by decide +kernel
theorem dL_law_545 : decode cL_law 545 = .ok (.aload_n 2, 1) := by decide +kernel
theorem dL_law_546 : decode cL_law 546 = .ok (.aload_n 0, 1) := by decide +kernel
theorem dL_law_547 : decode cL_law 547 = .ok (.iload_n 3, 1) := by decide +kernel
theorem dL_law_548 : decode cL_law 548 = .ok (.iconst 1, 1) := by decide +kernel
theorem dL_law_549 : decode cL_law 549 = .ok (.iadd, 1) := by decide +kernel
theorem dL_law_550 : decode cL_law 550 = .ok (.iaload, 1) := by decide +kernel
theorem dL_law_551 : decode cL_law 551 = .ok (.invokevirtual 71, 3) := by decide +kernel
theorem dL_law_554 : decode cL_law 554 = .ok (.if_icmp .eq 443, 3) := by decide +kernel
theorem dL_law_557 : decode cL_law 557 = .ok (.iconst 0, 1) := by decide +kernel
theorem dL_law_558 : decode cL_law 558 = .ok (.ireturn, 1) := by decide +kernel
theorem dL_law_559 : decode cL_law 559 = .ok (.aload_n 1, 1) := by decide +kernel
theorem dL_law_560 : decode cL_law 560 = .ok (.aload_n 0, 1) := by decide +kernel
theorem dL_law_561 : decode cL_law 561 = .ok (.iload_n 3, 1) := by decide +kernel
theorem dL_law_562 : decode cL_law 562 = .ok (.iconst 1, 1) := by decide +kernel
theorem dL_law_563 : decode cL_law 563 = .ok (.iadd, 1) := by decide +kernel
theorem dL_law_564 : decode cL_law 564 = .ok (.iaload, 1) := by decide +kernel
theorem dL_law_565 : decode cL_law 565 = .ok (.aload_n 0, 1) := by decide +kernel
theorem dL_law_566 : decode cL_law 566 = .ok (.iload_n 3, 1) := by decide +kernel
theorem dL_law_567 : decode cL_law 567 = .ok (.iconst 2, 1) := by decide +kernel
theorem dL_law_568 : decode cL_law 568 = .ok (.iadd, 1) := by decide +kernel
theorem dL_law_569 : decode cL_law 569 = .ok (.iaload, 1) := by decide +kernel
theorem dL_law_570 : decode cL_law 570 = .ok (.invokevirtual 72, 3) := by decide +kernel
theorem dL_law_573 : decode cL_law 573 = .ok (.aload_n 2, 1) := by decide +kernel
theorem dL_law_574 : decode cL_law 574 = .ok (.aload_n 0, 1) := by decide +kernel
theorem dL_law_575 : decode cL_law 575 = .ok (.iload_n 3, 1) := by decide +kernel
theorem dL_law_576 : decode cL_law 576 = .ok (.iconst 1, 1) := by decide +kernel
theorem dL_law_577 : decode cL_law 577 = .ok (.iadd, 1) := by decide +kernel
theorem dL_law_578 : decode cL_law 578 = .ok (.iaload, 1) := by decide +kernel
theorem dL_law_579 : decode cL_law 579 = .ok (.aload_n 0, 1) := by decide +kernel
theorem dL_law_580 : decode cL_law 580 = .ok (.iload_n 3, 1) := by decide +kernel
theorem dL_law_581 : decode cL_law 581 = .ok (.iconst 2, 1) := by decide +kernel
theorem dL_law_582 : decode cL_law 582 = .ok (.iadd, 1) := by decide +kernel
theorem dL_law_583 : decode cL_law 583 = .ok (.iaload, 1) := by decide +kernel
theorem dL_law_584 : decode cL_law 584 = .ok (.invokevirtual 75, 3) := by decide +kernel
theorem dL_law_587 : decode cL_law 587 = .ok (.if_icmp .eq 410, 3) := by decide +kernel
theorem dL_law_590 : decode cL_law 590 = .ok (.iconst 0, 1) := by decide +kernel
theorem dL_law_591 : decode cL_law 591 = .ok (.ireturn, 1) := by decide +kernel
theorem dL_law_592 : decode cL_law 592 = .ok (.aload_n 1, 1) := by decide +kernel
theorem dL_law_593 : decode cL_law 593 = .ok (.aload_n 0, 1) := by decide +kernel
theorem dL_law_594 : decode cL_law 594 = .ok (.iload_n 3, 1) := by decide +kernel
theorem dL_law_595 : decode cL_law 595 = .ok (.iconst 1, 1) := by decide +kernel
theorem dL_law_596 : decode cL_law 596 = .ok (.iadd, 1) := by decide +kernel
theorem dL_law_597 : decode cL_law 597 = .ok (.iaload, 1) := by decide +kernel
theorem dL_law_598 : decode cL_law 598 = .ok (.aload_n 0, 1) := by decide +kernel
theorem dL_law_599 : decode cL_law 599 = .ok (.iload_n 3, 1) := by decide +kernel
theorem dL_law_600 : decode cL_law 600 = .ok (.iconst 2, 1) := by decide +kernel
theorem dL_law_601 : decode cL_law 601 = .ok (.iadd, 1) := by decide +kernel
theorem dL_law_602 : decode cL_law 602 = .ok (.iaload, 1) := by decide +kernel
theorem dL_law_603 : decode cL_law 603 = .ok (.invokevirtual 76, 3) := by decide +kernel
theorem dL_law_606 : decode cL_law 606 = .ok (.aload_n 2, 1) := by decide +kernel
theorem dL_law_607 : decode cL_law 607 = .ok (.aload_n 0, 1) := by decide +kernel
theorem dL_law_608 : decode cL_law 608 = .ok (.iload_n 3, 1) := by decide +kernel
theorem dL_law_609 : decode cL_law 609 = .ok (.iconst 1, 1) := by decide +kernel
theorem dL_law_610 : decode cL_law 610 = .ok (.iadd, 1) := by decide +kernel
theorem dL_law_611 : decode cL_law 611 = .ok (.iaload, 1) := by decide +kernel
theorem dL_law_612 : decode cL_law 612 = .ok (.aload_n 0, 1) := by decide +kernel
theorem dL_law_613 : decode cL_law 613 = .ok (.iload_n 3, 1) := by decide +kernel
theorem dL_law_614 : decode cL_law 614 = .ok (.iconst 2, 1) := by decide +kernel
theorem dL_law_615 : decode cL_law 615 = .ok (.iadd, 1) := by decide +kernel
theorem dL_law_616 : decode cL_law 616 = .ok (.iaload, 1) := by decide +kernel
theorem dL_law_617 : decode cL_law 617 = .ok (.invokevirtual 79, 3) := by decide +kernel
theorem dL_law_620 : decode cL_law 620 = .ok (.if_icmp .eq 377, 3) := by decide +kernel
theorem dL_law_623 : decode cL_law 623 = .ok (.iconst 0, 1) := by decide +kernel
theorem dL_law_624 : decode cL_law 624 = .ok (.ireturn, 1) := by decide +kernel
theorem dL_law_625 : decode cL_law 625 = .ok (.aload_n 1, 1) := by decide +kernel
theorem dL_law_626 : decode cL_law 626 = .ok (.aload_n 0, 1) := by decide +kernel
theorem dL_law_627 : decode cL_law 627 = .ok (.iload_n 3, 1) := by decide +kernel
theorem dL_law_628 : decode cL_law 628 = .ok (.iconst 1, 1) := by decide +kernel
theorem dL_law_629 : decode cL_law 629 = .ok (.iadd, 1) := by decide +kernel
theorem dL_law_630 : decode cL_law 630 = .ok (.iaload, 1) := by decide +kernel
theorem dL_law_631 : decode cL_law 631 = .ok (.aload_n 0, 1) := by decide +kernel
theorem dL_law_632 : decode cL_law 632 = .ok (.iload_n 3, 1) := by decide +kernel
theorem dL_law_633 : decode cL_law 633 = .ok (.iconst 2, 1) := by decide +kernel
theorem dL_law_634 : decode cL_law 634 = .ok (.iadd, 1) := by decide +kernel
theorem dL_law_635 : decode cL_law 635 = .ok (.iaload, 1) := by decide +kernel
theorem dL_law_636 : decode cL_law 636 = .ok (.invokevirtual 80, 3) := by decide +kernel
theorem dL_law_639 : decode cL_law 639 = .ok (.aload_n 2, 1) := by decide +kernel
theorem dL_law_640 : decode cL_law 640 = .ok (.aload_n 0, 1) := by decide +kernel
theorem dL_law_641 : decode cL_law 641 = .ok (.iload_n 3, 1) := by decide +kernel
theorem dL_law_642 : decode cL_law 642 = .ok (.iconst 1, 1) := by decide +kernel
theorem dL_law_643 : decode cL_law 643 = .ok (.iadd, 1) := by decide +kernel
theorem dL_law_644 : decode cL_law 644 = .ok (.iaload, 1) := by decide +kernel
theorem dL_law_645 : decode cL_law 645 = .ok (.aload_n 0, 1) := by decide +kernel
theorem dL_law_646 : decode cL_law 646 = .ok (.iload_n 3, 1) := by decide +kernel
theorem dL_law_647 : decode cL_law 647 = .ok (.iconst 2, 1) := by decide +kernel
theorem dL_law_648 : decode cL_law 648 = .ok (.iadd, 1) := by decide +kernel
theorem dL_law_649 : decode cL_law 649 = .ok (.iaload, 1) := by decide +kernel
theorem dL_law_650 : decode cL_law 650 = .ok (.invokevirtual 83, 3) := by decide +kernel
theorem dL_law_653 : decode cL_law 653 = .ok (.if_icmp .eq 344, 3) := by decide +kernel
theorem dL_law_656 : decode cL_law 656 = .ok (.iconst 0, 1) := by decide +kernel
theorem dL_law_657 : decode cL_law 657 = .ok (.ireturn, 1) := by decide +kernel
theorem dL_law_658 : decode cL_law 658 = .ok (.aload_n 1, 1) := by decide +kernel
theorem dL_law_659 : decode cL_law 659 = .ok (.aload_n 0, 1) := by decide +kernel
theorem dL_law_660 : decode cL_law 660 = .ok (.iload_n 3, 1) := by decide +kernel
theorem dL_law_661 : decode cL_law 661 = .ok (.iconst 1, 1) := by decide +kernel
theorem dL_law_662 : decode cL_law 662 = .ok (.iadd, 1) := by decide +kernel
theorem dL_law_663 : decode cL_law 663 = .ok (.iaload, 1) := by decide +kernel
theorem dL_law_664 : decode cL_law 664 = .ok (.aload_n 0, 1) := by decide +kernel
theorem dL_law_665 : decode cL_law 665 = .ok (.iload_n 3, 1) := by decide +kernel
theorem dL_law_666 : decode cL_law 666 = .ok (.iconst 2, 1) := by decide +kernel
theorem dL_law_667 : decode cL_law 667 = .ok (.iadd, 1) := by decide +kernel
theorem dL_law_668 : decode cL_law 668 = .ok (.iaload, 1) := by decide +kernel
theorem dL_law_669 : decode cL_law 669 = .ok (.invokevirtual 84, 3) := by decide +kernel
theorem dL_law_672 : decode cL_law 672 = .ok (.aload_n 2, 1) := by decide +kernel
theorem dL_law_673 : decode cL_law 673 = .ok (.aload_n 0, 1) := by decide +kernel
theorem dL_law_674 : decode cL_law 674 = .ok (.iload_n 3, 1) := by decide +kernel
theorem dL_law_675 : decode cL_law 675 = .ok (.iconst 1, 1) := by decide +kernel
theorem dL_law_676 : decode cL_law 676 = .ok (.iadd, 1) := by decide +kernel
theorem dL_law_677 : decode cL_law 677 = .ok (.iaload, 1) := by decide +kernel
theorem dL_law_678 : decode cL_law 678 = .ok (.aload_n 0, 1) := by decide +kernel
theorem dL_law_679 : decode cL_law 679 = .ok (.iload_n 3, 1) := by decide +kernel
theorem dL_law_680 : decode cL_law 680 = .ok (.iconst 2, 1) := by decide +kernel
theorem dL_law_681 : decode cL_law 681 = .ok (.iadd, 1) := by decide +kernel
theorem dL_law_682 : decode cL_law 682 = .ok (.iaload, 1) := by decide +kernel
theorem dL_law_683 : decode cL_law 683 = .ok (.invokevirtual 87, 3) := by decide +kernel
theorem dL_law_686 : decode cL_law 686 = .ok (.if_icmp .eq 311, 3) := by decide +kernel
theorem dL_law_689 : decode cL_law 689 = .ok (.iconst 0, 1) := by decide +kernel
theorem dL_law_690 : decode cL_law 690 = .ok (.ireturn, 1) := by decide +kernel
theorem dL_law_691 : decode cL_law 691 = .ok (.aload_n 1, 1) := by decide +kernel
theorem dL_law_692 : decode cL_law 692 = .ok (.aload_n 0, 1) := by decide +kernel
theorem dL_law_693 : decode cL_law 693 = .ok (.iload_n 3, 1) := by decide +kernel
theorem dL_law_694 : decode cL_law 694 = .ok (.iconst 1, 1) := by decide +kernel
theorem dL_law_695 : decode cL_law 695 = .ok (.iadd, 1) := by decide +kernel
theorem dL_law_696 : decode cL_law 696 = .ok (.iaload, 1) := by decide +kernel
theorem dL_law_697 : decode cL_law 697 = .ok (.aload_n 0, 1) := by decide +kernel
theorem dL_law_698 : decode cL_law 698 = .ok (.iload_n 3, 1) := by decide +kernel
theorem dL_law_699 : decode cL_law 699 = .ok (.iconst 2, 1) := by decide +kernel
theorem dL_law_700 : decode cL_law 700 = .ok (.iadd, 1) := by decide +kernel
theorem dL_law_701 : decode cL_law 701 = .ok (.iaload, 1) := by decide +kernel
theorem dL_law_702 : decode cL_law 702 = .ok (.invokevirtual 88, 3) := by decide +kernel
theorem dL_law_705 : decode cL_law 705 = .ok (.aload_n 2, 1) := by decide +kernel
theorem dL_law_706 : decode cL_law 706 = .ok (.aload_n 0, 1) := by decide +kernel
theorem dL_law_707 : decode cL_law 707 = .ok (.iload_n 3, 1) := by decide +kernel
theorem dL_law_708 : decode cL_law 708 = .ok (.iconst 1, 1) := by decide +kernel
theorem dL_law_709 : decode cL_law 709 = .ok (.iadd, 1) := by decide +kernel
theorem dL_law_710 : decode cL_law 710 = .ok (.iaload, 1) := by decide +kernel
theorem dL_law_711 : decode cL_law 711 = .ok (.aload_n 0, 1) := by decide +kernel
theorem dL_law_712 : decode cL_law 712 = .ok (.iload_n 3, 1) := by decide +kernel
theorem dL_law_713 : decode cL_law 713 = .ok (.iconst 2, 1) := by decide +kernel
theorem dL_law_714 : decode cL_law 714 = .ok (.iadd, 1) := by decide +kernel
theorem dL_law_715 : decode cL_law 715 = .ok (.iaload, 1) := by decide +kernel
theorem dL_law_716 : decode cL_law 716 = .ok (.invokevirtual 91, 3) := by decide +kernel
theorem dL_law_719 : decode cL_law 719 = .ok (.if_icmp .eq 278, 3) := by decide +kernel
theorem dL_law_722 : decode cL_law 722 = .ok (.iconst 0, 1) := by decide +kernel
theorem dL_law_723 : decode cL_law 723 = .ok (.ireturn, 1) := by decide +kernel
theorem dL_law_724 : decode cL_law 724 = .ok (.aload_n 1, 1) := by decide +kernel
theorem dL_law_725 : decode cL_law 725 = .ok (.aload_n 0, 1) := by decide +kernel
theorem dL_law_726 : decode cL_law 726 = .ok (.iload_n 3, 1) := by decide +kernel
theorem dL_law_727 : decode cL_law 727 = .ok (.iconst 1, 1) := by decide +kernel
theorem dL_law_728 : decode cL_law 728 = .ok (.iadd, 1) := by decide +kernel
theorem dL_law_729 : decode cL_law 729 = .ok (.iaload, 1) := by decide +kernel
theorem dL_law_730 : decode cL_law 730 = .ok (.aload_n 0, 1) := by decide +kernel
theorem dL_law_731 : decode cL_law 731 = .ok (.iload_n 3, 1) := by decide +kernel
theorem dL_law_732 : decode cL_law 732 = .ok (.iconst 2, 1) := by decide +kernel
theorem dL_law_733 : decode cL_law 733 = .ok (.iadd, 1) := by decide +kernel
theorem dL_law_734 : decode cL_law 734 = .ok (.iaload, 1) := by decide +kernel
theorem dL_law_735 : decode cL_law 735 = .ok (.aload_n 0, 1) := by decide +kernel
theorem dL_law_736 : decode cL_law 736 = .ok (.iload_n 3, 1) := by decide +kernel
theorem dL_law_737 : decode cL_law 737 = .ok (.iconst 3, 1) := by decide +kernel
theorem dL_law_738 : decode cL_law 738 = .ok (.iadd, 1) := by decide +kernel
theorem dL_law_739 : decode cL_law 739 = .ok (.iaload, 1) := by decide +kernel
theorem dL_law_740 : decode cL_law 740 = .ok (.aload_n 0, 1) := by decide +kernel
theorem dL_law_741 : decode cL_law 741 = .ok (.iload_n 3, 1) := by decide +kernel
theorem dL_law_742 : decode cL_law 742 = .ok (.iconst 4, 1) := by decide +kernel
theorem dL_law_743 : decode cL_law 743 = .ok (.iadd, 1) := by decide +kernel
theorem dL_law_744 : decode cL_law 744 = .ok (.iaload, 1) := by decide +kernel
theorem dL_law_745 : decode cL_law 745 = .ok (.invokevirtual 92, 3) := by decide +kernel
theorem dL_law_748 : decode cL_law 748 = .ok (.aload_n 2, 1) := by decide +kernel
theorem dL_law_749 : decode cL_law 749 = .ok (.aload_n 0, 1) := by decide +kernel
theorem dL_law_750 : decode cL_law 750 = .ok (.iload_n 3, 1) := by decide +kernel
theorem dL_law_751 : decode cL_law 751 = .ok (.iconst 1, 1) := by decide +kernel
theorem dL_law_752 : decode cL_law 752 = .ok (.iadd, 1) := by decide +kernel
theorem dL_law_753 : decode cL_law 753 = .ok (.iaload, 1) := by decide +kernel
theorem dL_law_754 : decode cL_law 754 = .ok (.aload_n 0, 1) := by decide +kernel
theorem dL_law_755 : decode cL_law 755 = .ok (.iload_n 3, 1) := by decide +kernel
theorem dL_law_756 : decode cL_law 756 = .ok (.iconst 2, 1) := by decide +kernel
theorem dL_law_757 : decode cL_law 757 = .ok (.iadd, 1) := by decide +kernel
theorem dL_law_758 : decode cL_law 758 = .ok (.iaload, 1) := by decide +kernel
theorem dL_law_759 : decode cL_law 759 = .ok (.aload_n 0, 1) := by decide +kernel
theorem dL_law_760 : decode cL_law 760 = .ok (.iload_n 3, 1) := by decide +kernel
theorem dL_law_761 : decode cL_law 761 = .ok (.iconst 3, 1) := by decide +kernel
theorem dL_law_762 : decode cL_law 762 = .ok (.iadd, 1) := by decide +kernel
theorem dL_law_763 : decode cL_law 763 = .ok (.iaload, 1) := by decide +kernel
theorem dL_law_764 : decode cL_law 764 = .ok (.aload_n 0, 1) := by decide +kernel
theorem dL_law_765 : decode cL_law 765 = .ok (.iload_n 3, 1) := by decide +kernel
theorem dL_law_766 : decode cL_law 766 = .ok (.iconst 4, 1) := by decide +kernel
theorem dL_law_767 : decode cL_law 767 = .ok (.iadd, 1) := by decide +kernel
theorem dL_law_768 : decode cL_law 768 = .ok (.iaload, 1) := by decide +kernel
theorem dL_law_769 : decode cL_law 769 = .ok (.invokevirtual 96, 3) := by decide +kernel
theorem dL_law_772 : decode cL_law 772 = .ok (.if_icmp .eq 225, 3) := by decide +kernel
theorem dL_law_775 : decode cL_law 775 = .ok (.iconst 0, 1) := by decide +kernel
theorem dL_law_776 : decode cL_law 776 = .ok (.ireturn, 1) := by decide +kernel
theorem dL_law_777 : decode cL_law 777 = .ok (.aload_n 1, 1) := by decide +kernel
theorem dL_law_778 : decode cL_law 778 = .ok (.aload_n 0, 1) := by decide +kernel
theorem dL_law_779 : decode cL_law 779 = .ok (.iload_n 3, 1) := by decide +kernel
theorem dL_law_780 : decode cL_law 780 = .ok (.iconst 1, 1) := by decide +kernel
theorem dL_law_781 : decode cL_law 781 = .ok (.iadd, 1) := by decide +kernel
theorem dL_law_782 : decode cL_law 782 = .ok (.iaload, 1) := by decide +kernel
theorem dL_law_783 : decode cL_law 783 = .ok (.invokevirtual 97, 3) := by decide +kernel
theorem dL_law_786 : decode cL_law 786 = .ok (.aload_n 2, 1) := by decide +kernel
theorem dL_law_787 : decode cL_law 787 = .ok (.aload_n 0, 1) := by decide +kernel
theorem dL_law_788 : decode cL_law 788 = .ok (.iload_n 3, 1) := by decide +kernel
theorem dL_law_789 : decode cL_law 789 = .ok (.iconst 1, 1) := by decide +kernel
theorem dL_law_790 : decode cL_law 790 = .ok (.iadd, 1) := by decide +kernel
theorem dL_law_791 : decode cL_law 791 = .ok (.iaload, 1) := by decide +kernel
theorem dL_law_792 : decode cL_law 792 = .ok (.invokevirtual 100, 3) := by decide +kernel
theorem dL_law_795 : decode cL_law 795 = .ok (.if_icmp .eq 202, 3) := by decide +kernel
theorem dL_law_798 : decode cL_law 798 = .ok (.iconst 0, 1) := by decide +kernel
theorem dL_law_799 : decode cL_law 799 = .ok (.ireturn, 1) := by decide +kernel
theorem dL_law_800 : decode cL_law 800 = .ok (.aload_n 1, 1) := by decide +kernel
theorem dL_law_801 : decode cL_law 801 = .ok (.aload_n 0, 1) := by decide +kernel
theorem dL_law_802 : decode cL_law 802 = .ok (.iload_n 3, 1) := by decide +kernel
theorem dL_law_803 : decode cL_law 803 = .ok (.iconst 1, 1) := by decide +kernel
theorem dL_law_804 : decode cL_law 804 = .ok (.iadd, 1) := by decide +kernel
theorem dL_law_805 : decode cL_law 805 = .ok (.iaload, 1) := by decide +kernel
theorem dL_law_806 : decode cL_law 806 = .ok (.aload_n 0, 1) := by decide +kernel
theorem dL_law_807 : decode cL_law 807 = .ok (.iload_n 3, 1) := by decide +kernel
theorem dL_law_808 : decode cL_law 808 = .ok (.iconst 2, 1) := by decide +kernel
theorem dL_law_809 : decode cL_law 809 = .ok (.iadd, 1) := by decide +kernel
theorem dL_law_810 : decode cL_law 810 = .ok (.iaload, 1) := by decide +kernel
theorem dL_law_811 : decode cL_law 811 = .ok (.invokevirtual 101, 3) := by decide +kernel
theorem dL_law_814 : decode cL_law 814 = .ok (.aload_n 2, 1) := by decide +kernel
theorem dL_law_815 : decode cL_law 815 = .ok (.aload_n 0, 1) := by decide +kernel
theorem dL_law_816 : decode cL_law 816 = .ok (.iload_n 3, 1) := by decide +kernel
theorem dL_law_817 : decode cL_law 817 = .ok (.iconst 1, 1) := by decide +kernel
theorem dL_law_818 : decode cL_law 818 = .ok (.iadd, 1) := by decide +kernel
theorem dL_law_819 : decode cL_law 819 = .ok (.iaload, 1) := by decide +kernel
theorem dL_law_820 : decode cL_law 820 = .ok (.aload_n 0, 1) := by decide +kernel
theorem dL_law_821 : decode cL_law 821 = .ok (.iload_n 3, 1) := by decide +kernel
theorem dL_law_822 : decode cL_law 822 = .ok (.iconst 2, 1) := by decide +kernel
theorem dL_law_823 : decode cL_law 823 = .ok (.iadd, 1) := by decide +kernel
theorem dL_law_824 : decode cL_law 824 = .ok (.iaload, 1) := by decide +kernel
theorem dL_law_825 : decode cL_law 825 = .ok (.invokevirtual 104, 3) := by decide +kernel
theorem dL_law_828 : decode cL_law 828 = .ok (.if_icmp .eq 169, 3) := by decide +kernel
theorem dL_law_831 : decode cL_law 831 = .ok (.iconst 0, 1) := by decide +kernel
theorem dL_law_832 : decode cL_law 832 = .ok (.ireturn, 1) := by decide +kernel
theorem dL_law_833 : decode cL_law 833 = .ok (.aload_n 1, 1) := by decide +kernel
theorem dL_law_834 : decode cL_law 834 = .ok (.invokevirtual 105, 3) := by decide +kernel
theorem dL_law_837 : decode cL_law 837 = .ok (.aload_n 2, 1) := by decide +kernel
theorem dL_law_838 : decode cL_law 838 = .ok (.invokevirtual 108, 3) := by decide +kernel
theorem dL_law_841 : decode cL_law 841 = .ok (.if_icmp .eq 156, 3) := by decide +kernel
theorem dL_law_844 : decode cL_law 844 = .ok (.iconst 0, 1) := by decide +kernel
theorem dL_law_845 : decode cL_law 845 = .ok (.ireturn, 1) := by decide +kernel
theorem dL_law_846 : decode cL_law 846 = .ok (.aload_n 1, 1) := by decide +kernel
theorem dL_law_847 : decode cL_law 847 = .ok (.aload_n 0, 1) := by decide +kernel
theorem dL_law_848 : decode cL_law 848 = .ok (.iload_n 3, 1) := by decide +kernel
theorem dL_law_849 : decode cL_law 849 = .ok (.iconst 1, 1) := by decide +kernel
theorem dL_law_850 : decode cL_law 850 = .ok (.iadd, 1) := by decide +kernel
theorem dL_law_851 : decode cL_law 851 = .ok (.iaload, 1) := by decide +kernel
theorem dL_law_852 : decode cL_law 852 = .ok (.invokevirtual 109, 3) := by decide +kernel
theorem dL_law_855 : decode cL_law 855 = .ok (.aload_n 2, 1) := by decide +kernel
theorem dL_law_856 : decode cL_law 856 = .ok (.aload_n 0, 1) := by decide +kernel
theorem dL_law_857 : decode cL_law 857 = .ok (.iload_n 3, 1) := by decide +kernel
theorem dL_law_858 : decode cL_law 858 = .ok (.iconst 1, 1) := by decide +kernel
theorem dL_law_859 : decode cL_law 859 = .ok (.iadd, 1) := by decide +kernel
theorem dL_law_860 : decode cL_law 860 = .ok (.iaload, 1) := by decide +kernel
theorem dL_law_861 : decode cL_law 861 = .ok (.invokevirtual 112, 3) := by decide +kernel
theorem dL_law_864 : decode cL_law 864 = .ok (.if_icmp .eq 133, 3) := by decide +kernel
theorem dL_law_867 : decode cL_law 867 = .ok (.iconst 0, 1) := by decide +kernel
theorem dL_law_868 : decode cL_law 868 = .ok (.ireturn, 1) := by decide +kernel
theorem dL_law_869 : decode cL_law 869 = .ok (.aload_n 1, 1) := by decide +kernel
theorem dL_law_870 : decode cL_law 870 = .ok (.aload_n 0, 1) := by decide +kernel
theorem dL_law_871 : decode cL_law 871 = .ok (.iload_n 3, 1) := by decide +kernel
theorem dL_law_872 : decode cL_law 872 = .ok (.iconst 1, 1) := by decide +kernel
theorem dL_law_873 : decode cL_law 873 = .ok (.iadd, 1) := by decide +kernel
theorem dL_law_874 : decode cL_law 874 = .ok (.iaload, 1) := by decide +kernel
theorem dL_law_875 : decode cL_law 875 = .ok (.aload_n 0, 1) := by decide +kernel
theorem dL_law_876 : decode cL_law 876 = .ok (.iload_n 3, 1) := by decide +kernel
theorem dL_law_877 : decode cL_law 877 = .ok (.iconst 2, 1) := by decide +kernel
theorem dL_law_878 : decode cL_law 878 = .ok (.iadd, 1) := by decide +kernel
theorem dL_law_879 : decode cL_law 879 = .ok (.iaload, 1) := by decide +kernel
theorem dL_law_880 : decode cL_law 880 = .ok (.invokevirtual 113, 3) := by decide +kernel
theorem dL_law_883 : decode cL_law 883 = .ok (.aload_n 2, 1) := by decide +kernel
theorem dL_law_884 : decode cL_law 884 = .ok (.aload_n 0, 1) := by decide +kernel
theorem dL_law_885 : decode cL_law 885 = .ok (.iload_n 3, 1) := by decide +kernel
theorem dL_law_886 : decode cL_law 886 = .ok (.iconst 1, 1) := by decide +kernel
theorem dL_law_887 : decode cL_law 887 = .ok (.iadd, 1) := by decide +kernel
theorem dL_law_888 : decode cL_law 888 = .ok (.iaload, 1) := by decide +kernel
theorem dL_law_889 : decode cL_law 889 = .ok (.aload_n 0, 1) := by decide +kernel
theorem dL_law_890 : decode cL_law 890 = .ok (.iload_n 3, 1) := by decide +kernel
theorem dL_law_891 : decode cL_law 891 = .ok (.iconst 2, 1) := by decide +kernel
theorem dL_law_892 : decode cL_law 892 = .ok (.iadd, 1) := by decide +kernel
theorem dL_law_893 : decode cL_law 893 = .ok (.iaload, 1) := by decide +kernel
theorem dL_law_894 : decode cL_law 894 = .ok (.invokevirtual 116, 3) := by decide +kernel
theorem dL_law_897 : decode cL_law 897 = .ok (.if_icmp .eq 100, 3) := by decide +kernel
theorem dL_law_900 : decode cL_law 900 = .ok (.iconst 0, 1) := by decide +kernel
theorem dL_law_901 : decode cL_law 901 = .ok (.ireturn, 1) := by decide +kernel
theorem dL_law_902 : decode cL_law 902 = .ok (.aload_n 1, 1) := by decide +kernel
theorem dL_law_903 : decode cL_law 903 = .ok (.invokevirtual 117, 3) := by decide +kernel
theorem dL_law_906 : decode cL_law 906 = .ok (.aload_n 2, 1) := by decide +kernel
theorem dL_law_907 : decode cL_law 907 = .ok (.invokevirtual 120, 3) := by decide +kernel
theorem dL_law_910 : decode cL_law 910 = .ok (.if_icmp .eq 87, 3) := by decide +kernel
theorem dL_law_913 : decode cL_law 913 = .ok (.iconst 0, 1) := by decide +kernel
theorem dL_law_914 : decode cL_law 914 = .ok (.ireturn, 1) := by decide +kernel
theorem dL_law_915 : decode cL_law 915 = .ok (.aload_n 1, 1) := by decide +kernel
theorem dL_law_916 : decode cL_law 916 = .ok (.invokevirtual 121, 3) := by decide +kernel
theorem dL_law_919 : decode cL_law 919 = .ok (.aload_n 2, 1) := by decide +kernel
theorem dL_law_920 : decode cL_law 920 = .ok (.invokevirtual 124, 3) := by decide +kernel
theorem dL_law_923 : decode cL_law 923 = .ok (.if_icmp .eq 74, 3) := by decide +kernel
theorem dL_law_926 : decode cL_law 926 = .ok (.iconst 0, 1) := by decide +kernel
theorem dL_law_927 : decode cL_law 927 = .ok (.ireturn, 1) := by decide +kernel
theorem dL_law_928 : decode cL_law 928 = .ok (.aload_n 1, 1) := by decide +kernel
theorem dL_law_929 : decode cL_law 929 = .ok (.aload_n 0, 1) := by decide +kernel
theorem dL_law_930 : decode cL_law 930 = .ok (.iload_n 3, 1) := by decide +kernel
theorem dL_law_931 : decode cL_law 931 = .ok (.iconst 1, 1) := by decide +kernel
theorem dL_law_932 : decode cL_law 932 = .ok (.iadd, 1) := by decide +kernel
theorem dL_law_933 : decode cL_law 933 = .ok (.iaload, 1) := by decide +kernel
theorem dL_law_934 : decode cL_law 934 = .ok (.invokevirtual 125, 3) := by decide +kernel
theorem dL_law_937 : decode cL_law 937 = .ok (.aload_n 2, 1) := by decide +kernel
theorem dL_law_938 : decode cL_law 938 = .ok (.aload_n 0, 1) := by decide +kernel
theorem dL_law_939 : decode cL_law 939 = .ok (.iload_n 3, 1) := by decide +kernel
theorem dL_law_940 : decode cL_law 940 = .ok (.iconst 1, 1) := by decide +kernel
theorem dL_law_941 : decode cL_law 941 = .ok (.iadd, 1) := by decide +kernel
theorem dL_law_942 : decode cL_law 942 = .ok (.iaload, 1) := by decide +kernel
theorem dL_law_943 : decode cL_law 943 = .ok (.invokevirtual 128, 3) := by decide +kernel
theorem dL_law_946 : decode cL_law 946 = .ok (.if_icmp .eq 51, 3) := by decide +kernel
theorem dL_law_949 : decode cL_law 949 = .ok (.iconst 0, 1) := by decide +kernel
theorem dL_law_950 : decode cL_law 950 = .ok (.ireturn, 1) := by decide +kernel
theorem dL_law_951 : decode cL_law 951 = .ok (.aload_n 1, 1) := by decide +kernel
theorem dL_law_952 : decode cL_law 952 = .ok (.aload_n 0, 1) := by decide +kernel
theorem dL_law_953 : decode cL_law 953 = .ok (.iload_n 3, 1) := by decide +kernel
theorem dL_law_954 : decode cL_law 954 = .ok (.iconst 1, 1) := by decide +kernel
theorem dL_law_955 : decode cL_law 955 = .ok (.iadd, 1) := by decide +kernel
theorem dL_law_956 : decode cL_law 956 = .ok (.iaload, 1) := by decide +kernel
theorem dL_law_957 : decode cL_law 957 = .ok (.invokevirtual 129, 3) := by decide +kernel
theorem dL_law_960 : decode cL_law 960 = .ok (.aload_n 2, 1) := by decide +kernel
theorem dL_law_961 : decode cL_law 961 = .ok (.aload_n 0, 1) := by decide +kernel
theorem dL_law_962 : decode cL_law 962 = .ok (.iload_n 3, 1) := by decide +kernel
theorem dL_law_963 : decode cL_law 963 = .ok (.iconst 1, 1) := by decide +kernel
theorem dL_law_964 : decode cL_law 964 = .ok (.iadd, 1) := by decide +kernel
theorem dL_law_965 : decode cL_law 965 = .ok (.iaload, 1) := by decide +kernel
theorem dL_law_966 : decode cL_law 966 = .ok (.invokevirtual 132, 3) := by decide +kernel
theorem dL_law_969 : decode cL_law 969 = .ok (.if_icmp .eq 28, 3) := by decide +kernel
theorem dL_law_972 : decode cL_law 972 = .ok (.iconst 0, 1) := by decide +kernel
theorem dL_law_973 : decode cL_law 973 = .ok (.ireturn, 1) := by decide +kernel
theorem dL_law_974 : decode cL_law 974 = .ok (.aload_n 1, 1) := by decide +kernel
theorem dL_law_975 : decode cL_law 975 = .ok (.aload_n 0, 1) := by decide +kernel
theorem dL_law_976 : decode cL_law 976 = .ok (.iload_n 3, 1) := by decide +kernel
theorem dL_law_977 : decode cL_law 977 = .ok (.iconst 1, 1) := by decide +kernel
theorem dL_law_978 : decode cL_law 978 = .ok (.iadd, 1) := by decide +kernel
theorem dL_law_979 : decode cL_law 979 = .ok (.iaload, 1) := by decide +kernel
theorem dL_law_980 : decode cL_law 980 = .ok (.invokevirtual 133, 3) := by decide +kernel
theorem dL_law_983 : decode cL_law 983 = .ok (.aload_n 2, 1) := by decide +kernel
theorem dL_law_984 : decode cL_law 984 = .ok (.aload_n 0, 1) := by decide +kernel
theorem dL_law_985 : decode cL_law 985 = .ok (.iload_n 3, 1) := by decide +kernel
theorem dL_law_986 : decode cL_law 986 = .ok (.iconst 1, 1) := by decide +kernel
theorem dL_law_987 : decode cL_law 987 = .ok (.iadd, 1) := by decide +kernel
theorem dL_law_988 : decode cL_law 988 = .ok (.iaload, 1) := by decide +kernel
theorem dL_law_989 : decode cL_law 989 = .ok (.invokevirtual 136, 3) := by decide +kernel
theorem dL_law_992 : decode cL_law 992 = .ok (.if_icmp .eq 5, 3) := by decide +kernel
theorem dL_law_995 : decode cL_law 995 = .ok (.iconst 0, 1) := by decide +kernel
theorem dL_law_996 : decode cL_law 996 = .ok (.ireturn, 1) := by decide +kernel
theorem dL_law_997 : decode cL_law 997 = .ok (.iinc 3 5, 3) := by decide +kernel
theorem dL_law_1000 : decode cL_law 1000 = .ok (.goto (-982), 3) := by decide +kernel
theorem dL_law_1003 : decode cL_law 1003 = .ok (.iconst 1, 1) := by decide +kernel
theorem dL_law_1004 : decode cL_law 1004 = .ok (.ireturn, 1) := by decide +kernel
end
section
/-! THE WALK WITHOUT THE MACHINE. A method's world is a list of cells; a reference is a PLACE in that list (ad: where the places lie). K pc ls st hs: from this point the machine comes to its end. -/
abbrev AL : Type := List (Nat × Value)
abbrev AK : Type := Nat → AL → List Value → List va_E → Prop
def tv (ad : Nat → Nat) : Value → Value
  | .ref a => .ref (ad a)
  | v => v
def te (cA : Nat → ClassId) (ad : Nat → Nat) : va_E → va_E
  | .inl (t, n, .inr (.inr (.inr (.inr f)))) => .inl (cA t, n, .inr (.inr (.inr (.inr (fun j => (f j).map ad)))))
  | .inl (t, x) => .inl (cA t, x)
  | .inr (c, fs) => .inr (c, fs.map (tv ad))
def tl (ad : Nat → Nat) (ls : AL) : AL := ls.map (fun q => (q.1, tv ad q.2))
def tw (cA : Nat → ClassId) (ad : Nat → Nat) (hs : List va_E) : va_W := hs.mapIdx (fun i e => (ad i, te cA ad e))
theorem tv_cat (ad : Nat → Nat) (v : Value) : (tv ad v).category = v.category := by cases v <;> rfl
theorem tv_tv (ad ρ : Nat → Nat) (v : Value) : tv ad (tv ρ v) = tv (fun j => ad (ρ j)) v := by cases v <;> rfl
theorem te_te (cA : Nat → ClassId) (ad ρ : Nat → Nat) (e : va_E) : te cA ad (te (fun t => t) ρ e) = te cA (fun j => ad (ρ j)) e := by
  cases e with
  | inl x =>
    obtain ⟨t, n, f⟩ := x
    rcases f with f | f | f | f | f
    · rfl
    · rfl
    · rfl
    · rfl
    · show Sum.inl _ = Sum.inl _
      have e0 : (fun j => Option.map ad (Option.map ρ (f j))) = (fun j => Option.map (fun j => ad (ρ j)) (f j)) := by
        funext j
        cases f j <;> rfl
      exact congrArg (fun g => (Sum.inl (cA t, n, Sum.inr (Sum.inr (Sum.inr (Sum.inr g)))) : va_E)) e0
  | inr x =>
    obtain ⟨c, fs⟩ := x
    show Sum.inr (c, (fs.map (tv ρ)).map (tv ad)) = Sum.inr (c, fs.map _)
    rw [List.map_map]
    have e0 : (tv ad ∘ tv ρ) = tv (fun j => ad (ρ j)) := by
      funext v
      exact tv_tv ad ρ v
    rw [e0]
theorem tw_get (cA : Nat → ClassId) (ad : Nat → Nat) (hs : List va_E) (i : Nat) : (tw cA ad hs)[i]? = (hs[i]?).map (fun e => (ad i, te cA ad e)) := by simp [tw]
theorem tw_len (cA : Nat → ClassId) (ad : Nat → Nat) (hs : List va_E) : (tw cA ad hs).length = hs.length := by simp [tw]
theorem tw_at {cA : Nat → ClassId} {ad : Nat → Nat} {hs : List va_E} {i : Nat} {e : va_E} (h : hs[i]? = some e) : (tw cA ad hs)[i]? = some (ad i, te cA ad e) := by rw [tw_get, h]; rfl
theorem tw_set (cA : Nat → ClassId) (ad : Nat → Nat) (hs : List va_E) (i : Nat) (e : va_E) : tw cA ad (hs.set i e) = (tw cA ad hs).set i (ad i, te cA ad e) := by
  apply List.ext_getElem?
  intro k
  rw [tw_get, List.getElem?_set, List.getElem?_set, tw_len, tw_get]
  by_cases h : i = k
  · subst h
    by_cases h2 : i < hs.length
    · simp [h2]
    · simp [h2]
  · simp [h]
theorem tv_args (ad : Nat → Nat) (vs : List Value) : ∀ i, lv_args i (vs.map (tv ad)) = tl ad (lv_args i vs) := by
  induction vs with
  | nil => intro i; rfl
  | cons v vs ih =>
    intro i
    show (i, tv ad v) :: lv_args (if (tv ad v).category = 2 then i + 2 else i + 1) (vs.map (tv ad)) = (i, tv ad v) :: tl ad (lv_args _ vs)
    rw [tv_cat, ih]
theorem tl_filter (ad : Nat → Nat) (p : Nat × Value → Bool) (hp : ∀ q : Nat × Value, p (q.1, tv ad q.2) = p q) (ls : AL) : (tl ad ls).filter p = tl ad (ls.filter p) := by
  induction ls with
  | nil => rfl
  | cons q ls ih =>
    show List.filter p ((q.1, tv ad q.2) :: tl ad ls) = _
    rw [List.filter_cons, List.filter_cons, hp q, ih]
    cases p q <;> rfl
/-- the locals behind a store -/
def st1 (i : Nat) (v : Value) (ls : AL) : AL := (i, v) :: ls.filter (fun q => !(q.1 == i) && !(q.1 + 1 == i && q.2.category == 2))
def st2 (i : Nat) (v : Value) (ls : AL) : AL := (i, v) :: ls.filter (fun q => !(q.1 == i) && (!(q.1 == i + 1) && !(q.1 + 1 == i && q.2.category == 2)))
theorem st1_tl (ad : Nat → Nat) (i : Nat) (v w : Value) (hw : tv ad v = w) (ls : AL) : (i, w) :: (tl ad ls).filter (fun q => !(q.1 == i) && !(q.1 + 1 == i && q.2.category == 2)) = tl ad (st1 i v ls) := by
  rw [tl_filter ad _ (fun q => by simp [tv_cat])]
  show _ = (i, tv ad v) :: _
  rw [hw]; rfl
theorem st2_tl (ad : Nat → Nat) (i : Nat) (v w : Value) (hw : tv ad v = w) (ls : AL) : (i, w) :: (tl ad ls).filter (fun q => !(q.1 == i) && (!(q.1 == i + 1) && !(q.1 + 1 == i && q.2.category == 2))) = tl ad (st2 i v ls) := by
  rw [tl_filter ad _ (fun q => by simp [tv_cat])]
  show _ = (i, tv ad v) :: _
  rw [hw]; rfl
theorem st1c_tl (ad : Nat → Nat) (i : Nat) (u v w : Value) (hw : tv ad v = w) (ls : AL) : (i, w) :: ((i, u) :: tl ad ls).filter (fun q => !(q.1 == i) && !(q.1 + 1 == i && q.2.category == 2)) = tl ad (st1 i v ls) := by
  rw [List.filter_cons]
  simp only [beq_self_eq_true, Bool.not_true, Bool.false_and, Bool.false_eq_true, if_false]
  exact st1_tl ad i v w hw ls
/-- reading a local -/
def lk (ls : AL) (i : Nat) : Option Value := (ls.find? (fun q => q.1 == i)).map (fun q => q.2)
theorem lk_at {ad : Nat → Nat} {lsC : Array Slot} {nL : Nat} {ls : AL} (h : lv_has lsC nL (tl ad ls)) {i : Nat} {v : Value} (hv : lk ls i = some v) : lsC[i]? = some (.val (tv ad v)) := by
  unfold lk at hv
  cases hq : ls.find? (fun q => q.1 == i) with
  | none => rw [hq] at hv; cases hv
  | some q =>
    rw [hq] at hv
    have h1 : q.2 = v := Option.some.inj hv
    have h2 := List.find?_some hq
    have h3 : q.1 = i := by simpa using h2
    have h4 : (q.1, tv ad q.2) ∈ tl ad ls := List.mem_map.mpr ⟨q, List.mem_of_find?_eq_some hq, rfl⟩
    have := h.2.2 _ h4
    rw [h3, h1] at this
    exact this
/-- the words that go from method to method; the nest mates' -/
def GW : List Cond := lw_tbl.filter goodWord
theorem gw {w : Cond} (i : Nat) (h : lw_tbl[i]? = some w) (hg : goodWord w = true) : w ∈ GW := List.mem_filter.mpr ⟨List.mem_of_getElem? h, hg⟩
theorem gw_good {w : Cond} (h : w ∈ GW) : (w.onTables && w.keeps) = true ∨ ∃ ty, w = .arrayClass ty := good_of_word (List.mem_filter.mp h).2
def isNM : Cond → Bool
  | .methodLinkNest _ _ _ _ => true
  | _ => false
def NL : List Cond := tables_1.filter isNM
def NWs (U : State) : Prop := ∀ w ∈ NL, va_Nw w U
theorem NWs.warm {s U : State} (hW : s.WarmedH U.vm) (h : NWs s) : NWs U := by
  intro w hw
  have h1 := h w hw
  have h2 := (List.mem_filter.mp hw).2
  cases w <;> first | (exact va_Nw.warmM hW h1) | (exact Bool.noConfusion h2)
theorem NWs.same {s U : State} (e : s.vm = U.vm) (h : NWs s) : NWs U := by
  intro w hw
  have h1 := h w hw
  have h2 := (List.mem_filter.mp hw).2
  cases w <;> first | (exact va_Nw.same rfl e h1) | (exact Bool.noConfusion h2)
def tyL (cA : Nat → ClassId) : List (ClassId × FieldType) := [(cA 0, .int), (cA 1, .byte), (cA 2, .long), (cA 3, .object "StripFlag$Cloth")]
def KX (D : va_G) (cA : Nat → ClassId) (U : State) : Prop := va_K D vwCl (tyL cA) U ∧ NWs U
theorem KX.warm {D : va_G} {cA : Nat → ClassId} {s U : State} (hW : s.WarmedH U.vm) (h : KX D cA s) : KX D cA U := ⟨va_K.moved hW.alike h.1, h.2.warm hW⟩
theorem va_D_len {A : Nat → Prop} {cA : Nat → ClassId} {ad : Nat → Nat} {hs hs' : List va_E} (hn : hs'.length = hs.length) (h : va_D A (tw cA ad hs)) : va_D A (tw cA ad hs') := by
  have key : ∀ (k : Nat) (q : Nat × va_E), (tw cA ad hs')[k]? = some q → q.1 = ad k ∧ ∃ q0, (tw cA ad hs)[k]? = some q0 ∧ q0.1 = ad k := by
    intro k q hk
    rw [tw_get] at hk
    have hlt : k < hs'.length := by
      rcases Nat.lt_or_ge k hs'.length with h | h
      · exact h
      · rw [List.getElem?_eq_none h] at hk; cases hk
    have hlt2 : k < hs.length := by omega
    refine ⟨?_, (ad k, te cA ad hs[k]), ?_, rfl⟩
    · rw [List.getElem?_eq_getElem hlt] at hk
      rw [← Option.some.inj hk]
    · rw [tw_get, List.getElem?_eq_getElem hlt2]; rfl
  refine ⟨fun i j p q hi hj e => ?_, fun k q hk => ?_⟩
  · obtain ⟨e1, p0, h1, f1⟩ := key i p hi
    obtain ⟨e2, q0, h2, f2⟩ := key j q hj
    exact h.1 i j p0 q0 h1 h2 (by rw [f1, f2, ← e1, ← e2, e])
  · obtain ⟨e1, p0, h1, f1⟩ := key k q hk
    have := h.2 k p0 h1
    rw [e1, ← f1]; exact this
theorem va_A_len {cA : Nat → ClassId} {ad : Nat → Nat} {hs hs' : List va_E} {sz : Nat} (hn : hs'.length = hs.length) : va_A (tw cA ad hs') sz = va_A (tw cA ad hs) sz := by
  have key : ∀ (h1 h2 : List va_E), h2.length = h1.length → ∀ q, va_A (tw cA ad h1) sz q → va_A (tw cA ad h2) sz q := by
    intro h1 h2 hn q hq
    rcases hq with ⟨k, e, hk⟩ | hq
    · rw [tw_get] at hk
      have hlt : k < h1.length := by
        rcases Nat.lt_or_ge k h1.length with h | h
        · exact h
        · rw [List.getElem?_eq_none h] at hk; cases hk
      rw [List.getElem?_eq_getElem hlt] at hk
      have hlt2 : k < h2.length := by omega
      have e1 : ad k = q := congrArg Prod.fst (Option.some.inj hk)
      exact Or.inl ⟨k, te cA ad h2[k], by rw [tw_get, List.getElem?_eq_getElem hlt2, ← e1]; rfl⟩
    · exact Or.inr hq
  funext q
  exact propext ⟨key hs' hs hn.symm q, key hs hs' hn q⟩
/-- the point of a walk: from here the machine comes to its end -/
def Go (p : Program) (l : Launch) (e : Env) (R : Room) (s : State) (m : MethodId) (args : Array Value) (below : List Frame) (meth : Method) (c : Code) (D : va_G) (cA : Nat → ClassId) (ad : Nat → Nat) (A0 : Nat → Prop) (H0 : Heap) (nL N ck sk : Nat) (Q : State → Prop) : AK :=
  fun pc ls st hs => hs.length = N → ∀ (H : Heap) (locs : List Loc) (lsC : Array Slot), va_P D vwCl (tw cA ad hs) H → va_S A0 H0 H locs → lv_has lsC nL (tl ad ls) → W p l e R s m args below meth c H locs ck sk Q (F0 m pc lsC (st.map (tv ad)))
def GC (p : Program) (R : Room) (s : State) (m : MethodId) (args : Array Value) (c : Code) (D : va_G) (cA : Nat → ClassId) (ad : Nat → Nat) (A0 : Nat → Prop) (H0 : Heap) (nL N ck sk : Nat) (cc : ByteArray) (own : String) : Prop :=
  p.tables.exec = Jvm.exec ∧ c.code = cc ∧ c.maxLocals = nL ∧ s.vm.findClass own = some m.cls ∧ (∀ w ∈ GW, w.before args s = true) ∧ KX D cA s ∧ (∀ hs : List va_E, hs.length = N → va_D A0 (tw cA ad hs)) ∧ (∀ q, H0.size ≤ q → A0 q) ∧ (ck ≤ R.cells ∧ sk ≤ R.slots)
def Cl (l : Launch) (cc : ByteArray) (own : String) (nL : Nat) (R : Room) (K : AK) : Prop :=
  ∃ (p : Program) (e : Env) (s : State) (m : MethodId) (args : Array Value) (below : List Frame) (meth : Method) (c : Code) (D : va_G) (cA : Nat → ClassId) (ad : Nat → Nat) (A0 : Nat → Prop) (H0 : Heap) (N ck sk : Nat) (Q : State → Prop),
    GC p R s m args c D cA ad A0 H0 nL N ck sk cc own ∧ K = Go p l e R s m args below meth c D cA ad A0 H0 nL N ck sk Q
section CLR
variable {l : Launch} {cc : ByteArray} {own : String} {nL : Nat} {R : Room} {K : AK} {pc : Nat} {ls : AL} {st : List Value} {hs : List va_E}

theorem Cl.iconst (h : Cl l cc own nL R K) {n : Int} {v : Int32} (hd : decode cc pc = .ok (.iconst n, 1)) (hv : Int32.ofInt n = v) (k : K (pc + 1) ls (.int v :: st) hs) : K pc ls st hs := by
  obtain ⟨p, e, s, m, args, below, meth, c, D, cA, ad, A0, H0, N, ck, sk, Q, ⟨hx, hb, hml, hown, hts, hKX, hD0, hA0, hcs⟩, rfl⟩ := h
  intro hn H locs lsC hP hS hl
  exact lv_iconst hx hb hd hv (k hn H locs lsC hP hS hl)
theorem Cl.bipush (h : Cl l cc own nL R K) {n : Int} {v : Int32} (hd : decode cc pc = .ok (.bipush n, 2)) (hv : (Int8.ofInt n).toInt32 = v) (k : K (pc + 2) ls (.int v :: st) hs) : K pc ls st hs := by
  obtain ⟨p, e, s, m, args, below, meth, c, D, cA, ad, A0, H0, N, ck, sk, Q, ⟨hx, hb, hml, hown, hts, hKX, hD0, hA0, hcs⟩, rfl⟩ := h
  intro hn H locs lsC hP hS hl
  exact lv_bipush hx hb hd hv (k hn H locs lsC hP hS hl)
theorem Cl.sipush (h : Cl l cc own nL R K) {n : Int} {v : Int32} (hd : decode cc pc = .ok (.sipush n, 3)) (hv : (Int16.ofInt n).toInt32 = v) (k : K (pc + 3) ls (.int v :: st) hs) : K pc ls st hs := by
  obtain ⟨p, e, s, m, args, below, meth, c, D, cA, ad, A0, H0, N, ck, sk, Q, ⟨hx, hb, hml, hown, hts, hKX, hD0, hA0, hcs⟩, rfl⟩ := h
  intro hn H locs lsC hP hS hl
  exact lv_sipush hx hb hd hv (k hn H locs lsC hP hS hl)
theorem Cl.lconst (h : Cl l cc own nL R K) {n : Fin 2} {v : Int64} (hd : decode cc pc = .ok (.lconst n, 1)) (hv : Int64.ofNat (n : Nat) = v) (k : K (pc + 1) ls (.long v :: st) hs) : K pc ls st hs := by
  obtain ⟨p, e, s, m, args, below, meth, c, D, cA, ad, A0, H0, N, ck, sk, Q, ⟨hx, hb, hml, hown, hts, hKX, hD0, hA0, hcs⟩, rfl⟩ := h
  intro hn H locs lsC hP hS hl
  exact lv_lconst hx hb hd hv (k hn H locs lsC hP hS hl)
theorem Cl.ldc (h : Cl l cc own nL R K) {n : Nat} {v : Int32} (hd : decode cc pc = .ok (.ldc n, 2)) (hc : Cond.constant own n v ∈ GW) (k : K (pc + 2) ls (.int v :: st) hs) : K pc ls st hs := by
  obtain ⟨p, e, s, m, args, below, meth, c, D, cA, ad, A0, H0, N, ck, sk, Q, ⟨hx, hb, hml, hown, hts, hKX, hD0, hA0, hcs⟩, rfl⟩ := h
  intro hn H locs lsC hP hS hl
  exact lv_ldc hx hb hown (hts _ hc) hd (k hn H locs lsC hP hS hl)
theorem Cl.ldc_w (h : Cl l cc own nL R K) {n : Nat} {v : Int32} (hd : decode cc pc = .ok (.ldc_w n, 3)) (hc : Cond.constant own n v ∈ GW) (k : K (pc + 3) ls (.int v :: st) hs) : K pc ls st hs := by
  obtain ⟨p, e, s, m, args, below, meth, c, D, cA, ad, A0, H0, N, ck, sk, Q, ⟨hx, hb, hml, hown, hts, hKX, hD0, hA0, hcs⟩, rfl⟩ := h
  intro hn H locs lsC hP hS hl
  exact lv_ldcw hx hb hown (hts _ hc) hd (k hn H locs lsC hP hS hl)
theorem Cl.ldc2_w (h : Cl l cc own nL R K) {n : Nat} {v : Int64} (hd : decode cc pc = .ok (.ldc2_w n, 3)) (hc : Cond.constantLong own n v ∈ GW) (k : K (pc + 3) ls (.long v :: st) hs) : K pc ls st hs := by
  obtain ⟨p, e, s, m, args, below, meth, c, D, cA, ad, A0, H0, N, ck, sk, Q, ⟨hx, hb, hml, hown, hts, hKX, hD0, hA0, hcs⟩, rfl⟩ := h
  intro hn H locs lsC hP hS hl
  exact lv_ldc2 hx hb hown (hts _ hc) hd (k hn H locs lsC hP hS hl)
theorem Cl.iload (h : Cl l cc own nL R K) {i : Nat} {x : Int32} (hd : decode cc pc = .ok (.iload i, 2)) (hv : lk ls i = some (.int x)) (k : K (pc + 2) ls (.int x :: st) hs) : K pc ls st hs := by
  obtain ⟨p, e, s, m, args, below, meth, c, D, cA, ad, A0, H0, N, ck, sk, Q, ⟨hx, hb, hml, hown, hts, hKX, hD0, hA0, hcs⟩, rfl⟩ := h
  intro hn H locs lsC hP hS hl
  exact lv_iload hx hb hd (lk_at hl hv) (k hn H locs lsC hP hS hl)
theorem Cl.iload_n (h : Cl l cc own nL R K) {i : Fin 4} {x : Int32} (hd : decode cc pc = .ok (.iload_n i, 1)) (hv : lk ls i = some (.int x)) (k : K (pc + 1) ls (.int x :: st) hs) : K pc ls st hs := by
  obtain ⟨p, e, s, m, args, below, meth, c, D, cA, ad, A0, H0, N, ck, sk, Q, ⟨hx, hb, hml, hown, hts, hKX, hD0, hA0, hcs⟩, rfl⟩ := h
  intro hn H locs lsC hP hS hl
  exact lv_iload_n hx hb hd rfl (lk_at hl hv) (k hn H locs lsC hP hS hl)
theorem Cl.lload (h : Cl l cc own nL R K) {i : Nat} {x : Int64} (hd : decode cc pc = .ok (.lload i, 2)) (hv : lk ls i = some (.long x)) (k : K (pc + 2) ls (.long x :: st) hs) : K pc ls st hs := by
  obtain ⟨p, e, s, m, args, below, meth, c, D, cA, ad, A0, H0, N, ck, sk, Q, ⟨hx, hb, hml, hown, hts, hKX, hD0, hA0, hcs⟩, rfl⟩ := h
  intro hn H locs lsC hP hS hl
  exact lv_lload hx hb hd (lk_at hl hv) (k hn H locs lsC hP hS hl)
theorem Cl.lload_n (h : Cl l cc own nL R K) {i : Fin 4} {x : Int64} (hd : decode cc pc = .ok (.lload_n i, 1)) (hv : lk ls i = some (.long x)) (k : K (pc + 1) ls (.long x :: st) hs) : K pc ls st hs := by
  obtain ⟨p, e, s, m, args, below, meth, c, D, cA, ad, A0, H0, N, ck, sk, Q, ⟨hx, hb, hml, hown, hts, hKX, hD0, hA0, hcs⟩, rfl⟩ := h
  intro hn H locs lsC hP hS hl
  exact lv_lload_n hx hb hd rfl (lk_at hl hv) (k hn H locs lsC hP hS hl)
theorem Cl.aload (h : Cl l cc own nL R K) {i : Nat} {x : Nat} (hd : decode cc pc = .ok (.aload i, 2)) (hv : lk ls i = some (.ref x)) (k : K (pc + 2) ls (.ref x :: st) hs) : K pc ls st hs := by
  obtain ⟨p, e, s, m, args, below, meth, c, D, cA, ad, A0, H0, N, ck, sk, Q, ⟨hx, hb, hml, hown, hts, hKX, hD0, hA0, hcs⟩, rfl⟩ := h
  intro hn H locs lsC hP hS hl
  exact lv_aload hx hb hd (lk_at hl hv) (k hn H locs lsC hP hS hl)
theorem Cl.aload_n (h : Cl l cc own nL R K) {i : Fin 4} {x : Nat} (hd : decode cc pc = .ok (.aload_n i, 1)) (hv : lk ls i = some (.ref x)) (k : K (pc + 1) ls (.ref x :: st) hs) : K pc ls st hs := by
  obtain ⟨p, e, s, m, args, below, meth, c, D, cA, ad, A0, H0, N, ck, sk, Q, ⟨hx, hb, hml, hown, hts, hKX, hD0, hA0, hcs⟩, rfl⟩ := h
  intro hn H locs lsC hP hS hl
  exact lv_aload_n hx hb hd rfl (lk_at hl hv) (k hn H locs lsC hP hS hl)
theorem Cl.istore (h : Cl l cc own nL R K) {i : Nat} {x : Int32} (hd : decode cc pc = .ok (.istore i, 2)) (hi : i < nL) (k : K (pc + 2) (st1 i (.int x) ls) st hs) : K pc ls (.int x :: st) hs := by
  obtain ⟨p, e, s, m, args, below, meth, c, D, cA, ad, A0, H0, N, ck, sk, Q, ⟨hx, hb, hml, hown, hts, hKX, hD0, hA0, hcs⟩, rfl⟩ := h
  intro hn H locs lsC hP hS hl
  exact lv_istore hx hb hd hl hi (st1_tl ad i (.int x) _ rfl ls) (fun ls2 hl2 => k hn H locs ls2 hP hS hl2)
theorem Cl.istore_n (h : Cl l cc own nL R K) {i : Fin 4} {x : Int32} (hd : decode cc pc = .ok (.istore_n i, 1)) (hi : (i : Nat) < nL) (k : K (pc + 1) (st1 (i : Nat) (.int x) ls) st hs) : K pc ls (.int x :: st) hs := by
  obtain ⟨p, e, s, m, args, below, meth, c, D, cA, ad, A0, H0, N, ck, sk, Q, ⟨hx, hb, hml, hown, hts, hKX, hD0, hA0, hcs⟩, rfl⟩ := h
  intro hn H locs lsC hP hS hl
  exact lv_istore_n hx hb hd rfl hl hi (st1_tl ad (i : Nat) (.int x) _ rfl ls) (fun ls2 hl2 => k hn H locs ls2 hP hS hl2)
theorem Cl.lstore (h : Cl l cc own nL R K) {i : Nat} {x : Int64} (hd : decode cc pc = .ok (.lstore i, 2)) (hi : i + 1 < nL) (k : K (pc + 2) (st2 i (.long x) ls) st hs) : K pc ls (.long x :: st) hs := by
  obtain ⟨p, e, s, m, args, below, meth, c, D, cA, ad, A0, H0, N, ck, sk, Q, ⟨hx, hb, hml, hown, hts, hKX, hD0, hA0, hcs⟩, rfl⟩ := h
  intro hn H locs lsC hP hS hl
  exact lv_lstore hx hb hd hl hi (st2_tl ad i (.long x) _ rfl ls) (fun ls2 hl2 => k hn H locs ls2 hP hS hl2)
theorem Cl.lstore_n (h : Cl l cc own nL R K) {i : Fin 4} {x : Int64} (hd : decode cc pc = .ok (.lstore_n i, 1)) (hi : (i : Nat) + 1 < nL) (k : K (pc + 1) (st2 (i : Nat) (.long x) ls) st hs) : K pc ls (.long x :: st) hs := by
  obtain ⟨p, e, s, m, args, below, meth, c, D, cA, ad, A0, H0, N, ck, sk, Q, ⟨hx, hb, hml, hown, hts, hKX, hD0, hA0, hcs⟩, rfl⟩ := h
  intro hn H locs lsC hP hS hl
  exact lv_lstore_n hx hb hd rfl hl hi (st2_tl ad (i : Nat) (.long x) _ rfl ls) (fun ls2 hl2 => k hn H locs ls2 hP hS hl2)
theorem Cl.astore (h : Cl l cc own nL R K) {i : Nat} {x : Nat} (hd : decode cc pc = .ok (.astore i, 2)) (hi : i < nL) (k : K (pc + 2) (st1 i (.ref x) ls) st hs) : K pc ls (.ref x :: st) hs := by
  obtain ⟨p, e, s, m, args, below, meth, c, D, cA, ad, A0, H0, N, ck, sk, Q, ⟨hx, hb, hml, hown, hts, hKX, hD0, hA0, hcs⟩, rfl⟩ := h
  intro hn H locs lsC hP hS hl
  exact lv_astore hx hb hd hl hi (st1_tl ad i (.ref x) _ rfl ls) (fun ls2 hl2 => k hn H locs ls2 hP hS hl2)
theorem Cl.astore_n (h : Cl l cc own nL R K) {i : Fin 4} {x : Nat} (hd : decode cc pc = .ok (.astore_n i, 1)) (hi : (i : Nat) < nL) (k : K (pc + 1) (st1 (i : Nat) (.ref x) ls) st hs) : K pc ls (.ref x :: st) hs := by
  obtain ⟨p, e, s, m, args, below, meth, c, D, cA, ad, A0, H0, N, ck, sk, Q, ⟨hx, hb, hml, hown, hts, hKX, hD0, hA0, hcs⟩, rfl⟩ := h
  intro hn H locs lsC hP hS hl
  exact lv_astore_n hx hb hd rfl hl hi (st1_tl ad (i : Nat) (.ref x) _ rfl ls) (fun ls2 hl2 => k hn H locs ls2 hP hS hl2)
theorem Cl.iinc (h : Cl l cc own nL R K) {i : Nat} {n : Int} {x v : Int32} (hd : decode cc pc = .ok (.iinc i n, 3)) (hv : lk ls i = some (.int x)) (he : x + Int32.ofInt n = v) (hi : i < nL) (k : K (pc + 3) (st1 i (.int v) ls) st hs) : K pc ls st hs := by
  obtain ⟨p, e, s, m, args, below, meth, c, D, cA, ad, A0, H0, N, ck, sk, Q, ⟨hx, hb, hml, hown, hts, hKX, hD0, hA0, hcs⟩, rfl⟩ := h
  intro hn H locs lsC hP hS hl
  have hl2 : lv_has lsC nL ((i, .int x) :: tl ad ls) := ⟨hl.1, hl.2.1, fun q hq => by
    rcases List.mem_cons.mp hq with rfl | hq
    · exact lk_at hl hv
    · exact hl.2.2 q hq⟩
  exact lv_iinc (k := 0) hx hb hd hl2 rfl he hi (st1c_tl ad i (.int x) (.int v) _ rfl ls) (fun ls2 hl2 => k hn H locs ls2 hP hS hl2)
theorem Cl.iadd (h : Cl l cc own nL R K) {x y : Int32} (hd : decode cc pc = .ok (.iadd, 1)) (k : K (pc + 1) ls (.int (x + y) :: st) hs) : K pc ls (.int y :: .int x :: st) hs := by
  obtain ⟨p, e, s, m, args, below, meth, c, D, cA, ad, A0, H0, N, ck, sk, Q, ⟨hx, hb, hml, hown, hts, hKX, hD0, hA0, hcs⟩, rfl⟩ := h
  intro hn H locs lsC hP hS hl
  exact lv_iadd hx hb hd (k hn H locs lsC hP hS hl)
theorem Cl.isub (h : Cl l cc own nL R K) {x y : Int32} (hd : decode cc pc = .ok (.isub, 1)) (k : K (pc + 1) ls (.int (x - y) :: st) hs) : K pc ls (.int y :: .int x :: st) hs := by
  obtain ⟨p, e, s, m, args, below, meth, c, D, cA, ad, A0, H0, N, ck, sk, Q, ⟨hx, hb, hml, hown, hts, hKX, hD0, hA0, hcs⟩, rfl⟩ := h
  intro hn H locs lsC hP hS hl
  exact lv_isub hx hb hd (k hn H locs lsC hP hS hl)
theorem Cl.imul (h : Cl l cc own nL R K) {x y : Int32} (hd : decode cc pc = .ok (.imul, 1)) (k : K (pc + 1) ls (.int (x * y) :: st) hs) : K pc ls (.int y :: .int x :: st) hs := by
  obtain ⟨p, e, s, m, args, below, meth, c, D, cA, ad, A0, H0, N, ck, sk, Q, ⟨hx, hb, hml, hown, hts, hKX, hD0, hA0, hcs⟩, rfl⟩ := h
  intro hn H locs lsC hP hS hl
  exact lv_imul hx hb hd (k hn H locs lsC hP hS hl)
theorem Cl.iand (h : Cl l cc own nL R K) {x y : Int32} (hd : decode cc pc = .ok (.iand, 1)) (k : K (pc + 1) ls (.int (x &&& y) :: st) hs) : K pc ls (.int y :: .int x :: st) hs := by
  obtain ⟨p, e, s, m, args, below, meth, c, D, cA, ad, A0, H0, N, ck, sk, Q, ⟨hx, hb, hml, hown, hts, hKX, hD0, hA0, hcs⟩, rfl⟩ := h
  intro hn H locs lsC hP hS hl
  exact lv_iand hx hb hd (k hn H locs lsC hP hS hl)
theorem Cl.ior (h : Cl l cc own nL R K) {x y : Int32} (hd : decode cc pc = .ok (.ior, 1)) (k : K (pc + 1) ls (.int (x ||| y) :: st) hs) : K pc ls (.int y :: .int x :: st) hs := by
  obtain ⟨p, e, s, m, args, below, meth, c, D, cA, ad, A0, H0, N, ck, sk, Q, ⟨hx, hb, hml, hown, hts, hKX, hD0, hA0, hcs⟩, rfl⟩ := h
  intro hn H locs lsC hP hS hl
  exact lv_ior hx hb hd (k hn H locs lsC hP hS hl)
theorem Cl.ixor (h : Cl l cc own nL R K) {x y : Int32} (hd : decode cc pc = .ok (.ixor, 1)) (k : K (pc + 1) ls (.int (x ^^^ y) :: st) hs) : K pc ls (.int y :: .int x :: st) hs := by
  obtain ⟨p, e, s, m, args, below, meth, c, D, cA, ad, A0, H0, N, ck, sk, Q, ⟨hx, hb, hml, hown, hts, hKX, hD0, hA0, hcs⟩, rfl⟩ := h
  intro hn H locs lsC hP hS hl
  exact lv_ixor hx hb hd (k hn H locs lsC hP hS hl)
theorem Cl.ishl (h : Cl l cc own nL R K) {x y : Int32} (hd : decode cc pc = .ok (.ishl, 1)) (k : K (pc + 1) ls (.int (x <<< (y &&& 31)) :: st) hs) : K pc ls (.int y :: .int x :: st) hs := by
  obtain ⟨p, e, s, m, args, below, meth, c, D, cA, ad, A0, H0, N, ck, sk, Q, ⟨hx, hb, hml, hown, hts, hKX, hD0, hA0, hcs⟩, rfl⟩ := h
  intro hn H locs lsC hP hS hl
  exact lv_ishl hx hb hd (k hn H locs lsC hP hS hl)
theorem Cl.ishr (h : Cl l cc own nL R K) {x y : Int32} (hd : decode cc pc = .ok (.ishr, 1)) (k : K (pc + 1) ls (.int (x >>> (y &&& 31)) :: st) hs) : K pc ls (.int y :: .int x :: st) hs := by
  obtain ⟨p, e, s, m, args, below, meth, c, D, cA, ad, A0, H0, N, ck, sk, Q, ⟨hx, hb, hml, hown, hts, hKX, hD0, hA0, hcs⟩, rfl⟩ := h
  intro hn H locs lsC hP hS hl
  exact lv_ishr hx hb hd (k hn H locs lsC hP hS hl)
theorem Cl.iushr (h : Cl l cc own nL R K) {x y : Int32} (hd : decode cc pc = .ok (.iushr, 1)) (k : K (pc + 1) ls (.int ((x.toUInt32 >>> (y.toUInt32 &&& Int32.toUInt32 31)).toInt32) :: st) hs) : K pc ls (.int y :: .int x :: st) hs := by
  obtain ⟨p, e, s, m, args, below, meth, c, D, cA, ad, A0, H0, N, ck, sk, Q, ⟨hx, hb, hml, hown, hts, hKX, hD0, hA0, hcs⟩, rfl⟩ := h
  intro hn H locs lsC hP hS hl
  exact lv_iushr hx hb hd rfl (k hn H locs lsC hP hS hl)
theorem Cl.ineg (h : Cl l cc own nL R K) {x : Int32} (hd : decode cc pc = .ok (.ineg, 1)) (k : K (pc + 1) ls (.int (-x) :: st) hs) : K pc ls (.int x :: st) hs := by
  obtain ⟨p, e, s, m, args, below, meth, c, D, cA, ad, A0, H0, N, ck, sk, Q, ⟨hx, hb, hml, hown, hts, hKX, hD0, hA0, hcs⟩, rfl⟩ := h
  intro hn H locs lsC hP hS hl
  exact lv_ineg hx hb hd (k hn H locs lsC hP hS hl)
theorem Cl.idiv (h : Cl l cc own nL R K) {x y : Int32} (hd : decode cc pc = .ok (.idiv, 1)) (hne : ¬ y = 0) (k : K (pc + 1) ls (.int (x / y) :: st) hs) : K pc ls (.int y :: .int x :: st) hs := by
  obtain ⟨p, e, s, m, args, below, meth, c, D, cA, ad, A0, H0, N, ck, sk, Q, ⟨hx, hb, hml, hown, hts, hKX, hD0, hA0, hcs⟩, rfl⟩ := h
  intro hn H locs lsC hP hS hl
  exact lv_idiv hx hb hd hne (k hn H locs lsC hP hS hl)
theorem Cl.irem (h : Cl l cc own nL R K) {x y : Int32} (hd : decode cc pc = .ok (.irem, 1)) (hne : ¬ y = 0) (k : K (pc + 1) ls (.int (x - x / y * y) :: st) hs) : K pc ls (.int y :: .int x :: st) hs := by
  obtain ⟨p, e, s, m, args, below, meth, c, D, cA, ad, A0, H0, N, ck, sk, Q, ⟨hx, hb, hml, hown, hts, hKX, hD0, hA0, hcs⟩, rfl⟩ := h
  intro hn H locs lsC hP hS hl
  exact lv_irem hx hb hd hne (k hn H locs lsC hP hS hl)
theorem Cl.ladd (h : Cl l cc own nL R K) {x y : Int64} (hd : decode cc pc = .ok (.ladd, 1)) (k : K (pc + 1) ls (.long (x + y) :: st) hs) : K pc ls (.long y :: .long x :: st) hs := by
  obtain ⟨p, e, s, m, args, below, meth, c, D, cA, ad, A0, H0, N, ck, sk, Q, ⟨hx, hb, hml, hown, hts, hKX, hD0, hA0, hcs⟩, rfl⟩ := h
  intro hn H locs lsC hP hS hl
  exact lv_ladd hx hb hd (k hn H locs lsC hP hS hl)
theorem Cl.lsub (h : Cl l cc own nL R K) {x y : Int64} (hd : decode cc pc = .ok (.lsub, 1)) (k : K (pc + 1) ls (.long (x - y) :: st) hs) : K pc ls (.long y :: .long x :: st) hs := by
  obtain ⟨p, e, s, m, args, below, meth, c, D, cA, ad, A0, H0, N, ck, sk, Q, ⟨hx, hb, hml, hown, hts, hKX, hD0, hA0, hcs⟩, rfl⟩ := h
  intro hn H locs lsC hP hS hl
  exact lv_lsub hx hb hd (k hn H locs lsC hP hS hl)
theorem Cl.lmul (h : Cl l cc own nL R K) {x y : Int64} (hd : decode cc pc = .ok (.lmul, 1)) (k : K (pc + 1) ls (.long (x * y) :: st) hs) : K pc ls (.long y :: .long x :: st) hs := by
  obtain ⟨p, e, s, m, args, below, meth, c, D, cA, ad, A0, H0, N, ck, sk, Q, ⟨hx, hb, hml, hown, hts, hKX, hD0, hA0, hcs⟩, rfl⟩ := h
  intro hn H locs lsC hP hS hl
  exact lv_lmul hx hb hd (k hn H locs lsC hP hS hl)
theorem Cl.land (h : Cl l cc own nL R K) {x y : Int64} (hd : decode cc pc = .ok (.land, 1)) (k : K (pc + 1) ls (.long (x &&& y) :: st) hs) : K pc ls (.long y :: .long x :: st) hs := by
  obtain ⟨p, e, s, m, args, below, meth, c, D, cA, ad, A0, H0, N, ck, sk, Q, ⟨hx, hb, hml, hown, hts, hKX, hD0, hA0, hcs⟩, rfl⟩ := h
  intro hn H locs lsC hP hS hl
  exact lv_land hx hb hd (k hn H locs lsC hP hS hl)
theorem Cl.lor (h : Cl l cc own nL R K) {x y : Int64} (hd : decode cc pc = .ok (.lor, 1)) (k : K (pc + 1) ls (.long (x ||| y) :: st) hs) : K pc ls (.long y :: .long x :: st) hs := by
  obtain ⟨p, e, s, m, args, below, meth, c, D, cA, ad, A0, H0, N, ck, sk, Q, ⟨hx, hb, hml, hown, hts, hKX, hD0, hA0, hcs⟩, rfl⟩ := h
  intro hn H locs lsC hP hS hl
  exact lv_lor hx hb hd (k hn H locs lsC hP hS hl)
theorem Cl.ldiv (h : Cl l cc own nL R K) {x y : Int64} (hd : decode cc pc = .ok (.ldiv, 1)) (hne : ¬ y = 0) (k : K (pc + 1) ls (.long (x / y) :: st) hs) : K pc ls (.long y :: .long x :: st) hs := by
  obtain ⟨p, e, s, m, args, below, meth, c, D, cA, ad, A0, H0, N, ck, sk, Q, ⟨hx, hb, hml, hown, hts, hKX, hD0, hA0, hcs⟩, rfl⟩ := h
  intro hn H locs lsC hP hS hl
  exact lv_ldiv hx hb hd hne (k hn H locs lsC hP hS hl)
theorem Cl.lshl (h : Cl l cc own nL R K) {x : Int64} {y : Int32} (hd : decode cc pc = .ok (.lshl, 1)) (k : K (pc + 1) ls (.long (x <<< (y.toInt64 &&& 63)) :: st) hs) : K pc ls (.int y :: .long x :: st) hs := by
  obtain ⟨p, e, s, m, args, below, meth, c, D, cA, ad, A0, H0, N, ck, sk, Q, ⟨hx, hb, hml, hown, hts, hKX, hD0, hA0, hcs⟩, rfl⟩ := h
  intro hn H locs lsC hP hS hl
  exact lv_lshl hx hb hd rfl (k hn H locs lsC hP hS hl)
theorem Cl.lshr (h : Cl l cc own nL R K) {x : Int64} {y : Int32} (hd : decode cc pc = .ok (.lshr, 1)) (k : K (pc + 1) ls (.long (x >>> (y.toInt64 &&& 63)) :: st) hs) : K pc ls (.int y :: .long x :: st) hs := by
  obtain ⟨p, e, s, m, args, below, meth, c, D, cA, ad, A0, H0, N, ck, sk, Q, ⟨hx, hb, hml, hown, hts, hKX, hD0, hA0, hcs⟩, rfl⟩ := h
  intro hn H locs lsC hP hS hl
  exact lv_lshr hx hb hd rfl (k hn H locs lsC hP hS hl)
theorem Cl.lcmp (h : Cl l cc own nL R K) {x y : Int64} (hd : decode cc pc = .ok (.lcmp, 1)) (k : K (pc + 1) ls (.int (lg_cmp x y) :: st) hs) : K pc ls (.long y :: .long x :: st) hs := by
  obtain ⟨p, e, s, m, args, below, meth, c, D, cA, ad, A0, H0, N, ck, sk, Q, ⟨hx, hb, hml, hown, hts, hKX, hD0, hA0, hcs⟩, rfl⟩ := h
  intro hn H locs lsC hP hS hl
  exact W.lcmp hx hb hd (k hn H locs lsC hP hS hl)
theorem Cl.i2l (h : Cl l cc own nL R K) {x : Int32} (hd : decode cc pc = .ok (.i2l, 1)) (k : K (pc + 1) ls (.long (x.toInt64) :: st) hs) : K pc ls (.int x :: st) hs := by
  obtain ⟨p, e, s, m, args, below, meth, c, D, cA, ad, A0, H0, N, ck, sk, Q, ⟨hx, hb, hml, hown, hts, hKX, hD0, hA0, hcs⟩, rfl⟩ := h
  intro hn H locs lsC hP hS hl
  exact lv_i2l hx hb hd rfl (k hn H locs lsC hP hS hl)
theorem Cl.l2i (h : Cl l cc own nL R K) {x : Int64} (hd : decode cc pc = .ok (.l2i, 1)) (k : K (pc + 1) ls (.int (x.toInt32) :: st) hs) : K pc ls (.long x :: st) hs := by
  obtain ⟨p, e, s, m, args, below, meth, c, D, cA, ad, A0, H0, N, ck, sk, Q, ⟨hx, hb, hml, hown, hts, hKX, hD0, hA0, hcs⟩, rfl⟩ := h
  intro hn H locs lsC hP hS hl
  exact lv_l2i hx hb hd rfl (k hn H locs lsC hP hS hl)
theorem Cl.i2b (h : Cl l cc own nL R K) {x : Int32} (hd : decode cc pc = .ok (.i2b, 1)) (k : K (pc + 1) ls (.int (x.toInt8.toInt32) :: st) hs) : K pc ls (.int x :: st) hs := by
  obtain ⟨p, e, s, m, args, below, meth, c, D, cA, ad, A0, H0, N, ck, sk, Q, ⟨hx, hb, hml, hown, hts, hKX, hD0, hA0, hcs⟩, rfl⟩ := h
  intro hn H locs lsC hP hS hl
  exact lv_i2b hx hb hd rfl (k hn H locs lsC hP hS hl)
theorem Cl.i2c (h : Cl l cc own nL R K) {x : Int32} (hd : decode cc pc = .ok (.i2c, 1)) (k : K (pc + 1) ls (.int ((x.toUInt32 % 65536).toInt32) :: st) hs) : K pc ls (.int x :: st) hs := by
  obtain ⟨p, e, s, m, args, below, meth, c, D, cA, ad, A0, H0, N, ck, sk, Q, ⟨hx, hb, hml, hown, hts, hKX, hD0, hA0, hcs⟩, rfl⟩ := h
  intro hn H locs lsC hP hS hl
  exact lv_i2c hx hb hd rfl (k hn H locs lsC hP hS hl)
theorem Cl.dup (h : Cl l cc own nL R K) {v : Value} (hd : decode cc pc = .ok (.dup, 1)) (hv : v.category = 1) (k : K (pc + 1) ls (v :: v :: st) hs) : K pc ls (v :: st) hs := by
  obtain ⟨p, e, s, m, args, below, meth, c, D, cA, ad, A0, H0, N, ck, sk, Q, ⟨hx, hb, hml, hown, hts, hKX, hD0, hA0, hcs⟩, rfl⟩ := h
  intro hn H locs lsC hP hS hl
  exact lv_dup hx hb hd ((tv_cat ad v).trans hv) (k hn H locs lsC hP hS hl)
theorem Cl.dup2 (h : Cl l cc own nL R K) {u v : Value} (hd : decode cc pc = .ok (.dup2, 1)) (hu : u.category = 1) (hv : v.category = 1) (k : K (pc + 1) ls (u :: v :: u :: v :: st) hs) : K pc ls (u :: v :: st) hs := by
  obtain ⟨p, e, s, m, args, below, meth, c, D, cA, ad, A0, H0, N, ck, sk, Q, ⟨hx, hb, hml, hown, hts, hKX, hD0, hA0, hcs⟩, rfl⟩ := h
  intro hn H locs lsC hP hS hl
  exact lv_dup2_11 hx hb hd ((tv_cat ad u).trans hu) ((tv_cat ad v).trans hv) (k hn H locs lsC hP hS hl)
theorem Cl.pop (h : Cl l cc own nL R K) {v : Value} (hd : decode cc pc = .ok (.pop, 1)) (hv : v.category = 1) (k : K (pc + 1) ls st hs) : K pc ls (v :: st) hs := by
  obtain ⟨p, e, s, m, args, below, meth, c, D, cA, ad, A0, H0, N, ck, sk, Q, ⟨hx, hb, hml, hown, hts, hKX, hD0, hA0, hcs⟩, rfl⟩ := h
  intro hn H locs lsC hP hS hl
  exact lv_pop hx hb hd ((tv_cat ad v).trans hv) (k hn H locs lsC hP hS hl)
theorem Cl.goto (h : Cl l cc own nL R K) {off : Int} {tgt : Nat} (hd : decode cc pc = .ok (.goto off, 3)) (ht : (pc : Int) + off = (tgt : Int)) (k : K tgt ls st hs) : K pc ls st hs := by
  obtain ⟨p, e, s, m, args, below, meth, c, D, cA, ad, A0, H0, N, ck, sk, Q, ⟨hx, hb, hml, hown, hts, hKX, hD0, hA0, hcs⟩, rfl⟩ := h
  intro hn H locs lsC hP hS hl
  exact lv_goto hx hb hd ht (k hn H locs lsC hP hS hl)
theorem Cl.if_eq (h : Cl l cc own nL R K) {x : Int32} {off : Int} {tgt : Nat} (hd : decode cc pc = .ok (.ifCond .eq off, 3)) (ht : (pc : Int) + off = (tgt : Int)) (kt : x = 0 → K tgt ls st hs) (kf : ¬ x = 0 → K (pc + 3) ls st hs) : K pc ls (.int x :: st) hs := by
  obtain ⟨p, e, s, m, args, below, meth, c, D, cA, ad, A0, H0, N, ck, sk, Q, ⟨hx, hb, hml, hown, hts, hKX, hD0, hA0, hcs⟩, rfl⟩ := h
  intro hn H locs lsC hP hS hl
  exact lv_if_eq hx hb hd ht (fun q => kt q hn H locs lsC hP hS hl) (fun q => kf q hn H locs lsC hP hS hl)
theorem Cl.icmp_eq (h : Cl l cc own nL R K) {x y : Int32} {off : Int} {tgt : Nat} (hd : decode cc pc = .ok (.if_icmp .eq off, 3)) (ht : (pc : Int) + off = (tgt : Int)) (kt : x = y → K tgt ls st hs) (kf : ¬ x = y → K (pc + 3) ls st hs) : K pc ls (.int y :: .int x :: st) hs := by
  obtain ⟨p, e, s, m, args, below, meth, c, D, cA, ad, A0, H0, N, ck, sk, Q, ⟨hx, hb, hml, hown, hts, hKX, hD0, hA0, hcs⟩, rfl⟩ := h
  intro hn H locs lsC hP hS hl
  exact lv_icmp_eq hx hb hd ht (fun q => kt q hn H locs lsC hP hS hl) (fun q => kf q hn H locs lsC hP hS hl)
theorem Cl.if_ne (h : Cl l cc own nL R K) {x : Int32} {off : Int} {tgt : Nat} (hd : decode cc pc = .ok (.ifCond .ne off, 3)) (ht : (pc : Int) + off = (tgt : Int)) (kt : ¬ x = 0 → K tgt ls st hs) (kf : x = 0 → K (pc + 3) ls st hs) : K pc ls (.int x :: st) hs := by
  obtain ⟨p, e, s, m, args, below, meth, c, D, cA, ad, A0, H0, N, ck, sk, Q, ⟨hx, hb, hml, hown, hts, hKX, hD0, hA0, hcs⟩, rfl⟩ := h
  intro hn H locs lsC hP hS hl
  exact lv_if_ne hx hb hd ht (fun q => kt q hn H locs lsC hP hS hl) (fun q => kf q hn H locs lsC hP hS hl)
theorem Cl.icmp_ne (h : Cl l cc own nL R K) {x y : Int32} {off : Int} {tgt : Nat} (hd : decode cc pc = .ok (.if_icmp .ne off, 3)) (ht : (pc : Int) + off = (tgt : Int)) (kt : ¬ x = y → K tgt ls st hs) (kf : x = y → K (pc + 3) ls st hs) : K pc ls (.int y :: .int x :: st) hs := by
  obtain ⟨p, e, s, m, args, below, meth, c, D, cA, ad, A0, H0, N, ck, sk, Q, ⟨hx, hb, hml, hown, hts, hKX, hD0, hA0, hcs⟩, rfl⟩ := h
  intro hn H locs lsC hP hS hl
  exact lv_icmp_ne hx hb hd ht (fun q => kt q hn H locs lsC hP hS hl) (fun q => kf q hn H locs lsC hP hS hl)
theorem Cl.if_lt (h : Cl l cc own nL R K) {x : Int32} {off : Int} {tgt : Nat} (hd : decode cc pc = .ok (.ifCond .lt off, 3)) (ht : (pc : Int) + off = (tgt : Int)) (kt : x < 0 → K tgt ls st hs) (kf : ¬ x < 0 → K (pc + 3) ls st hs) : K pc ls (.int x :: st) hs := by
  obtain ⟨p, e, s, m, args, below, meth, c, D, cA, ad, A0, H0, N, ck, sk, Q, ⟨hx, hb, hml, hown, hts, hKX, hD0, hA0, hcs⟩, rfl⟩ := h
  intro hn H locs lsC hP hS hl
  exact lv_if_lt hx hb hd ht (fun q => kt q hn H locs lsC hP hS hl) (fun q => kf q hn H locs lsC hP hS hl)
theorem Cl.icmp_lt (h : Cl l cc own nL R K) {x y : Int32} {off : Int} {tgt : Nat} (hd : decode cc pc = .ok (.if_icmp .lt off, 3)) (ht : (pc : Int) + off = (tgt : Int)) (kt : x < y → K tgt ls st hs) (kf : ¬ x < y → K (pc + 3) ls st hs) : K pc ls (.int y :: .int x :: st) hs := by
  obtain ⟨p, e, s, m, args, below, meth, c, D, cA, ad, A0, H0, N, ck, sk, Q, ⟨hx, hb, hml, hown, hts, hKX, hD0, hA0, hcs⟩, rfl⟩ := h
  intro hn H locs lsC hP hS hl
  exact lv_icmp_lt hx hb hd ht (fun q => kt q hn H locs lsC hP hS hl) (fun q => kf q hn H locs lsC hP hS hl)
theorem Cl.if_ge (h : Cl l cc own nL R K) {x : Int32} {off : Int} {tgt : Nat} (hd : decode cc pc = .ok (.ifCond .ge off, 3)) (ht : (pc : Int) + off = (tgt : Int)) (kt : 0 ≤ x → K tgt ls st hs) (kf : ¬ 0 ≤ x → K (pc + 3) ls st hs) : K pc ls (.int x :: st) hs := by
  obtain ⟨p, e, s, m, args, below, meth, c, D, cA, ad, A0, H0, N, ck, sk, Q, ⟨hx, hb, hml, hown, hts, hKX, hD0, hA0, hcs⟩, rfl⟩ := h
  intro hn H locs lsC hP hS hl
  exact lv_if_ge hx hb hd ht (fun q => kt q hn H locs lsC hP hS hl) (fun q => kf q hn H locs lsC hP hS hl)
theorem Cl.icmp_ge (h : Cl l cc own nL R K) {x y : Int32} {off : Int} {tgt : Nat} (hd : decode cc pc = .ok (.if_icmp .ge off, 3)) (ht : (pc : Int) + off = (tgt : Int)) (kt : y ≤ x → K tgt ls st hs) (kf : ¬ y ≤ x → K (pc + 3) ls st hs) : K pc ls (.int y :: .int x :: st) hs := by
  obtain ⟨p, e, s, m, args, below, meth, c, D, cA, ad, A0, H0, N, ck, sk, Q, ⟨hx, hb, hml, hown, hts, hKX, hD0, hA0, hcs⟩, rfl⟩ := h
  intro hn H locs lsC hP hS hl
  exact lv_icmp_ge hx hb hd ht (fun q => kt q hn H locs lsC hP hS hl) (fun q => kf q hn H locs lsC hP hS hl)
theorem Cl.if_gt (h : Cl l cc own nL R K) {x : Int32} {off : Int} {tgt : Nat} (hd : decode cc pc = .ok (.ifCond .gt off, 3)) (ht : (pc : Int) + off = (tgt : Int)) (kt : 0 < x → K tgt ls st hs) (kf : ¬ 0 < x → K (pc + 3) ls st hs) : K pc ls (.int x :: st) hs := by
  obtain ⟨p, e, s, m, args, below, meth, c, D, cA, ad, A0, H0, N, ck, sk, Q, ⟨hx, hb, hml, hown, hts, hKX, hD0, hA0, hcs⟩, rfl⟩ := h
  intro hn H locs lsC hP hS hl
  exact lv_if_gt hx hb hd ht (fun q => kt q hn H locs lsC hP hS hl) (fun q => kf q hn H locs lsC hP hS hl)
theorem Cl.icmp_gt (h : Cl l cc own nL R K) {x y : Int32} {off : Int} {tgt : Nat} (hd : decode cc pc = .ok (.if_icmp .gt off, 3)) (ht : (pc : Int) + off = (tgt : Int)) (kt : y < x → K tgt ls st hs) (kf : ¬ y < x → K (pc + 3) ls st hs) : K pc ls (.int y :: .int x :: st) hs := by
  obtain ⟨p, e, s, m, args, below, meth, c, D, cA, ad, A0, H0, N, ck, sk, Q, ⟨hx, hb, hml, hown, hts, hKX, hD0, hA0, hcs⟩, rfl⟩ := h
  intro hn H locs lsC hP hS hl
  exact lv_icmp_gt hx hb hd ht (fun q => kt q hn H locs lsC hP hS hl) (fun q => kf q hn H locs lsC hP hS hl)
theorem Cl.if_le (h : Cl l cc own nL R K) {x : Int32} {off : Int} {tgt : Nat} (hd : decode cc pc = .ok (.ifCond .le off, 3)) (ht : (pc : Int) + off = (tgt : Int)) (kt : x ≤ 0 → K tgt ls st hs) (kf : ¬ x ≤ 0 → K (pc + 3) ls st hs) : K pc ls (.int x :: st) hs := by
  obtain ⟨p, e, s, m, args, below, meth, c, D, cA, ad, A0, H0, N, ck, sk, Q, ⟨hx, hb, hml, hown, hts, hKX, hD0, hA0, hcs⟩, rfl⟩ := h
  intro hn H locs lsC hP hS hl
  exact lv_if_le hx hb hd ht (fun q => kt q hn H locs lsC hP hS hl) (fun q => kf q hn H locs lsC hP hS hl)
theorem Cl.icmp_le (h : Cl l cc own nL R K) {x y : Int32} {off : Int} {tgt : Nat} (hd : decode cc pc = .ok (.if_icmp .le off, 3)) (ht : (pc : Int) + off = (tgt : Int)) (kt : x ≤ y → K tgt ls st hs) (kf : ¬ x ≤ y → K (pc + 3) ls st hs) : K pc ls (.int y :: .int x :: st) hs := by
  obtain ⟨p, e, s, m, args, below, meth, c, D, cA, ad, A0, H0, N, ck, sk, Q, ⟨hx, hb, hml, hown, hts, hKX, hD0, hA0, hcs⟩, rfl⟩ := h
  intro hn H locs lsC hP hS hl
  exact lv_icmp_le hx hb hd ht (fun q => kt q hn H locs lsC hP hS hl) (fun q => kf q hn H locs lsC hP hS hl)
theorem Cl.tabIn (h : Cl l cc own nL R K) {dflt lo hi : Int} {offs : Array Int} {len : Nat} {x : Int32} {off : Int} {tgt : Nat} (hd : decode cc pc = .ok (.tableswitch dflt lo hi offs, len)) (h1 : ¬ x.toInt < lo) (h2 : ¬ hi < x.toInt) (ho : offs[(x.toInt - lo).toNat]? = some off) (ht : (pc : Int) + off = (tgt : Int)) (k : K tgt ls st hs) : K pc ls (.int x :: st) hs := by
  obtain ⟨p, e, s, m, args, below, meth, c, D, cA, ad, A0, H0, N, ck, sk, Q, ⟨hx, hb, hml, hown, hts, hKX, hD0, hA0, hcs⟩, rfl⟩ := h
  intro hn H locs lsC hP hS hl
  exact lv_tableIn hx hb hd h1 h2 ho ht (k hn H locs lsC hP hS hl)
theorem Cl.tabOut (h : Cl l cc own nL R K) {dflt lo hi : Int} {offs : Array Int} {len : Nat} {x : Int32} {tgt : Nat} (hd : decode cc pc = .ok (.tableswitch dflt lo hi offs, len)) (h1 : x.toInt < lo ∨ hi < x.toInt) (ht : (pc : Int) + dflt = (tgt : Int)) (k : K tgt ls st hs) : K pc ls (.int x :: st) hs := by
  obtain ⟨p, e, s, m, args, below, meth, c, D, cA, ad, A0, H0, N, ck, sk, Q, ⟨hx, hb, hml, hown, hts, hKX, hD0, hA0, hcs⟩, rfl⟩ := h
  intro hn H locs lsC hP hS hl
  exact lv_tableOut hx hb hd h1 ht (k hn H locs lsC hP hS hl)
theorem Cl.iaload (h : Cl l cc own nL R K) {a n : Nat} {f : Nat → Int32} {i : Int32} (hd : decode cc pc = .ok (.iaload, 1)) (ha : hs[a]? = some (.inl (0, n, .inl f))) (hi : vp_in i n) (k : K (pc + 1) ls (.int (f i.toNatClampNeg) :: st) hs) : K pc ls (.int i :: .ref a :: st) hs := by
  obtain ⟨p, e, s, m, args, below, meth, c, D, cA, ad, A0, H0, N, ck, sk, Q, ⟨hx, hb, hml, hown, hts, hKX, hD0, hA0, hcs⟩, rfl⟩ := h
  intro hn H locs lsC hP hS hl
  exact va_iald hx hb hKX.1 hP a 0 (tw_at ha) rfl hi hd (k hn H locs lsC hP hS hl)
theorem Cl.baload (h : Cl l cc own nL R K) {a n : Nat} {f : Nat → Int32} {i : Int32} (hd : decode cc pc = .ok (.baload, 1)) (ha : hs[a]? = some (.inl (1, n, .inl f))) (hi : vp_in i n) (k : K (pc + 1) ls (.int (f i.toNatClampNeg) :: st) hs) : K pc ls (.int i :: .ref a :: st) hs := by
  obtain ⟨p, e, s, m, args, below, meth, c, D, cA, ad, A0, H0, N, ck, sk, Q, ⟨hx, hb, hml, hown, hts, hKX, hD0, hA0, hcs⟩, rfl⟩ := h
  intro hn H locs lsC hP hS hl
  exact va_bald hx hb hKX.1 hP a 1 (tw_at ha) rfl hi hd (k hn H locs lsC hP hS hl)
theorem Cl.laload (h : Cl l cc own nL R K) {a n : Nat} {f : Nat → Int64} {i : Int32} (hd : decode cc pc = .ok (.laload, 1)) (ha : hs[a]? = some (.inl (2, n, .inr (.inl f)))) (hi : vp_in i n) (k : K (pc + 1) ls (.long (f i.toNatClampNeg) :: st) hs) : K pc ls (.int i :: .ref a :: st) hs := by
  obtain ⟨p, e, s, m, args, below, meth, c, D, cA, ad, A0, H0, N, ck, sk, Q, ⟨hx, hb, hml, hown, hts, hKX, hD0, hA0, hcs⟩, rfl⟩ := h
  intro hn H locs lsC hP hS hl
  exact va_lald hx hb hKX.1 hP a 2 (tw_at ha) rfl hi hd (k hn H locs lsC hP hS hl)
theorem Cl.aaload (h : Cl l cc own nL R K) {a n b : Nat} {f : Nat → Option Nat} {i : Int32} (hd : decode cc pc = .ok (.aaload, 1)) (ha : hs[a]? = some (.inl (3, n, .inr (.inr (.inr (.inr f)))))) (hi : vp_in i n) (hb2 : f i.toNatClampNeg = some b) (k : K (pc + 1) ls (.ref b :: st) hs) : K pc ls (.int i :: .ref a :: st) hs := by
  obtain ⟨p, e, s, m, args, below, meth, c, D, cA, ad, A0, H0, N, ck, sk, Q, ⟨hx, hb, hml, hown, hts, hKX, hD0, hA0, hcs⟩, rfl⟩ := h
  intro hn H locs lsC hP hS hl
  have k0 := va_aldq hx hb hKX.1 hP a 3 (tw_at ha) rfl hi hd (rest := st.map (tv ad)) (by rw [hb2]; exact k hn H locs lsC hP hS hl)
  exact k0
theorem Cl.alen (h : Cl l cc own nL R K) {a : Nat} {t n : Nat} {f} {v : Int32} (hd : decode cc pc = .ok (.arraylength, 1)) (ha : hs[a]? = some (.inl (t, n, f))) (ht : t < 4) (hv : Int32.ofNat n = v) (k : K (pc + 1) ls (.int v :: st) hs) : K pc ls (.ref a :: st) hs := by
  obtain ⟨p, e, s, m, args, below, meth, c, D, cA, ad, A0, H0, N, ck, sk, Q, ⟨hx, hb, hml, hown, hts, hKX, hD0, hA0, hcs⟩, rfl⟩ := h
  intro hn H locs lsC hP hS hl
  have k0 : W p l e R s m args below meth c H locs ck sk Q (F0 m pc lsC (.ref (ad a) :: st.map (tv ad))) := by
    rcases (show t = 0 ∨ t = 1 ∨ t = 2 ∨ t = 3 by omega) with rfl | rfl | rfl | rfl <;> rcases f with f | f | f | f | f
    all_goals first | exact va_alen hx hb hKX.1 hP a 0 (tw_at ha) rfl hv hd (k hn H locs lsC hP hS hl) | exact va_alen hx hb hKX.1 hP a 1 (tw_at ha) rfl hv hd (k hn H locs lsC hP hS hl) | exact va_alen hx hb hKX.1 hP a 2 (tw_at ha) rfl hv hd (k hn H locs lsC hP hS hl) | exact va_alen hx hb hKX.1 hP a 3 (tw_at ha) rfl hv hd (k hn H locs lsC hP hS hl)
  exact k0
theorem Cl.iastore (h : Cl l cc own nL R K) {a n : Nat} {f : Nat → Int32} {i : Int32} {x : Int32} (hd : decode cc pc = .ok (.iastore, 1)) (ha : hs[a]? = some (.inl (0, n, .inl f))) (hi : vp_in i n) (k : K (pc + 1) ls st (hs.set a (.inl (0, n, .inl (upd f i.toNatClampNeg x))))) : K pc ls (.int x :: .int i :: .ref a :: st) hs := by
  obtain ⟨p, e, s, m, args, below, meth, c, D, cA, ad, A0, H0, N, ck, sk, Q, ⟨hx, hb, hml, hown, hts, hKX, hD0, hA0, hcs⟩, rfl⟩ := h
  intro hn H locs lsC hP hS hl
  exact va_iast hx hb hKX.1 hP (hD0 hs hn) hS a 0 (tw_at ha) rfl hi hd (fun H1 locs1 hP1 hD1 hS1 => k (by rw [List.length_set]; exact hn) H1 locs1 lsC (by rw [tw_set]; exact hP1) hS1 hl)
theorem Cl.bastore (h : Cl l cc own nL R K) {a n : Nat} {f : Nat → Int32} {i : Int32} {x : Int32} (hd : decode cc pc = .ok (.bastore, 1)) (ha : hs[a]? = some (.inl (1, n, .inl f))) (hi : vp_in i n) (k : K (pc + 1) ls st (hs.set a (.inl (1, n, .inl (upd f i.toNatClampNeg (vp_nar .byte x)))))) : K pc ls (.int x :: .int i :: .ref a :: st) hs := by
  obtain ⟨p, e, s, m, args, below, meth, c, D, cA, ad, A0, H0, N, ck, sk, Q, ⟨hx, hb, hml, hown, hts, hKX, hD0, hA0, hcs⟩, rfl⟩ := h
  intro hn H locs lsC hP hS hl
  exact va_bast hx hb hKX.1 hP (hD0 hs hn) hS a 1 (tw_at ha) rfl hi hd (fun H1 locs1 hP1 hD1 hS1 => k (by rw [List.length_set]; exact hn) H1 locs1 lsC (by rw [tw_set]; exact hP1) hS1 hl)
theorem Cl.lastore (h : Cl l cc own nL R K) {a n : Nat} {f : Nat → Int64} {i : Int32} {x : Int64} (hd : decode cc pc = .ok (.lastore, 1)) (ha : hs[a]? = some (.inl (2, n, .inr (.inl f)))) (hi : vp_in i n) (k : K (pc + 1) ls st (hs.set a (.inl (2, n, .inr (.inl (vp_updL f i.toNatClampNeg x)))))) : K pc ls (.long x :: .int i :: .ref a :: st) hs := by
  obtain ⟨p, e, s, m, args, below, meth, c, D, cA, ad, A0, H0, N, ck, sk, Q, ⟨hx, hb, hml, hown, hts, hKX, hD0, hA0, hcs⟩, rfl⟩ := h
  intro hn H locs lsC hP hS hl
  exact va_last hx hb hKX.1 hP (hD0 hs hn) hS a 2 (tw_at ha) rfl hi hd (fun H1 locs1 hP1 hD1 hS1 => k (by rw [List.length_set]; exact hn) H1 locs1 lsC (by rw [tw_set]; exact hP1) hS1 hl)
end CLR
end
section
/-! CONTRACTS (Ct) of methods over worlds of places; fields, calls, returns in the walk. -/
def rmD (d : Nat) : Room := { frames := d, cells := 0, slots := 0, locals := 40 * d }
def WPd (D : va_G) (cA : Nat → ClassId) (ad : Nat → Nat) (hs : List va_E) (sz : Nat) : State → Prop := fun U => U.heap.size = sz ∧ va_P D vwCl (tw cA ad hs) U.heap ∧ KX D cA U ∧ va_D (fun _ => True) (tw cA ad hs)
def QX (D : va_G) (cA : Nat → ClassId) (ad : Nat → Nat) (n : Nat) (post : Option Value → List va_E → Prop) (A : Nat → Prop) : Array Value → State → Outcome → State → Prop := fun _ st oc t =>
  (∃ (r : Option Value) (hs2 : List va_E), oc = .returned (r.map (tv ad)) ∧ post r hs2 ∧ hs2.length = n ∧ va_P D vwCl (tw cA ad hs2) t.heap) ∧ va_F A st t
def Ct (l : Launch) (d : Nat) (y : MethodName) (bytes : ByteArray) (maxL : Nat) (ret : Option FieldType) (args : List Value) (hs : List va_E) (post : Option Value → List va_E → Prop) : Prop :=
  ∀ (D : va_G) (cA : Nat → ClassId) (ad : Nat → Nat) (sz : Nat), Met l y (.code y bytes maxL ret :: GW) (rmD d) (va_Pc (args.map (tv ad)) (WPd D cA ad hs sz)) (QX D cA ad hs.length post (va_A (tw cA ad hs) sz)) 0 0 (va_A (tw cA ad hs) sz)
def ClR (cc : ByteArray) (ret : Option FieldType) (post : Option Value → List va_E → Prop) (K : AK) : Prop := ∀ (pc : Nat) (ls : AL) (hs : List va_E),
  (∀ v : Int32, ret = some .int → decode cc pc = .ok (.ireturn, 1) → post (some (.int v)) hs → K pc ls [.int v] hs) ∧
  (∀ v : Int32, ret = some .boolean → narrow .boolean (.int v) = .int v → decode cc pc = .ok (.ireturn, 1) → post (some (.int v)) hs → K pc ls [.int v] hs) ∧
  (∀ v : Int64, ret = some .long → decode cc pc = .ok (.lreturn, 1) → post (some (.long v)) hs → K pc ls [.long v] hs) ∧
  (ret = none → decode cc pc = .ok (.return_, 1) → post none hs → K pc ls [] hs) ∧
  (∀ v : Int32, ret = some .char → narrow .char (.int v) = .int v → decode cc pc = .ok (.ireturn, 1) → post (some (.int v)) hs → K pc ls [.int v] hs)
theorem ClR.ireturn {cc : ByteArray} {post : Option Value → List va_E → Prop} {K : AK} {pc : Nat} {ls : AL} {hs : List va_E} (h : ClR cc (some .int) post K) {v : Int32} (hd : decode cc pc = .ok (.ireturn, 1)) (hp : post (some (.int v)) hs) : K pc ls [.int v] hs := (h pc ls hs).1 v rfl hd hp
theorem ClR.zreturn {cc : ByteArray} {post : Option Value → List va_E → Prop} {K : AK} {pc : Nat} {ls : AL} {hs : List va_E} (h : ClR cc (some .boolean) post K) {v : Int32} (hd : decode cc pc = .ok (.ireturn, 1)) (hn : narrow .boolean (.int v) = .int v) (hp : post (some (.int v)) hs) : K pc ls [.int v] hs := (h pc ls hs).2.1 v rfl hn hd hp
theorem ClR.creturn {cc : ByteArray} {post : Option Value → List va_E → Prop} {K : AK} {pc : Nat} {ls : AL} {hs : List va_E} (h : ClR cc (some .char) post K) {v : Int32} (hd : decode cc pc = .ok (.ireturn, 1)) (hn : narrow .char (.int v) = .int v) (hp : post (some (.int v)) hs) : K pc ls [.int v] hs := (h pc ls hs).2.2.2.2 v rfl hn hd hp
theorem ClR.lreturn {cc : ByteArray} {post : Option Value → List va_E → Prop} {K : AK} {pc : Nat} {ls : AL} {hs : List va_E} (h : ClR cc (some .long) post K) {v : Int64} (hd : decode cc pc = .ok (.lreturn, 1)) (hp : post (some (.long v)) hs) : K pc ls [.long v] hs := (h pc ls hs).2.2.1 v rfl hd hp
theorem ClR.return_ {cc : ByteArray} {post : Option Value → List va_E → Prop} {K : AK} {pc : Nat} {ls : AL} {hs : List va_E} (h : ClR cc none post K) (hd : decode cc pc = .ok (.return_, 1)) (hp : post none hs) : K pc ls [] hs := (h pc ls hs).2.2.2.1 rfl hd hp
theorem lg_sl_tv (ad : Nat → Nat) (vs : List Value) : (lg_sl (vs.map (tv ad))).length = (lg_sl vs).length := by
  induction vs with
  | nil => rfl
  | cons v vs ih => cases v <;> simp_all [lg_sl, tv, Value.category]
set_option maxHeartbeats 4000000 in
theorem Ct.of {l : Launch} {d : Nat} {y : MethodName} {bytes : ByteArray} {maxL : Nat} {ret : Option FieldType} {args : List Value} {hs : List va_E} {post : Option Value → List va_E → Prop} (hy : plainName y.cls = true) (hlen : (lg_sl args).length ≤ maxL)
    (body : ∀ K : AK, Cl l bytes y.cls maxL (rmD d) K → ClR bytes ret post K → K 0 (lv_args 0 args) [] hs) : Ct l d y bytes maxL ret args hs post := by
  intro D cA ad sz
  refine Met.ofW (cc := bytes) (maxL := maxL) (ret := ret) hy rfl ?_
  intro p e s m args0 below meth c s₁ B hml hv
  obtain ⟨rfl, hsz, hP, hK, hD0⟩ := hv
  have hx := B.exec
  have hb := B.bytes
  have hr := B.returns
  have hts := atoms_spec (ws := Cond.code y bytes maxL ret :: GW) B.pre
  have hown : s.vm.findClass y.cls = some m.cls := findClass_of_methodNamed B.named
  have hlocks := B.notSynchronized
  subst hsz
  have hA : ∀ q : Nat, s.heap.size ≤ q → va_A (tw cA ad hs) s.heap.size q := fun q h => Or.inr h
  have hS : va_S (va_A (tw cA ad hs) s.heap.size) s.heap s.heap [] := va_S.rf
  have hl := lv_entry (args.map (tv ad)) (n := maxL) (by rw [lg_sl_tv]; exact hlen)
  rw [lg_entry_eq]
  rw [tv_args] at hl
  refine body (Go p l e (rmD d) s m (args.map (tv ad)).toArray below meth c D cA ad (va_A (tw cA ad hs) s.heap.size) s.heap maxL hs.length 0 0 (MQ below (QX D cA ad hs.length post (va_A (tw cA ad hs) s.heap.size)) (args.map (tv ad)).toArray s 0 0 (va_A (tw cA ad hs) s.heap.size))) ?_ ?_ rfl s.heap [] _ hP hS hl
  · exact ⟨p, e, s, m, _, below, meth, c, D, cA, ad, _, s.heap, _, 0, 0, _, ⟨hx, hb, hml, hown, fun w hw => hts w (List.mem_cons_of_mem _ hw), hK, fun hs2 hn => va_D_len hn hD0.self, hA, ⟨Nat.le_refl _, Nat.le_refl _⟩⟩, rfl⟩
  · intro pc ls hs2
    refine ⟨fun v e1 hd hp => ?_, fun v e1 hnr hd hp => ?_, fun v e1 hd hp => ?_, fun e1 hd hp => ?_, fun v e1 hnr hd hp => ?_⟩
    · subst e1
      intro hn H locs lsC hP hS hl
      exact W.iret hx hb hr (fun t ht hW => ⟨⟨some (.int v), hs2, rfl, hp, hn, by rw [ht]; exact hP⟩, hS.F ht⟩) hS.2.2 hd
    · subst e1
      intro hn H locs lsC hP hS hl
      exact W.zret hx hb hr hnr (fun t ht hW => ⟨⟨some (.int v), hs2, rfl, hp, hn, by rw [ht]; exact hP⟩, hS.F ht⟩) hS.2.2 hd
    · subst e1
      intro hn H locs lsC hP hS hl
      exact W.lret hx hb hr (fun t ht hW => ⟨⟨some (.long v), hs2, rfl, hp, hn, by rw [ht]; exact hP⟩, hS.F ht⟩) hS.2.2 hd
    · subst e1
      intro hn H locs lsC hP hS hl
      exact W.vret hx hb hr (fun t ht hW => ⟨⟨none, hs2, rfl, hp, hn, by rw [ht]; exact hP⟩, hS.F ht⟩) hS.2.2 hd
    · subst e1
      intro hn H locs lsC hP hS hl
      exact W.zret hx hb hr hnr (fun t ht hW => ⟨⟨some (.int v), hs2, rfl, hp, hn, by rw [ht]; exact hP⟩, hS.F ht⟩) hS.2.2 hd
/-- a contract with a weaker end, with more room -/
theorem Ct.mono {l : Launch} {d : Nat} {y : MethodName} {bytes : ByteArray} {maxL : Nat} {ret : Option FieldType} {args : List Value} {hs : List va_E} {post post2 : Option Value → List va_E → Prop} (h : Ct l d y bytes maxL ret args hs post) (hp : ∀ r h2, post r h2 → post2 r h2) : Ct l d y bytes maxL ret args hs post2 := by
  intro D cA ad sz p e ha hc hk s m args2 below hf happ hP hK
  obtain ⟨k, o, h1, h2, h3, ⟨⟨r, hs2, e1, e2, e3⟩, e4⟩, e5⟩ := h D cA ad sz p e ha hc hk s m args2 below hf happ hP hK
  exact ⟨k, o, h1, h2, h3, ⟨⟨r, hs2, e1, hp _ _ e2, e3⟩, e4⟩, e5⟩
/-! fields -/
def TB (q : vw_C) : Prop := (∀ w ∈ u_ws q.1 q.2.1 q.2.2, w ∈ GW) ∧ (∃ ty0 : Nat → FieldType, ∀ k, k < q.2.2 → parseFieldDescriptor (q.2.1 k).2.2.1 = some (ty0 k)) ∧ (∀ a, a < q.2.2 → ∀ b, b < q.2.2 → a ≠ b → (q.2.1 a).2.1 ≠ (q.2.1 b).2.1)
def LkF (own : String) (idx ci k : Nat) : Prop := ∃ (C : String) (T : u_T) (N : Nat), vwCl[ci]? = some (C, T, N) ∧ TB (C, T, N) ∧ k < N ∧ (T k).1 = C ∧ Cond.fieldLink own idx C (T k).2.1 (T k).2.2.1 ∈ GW
def LkP (own : String) (idx ci k : Nat) (ty : FieldType) : Prop := ∃ (C : String) (T : u_T) (N : Nat), vwCl[ci]? = some (C, T, N) ∧ TB (C, T, N) ∧ k < N ∧ (T k).1 = C ∧ Cond.fieldLink own idx C (T k).2.1 (T k).2.2.1 ∈ GW ∧ (T k).2.2.2 = false ∧ parseFieldDescriptor (T k).2.2.1 = some ty
section CLF
variable {l : Launch} {cc : ByteArray} {own : String} {nL : Nat} {R : Room} {K : AK} {pc : Nat} {ls : AL} {st : List Value} {hs : List va_E}
theorem Cl.getfield (h : Cl l cc own nL R K) {idx ci k a : Nat} {fs : List Value} {v : Value} (hd : decode cc pc = .ok (.getfield idx, 3)) (hlk : LkF own idx ci k) (ha : hs[a]? = some (.inr (ci, fs))) (hv : fs[k]? = some v) (kk : K (pc + 3) ls (v :: st) hs) : K pc ls (.ref a :: st) hs := by
  obtain ⟨p, e, s, m, args, below, meth, c, D, cA, ad, A0, H0, N, ck, sk, Q, ⟨hx, hb, hml, hown, hts, hKX, hD0, hA0, hcs⟩, rfl⟩ := h
  obtain ⟨C, T, n, hc, ⟨hin, -, -⟩, hk, hT, hw⟩ := hlk
  intro hn H locs lsC hP hS hl
  exact va_get (v := tv ad v) hx hb hts hin hown hKX.1 hP a (tw_at ha) hc k hk (hts _ hw) (fun x h => by rw [← hT]; exact h) (by rw [List.getElem?_map, hv]; rfl) hd (kk hn H locs lsC hP hS hl)
theorem Cl.putI (h : Cl l cc own nL R K) {idx ci k a : Nat} {ty : FieldType} {fs : List Value} {v : Int32} (hd : decode cc pc = .ok (.putfield idx, 3)) (hlk : LkP own idx ci k ty) (hnr : narrow ty (.int v) = .int v) (hft : fits ty (.int v) = true) (ha : hs[a]? = some (.inr (ci, fs))) (hf : k < fs.length) (kk : K (pc + 3) ls st (hs.set a (.inr (ci, fs.set k (.int v))))) : K pc ls (.int v :: .ref a :: st) hs := by
  obtain ⟨p, e, s, m, args, below, meth, c, D, cA, ad, A0, H0, N, ck, sk, Q, ⟨hx, hb, hml, hown, hts, hKX, hD0, hA0, hcs⟩, rfl⟩ := h
  obtain ⟨C, T, n, hc, ⟨hin, ⟨ty0, hty⟩, hnm⟩, hk, hT, hw, hfin, hpd⟩ := hlk
  intro hn H locs lsC hP hS hl
  exact va_put (v := .int v) hx hb hts hin ty0 hty hnm hown hKX.1 hP (hD0 hs hn) hS a (tw_at ha) hc k hk (hts _ hw) (fun x h => by rw [← hT]; exact h) hfin hpd hnr hft (by rw [List.length_map]; exact hf) hd
    (fun H1 locs1 hP1 hD1 hS1 => kk (by rw [List.length_set]; exact hn) H1 locs1 lsC (by rw [tw_set]; rw [show te cA ad (.inr (ci, fs.set k (.int v))) = .inr (ci, (fs.map (tv ad)).set k (.int v)) from by show Sum.inr (ci, List.map (tv ad) (fs.set k (.int v))) = _; rw [List.map_set]; rfl]; exact hP1) hS1 hl)
theorem Cl.putR (h : Cl l cc own nL R K) {idx ci k a v : Nat} {C0 : String} {fs : List Value} (hd : decode cc pc = .ok (.putfield idx, 3)) (hlk : LkP own idx ci k (.object C0)) (ha : hs[a]? = some (.inr (ci, fs))) (hf : k < fs.length) (kk : K (pc + 3) ls st (hs.set a (.inr (ci, fs.set k (.ref v))))) : K pc ls (.ref v :: .ref a :: st) hs := by
  obtain ⟨p, e, s, m, args, below, meth, c, D, cA, ad, A0, H0, N, ck, sk, Q, ⟨hx, hb, hml, hown, hts, hKX, hD0, hA0, hcs⟩, rfl⟩ := h
  obtain ⟨C, T, n, hc, ⟨hin, ⟨ty0, hty⟩, hnm⟩, hk, hT, hw, hfin, hpd⟩ := hlk
  intro hn H locs lsC hP hS hl
  exact va_put (v := .ref (ad v)) hx hb hts hin ty0 hty hnm hown hKX.1 hP (hD0 hs hn) hS a (tw_at ha) hc k hk (hts _ hw) (fun x h => by rw [← hT]; exact h) hfin hpd rfl rfl (by rw [List.length_map]; exact hf) hd
    (fun H1 locs1 hP1 hD1 hS1 => kk (by rw [List.length_set]; exact hn) H1 locs1 lsC (by rw [tw_set]; rw [show te cA ad (.inr (ci, fs.set k (.ref v))) = .inr (ci, (fs.map (tv ad)).set k (.ref (ad v))) from by show Sum.inr (ci, List.map (tv ad) (fs.set k (.ref v))) = _; rw [List.map_set]; rfl]; exact hP1) hS1 hl)
/-- fewer locals, in any order -/
theorem Cl.locals (h : Cl l cc own nL R K) {ls2 : AL} (hsub : ∀ q ∈ ls2, lk ls q.1 = some q.2) (kk : K pc ls2 st hs) : K pc ls st hs := by
  obtain ⟨p, e, s, m, args, below, meth, c, D, cA, ad, A0, H0, N, ck, sk, Q, ⟨hx, hb, hml, hown, hts, hKX, hD0, hA0, hcs⟩, rfl⟩ := h
  intro hn H locs lsC hP hS hl
  refine kk hn H locs lsC hP hS ⟨hl.1, hl.2.1, fun q hq => ?_⟩
  obtain ⟨q0, h0, rfl⟩ := List.mem_map.mp hq
  exact lk_at hl (hsub q0 h0)
end CLF
/-! calls: the callee's world is cut out by places -/
def rn (is : List Nat) : Nat → Nat := fun j => is.getD j 0
def pb : List Nat → List va_E → List va_E → List va_E
  | i :: is, e :: es, hs => pb is es (hs.set i e)
  | _, _, hs => hs
theorem nd_inj : ∀ (is : List Nat) (i j a : Nat), is.Nodup → is[i]? = some a → is[j]? = some a → i = j
  | [], _, _, _, _, h, _ => by simp at h
  | x :: is, 0, 0, _, _, _, _ => rfl
  | x :: is, 0, j + 1, a, hn, h1, h2 => by
    have e1 : x = a := by simpa using h1
    have h3 : is[j]? = some a := by simpa using h2
    exact absurd (e1 ▸ List.mem_of_getElem? h3) (List.nodup_cons.mp hn).1
  | x :: is, i + 1, 0, a, hn, h1, h2 => by
    have e1 : x = a := by simpa using h2
    have h3 : is[i]? = some a := by simpa using h1
    exact absurd (e1 ▸ List.mem_of_getElem? h3) (List.nodup_cons.mp hn).1
  | x :: is, i + 1, j + 1, a, hn, h1, h2 => by
    have := nd_inj is i j a (List.nodup_cons.mp hn).2 (by simpa using h1) (by simpa using h2)
    omega
theorem pb_len : ∀ (is : List Nat) (es hs : List va_E), (pb is es hs).length = hs.length
  | [], _, _ => rfl
  | _ :: _, [], _ => rfl
  | i :: is, e :: es, hs => by
    show (pb is es (hs.set i e)).length = _
    rw [pb_len is es, List.length_set]
theorem pb_out : ∀ (is : List Nat) (es hs : List va_E) (k : Nat), k ∉ is → (pb is es hs)[k]? = hs[k]?
  | [], _, _, _, _ => rfl
  | _ :: _, [], _, _, _ => rfl
  | i :: is, e :: es, hs, k, hk => by
    show (pb is es (hs.set i e))[k]? = _
    rw [pb_out is es _ k (fun h => hk (List.mem_cons_of_mem _ h)), List.getElem?_set_ne (fun h => hk (by rw [h]; exact List.mem_cons_self))]
theorem pb_in : ∀ (is : List Nat) (es hs : List va_E) (j k : Nat) (e : va_E), is.Nodup → is[j]? = some k → es[j]? = some e → k < hs.length → (pb is es hs)[k]? = some e
  | [], _, _, j, _, _, _, h, _, _ => by simp at h
  | _ :: _, [], _, j, _, _, _, _, h, _ => by simp at h
  | i :: is, x :: es, hs, j, k, e, hnd, hi, he, hl => by
    show (pb is es (hs.set i x))[k]? = _
    obtain ⟨h1, h2⟩ := List.nodup_cons.mp hnd
    cases j with
    | zero =>
      have e1 : i = k := by simpa using hi
      have e2 : x = e := by simpa using he
      subst e1; subst e2
      rw [pb_out is es _ i h1, List.getElem?_set_self hl]
    | succ j =>
      exact pb_in is es _ j k e h2 (by simpa using hi) (by simpa using he) (by rw [List.length_set]; exact hl)
def Cut (is : List Nat) (hc hs : List va_E) : Prop := is.Nodup ∧ is.map (fun i => hs[i]?) = hc.map (fun e => some (te (fun t => t) (rn is) e))
theorem Cut.at {is : List Nat} {hc hs : List va_E} (h : Cut is hc hs) {j : Nat} {e : va_E} (he : hc[j]? = some e) : ∃ i, is[j]? = some i ∧ rn is j = i ∧ hs[i]? = some (te (fun t => t) (rn is) e) := by
  have h1 : (is.map (fun i => hs[i]?))[j]? = some (some (te (fun t => t) (rn is) e)) := by rw [h.2, List.getElem?_map, he]; rfl
  rw [List.getElem?_map] at h1
  cases hi : is[j]? with
  | none => rw [hi] at h1; cases h1
  | some i =>
    rw [hi] at h1
    exact ⟨i, rfl, by simp [rn, List.getD, hi], Option.some.inj h1⟩
theorem Cut.len {is : List Nat} {hc hs : List va_E} (h : Cut is hc hs) : is.length = hc.length := by
  have := congrArg List.length h.2
  simpa using this
section CLC
variable {p : Program} {l : Launch} {e : Env} {R : Room} {s : State} {m : MethodId} {args : Array Value} {below : List Frame} {meth : Method} {c : Code} {D : va_G} {cA : Nat → ClassId} {ad : Nat → Nat} {A0 : Nat → Prop} {H0 : Heap} {nL N ck sk : Nat} {Q : State → Prop} {cc : ByteArray} {own : String}
variable {pc : Nat} {ls : AL} {st : List Value} {hs hc : List va_E} {is : List Nat} {H : Heap} {locs : List Loc} {lsC : Array Slot} {post : Option Value → List va_E → Prop}
theorem cut_P (hcut : Cut is hc hs) (hP : va_P D vwCl (tw cA ad hs) H) : va_P D vwCl (tw cA (fun j => ad (rn is j)) hc) H := by
  intro k q hk
  rw [tw_get] at hk
  cases he : hc[k]? with
  | none => rw [he] at hk; cases hk
  | some e0 =>
    rw [he] at hk
    obtain ⟨i, -, h2, h3⟩ := hcut.at he
    rw [← Option.some.inj hk]
    have h4 := hP i _ (tw_at h3)
    rw [te_te] at h4
    show va_at D vwCl (ad (rn is k), _) H
    rw [h2]
    exact h4
theorem cut_D {A : Nat → Prop} (hcut : Cut is hc hs) (hD : va_D A (tw cA ad hs)) : va_D A (tw cA (fun j => ad (rn is j)) hc) := by
  have key : ∀ (k : Nat) (q : Nat × va_E), (tw cA (fun j => ad (rn is j)) hc)[k]? = some q → ∃ i q0, is[k]? = some i ∧ (tw cA ad hs)[i]? = some q0 ∧ q0.1 = q.1 := by
    intro k q hk
    rw [tw_get] at hk
    cases he : hc[k]? with
    | none => rw [he] at hk; cases hk
    | some e0 =>
      rw [he] at hk
      obtain ⟨i, h1, h2, h3⟩ := hcut.at he
      refine ⟨i, _, h1, tw_at h3, ?_⟩
      rw [← Option.some.inj hk]
      show ad i = ad (rn is k)
      rw [h2]
  refine ⟨fun i j x y hi hj exy => ?_, fun k q hk => ?_⟩
  · obtain ⟨a, xa, g1, g2, g3⟩ := key i x hi
    obtain ⟨b, yb, f1, f2, f3⟩ := key j y hj
    have hab : a = b := hD.1 a b xa yb g2 f2 (by rw [g3, f3, exy])
    subst hab
    exact nd_inj is i j a hcut.1 g1 f1
  · obtain ⟨a, xa, g1, g2, g3⟩ := key k q hk
    rw [← g3]
    exact hD.2 a xa g2
theorem Go.after (G : GC p R s m args c D cA ad A0 H0 nL N ck sk cc own) (hn : hs.length = N) (hP : va_P D vwCl (tw cA ad hs) H) (hS : va_S A0 H0 H locs) (hl : lv_has lsC nL (tl ad ls)) (hcut : Cut is hc hs) {stk : List Value} {a : Array Value}
    (hr : va_Run p l e R s m args below meth c H locs ck sk 0 0 (F0 m pc lsC stk) (st.map (tv ad)) (QX D cA (fun j => ad (rn is j)) hc.length post (va_A (tw cA (fun j => ad (rn is j)) hc) H.size) a) (va_A (tw cA (fun j => ad (rn is j)) hc) H.size))
    (k : ∀ (r : Option Value) (hc2 : List va_E), post r hc2 → hc2.length = hc.length → Go p l e R s m args below meth c D cA ad A0 H0 nL N ck sk Q (pc + 3) ls ((r.map (tv (rn is))).toList ++ st) (pb is (hc2.map (te (fun t => t) (rn is))) hs)) :
    W p l e R s m args below meth c H locs ck sk Q (F0 m pc lsC stk) := by
  obtain ⟨hx, hb, hml, hown, hts, hKX, hD0, hA0, hcs⟩ := G
  have hDh := hD0 hs hn
  have hF : ∀ q, va_A (tw cA (fun j => ad (rn is j)) hc) H.size q → A0 q := by
    intro q hq
    rcases hq with ⟨k0, e0, hk⟩ | hq
    · exact (cut_D hcut hDh).2 k0 _ hk
    · exact hA0 q (Nat.le_trans hS.1 hq)
  intro T hT X
  obtain ⟨v, st₀, t, T', L, h0, X', hL, e1, e2, ⟨⟨r, hc2, hv, hp, hlen, hP1⟩, hz, hk⟩, stp⟩ := hr T hT X
  cases hv
  rw [h0] at hz hk
  have hstk : (Option.map (tv fun j => ad (rn is j)) r).toList ++ st.map (tv ad) = ((r.map (tv (rn is))).toList ++ st).map (tv ad) := by
    cases r with
    | none => rfl
    | some v => simp [tv_tv]
  rw [hstk] at stp
  have hPn : va_P D vwCl (tw cA ad (pb is (hc2.map (te (fun t => t) (rn is))) hs)) T'.heap := by
    intro i q hi
    rw [tw_get] at hi
    by_cases hm : i ∈ is
    · obtain ⟨j, hj⟩ := List.getElem?_of_mem hm
      have hjl : j < hc2.length := by rw [hlen, ← hcut.len]; exact (List.getElem?_eq_some_iff.mp hj).1
      have hi2 : i < hs.length := by
        have hjc : j < hc.length := by rw [← hlen]; exact hjl
        obtain ⟨i2, g1, g2, g3⟩ := hcut.at (List.getElem?_eq_getElem hjc)
        rw [hj] at g1
        rw [Option.some.inj g1]
        exact (List.getElem?_eq_some_iff.mp g3).1
      rw [pb_in is _ hs j i (te (fun t => t) (rn is) hc2[j]) hcut.1 hj (by rw [List.getElem?_map, List.getElem?_eq_getElem hjl]; rfl) hi2] at hi
      rw [← Option.some.inj hi]
      show va_at D vwCl (ad i, te cA ad (te (fun t => t) (rn is) hc2[j])) T'.heap
      rw [te_te]
      have h4 := hP1 j _ (tw_at (List.getElem?_eq_getElem hjl))
      rw [show rn is j = i from by simp [rn, List.getD, hj]] at h4
      rw [e1]
      exact h4
    · rw [pb_out is _ hs i hm] at hi
      have hi0 : (tw cA ad hs)[i]? = some q := by rw [tw_get]; exact hi
      have h4 := hP i q hi0
      refine h4.kept ?_
      rw [e1]
      refine hk q.1 h4.lt ?_
      rintro (⟨j, e0, hj⟩ | hq)
      · rw [tw_get] at hj
        cases he : hc[j]? with
        | none => rw [he] at hj; cases hj
        | some ej =>
          rw [he] at hj
          obtain ⟨i2, g1, g2, g3⟩ := hcut.at he
          have e5 : ad (rn is j) = q.1 := congrArg Prod.fst (Option.some.inj hj)
          have := hDh.1 i i2 q _ hi0 (tw_at g3) (by rw [← e5, g2])
          subst this
          exact hm (List.mem_of_getElem? g1)
      · exact absurd h4.lt (by omega)
  obtain ⟨t2, a1, b1⟩ := k r hc2 hp hlen (by rw [pb_len]; exact hn) T'.heap (locs ++ L) lsC hPn
    ⟨Nat.le_trans hS.1 (by rw [e1]; exact hz), fun q h1 h2 => by rw [e1, hk q (Nat.lt_of_lt_of_le h1 hS.1) (fun z => h2 (hF q z))]; exact hS.2.1 q h1 h2, fun q hq => by
      rcases List.mem_append.mp hq with h | h
      · exact hS.2.2 q h
      · exact hF _ (hL q h)⟩ hl T' rfl X'
  exact ⟨t2, stp t2 a1, b1⟩
theorem wpd_blind {hc : List va_E} {sz : Nat} {av : List Value} : FrameBlind (va_Pc av (WPd D cA ad hc sz)) := fun a U g mk q => ⟨q.1, q.2.1, q.2.2.1, ⟨va_K.moved (u := U) (U := U.calling g mk a) (Vm.Alike.refl U.vm) q.2.2.2.1.1, NWs.same (s := U) (U := U.calling g mk a) rfl q.2.2.2.1.2⟩, q.2.2.2.2⟩
end CLC
def MK (y : MethodName) (bytes : ByteArray) (maxL : Nat) (ret : Option FieldType) (n : Nat) : Prop := Cond.code y bytes maxL ret ∈ GW ∧ Cond.initialized y.cls ∈ GW ∧ (y.cls ≠ "java/lang/invoke/MethodHandle" ∧ y.cls ≠ "java/lang/invoke/VarHandle" ∧ (parseMethodDescriptor y.desc).map (fun d => d.parameters.length) = some n)
theorem MK.good {y : MethodName} {bytes : ByteArray} {maxL : Nat} {ret : Option FieldType} {n : Nat} (h : MK y bytes maxL ret n) : GoodIn GW (Cond.code y bytes maxL ret :: GW) := by
  intro w hw
  rcases List.mem_cons.mp hw with rfl | hw
  · exact ⟨h.1, gw_good h.1⟩
  · exact ⟨hw, gw_good hw⟩
def rmOk (d maxL : Nat) (R : Room) : Prop := d + 1 ≤ R.frames ∧ 8 + (maxL + 11) + 40 * d ≤ R.locals
section CLD
variable {l : Launch} {cc : ByteArray} {own : String} {nL : Nat} {R : Room} {K : AK} {pc : Nat} {ls : AL} {st stk : List Value} {hs hc : List va_E} {is : List Nat}
variable {y : MethodName} {bytes : ByteArray} {maxL n d idx : Nat} {ret : Option FieldType} {post : Option Value → List va_E → Prop} {As : List Value}
set_option maxHeartbeats 4000000 in
theorem Cl.callV (h : Cl l cc own nL R K) {b ci : Nat} {fs : List Value} (is : List Nat) (hd : decode cc pc = .ok (.invokevirtual idx, 3)) (hlk : Cond.methodLink own idx y ∈ GW) (hm : MK y bytes maxL ret n) (hiv : Cond.instanceMethod y ∈ GW ∧ Cond.selects y.cls y y ∈ GW)
    (hct : Ct l d y bytes maxL ret (.ref b :: As) hc post) (hR : rmOk d maxL R) (hlen : As.length = n) (hstk : stk = (As.map (tv (rn is))).reverse ++ .ref (rn is b) :: st) (hcat : (st.map fun v => v.category).sum ≤ 8) (hcut : Cut is hc hs) (hrc : hc[b]? = some (.inr (ci, fs))) (hcl : (vwCl[ci]?).map (fun q => q.1) = some y.cls)
    (k : ∀ (r : Option Value) (hc2 : List va_E), post r hc2 → hc2.length = hc.length → K (pc + 3) ls ((r.map (tv (rn is))).toList ++ st) (pb is (hc2.map (te (fun t => t) (rn is))) hs)) : K pc ls stk hs := by
  obtain ⟨p, e, s, m, args, below, meth, c, D, cA, ad, A0, H0, N, ck, sk, Q, G, rfl⟩ := h
  intro hn H locs lsC hP hS hl
  have G0 := G
  obtain ⟨hx, hb, hml, hown, hts, hKX, hD0, hA0, hcs⟩ := G
  have hPc := cut_P (cA := cA) (ad := ad) hcut hP
  have hDc := cut_D hcut (hD0 hs hn)
  refine Go.after G0 hn hP hS hl hcut (va_runV (As := As.map (tv (fun j => ad (rn is j)))) (b := ad (rn is b)) (C := y.cls) (n := n) ⟨hx, hb, hml, hown, hts⟩ (hct D cA (fun j => ad (rn is j)) H.size) ⟨callB_of n hts hm.good rfl rfl rfl (hts _ hm.2.1) (hts _ hlk) hm.2.2 hR, hts _ hiv.1, hts _ hiv.2⟩ ⟨wpd_blind, ?_, fun U hU hW => ⟨rfl, by rw [hU], by rw [hU]; exact hPc, hKX.warm hW, hDc.weaken (fun _ _ _ _ => trivial)⟩⟩ rfl (by rw [List.length_map]; exact hlen) hl.1 ?_ (lv_room ?_) hd hcs) k
  · obtain ⟨q, hq, hq2⟩ : ∃ q, vwCl[ci]? = some q ∧ q.1 = y.cls := by
      cases hh : vwCl[ci]? with
      | none => rw [hh] at hcl; cases hcl
      | some q => rw [hh] at hcl; exact ⟨q, rfl, Option.some.inj hcl⟩
    rw [← hq2]
    exact va_recv hKX.1 hPc (ci := ci) (q0 := b) hq (tw_at hrc)
  · rw [hstk]
    show List.map (tv ad) _ = _
    rw [List.map_append, List.map_reverse, List.map_map, show (tv ad ∘ tv (rn is)) = tv (fun j => ad (rn is j)) from funext (fun v => tv_tv ad (rn is) v)]
    rfl
  · rw [List.map_map]
    have : ((fun v : Value => v.category) ∘ tv ad) = fun v => v.category := funext (fun v => tv_cat ad v)
    rw [this]
    exact hcat
set_option maxHeartbeats 4000000 in
theorem Cl.callS (h : Cl l cc own nL R K) (is : List Nat) (hd : decode cc pc = .ok (.invokestatic idx, 3)) (hlk : Cond.methodLink own idx y ∈ GW) (hm : MK y bytes maxL ret n) (hst : Cond.static y ∈ GW)
    (hct : Ct l d y bytes maxL ret As hc post) (hR : rmOk d maxL R) (hlen : As.length = n) (hstk : stk = (As.map (tv (rn is))).reverse ++ st) (hcat : (st.map fun v => v.category).sum ≤ 8) (hcut : Cut is hc hs)
    (k : ∀ (r : Option Value) (hc2 : List va_E), post r hc2 → hc2.length = hc.length → K (pc + 3) ls ((r.map (tv (rn is))).toList ++ st) (pb is (hc2.map (te (fun t => t) (rn is))) hs)) : K pc ls stk hs := by
  obtain ⟨p, e, s, m, args, below, meth, c, D, cA, ad, A0, H0, N, ck, sk, Q, G, rfl⟩ := h
  intro hn H locs lsC hP hS hl
  have G0 := G
  obtain ⟨hx, hb, hml, hown, hts, hKX, hD0, hA0, hcs⟩ := G
  have hPc := cut_P (cA := cA) (ad := ad) hcut hP
  have hDc := cut_D hcut (hD0 hs hn)
  refine Go.after G0 hn hP hS hl hcut (va_runS (As := As.map (tv (fun j => ad (rn is j)))) (n := n) ⟨hx, hb, hml, hown, hts⟩ (hct D cA (fun j => ad (rn is j)) H.size) ⟨callB_of n hts hm.good rfl rfl rfl (hts _ hm.2.1) (hts _ hlk) hm.2.2 hR, hts _ hst⟩ ⟨wpd_blind, fun U hU hW => ⟨rfl, by rw [hU], by rw [hU]; exact hPc, hKX.warm hW, hDc.weaken (fun _ _ _ _ => trivial)⟩⟩ rfl (by rw [List.length_map]; exact hlen) hl.1 ?_ (lv_room ?_) hd hcs) k
  · rw [hstk]
    show List.map (tv ad) _ = _
    rw [List.map_append, List.map_reverse, List.map_map, show (tv ad ∘ tv (rn is)) = tv (fun j => ad (rn is j)) from funext (fun v => tv_tv ad (rn is) v)]
  · rw [List.map_map]
    have : ((fun v : Value => v.category) ∘ tv ad) = fun v => v.category := funext (fun v => tv_cat ad v)
    rw [this]
    exact hcat
set_option maxHeartbeats 4000000 in
theorem Cl.callSN (h : Cl l cc own nL R K) (is : List Nat) {host : String} (hd : decode cc pc = .ok (.invokestatic idx, 3)) (hlk : Cond.methodLinkNest own idx y host ∈ NL) (hm : MK y bytes maxL ret n) (hst : Cond.static y ∈ GW)
    (hct : Ct l d y bytes maxL ret As hc post) (hR : rmOk d maxL R) (hlen : As.length = n) (hstk : stk = (As.map (tv (rn is))).reverse ++ st) (hcat : (st.map fun v => v.category).sum ≤ 8) (hcut : Cut is hc hs)
    (k : ∀ (r : Option Value) (hc2 : List va_E), post r hc2 → hc2.length = hc.length → K (pc + 3) ls ((r.map (tv (rn is))).toList ++ st) (pb is (hc2.map (te (fun t => t) (rn is))) hs)) : K pc ls stk hs := by
  obtain ⟨p, e, s, m, args, below, meth, c, D, cA, ad, A0, H0, N, ck, sk, Q, G, rfl⟩ := h
  intro hn H locs lsC hP hS hl
  have G0 := G
  obtain ⟨hx, hb, hml, hown, hts, hKX, hD0, hA0, hcs⟩ := G
  have hPc := cut_P (cA := cA) (ad := ad) hcut hP
  have hDc := cut_D hcut (hD0 hs hn)
  refine Go.after G0 hn hP hS hl hcut (va_runSN (As := As.map (tv (fun j => ad (rn is j)))) (n := n) ⟨hx, hb, hml, hown, hts⟩ (hct D cA (fun j => ad (rn is j)) H.size) ⟨va_cnB n hts hm.good rfl rfl rfl (hKX.2 _ hlk) (hts _ hm.2.1) hm.2.2 hR, hts _ hst, trivial⟩ ⟨wpd_blind, fun U hU hW => ⟨rfl, by rw [hU], by rw [hU]; exact hPc, hKX.warm hW, hDc.weaken (fun _ _ _ _ => trivial)⟩⟩ rfl (by rw [List.length_map]; exact hlen) hl.1 ?_ (lv_room ?_) hd hcs) k
  · rw [hstk]
    show List.map (tv ad) _ = _
    rw [List.map_append, List.map_reverse, List.map_map, show (tv ad ∘ tv (rn is)) = tv (fun j => ad (rn is j)) from funext (fun v => tv_tv ad (rn is) v)]
  · rw [List.map_map]
    have : ((fun v : Value => v.category) ∘ tv ad) = fun v => v.category := funext (fun v => tv_cat ad v)
    rw [this]
    exact hcat
end CLD
end
section
/-! where each word of the tables stands: written by program (wip/whole/mklinks.py) -/
theorem gw_all (ws : List Cond) (ps : List Nat) (h : ws = ps.filterMap (fun i => lw_tbl[i]?)) (hg : ws.all goodWord = true) : ∀ w ∈ ws, w ∈ GW := by
  intro w hw
  have h1 := List.all_eq_true.mp hg w hw
  rw [h] at hw
  obtain ⟨i, -, hi⟩ := List.mem_filterMap.mp hw
  exact gw i hi h1
theorem nl {w : Cond} (i : Nat) (h : tables_1[i]? = some w) (hn : isNM w = true) : w ∈ NL := List.mem_filter.mpr ⟨List.mem_of_getElem? h, hn⟩
theorem tbX0 : TB (RX0, TX0, 3) := ⟨gw_all _ [143, 145, 147] (by decide +kernel) (by decide +kernel), ⟨tyX0, tyX0_ok⟩, nmX0⟩
theorem tbX1 : TB (RX1, TX1, 4) := ⟨gw_all _ [122, 124, 126, 128] (by decide +kernel) (by decide +kernel), ⟨tyX1, tyX1_ok⟩, nmX1⟩
theorem tbX2 : TB (RX2, TX2, 3) := ⟨gw_all _ [160, 162, 164] (by decide +kernel) (by decide +kernel), ⟨tyX2, tyX2_ok⟩, nmX2⟩
theorem tbX3 : TB (RX3, TX3, 7) := ⟨gw_all _ [223, 225, 227, 229, 231, 233, 235] (by decide +kernel) (by decide +kernel), ⟨tyX3, tyX3_ok⟩, nmX3⟩
theorem tbX4 : TB (RX4, TX4, 12) := ⟨gw_all _ [272, 274, 276, 278, 280, 282, 284, 286, 288, 290, 292, 294] (by decide +kernel) (by decide +kernel), ⟨tyX4, tyX4_ok⟩, nmX4⟩
theorem tbX5 : TB (RX5, TX5, 6) := ⟨gw_all _ [92, 94, 96, 98, 100, 102] (by decide +kernel) (by decide +kernel), ⟨tyX5, tyX5_ok⟩, nmX5⟩
theorem tbX6 : TB (RX6, TX6, 6) := ⟨gw_all _ [194, 196, 198, 200, 202, 204] (by decide +kernel) (by decide +kernel), ⟨tyX6, tyX6_ok⟩, nmX6⟩
theorem tbX7 : TB (RX7, TX7, 2) := ⟨gw_all _ [175, 177] (by decide +kernel) (by decide +kernel), ⟨tyX7, tyX7_ok⟩, nmX7⟩
theorem tbX8 : TB (RX8, TX8, 12) := ⟨gw_all _ [309, 311, 313, 315, 317, 319, 321, 323, 325, 327, 329, 331] (by decide +kernel) (by decide +kernel), ⟨tyX8, tyX8_ok⟩, nmX8⟩
theorem tbX9 : TB (RX9, TX9, 40) := ⟨gw_all _ [910, 912, 914, 916, 918, 920, 922, 924, 926, 928, 930, 932, 934, 936, 938, 940, 942, 944, 946, 948, 950, 952, 954, 956, 958, 960, 962, 964, 966, 968, 970, 972, 974, 976, 978, 980, 982, 984, 986, 988] (by decide +kernel) (by decide +kernel), ⟨tyX9, tyX9_ok⟩, nmX9⟩
theorem mkX0_init : MK yX0_init cX0_init 1 none 0 := ⟨gw 137 (by decide +kernel) rfl, gw 55 (by decide +kernel) rfl, by decide +kernel⟩
theorem mkX0_add : MK yX0_add cX0_add 3 none 2 := ⟨gw 832 (by decide +kernel) rfl, gw 55 (by decide +kernel) rfl, by decide +kernel⟩
theorem svX0_add : Cond.instanceMethod yX0_add ∈ GW ∧ Cond.selects yX0_add.cls yX0_add yX0_add ∈ GW := ⟨gw 830 (by decide +kernel) rfl, gw 831 (by decide +kernel) rfl⟩
theorem mkX0_firstWrong : MK yX0_firstWrong cX0_firstWrong 5 (some .int) 2 := ⟨gw 844 (by decide +kernel) rfl, gw 55 (by decide +kernel) rfl, by decide +kernel⟩
theorem svX0_firstWrong : Cond.instanceMethod yX0_firstWrong ∈ GW ∧ Cond.selects yX0_firstWrong.cls yX0_firstWrong yX0_firstWrong ∈ GW := ⟨gw 842 (by decide +kernel) rfl, gw 843 (by decide +kernel) rfl⟩
theorem mkX1_init : MK yX1_init cX1_init 1 none 0 := ⟨gw 110 (by decide +kernel) rfl, gw 54 (by decide +kernel) rfl, by decide +kernel⟩
theorem mkX1_begin : MK yX1_begin cX1_begin 2 none 1 := ⟨gw 486 (by decide +kernel) rfl, gw 54 (by decide +kernel) rfl, by decide +kernel⟩
theorem svX1_begin : Cond.instanceMethod yX1_begin ∈ GW ∧ Cond.selects yX1_begin.cls yX1_begin yX1_begin ∈ GW := ⟨gw 484 (by decide +kernel) rfl, gw 485 (by decide +kernel) rfl⟩
theorem mkX1_copy : MK yX1_copy cX1_copy 2 none 1 := ⟨gw 859 (by decide +kernel) rfl, gw 54 (by decide +kernel) rfl, by decide +kernel⟩
theorem svX1_copy : Cond.instanceMethod yX1_copy ∈ GW ∧ Cond.selects yX1_copy.cls yX1_copy yX1_copy ∈ GW := ⟨gw 857 (by decide +kernel) rfl, gw 858 (by decide +kernel) rfl⟩
theorem mkX1_sewn : MK yX1_sewn cX1_sewn 1 (some .int) 0 := ⟨gw 505 (by decide +kernel) rfl, gw 54 (by decide +kernel) rfl, by decide +kernel⟩
theorem svX1_sewn : Cond.instanceMethod yX1_sewn ∈ GW ∧ Cond.selects yX1_sewn.cls yX1_sewn yX1_sewn ∈ GW := ⟨gw 503 (by decide +kernel) rfl, gw 504 (by decide +kernel) rfl⟩
theorem mkX1_holding : MK yX1_holding cX1_holding 4 (some .int) 1 := ⟨gw 509 (by decide +kernel) rfl, gw 54 (by decide +kernel) rfl, by decide +kernel⟩
theorem svX1_holding : Cond.instanceMethod yX1_holding ∈ GW ∧ Cond.selects yX1_holding.cls yX1_holding yX1_holding ∈ GW := ⟨gw 507 (by decide +kernel) rfl, gw 508 (by decide +kernel) rfl⟩
theorem mkX1_cost : MK yX1_cost cX1_cost 4 (some .int) 1 := ⟨gw 513 (by decide +kernel) rfl, gw 54 (by decide +kernel) rfl, by decide +kernel⟩
theorem svX1_cost : Cond.instanceMethod yX1_cost ∈ GW ∧ Cond.selects yX1_cost.cls yX1_cost yX1_cost ∈ GW := ⟨gw 511 (by decide +kernel) rfl, gw 512 (by decide +kernel) rfl⟩
theorem mkX1_frayEnds : MK yX1_frayEnds cX1_frayEnds 6 (some .int) 2 := ⟨gw 599 (by decide +kernel) rfl, gw 54 (by decide +kernel) rfl, by decide +kernel⟩
theorem svX1_frayEnds : Cond.instanceMethod yX1_frayEnds ∈ GW ∧ Cond.selects yX1_frayEnds.cls yX1_frayEnds yX1_frayEnds ∈ GW := ⟨gw 597 (by decide +kernel) rfl, gw 598 (by decide +kernel) rfl⟩
theorem mkX1_looseSeams : MK yX1_looseSeams cX1_looseSeams 6 (some .int) 1 := ⟨gw 603 (by decide +kernel) rfl, gw 54 (by decide +kernel) rfl, by decide +kernel⟩
theorem svX1_looseSeams : Cond.instanceMethod yX1_looseSeams ∈ GW ∧ Cond.selects yX1_looseSeams.cls yX1_looseSeams yX1_looseSeams ∈ GW := ⟨gw 602 (by decide +kernel) rfl, gw 13 (by decide +kernel) rfl⟩
theorem mkX1_passYear : MK yX1_passYear cX1_passYear 3 none 1 := ⟨gw 623 (by decide +kernel) rfl, gw 54 (by decide +kernel) rfl, by decide +kernel⟩
theorem svX1_passYear : Cond.instanceMethod yX1_passYear ∈ GW ∧ Cond.selects yX1_passYear.cls yX1_passYear yX1_passYear ∈ GW := ⟨gw 621 (by decide +kernel) rfl, gw 622 (by decide +kernel) rfl⟩
theorem mkX1_tryUnpick : MK yX1_tryUnpick cX1_tryUnpick 4 none 3 := ⟨gw 635 (by decide +kernel) rfl, gw 54 (by decide +kernel) rfl, by decide +kernel⟩
theorem svX1_tryUnpick : Cond.instanceMethod yX1_tryUnpick ∈ GW ∧ Cond.selects yX1_tryUnpick.cls yX1_tryUnpick yX1_tryUnpick ∈ GW := ⟨gw 634 (by decide +kernel) rfl, gw 15 (by decide +kernel) rfl⟩
theorem mkX1_draw : MK yX1_draw cX1_draw 2 (some .int) 1 := ⟨gw 627 (by decide +kernel) rfl, gw 54 (by decide +kernel) rfl, by decide +kernel⟩
theorem svX1_draw : Cond.instanceMethod yX1_draw ∈ GW ∧ Cond.selects yX1_draw.cls yX1_draw yX1_draw ∈ GW := ⟨gw 626 (by decide +kernel) rfl, gw 14 (by decide +kernel) rfl⟩
theorem mkX2_init : MK yX2_init cX2_init 1 none 0 := ⟨gw 154 (by decide +kernel) rfl, gw 56 (by decide +kernel) rfl, by decide +kernel⟩
theorem mkX2_fewestSeams : MK yX2_fewestSeams cX2_fewestSeams 5 (some .int) 3 := ⟨gw 645 (by decide +kernel) rfl, gw 56 (by decide +kernel) rfl, by decide +kernel⟩
theorem sxX2_fewestSeams : Cond.static yX2_fewestSeams ∈ GW := gw 644 (by decide +kernel) rfl
theorem mkX2_lesser : MK yX2_lesser cX2_lesser 3 (some .int) 2 := ⟨gw 655 (by decide +kernel) rfl, gw 56 (by decide +kernel) rfl, by decide +kernel⟩
theorem sxX2_lesser : Cond.static yX2_lesser ∈ GW := gw 654 (by decide +kernel) rfl
theorem mkX2_findWeak : MK yX2_findWeak cX2_findWeak 8 none 4 := ⟨gw 669 (by decide +kernel) rfl, gw 56 (by decide +kernel) rfl, by decide +kernel⟩
theorem svX2_findWeak : Cond.instanceMethod yX2_findWeak ∈ GW ∧ Cond.selects yX2_findWeak.cls yX2_findWeak yX2_findWeak ∈ GW := ⟨gw 667 (by decide +kernel) rfl, gw 668 (by decide +kernel) rfl⟩
theorem mkX2_addWeak : MK yX2_addWeak cX2_addWeak 3 none 2 := ⟨gw 678 (by decide +kernel) rfl, gw 56 (by decide +kernel) rfl, by decide +kernel⟩
theorem svX2_addWeak : Cond.instanceMethod yX2_addWeak ∈ GW ∧ Cond.selects yX2_addWeak.cls yX2_addWeak yX2_addWeak ∈ GW := ⟨gw 677 (by decide +kernel) rfl, gw 16 (by decide +kernel) rfl⟩
theorem mkX2_fewestHems : MK yX2_fewestHems cX2_fewestHems 5 (some .int) 1 := ⟨gw 686 (by decide +kernel) rfl, gw 56 (by decide +kernel) rfl, by decide +kernel⟩
theorem svX2_fewestHems : Cond.instanceMethod yX2_fewestHems ∈ GW ∧ Cond.selects yX2_fewestHems.cls yX2_fewestHems yX2_fewestHems ∈ GW := ⟨gw 684 (by decide +kernel) rfl, gw 685 (by decide +kernel) rfl⟩
theorem mkX2_isHeld : MK yX2_isHeld cX2_isHeld 3 (some .boolean) 1 := ⟨gw 690 (by decide +kernel) rfl, gw 56 (by decide +kernel) rfl, by decide +kernel⟩
theorem svX2_isHeld : Cond.instanceMethod yX2_isHeld ∈ GW ∧ Cond.selects yX2_isHeld.cls yX2_isHeld yX2_isHeld ∈ GW := ⟨gw 689 (by decide +kernel) rfl, gw 17 (by decide +kernel) rfl⟩
theorem mkX2_leastThread : MK yX2_leastThread cX2_leastThread 7 (some .int) 2 := ⟨gw 699 (by decide +kernel) rfl, gw 56 (by decide +kernel) rfl, by decide +kernel⟩
theorem svX2_leastThread : Cond.instanceMethod yX2_leastThread ∈ GW ∧ Cond.selects yX2_leastThread.cls yX2_leastThread yX2_leastThread ∈ GW := ⟨gw 697 (by decide +kernel) rfl, gw 698 (by decide +kernel) rfl⟩
theorem mkX2_isMended : MK yX2_isMended cX2_isMended 4 (some .boolean) 2 := ⟨gw 707 (by decide +kernel) rfl, gw 56 (by decide +kernel) rfl, by decide +kernel⟩
theorem svX2_isMended : Cond.instanceMethod yX2_isMended ∈ GW ∧ Cond.selects yX2_isMended.cls yX2_isMended yX2_isMended ∈ GW := ⟨gw 706 (by decide +kernel) rfl, gw 18 (by decide +kernel) rfl⟩
theorem mkX3_init : MK yX3_init cX3_init 1 none 0 := ⟨gw 211 (by decide +kernel) rfl, gw 59 (by decide +kernel) rfl, by decide +kernel⟩
theorem mkX3_look : MK yX3_look cX3_look 4 none 2 := ⟨gw 766 (by decide +kernel) rfl, gw 59 (by decide +kernel) rfl, by decide +kernel⟩
theorem svX3_look : Cond.instanceMethod yX3_look ∈ GW ∧ Cond.selects yX3_look.cls yX3_look yX3_look ∈ GW := ⟨gw 765 (by decide +kernel) rfl, gw 21 (by decide +kernel) rfl⟩
theorem mkX3_paintAnew : MK yX3_paintAnew cX3_paintAnew 3 none 2 := ⟨gw 762 (by decide +kernel) rfl, gw 59 (by decide +kernel) rfl, by decide +kernel⟩
theorem svX3_paintAnew : Cond.instanceMethod yX3_paintAnew ∈ GW ∧ Cond.selects yX3_paintAnew.cls yX3_paintAnew yX3_paintAnew ∈ GW := ⟨gw 760 (by decide +kernel) rfl, gw 761 (by decide +kernel) rfl⟩
theorem mkX3_paintFrom : MK yX3_paintFrom cX3_paintFrom 7 none 4 := ⟨gw 777 (by decide +kernel) rfl, gw 59 (by decide +kernel) rfl, by decide +kernel⟩
theorem sxX3_paintFrom : Cond.static yX3_paintFrom ∈ GW := gw 776 (by decide +kernel) rfl
theorem mkX3_take : MK yX3_take cX3_take 2 none 1 := ⟨gw 782 (by decide +kernel) rfl, gw 59 (by decide +kernel) rfl, by decide +kernel⟩
theorem svX3_take : Cond.instanceMethod yX3_take ∈ GW ∧ Cond.selects yX3_take.cls yX3_take yX3_take ∈ GW := ⟨gw 781 (by decide +kernel) rfl, gw 22 (by decide +kernel) rfl⟩
theorem mkX3_usedNear : MK yX3_usedNear cX3_usedNear 4 (some .int) 1 := ⟨gw 788 (by decide +kernel) rfl, gw 59 (by decide +kernel) rfl, by decide +kernel⟩
theorem svX3_usedNear : Cond.instanceMethod yX3_usedNear ∈ GW ∧ Cond.selects yX3_usedNear.cls yX3_usedNear yX3_usedNear ∈ GW := ⟨gw 787 (by decide +kernel) rfl, gw 23 (by decide +kernel) rfl⟩
theorem mkX3_lookBack : MK yX3_lookBack cX3_lookBack 5 none 3 := ⟨gw 807 (by decide +kernel) rfl, gw 59 (by decide +kernel) rfl, by decide +kernel⟩
theorem svX3_lookBack : Cond.instanceMethod yX3_lookBack ∈ GW ∧ Cond.selects yX3_lookBack.cls yX3_lookBack yX3_lookBack ∈ GW := ⟨gw 805 (by decide +kernel) rfl, gw 806 (by decide +kernel) rfl⟩
theorem mkX3_waysFrom : MK yX3_waysFrom cX3_waysFrom 6 (some .int) 3 := ⟨gw 814 (by decide +kernel) rfl, gw 59 (by decide +kernel) rfl, by decide +kernel⟩
theorem sxX3_waysFrom : Cond.static yX3_waysFrom ∈ GW := gw 813 (by decide +kernel) rfl
theorem mkX3_ways : MK yX3_ways cX3_ways 2 (some .int) 1 := ⟨gw 811 (by decide +kernel) rfl, gw 59 (by decide +kernel) rfl, by decide +kernel⟩
theorem svX3_ways : Cond.instanceMethod yX3_ways ∈ GW ∧ Cond.selects yX3_ways.cls yX3_ways yX3_ways ∈ GW := ⟨gw 809 (by decide +kernel) rfl, gw 810 (by decide +kernel) rfl⟩
theorem mkX3_onlyColour : MK yX3_onlyColour cX3_onlyColour 6 (some .int) 2 := ⟨gw 823 (by decide +kernel) rfl, gw 59 (by decide +kernel) rfl, by decide +kernel⟩
theorem svX3_onlyColour : Cond.instanceMethod yX3_onlyColour ∈ GW ∧ Cond.selects yX3_onlyColour.cls yX3_onlyColour yX3_onlyColour ∈ GW := ⟨gw 821 (by decide +kernel) rfl, gw 822 (by decide +kernel) rfl⟩
theorem mkX4_init : MK yX4_init cX4_init 1 none 0 := ⟨gw 242 (by decide +kernel) rfl, gw 60 (by decide +kernel) rfl, by decide +kernel⟩
theorem mkX4_clear : MK yX4_clear cX4_clear 2 none 0 := ⟨gw 359 (by decide +kernel) rfl, gw 60 (by decide +kernel) rfl, by decide +kernel⟩
theorem svX4_clear : Cond.instanceMethod yX4_clear ∈ GW ∧ Cond.selects yX4_clear.cls yX4_clear yX4_clear ∈ GW := ⟨gw 357 (by decide +kernel) rfl, gw 358 (by decide +kernel) rfl⟩
theorem mkX4_addColour : MK yX4_addColour cX4_addColour 2 none 1 := ⟨gw 459 (by decide +kernel) rfl, gw 60 (by decide +kernel) rfl, by decide +kernel⟩
theorem svX4_addColour : Cond.instanceMethod yX4_addColour ∈ GW ∧ Cond.selects yX4_addColour.cls yX4_addColour yX4_addColour ∈ GW := ⟨gw 457 (by decide +kernel) rfl, gw 458 (by decide +kernel) rfl⟩
theorem mkX4_addStrip : MK yX4_addStrip cX4_addStrip 2 none 1 := ⟨gw 474 (by decide +kernel) rfl, gw 60 (by decide +kernel) rfl, by decide +kernel⟩
theorem svX4_addStrip : Cond.instanceMethod yX4_addStrip ∈ GW ∧ Cond.selects yX4_addStrip.cls yX4_addStrip yX4_addStrip ∈ GW := ⟨gw 472 (by decide +kernel) rfl, gw 473 (by decide +kernel) rfl⟩
theorem mkX4_addSeam : MK yX4_addSeam cX4_addSeam 4 none 3 := ⟨gw 482 (by decide +kernel) rfl, gw 60 (by decide +kernel) rfl, by decide +kernel⟩
theorem svX4_addSeam : Cond.instanceMethod yX4_addSeam ∈ GW ∧ Cond.selects yX4_addSeam.cls yX4_addSeam yX4_addSeam ∈ GW := ⟨gw 480 (by decide +kernel) rfl, gw 481 (by decide +kernel) rfl⟩
theorem mkX4_addCould : MK yX4_addCould cX4_addCould 4 none 3 := ⟨gw 478 (by decide +kernel) rfl, gw 60 (by decide +kernel) rfl, by decide +kernel⟩
theorem svX4_addCould : Cond.instanceMethod yX4_addCould ∈ GW ∧ Cond.selects yX4_addCould.cls yX4_addCould yX4_addCould ∈ GW := ⟨gw 476 (by decide +kernel) rfl, gw 477 (by decide +kernel) rfl⟩
theorem mkX4_hasStrip : MK yX4_hasStrip cX4_hasStrip 2 (some .boolean) 1 := ⟨gw 541 (by decide +kernel) rfl, gw 60 (by decide +kernel) rfl, by decide +kernel⟩
theorem svX4_hasStrip : Cond.instanceMethod yX4_hasStrip ∈ GW ∧ Cond.selects yX4_hasStrip.cls yX4_hasStrip yX4_hasStrip ∈ GW := ⟨gw 539 (by decide +kernel) rfl, gw 540 (by decide +kernel) rfl⟩
theorem mkX4_hasSeam : MK yX4_hasSeam cX4_hasSeam 2 (some .boolean) 1 := ⟨gw 529 (by decide +kernel) rfl, gw 60 (by decide +kernel) rfl, by decide +kernel⟩
theorem svX4_hasSeam : Cond.instanceMethod yX4_hasSeam ∈ GW ∧ Cond.selects yX4_hasSeam.cls yX4_hasSeam yX4_hasSeam ∈ GW := ⟨gw 527 (by decide +kernel) rfl, gw 528 (by decide +kernel) rfl⟩
theorem mkX4_hasColour : MK yX4_hasColour cX4_hasColour 2 (some .boolean) 1 := ⟨gw 521 (by decide +kernel) rfl, gw 60 (by decide +kernel) rfl, by decide +kernel⟩
theorem svX4_hasColour : Cond.instanceMethod yX4_hasColour ∈ GW ∧ Cond.selects yX4_hasColour.cls yX4_hasColour yX4_hasColour ∈ GW := ⟨gw 519 (by decide +kernel) rfl, gw 520 (by decide +kernel) rfl⟩
theorem mkX4_hasStrips : MK yX4_hasStrips cX4_hasStrips 2 (some .boolean) 1 := ⟨gw 664 (by decide +kernel) rfl, gw 60 (by decide +kernel) rfl, by decide +kernel⟩
theorem svX4_hasStrips : Cond.instanceMethod yX4_hasStrips ∈ GW ∧ Cond.selects yX4_hasStrips.cls yX4_hasStrips yX4_hasStrips ∈ GW := ⟨gw 662 (by decide +kernel) rfl, gw 663 (by decide +kernel) rfl⟩
theorem mkX4_hasColours : MK yX4_hasColours cX4_hasColours 2 (some .boolean) 1 := ⟨gw 798 (by decide +kernel) rfl, gw 60 (by decide +kernel) rfl, by decide +kernel⟩
theorem svX4_hasColours : Cond.instanceMethod yX4_hasColours ∈ GW ∧ Cond.selects yX4_hasColours.cls yX4_hasColours yX4_hasColours ∈ GW := ⟨gw 796 (by decide +kernel) rfl, gw 797 (by decide +kernel) rfl⟩
theorem mkX4_allStrips : MK yX4_allStrips cX4_allStrips 1 (some .int) 0 := ⟨gw 650 (by decide +kernel) rfl, gw 60 (by decide +kernel) rfl, by decide +kernel⟩
theorem svX4_allStrips : Cond.instanceMethod yX4_allStrips ∈ GW ∧ Cond.selects yX4_allStrips.cls yX4_allStrips yX4_allStrips ∈ GW := ⟨gw 648 (by decide +kernel) rfl, gw 649 (by decide +kernel) rfl⟩
theorem mkX4_allColours : MK yX4_allColours cX4_allColours 1 (some .int) 0 := ⟨gw 493 (by decide +kernel) rfl, gw 60 (by decide +kernel) rfl, by decide +kernel⟩
theorem svX4_allColours : Cond.instanceMethod yX4_allColours ∈ GW ∧ Cond.selects yX4_allColours.cls yX4_allColours yX4_allColours ∈ GW := ⟨gw 491 (by decide +kernel) rfl, gw 492 (by decide +kernel) rfl⟩
theorem mkX4_priceOf : MK yX4_priceOf cX4_priceOf 2 (some .int) 1 := ⟨gw 517 (by decide +kernel) rfl, gw 60 (by decide +kernel) rfl, by decide +kernel⟩
theorem svX4_priceOf : Cond.instanceMethod yX4_priceOf ∈ GW ∧ Cond.selects yX4_priceOf.cls yX4_priceOf yX4_priceOf ∈ GW := ⟨gw 515 (by decide +kernel) rfl, gw 516 (by decide +kernel) rfl⟩
theorem mkX4_cheapest : MK yX4_cheapest cX4_cheapest 3 (some .int) 0 := ⟨gw 771 (by decide +kernel) rfl, gw 60 (by decide +kernel) rfl, by decide +kernel⟩
theorem svX4_cheapest : Cond.instanceMethod yX4_cheapest ∈ GW ∧ Cond.selects yX4_cheapest.cls yX4_cheapest yX4_cheapest ∈ GW := ⟨gw 769 (by decide +kernel) rfl, gw 770 (by decide +kernel) rfl⟩
theorem mkX4_threadOf : MK yX4_threadOf cX4_threadOf 4 (some .int) 1 := ⟨gw 703 (by decide +kernel) rfl, gw 60 (by decide +kernel) rfl, by decide +kernel⟩
theorem svX4_threadOf : Cond.instanceMethod yX4_threadOf ∈ GW ∧ Cond.selects yX4_threadOf.cls yX4_threadOf yX4_threadOf ∈ GW := ⟨gw 701 (by decide +kernel) rfl, gw 702 (by decide +kernel) rfl⟩
theorem mkX4_crossing : MK yX4_crossing cX4_crossing 5 (some .int) 2 := ⟨gw 549 (by decide +kernel) rfl, gw 60 (by decide +kernel) rfl, by decide +kernel⟩
theorem svX4_crossing : Cond.instanceMethod yX4_crossing ∈ GW ∧ Cond.selects yX4_crossing.cls yX4_crossing yX4_crossing ∈ GW := ⟨gw 547 (by decide +kernel) rfl, gw 548 (by decide +kernel) rfl⟩
theorem mkX4_couldsCrossing : MK yX4_couldsCrossing cX4_couldsCrossing 4 (some .int) 1 := ⟨gw 674 (by decide +kernel) rfl, gw 60 (by decide +kernel) rfl, by decide +kernel⟩
theorem svX4_couldsCrossing : Cond.instanceMethod yX4_couldsCrossing ∈ GW ∧ Cond.selects yX4_couldsCrossing.cls yX4_couldsCrossing yX4_couldsCrossing ∈ GW := ⟨gw 672 (by decide +kernel) rfl, gw 673 (by decide +kernel) rfl⟩
theorem mkX4_seamsOf : MK yX4_seamsOf cX4_seamsOf 3 (some .int) 2 := ⟨gw 545 (by decide +kernel) rfl, gw 60 (by decide +kernel) rfl, by decide +kernel⟩
theorem svX4_seamsOf : Cond.instanceMethod yX4_seamsOf ∈ GW ∧ Cond.selects yX4_seamsOf.cls yX4_seamsOf yX4_seamsOf ∈ GW := ⟨gw 543 (by decide +kernel) rfl, gw 544 (by decide +kernel) rfl⟩
theorem mkX4_bordering : MK yX4_bordering cX4_bordering 5 (some .int) 2 := ⟨gw 554 (by decide +kernel) rfl, gw 60 (by decide +kernel) rfl, by decide +kernel⟩
theorem svX4_bordering : Cond.instanceMethod yX4_bordering ∈ GW ∧ Cond.selects yX4_bordering.cls yX4_bordering yX4_bordering ∈ GW := ⟨gw 552 (by decide +kernel) rfl, gw 553 (by decide +kernel) rfl⟩
theorem mkX4_unpickable : MK yX4_unpickable cX4_unpickable 7 (some .int) 3 := ⟨gw 575 (by decide +kernel) rfl, gw 60 (by decide +kernel) rfl, by decide +kernel⟩
theorem svX4_unpickable : Cond.instanceMethod yX4_unpickable ∈ GW ∧ Cond.selects yX4_unpickable.cls yX4_unpickable yX4_unpickable ∈ GW := ⟨gw 573 (by decide +kernel) rfl, gw 574 (by decide +kernel) rfl⟩
theorem mkX4_flying : MK yX4_flying cX4_flying 5 (some .int) 1 := ⟨gw 563 (by decide +kernel) rfl, gw 60 (by decide +kernel) rfl, by decide +kernel⟩
theorem svX4_flying : Cond.instanceMethod yX4_flying ∈ GW ∧ Cond.selects yX4_flying.cls yX4_flying yX4_flying ∈ GW := ⟨gw 561 (by decide +kernel) rfl, gw 562 (by decide +kernel) rfl⟩
theorem mkX4_spread : MK yX4_spread cX4_spread 5 (some .int) 2 := ⟨gw 567 (by decide +kernel) rfl, gw 60 (by decide +kernel) rfl, by decide +kernel⟩
theorem svX4_spread : Cond.instanceMethod yX4_spread ∈ GW ∧ Cond.selects yX4_spread.cls yX4_spread yX4_spread ∈ GW := ⟨gw 566 (by decide +kernel) rfl, gw 12 (by decide +kernel) rfl⟩
theorem mkX5_init : MK yX5_init cX5_init 1 none 0 := ⟨gw 81 (by decide +kernel) rfl, gw 53 (by decide +kernel) rfl, by decide +kernel⟩
theorem mkX5_hasRoom : MK yX5_hasRoom cX5_hasRoom 2 (some .boolean) 1 := ⟨gw 342 (by decide +kernel) rfl, gw 53 (by decide +kernel) rfl, by decide +kernel⟩
theorem svX5_hasRoom : Cond.instanceMethod yX5_hasRoom ∈ GW ∧ Cond.selects yX5_hasRoom.cls yX5_hasRoom yX5_hasRoom ∈ GW := ⟨gw 340 (by decide +kernel) rfl, gw 341 (by decide +kernel) rfl⟩
theorem mkX5_add : MK yX5_add cX5_add 5 none 2 := ⟨gw 347 (by decide +kernel) rfl, gw 53 (by decide +kernel) rfl, by decide +kernel⟩
theorem svX5_add : Cond.instanceMethod yX5_add ∈ GW ∧ Cond.selects yX5_add.cls yX5_add yX5_add ∈ GW := ⟨gw 345 (by decide +kernel) rfl, gw 346 (by decide +kernel) rfl⟩
theorem mkX5_read : MK yX5_read cX5_read 3 none 1 := ⟨gw 355 (by decide +kernel) rfl, gw 53 (by decide +kernel) rfl, by decide +kernel⟩
theorem svX5_read : Cond.instanceMethod yX5_read ∈ GW ∧ Cond.selects yX5_read.cls yX5_read yX5_read ∈ GW := ⟨gw 353 (by decide +kernel) rfl, gw 354 (by decide +kernel) rfl⟩
theorem mkX5_readClause : MK yX5_readClause cX5_readClause 4 none 1 := ⟨gw 375 (by decide +kernel) rfl, gw 53 (by decide +kernel) rfl, by decide +kernel⟩
theorem svX5_readClause : Cond.instanceMethod yX5_readClause ∈ GW ∧ Cond.selects yX5_readClause.cls yX5_readClause yX5_readClause ∈ GW := ⟨gw 374 (by decide +kernel) rfl, gw 3 (by decide +kernel) rfl⟩
theorem mkX5_isTooMany : MK yX5_isTooMany cX5_isTooMany 2 (some .boolean) 2 := ⟨gw 447 (by decide +kernel) rfl, gw 53 (by decide +kernel) rfl, by decide +kernel⟩
theorem sxX5_isTooMany : Cond.static yX5_isTooMany ∈ GW := gw 446 (by decide +kernel) rfl
theorem mkX5_readColours : MK yX5_readColours cX5_readColours 5 none 1 := ⟨gw 451 (by decide +kernel) rfl, gw 53 (by decide +kernel) rfl, by decide +kernel⟩
theorem svX5_readColours : Cond.instanceMethod yX5_readColours ∈ GW ∧ Cond.selects yX5_readColours.cls yX5_readColours yX5_readColours ∈ GW := ⟨gw 450 (by decide +kernel) rfl, gw 8 (by decide +kernel) rfl⟩
theorem mkX5_readNumbers : MK yX5_readNumbers cX5_readNumbers 6 none 2 := ⟨gw 463 (by decide +kernel) rfl, gw 53 (by decide +kernel) rfl, by decide +kernel⟩
theorem svX5_readNumbers : Cond.instanceMethod yX5_readNumbers ∈ GW ∧ Cond.selects yX5_readNumbers.cls yX5_readNumbers yX5_readNumbers ∈ GW := ⟨gw 462 (by decide +kernel) rfl, gw 10 (by decide +kernel) rfl⟩
theorem mkX5_addTold : MK yX5_addTold cX5_addTold 5 none 5 := ⟨gw 470 (by decide +kernel) rfl, gw 53 (by decide +kernel) rfl, by decide +kernel⟩
theorem sxX5_addTold : Cond.static yX5_addTold ∈ GW := gw 469 (by decide +kernel) rfl
theorem mkX5_readEnd : MK yX5_readEnd cX5_readEnd 1 none 0 := ⟨gw 467 (by decide +kernel) rfl, gw 53 (by decide +kernel) rfl, by decide +kernel⟩
theorem svX5_readEnd : Cond.instanceMethod yX5_readEnd ∈ GW ∧ Cond.selects yX5_readEnd.cls yX5_readEnd yX5_readEnd ∈ GW := ⟨gw 466 (by decide +kernel) rfl, gw 11 (by decide +kernel) rfl⟩
theorem mkX5_readNumber : MK yX5_readNumber cX5_readNumber 6 (some .int) 2 := ⟨gw 455 (by decide +kernel) rfl, gw 53 (by decide +kernel) rfl, by decide +kernel⟩
theorem svX5_readNumber : Cond.instanceMethod yX5_readNumber ∈ GW ∧ Cond.selects yX5_readNumber.cls yX5_readNumber yX5_readNumber ∈ GW := ⟨gw 454 (by decide +kernel) rfl, gw 9 (by decide +kernel) rfl⟩
theorem mkX5_readWord : MK yX5_readWord cX5_readWord 2 (some .int) 0 := ⟨gw 379 (by decide +kernel) rfl, gw 53 (by decide +kernel) rfl, by decide +kernel⟩
theorem svX5_readWord : Cond.instanceMethod yX5_readWord ∈ GW ∧ Cond.selects yX5_readWord.cls yX5_readWord yX5_readWord ∈ GW := ⟨gw 378 (by decide +kernel) rfl, gw 4 (by decide +kernel) rfl⟩
theorem mkX5_isWord : MK yX5_isWord cX5_isWord 4 (some .boolean) 2 := ⟨gw 388 (by decide +kernel) rfl, gw 53 (by decide +kernel) rfl, by decide +kernel⟩
theorem svX5_isWord : Cond.instanceMethod yX5_isWord ∈ GW ∧ Cond.selects yX5_isWord.cls yX5_isWord yX5_isWord ∈ GW := ⟨gw 387 (by decide +kernel) rfl, gw 6 (by decide +kernel) rfl⟩
theorem mkX5_endOfRun : MK yX5_endOfRun cX5_endOfRun 4 (some .int) 2 := ⟨gw 383 (by decide +kernel) rfl, gw 53 (by decide +kernel) rfl, by decide +kernel⟩
theorem svX5_endOfRun : Cond.instanceMethod yX5_endOfRun ∈ GW ∧ Cond.selects yX5_endOfRun.cls yX5_endOfRun yX5_endOfRun ∈ GW := ⟨gw 382 (by decide +kernel) rfl, gw 5 (by decide +kernel) rfl⟩
theorem mkX5_skipBlanks : MK yX5_skipBlanks cX5_skipBlanks 1 none 0 := ⟨gw 363 (by decide +kernel) rfl, gw 53 (by decide +kernel) rfl, by decide +kernel⟩
theorem svX5_skipBlanks : Cond.instanceMethod yX5_skipBlanks ∈ GW ∧ Cond.selects yX5_skipBlanks.cls yX5_skipBlanks yX5_skipBlanks ∈ GW := ⟨gw 362 (by decide +kernel) rfl, gw 0 (by decide +kernel) rfl⟩
theorem mkX5_sign : MK yX5_sign cX5_sign 1 (some .int) 0 := ⟨gw 371 (by decide +kernel) rfl, gw 53 (by decide +kernel) rfl, by decide +kernel⟩
theorem svX5_sign : Cond.instanceMethod yX5_sign ∈ GW ∧ Cond.selects yX5_sign.cls yX5_sign yX5_sign ∈ GW := ⟨gw 370 (by decide +kernel) rfl, gw 2 (by decide +kernel) rfl⟩
theorem mkX5_signAt : MK yX5_signAt cX5_signAt 2 (some .int) 1 := ⟨gw 367 (by decide +kernel) rfl, gw 53 (by decide +kernel) rfl, by decide +kernel⟩
theorem svX5_signAt : Cond.instanceMethod yX5_signAt ∈ GW ∧ Cond.selects yX5_signAt.cls yX5_signAt yX5_signAt ∈ GW := ⟨gw 366 (by decide +kernel) rfl, gw 1 (by decide +kernel) rfl⟩
theorem mkX5_fail : MK yX5_fail cX5_fail 3 none 2 := ⟨gw 444 (by decide +kernel) rfl, gw 53 (by decide +kernel) rfl, by decide +kernel⟩
theorem svX5_fail : Cond.instanceMethod yX5_fail ∈ GW ∧ Cond.selects yX5_fail.cls yX5_fail yX5_fail ∈ GW := ⟨gw 443 (by decide +kernel) rfl, gw 7 (by decide +kernel) rfl⟩
theorem mkX6_init : MK yX6_init cX6_init 1 none 0 := ⟨gw 184 (by decide +kernel) rfl, gw 58 (by decide +kernel) rfl, by decide +kernel⟩
theorem mkX6_begin : MK yX6_begin cX6_begin 5 none 4 := ⟨gw 735 (by decide +kernel) rfl, gw 58 (by decide +kernel) rfl, by decide +kernel⟩
theorem svX6_begin : Cond.instanceMethod yX6_begin ∈ GW ∧ Cond.selects yX6_begin.cls yX6_begin yX6_begin ∈ GW := ⟨gw 733 (by decide +kernel) rfl, gw 734 (by decide +kernel) rfl⟩
theorem mkX6_play : MK yX6_play cX6_play 6 none 2 := ⟨gw 739 (by decide +kernel) rfl, gw 58 (by decide +kernel) rfl, by decide +kernel⟩
theorem svX6_play : Cond.instanceMethod yX6_play ∈ GW ∧ Cond.selects yX6_play.cls yX6_play yX6_play ∈ GW := ⟨gw 737 (by decide +kernel) rfl, gw 738 (by decide +kernel) rfl⟩
theorem mkX6_worthFrom : MK yX6_worthFrom cX6_worthFrom 10 (some .int) 6 := ⟨gw 752 (by decide +kernel) rfl, gw 58 (by decide +kernel) rfl, by decide +kernel⟩
theorem sxX6_worthFrom : Cond.static yX6_worthFrom ∈ GW := gw 751 (by decide +kernel) rfl
theorem mkX6_mover : MK yX6_mover cX6_mover 2 (some .int) 1 := ⟨gw 748 (by decide +kernel) rfl, gw 58 (by decide +kernel) rfl, by decide +kernel⟩
theorem svX6_mover : Cond.instanceMethod yX6_mover ∈ GW ∧ Cond.selects yX6_mover.cls yX6_mover yX6_mover ∈ GW := ⟨gw 747 (by decide +kernel) rfl, gw 20 (by decide +kernel) rfl⟩
theorem mkX6_worthAtEnd : MK yX6_worthAtEnd cX6_worthAtEnd 7 (some .int) 3 := ⟨gw 743 (by decide +kernel) rfl, gw 58 (by decide +kernel) rfl, by decide +kernel⟩
theorem svX6_worthAtEnd : Cond.instanceMethod yX6_worthAtEnd ∈ GW ∧ Cond.selects yX6_worthAtEnd.cls yX6_worthAtEnd yX6_worthAtEnd ∈ GW := ⟨gw 742 (by decide +kernel) rfl, gw 19 (by decide +kernel) rfl⟩
theorem mkX7_init : MK yX7_init cX7_init 1 none 0 := ⟨gw 171 (by decide +kernel) rfl, gw 57 (by decide +kernel) rfl, by decide +kernel⟩
theorem mkX7_begin : MK yX7_begin cX7_begin 3 none 2 := ⟨gw 716 (by decide +kernel) rfl, gw 57 (by decide +kernel) rfl, by decide +kernel⟩
theorem svX7_begin : Cond.instanceMethod yX7_begin ∈ GW ∧ Cond.selects yX7_begin.cls yX7_begin yX7_begin ∈ GW := ⟨gw 714 (by decide +kernel) rfl, gw 715 (by decide +kernel) rfl⟩
theorem mkX7_partFlying : MK yX7_partFlying cX7_partFlying 10 (some .long) 6 := ⟨gw 724 (by decide +kernel) rfl, gw 57 (by decide +kernel) rfl, by decide +kernel⟩
theorem sxX7_partFlying : Cond.static yX7_partFlying ∈ GW := gw 723 (by decide +kernel) rfl
theorem mkX7_ofBillion : MK yX7_ofBillion cX7_ofBillion 4 (some .int) 3 := ⟨gw 720 (by decide +kernel) rfl, gw 57 (by decide +kernel) rfl, by decide +kernel⟩
theorem svX7_ofBillion : Cond.instanceMethod yX7_ofBillion ∈ GW ∧ Cond.selects yX7_ofBillion.cls yX7_ofBillion yX7_ofBillion ∈ GW := ⟨gw 718 (by decide +kernel) rfl, gw 719 (by decide +kernel) rfl⟩
theorem mkX8_init : MK yX8_init cX8_init 1 none 0 := ⟨gw 73 (by decide +kernel) rfl, gw 52 (by decide +kernel) rfl, by decide +kernel⟩
theorem mkX8_feed : MK yX8_feed cX8_feed 4 (some .int) 2 := ⟨gw 337 (by decide +kernel) rfl, gw 52 (by decide +kernel) rfl, by decide +kernel⟩
theorem svX8_feed : Cond.instanceMethod yX8_feed ∈ GW ∧ Cond.selects yX8_feed.cls yX8_feed yX8_feed ∈ GW := ⟨gw 335 (by decide +kernel) rfl, gw 336 (by decide +kernel) rfl⟩
theorem mkX8_flag : MK yX8_flag cX8_flag 3 (some .int) 0 := ⟨gw 351 (by decide +kernel) rfl, gw 52 (by decide +kernel) rfl, by decide +kernel⟩
theorem svX8_flag : Cond.instanceMethod yX8_flag ∈ GW ∧ Cond.selects yX8_flag.cls yX8_flag yX8_flag ∈ GW := ⟨gw 349 (by decide +kernel) rfl, gw 350 (by decide +kernel) rfl⟩
theorem mkX8_fault : MK yX8_fault cX8_fault 1 (some .int) 0 := ⟨gw 497 (by decide +kernel) rfl, gw 52 (by decide +kernel) rfl, by decide +kernel⟩
theorem svX8_fault : Cond.instanceMethod yX8_fault ∈ GW ∧ Cond.selects yX8_fault.cls yX8_fault yX8_fault ∈ GW := ⟨gw 495 (by decide +kernel) rfl, gw 496 (by decide +kernel) rfl⟩
theorem mkX8_told : MK yX8_told cX8_told 2 (some .int) 1 := ⟨gw 501 (by decide +kernel) rfl, gw 52 (by decide +kernel) rfl, by decide +kernel⟩
theorem svX8_told : Cond.instanceMethod yX8_told ∈ GW ∧ Cond.selects yX8_told.cls yX8_told yX8_told ∈ GW := ⟨gw 499 (by decide +kernel) rfl, gw 500 (by decide +kernel) rfl⟩
theorem mkX8_seam : MK yX8_seam cX8_seam 3 (some .int) 2 := ⟨gw 525 (by decide +kernel) rfl, gw 52 (by decide +kernel) rfl, by decide +kernel⟩
theorem svX8_seam : Cond.instanceMethod yX8_seam ∈ GW ∧ Cond.selects yX8_seam.cls yX8_seam yX8_seam ∈ GW := ⟨gw 523 (by decide +kernel) rfl, gw 524 (by decide +kernel) rfl⟩
theorem mkX8_strip : MK yX8_strip cX8_strip 3 (some .int) 2 := ⟨gw 537 (by decide +kernel) rfl, gw 52 (by decide +kernel) rfl, by decide +kernel⟩
theorem svX8_strip : Cond.instanceMethod yX8_strip ∈ GW ∧ Cond.selects yX8_strip.cls yX8_strip yX8_strip ∈ GW := ⟨gw 535 (by decide +kernel) rfl, gw 536 (by decide +kernel) rfl⟩
theorem mkX8_flies : MK yX8_flies cX8_flies 2 (some .int) 1 := ⟨gw 558 (by decide +kernel) rfl, gw 52 (by decide +kernel) rfl, by decide +kernel⟩
theorem svX8_flies : Cond.instanceMethod yX8_flies ∈ GW ∧ Cond.selects yX8_flies.cls yX8_flies yX8_flies ∈ GW := ⟨gw 556 (by decide +kernel) rfl, gw 557 (by decide +kernel) rfl⟩
theorem mkX8_unpick : MK yX8_unpick cX8_unpick 3 (some .int) 2 := ⟨gw 571 (by decide +kernel) rfl, gw 52 (by decide +kernel) rfl, by decide +kernel⟩
theorem svX8_unpick : Cond.instanceMethod yX8_unpick ∈ GW ∧ Cond.selects yX8_unpick.cls yX8_unpick yX8_unpick ∈ GW := ⟨gw 569 (by decide +kernel) rfl, gw 570 (by decide +kernel) rfl⟩
theorem mkX8_sew : MK yX8_sew cX8_sew 4 (some .int) 2 := ⟨gw 587 (by decide +kernel) rfl, gw 52 (by decide +kernel) rfl, by decide +kernel⟩
theorem svX8_sew : Cond.instanceMethod yX8_sew ∈ GW ∧ Cond.selects yX8_sew.cls yX8_sew yX8_sew ∈ GW := ⟨gw 585 (by decide +kernel) rfl, gw 586 (by decide +kernel) rfl⟩
theorem mkX8_hem : MK yX8_hem cX8_hem 4 (some .int) 2 := ⟨gw 591 (by decide +kernel) rfl, gw 52 (by decide +kernel) rfl, by decide +kernel⟩
theorem svX8_hem : Cond.instanceMethod yX8_hem ∈ GW ∧ Cond.selects yX8_hem.cls yX8_hem yX8_hem ∈ GW := ⟨gw 589 (by decide +kernel) rfl, gw 590 (by decide +kernel) rfl⟩
theorem mkX8_fray : MK yX8_fray cX8_fray 2 (some .int) 1 := ⟨gw 595 (by decide +kernel) rfl, gw 52 (by decide +kernel) rfl, by decide +kernel⟩
theorem svX8_fray : Cond.instanceMethod yX8_fray ∈ GW ∧ Cond.selects yX8_fray.cls yX8_fray yX8_fray ∈ GW := ⟨gw 593 (by decide +kernel) rfl, gw 594 (by decide +kernel) rfl⟩
theorem mkX8_dye : MK yX8_dye cX8_dye 4 (some .int) 2 := ⟨gw 614 (by decide +kernel) rfl, gw 52 (by decide +kernel) rfl, by decide +kernel⟩
theorem svX8_dye : Cond.instanceMethod yX8_dye ∈ GW ∧ Cond.selects yX8_dye.cls yX8_dye yX8_dye ∈ GW := ⟨gw 612 (by decide +kernel) rfl, gw 613 (by decide +kernel) rfl⟩
theorem mkX8_drift : MK yX8_drift cX8_drift 3 (some .int) 1 := ⟨gw 619 (by decide +kernel) rfl, gw 52 (by decide +kernel) rfl, by decide +kernel⟩
theorem svX8_drift : Cond.instanceMethod yX8_drift ∈ GW ∧ Cond.selects yX8_drift.cls yX8_drift yX8_drift ∈ GW := ⟨gw 617 (by decide +kernel) rfl, gw 618 (by decide +kernel) rfl⟩
theorem mkX8_cut : MK yX8_cut cX8_cut 4 (some .int) 2 := ⟨gw 642 (by decide +kernel) rfl, gw 52 (by decide +kernel) rfl, by decide +kernel⟩
theorem svX8_cut : Cond.instanceMethod yX8_cut ∈ GW ∧ Cond.selects yX8_cut.cls yX8_cut yX8_cut ∈ GW := ⟨gw 640 (by decide +kernel) rfl, gw 641 (by decide +kernel) rfl⟩
theorem mkX8_lasts : MK yX8_lasts cX8_lasts 3 (some .int) 2 := ⟨gw 660 (by decide +kernel) rfl, gw 52 (by decide +kernel) rfl, by decide +kernel⟩
theorem svX8_lasts : Cond.instanceMethod yX8_lasts ∈ GW ∧ Cond.selects yX8_lasts.cls yX8_lasts yX8_lasts ∈ GW := ⟨gw 658 (by decide +kernel) rfl, gw 659 (by decide +kernel) rfl⟩
theorem mkX8_hems : MK yX8_hems cX8_hems 3 (some .int) 2 := ⟨gw 682 (by decide +kernel) rfl, gw 52 (by decide +kernel) rfl, by decide +kernel⟩
theorem svX8_hems : Cond.instanceMethod yX8_hems ∈ GW ∧ Cond.selects yX8_hems.cls yX8_hems yX8_hems ∈ GW := ⟨gw 680 (by decide +kernel) rfl, gw 681 (by decide +kernel) rfl⟩
theorem mkX8_thread : MK yX8_thread cX8_thread 4 (some .int) 2 := ⟨gw 694 (by decide +kernel) rfl, gw 52 (by decide +kernel) rfl, by decide +kernel⟩
theorem svX8_thread : Cond.instanceMethod yX8_thread ∈ GW ∧ Cond.selects yX8_thread.cls yX8_thread yX8_thread ∈ GW := ⟨gw 692 (by decide +kernel) rfl, gw 693 (by decide +kernel) rfl⟩
theorem mkX8_odds : MK yX8_odds cX8_odds 3 (some .int) 2 := ⟨gw 712 (by decide +kernel) rfl, gw 52 (by decide +kernel) rfl, by decide +kernel⟩
theorem svX8_odds : Cond.instanceMethod yX8_odds ∈ GW ∧ Cond.selects yX8_odds.cls yX8_odds yX8_odds ∈ GW := ⟨gw 710 (by decide +kernel) rfl, gw 711 (by decide +kernel) rfl⟩
theorem mkX8_turnsOf : MK yX8_turnsOf cX8_turnsOf 5 (some .int) 4 := ⟨gw 731 (by decide +kernel) rfl, gw 52 (by decide +kernel) rfl, by decide +kernel⟩
theorem svX8_turnsOf : Cond.instanceMethod yX8_turnsOf ∈ GW ∧ Cond.selects yX8_turnsOf.cls yX8_turnsOf yX8_turnsOf ∈ GW := ⟨gw 729 (by decide +kernel) rfl, gw 730 (by decide +kernel) rfl⟩
theorem mkX8_colours : MK yX8_colours cX8_colours 2 (some .int) 1 := ⟨gw 758 (by decide +kernel) rfl, gw 52 (by decide +kernel) rfl, by decide +kernel⟩
theorem svX8_colours : Cond.instanceMethod yX8_colours ∈ GW ∧ Cond.selects yX8_colours.cls yX8_colours yX8_colours ∈ GW := ⟨gw 756 (by decide +kernel) rfl, gw 757 (by decide +kernel) rfl⟩
theorem mkX8_left : MK yX8_left cX8_left 4 (some .int) 2 := ⟨gw 794 (by decide +kernel) rfl, gw 52 (by decide +kernel) rfl, by decide +kernel⟩
theorem svX8_left : Cond.instanceMethod yX8_left ∈ GW ∧ Cond.selects yX8_left.cls yX8_left yX8_left ∈ GW := ⟨gw 792 (by decide +kernel) rfl, gw 793 (by decide +kernel) rfl⟩
theorem mkX8_fits : MK yX8_fits cX8_fits 1 (some .int) 0 := ⟨gw 803 (by decide +kernel) rfl, gw 52 (by decide +kernel) rfl, by decide +kernel⟩
theorem svX8_fits : Cond.instanceMethod yX8_fits ∈ GW ∧ Cond.selects yX8_fits.cls yX8_fits yX8_fits ∈ GW := ⟨gw 801 (by decide +kernel) rfl, gw 802 (by decide +kernel) rfl⟩
theorem mkX8_sure : MK yX8_sure cX8_sure 2 (some .int) 1 := ⟨gw 819 (by decide +kernel) rfl, gw 52 (by decide +kernel) rfl, by decide +kernel⟩
theorem svX8_sure : Cond.instanceMethod yX8_sure ∈ GW ∧ Cond.selects yX8_sure.cls yX8_sure yX8_sure ∈ GW := ⟨gw 817 (by decide +kernel) rfl, gw 818 (by decide +kernel) rfl⟩
theorem mkX8_write : MK yX8_write cX8_write 3 (some .int) 2 := ⟨gw 828 (by decide +kernel) rfl, gw 52 (by decide +kernel) rfl, by decide +kernel⟩
theorem svX8_write : Cond.instanceMethod yX8_write ∈ GW ∧ Cond.selects yX8_write.cls yX8_write yX8_write ∈ GW := ⟨gw 826 (by decide +kernel) rfl, gw 827 (by decide +kernel) rfl⟩
theorem mkX8_tear : MK yX8_tear cX8_tear 2 (some .int) 0 := ⟨gw 836 (by decide +kernel) rfl, gw 52 (by decide +kernel) rfl, by decide +kernel⟩
theorem svX8_tear : Cond.instanceMethod yX8_tear ∈ GW ∧ Cond.selects yX8_tear.cls yX8_tear yX8_tear ∈ GW := ⟨gw 834 (by decide +kernel) rfl, gw 835 (by decide +kernel) rfl⟩
theorem mkX8_judge : MK yX8_judge cX8_judge 1 (some .int) 0 := ⟨gw 840 (by decide +kernel) rfl, gw 52 (by decide +kernel) rfl, by decide +kernel⟩
theorem svX8_judge : Cond.instanceMethod yX8_judge ∈ GW ∧ Cond.selects yX8_judge.cls yX8_judge yX8_judge ∈ GW := ⟨gw 838 (by decide +kernel) rfl, gw 839 (by decide +kernel) rfl⟩
theorem mkX8_seed : MK yX8_seed cX8_seed 3 (some .int) 1 := ⟨gw 851 (by decide +kernel) rfl, gw 52 (by decide +kernel) rfl, by decide +kernel⟩
theorem svX8_seed : Cond.instanceMethod yX8_seed ∈ GW ∧ Cond.selects yX8_seed.cls yX8_seed yX8_seed ∈ GW := ⟨gw 849 (by decide +kernel) rfl, gw 850 (by decide +kernel) rfl⟩
theorem mkX8_keep : MK yX8_keep cX8_keep 2 (some .int) 1 := ⟨gw 855 (by decide +kernel) rfl, gw 52 (by decide +kernel) rfl, by decide +kernel⟩
theorem svX8_keep : Cond.instanceMethod yX8_keep ∈ GW ∧ Cond.selects yX8_keep.cls yX8_keep yX8_keep ∈ GW := ⟨gw 853 (by decide +kernel) rfl, gw 854 (by decide +kernel) rfl⟩
theorem mkX8_goBack : MK yX8_goBack cX8_goBack 2 (some .int) 1 := ⟨gw 863 (by decide +kernel) rfl, gw 52 (by decide +kernel) rfl, by decide +kernel⟩
theorem svX8_goBack : Cond.instanceMethod yX8_goBack ∈ GW ∧ Cond.selects yX8_goBack.cls yX8_goBack yX8_goBack ∈ GW := ⟨gw 861 (by decide +kernel) rfl, gw 862 (by decide +kernel) rfl⟩
theorem mkX8_has : MK yX8_has cX8_has 2 (some .boolean) 2 := ⟨gw 533 (by decide +kernel) rfl, gw 52 (by decide +kernel) rfl, by decide +kernel⟩
theorem sxX8_has : Cond.static yX8_has ∈ GW := gw 532 (by decide +kernel) rfl
theorem mkX9_in : MK yX9_in cX9_in 6 (some .boolean) 3 := ⟨gw 999 (by decide +kernel) rfl, gw 61 (by decide +kernel) rfl, by decide +kernel⟩
theorem sxX9_in : Cond.static yX9_in ∈ GW := gw 998 (by decide +kernel) rfl
theorem mkX9_init : MK yX9_init cX9_init 1 none 0 := ⟨gw 868 (by decide +kernel) rfl, gw 61 (by decide +kernel) rfl, by decide +kernel⟩
theorem mkX9_size : MK yX9_size cX9_size 3 (some .int) 1 := ⟨gw 1126 (by decide +kernel) rfl, gw 61 (by decide +kernel) rfl, by decide +kernel⟩
theorem sxX9_size : Cond.static yX9_size ∈ GW := gw 1125 (by decide +kernel) rfl
theorem mkX9_feed : MK yX9_feed cX9_feed 5 (some .int) 2 := ⟨gw 995 (by decide +kernel) rfl, gw 61 (by decide +kernel) rfl, by decide +kernel⟩
theorem svX9_feed : Cond.instanceMethod yX9_feed ∈ GW ∧ Cond.selects yX9_feed.cls yX9_feed yX9_feed ∈ GW := ⟨gw 993 (by decide +kernel) rfl, gw 994 (by decide +kernel) rfl⟩
theorem mkX9_fails : MK yX9_fails cX9_fails 3 none 2 := ⟨gw 1038 (by decide +kernel) rfl, gw 61 (by decide +kernel) rfl, by decide +kernel⟩
theorem svX9_fails : Cond.instanceMethod yX9_fails ∈ GW ∧ Cond.selects yX9_fails.cls yX9_fails yX9_fails ∈ GW := ⟨gw 1037 (by decide +kernel) rfl, gw 28 (by decide +kernel) rfl⟩
theorem mkX9_here : MK yX9_here cX9_here 1 (some .int) 0 := ⟨gw 1014 (by decide +kernel) rfl, gw 61 (by decide +kernel) rfl, by decide +kernel⟩
theorem svX9_here : Cond.instanceMethod yX9_here ∈ GW ∧ Cond.selects yX9_here.cls yX9_here yX9_here ∈ GW := ⟨gw 1013 (by decide +kernel) rfl, gw 25 (by decide +kernel) rfl⟩
theorem mkX9_isEnd : MK yX9_isEnd cX9_isEnd 1 (some .boolean) 0 := ⟨gw 1010 (by decide +kernel) rfl, gw 61 (by decide +kernel) rfl, by decide +kernel⟩
theorem svX9_isEnd : Cond.instanceMethod yX9_isEnd ∈ GW ∧ Cond.selects yX9_isEnd.cls yX9_isEnd yX9_isEnd ∈ GW := ⟨gw 1009 (by decide +kernel) rfl, gw 24 (by decide +kernel) rfl⟩
theorem mkX9_isLetter : MK yX9_isLetter cX9_isLetter 1 (some .boolean) 1 := ⟨gw 1025 (by decide +kernel) rfl, gw 61 (by decide +kernel) rfl, by decide +kernel⟩
theorem sxX9_isLetter : Cond.static yX9_isLetter ∈ GW := gw 1024 (by decide +kernel) rfl
theorem mkX9_isFigure : MK yX9_isFigure cX9_isFigure 1 (some .boolean) 1 := ⟨gw 1049 (by decide +kernel) rfl, gw 61 (by decide +kernel) rfl, by decide +kernel⟩
theorem sxX9_isFigure : Cond.static yX9_isFigure ∈ GW := gw 1048 (by decide +kernel) rfl
theorem mkX9_must : MK yX9_must cX9_must 2 none 1 := ⟨gw 1055 (by decide +kernel) rfl, gw 61 (by decide +kernel) rfl, by decide +kernel⟩
theorem svX9_must : Cond.instanceMethod yX9_must ∈ GW ∧ Cond.selects yX9_must.cls yX9_must yX9_must ∈ GW := ⟨gw 1054 (by decide +kernel) rfl, gw 31 (by decide +kernel) rfl⟩
theorem mkX9_number : MK yX9_number cX9_number 4 (some .int) 2 := ⟨gw 1046 (by decide +kernel) rfl, gw 61 (by decide +kernel) rfl, by decide +kernel⟩
theorem svX9_number : Cond.instanceMethod yX9_number ∈ GW ∧ Cond.selects yX9_number.cls yX9_number yX9_number ∈ GW := ⟨gw 1045 (by decide +kernel) rfl, gw 30 (by decide +kernel) rfl⟩
theorem mkX9_word : MK yX9_word cX9_word 3 (some .int) 0 := ⟨gw 1022 (by decide +kernel) rfl, gw 61 (by decide +kernel) rfl, by decide +kernel⟩
theorem svX9_word : Cond.instanceMethod yX9_word ∈ GW ∧ Cond.selects yX9_word.cls yX9_word yX9_word ∈ GW := ⟨gw 1021 (by decide +kernel) rfl, gw 27 (by decide +kernel) rfl⟩
theorem mkX9_readColours : MK yX9_readColours cX9_readColours 2 none 0 := ⟨gw 1042 (by decide +kernel) rfl, gw 61 (by decide +kernel) rfl, by decide +kernel⟩
theorem svX9_readColours : Cond.instanceMethod yX9_readColours ∈ GW ∧ Cond.selects yX9_readColours.cls yX9_readColours yX9_readColours ∈ GW := ⟨gw 1041 (by decide +kernel) rfl, gw 29 (by decide +kernel) rfl⟩
theorem mkX9_readSeam : MK yX9_readSeam cX9_readSeam 4 none 2 := ⟨gw 1059 (by decide +kernel) rfl, gw 61 (by decide +kernel) rfl, by decide +kernel⟩
theorem svX9_readSeam : Cond.instanceMethod yX9_readSeam ∈ GW ∧ Cond.selects yX9_readSeam.cls yX9_readSeam yX9_readSeam ∈ GW := ⟨gw 1058 (by decide +kernel) rfl, gw 32 (by decide +kernel) rfl⟩
theorem mkX9_readClause : MK yX9_readClause cX9_readClause 3 none 1 := ⟨gw 1018 (by decide +kernel) rfl, gw 61 (by decide +kernel) rfl, by decide +kernel⟩
theorem svX9_readClause : Cond.instanceMethod yX9_readClause ∈ GW ∧ Cond.selects yX9_readClause.cls yX9_readClause yX9_readClause ∈ GW := ⟨gw 1017 (by decide +kernel) rfl, gw 26 (by decide +kernel) rfl⟩
theorem mkX9_flag : MK yX9_flag cX9_flag 2 (some .int) 0 := ⟨gw 1006 (by decide +kernel) rfl, gw 61 (by decide +kernel) rfl, by decide +kernel⟩
theorem svX9_flag : Cond.instanceMethod yX9_flag ∈ GW ∧ Cond.selects yX9_flag.cls yX9_flag yX9_flag ∈ GW := ⟨gw 1004 (by decide +kernel) rfl, gw 1005 (by decide +kernel) rfl⟩
theorem mkX9_takes : MK yX9_takes cX9_takes 2 none 0 := ⟨gw 1063 (by decide +kernel) rfl, gw 61 (by decide +kernel) rfl, by decide +kernel⟩
theorem svX9_takes : Cond.instanceMethod yX9_takes ∈ GW ∧ Cond.selects yX9_takes.cls yX9_takes yX9_takes ∈ GW := ⟨gw 1062 (by decide +kernel) rfl, gw 33 (by decide +kernel) rfl⟩
theorem mkX9_fault : MK yX9_fault cX9_fault 1 (some .int) 0 := ⟨gw 1067 (by decide +kernel) rfl, gw 61 (by decide +kernel) rfl, by decide +kernel⟩
theorem svX9_fault : Cond.instanceMethod yX9_fault ∈ GW ∧ Cond.selects yX9_fault.cls yX9_fault yX9_fault ∈ GW := ⟨gw 1065 (by decide +kernel) rfl, gw 1066 (by decide +kernel) rfl⟩
theorem mkX9_isStrip : MK yX9_isStrip cX9_isStrip 2 (some .boolean) 1 := ⟨gw 1093 (by decide +kernel) rfl, gw 61 (by decide +kernel) rfl, by decide +kernel⟩
theorem svX9_isStrip : Cond.instanceMethod yX9_isStrip ∈ GW ∧ Cond.selects yX9_isStrip.cls yX9_isStrip yX9_isStrip ∈ GW := ⟨gw 1092 (by decide +kernel) rfl, gw 36 (by decide +kernel) rfl⟩
theorem mkX9_isSeam : MK yX9_isSeam cX9_isSeam 2 (some .boolean) 1 := ⟨gw 1083 (by decide +kernel) rfl, gw 61 (by decide +kernel) rfl, by decide +kernel⟩
theorem svX9_isSeam : Cond.instanceMethod yX9_isSeam ∈ GW ∧ Cond.selects yX9_isSeam.cls yX9_isSeam yX9_isSeam ∈ GW := ⟨gw 1082 (by decide +kernel) rfl, gw 35 (by decide +kernel) rfl⟩
theorem mkX9_areStrips : MK yX9_areStrips cX9_areStrips 2 (some .boolean) 1 := ⟨gw 1175 (by decide +kernel) rfl, gw 61 (by decide +kernel) rfl, by decide +kernel⟩
theorem svX9_areStrips : Cond.instanceMethod yX9_areStrips ∈ GW ∧ Cond.selects yX9_areStrips.cls yX9_areStrips yX9_areStrips ∈ GW := ⟨gw 1174 (by decide +kernel) rfl, gw 44 (by decide +kernel) rfl⟩
theorem mkX9_there : MK yX9_there cX9_there 4 (some .int) 1 := ⟨gw 1075 (by decide +kernel) rfl, gw 61 (by decide +kernel) rfl, by decide +kernel⟩
theorem svX9_there : Cond.instanceMethod yX9_there ∈ GW ∧ Cond.selects yX9_there.cls yX9_there yX9_there ∈ GW := ⟨gw 1074 (by decide +kernel) rfl, gw 34 (by decide +kernel) rfl⟩
theorem mkX9_told : MK yX9_told cX9_told 4 (some .int) 1 := ⟨gw 1071 (by decide +kernel) rfl, gw 61 (by decide +kernel) rfl, by decide +kernel⟩
theorem svX9_told : Cond.instanceMethod yX9_told ∈ GW ∧ Cond.selects yX9_told.cls yX9_told yX9_told ∈ GW := ⟨gw 1069 (by decide +kernel) rfl, gw 1070 (by decide +kernel) rfl⟩
theorem mkX9_seam : MK yX9_seam cX9_seam 3 (some .int) 2 := ⟨gw 1079 (by decide +kernel) rfl, gw 61 (by decide +kernel) rfl, by decide +kernel⟩
theorem svX9_seam : Cond.instanceMethod yX9_seam ∈ GW ∧ Cond.selects yX9_seam.cls yX9_seam yX9_seam ∈ GW := ⟨gw 1077 (by decide +kernel) rfl, gw 1078 (by decide +kernel) rfl⟩
theorem mkX9_isOn : MK yX9_isOn cX9_isOn 3 (some .boolean) 2 := ⟨gw 1101 (by decide +kernel) rfl, gw 61 (by decide +kernel) rfl, by decide +kernel⟩
theorem svX9_isOn : Cond.instanceMethod yX9_isOn ∈ GW ∧ Cond.selects yX9_isOn.cls yX9_isOn yX9_isOn ∈ GW := ⟨gw 1100 (by decide +kernel) rfl, gw 38 (by decide +kernel) rfl⟩
theorem mkX9_borders : MK yX9_borders cX9_borders 6 (some .int) 2 := ⟨gw 1105 (by decide +kernel) rfl, gw 61 (by decide +kernel) rfl, by decide +kernel⟩
theorem svX9_borders : Cond.instanceMethod yX9_borders ∈ GW ∧ Cond.selects yX9_borders.cls yX9_borders yX9_borders ∈ GW := ⟨gw 1104 (by decide +kernel) rfl, gw 39 (by decide +kernel) rfl⟩
theorem mkX9_seamsOf : MK yX9_seamsOf cX9_seamsOf 5 (some .int) 2 := ⟨gw 1097 (by decide +kernel) rfl, gw 61 (by decide +kernel) rfl, by decide +kernel⟩
theorem svX9_seamsOf : Cond.instanceMethod yX9_seamsOf ∈ GW ∧ Cond.selects yX9_seamsOf.cls yX9_seamsOf yX9_seamsOf ∈ GW := ⟨gw 1096 (by decide +kernel) rfl, gw 37 (by decide +kernel) rfl⟩
theorem mkX9_strip : MK yX9_strip cX9_strip 3 (some .int) 2 := ⟨gw 1089 (by decide +kernel) rfl, gw 61 (by decide +kernel) rfl, by decide +kernel⟩
theorem svX9_strip : Cond.instanceMethod yX9_strip ∈ GW ∧ Cond.selects yX9_strip.cls yX9_strip yX9_strip ∈ GW := ⟨gw 1087 (by decide +kernel) rfl, gw 1088 (by decide +kernel) rfl⟩
theorem mkX9_flying : MK yX9_flying cX9_flying 6 (some .int) 1 := ⟨gw 1114 (by decide +kernel) rfl, gw 61 (by decide +kernel) rfl, by decide +kernel⟩
theorem svX9_flying : Cond.instanceMethod yX9_flying ∈ GW ∧ Cond.selects yX9_flying.cls yX9_flying yX9_flying ∈ GW := ⟨gw 1113 (by decide +kernel) rfl, gw 40 (by decide +kernel) rfl⟩
theorem mkX9_flies : MK yX9_flies cX9_flies 2 (some .int) 1 := ⟨gw 1109 (by decide +kernel) rfl, gw 61 (by decide +kernel) rfl, by decide +kernel⟩
theorem svX9_flies : Cond.instanceMethod yX9_flies ∈ GW ∧ Cond.selects yX9_flies.cls yX9_flies yX9_flies ∈ GW := ⟨gw 1107 (by decide +kernel) rfl, gw 1108 (by decide +kernel) rfl⟩
theorem mkX9_mayUnpick : MK yX9_mayUnpick cX9_mayUnpick 7 (some .boolean) 4 := ⟨gw 1122 (by decide +kernel) rfl, gw 61 (by decide +kernel) rfl, by decide +kernel⟩
theorem svX9_mayUnpick : Cond.instanceMethod yX9_mayUnpick ∈ GW ∧ Cond.selects yX9_mayUnpick.cls yX9_mayUnpick yX9_mayUnpick ∈ GW := ⟨gw 1121 (by decide +kernel) rfl, gw 41 (by decide +kernel) rfl⟩
theorem mkX9_unpick : MK yX9_unpick cX9_unpick 3 (some .int) 2 := ⟨gw 1118 (by decide +kernel) rfl, gw 61 (by decide +kernel) rfl, by decide +kernel⟩
theorem svX9_unpick : Cond.instanceMethod yX9_unpick ∈ GW ∧ Cond.selects yX9_unpick.cls yX9_unpick yX9_unpick ∈ GW := ⟨gw 1116 (by decide +kernel) rfl, gw 1117 (by decide +kernel) rfl⟩
theorem mkX9_sew : MK yX9_sew cX9_sew 4 (some .int) 2 := ⟨gw 1130 (by decide +kernel) rfl, gw 61 (by decide +kernel) rfl, by decide +kernel⟩
theorem svX9_sew : Cond.instanceMethod yX9_sew ∈ GW ∧ Cond.selects yX9_sew.cls yX9_sew yX9_sew ∈ GW := ⟨gw 1128 (by decide +kernel) rfl, gw 1129 (by decide +kernel) rfl⟩
theorem mkX9_hem : MK yX9_hem cX9_hem 4 (some .int) 2 := ⟨gw 1134 (by decide +kernel) rfl, gw 61 (by decide +kernel) rfl, by decide +kernel⟩
theorem svX9_hem : Cond.instanceMethod yX9_hem ∈ GW ∧ Cond.selects yX9_hem.cls yX9_hem yX9_hem ∈ GW := ⟨gw 1132 (by decide +kernel) rfl, gw 1133 (by decide +kernel) rfl⟩
theorem mkX9_frays : MK yX9_frays cX9_frays 6 (some .int) 1 := ⟨gw 1142 (by decide +kernel) rfl, gw 61 (by decide +kernel) rfl, by decide +kernel⟩
theorem svX9_frays : Cond.instanceMethod yX9_frays ∈ GW ∧ Cond.selects yX9_frays.cls yX9_frays yX9_frays ∈ GW := ⟨gw 1141 (by decide +kernel) rfl, gw 42 (by decide +kernel) rfl⟩
theorem mkX9_fray : MK yX9_fray cX9_fray 2 (some .int) 1 := ⟨gw 1138 (by decide +kernel) rfl, gw 61 (by decide +kernel) rfl, by decide +kernel⟩
theorem svX9_fray : Cond.instanceMethod yX9_fray ∈ GW ∧ Cond.selects yX9_fray.cls yX9_fray yX9_fray ∈ GW := ⟨gw 1136 (by decide +kernel) rfl, gw 1137 (by decide +kernel) rfl⟩
theorem mkX9_dye : MK yX9_dye cX9_dye 4 (some .int) 2 := ⟨gw 1146 (by decide +kernel) rfl, gw 61 (by decide +kernel) rfl, by decide +kernel⟩
theorem svX9_dye : Cond.instanceMethod yX9_dye ∈ GW ∧ Cond.selects yX9_dye.cls yX9_dye yX9_dye ∈ GW := ⟨gw 1144 (by decide +kernel) rfl, gw 1145 (by decide +kernel) rfl⟩
theorem mkX9_draws : MK yX9_draws cX9_draws 2 (some .int) 1 := ⟨gw 1155 (by decide +kernel) rfl, gw 61 (by decide +kernel) rfl, by decide +kernel⟩
theorem svX9_draws : Cond.instanceMethod yX9_draws ∈ GW ∧ Cond.selects yX9_draws.cls yX9_draws yX9_draws ∈ GW := ⟨gw 1154 (by decide +kernel) rfl, gw 43 (by decide +kernel) rfl⟩
theorem mkX9_drift : MK yX9_drift cX9_drift 5 (some .int) 1 := ⟨gw 1150 (by decide +kernel) rfl, gw 61 (by decide +kernel) rfl, by decide +kernel⟩
theorem svX9_drift : Cond.instanceMethod yX9_drift ∈ GW ∧ Cond.selects yX9_drift.cls yX9_drift yX9_drift ∈ GW := ⟨gw 1148 (by decide +kernel) rfl, gw 1149 (by decide +kernel) rfl⟩
theorem mkX9_seed : MK yX9_seed cX9_seed 3 (some .int) 1 := ⟨gw 1163 (by decide +kernel) rfl, gw 61 (by decide +kernel) rfl, by decide +kernel⟩
theorem svX9_seed : Cond.instanceMethod yX9_seed ∈ GW ∧ Cond.selects yX9_seed.cls yX9_seed yX9_seed ∈ GW := ⟨gw 1161 (by decide +kernel) rfl, gw 1162 (by decide +kernel) rfl⟩
theorem mkX9_cut : MK yX9_cut cX9_cut 8 (some .int) 2 := ⟨gw 1167 (by decide +kernel) rfl, gw 61 (by decide +kernel) rfl, by decide +kernel⟩
theorem svX9_cut : Cond.instanceMethod yX9_cut ∈ GW ∧ Cond.selects yX9_cut.cls yX9_cut yX9_cut ∈ GW := ⟨gw 1165 (by decide +kernel) rfl, gw 1166 (by decide +kernel) rfl⟩
theorem mkX9_doLast : MK yX9_doLast cX9_doLast 11 (some .boolean) 4 := ⟨gw 1179 (by decide +kernel) rfl, gw 61 (by decide +kernel) rfl, by decide +kernel⟩
theorem svX9_doLast : Cond.instanceMethod yX9_doLast ∈ GW ∧ Cond.selects yX9_doLast.cls yX9_doLast yX9_doLast ∈ GW := ⟨gw 1178 (by decide +kernel) rfl, gw 45 (by decide +kernel) rfl⟩
theorem mkX9_lasts : MK yX9_lasts cX9_lasts 3 (some .int) 2 := ⟨gw 1171 (by decide +kernel) rfl, gw 61 (by decide +kernel) rfl, by decide +kernel⟩
theorem svX9_lasts : Cond.instanceMethod yX9_lasts ∈ GW ∧ Cond.selects yX9_lasts.cls yX9_lasts yX9_lasts ∈ GW := ⟨gw 1169 (by decide +kernel) rfl, gw 1170 (by decide +kernel) rfl⟩
theorem mkX9_hems : MK yX9_hems cX9_hems 7 (some .int) 2 := ⟨gw 1183 (by decide +kernel) rfl, gw 61 (by decide +kernel) rfl, by decide +kernel⟩
theorem svX9_hems : Cond.instanceMethod yX9_hems ∈ GW ∧ Cond.selects yX9_hems.cls yX9_hems yX9_hems ∈ GW := ⟨gw 1181 (by decide +kernel) rfl, gw 1182 (by decide +kernel) rfl⟩
theorem mkX9_thread : MK yX9_thread cX9_thread 9 (some .int) 2 := ⟨gw 1188 (by decide +kernel) rfl, gw 61 (by decide +kernel) rfl, by decide +kernel⟩
theorem svX9_thread : Cond.instanceMethod yX9_thread ∈ GW ∧ Cond.selects yX9_thread.cls yX9_thread yX9_thread ∈ GW := ⟨gw 1186 (by decide +kernel) rfl, gw 1187 (by decide +kernel) rfl⟩
theorem mkX9_odds : MK yX9_odds cX9_odds 9 (some .int) 2 := ⟨gw 1192 (by decide +kernel) rfl, gw 61 (by decide +kernel) rfl, by decide +kernel⟩
theorem svX9_odds : Cond.instanceMethod yX9_odds ∈ GW ∧ Cond.selects yX9_odds.cls yX9_odds yX9_odds ∈ GW := ⟨gw 1190 (by decide +kernel) rfl, gw 1191 (by decide +kernel) rfl⟩
theorem mkX9_worth : MK yX9_worth cX9_worth 5 (some .int) 3 := ⟨gw 1211 (by decide +kernel) rfl, gw 61 (by decide +kernel) rfl, by decide +kernel⟩
theorem svX9_worth : Cond.instanceMethod yX9_worth ∈ GW ∧ Cond.selects yX9_worth.cls yX9_worth yX9_worth ∈ GW := ⟨gw 1210 (by decide +kernel) rfl, gw 48 (by decide +kernel) rfl⟩
theorem mkX9_opens : MK yX9_opens cX9_opens 3 none 2 := ⟨gw 1207 (by decide +kernel) rfl, gw 61 (by decide +kernel) rfl, by decide +kernel⟩
theorem svX9_opens : Cond.instanceMethod yX9_opens ∈ GW ∧ Cond.selects yX9_opens.cls yX9_opens yX9_opens ∈ GW := ⟨gw 1206 (by decide +kernel) rfl, gw 47 (by decide +kernel) rfl⟩
theorem mkX9_plays : MK yX9_plays cX9_plays 9 (some .int) 3 := ⟨gw 1203 (by decide +kernel) rfl, gw 61 (by decide +kernel) rfl, by decide +kernel⟩
theorem svX9_plays : Cond.instanceMethod yX9_plays ∈ GW ∧ Cond.selects yX9_plays.cls yX9_plays yX9_plays ∈ GW := ⟨gw 1202 (by decide +kernel) rfl, gw 46 (by decide +kernel) rfl⟩
theorem mkX9_turnsOf : MK yX9_turnsOf cX9_turnsOf 6 (some .int) 4 := ⟨gw 1198 (by decide +kernel) rfl, gw 61 (by decide +kernel) rfl, by decide +kernel⟩
theorem svX9_turnsOf : Cond.instanceMethod yX9_turnsOf ∈ GW ∧ Cond.selects yX9_turnsOf.cls yX9_turnsOf yX9_turnsOf ∈ GW := ⟨gw 1196 (by decide +kernel) rfl, gw 1197 (by decide +kernel) rfl⟩
theorem mkX9_rows : MK yX9_rows cX9_rows 9 (some .int) 1 := ⟨gw 1219 (by decide +kernel) rfl, gw 61 (by decide +kernel) rfl, by decide +kernel⟩
theorem svX9_rows : Cond.instanceMethod yX9_rows ∈ GW ∧ Cond.selects yX9_rows.cls yX9_rows yX9_rows ∈ GW := ⟨gw 1218 (by decide +kernel) rfl, gw 49 (by decide +kernel) rfl⟩
theorem mkX9_isApart : MK yX9_isApart cX9_isApart 4 (some .boolean) 1 := ⟨gw 1223 (by decide +kernel) rfl, gw 61 (by decide +kernel) rfl, by decide +kernel⟩
theorem svX9_isApart : Cond.instanceMethod yX9_isApart ∈ GW ∧ Cond.selects yX9_isApart.cls yX9_isApart yX9_isApart ∈ GW := ⟨gw 1222 (by decide +kernel) rfl, gw 50 (by decide +kernel) rfl⟩
theorem mkX9_colours : MK yX9_colours cX9_colours 2 (some .int) 1 := ⟨gw 1215 (by decide +kernel) rfl, gw 61 (by decide +kernel) rfl, by decide +kernel⟩
theorem svX9_colours : Cond.instanceMethod yX9_colours ∈ GW ∧ Cond.selects yX9_colours.cls yX9_colours yX9_colours ∈ GW := ⟨gw 1213 (by decide +kernel) rfl, gw 1214 (by decide +kernel) rfl⟩
theorem mkX9_left : MK yX9_left cX9_left 4 (some .int) 2 := ⟨gw 1227 (by decide +kernel) rfl, gw 61 (by decide +kernel) rfl, by decide +kernel⟩
theorem svX9_left : Cond.instanceMethod yX9_left ∈ GW ∧ Cond.selects yX9_left.cls yX9_left yX9_left ∈ GW := ⟨gw 1225 (by decide +kernel) rfl, gw 1226 (by decide +kernel) rfl⟩
theorem mkX9_fits : MK yX9_fits cX9_fits 1 (some .int) 0 := ⟨gw 1231 (by decide +kernel) rfl, gw 61 (by decide +kernel) rfl, by decide +kernel⟩
theorem svX9_fits : Cond.instanceMethod yX9_fits ∈ GW ∧ Cond.selects yX9_fits.cls yX9_fits yX9_fits ∈ GW := ⟨gw 1229 (by decide +kernel) rfl, gw 1230 (by decide +kernel) rfl⟩
theorem mkX9_sure : MK yX9_sure cX9_sure 3 (some .int) 1 := ⟨gw 1235 (by decide +kernel) rfl, gw 61 (by decide +kernel) rfl, by decide +kernel⟩
theorem svX9_sure : Cond.instanceMethod yX9_sure ∈ GW ∧ Cond.selects yX9_sure.cls yX9_sure yX9_sure ∈ GW := ⟨gw 1233 (by decide +kernel) rfl, gw 1234 (by decide +kernel) rfl⟩
theorem mkX9_write : MK yX9_write cX9_write 3 (some .int) 2 := ⟨gw 1239 (by decide +kernel) rfl, gw 61 (by decide +kernel) rfl, by decide +kernel⟩
theorem svX9_write : Cond.instanceMethod yX9_write ∈ GW ∧ Cond.selects yX9_write.cls yX9_write yX9_write ∈ GW := ⟨gw 1237 (by decide +kernel) rfl, gw 1238 (by decide +kernel) rfl⟩
theorem mkX9_tear : MK yX9_tear cX9_tear 2 (some .int) 0 := ⟨gw 1243 (by decide +kernel) rfl, gw 61 (by decide +kernel) rfl, by decide +kernel⟩
theorem svX9_tear : Cond.instanceMethod yX9_tear ∈ GW ∧ Cond.selects yX9_tear.cls yX9_tear yX9_tear ∈ GW := ⟨gw 1241 (by decide +kernel) rfl, gw 1242 (by decide +kernel) rfl⟩
theorem mkX9_judge : MK yX9_judge cX9_judge 3 (some .int) 0 := ⟨gw 1247 (by decide +kernel) rfl, gw 61 (by decide +kernel) rfl, by decide +kernel⟩
theorem svX9_judge : Cond.instanceMethod yX9_judge ∈ GW ∧ Cond.selects yX9_judge.cls yX9_judge yX9_judge ∈ GW := ⟨gw 1245 (by decide +kernel) rfl, gw 1246 (by decide +kernel) rfl⟩
theorem mkX9_keep : MK yX9_keep cX9_keep 4 (some .int) 1 := ⟨gw 1251 (by decide +kernel) rfl, gw 61 (by decide +kernel) rfl, by decide +kernel⟩
theorem svX9_keep : Cond.instanceMethod yX9_keep ∈ GW ∧ Cond.selects yX9_keep.cls yX9_keep yX9_keep ∈ GW := ⟨gw 1249 (by decide +kernel) rfl, gw 1250 (by decide +kernel) rfl⟩
theorem mkX9_goBack : MK yX9_goBack cX9_goBack 4 (some .int) 1 := ⟨gw 1255 (by decide +kernel) rfl, gw 61 (by decide +kernel) rfl, by decide +kernel⟩
theorem svX9_goBack : Cond.instanceMethod yX9_goBack ∈ GW ∧ Cond.selects yX9_goBack.cls yX9_goBack yX9_goBack ∈ GW := ⟨gw 1253 (by decide +kernel) rfl, gw 1254 (by decide +kernel) rfl⟩
theorem lcX1_101 : Cond.constant RX1 101 (65536 : Int32) ∈ GW := gw 631 (by decide +kernel) rfl
theorem lcX8_138 : Cond.constant RX8 138 (-1000000001 : Int32) ∈ GW := gw 530 (by decide +kernel) rfl
theorem lcX8_175 : Cond.constant RX8 175 (-1000000003 : Int32) ∈ GW := gw 577 (by decide +kernel) rfl
theorem lcX8_76 : Cond.constant RX8 76 (-1000000002 : Int32) ∈ GW := gw 338 (by decide +kernel) rfl
theorem lcX8_81 : Cond.constant RX8 81 (-1000000004 : Int32) ∈ GW := gw 343 (by decide +kernel) rfl
theorem lcX9_100 : Cond.constant RX9 100 (-1000000004 : Int32) ∈ GW := gw 1001 (by decide +kernel) rfl
theorem lcX9_205 : Cond.constant RX9 205 (-1000000001 : Int32) ∈ GW := gw 1084 (by decide +kernel) rfl
theorem lcX9_230 : Cond.constant RX9 230 (-1000000003 : Int32) ∈ GW := gw 1123 (by decide +kernel) rfl
theorem lcX9_246 : Cond.constant RX9 246 (65536 : Int32) ∈ GW := gw 1159 (by decide +kernel) rfl
theorem lcX9_96 : Cond.constant RX9 96 (-1000000002 : Int32) ∈ GW := gw 1000 (by decide +kernel) rfl
theorem lcX1_95 : Cond.constantLong RX1 95 (1103515245 : Int64) ∈ GW := gw 628 (by decide +kernel) rfl
theorem lcX1_97 : Cond.constantLong RX1 97 (12345 : Int64) ∈ GW := gw 629 (by decide +kernel) rfl
theorem lcX1_99 : Cond.constantLong RX1 99 (2147483647 : Int64) ∈ GW := gw 630 (by decide +kernel) rfl
theorem lcX7_32 : Cond.constantLong RX7 32 (100 : Int64) ∈ GW := gw 727 (by decide +kernel) rfl
theorem lcX7_34 : Cond.constantLong RX7 34 (1000000000 : Int64) ∈ GW := gw 721 (by decide +kernel) rfl
theorem lcL_13 : Cond.constantLong RL 13 (4294967295 : Int64) ∈ GW := gw 1256 (by decide +kernel) rfl
theorem lcX9_101 : Cond.constantLong RX9 101 (255 : Int64) ∈ GW := gw 1002 (by decide +kernel) rfl
theorem lcX9_116 : Cond.constantLong RX9 116 (97 : Int64) ∈ GW := gw 1026 (by decide +kernel) rfl
theorem lcX9_118 : Cond.constantLong RX9 118 (122 : Int64) ∈ GW := gw 1027 (by decide +kernel) rfl
theorem lcX9_120 : Cond.constantLong RX9 120 (48 : Int64) ∈ GW := gw 1050 (by decide +kernel) rfl
theorem lcX9_122 : Cond.constantLong RX9 122 (57 : Int64) ∈ GW := gw 1051 (by decide +kernel) rfl
theorem lcX9_138 : Cond.constantLong RX9 138 (-1 : Int64) ∈ GW := gw 1028 (by decide +kernel) rfl
theorem lcX9_140 : Cond.constantLong RX9 140 (256 : Int64) ∈ GW := gw 1029 (by decide +kernel) rfl
theorem lcX9_142 : Cond.constantLong RX9 142 (27988534211474035 : Int64) ∈ GW := gw 1030 (by decide +kernel) rfl
theorem lcX9_144 : Cond.constantLong RX9 144 (495874894192 : Int64) ∈ GW := gw 1031 (by decide +kernel) rfl
theorem lcX9_146 : Cond.constantLong RX9 146 (1886350437 : Int64) ∈ GW := gw 1032 (by decide +kernel) rfl
theorem lcX9_148 : Cond.constantLong RX9 148 (1936023917 : Int64) ∈ GW := gw 1033 (by decide +kernel) rfl
theorem lcX9_150 : Cond.constantLong RX9 150 (427071728740 : Int64) ∈ GW := gw 1034 (by decide +kernel) rfl
theorem lcX9_206 : Cond.constantLong RX9 206 (3 : Int64) ∈ GW := gw 1085 (by decide +kernel) rfl
theorem lcX9_221 : Cond.constantLong RX9 221 (9 : Int64) ∈ GW := gw 1110 (by decide +kernel) rfl
theorem lcX9_240 : Cond.constantLong RX9 240 (1103515245 : Int64) ∈ GW := gw 1156 (by decide +kernel) rfl
theorem lcX9_242 : Cond.constantLong RX9 242 (12345 : Int64) ∈ GW := gw 1157 (by decide +kernel) rfl
theorem lcX9_244 : Cond.constantLong RX9 244 (2147483647 : Int64) ∈ GW := gw 1158 (by decide +kernel) rfl
theorem lcX9_247 : Cond.constantLong RX9 247 (99 : Int64) ∈ GW := gw 1151 (by decide +kernel) rfl
theorem lcX9_258 : Cond.constantLong RX9 258 (2 : Int64) ∈ GW := gw 1184 (by decide +kernel) rfl
theorem lcX9_260 : Cond.constantLong RX9 260 (100 : Int64) ∈ GW := gw 1193 (by decide +kernel) rfl
theorem lcX9_262 : Cond.constantLong RX9 262 (1000000000 : Int64) ∈ GW := gw 1194 (by decide +kernel) rfl
theorem lcX9_274 : Cond.constantLong RX9 274 (4 : Int64) ∈ GW := gw 1199 (by decide +kernel) rfl
theorem lcX9_90 : Cond.constantLong RX9 90 (8 : Int64) ∈ GW := gw 996 (by decide +kernel) rfl
theorem lfX0_15 : LkF RX0 15 0 1 := ⟨RX0, TX0, 3, rfl, tbX0, by decide, rfl, gw 140 (by decide +kernel) rfl⟩
theorem lfX0_18 : LkF RX0 18 0 2 := ⟨RX0, TX0, 3, rfl, tbX0, by decide, rfl, gw 141 (by decide +kernel) rfl⟩
theorem lpX0_18 : LkP RX0 18 0 2 .int := ⟨RX0, TX0, 3, rfl, tbX0, by decide, rfl, gw 141 (by decide +kernel) rfl, rfl, by decide +kernel⟩
theorem lfX0_28 : LkF RX0 28 1 2 := ⟨RX1, TX1, 4, rfl, tbX1, by decide, rfl, gw 117 (by decide +kernel) rfl⟩
theorem lpX0_28 : LkP RX0 28 1 2 .int := ⟨RX1, TX1, 4, rfl, tbX1, by decide, rfl, gw 117 (by decide +kernel) rfl, rfl, by decide +kernel⟩
theorem lfX0_9 : LkF RX0 9 0 0 := ⟨RX0, TX0, 3, rfl, tbX0, by decide, rfl, gw 139 (by decide +kernel) rfl⟩
theorem lfX1_15 : LkF RX1 15 1 1 := ⟨RX1, TX1, 4, rfl, tbX1, by decide, rfl, gw 114 (by decide +kernel) rfl⟩
theorem lfX1_18 : LkF RX1 18 4 4 := ⟨RX4, TX4, 12, rfl, tbX4, by decide, rfl, gw 252 (by decide +kernel) rfl⟩
theorem lfX1_27 : LkF RX1 27 4 1 := ⟨RX4, TX4, 12, rfl, tbX4, by decide, rfl, gw 246 (by decide +kernel) rfl⟩
theorem lfX1_30 : LkF RX1 30 1 2 := ⟨RX1, TX1, 4, rfl, tbX1, by decide, rfl, gw 116 (by decide +kernel) rfl⟩
theorem lpX1_30 : LkP RX1 30 1 2 .int := ⟨RX1, TX1, 4, rfl, tbX1, by decide, rfl, gw 116 (by decide +kernel) rfl, rfl, by decide +kernel⟩
theorem lfX1_34 : LkF RX1 34 1 3 := ⟨RX1, TX1, 4, rfl, tbX1, by decide, rfl, gw 120 (by decide +kernel) rfl⟩
theorem lpX1_34 : LkP RX1 34 1 3 .int := ⟨RX1, TX1, 4, rfl, tbX1, by decide, rfl, gw 120 (by decide +kernel) rfl, rfl, by decide +kernel⟩
theorem lfX1_41 : LkF RX1 41 4 9 := ⟨RX4, TX4, 12, rfl, tbX4, by decide, rfl, gw 262 (by decide +kernel) rfl⟩
theorem lpX1_41 : LkP RX1 41 4 9 .int := ⟨RX4, TX4, 12, rfl, tbX4, by decide, rfl, gw 262 (by decide +kernel) rfl, rfl, by decide +kernel⟩
theorem lfX1_76 : LkF RX1 76 4 10 := ⟨RX4, TX4, 12, rfl, tbX4, by decide, rfl, gw 267 (by decide +kernel) rfl⟩
theorem lpX1_76 : LkP RX1 76 4 10 .int := ⟨RX4, TX4, 12, rfl, tbX4, by decide, rfl, gw 267 (by decide +kernel) rfl, rfl, by decide +kernel⟩
theorem lfX1_9 : LkF RX1 9 1 0 := ⟨RX1, TX1, 4, rfl, tbX1, by decide, rfl, gw 112 (by decide +kernel) rfl⟩
theorem lfX2_11 : LkF RX2 11 2 0 := ⟨RX2, TX2, 3, rfl, tbX2, by decide, rfl, gw 156 (by decide +kernel) rfl⟩
theorem lfX2_15 : LkF RX2 15 2 1 := ⟨RX2, TX2, 3, rfl, tbX2, by decide, rfl, gw 157 (by decide +kernel) rfl⟩
theorem lfX2_49 : LkF RX2 49 2 2 := ⟨RX2, TX2, 3, rfl, tbX2, by decide, rfl, gw 158 (by decide +kernel) rfl⟩
theorem lpX2_49 : LkP RX2 49 2 2 .int := ⟨RX2, TX2, 3, rfl, tbX2, by decide, rfl, gw 158 (by decide +kernel) rfl, rfl, by decide +kernel⟩
theorem lfX2_53 : LkF RX2 53 1 2 := ⟨RX1, TX1, 4, rfl, tbX1, by decide, rfl, gw 118 (by decide +kernel) rfl⟩
theorem lpX2_53 : LkP RX2 53 1 2 .int := ⟨RX1, TX1, 4, rfl, tbX1, by decide, rfl, gw 118 (by decide +kernel) rfl, rfl, by decide +kernel⟩
theorem lfX2_67 : LkF RX2 67 4 11 := ⟨RX4, TX4, 12, rfl, tbX4, by decide, rfl, gw 271 (by decide +kernel) rfl⟩
theorem lpX2_67 : LkP RX2 67 4 11 .int := ⟨RX4, TX4, 12, rfl, tbX4, by decide, rfl, gw 271 (by decide +kernel) rfl, rfl, by decide +kernel⟩
theorem lfX3_15 : LkF RX3 15 3 3 := ⟨RX3, TX3, 7, rfl, tbX3, by decide, rfl, gw 219 (by decide +kernel) rfl⟩
theorem lfX3_18 : LkF RX3 18 3 4 := ⟨RX3, TX3, 7, rfl, tbX3, by decide, rfl, gw 220 (by decide +kernel) rfl⟩
theorem lfX3_21 : LkF RX3 21 3 5 := ⟨RX3, TX3, 7, rfl, tbX3, by decide, rfl, gw 221 (by decide +kernel) rfl⟩
theorem lfX3_34 : LkF RX3 34 3 0 := ⟨RX3, TX3, 7, rfl, tbX3, by decide, rfl, gw 213 (by decide +kernel) rfl⟩
theorem lpX3_34 : LkP RX3 34 3 0 .boolean := ⟨RX3, TX3, 7, rfl, tbX3, by decide, rfl, gw 213 (by decide +kernel) rfl, rfl, by decide +kernel⟩
theorem lfX3_38 : LkF RX3 38 3 1 := ⟨RX3, TX3, 7, rfl, tbX3, by decide, rfl, gw 215 (by decide +kernel) rfl⟩
theorem lpX3_38 : LkP RX3 38 3 1 .int := ⟨RX3, TX3, 7, rfl, tbX3, by decide, rfl, gw 215 (by decide +kernel) rfl, rfl, by decide +kernel⟩
theorem lfX3_46 : LkF RX3 46 3 6 := ⟨RX3, TX3, 7, rfl, tbX3, by decide, rfl, gw 222 (by decide +kernel) rfl⟩
theorem lpX3_46 : LkP RX3 46 3 6 .int := ⟨RX3, TX3, 7, rfl, tbX3, by decide, rfl, gw 222 (by decide +kernel) rfl, rfl, by decide +kernel⟩
theorem lfX3_52 : LkF RX3 52 4 9 := ⟨RX4, TX4, 12, rfl, tbX4, by decide, rfl, gw 261 (by decide +kernel) rfl⟩
theorem lpX3_52 : LkP RX3 52 4 9 .int := ⟨RX4, TX4, 12, rfl, tbX4, by decide, rfl, gw 261 (by decide +kernel) rfl, rfl, by decide +kernel⟩
theorem lfX3_9 : LkF RX3 9 3 2 := ⟨RX3, TX3, 7, rfl, tbX3, by decide, rfl, gw 217 (by decide +kernel) rfl⟩
theorem lfX4_15 : LkF RX4 15 4 1 := ⟨RX4, TX4, 12, rfl, tbX4, by decide, rfl, gw 245 (by decide +kernel) rfl⟩
theorem lfX4_18 : LkF RX4 18 4 2 := ⟨RX4, TX4, 12, rfl, tbX4, by decide, rfl, gw 247 (by decide +kernel) rfl⟩
theorem lfX4_21 : LkF RX4 21 4 3 := ⟨RX4, TX4, 12, rfl, tbX4, by decide, rfl, gw 249 (by decide +kernel) rfl⟩
theorem lfX4_24 : LkF RX4 24 4 4 := ⟨RX4, TX4, 12, rfl, tbX4, by decide, rfl, gw 251 (by decide +kernel) rfl⟩
theorem lfX4_27 : LkF RX4 27 4 5 := ⟨RX4, TX4, 12, rfl, tbX4, by decide, rfl, gw 253 (by decide +kernel) rfl⟩
theorem lfX4_30 : LkF RX4 30 4 6 := ⟨RX4, TX4, 12, rfl, tbX4, by decide, rfl, gw 254 (by decide +kernel) rfl⟩
theorem lfX4_33 : LkF RX4 33 4 7 := ⟨RX4, TX4, 12, rfl, tbX4, by decide, rfl, gw 255 (by decide +kernel) rfl⟩
theorem lfX4_36 : LkF RX4 36 4 8 := ⟨RX4, TX4, 12, rfl, tbX4, by decide, rfl, gw 256 (by decide +kernel) rfl⟩
theorem lpX4_36 : LkP RX4 36 4 8 .int := ⟨RX4, TX4, 12, rfl, tbX4, by decide, rfl, gw 256 (by decide +kernel) rfl, rfl, by decide +kernel⟩
theorem lfX4_40 : LkF RX4 40 4 9 := ⟨RX4, TX4, 12, rfl, tbX4, by decide, rfl, gw 259 (by decide +kernel) rfl⟩
theorem lpX4_40 : LkP RX4 40 4 9 .int := ⟨RX4, TX4, 12, rfl, tbX4, by decide, rfl, gw 259 (by decide +kernel) rfl, rfl, by decide +kernel⟩
theorem lfX4_43 : LkF RX4 43 4 10 := ⟨RX4, TX4, 12, rfl, tbX4, by decide, rfl, gw 264 (by decide +kernel) rfl⟩
theorem lpX4_43 : LkP RX4 43 4 10 .int := ⟨RX4, TX4, 12, rfl, tbX4, by decide, rfl, gw 264 (by decide +kernel) rfl, rfl, by decide +kernel⟩
theorem lfX4_46 : LkF RX4 46 4 11 := ⟨RX4, TX4, 12, rfl, tbX4, by decide, rfl, gw 268 (by decide +kernel) rfl⟩
theorem lpX4_46 : LkP RX4 46 4 11 .int := ⟨RX4, TX4, 12, rfl, tbX4, by decide, rfl, gw 268 (by decide +kernel) rfl, rfl, by decide +kernel⟩
theorem lfX4_9 : LkF RX4 9 4 0 := ⟨RX4, TX4, 12, rfl, tbX4, by decide, rfl, gw 244 (by decide +kernel) rfl⟩
theorem lfX5_15 : LkF RX5 15 5 3 := ⟨RX5, TX5, 6, rfl, tbX5, by decide, rfl, gw 88 (by decide +kernel) rfl⟩
theorem lpX5_15 : LkP RX5 15 5 3 .int := ⟨RX5, TX5, 6, rfl, tbX5, by decide, rfl, gw 88 (by decide +kernel) rfl, rfl, by decide +kernel⟩
theorem lfX5_19 : LkF RX5 19 5 1 := ⟨RX5, TX5, 6, rfl, tbX5, by decide, rfl, gw 84 (by decide +kernel) rfl⟩
theorem lpX5_19 : LkP RX5 19 5 1 .int := ⟨RX5, TX5, 6, rfl, tbX5, by decide, rfl, gw 84 (by decide +kernel) rfl, rfl, by decide +kernel⟩
theorem lfX5_27 : LkF RX5 27 5 2 := ⟨RX5, TX5, 6, rfl, tbX5, by decide, rfl, gw 87 (by decide +kernel) rfl⟩
theorem lpX5_27 : LkP RX5 27 5 2 .int := ⟨RX5, TX5, 6, rfl, tbX5, by decide, rfl, gw 87 (by decide +kernel) rfl, rfl, by decide +kernel⟩
theorem lfX5_30 : LkF RX5 30 5 4 := ⟨RX5, TX5, 6, rfl, tbX5, by decide, rfl, gw 90 (by decide +kernel) rfl⟩
theorem lpX5_30 : LkP RX5 30 5 4 .int := ⟨RX5, TX5, 6, rfl, tbX5, by decide, rfl, gw 90 (by decide +kernel) rfl, rfl, by decide +kernel⟩
theorem lfX5_47 : LkF RX5 47 4 8 := ⟨RX4, TX4, 12, rfl, tbX4, by decide, rfl, gw 257 (by decide +kernel) rfl⟩
theorem lpX5_47 : LkP RX5 47 4 8 .int := ⟨RX4, TX4, 12, rfl, tbX4, by decide, rfl, gw 257 (by decide +kernel) rfl, rfl, by decide +kernel⟩
theorem lfX5_65 : LkF RX5 65 4 9 := ⟨RX4, TX4, 12, rfl, tbX4, by decide, rfl, gw 263 (by decide +kernel) rfl⟩
theorem lpX5_65 : LkP RX5 65 4 9 .int := ⟨RX4, TX4, 12, rfl, tbX4, by decide, rfl, gw 263 (by decide +kernel) rfl, rfl, by decide +kernel⟩
theorem lfX5_68 : LkF RX5 68 4 11 := ⟨RX4, TX4, 12, rfl, tbX4, by decide, rfl, gw 270 (by decide +kernel) rfl⟩
theorem lpX5_68 : LkP RX5 68 4 11 .int := ⟨RX4, TX4, 12, rfl, tbX4, by decide, rfl, gw 270 (by decide +kernel) rfl, rfl, by decide +kernel⟩
theorem lfX5_71 : LkF RX5 71 4 10 := ⟨RX4, TX4, 12, rfl, tbX4, by decide, rfl, gw 266 (by decide +kernel) rfl⟩
theorem lpX5_71 : LkP RX5 71 4 10 .int := ⟨RX4, TX4, 12, rfl, tbX4, by decide, rfl, gw 266 (by decide +kernel) rfl, rfl, by decide +kernel⟩
theorem lfX5_82 : LkF RX5 82 5 5 := ⟨RX5, TX5, 6, rfl, tbX5, by decide, rfl, gw 91 (by decide +kernel) rfl⟩
theorem lpX5_82 : LkP RX5 82 5 5 .int := ⟨RX5, TX5, 6, rfl, tbX5, by decide, rfl, gw 91 (by decide +kernel) rfl, rfl, by decide +kernel⟩
theorem lfX5_9 : LkF RX5 9 5 0 := ⟨RX5, TX5, 6, rfl, tbX5, by decide, rfl, gw 83 (by decide +kernel) rfl⟩
theorem lfX6_15 : LkF RX6 15 6 3 := ⟨RX6, TX6, 6, rfl, tbX6, by decide, rfl, gw 191 (by decide +kernel) rfl⟩
theorem lpX6_15 : LkP RX6 15 6 3 .int := ⟨RX6, TX6, 6, rfl, tbX6, by decide, rfl, gw 191 (by decide +kernel) rfl, rfl, by decide +kernel⟩
theorem lfX6_18 : LkF RX6 18 6 4 := ⟨RX6, TX6, 6, rfl, tbX6, by decide, rfl, gw 192 (by decide +kernel) rfl⟩
theorem lpX6_18 : LkP RX6 18 6 4 .int := ⟨RX6, TX6, 6, rfl, tbX6, by decide, rfl, gw 192 (by decide +kernel) rfl, rfl, by decide +kernel⟩
theorem lfX6_21 : LkF RX6 21 6 5 := ⟨RX6, TX6, 6, rfl, tbX6, by decide, rfl, gw 193 (by decide +kernel) rfl⟩
theorem lpX6_21 : LkP RX6 21 6 5 .int := ⟨RX6, TX6, 6, rfl, tbX6, by decide, rfl, gw 193 (by decide +kernel) rfl, rfl, by decide +kernel⟩
theorem lfX6_24 : LkF RX6 24 6 1 := ⟨RX6, TX6, 6, rfl, tbX6, by decide, rfl, gw 188 (by decide +kernel) rfl⟩
theorem lpX6_24 : LkP RX6 24 6 1 .int := ⟨RX6, TX6, 6, rfl, tbX6, by decide, rfl, gw 188 (by decide +kernel) rfl, rfl, by decide +kernel⟩
theorem lfX6_31 : LkF RX6 31 6 0 := ⟨RX6, TX6, 6, rfl, tbX6, by decide, rfl, gw 186 (by decide +kernel) rfl⟩
theorem lpX6_31 : LkP RX6 31 6 0 .int := ⟨RX6, TX6, 6, rfl, tbX6, by decide, rfl, gw 186 (by decide +kernel) rfl, rfl, by decide +kernel⟩
theorem lfX6_9 : LkF RX6 9 6 2 := ⟨RX6, TX6, 6, rfl, tbX6, by decide, rfl, gw 190 (by decide +kernel) rfl⟩
theorem lpX6_9 : LkP RX6 9 6 2 .int := ⟨RX6, TX6, 6, rfl, tbX6, by decide, rfl, gw 190 (by decide +kernel) rfl, rfl, by decide +kernel⟩
theorem lfX7_15 : LkF RX7 15 7 1 := ⟨RX7, TX7, 2, rfl, tbX7, by decide, rfl, gw 174 (by decide +kernel) rfl⟩
theorem lpX7_15 : LkP RX7 15 7 1 .int := ⟨RX7, TX7, 2, rfl, tbX7, by decide, rfl, gw 174 (by decide +kernel) rfl, rfl, by decide +kernel⟩
theorem lfX7_9 : LkF RX7 9 7 0 := ⟨RX7, TX7, 2, rfl, tbX7, by decide, rfl, gw 173 (by decide +kernel) rfl⟩
theorem lpX7_9 : LkP RX7 9 7 0 .int := ⟨RX7, TX7, 2, rfl, tbX7, by decide, rfl, gw 173 (by decide +kernel) rfl, rfl, by decide +kernel⟩
theorem lfX8_104 : LkF RX8 104 0 2 := ⟨RX0, TX0, 3, rfl, tbX0, by decide, rfl, gw 142 (by decide +kernel) rfl⟩
theorem lpX8_104 : LkP RX8 104 0 2 .int := ⟨RX0, TX0, 3, rfl, tbX0, by decide, rfl, gw 142 (by decide +kernel) rfl, rfl, by decide +kernel⟩
theorem lfX8_107 : LkF RX8 107 8 11 := ⟨RX8, TX8, 12, rfl, tbX8, by decide, rfl, gw 308 (by decide +kernel) rfl⟩
theorem lpX8_107 : LkP RX8 107 8 11 .int := ⟨RX8, TX8, 12, rfl, tbX8, by decide, rfl, gw 308 (by decide +kernel) rfl, rfl, by decide +kernel⟩
theorem lfX8_110 : LkF RX8 110 4 9 := ⟨RX4, TX4, 12, rfl, tbX4, by decide, rfl, gw 260 (by decide +kernel) rfl⟩
theorem lpX8_110 : LkP RX8 110 4 9 .int := ⟨RX4, TX4, 12, rfl, tbX4, by decide, rfl, gw 260 (by decide +kernel) rfl, rfl, by decide +kernel⟩
theorem lfX8_113 : LkF RX8 113 5 3 := ⟨RX5, TX5, 6, rfl, tbX5, by decide, rfl, gw 89 (by decide +kernel) rfl⟩
theorem lpX8_113 : LkP RX8 113 5 3 .int := ⟨RX5, TX5, 6, rfl, tbX5, by decide, rfl, gw 89 (by decide +kernel) rfl, rfl, by decide +kernel⟩
theorem lfX8_116 : LkF RX8 116 4 8 := ⟨RX4, TX4, 12, rfl, tbX4, by decide, rfl, gw 258 (by decide +kernel) rfl⟩
theorem lpX8_116 : LkP RX8 116 4 8 .int := ⟨RX4, TX4, 12, rfl, tbX4, by decide, rfl, gw 258 (by decide +kernel) rfl, rfl, by decide +kernel⟩
theorem lfX8_119 : LkF RX8 119 4 10 := ⟨RX4, TX4, 12, rfl, tbX4, by decide, rfl, gw 265 (by decide +kernel) rfl⟩
theorem lpX8_119 : LkP RX8 119 4 10 .int := ⟨RX4, TX4, 12, rfl, tbX4, by decide, rfl, gw 265 (by decide +kernel) rfl, rfl, by decide +kernel⟩
theorem lfX8_12 : LkF RX8 12 8 0 := ⟨RX8, TX8, 12, rfl, tbX8, by decide, rfl, gw 297 (by decide +kernel) rfl⟩
theorem lfX8_122 : LkF RX8 122 4 11 := ⟨RX4, TX4, 12, rfl, tbX4, by decide, rfl, gw 269 (by decide +kernel) rfl⟩
theorem lpX8_122 : LkP RX8 122 4 11 .int := ⟨RX4, TX4, 12, rfl, tbX4, by decide, rfl, gw 269 (by decide +kernel) rfl, rfl, by decide +kernel⟩
theorem lfX8_128 : LkF RX8 128 1 2 := ⟨RX1, TX1, 4, rfl, tbX1, by decide, rfl, gw 119 (by decide +kernel) rfl⟩
theorem lpX8_128 : LkP RX8 128 1 2 .int := ⟨RX1, TX1, 4, rfl, tbX1, by decide, rfl, gw 119 (by decide +kernel) rfl, rfl, by decide +kernel⟩
theorem lfX8_139 : LkF RX8 139 4 2 := ⟨RX4, TX4, 12, rfl, tbX4, by decide, rfl, gw 248 (by decide +kernel) rfl⟩
theorem lfX8_142 : LkF RX8 142 4 3 := ⟨RX4, TX4, 12, rfl, tbX4, by decide, rfl, gw 250 (by decide +kernel) rfl⟩
theorem lfX8_145 : LkF RX8 145 1 0 := ⟨RX1, TX1, 4, rfl, tbX1, by decide, rfl, gw 113 (by decide +kernel) rfl⟩
theorem lfX8_155 : LkF RX8 155 1 1 := ⟨RX1, TX1, 4, rfl, tbX1, by decide, rfl, gw 115 (by decide +kernel) rfl⟩
theorem lfX8_19 : LkF RX8 19 8 1 := ⟨RX8, TX8, 12, rfl, tbX8, by decide, rfl, gw 298 (by decide +kernel) rfl⟩
theorem lfX8_202 : LkF RX8 202 2 2 := ⟨RX2, TX2, 3, rfl, tbX2, by decide, rfl, gw 159 (by decide +kernel) rfl⟩
theorem lpX8_202 : LkP RX8 202 2 2 .int := ⟨RX2, TX2, 3, rfl, tbX2, by decide, rfl, gw 159 (by decide +kernel) rfl, rfl, by decide +kernel⟩
theorem lfX8_228 : LkF RX8 228 6 0 := ⟨RX6, TX6, 6, rfl, tbX6, by decide, rfl, gw 187 (by decide +kernel) rfl⟩
theorem lpX8_228 : LkP RX8 228 6 0 .int := ⟨RX6, TX6, 6, rfl, tbX6, by decide, rfl, gw 187 (by decide +kernel) rfl, rfl, by decide +kernel⟩
theorem lfX8_23 : LkF RX8 23 8 2 := ⟨RX8, TX8, 12, rfl, tbX8, by decide, rfl, gw 299 (by decide +kernel) rfl⟩
theorem lfX8_231 : LkF RX8 231 6 1 := ⟨RX6, TX6, 6, rfl, tbX6, by decide, rfl, gw 189 (by decide +kernel) rfl⟩
theorem lpX8_231 : LkP RX8 231 6 1 .int := ⟨RX6, TX6, 6, rfl, tbX6, by decide, rfl, gw 189 (by decide +kernel) rfl, rfl, by decide +kernel⟩
theorem lfX8_237 : LkF RX8 237 3 0 := ⟨RX3, TX3, 7, rfl, tbX3, by decide, rfl, gw 214 (by decide +kernel) rfl⟩
theorem lpX8_237 : LkP RX8 237 3 0 .boolean := ⟨RX3, TX3, 7, rfl, tbX3, by decide, rfl, gw 214 (by decide +kernel) rfl, rfl, by decide +kernel⟩
theorem lfX8_241 : LkF RX8 241 3 1 := ⟨RX3, TX3, 7, rfl, tbX3, by decide, rfl, gw 216 (by decide +kernel) rfl⟩
theorem lpX8_241 : LkP RX8 241 3 1 .int := ⟨RX3, TX3, 7, rfl, tbX3, by decide, rfl, gw 216 (by decide +kernel) rfl, rfl, by decide +kernel⟩
theorem lfX8_244 : LkF RX8 244 3 2 := ⟨RX3, TX3, 7, rfl, tbX3, by decide, rfl, gw 218 (by decide +kernel) rfl⟩
theorem lfX8_266 : LkF RX8 266 1 3 := ⟨RX1, TX1, 4, rfl, tbX1, by decide, rfl, gw 121 (by decide +kernel) rfl⟩
theorem lpX8_266 : LkP RX8 266 1 3 .int := ⟨RX1, TX1, 4, rfl, tbX1, by decide, rfl, gw 121 (by decide +kernel) rfl, rfl, by decide +kernel⟩
theorem lfX8_30 : LkF RX8 30 8 3 := ⟨RX8, TX8, 12, rfl, tbX8, by decide, rfl, gw 300 (by decide +kernel) rfl⟩
theorem lfX8_37 : LkF RX8 37 8 4 := ⟨RX8, TX8, 12, rfl, tbX8, by decide, rfl, gw 301 (by decide +kernel) rfl⟩
theorem lfX8_44 : LkF RX8 44 8 5 := ⟨RX8, TX8, 12, rfl, tbX8, by decide, rfl, gw 302 (by decide +kernel) rfl⟩
theorem lfX8_51 : LkF RX8 51 8 6 := ⟨RX8, TX8, 12, rfl, tbX8, by decide, rfl, gw 303 (by decide +kernel) rfl⟩
theorem lfX8_58 : LkF RX8 58 8 7 := ⟨RX8, TX8, 12, rfl, tbX8, by decide, rfl, gw 304 (by decide +kernel) rfl⟩
theorem lfX8_62 : LkF RX8 62 8 8 := ⟨RX8, TX8, 12, rfl, tbX8, by decide, rfl, gw 305 (by decide +kernel) rfl⟩
theorem lfX8_69 : LkF RX8 69 8 9 := ⟨RX8, TX8, 12, rfl, tbX8, by decide, rfl, gw 306 (by decide +kernel) rfl⟩
theorem lpX8_69 : LkP RX8 69 8 9 (.object "StripFlag$Plan") := ⟨RX8, TX8, 12, rfl, tbX8, by decide, rfl, gw 306 (by decide +kernel) rfl, rfl, by decide +kernel⟩
theorem lfX8_73 : LkF RX8 73 8 10 := ⟨RX8, TX8, 12, rfl, tbX8, by decide, rfl, gw 307 (by decide +kernel) rfl⟩
theorem lpX8_73 : LkP RX8 73 8 10 (.object "StripFlag$Plan") := ⟨RX8, TX8, 12, rfl, tbX8, by decide, rfl, gw 307 (by decide +kernel) rfl, rfl, by decide +kernel⟩
theorem lfX8_86 : LkF RX8 86 5 1 := ⟨RX5, TX5, 6, rfl, tbX5, by decide, rfl, gw 85 (by decide +kernel) rfl⟩
theorem lpX8_86 : LkP RX8 86 5 1 .int := ⟨RX5, TX5, 6, rfl, tbX5, by decide, rfl, gw 85 (by decide +kernel) rfl, rfl, by decide +kernel⟩
theorem lfX8_94 : LkF RX8 94 5 2 := ⟨RX5, TX5, 6, rfl, tbX5, by decide, rfl, gw 86 (by decide +kernel) rfl⟩
theorem lpX8_94 : LkP RX8 94 5 2 .int := ⟨RX5, TX5, 6, rfl, tbX5, by decide, rfl, gw 86 (by decide +kernel) rfl, rfl, by decide +kernel⟩
theorem lfX9_103 : LkF RX9 103 9 4 := ⟨RX9, TX9, 40, rfl, tbX9, by decide, rfl, gw 874 (by decide +kernel) rfl⟩
theorem lpX9_103 : LkP RX9 103 9 4 .int := ⟨RX9, TX9, 40, rfl, tbX9, by decide, rfl, gw 874 (by decide +kernel) rfl, rfl, by decide +kernel⟩
theorem lfX9_106 : LkF RX9 106 9 5 := ⟨RX9, TX9, 40, rfl, tbX9, by decide, rfl, gw 875 (by decide +kernel) rfl⟩
theorem lpX9_106 : LkP RX9 106 9 5 .int := ⟨RX9, TX9, 40, rfl, tbX9, by decide, rfl, gw 875 (by decide +kernel) rfl, rfl, by decide +kernel⟩
theorem lfX9_109 : LkF RX9 109 9 3 := ⟨RX9, TX9, 40, rfl, tbX9, by decide, rfl, gw 873 (by decide +kernel) rfl⟩
theorem lpX9_109 : LkP RX9 109 9 3 .int := ⟨RX9, TX9, 40, rfl, tbX9, by decide, rfl, gw 873 (by decide +kernel) rfl, rfl, by decide +kernel⟩
theorem lfX9_13 : LkF RX9 13 9 7 := ⟨RX9, TX9, 40, rfl, tbX9, by decide, rfl, gw 877 (by decide +kernel) rfl⟩
theorem lfX9_132 : LkF RX9 132 9 6 := ⟨RX9, TX9, 40, rfl, tbX9, by decide, rfl, gw 876 (by decide +kernel) rfl⟩
theorem lpX9_132 : LkP RX9 132 9 6 .int := ⟨RX9, TX9, 40, rfl, tbX9, by decide, rfl, gw 876 (by decide +kernel) rfl, rfl, by decide +kernel⟩
theorem lfX9_16 : LkF RX9 16 9 8 := ⟨RX9, TX9, 40, rfl, tbX9, by decide, rfl, gw 878 (by decide +kernel) rfl⟩
theorem lfX9_180 : LkF RX9 180 9 14 := ⟨RX9, TX9, 40, rfl, tbX9, by decide, rfl, gw 884 (by decide +kernel) rfl⟩
theorem lpX9_180 : LkP RX9 180 9 14 .int := ⟨RX9, TX9, 40, rfl, tbX9, by decide, rfl, gw 884 (by decide +kernel) rfl, rfl, by decide +kernel⟩
theorem lfX9_183 : LkF RX9 183 9 13 := ⟨RX9, TX9, 40, rfl, tbX9, by decide, rfl, gw 883 (by decide +kernel) rfl⟩
theorem lpX9_183 : LkP RX9 183 9 13 .int := ⟨RX9, TX9, 40, rfl, tbX9, by decide, rfl, gw 883 (by decide +kernel) rfl, rfl, by decide +kernel⟩
theorem lfX9_186 : LkF RX9 186 9 15 := ⟨RX9, TX9, 40, rfl, tbX9, by decide, rfl, gw 885 (by decide +kernel) rfl⟩
theorem lpX9_186 : LkP RX9 186 9 15 .int := ⟨RX9, TX9, 40, rfl, tbX9, by decide, rfl, gw 885 (by decide +kernel) rfl, rfl, by decide +kernel⟩
theorem lfX9_189 : LkF RX9 189 9 16 := ⟨RX9, TX9, 40, rfl, tbX9, by decide, rfl, gw 886 (by decide +kernel) rfl⟩
theorem lpX9_189 : LkP RX9 189 9 16 .int := ⟨RX9, TX9, 40, rfl, tbX9, by decide, rfl, gw 886 (by decide +kernel) rfl, rfl, by decide +kernel⟩
theorem lfX9_19 : LkF RX9 19 9 9 := ⟨RX9, TX9, 40, rfl, tbX9, by decide, rfl, gw 879 (by decide +kernel) rfl⟩
theorem lfX9_192 : LkF RX9 192 9 24 := ⟨RX9, TX9, 40, rfl, tbX9, by decide, rfl, gw 894 (by decide +kernel) rfl⟩
theorem lpX9_192 : LkP RX9 192 9 24 .int := ⟨RX9, TX9, 40, rfl, tbX9, by decide, rfl, gw 894 (by decide +kernel) rfl, rfl, by decide +kernel⟩
theorem lfX9_195 : LkF RX9 195 9 36 := ⟨RX9, TX9, 40, rfl, tbX9, by decide, rfl, gw 906 (by decide +kernel) rfl⟩
theorem lpX9_195 : LkP RX9 195 9 36 .int := ⟨RX9, TX9, 40, rfl, tbX9, by decide, rfl, gw 906 (by decide +kernel) rfl, rfl, by decide +kernel⟩
theorem lfX9_22 : LkF RX9 22 9 10 := ⟨RX9, TX9, 40, rfl, tbX9, by decide, rfl, gw 880 (by decide +kernel) rfl⟩
theorem lfX9_237 : LkF RX9 237 9 25 := ⟨RX9, TX9, 40, rfl, tbX9, by decide, rfl, gw 895 (by decide +kernel) rfl⟩
theorem lpX9_237 : LkP RX9 237 9 25 .int := ⟨RX9, TX9, 40, rfl, tbX9, by decide, rfl, gw 895 (by decide +kernel) rfl, rfl, by decide +kernel⟩
theorem lfX9_25 : LkF RX9 25 9 11 := ⟨RX9, TX9, 40, rfl, tbX9, by decide, rfl, gw 881 (by decide +kernel) rfl⟩
theorem lfX9_271 : LkF RX9 271 9 30 := ⟨RX9, TX9, 40, rfl, tbX9, by decide, rfl, gw 900 (by decide +kernel) rfl⟩
theorem lpX9_271 : LkP RX9 271 9 30 .int := ⟨RX9, TX9, 40, rfl, tbX9, by decide, rfl, gw 900 (by decide +kernel) rfl, rfl, by decide +kernel⟩
theorem lfX9_28 : LkF RX9 28 9 12 := ⟨RX9, TX9, 40, rfl, tbX9, by decide, rfl, gw 882 (by decide +kernel) rfl⟩
theorem lfX9_282 : LkF RX9 282 9 35 := ⟨RX9, TX9, 40, rfl, tbX9, by decide, rfl, gw 905 (by decide +kernel) rfl⟩
theorem lpX9_282 : LkP RX9 282 9 35 .int := ⟨RX9, TX9, 40, rfl, tbX9, by decide, rfl, gw 905 (by decide +kernel) rfl, rfl, by decide +kernel⟩
theorem lfX9_31 : LkF RX9 31 9 17 := ⟨RX9, TX9, 40, rfl, tbX9, by decide, rfl, gw 887 (by decide +kernel) rfl⟩
theorem lfX9_34 : LkF RX9 34 9 18 := ⟨RX9, TX9, 40, rfl, tbX9, by decide, rfl, gw 888 (by decide +kernel) rfl⟩
theorem lfX9_37 : LkF RX9 37 9 19 := ⟨RX9, TX9, 40, rfl, tbX9, by decide, rfl, gw 889 (by decide +kernel) rfl⟩
theorem lfX9_40 : LkF RX9 40 9 20 := ⟨RX9, TX9, 40, rfl, tbX9, by decide, rfl, gw 890 (by decide +kernel) rfl⟩
theorem lfX9_43 : LkF RX9 43 9 21 := ⟨RX9, TX9, 40, rfl, tbX9, by decide, rfl, gw 891 (by decide +kernel) rfl⟩
theorem lfX9_46 : LkF RX9 46 9 22 := ⟨RX9, TX9, 40, rfl, tbX9, by decide, rfl, gw 892 (by decide +kernel) rfl⟩
theorem lfX9_49 : LkF RX9 49 9 23 := ⟨RX9, TX9, 40, rfl, tbX9, by decide, rfl, gw 893 (by decide +kernel) rfl⟩
theorem lfX9_52 : LkF RX9 52 9 26 := ⟨RX9, TX9, 40, rfl, tbX9, by decide, rfl, gw 896 (by decide +kernel) rfl⟩
theorem lfX9_56 : LkF RX9 56 9 27 := ⟨RX9, TX9, 40, rfl, tbX9, by decide, rfl, gw 897 (by decide +kernel) rfl⟩
theorem lfX9_59 : LkF RX9 59 9 28 := ⟨RX9, TX9, 40, rfl, tbX9, by decide, rfl, gw 898 (by decide +kernel) rfl⟩
theorem lfX9_62 : LkF RX9 62 9 29 := ⟨RX9, TX9, 40, rfl, tbX9, by decide, rfl, gw 899 (by decide +kernel) rfl⟩
theorem lfX9_65 : LkF RX9 65 9 31 := ⟨RX9, TX9, 40, rfl, tbX9, by decide, rfl, gw 901 (by decide +kernel) rfl⟩
theorem lfX9_68 : LkF RX9 68 9 32 := ⟨RX9, TX9, 40, rfl, tbX9, by decide, rfl, gw 902 (by decide +kernel) rfl⟩
theorem lfX9_7 : LkF RX9 7 9 0 := ⟨RX9, TX9, 40, rfl, tbX9, by decide, rfl, gw 870 (by decide +kernel) rfl⟩
theorem lfX9_71 : LkF RX9 71 9 33 := ⟨RX9, TX9, 40, rfl, tbX9, by decide, rfl, gw 903 (by decide +kernel) rfl⟩
theorem lfX9_74 : LkF RX9 74 9 34 := ⟨RX9, TX9, 40, rfl, tbX9, by decide, rfl, gw 904 (by decide +kernel) rfl⟩
theorem lfX9_77 : LkF RX9 77 9 37 := ⟨RX9, TX9, 40, rfl, tbX9, by decide, rfl, gw 907 (by decide +kernel) rfl⟩
theorem lfX9_80 : LkF RX9 80 9 38 := ⟨RX9, TX9, 40, rfl, tbX9, by decide, rfl, gw 908 (by decide +kernel) rfl⟩
theorem lfX9_83 : LkF RX9 83 9 39 := ⟨RX9, TX9, 40, rfl, tbX9, by decide, rfl, gw 909 (by decide +kernel) rfl⟩
theorem lfX9_86 : LkF RX9 86 9 2 := ⟨RX9, TX9, 40, rfl, tbX9, by decide, rfl, gw 872 (by decide +kernel) rfl⟩
theorem lpX9_86 : LkP RX9 86 9 2 .int := ⟨RX9, TX9, 40, rfl, tbX9, by decide, rfl, gw 872 (by decide +kernel) rfl, rfl, by decide +kernel⟩
theorem lfX9_97 : LkF RX9 97 9 1 := ⟨RX9, TX9, 40, rfl, tbX9, by decide, rfl, gw 871 (by decide +kernel) rfl⟩
theorem lpX9_97 : LkP RX9 97 9 1 .int := ⟨RX9, TX9, 40, rfl, tbX9, by decide, rfl, gw 871 (by decide +kernel) rfl, rfl, by decide +kernel⟩
theorem lmX0_22 : Cond.methodLink RX0 22 yX1_sewn ∈ GW := gw 845 (by decide +kernel) rfl
theorem lmX0_31 : Cond.methodLink RX0 31 yX4_unpickable ∈ GW := gw 846 (by decide +kernel) rfl
theorem lmX1_37 : Cond.methodLink RX1 37 yX1_holding ∈ GW := gw 506 (by decide +kernel) rfl
theorem lmX1_44 : Cond.methodLink RX1 44 yX4_priceOf ∈ GW := gw 514 (by decide +kernel) rfl
theorem lmX1_47 : Cond.methodLink RX1 47 yX1_looseSeams ∈ GW := gw 600 (by decide +kernel) rfl
theorem lmX1_61 : Cond.methodLink RX1 61 yX1_sewn ∈ GW := gw 604 (by decide +kernel) rfl
theorem lmX1_65 : Cond.methodLink RX1 65 yX4_seamsOf ∈ GW := gw 605 (by decide +kernel) rfl
theorem lmX1_73 : Cond.methodLink RX1 73 yX1_draw ∈ GW := gw 624 (by decide +kernel) rfl
theorem lmX1_79 : Cond.methodLink RX1 79 yX1_tryUnpick ∈ GW := gw 632 (by decide +kernel) rfl
theorem lmX1_83 : Cond.methodLink RX1 83 yX1_frayEnds ∈ GW := gw 638 (by decide +kernel) rfl
theorem lmX1_87 : Cond.methodLink RX1 87 yX4_hasSeam ∈ GW := gw 636 (by decide +kernel) rfl
theorem lmX1_91 : Cond.methodLink RX1 91 yX4_unpickable ∈ GW := gw 637 (by decide +kernel) rfl
theorem lmX2_18 : Cond.methodLink RX2 18 yX4_seamsOf ∈ GW := gw 646 (by decide +kernel) rfl
theorem lmX2_24 : Cond.methodLink RX2 24 yX4_allStrips ∈ GW := gw 647 (by decide +kernel) rfl
theorem lmX2_32 : Cond.methodLink RX2 32 yX4_crossing ∈ GW := gw 652 (by decide +kernel) rfl
theorem lmX2_35 : Cond.methodLink RX2 35 yX2_lesser ∈ GW := gw 653 (by decide +kernel) rfl
theorem lmX2_44 : Cond.methodLink RX2 44 yX1_sewn ∈ GW := gw 670 (by decide +kernel) rfl
theorem lmX2_56 : Cond.methodLink RX2 56 yX4_couldsCrossing ∈ GW := gw 671 (by decide +kernel) rfl
theorem lmX2_59 : Cond.methodLink RX2 59 yX2_addWeak ∈ GW := gw 675 (by decide +kernel) rfl
theorem lmX2_63 : Cond.methodLink RX2 63 yX2_isHeld ∈ GW := gw 687 (by decide +kernel) rfl
theorem lmX2_70 : Cond.methodLink RX2 70 yX4_threadOf ∈ GW := gw 700 (by decide +kernel) rfl
theorem lmX2_73 : Cond.methodLink RX2 73 yX2_isMended ∈ GW := gw 704 (by decide +kernel) rfl
theorem lmX3_24 : Cond.methodLink RX3 24 yX4_bordering ∈ GW := gw 767 (by decide +kernel) rfl
theorem lmX3_30 : Cond.methodLink RX3 30 yX3_look ∈ GW := gw 763 (by decide +kernel) rfl
theorem lmX3_42 : Cond.methodLink RX3 42 yX4_cheapest ∈ GW := gw 768 (by decide +kernel) rfl
theorem lmX3_48 : Cond.methodLink RX3 48 yX3_paintFrom ∈ GW := gw 775 (by decide +kernel) rfl
theorem lmX3_55 : Cond.methodLink RX3 55 yX4_hasStrip ∈ GW := gw 778 (by decide +kernel) rfl
theorem lmX3_59 : Cond.methodLink RX3 59 yX3_take ∈ GW := gw 779 (by decide +kernel) rfl
theorem lmX3_63 : Cond.methodLink RX3 63 yX4_allColours ∈ GW := gw 784 (by decide +kernel) rfl
theorem lmX3_66 : Cond.methodLink RX3 66 yX3_usedNear ∈ GW := gw 785 (by decide +kernel) rfl
theorem lmX3_74 : Cond.methodLink RX3 74 yX4_priceOf ∈ GW := gw 790 (by decide +kernel) rfl
theorem lmX3_88 : Cond.methodLink RX3 88 yX3_waysFrom ∈ GW := gw 812 (by decide +kernel) rfl
theorem lmX3_92 : Cond.methodLink RX3 92 yX3_ways ∈ GW := gw 824 (by decide +kernel) rfl
theorem lmX4_49 : Cond.methodLink RX4 49 yX4_allStrips ∈ GW := gw 665 (by decide +kernel) rfl
theorem lmX4_53 : Cond.methodLink RX4 53 yX4_allColours ∈ GW := gw 799 (by decide +kernel) rfl
theorem lmX4_56 : Cond.methodLink RX4 56 yX4_hasColour ∈ GW := gw 518 (by decide +kernel) rfl
theorem lmX4_70 : Cond.methodLink RX4 70 yX4_crossing ∈ GW := gw 546 (by decide +kernel) rfl
theorem lmX4_73 : Cond.methodLink RX4 73 yX4_bordering ∈ GW := gw 576 (by decide +kernel) rfl
theorem lmX4_76 : Cond.methodLink RX4 76 yX4_spread ∈ GW := gw 564 (by decide +kernel) rfl
theorem lmX5_102 : Cond.methodLink RX5 102 yX5_endOfRun ∈ GW := gw 380 (by decide +kernel) rfl
theorem lmX5_105 : Cond.methodLink RX5 105 yX5_signAt ∈ GW := gw 364 (by decide +kernel) rfl
theorem lmX5_110 : Cond.methodLink RX5 110 yX5_isWord ∈ GW := gw 385 (by decide +kernel) rfl
theorem lmX5_22 : Cond.methodLink RX5 22 yX4_clear ∈ GW := gw 356 (by decide +kernel) rfl
theorem lmX5_33 : Cond.methodLink RX5 33 yX5_skipBlanks ∈ GW := gw 360 (by decide +kernel) rfl
theorem lmX5_36 : Cond.methodLink RX5 36 yX5_sign ∈ GW := gw 368 (by decide +kernel) rfl
theorem lmX5_40 : Cond.methodLink RX5 40 yX5_readClause ∈ GW := gw 372 (by decide +kernel) rfl
theorem lmX5_44 : Cond.methodLink RX5 44 yX5_readWord ∈ GW := gw 376 (by decide +kernel) rfl
theorem lmX5_50 : Cond.methodLink RX5 50 yX5_fail ∈ GW := gw 441 (by decide +kernel) rfl
theorem lmX5_54 : Cond.methodLink RX5 54 yX5_isTooMany ∈ GW := gw 445 (by decide +kernel) rfl
theorem lmX5_58 : Cond.methodLink RX5 58 yX5_readColours ∈ GW := gw 448 (by decide +kernel) rfl
theorem lmX5_61 : Cond.methodLink RX5 61 yX5_readNumbers ∈ GW := gw 460 (by decide +kernel) rfl
theorem lmX5_74 : Cond.methodLink RX5 74 yX5_readNumber ∈ GW := gw 452 (by decide +kernel) rfl
theorem lmX5_78 : Cond.methodLink RX5 78 yX4_addColour ∈ GW := gw 456 (by decide +kernel) rfl
theorem lmX5_85 : Cond.methodLink RX5 85 yX5_readEnd ∈ GW := gw 464 (by decide +kernel) rfl
theorem lmX5_88 : Cond.methodLink RX5 88 yX5_addTold ∈ GW := gw 468 (by decide +kernel) rfl
theorem lmX5_92 : Cond.methodLink RX5 92 yX4_addStrip ∈ GW := gw 471 (by decide +kernel) rfl
theorem lmX5_95 : Cond.methodLink RX5 95 yX4_addCould ∈ GW := gw 475 (by decide +kernel) rfl
theorem lmX5_99 : Cond.methodLink RX5 99 yX4_addSeam ∈ GW := gw 479 (by decide +kernel) rfl
theorem lmX6_27 : Cond.methodLink RX6 27 yX6_worthAtEnd ∈ GW := gw 740 (by decide +kernel) rfl
theorem lmX6_34 : Cond.methodLink RX6 34 yX6_worthFrom ∈ GW := gw 750 (by decide +kernel) rfl
theorem lmX6_38 : Cond.methodLink RX6 38 yX4_unpickable ∈ GW := gw 753 (by decide +kernel) rfl
theorem lmX6_48 : Cond.methodLink RX6 48 yX6_mover ∈ GW := gw 745 (by decide +kernel) rfl
theorem lmX6_58 : Cond.methodLink RX6 58 yX4_flying ∈ GW := gw 744 (by decide +kernel) rfl
theorem lmX7_18 : Cond.methodLink RX7 18 yX4_flying ∈ GW := gw 725 (by decide +kernel) rfl
theorem lmX7_28 : Cond.methodLink RX7 28 yX7_partFlying ∈ GW := gw 722 (by decide +kernel) rfl
theorem lmX8_100 : Cond.methodLink RX8 100 yX4_allColours ∈ GW := gw 490 (by decide +kernel) rfl
theorem lmX8_125 : Cond.methodLink RX8 125 yX1_sewn ∈ GW := gw 502 (by decide +kernel) rfl
theorem lmX8_131 : Cond.methodLink RX8 131 yX1_cost ∈ GW := gw 510 (by decide +kernel) rfl
theorem lmX8_135 : Cond.methodLink RX8 135 yX4_hasSeam ∈ GW := gw 526 (by decide +kernel) rfl
theorem lmX8_148 : Cond.methodLink RX8 148 yX8_has ∈ GW := gw 531 (by decide +kernel) rfl
theorem lmX8_152 : Cond.methodLink RX8 152 yX4_hasStrip ∈ GW := gw 538 (by decide +kernel) rfl
theorem lmX8_157 : Cond.methodLink RX8 157 yX4_seamsOf ∈ GW := gw 542 (by decide +kernel) rfl
theorem lmX8_161 : Cond.methodLink RX8 161 yX4_bordering ∈ GW := gw 551 (by decide +kernel) rfl
theorem lmX8_164 : Cond.methodLink RX8 164 yX1_holding ∈ GW := gw 559 (by decide +kernel) rfl
theorem lmX8_168 : Cond.methodLink RX8 168 yX4_flying ∈ GW := gw 560 (by decide +kernel) rfl
theorem lmX8_171 : Cond.methodLink RX8 171 yX4_unpickable ∈ GW := gw 572 (by decide +kernel) rfl
theorem lmX8_181 : Cond.methodLink RX8 181 yX1_frayEnds ∈ GW := gw 596 (by decide +kernel) rfl
theorem lmX8_185 : Cond.methodLink RX8 185 yX4_hasColour ∈ GW := gw 615 (by decide +kernel) rfl
theorem lmX8_188 : Cond.methodLink RX8 188 yX1_passYear ∈ GW := gw 620 (by decide +kernel) rfl
theorem lmX8_191 : Cond.methodLink RX8 191 yX2_fewestSeams ∈ GW := gw 643 (by decide +kernel) rfl
theorem lmX8_195 : Cond.methodLink RX8 195 yX4_hasStrips ∈ GW := gw 661 (by decide +kernel) rfl
theorem lmX8_198 : Cond.methodLink RX8 198 yX2_findWeak ∈ GW := gw 666 (by decide +kernel) rfl
theorem lmX8_203 : Cond.methodLink RX8 203 yX2_fewestHems ∈ GW := gw 683 (by decide +kernel) rfl
theorem lmX8_206 : Cond.methodLink RX8 206 yX4_allStrips ∈ GW := gw 695 (by decide +kernel) rfl
theorem lmX8_209 : Cond.methodLink RX8 209 yX2_leastThread ∈ GW := gw 696 (by decide +kernel) rfl
theorem lmX8_212 : Cond.methodLink RX8 212 yX4_threadOf ∈ GW := gw 708 (by decide +kernel) rfl
theorem lmX8_215 : Cond.methodLink RX8 215 yX7_begin ∈ GW := gw 713 (by decide +kernel) rfl
theorem lmX8_218 : Cond.methodLink RX8 218 yX7_ofBillion ∈ GW := gw 717 (by decide +kernel) rfl
theorem lmX8_221 : Cond.methodLink RX8 221 yX6_begin ∈ GW := gw 732 (by decide +kernel) rfl
theorem lmX8_224 : Cond.methodLink RX8 224 yX6_play ∈ GW := gw 736 (by decide +kernel) rfl
theorem lmX8_234 : Cond.methodLink RX8 234 yX3_paintAnew ∈ GW := gw 759 (by decide +kernel) rfl
theorem lmX8_247 : Cond.methodLink RX8 247 yX4_hasColours ∈ GW := gw 795 (by decide +kernel) rfl
theorem lmX8_250 : Cond.methodLink RX8 250 yX3_lookBack ∈ GW := gw 804 (by decide +kernel) rfl
theorem lmX8_254 : Cond.methodLink RX8 254 yX3_ways ∈ GW := gw 808 (by decide +kernel) rfl
theorem lmX8_257 : Cond.methodLink RX8 257 yX3_onlyColour ∈ GW := gw 820 (by decide +kernel) rfl
theorem lmX8_260 : Cond.methodLink RX8 260 yX0_add ∈ GW := gw 829 (by decide +kernel) rfl
theorem lmX8_262 : Cond.methodLink RX8 262 yX0_firstWrong ∈ GW := gw 841 (by decide +kernel) rfl
theorem lmX8_269 : Cond.methodLink RX8 269 yX1_copy ∈ GW := gw 856 (by decide +kernel) rfl
theorem lmX8_77 : Cond.methodLink RX8 77 yX5_hasRoom ∈ GW := gw 339 (by decide +kernel) rfl
theorem lmX8_82 : Cond.methodLink RX8 82 yX5_add ∈ GW := gw 344 (by decide +kernel) rfl
theorem lmX8_90 : Cond.methodLink RX8 90 yX5_read ∈ GW := gw 352 (by decide +kernel) rfl
theorem lmX8_97 : Cond.methodLink RX8 97 yX1_begin ∈ GW := gw 483 (by decide +kernel) rfl
theorem lmL_100 : Cond.methodLink RL 100 yX9_colours ∈ GW := gw 1212 (by decide +kernel) rfl
theorem lmL_101 : Cond.methodLink RL 101 yX8_left ∈ GW := gw 791 (by decide +kernel) rfl
theorem lmL_104 : Cond.methodLink RL 104 yX9_left ∈ GW := gw 1224 (by decide +kernel) rfl
theorem lmL_105 : Cond.methodLink RL 105 yX8_fits ∈ GW := gw 800 (by decide +kernel) rfl
theorem lmL_108 : Cond.methodLink RL 108 yX9_fits ∈ GW := gw 1228 (by decide +kernel) rfl
theorem lmL_109 : Cond.methodLink RL 109 yX8_sure ∈ GW := gw 816 (by decide +kernel) rfl
theorem lmL_112 : Cond.methodLink RL 112 yX9_sure ∈ GW := gw 1232 (by decide +kernel) rfl
theorem lmL_113 : Cond.methodLink RL 113 yX8_write ∈ GW := gw 825 (by decide +kernel) rfl
theorem lmL_116 : Cond.methodLink RL 116 yX9_write ∈ GW := gw 1236 (by decide +kernel) rfl
theorem lmL_117 : Cond.methodLink RL 117 yX8_tear ∈ GW := gw 833 (by decide +kernel) rfl
theorem lmL_12 : Cond.methodLink RL 12 yX9_init ∈ GW := gw 866 (by decide +kernel) rfl
theorem lmL_120 : Cond.methodLink RL 120 yX9_tear ∈ GW := gw 1240 (by decide +kernel) rfl
theorem lmL_121 : Cond.methodLink RL 121 yX8_judge ∈ GW := gw 837 (by decide +kernel) rfl
theorem lmL_124 : Cond.methodLink RL 124 yX9_judge ∈ GW := gw 1244 (by decide +kernel) rfl
theorem lmL_125 : Cond.methodLink RL 125 yX8_seed ∈ GW := gw 848 (by decide +kernel) rfl
theorem lmL_128 : Cond.methodLink RL 128 yX9_seed ∈ GW := gw 1160 (by decide +kernel) rfl
theorem lmL_129 : Cond.methodLink RL 129 yX8_keep ∈ GW := gw 852 (by decide +kernel) rfl
theorem lmL_132 : Cond.methodLink RL 132 yX9_keep ∈ GW := gw 1248 (by decide +kernel) rfl
theorem lmL_133 : Cond.methodLink RL 133 yX8_goBack ∈ GW := gw 860 (by decide +kernel) rfl
theorem lmL_136 : Cond.methodLink RL 136 yX9_goBack ∈ GW := gw 1252 (by decide +kernel) rfl
theorem lmL_15 : Cond.methodLink RL 15 yX8_feed ∈ GW := gw 334 (by decide +kernel) rfl
theorem lmL_19 : Cond.methodLink RL 19 yX9_feed ∈ GW := gw 992 (by decide +kernel) rfl
theorem lmL_20 : Cond.methodLink RL 20 yX8_flag ∈ GW := gw 348 (by decide +kernel) rfl
theorem lmL_24 : Cond.methodLink RL 24 yX9_flag ∈ GW := gw 1003 (by decide +kernel) rfl
theorem lmL_25 : Cond.methodLink RL 25 yX8_fault ∈ GW := gw 494 (by decide +kernel) rfl
theorem lmL_28 : Cond.methodLink RL 28 yX9_fault ∈ GW := gw 1064 (by decide +kernel) rfl
theorem lmL_29 : Cond.methodLink RL 29 yX8_told ∈ GW := gw 498 (by decide +kernel) rfl
theorem lmL_33 : Cond.methodLink RL 33 yX9_told ∈ GW := gw 1068 (by decide +kernel) rfl
theorem lmL_34 : Cond.methodLink RL 34 yX8_seam ∈ GW := gw 522 (by decide +kernel) rfl
theorem lmL_38 : Cond.methodLink RL 38 yX9_seam ∈ GW := gw 1076 (by decide +kernel) rfl
theorem lmL_39 : Cond.methodLink RL 39 yX8_strip ∈ GW := gw 534 (by decide +kernel) rfl
theorem lmL_42 : Cond.methodLink RL 42 yX9_strip ∈ GW := gw 1086 (by decide +kernel) rfl
theorem lmL_43 : Cond.methodLink RL 43 yX8_flies ∈ GW := gw 555 (by decide +kernel) rfl
theorem lmL_46 : Cond.methodLink RL 46 yX9_flies ∈ GW := gw 1106 (by decide +kernel) rfl
theorem lmL_47 : Cond.methodLink RL 47 yX8_unpick ∈ GW := gw 568 (by decide +kernel) rfl
theorem lmL_50 : Cond.methodLink RL 50 yX9_unpick ∈ GW := gw 1115 (by decide +kernel) rfl
theorem lmL_51 : Cond.methodLink RL 51 yX8_sew ∈ GW := gw 584 (by decide +kernel) rfl
theorem lmL_54 : Cond.methodLink RL 54 yX9_sew ∈ GW := gw 1127 (by decide +kernel) rfl
theorem lmL_55 : Cond.methodLink RL 55 yX8_hem ∈ GW := gw 588 (by decide +kernel) rfl
theorem lmL_59 : Cond.methodLink RL 59 yX9_hem ∈ GW := gw 1131 (by decide +kernel) rfl
theorem lmL_60 : Cond.methodLink RL 60 yX8_fray ∈ GW := gw 592 (by decide +kernel) rfl
theorem lmL_63 : Cond.methodLink RL 63 yX9_fray ∈ GW := gw 1135 (by decide +kernel) rfl
theorem lmL_64 : Cond.methodLink RL 64 yX8_dye ∈ GW := gw 611 (by decide +kernel) rfl
theorem lmL_67 : Cond.methodLink RL 67 yX9_dye ∈ GW := gw 1143 (by decide +kernel) rfl
theorem lmL_68 : Cond.methodLink RL 68 yX8_drift ∈ GW := gw 616 (by decide +kernel) rfl
theorem lmL_71 : Cond.methodLink RL 71 yX9_drift ∈ GW := gw 1147 (by decide +kernel) rfl
theorem lmL_72 : Cond.methodLink RL 72 yX8_cut ∈ GW := gw 639 (by decide +kernel) rfl
theorem lmL_75 : Cond.methodLink RL 75 yX9_cut ∈ GW := gw 1164 (by decide +kernel) rfl
theorem lmL_76 : Cond.methodLink RL 76 yX8_lasts ∈ GW := gw 657 (by decide +kernel) rfl
theorem lmL_79 : Cond.methodLink RL 79 yX9_lasts ∈ GW := gw 1168 (by decide +kernel) rfl
theorem lmL_80 : Cond.methodLink RL 80 yX8_hems ∈ GW := gw 679 (by decide +kernel) rfl
theorem lmL_83 : Cond.methodLink RL 83 yX9_hems ∈ GW := gw 1180 (by decide +kernel) rfl
theorem lmL_84 : Cond.methodLink RL 84 yX8_thread ∈ GW := gw 691 (by decide +kernel) rfl
theorem lmL_87 : Cond.methodLink RL 87 yX9_thread ∈ GW := gw 1185 (by decide +kernel) rfl
theorem lmL_88 : Cond.methodLink RL 88 yX8_odds ∈ GW := gw 709 (by decide +kernel) rfl
theorem lmL_9 : Cond.methodLink RL 9 yX8_init ∈ GW := gw 71 (by decide +kernel) rfl
theorem lmL_91 : Cond.methodLink RL 91 yX9_odds ∈ GW := gw 1189 (by decide +kernel) rfl
theorem lmL_92 : Cond.methodLink RL 92 yX8_turnsOf ∈ GW := gw 728 (by decide +kernel) rfl
theorem lmL_96 : Cond.methodLink RL 96 yX9_turnsOf ∈ GW := gw 1195 (by decide +kernel) rfl
theorem lmL_97 : Cond.methodLink RL 97 yX8_colours ∈ GW := gw 755 (by decide +kernel) rfl
theorem lmX9_112 : Cond.methodLink RX9 112 yX9_here ∈ GW := gw 1011 (by decide +kernel) rfl
theorem lmX9_124 : Cond.methodLink RX9 124 yX9_fails ∈ GW := gw 1035 (by decide +kernel) rfl
theorem lmX9_128 : Cond.methodLink RX9 128 yX9_isFigure ∈ GW := gw 1047 (by decide +kernel) rfl
theorem lmX9_135 : Cond.methodLink RX9 135 yX9_isLetter ∈ GW := gw 1023 (by decide +kernel) rfl
theorem lmX9_152 : Cond.methodLink RX9 152 yX9_number ∈ GW := gw 1043 (by decide +kernel) rfl
theorem lmX9_156 : Cond.methodLink RX9 156 yX9_must ∈ GW := gw 1052 (by decide +kernel) rfl
theorem lmX9_160 : Cond.methodLink RX9 160 yX9_word ∈ GW := gw 1019 (by decide +kernel) rfl
theorem lmX9_163 : Cond.methodLink RX9 163 yX9_readColours ∈ GW := gw 1039 (by decide +kernel) rfl
theorem lmX9_166 : Cond.methodLink RX9 166 yX9_readSeam ∈ GW := gw 1056 (by decide +kernel) rfl
theorem lmX9_169 : Cond.methodLink RX9 169 yX9_isEnd ∈ GW := gw 1007 (by decide +kernel) rfl
theorem lmX9_173 : Cond.methodLink RX9 173 yX9_readClause ∈ GW := gw 1015 (by decide +kernel) rfl
theorem lmX9_177 : Cond.methodLink RX9 177 yX9_takes ∈ GW := gw 1060 (by decide +kernel) rfl
theorem lmX9_198 : Cond.methodLink RX9 198 yX9_there ∈ GW := gw 1072 (by decide +kernel) rfl
theorem lmX9_202 : Cond.methodLink RX9 202 yX9_isSeam ∈ GW := gw 1080 (by decide +kernel) rfl
theorem lmX9_208 : Cond.methodLink RX9 208 yX9_isOn ∈ GW := gw 1098 (by decide +kernel) rfl
theorem lmX9_212 : Cond.methodLink RX9 212 yX9_isStrip ∈ GW := gw 1090 (by decide +kernel) rfl
theorem lmX9_215 : Cond.methodLink RX9 215 yX9_seamsOf ∈ GW := gw 1094 (by decide +kernel) rfl
theorem lmX9_218 : Cond.methodLink RX9 218 yX9_borders ∈ GW := gw 1102 (by decide +kernel) rfl
theorem lmX9_223 : Cond.methodLink RX9 223 yX9_flying ∈ GW := gw 1111 (by decide +kernel) rfl
theorem lmX9_226 : Cond.methodLink RX9 226 yX9_mayUnpick ∈ GW := gw 1119 (by decide +kernel) rfl
theorem lmX9_231 : Cond.methodLink RX9 231 yX9_size ∈ GW := gw 1124 (by decide +kernel) rfl
theorem lmX9_234 : Cond.methodLink RX9 234 yX9_frays ∈ GW := gw 1139 (by decide +kernel) rfl
theorem lmX9_249 : Cond.methodLink RX9 249 yX9_draws ∈ GW := gw 1152 (by decide +kernel) rfl
theorem lmX9_252 : Cond.methodLink RX9 252 yX9_areStrips ∈ GW := gw 1172 (by decide +kernel) rfl
theorem lmX9_255 : Cond.methodLink RX9 255 yX9_doLast ∈ GW := gw 1176 (by decide +kernel) rfl
theorem lmX9_264 : Cond.methodLink RX9 264 yX9_opens ∈ GW := gw 1204 (by decide +kernel) rfl
theorem lmX9_267 : Cond.methodLink RX9 267 yX9_worth ∈ GW := gw 1208 (by decide +kernel) rfl
theorem lmX9_276 : Cond.methodLink RX9 276 yX9_plays ∈ GW := gw 1200 (by decide +kernel) rfl
theorem lmX9_279 : Cond.methodLink RX9 279 yX9_isApart ∈ GW := gw 1220 (by decide +kernel) rfl
theorem lmX9_285 : Cond.methodLink RX9 285 yX9_rows ∈ GW := gw 1216 (by decide +kernel) rfl
theorem lmX9_92 : Cond.methodLink RX9 92 yX9_in ∈ GW := gw 997 (by decide +kernel) rfl
theorem lnX0_37 : Cond.methodLinkNest RX0 37 yX8_has "StripFlag" ∈ NL := nl 796 (by decide +kernel) rfl
theorem lnX1_51 : Cond.methodLinkNest RX1 51 yX8_has "StripFlag" ∈ NL := nl 556 (by decide +kernel) rfl
theorem lnX2_28 : Cond.methodLinkNest RX2 28 yX8_has "StripFlag" ∈ NL := nl 600 (by decide +kernel) rfl
theorem lnX3_70 : Cond.methodLinkNest RX3 70 yX8_has "StripFlag" ∈ NL := nl 738 (by decide +kernel) rfl
theorem lnX4_66 : Cond.methodLinkNest RX4 66 yX8_has "StripFlag" ∈ NL := nl 499 (by decide +kernel) rfl
theorem lnX6_44 : Cond.methodLinkNest RX6 44 yX8_has "StripFlag" ∈ NL := nl 698 (by decide +kernel) rfl
theorem lnX7_24 : Cond.methodLinkNest RX7 24 yX8_has "StripFlag" ∈ NL := nl 675 (by decide +kernel) rfl
theorem lnX8_11 : Cond.methodLinkNest RX8 11 yX5_init "StripFlag" ∈ NL := nl 28 (by decide +kernel) rfl
theorem lnX8_18 : Cond.methodLinkNest RX8 18 yX1_init "StripFlag" ∈ NL := nl 57 (by decide +kernel) rfl
theorem lnX8_29 : Cond.methodLinkNest RX8 29 yX0_init "StripFlag" ∈ NL := nl 84 (by decide +kernel) rfl
theorem lnX8_36 : Cond.methodLinkNest RX8 36 yX2_init "StripFlag" ∈ NL := nl 101 (by decide +kernel) rfl
theorem lnX8_43 : Cond.methodLinkNest RX8 43 yX7_init "StripFlag" ∈ NL := nl 118 (by decide +kernel) rfl
theorem lnX8_50 : Cond.methodLinkNest RX8 50 yX6_init "StripFlag" ∈ NL := nl 131 (by decide +kernel) rfl
theorem lnX8_57 : Cond.methodLinkNest RX8 57 yX3_init "StripFlag" ∈ NL := nl 158 (by decide +kernel) rfl
theorem lnX8_68 : Cond.methodLinkNest RX8 68 yX4_init "StripFlag" ∈ NL := nl 189 (by decide +kernel) rfl
end
section
/-! numbers and sets of bits: nI n with n a Nat; sets as Nats by testBit -/
theorem nI_bv (n : Nat) : (nI n).toBitVec = BitVec.ofNat 32 n := rfl
theorem i32_ext {x y : Int32} (h : x.toBitVec = y.toBitVec) : x = y := Int32.toBitVec_inj.mp h
theorem nI_and (a b : Nat) : nI a &&& nI b = nI (a &&& b) := by
  apply i32_ext
  rw [Int32.toBitVec_and, nI_bv, nI_bv, nI_bv]
  apply BitVec.eq_of_getLsbD_eq
  intro i hi
  simp [BitVec.getLsbD_and, BitVec.getLsbD_ofNat, hi]
theorem nI_or (a b : Nat) : nI a ||| nI b = nI (a ||| b) := by
  apply i32_ext
  rw [Int32.toBitVec_or, nI_bv, nI_bv, nI_bv]
  apply BitVec.eq_of_getLsbD_eq
  intro i hi
  simp [BitVec.getLsbD_or, BitVec.getLsbD_ofNat, hi]
theorem nI_xor (a b : Nat) : nI a ^^^ nI b = nI (a ^^^ b) := by
  apply i32_ext
  rw [Int32.toBitVec_xor, nI_bv, nI_bv, nI_bv]
  apply BitVec.eq_of_getLsbD_eq
  intro i hi
  simp [BitVec.getLsbD_xor, BitVec.getLsbD_ofNat, hi]
/-- a without b -/
def andn (a b : Nat) : Nat := a ^^^ (a &&& b)
theorem andn_tb (a b i : Nat) : (andn a b).testBit i = (a.testBit i && !b.testBit i) := by
  unfold andn
  rw [Nat.testBit_xor, Nat.testBit_and]
  cases a.testBit i <;> cases b.testBit i <;> rfl
theorem nI_andn (a b : Nat) : nI a &&& (nI b ^^^ (-1)) = nI (andn a b) := by
  apply i32_ext
  rw [Int32.toBitVec_and, Int32.toBitVec_xor, nI_bv, nI_bv, nI_bv]
  apply BitVec.eq_of_getLsbD_eq
  intro i hi
  have h1 : (Int32.toBitVec (-1)).getLsbD i = true := by
    have : (Int32.toBitVec (-1)) = BitVec.allOnes 32 := by decide
    rw [this, BitVec.getLsbD_allOnes]; simp [hi]
  rw [BitVec.getLsbD_and, BitVec.getLsbD_xor, h1, BitVec.getLsbD_ofNat, BitVec.getLsbD_ofNat, BitVec.getLsbD_ofNat, andn_tb]
  simp [hi]
theorem sh31 {s : Nat} (h : s < 32) : nI s &&& 31 = nI s := by
  rw [show (31 : Int32) = nI 31 from rfl, nI_and]
  congr 1
  rw [show (31 : Nat) = 2 ^ 5 - 1 from rfl, Nat.and_two_pow_sub_one_eq_mod]
  omega
theorem nI_shl {a s : Nat} (h : s < 32) : nI a <<< (nI s &&& 31) = nI (a * 2 ^ s) := by
  rw [sh31 h]
  apply i32_ext
  have h0 : ((nI s).toBitVec.smod 32).toNat = s := by
    have : ∀ s, s < 32 → ((nI s).toBitVec.smod 32).toNat = s := by decide +kernel
    exact this s h
  apply BitVec.eq_of_toNat_eq
  rw [pk_shl (nI a) (nI s) s h0, nI_bv, nI_bv, BitVec.toNat_ofNat, BitVec.toNat_ofNat, Nat.mod_mul_mod]
theorem nI_shr {a s : Nat} (ha : a < 2 ^ 31) (h : s < 32) : nI a >>> (nI s &&& 31) = nI (a / 2 ^ s) := by
  rw [sh31 h]
  have h0 : ((nI s).toBitVec.smod 32).toNat = s := by
    have : ∀ s, s < 32 → ((nI s).toBitVec.smod 32).toNat = s := by decide +kernel
    exact this s h
  exact pk_shrN ha (nI s) s h0
theorem nI_one_and {a s : Nat} (ha : a < 2 ^ 31) (h : s < 32) : (nI a >>> (nI s &&& 31)) &&& nI 1 = nI (if a.testBit s then 1 else 0) := by
  rw [nI_shr ha h, nI_and, Nat.and_one_is_mod]
  congr 1
  rw [Nat.testBit, Nat.shiftRight_eq_div_pow]
  rcases Nat.mod_two_eq_zero_or_one (a / 2 ^ s) with h | h <;> simp [Nat.and_comm 1, Nat.and_one_is_mod, h]
theorem tb_lt {a n : Nat} (h : a < 2 ^ n) {i : Nat} (hi : n ≤ i) : a.testBit i = false := Nat.testBit_lt_two_pow (Nat.lt_of_lt_of_le h (Nat.pow_le_pow_right (by decide) hi))
/-- the set of those below n that have p -/
def bs (n : Nat) (p : Nat → Bool) : Nat := match n with
  | 0 => 0
  | k + 1 => bs k p ||| (if p k then 2 ^ k else 0)
theorem bs_tb (p : Nat → Bool) : ∀ (n i : Nat), (bs n p).testBit i = (decide (i < n) && p i)
  | 0, i => by simp [bs]
  | n + 1, i => by
    show (bs n p ||| _).testBit i = _
    rw [Nat.testBit_or, bs_tb p n i]
    by_cases h : i = n
    · subst h
      cases hp : p i <;> simp [hp, Nat.testBit_two_pow_self]
    · have h2 : (if p n then 2 ^ n else 0 : Nat).testBit i = false := by
        cases p n <;> simp [Nat.testBit_two_pow, Ne.symm h]
      rw [h2]
      have : decide (i < n + 1) = decide (i < n) := by
        by_cases h3 : i < n
        · simp [h3]; omega
        · simp [h3]; omega
      rw [this]; simp
theorem bs_lt (p : Nat → Bool) (n : Nat) : bs n p < 2 ^ n := by
  apply Nat.lt_pow_two_of_testBit
  intro i hi
  rw [bs_tb]
  simp; omega
theorem bs_succ (p : Nat → Bool) (n : Nat) : bs (n + 1) p = bs n p ||| (if p n then 2 ^ n else 0) := rfl
theorem bs_t {p : Nat → Bool} {n : Nat} (h : p n = true) : bs (n + 1) p = bs n p ||| 2 ^ n := by rw [bs_succ, h]; rfl
theorem bs_f {p : Nat → Bool} {n : Nat} (h : p n = false) : bs (n + 1) p = bs n p := by rw [bs_succ, h]; simp
theorem bs_congr {p q : Nat → Bool} {n : Nat} (h : ∀ i, i < n → p i = q i) : bs n p = bs n q := by
  apply Nat.eq_of_testBit_eq
  intro i
  rw [bs_tb, bs_tb]
  by_cases hi : i < n
  · rw [h i hi]
  · simp [hi]
theorem bs_self {a n : Nat} (h : a < 2 ^ n) : bs n a.testBit = a := by
  apply Nat.eq_of_testBit_eq
  intro i
  rw [bs_tb]
  by_cases hi : i < n
  · simp [hi]
  · simp [hi, tb_lt h (Nat.not_lt.mp hi)]
theorem set_ext {a b n : Nat} (ha : a < 2 ^ n) (hb : b < 2 ^ n) (h : ∀ i, i < n → a.testBit i = b.testBit i) : a = b := by
  apply Nat.eq_of_testBit_eq
  intro i
  by_cases hi : i < n
  · exact h i hi
  · rw [tb_lt ha (by omega), tb_lt hb (by omega)]
theorem ne0_tb {a : Nat} (h : a ≠ 0) : ∃ i, a.testBit i = true := Nat.exists_testBit_of_ne_zero h
theorem eq0_tb {a : Nat} : a = 0 ↔ ∀ i, a.testBit i = false := ⟨fun h i => by rw [h]; simp, fun h => Nat.eq_of_testBit_eq (fun i => by rw [h i]; simp)⟩
/-- a counted loop -/
theorem loopUp {σ : Type} (W : Nat → σ → Prop) (I : Nat → σ → Prop) (e : Nat) (hx : ∀ s, I e s → W e s) (hs : ∀ i s, i < e → I i s → (∀ s', I (i + 1) s' → W (i + 1) s') → W i s) : ∀ i s, i ≤ e → I i s → W i s := by
  have key : ∀ n i s, i + n = e → I i s → W i s := by
    intro n
    induction n with
    | zero => intro i s h hI; have : i = e := by omega
              subst this; exact hx s hI
    | succ n ih => intro i s h hI; exact hs i s (by omega) hI (fun s' h' => ih (i + 1) s' (by omega) h')
  intro i s h hI
  exact key (e - i) i s (by omega) hI
theorem loopUp1 (W : Nat → Prop) (e : Nat) (hx : W e) (hs : ∀ i, i < e → W (i + 1) → W i) : ∀ i, i ≤ e → W i := by
  have key : ∀ n i, i + n = e → W i := by
    intro n
    induction n with
    | zero => intro i h; have : i = e := by omega
              subst this; exact hx
    | succ n ih => intro i h; exact hs i (by omega) (ih (i + 1) (by omega))
  intro i h
  exact key (e - i) i (by omega)
/-! contracts' ends, and the calls that read -/
abbrev RV (v : Value) (h : List va_E) : Option Value → List va_E → Prop := fun r h2 => r = some v ∧ h2 = h
abbrev RU (h : List va_E) : Option Value → List va_E → Prop := fun r h2 => r = none ∧ h2 = h
theorem pb_same : ∀ (is : List Nat) (es hs : List va_E), is.map (fun i => hs[i]?) = es.map some → pb is es hs = hs
  | [], _, _, _ => rfl
  | _ :: _, [], _, _ => rfl
  | i :: is, e :: es, hs, h => by
    show pb is es (hs.set i e) = hs
    have h1 : hs[i]? = some e := by simpa using congrArg List.head? h
    have h2 : is.map (fun i => hs[i]?) = es.map some := by simpa using congrArg List.tail h
    obtain ⟨hl, he⟩ := List.getElem?_eq_some_iff.mp h1
    have h3 : hs.set i e = hs := by rw [← he, List.set_getElem_self]
    rw [h3]
    exact pb_same is es hs h2
theorem Cut.same {is : List Nat} {hc hs : List va_E} (h : Cut is hc hs) : pb is (hc.map (te (fun t => t) (rn is))) hs = hs := pb_same is _ hs (by rw [h.2, List.map_map]; rfl)
section CLX
variable {l : Launch} {cc : ByteArray} {own : String} {nL : Nat} {R : Room} {K : AK} {pc : Nat} {ls : AL} {st stk : List Value} {hs hc : List va_E}
variable {y : MethodName} {bytes : ByteArray} {maxL n d idx : Nat} {ret : Option FieldType} {As : List Value} {v : Int32}
theorem Cl.loc (h : Cl l cc own nL R K) {ls2 : AL} (hsub : ls2.map (fun q => lk ls q.1) = ls2.map (fun q => some q.2)) (kk : K pc ls2 st hs) : K pc ls st hs := by
  refine h.locals (fun q hq => ?_) kk
  obtain ⟨i, hi⟩ := List.getElem?_of_mem hq
  have := congrArg (fun l => l[i]?) hsub
  simp only [List.getElem?_map, hi, Option.map_some] at this
  exact Option.some.inj this
theorem Cl.rdV (h : Cl l cc own nL R K) {b ci : Nat} {fs : List Value} (is : List Nat) (hd : decode cc pc = .ok (.invokevirtual idx, 3)) (hlk : Cond.methodLink own idx y ∈ GW) (hm : MK y bytes maxL ret n) (hiv : Cond.instanceMethod y ∈ GW ∧ Cond.selects y.cls y y ∈ GW)
    (hct : Ct l d y bytes maxL ret (.ref b :: As) hc (RV (.int v) hc)) (hR : rmOk d maxL R) (hlen : As.length = n) (hstk : stk = (As.map (tv (rn is))).reverse ++ .ref (rn is b) :: st) (hcat : (st.map fun v => v.category).sum ≤ 8) (hcut : Cut is hc hs) (hrc : hc[b]? = some (.inr (ci, fs))) (hcl : (vwCl[ci]?).map (fun q => q.1) = some y.cls)
    (k : K (pc + 3) ls (.int v :: st) hs) : K pc ls stk hs := by
  refine h.callV is hd hlk hm hiv hct hR hlen hstk hcat hcut hrc hcl (fun r hc2 hp hl => ?_)
  obtain ⟨rfl, rfl⟩ := hp
  rw [hcut.same]
  exact k
theorem Cl.rdS (h : Cl l cc own nL R K) (is : List Nat) (hd : decode cc pc = .ok (.invokestatic idx, 3)) (hlk : Cond.methodLink own idx y ∈ GW) (hm : MK y bytes maxL ret n) (hst : Cond.static y ∈ GW)
    (hct : Ct l d y bytes maxL ret As hc (RV (.int v) hc)) (hR : rmOk d maxL R) (hlen : As.length = n) (hstk : stk = (As.map (tv (rn is))).reverse ++ st) (hcat : (st.map fun v => v.category).sum ≤ 8) (hcut : Cut is hc hs)
    (k : K (pc + 3) ls (.int v :: st) hs) : K pc ls stk hs := by
  refine h.callS is hd hlk hm hst hct hR hlen hstk hcat hcut (fun r hc2 hp hl => ?_)
  obtain ⟨rfl, rfl⟩ := hp
  rw [hcut.same]
  exact k
theorem Cl.rdSN (h : Cl l cc own nL R K) {host : String} (is : List Nat) (hd : decode cc pc = .ok (.invokestatic idx, 3)) (hlk : Cond.methodLinkNest own idx y host ∈ NL) (hm : MK y bytes maxL ret n) (hst : Cond.static y ∈ GW)
    (hct : Ct l d y bytes maxL ret As hc (RV (.int v) hc)) (hR : rmOk d maxL R) (hlen : As.length = n) (hstk : stk = (As.map (tv (rn is))).reverse ++ st) (hcat : (st.map fun v => v.category).sum ≤ 8) (hcut : Cut is hc hs)
    (k : K (pc + 3) ls (.int v :: st) hs) : K pc ls stk hs := by
  refine h.callSN is hd hlk hm hst hct hR hlen hstk hcat hcut (fun r hc2 hp hl => ?_)
  obtain ⟨rfl, rfl⟩ := hp
  rw [hcut.same]
  exact k
theorem Cl.wrV (h : Cl l cc own nL R K) {b ci : Nat} {fs : List Value} {hc2 hs2 : List va_E} (is : List Nat) (hd : decode cc pc = .ok (.invokevirtual idx, 3)) (hlk : Cond.methodLink own idx y ∈ GW) (hm : MK y bytes maxL ret n) (hiv : Cond.instanceMethod y ∈ GW ∧ Cond.selects y.cls y y ∈ GW)
    (hct : Ct l d y bytes maxL ret (.ref b :: As) hc (RV (.int v) hc2)) (hR : rmOk d maxL R) (hlen : As.length = n) (hstk : stk = (As.map (tv (rn is))).reverse ++ .ref (rn is b) :: st) (hcat : (st.map fun v => v.category).sum ≤ 8) (hcut : Cut is hc hs) (hrc : hc[b]? = some (.inr (ci, fs))) (hcl : (vwCl[ci]?).map (fun q => q.1) = some y.cls) (hpb : pb is (hc2.map (te (fun t => t) (rn is))) hs = hs2)
    (k : K (pc + 3) ls (.int v :: st) hs2) : K pc ls stk hs := by
  refine h.callV is hd hlk hm hiv hct hR hlen hstk hcat hcut hrc hcl (fun r hc3 hp hl => ?_)
  obtain ⟨rfl, rfl⟩ := hp
  rw [hpb]
  exact k
theorem Cl.wuV (h : Cl l cc own nL R K) {b ci : Nat} {fs : List Value} {hc2 hs2 : List va_E} (is : List Nat) (hd : decode cc pc = .ok (.invokevirtual idx, 3)) (hlk : Cond.methodLink own idx y ∈ GW) (hm : MK y bytes maxL ret n) (hiv : Cond.instanceMethod y ∈ GW ∧ Cond.selects y.cls y y ∈ GW)
    (hct : Ct l d y bytes maxL ret (.ref b :: As) hc (RU hc2)) (hR : rmOk d maxL R) (hlen : As.length = n) (hstk : stk = (As.map (tv (rn is))).reverse ++ .ref (rn is b) :: st) (hcat : (st.map fun v => v.category).sum ≤ 8) (hcut : Cut is hc hs) (hrc : hc[b]? = some (.inr (ci, fs))) (hcl : (vwCl[ci]?).map (fun q => q.1) = some y.cls) (hpb : pb is (hc2.map (te (fun t => t) (rn is))) hs = hs2)
    (k : K (pc + 3) ls st hs2) : K pc ls stk hs := by
  refine h.callV is hd hlk hm hiv hct hR hlen hstk hcat hcut hrc hcl (fun r hc3 hp hl => ?_)
  obtain ⟨rfl, rfl⟩ := hp
  rw [hpb]
  exact k
end CLX
end
section
/-! the walk's rules over numbers nI n, n a Nat -/
theorem and_b {a b N : Nat} (h : a < N) : a &&& b < N := Nat.lt_of_le_of_lt Nat.and_le_left h
theorem and_b2 {a b N : Nat} (h : b < N) : a &&& b < N := Nat.lt_of_le_of_lt Nat.and_le_right h
theorem andn_le (a b : Nat) : andn a b ≤ a := by
  apply Nat.le_of_not_lt
  intro h
  have h1 : ∀ x y : Nat, (∀ i, x.testBit i = true → y.testBit i = true) → x ≤ y := by
    intro x y hxy
    have e : x = x &&& y := by
      apply Nat.eq_of_testBit_eq
      intro i
      rw [Nat.testBit_and]
      cases hx : x.testBit i
      · rfl
      · rw [hxy i hx]; rfl
    rw [e]; exact Nat.and_le_right
  have := h1 (andn a b) a (fun i hi => by rw [andn_tb] at hi; simp at hi; exact hi.1)
  omega
theorem andn_b {a b N : Nat} (h : a < N) : andn a b < N := Nat.lt_of_le_of_lt (andn_le a b) h
theorem or_b {a b : Nat} (n : Nat) (ha : a < 2 ^ n) (hb : b < 2 ^ n) : a ||| b < 2 ^ n := Nat.or_lt_two_pow ha hb
def updN (f : Nat → Nat) (k v : Nat) : Nat → Nat := fun j => if j = k then v else f j
theorem updN_s (f : Nat → Nat) (k v : Nat) : updN f k v k = v := by simp [updN]
theorem updN_n {f : Nat → Nat} {k v j : Nat} (h : j ≠ k) : updN f k v j = f j := by simp [updN, h]
theorem upd_nI (f : Nat → Nat) (k v : Nat) : upd (fun j => nI (f j)) k (nI v) = fun j => nI (updN f k v j) := by
  funext j
  by_cases h : j = k
  · subst h; simp [upd, updN]
  · simp [upd, updN, h]
theorem b01 (b : Bool) : narrow .boolean (.int (nI b.toNat)) = .int (nI b.toNat) := by cases b <;> decide
section CLN
variable {l : Launch} {cc : ByteArray} {own : String} {nL : Nat} {R : Room} {K : AK} {pc : Nat} {ls : AL} {st : List Value} {hs : List va_E}
theorem Cl.bz (h : Cl l cc own nL R K) {b : Bool} {off : Int} {tgt : Nat} (hd : decode cc pc = .ok (.ifCond .eq off, 3)) (ht : (pc : Int) + off = (tgt : Int)) (kf : b = false → K tgt ls st hs) (kt : b = true → K (pc + 3) ls st hs) : K pc ls (.int (nI b.toNat) :: st) hs := by
  cases b
  · exact h.if_eq hd ht (fun _ => kf rfl) (fun c => absurd rfl c)
  · exact h.if_eq hd ht (fun c => absurd c (by decide)) (fun _ => kt rfl)
theorem Cl.bnz (h : Cl l cc own nL R K) {b : Bool} {off : Int} {tgt : Nat} (hd : decode cc pc = .ok (.ifCond .ne off, 3)) (ht : (pc : Int) + off = (tgt : Int)) (kt : b = true → K tgt ls st hs) (kf : b = false → K (pc + 3) ls st hs) : K pc ls (.int (nI b.toNat) :: st) hs := by
  cases b
  · exact h.if_ne hd ht (fun c => absurd rfl c) (fun _ => kf rfl)
  · exact h.if_ne hd ht (fun _ => kt rfl) (fun c => absurd c (by decide))
theorem nI0_iff {x : Nat} (hx : x < 2 ^ 31) : nI x = 0 ↔ x = 0 := nI_eq (b := 0) hx (by decide)
theorem Cl.nz (h : Cl l cc own nL R K) {x : Nat} (hx : x < 2 ^ 31) {off : Int} {tgt : Nat} (hd : decode cc pc = .ok (.ifCond .eq off, 3)) (ht : (pc : Int) + off = (tgt : Int)) (kt : x = 0 → K tgt ls st hs) (kf : x ≠ 0 → K (pc + 3) ls st hs) : K pc ls (.int (nI x) :: st) hs :=
  h.if_eq hd ht (fun c => kt ((nI0_iff hx).mp c)) (fun c => kf (fun e => c ((nI0_iff hx).mpr e)))
theorem Cl.nnz (h : Cl l cc own nL R K) {x : Nat} (hx : x < 2 ^ 31) {off : Int} {tgt : Nat} (hd : decode cc pc = .ok (.ifCond .ne off, 3)) (ht : (pc : Int) + off = (tgt : Int)) (kf : x ≠ 0 → K tgt ls st hs) (kt : x = 0 → K (pc + 3) ls st hs) : K pc ls (.int (nI x) :: st) hs :=
  h.if_ne hd ht (fun c => kf (fun e => c ((nI0_iff hx).mpr e))) (fun c => kt ((nI0_iff hx).mp c))
theorem Cl.n_ge (h : Cl l cc own nL R K) {a b : Nat} (ha : a < 2 ^ 31) (hb : b < 2 ^ 31) {off : Int} {tgt : Nat} (hd : decode cc pc = .ok (.if_icmp .ge off, 3)) (ht : (pc : Int) + off = (tgt : Int)) (kt : b ≤ a → K tgt ls st hs) (kf : a < b → K (pc + 3) ls st hs) : K pc ls (.int (nI b) :: .int (nI a) :: st) hs := by
  have e1 := @nI_leI a b ha hb
  have e2 := @nI_leI b a hb ha
  have e3 := @nI_ltI a b ha hb
  have e4 := @nI_ltI b a hb ha
  have e5 := @nI_eq a b ha hb
  refine h.icmp_ge hd ht (fun c => kt ?_) (fun c => kf ?_)
  all_goals simp only [e1, e2, e3, e4, e5] at c
  all_goals omega
theorem Cl.n_lt (h : Cl l cc own nL R K) {a b : Nat} (ha : a < 2 ^ 31) (hb : b < 2 ^ 31) {off : Int} {tgt : Nat} (hd : decode cc pc = .ok (.if_icmp .lt off, 3)) (ht : (pc : Int) + off = (tgt : Int)) (kt : a < b → K tgt ls st hs) (kf : b ≤ a → K (pc + 3) ls st hs) : K pc ls (.int (nI b) :: .int (nI a) :: st) hs := by
  have e1 := @nI_leI a b ha hb
  have e2 := @nI_leI b a hb ha
  have e3 := @nI_ltI a b ha hb
  have e4 := @nI_ltI b a hb ha
  have e5 := @nI_eq a b ha hb
  refine h.icmp_lt hd ht (fun c => kt ?_) (fun c => kf ?_)
  all_goals simp only [e1, e2, e3, e4, e5] at c
  all_goals omega
theorem Cl.n_le (h : Cl l cc own nL R K) {a b : Nat} (ha : a < 2 ^ 31) (hb : b < 2 ^ 31) {off : Int} {tgt : Nat} (hd : decode cc pc = .ok (.if_icmp .le off, 3)) (ht : (pc : Int) + off = (tgt : Int)) (kt : a ≤ b → K tgt ls st hs) (kf : b < a → K (pc + 3) ls st hs) : K pc ls (.int (nI b) :: .int (nI a) :: st) hs := by
  have e1 := @nI_leI a b ha hb
  have e2 := @nI_leI b a hb ha
  have e3 := @nI_ltI a b ha hb
  have e4 := @nI_ltI b a hb ha
  have e5 := @nI_eq a b ha hb
  refine h.icmp_le hd ht (fun c => kt ?_) (fun c => kf ?_)
  all_goals simp only [e1, e2, e3, e4, e5] at c
  all_goals omega
theorem Cl.n_gt (h : Cl l cc own nL R K) {a b : Nat} (ha : a < 2 ^ 31) (hb : b < 2 ^ 31) {off : Int} {tgt : Nat} (hd : decode cc pc = .ok (.if_icmp .gt off, 3)) (ht : (pc : Int) + off = (tgt : Int)) (kt : b < a → K tgt ls st hs) (kf : a ≤ b → K (pc + 3) ls st hs) : K pc ls (.int (nI b) :: .int (nI a) :: st) hs := by
  have e1 := @nI_leI a b ha hb
  have e2 := @nI_leI b a hb ha
  have e3 := @nI_ltI a b ha hb
  have e4 := @nI_ltI b a hb ha
  have e5 := @nI_eq a b ha hb
  refine h.icmp_gt hd ht (fun c => kt ?_) (fun c => kf ?_)
  all_goals simp only [e1, e2, e3, e4, e5] at c
  all_goals omega
theorem Cl.n_eq (h : Cl l cc own nL R K) {a b : Nat} (ha : a < 2 ^ 31) (hb : b < 2 ^ 31) {off : Int} {tgt : Nat} (hd : decode cc pc = .ok (.if_icmp .eq off, 3)) (ht : (pc : Int) + off = (tgt : Int)) (kt : a = b → K tgt ls st hs) (kf : a ≠ b → K (pc + 3) ls st hs) : K pc ls (.int (nI b) :: .int (nI a) :: st) hs := by
  have e1 := @nI_leI a b ha hb
  have e2 := @nI_leI b a hb ha
  have e3 := @nI_ltI a b ha hb
  have e4 := @nI_ltI b a hb ha
  have e5 := @nI_eq a b ha hb
  refine h.icmp_eq hd ht (fun c => kt ?_) (fun c => kf ?_)
  all_goals simp only [e1, e2, e3, e4, e5] at c
  all_goals omega
theorem Cl.n_ne (h : Cl l cc own nL R K) {a b : Nat} (ha : a < 2 ^ 31) (hb : b < 2 ^ 31) {off : Int} {tgt : Nat} (hd : decode cc pc = .ok (.if_icmp .ne off, 3)) (ht : (pc : Int) + off = (tgt : Int)) (kt : a ≠ b → K tgt ls st hs) (kf : a = b → K (pc + 3) ls st hs) : K pc ls (.int (nI b) :: .int (nI a) :: st) hs := by
  have e1 := @nI_leI a b ha hb
  have e2 := @nI_leI b a hb ha
  have e3 := @nI_ltI a b ha hb
  have e4 := @nI_ltI b a hb ha
  have e5 := @nI_eq a b ha hb
  refine h.icmp_ne hd ht (fun c => kt ?_) (fun c => kf ?_)
  all_goals simp only [e1, e2, e3, e4, e5] at c
  all_goals omega
theorem Cl.iaN (h : Cl l cc own nL R K) {a n s : Nat} {f : Nat → Int32} (hd : decode cc pc = .ok (.iaload, 1)) (ha : hs[a]? = some (.inl (0, n, .inl f))) (hi : s < n ∧ n < 2 ^ 31) (k : K (pc + 1) ls (.int (f s) :: st) hs) : K pc ls (.int (nI s) :: .ref a :: st) hs :=
  h.iaload hd ha (vp_in_nI hi.1 hi.2) (by rw [nI_clamp (Nat.lt_trans hi.1 hi.2)]; exact k)
theorem Cl.baN (h : Cl l cc own nL R K) {a n s : Nat} {f : Nat → Int32} (hd : decode cc pc = .ok (.baload, 1)) (ha : hs[a]? = some (.inl (1, n, .inl f))) (hi : s < n ∧ n < 2 ^ 31) (k : K (pc + 1) ls (.int (f s) :: st) hs) : K pc ls (.int (nI s) :: .ref a :: st) hs :=
  h.baload hd ha (vp_in_nI hi.1 hi.2) (by rw [nI_clamp (Nat.lt_trans hi.1 hi.2)]; exact k)
theorem Cl.laN (h : Cl l cc own nL R K) {a n s : Nat} {f : Nat → Int64} (hd : decode cc pc = .ok (.laload, 1)) (ha : hs[a]? = some (.inl (2, n, .inr (.inl f)))) (hi : s < n ∧ n < 2 ^ 31) (k : K (pc + 1) ls (.long (f s) :: st) hs) : K pc ls (.int (nI s) :: .ref a :: st) hs :=
  h.laload hd ha (vp_in_nI hi.1 hi.2) (by rw [nI_clamp (Nat.lt_trans hi.1 hi.2)]; exact k)
theorem Cl.isN (h : Cl l cc own nL R K) {a n s v : Nat} {f : Nat → Nat} (hd : decode cc pc = .ok (.iastore, 1)) (ha : hs[a]? = some (.inl (0, n, .inl (fun j => nI (f j))))) (hi : s < n ∧ n < 2 ^ 31) (k : K (pc + 1) ls st (hs.set a (.inl (0, n, .inl (fun j => nI (updN f s v j)))))) : K pc ls (.int (nI v) :: .int (nI s) :: .ref a :: st) hs :=
  h.iastore hd ha (vp_in_nI hi.1 hi.2) (by rw [nI_clamp (Nat.lt_trans hi.1 hi.2), upd_nI]; exact k)
end CLN
end
section
/-! StripFlag.has, and StripFlag$Plan: what a text told; its methods that only read -/
set_option maxHeartbeats 4000000 in
set_option maxRecDepth 20000 in
theorem ct_X8_has (l : Launch) (n k : Nat) (hn : n < 2 ^ 31) (hk : k < 32) : Ct l 0 yX8_has cX8_has 2 (some .boolean) [.int (nI n), .int (nI k)] ([]) (RV (.int (nI (n.testBit k).toNat)) []) := by
  refine Ct.of (by decide) (Nat.le_of_ble_eq_true rfl) (fun K hC hR => ?_)
  show K 0 [(0, .int (nI n)), (1, .int (nI k))] [] _
  refine hC.iload_n dX8_has_0 rfl ?_
  refine hC.iload_n dX8_has_1 rfl ?_
  refine hC.ishr dX8_has_2 ?_
  refine hC.iconst dX8_has_3 (v := nI 1) rfl ?_
  refine hC.iand dX8_has_4 ?_
  rw [nI_one_and hn hk]
  cases hb : n.testBit k
  · refine hC.if_eq dX8_has_5 (tgt := 12) rfl (fun c => ?_) (fun c => ?_)
    · refine hC.iconst dX8_has_12 (v := nI 0) rfl ?_
      exact hR.zreturn dX8_has_13 (by decide) ⟨by rw [hb] <;> rfl, rfl⟩
    · exact absurd rfl c
  · refine hC.if_eq dX8_has_5 (tgt := 12) rfl (fun c => ?_) (fun c => ?_)
    · exact absurd c (by decide)
    · refine hC.iconst dX8_has_8 (v := nI 1) rfl ?_
      refine hC.goto dX8_has_9 (tgt := 13) rfl ?_
      exact hR.zreturn dX8_has_13 (by decide) ⟨by rw [hb] <;> rfl, rfl⟩
/-- the numbers of a Plan: rows prices, dyes, from, to, strengths, ends, couldEnds, threads; counts colours, strips, seams, coulds -/
abbrev PlanT : Type := (Nat → Nat → Nat) × (Nat → Nat)
abbrev rowI (n : Nat) (f : Nat → Nat) : va_E := .inl (0, n, .inl (fun j => nI (f j)))
abbrev planW (P : PlanT) : List va_E := [.inr (4, [.ref 1, .ref 2, .ref 3, .ref 4, .ref 5, .ref 6, .ref 7, .ref 8, .int (nI (P.2 0)), .int (nI (P.2 1)), .int (nI (P.2 2)), .int (nI (P.2 3))]), rowI 4 (P.1 0), rowI 8 (P.1 1), rowI 12 (P.1 2), rowI 12 (P.1 3), rowI 12 (P.1 4), rowI 12 (P.1 5), rowI 8 (P.1 6), rowI 8 (P.1 7)]
def PlanOK (P : PlanT) : Prop := P.2 0 ≤ 4 ∧ P.2 1 ≤ 8 ∧ P.2 2 ≤ 12 ∧ P.2 3 ≤ 8 ∧ (∀ s, P.1 5 s < 512) ∧ (∀ s, P.1 6 s < 512) ∧ (∀ s, P.1 0 s ≤ 99) ∧ (∀ s, P.1 7 s ≤ 99)
/-- a number of a call is one of the first n -/
def inB (x : Int32) (n : Nat) : Bool := decide (0 ≤ x.toInt ∧ x.toInt < (n : Int))
theorem inB_nI {j n : Nat} (hj : j < 2 ^ 31) : inB (nI j) n = decide (j < n) := by
  unfold inB
  rw [nI_toInt hj]
  by_cases h : j < n
  · simp [h]
  · simp [h]
theorem inB_of {x : Int32} {n : Nat} (h : inB x n = true) (hn : n < 2 ^ 31) : ∃ j, j < n ∧ x = nI j := vp_in_of (vp_in_iff.mpr (of_decide_eq_true h)) hn
theorem lt0_iff (x : Int32) : x < 0 ↔ x.toInt < 0 := by rw [Int32.lt_iff_toInt_lt, Int32.toInt_zero]
theorem le_nI_iff (x : Int32) {n : Nat} (hn : n < 2 ^ 31) : nI n ≤ x ↔ (n : Int) ≤ x.toInt := by rw [Int32.le_iff_toInt_le, nI_toInt hn]
set_option maxHeartbeats 4000000 in
set_option maxRecDepth 20000 in
theorem ct_X4_hasStrip (l : Launch) (P : PlanT) (hP : P.2 1 ≤ 8) (x : Int32) : Ct l 0 yX4_hasStrip cX4_hasStrip 2 (some .boolean) [.ref 0, .int x] (planW P) (RV (.int (nI (inB x (P.2 1)).toNat)) (planW P)) := by
  refine Ct.of (by decide) (Nat.le_of_ble_eq_true rfl) (fun K hC hR => ?_)
  show K 0 [(0, .ref 0), (1, .int x)] [] _
  have hN : P.2 1 < 2 ^ 31 := by omega
  have hl1 := lt0_iff x
  have hl2 := le_nI_iff x hN
  have hl3 := le_nI_iff x (n := 8) (by decide)
  refine hC.iload_n dX4_hasStrip_0 rfl ?_
  refine hC.if_lt dX4_hasStrip_1 (tgt := 22) rfl (fun c1 => ?_) (fun c1 => ?_)
  · have e : inB x (P.2 1) = false := by unfold inB; simp only [hl1] at c1; simp; omega
    refine hC.iconst dX4_hasStrip_22 (v := nI 0) rfl ?_
    exact hR.zreturn dX4_hasStrip_23 (by decide) ⟨by rw [e] <;> rfl, rfl⟩
  · refine hC.iload_n dX4_hasStrip_4 rfl ?_
    refine hC.aload_n dX4_hasStrip_5 rfl ?_
    refine hC.getfield dX4_hasStrip_6 lfX4_40 rfl rfl ?_
    refine hC.icmp_ge dX4_hasStrip_9 (tgt := 22) rfl (fun c2 => ?_) (fun c2 => ?_)
    · have e : inB x (P.2 1) = false := by unfold inB; simp only [hl2] at c2; simp; omega
      refine hC.iconst dX4_hasStrip_22 (v := nI 0) rfl ?_
      exact hR.zreturn dX4_hasStrip_23 (by decide) ⟨by rw [e] <;> rfl, rfl⟩
    · refine hC.iload_n dX4_hasStrip_12 rfl ?_
      refine hC.bipush dX4_hasStrip_13 (v := nI 8) rfl ?_
      refine hC.icmp_ge dX4_hasStrip_15 (tgt := 22) rfl (fun c3 => ?_) (fun c3 => ?_)
      · have e : inB x (P.2 1) = false := by unfold inB; simp only [hl3] at c3; simp; omega
        refine hC.iconst dX4_hasStrip_22 (v := nI 0) rfl ?_
        exact hR.zreturn dX4_hasStrip_23 (by decide) ⟨by rw [e] <;> rfl, rfl⟩
      · have e : inB x (P.2 1) = true := by unfold inB; simp only [hl1] at c1; simp only [hl2] at c2; simp; omega
        refine hC.iconst dX4_hasStrip_18 (v := nI 1) rfl ?_
        refine hC.goto dX4_hasStrip_19 (tgt := 23) rfl ?_
        exact hR.zreturn dX4_hasStrip_23 (by decide) ⟨by rw [e] <;> rfl, rfl⟩
set_option maxHeartbeats 4000000 in
set_option maxRecDepth 20000 in
theorem ct_X4_hasSeam (l : Launch) (P : PlanT) (hP : P.2 2 ≤ 12) (x : Int32) : Ct l 0 yX4_hasSeam cX4_hasSeam 2 (some .boolean) [.ref 0, .int x] (planW P) (RV (.int (nI (inB x (P.2 2)).toNat)) (planW P)) := by
  refine Ct.of (by decide) (Nat.le_of_ble_eq_true rfl) (fun K hC hR => ?_)
  show K 0 [(0, .ref 0), (1, .int x)] [] _
  have hN : P.2 2 < 2 ^ 31 := by omega
  have hl1 := lt0_iff x
  have hl2 := le_nI_iff x hN
  have hl3 := le_nI_iff x (n := 12) (by decide)
  refine hC.iload_n dX4_hasSeam_0 rfl ?_
  refine hC.if_lt dX4_hasSeam_1 (tgt := 22) rfl (fun c1 => ?_) (fun c1 => ?_)
  · have e : inB x (P.2 2) = false := by unfold inB; simp only [hl1] at c1; simp; omega
    refine hC.iconst dX4_hasSeam_22 (v := nI 0) rfl ?_
    exact hR.zreturn dX4_hasSeam_23 (by decide) ⟨by rw [e] <;> rfl, rfl⟩
  · refine hC.iload_n dX4_hasSeam_4 rfl ?_
    refine hC.aload_n dX4_hasSeam_5 rfl ?_
    refine hC.getfield dX4_hasSeam_6 lfX4_43 rfl rfl ?_
    refine hC.icmp_ge dX4_hasSeam_9 (tgt := 22) rfl (fun c2 => ?_) (fun c2 => ?_)
    · have e : inB x (P.2 2) = false := by unfold inB; simp only [hl2] at c2; simp; omega
      refine hC.iconst dX4_hasSeam_22 (v := nI 0) rfl ?_
      exact hR.zreturn dX4_hasSeam_23 (by decide) ⟨by rw [e] <;> rfl, rfl⟩
    · refine hC.iload_n dX4_hasSeam_12 rfl ?_
      refine hC.bipush dX4_hasSeam_13 (v := nI 12) rfl ?_
      refine hC.icmp_ge dX4_hasSeam_15 (tgt := 22) rfl (fun c3 => ?_) (fun c3 => ?_)
      · have e : inB x (P.2 2) = false := by unfold inB; simp only [hl3] at c3; simp; omega
        refine hC.iconst dX4_hasSeam_22 (v := nI 0) rfl ?_
        exact hR.zreturn dX4_hasSeam_23 (by decide) ⟨by rw [e] <;> rfl, rfl⟩
      · have e : inB x (P.2 2) = true := by unfold inB; simp only [hl1] at c1; simp only [hl2] at c2; simp; omega
        refine hC.iconst dX4_hasSeam_18 (v := nI 1) rfl ?_
        refine hC.goto dX4_hasSeam_19 (tgt := 23) rfl ?_
        exact hR.zreturn dX4_hasSeam_23 (by decide) ⟨by rw [e] <;> rfl, rfl⟩
set_option maxHeartbeats 4000000 in
set_option maxRecDepth 20000 in
theorem ct_X4_hasColour (l : Launch) (P : PlanT) (hP : P.2 0 ≤ 4) (x : Int32) : Ct l 0 yX4_hasColour cX4_hasColour 2 (some .boolean) [.ref 0, .int x] (planW P) (RV (.int (nI (inB x (P.2 0)).toNat)) (planW P)) := by
  refine Ct.of (by decide) (Nat.le_of_ble_eq_true rfl) (fun K hC hR => ?_)
  show K 0 [(0, .ref 0), (1, .int x)] [] _
  have hN : P.2 0 < 2 ^ 31 := by omega
  have hl1 := lt0_iff x
  have hl2 := le_nI_iff x hN
  have hl3 := le_nI_iff x (n := 4) (by decide)
  refine hC.iload_n dX4_hasColour_0 rfl ?_
  refine hC.if_lt dX4_hasColour_1 (tgt := 21) rfl (fun c1 => ?_) (fun c1 => ?_)
  · have e : inB x (P.2 0) = false := by unfold inB; simp only [hl1] at c1; simp; omega
    refine hC.iconst dX4_hasColour_21 (v := nI 0) rfl ?_
    exact hR.zreturn dX4_hasColour_22 (by decide) ⟨by rw [e] <;> rfl, rfl⟩
  · refine hC.iload_n dX4_hasColour_4 rfl ?_
    refine hC.aload_n dX4_hasColour_5 rfl ?_
    refine hC.getfield dX4_hasColour_6 lfX4_36 rfl rfl ?_
    refine hC.icmp_ge dX4_hasColour_9 (tgt := 21) rfl (fun c2 => ?_) (fun c2 => ?_)
    · have e : inB x (P.2 0) = false := by unfold inB; simp only [hl2] at c2; simp; omega
      refine hC.iconst dX4_hasColour_21 (v := nI 0) rfl ?_
      exact hR.zreturn dX4_hasColour_22 (by decide) ⟨by rw [e] <;> rfl, rfl⟩
    · refine hC.iload_n dX4_hasColour_12 rfl ?_
      refine hC.iconst dX4_hasColour_13 (v := nI 4) rfl ?_
      refine hC.icmp_ge dX4_hasColour_14 (tgt := 21) rfl (fun c3 => ?_) (fun c3 => ?_)
      · have e : inB x (P.2 0) = false := by unfold inB; simp only [hl3] at c3; simp; omega
        refine hC.iconst dX4_hasColour_21 (v := nI 0) rfl ?_
        exact hR.zreturn dX4_hasColour_22 (by decide) ⟨by rw [e] <;> rfl, rfl⟩
      · have e : inB x (P.2 0) = true := by unfold inB; simp only [hl1] at c1; simp only [hl2] at c2; simp; omega
        refine hC.iconst dX4_hasColour_17 (v := nI 1) rfl ?_
        refine hC.goto dX4_hasColour_18 (tgt := 22) rfl ?_
        exact hR.zreturn dX4_hasColour_22 (by decide) ⟨by rw [e] <;> rfl, rfl⟩
/-- the seams among m that cross from the side n -/
def crossP (P : PlanT) (n m s : Nat) : Bool := m.testBit s && (decide (P.1 5 s &&& n ≠ 0) && decide (andn (P.1 5 s) n ≠ 0))
def crossF (P : PlanT) (n m : Nat) : Nat := bs 12 (crossP P n m)
set_option maxHeartbeats 4000000 in
set_option maxRecDepth 20000 in
theorem ct_X4_crossing (l : Launch) (P : PlanT) (hP : PlanOK P) (n m : Nat) (hm : m < 4096) : Ct l 1 yX4_crossing cX4_crossing 5 (some .int) [.ref 0, .int (nI n), .int (nI m)] (planW P) (RV (.int (nI (crossF P n m))) (planW P)) := by
  refine Ct.of (by decide) (Nat.le_of_ble_eq_true rfl) (fun K hC hR => ?_)
  show K 0 [(0, .ref 0), (1, .int (nI n)), (2, .int (nI m))] [] _
  have hE := hP.2.2.2.2.1
  refine hC.iconst dX4_crossing_0 (v := nI 0) rfl ?_
  refine hC.istore_n dX4_crossing_1 (by decide) ?_
  refine hC.iconst dX4_crossing_2 (v := nI 0) rfl ?_
  refine hC.istore dX4_crossing_3 (by decide) ?_
  have loop : ∀ s, s ≤ 12 → K 5 [(0, .ref 0), (1, .int (nI n)), (2, .int (nI m)), (3, .int (nI (bs s (crossP P n m)))), (4, .int (nI s))] [] (planW P) := by
    refine loopUp1 _ 12 ?_ (fun s hs ih => ?_)
    · refine hC.iload dX4_crossing_5 rfl ?_
      refine hC.bipush dX4_crossing_7 (v := nI 12) rfl ?_
      refine hC.n_ge (by omega) (by omega) dX4_crossing_9 (tgt := 60) rfl (fun c => ?_) (fun c => ?_)
      · refine hC.iload_n dX4_crossing_60 rfl ?_
        exact hR.ireturn dX4_crossing_61 ⟨rfl, rfl⟩
      · omega
    · have hs2 := Nat.lt_trans (hE s) (show 512 < 2 ^ 31 by decide)
      refine hC.iload dX4_crossing_5 rfl ?_
      refine hC.bipush dX4_crossing_7 (v := nI 12) rfl ?_
      refine hC.n_ge (by omega) (by omega) dX4_crossing_9 (tgt := 60) rfl (fun c => ?_) (fun c => ?_)
      · omega
      · refine hC.iload_n dX4_crossing_12 rfl ?_
        refine hC.iload dX4_crossing_13 rfl ?_
        refine hC.rdSN [] dX4_crossing_15 lnX4_66 mkX8_has sxX8_has (ct_X8_has l m s (by omega) (by omega)) ⟨Nat.le_of_ble_eq_true rfl, Nat.le_of_ble_eq_true rfl⟩ rfl rfl (Nat.le_of_ble_eq_true rfl) ⟨by decide, rfl⟩ ?_
        refine hC.bz dX4_crossing_18 (tgt := 54) rfl (fun c1 => ?_) (fun c1 => ?_)
        · refine hC.iinc dX4_crossing_54 rfl (nI_1 _) (by decide) ?_
          refine hC.goto dX4_crossing_57 (tgt := 5) rfl ?_
          rw [bs_f (show crossP P n m s = false by simp [crossP, c1])] at ih
          exact hC.loc rfl ih
        · refine hC.aload_n dX4_crossing_21 rfl ?_
          refine hC.getfield dX4_crossing_22 lfX4_27 rfl rfl ?_
          refine hC.iload dX4_crossing_25 rfl ?_
          refine hC.iaN dX4_crossing_27 rfl ⟨by omega, by decide⟩ ?_
          refine hC.iload_n dX4_crossing_28 rfl ?_
          refine hC.iand dX4_crossing_29 ?_
          rw [nI_and]
          refine hC.nz (and_b hs2) dX4_crossing_30 (tgt := 54) rfl (fun c2 => ?_) (fun c2 => ?_)
          · refine hC.iinc dX4_crossing_54 rfl (nI_1 _) (by decide) ?_
            refine hC.goto dX4_crossing_57 (tgt := 5) rfl ?_
            rw [bs_f (show crossP P n m s = false by simp [crossP, c2])] at ih
            exact hC.loc rfl ih
          · refine hC.aload_n dX4_crossing_33 rfl ?_
            refine hC.getfield dX4_crossing_34 lfX4_27 rfl rfl ?_
            refine hC.iload dX4_crossing_37 rfl ?_
            refine hC.iaN dX4_crossing_39 rfl ⟨by omega, by decide⟩ ?_
            refine hC.iload_n dX4_crossing_40 rfl ?_
            refine hC.iconst dX4_crossing_41 (v := (-1)) rfl ?_
            refine hC.ixor dX4_crossing_42 ?_
            refine hC.iand dX4_crossing_43 ?_
            rw [nI_andn]
            refine hC.nz (andn_b hs2) dX4_crossing_44 (tgt := 54) rfl (fun c3 => ?_) (fun c3 => ?_)
            · refine hC.iinc dX4_crossing_54 rfl (nI_1 _) (by decide) ?_
              refine hC.goto dX4_crossing_57 (tgt := 5) rfl ?_
              rw [bs_f (show crossP P n m s = false by simp [crossP, c3])] at ih
              exact hC.loc rfl ih
            · refine hC.iload_n dX4_crossing_47 rfl ?_
              refine hC.iconst dX4_crossing_48 (v := nI 1) rfl ?_
              refine hC.iload dX4_crossing_49 rfl ?_
              refine hC.ishl dX4_crossing_51 ?_
              refine hC.ior dX4_crossing_52 ?_
              refine hC.istore_n dX4_crossing_53 (by decide) ?_
              refine hC.iinc dX4_crossing_54 rfl (nI_1 _) (by decide) ?_
              refine hC.goto dX4_crossing_57 (tgt := 5) rfl ?_
              rw [bs_t (show crossP P n m s = true by simp [crossP, c1, c2, c3])] at ih
              rw [nI_shl (by omega), nI_or, Nat.one_mul]
              exact hC.loc rfl ih
  exact hC.loc rfl (loop 0 (by omega))
end
section
/-! the JDK's own methods that are called: written by program (wip/whole/mkjdk.py) -/
def yJ_bitCount : MethodName := ⟨"java/lang/Integer", "bitCount", "(I)I"⟩
abbrev cJ_bitCount : ByteArray := prog_12_method_49_code
theorem mkJ_bitCount : MK yJ_bitCount cJ_bitCount 1 (some .int) 1 := ⟨gw 580 (by decide +kernel) rfl, gw 67 (by decide +kernel) rfl, by decide +kernel⟩
theorem sxJ_bitCount : Cond.static yJ_bitCount ∈ GW := gw 579 (by decide +kernel) rfl
theorem dJ_bitCount_0 : decode cJ_bitCount 0 = .ok (.iload_n 0, 1) := by decide +kernel
theorem dJ_bitCount_1 : decode cJ_bitCount 1 = .ok (.iload_n 0, 1) := by decide +kernel
theorem dJ_bitCount_2 : decode cJ_bitCount 2 = .ok (.iconst 1, 1) := by decide +kernel
theorem dJ_bitCount_3 : decode cJ_bitCount 3 = .ok (.iushr, 1) := by decide +kernel
theorem dJ_bitCount_4 : decode cJ_bitCount 4 = .ok (.ldc_w 265, 3) := by decide +kernel
theorem dJ_bitCount_7 : decode cJ_bitCount 7 = .ok (.iand, 1) := by decide +kernel
theorem dJ_bitCount_8 : decode cJ_bitCount 8 = .ok (.isub, 1) := by decide +kernel
theorem dJ_bitCount_9 : decode cJ_bitCount 9 = .ok (.istore_n 0, 1) := by decide +kernel
theorem dJ_bitCount_10 : decode cJ_bitCount 10 = .ok (.iload_n 0, 1) := by decide +kernel
theorem dJ_bitCount_11 : decode cJ_bitCount 11 = .ok (.ldc_w 266, 3) := by decide +kernel
theorem dJ_bitCount_14 : decode cJ_bitCount 14 = .ok (.iand, 1) := by decide +kernel
theorem dJ_bitCount_15 : decode cJ_bitCount 15 = .ok (.iload_n 0, 1) := by decide +kernel
theorem dJ_bitCount_16 : decode cJ_bitCount 16 = .ok (.iconst 2, 1) := by decide +kernel
theorem dJ_bitCount_17 : decode cJ_bitCount 17 = .ok (.iushr, 1) := by decide +kernel
theorem dJ_bitCount_18 : decode cJ_bitCount 18 = .ok (.ldc_w 266, 3) := by decide +kernel
theorem dJ_bitCount_21 : decode cJ_bitCount 21 = .ok (.iand, 1) := by decide +kernel
theorem dJ_bitCount_22 : decode cJ_bitCount 22 = .ok (.iadd, 1) := by decide +kernel
theorem dJ_bitCount_23 : decode cJ_bitCount 23 = .ok (.istore_n 0, 1) := by decide +kernel
theorem dJ_bitCount_24 : decode cJ_bitCount 24 = .ok (.iload_n 0, 1) := by decide +kernel
theorem dJ_bitCount_25 : decode cJ_bitCount 25 = .ok (.iload_n 0, 1) := by decide +kernel
theorem dJ_bitCount_26 : decode cJ_bitCount 26 = .ok (.iconst 4, 1) := by decide +kernel
theorem dJ_bitCount_27 : decode cJ_bitCount 27 = .ok (.iushr, 1) := by decide +kernel
theorem dJ_bitCount_28 : decode cJ_bitCount 28 = .ok (.iadd, 1) := by decide +kernel
theorem dJ_bitCount_29 : decode cJ_bitCount 29 = .ok (.ldc_w 267, 3) := by decide +kernel
theorem dJ_bitCount_32 : decode cJ_bitCount 32 = .ok (.iand, 1) := by decide +kernel
theorem dJ_bitCount_33 : decode cJ_bitCount 33 = .ok (.istore_n 0, 1) := by decide +kernel
theorem dJ_bitCount_34 : decode cJ_bitCount 34 = .ok (.iload_n 0, 1) := by decide +kernel
theorem dJ_bitCount_35 : decode cJ_bitCount 35 = .ok (.iload_n 0, 1) := by decide +kernel
theorem dJ_bitCount_36 : decode cJ_bitCount 36 = .ok (.bipush 8, 2) := by decide +kernel
theorem dJ_bitCount_38 : decode cJ_bitCount 38 = .ok (.iushr, 1) := by decide +kernel
theorem dJ_bitCount_39 : decode cJ_bitCount 39 = .ok (.iadd, 1) := by decide +kernel
theorem dJ_bitCount_40 : decode cJ_bitCount 40 = .ok (.istore_n 0, 1) := by decide +kernel
theorem dJ_bitCount_41 : decode cJ_bitCount 41 = .ok (.iload_n 0, 1) := by decide +kernel
theorem dJ_bitCount_42 : decode cJ_bitCount 42 = .ok (.iload_n 0, 1) := by decide +kernel
theorem dJ_bitCount_43 : decode cJ_bitCount 43 = .ok (.bipush 16, 2) := by decide +kernel
theorem dJ_bitCount_45 : decode cJ_bitCount 45 = .ok (.iushr, 1) := by decide +kernel
theorem dJ_bitCount_46 : decode cJ_bitCount 46 = .ok (.iadd, 1) := by decide +kernel
theorem dJ_bitCount_47 : decode cJ_bitCount 47 = .ok (.istore_n 0, 1) := by decide +kernel
theorem dJ_bitCount_48 : decode cJ_bitCount 48 = .ok (.iload_n 0, 1) := by decide +kernel
theorem dJ_bitCount_49 : decode cJ_bitCount 49 = .ok (.bipush 63, 2) := by decide +kernel
theorem dJ_bitCount_51 : decode cJ_bitCount 51 = .ok (.iand, 1) := by decide +kernel
theorem dJ_bitCount_52 : decode cJ_bitCount 52 = .ok (.ireturn, 1) := by decide +kernel
theorem mmaxW : Cond.static Lib.Math.max.name ∈ GW ∧ Cond.initialized "java/lang/Math" ∈ GW ∧ Cond.code Lib.Math.max.name Lib.Math.max.code 2 (some .int) ∈ GW := ⟨gw 609 (by decide +kernel) rfl, gw 68 (by decide +kernel) rfl, gw 610 (by decide +kernel) rfl⟩
theorem mminW : Cond.static Lib.Math.min.name ∈ GW ∧ Cond.initialized "java/lang/Math" ∈ GW ∧ Cond.code Lib.Math.min.name Lib.Math.min.code 2 (some .int) ∈ GW := ⟨gw 773 (by decide +kernel) rfl, gw 68 (by decide +kernel) rfl, gw 774 (by decide +kernel) rfl⟩
theorem lcJ_265 : Cond.constant "java/lang/Integer" 265 (1431655765 : Int32) ∈ GW := gw 581 (by decide +kernel) rfl
theorem lcJ_266 : Cond.constant "java/lang/Integer" 266 (858993459 : Int32) ∈ GW := gw 582 (by decide +kernel) rfl
theorem lcJ_267 : Cond.constant "java/lang/Integer" 267 (252645135 : Int32) ∈ GW := gw 583 (by decide +kernel) rfl
theorem lmX1_21 : Cond.methodLink RX1 21 arraycopyName ∈ GW := gw 487 (by decide +kernel) rfl
theorem lmX1_55 : Cond.methodLink RX1 55 Lib.Math.max.name ∈ GW := gw 608 (by decide +kernel) rfl
theorem lmX1_68 : Cond.methodLink RX1 68 yJ_bitCount ∈ GW := gw 606 (by decide +kernel) rfl
theorem lmX2_38 : Cond.methodLink RX2 38 yJ_bitCount ∈ GW := gw 656 (by decide +kernel) rfl
theorem lmX3_77 : Cond.methodLink RX3 77 arraycopyName ∈ GW := gw 783 (by decide +kernel) rfl
theorem lmX3_83 : Cond.methodLink RX3 83 yJ_bitCount ∈ GW := gw 815 (by decide +kernel) rfl
theorem lmX4_60 : Cond.methodLink RX4 60 Lib.Math.min.name ∈ GW := gw 772 (by decide +kernel) rfl
theorem lmX6_52 : Cond.methodLink RX6 52 Lib.Math.max.name ∈ GW := gw 754 (by decide +kernel) rfl
theorem lmX8_176 : Cond.methodLink RX8 176 yJ_bitCount ∈ GW := gw 578 (by decide +kernel) rfl
theorem acW : Cond.native arraycopyName ∈ GW ∧ Cond.static arraycopyName ∈ GW ∧ Cond.initialized "java/lang/System" ∈ GW := ⟨gw 489 (by decide +kernel) rfl, gw 488 (by decide +kernel) rfl, gw 66 (by decide +kernel) rfl⟩
end
section
/-- how many of the first n have p; how many bits a set has -/
def cn (p : Nat → Bool) : Nat → Nat
  | 0 => 0
  | n + 1 => cn p n + (p n).toNat
def cd (a : Nat) : Nat := cn a.testBit 12
def bcS (x : Int32) (k : Nat) : Int32 := (x.toUInt32 >>> ((nI k).toUInt32 &&& Int32.toUInt32 31)).toInt32
def bc1 (x : Int32) : Int32 := x - (bcS x 1 &&& 1431655765)
def bc2 (x : Int32) : Int32 := (x &&& 858993459) + (bcS x 2 &&& 858993459)
def bc3 (x : Int32) : Int32 := (x + bcS x 4) &&& 252645135
def bc4 (x : Int32) : Int32 := x + bcS x 8
def bc5 (x : Int32) : Int32 := x + bcS x 16
theorem bc_all : (List.range 4096).all (fun n => decide (bc5 (bc4 (bc3 (bc2 (bc1 (nI n))))) &&& nI 63 = nI (cd n))) = true := by decide +kernel
theorem bc_eq {n : Nat} (hn : n < 4096) : bc5 (bc4 (bc3 (bc2 (bc1 (nI n))))) &&& nI 63 = nI (cd n) := of_decide_eq_true (List.all_eq_true.mp bc_all n (List.mem_range.mpr hn))
set_option maxHeartbeats 4000000 in
set_option maxRecDepth 20000 in
theorem ct_J_bitCount (l : Launch) (n : Nat) (hn : n < 4096) : Ct l 0 yJ_bitCount cJ_bitCount 1 (some .int) [.int (nI n)] ([]) (RV (.int (nI (cd n))) []) := by
  refine Ct.of (by decide) (Nat.le_of_ble_eq_true rfl) (fun K hC hR => ?_)
  show K 0 [(0, .int (nI n))] [] _
  refine hC.iload_n dJ_bitCount_0 rfl ?_
  refine hC.iload_n dJ_bitCount_1 rfl ?_
  refine hC.iconst dJ_bitCount_2 (v := nI 1) rfl ?_
  refine hC.iushr dJ_bitCount_3 ?_
  refine hC.ldc_w dJ_bitCount_4 lcJ_265 ?_
  refine hC.iand dJ_bitCount_7 ?_
  refine hC.isub dJ_bitCount_8 ?_
  refine hC.istore_n (x := bc1 (nI n)) dJ_bitCount_9 (by decide) ?_
  refine hC.iload_n dJ_bitCount_10 rfl ?_
  refine hC.ldc_w dJ_bitCount_11 lcJ_266 ?_
  refine hC.iand dJ_bitCount_14 ?_
  refine hC.iload_n dJ_bitCount_15 rfl ?_
  refine hC.iconst dJ_bitCount_16 (v := nI 2) rfl ?_
  refine hC.iushr dJ_bitCount_17 ?_
  refine hC.ldc_w dJ_bitCount_18 lcJ_266 ?_
  refine hC.iand dJ_bitCount_21 ?_
  refine hC.iadd dJ_bitCount_22 ?_
  refine hC.istore_n (x := bc2 (bc1 (nI n))) dJ_bitCount_23 (by decide) ?_
  refine hC.iload_n dJ_bitCount_24 rfl ?_
  refine hC.iload_n dJ_bitCount_25 rfl ?_
  refine hC.iconst dJ_bitCount_26 (v := nI 4) rfl ?_
  refine hC.iushr dJ_bitCount_27 ?_
  refine hC.iadd dJ_bitCount_28 ?_
  refine hC.ldc_w dJ_bitCount_29 lcJ_267 ?_
  refine hC.iand dJ_bitCount_32 ?_
  refine hC.istore_n (x := bc3 (bc2 (bc1 (nI n)))) dJ_bitCount_33 (by decide) ?_
  refine hC.iload_n dJ_bitCount_34 rfl ?_
  refine hC.iload_n dJ_bitCount_35 rfl ?_
  refine hC.bipush dJ_bitCount_36 (v := nI 8) rfl ?_
  refine hC.iushr dJ_bitCount_38 ?_
  refine hC.iadd dJ_bitCount_39 ?_
  refine hC.istore_n (x := bc4 (bc3 (bc2 (bc1 (nI n))))) dJ_bitCount_40 (by decide) ?_
  refine hC.iload_n dJ_bitCount_41 rfl ?_
  refine hC.iload_n dJ_bitCount_42 rfl ?_
  refine hC.bipush dJ_bitCount_43 (v := nI 16) rfl ?_
  refine hC.iushr dJ_bitCount_45 ?_
  refine hC.iadd dJ_bitCount_46 ?_
  refine hC.istore_n (x := bc5 (bc4 (bc3 (bc2 (bc1 (nI n)))))) dJ_bitCount_47 (by decide) ?_
  refine hC.iload_n dJ_bitCount_48 rfl ?_
  refine hC.bipush dJ_bitCount_49 (v := nI 63) rfl ?_
  refine hC.iand dJ_bitCount_51 ?_
  exact hR.ireturn dJ_bitCount_52 ⟨congrArg (fun z => some (Value.int z)) (bc_eq hn), rfl⟩
theorem max_nI {a b : Nat} (ha : a < 2 ^ 31) (hb : b < 2 ^ 31) : (if nI a < nI b then nI b else nI a) = nI (max a b) := by
  by_cases h : a < b
  · rw [if_pos ((nI_ltI ha hb).mpr h), Nat.max_eq_right (by omega)]
  · rw [if_neg (fun c => h ((nI_ltI ha hb).mp c)), Nat.max_eq_left (by omega)]
theorem min_nI {a b : Nat} (ha : a < 2 ^ 31) (hb : b < 2 ^ 31) : (if nI b < nI a then nI b else nI a) = nI (min a b) := by
  by_cases h : b < a
  · rw [if_pos ((nI_ltI hb ha).mpr h), Nat.min_eq_right (by omega)]
  · rw [if_neg (fun c => h ((nI_ltI hb ha).mp c)), Nat.min_eq_left (by omega)]
section CLM
variable {l : Launch} {cc : ByteArray} {own : String} {nL : Nat} {R : Room} {K : AK} {pc : Nat} {ls : AL} {st : List Value} {hs : List va_E}
theorem Cl.mmax (h : Cl l cc own nL R K) {idx a b : Nat} (ha : a < 2 ^ 31) (hb2 : b < 2 ^ 31) (hd : decode cc pc = .ok (.invokestatic idx, 3)) (hlk : Cond.methodLink own idx Lib.Math.max.name ∈ GW) (hR : 1 ≤ R.frames ∧ (st.map fun v => v.category).sum + 13 ≤ R.locals) (k : K (pc + 3) ls (.int (nI (max a b)) :: st) hs) : K pc ls (.int (nI b) :: .int (nI a) :: st) hs := by
  obtain ⟨p, e, s, m, args, below, meth, c, D, cA, ad, A0, H0, N, ck, sk, Q, ⟨hx, hb, hml, hown, hts, hKX, hD0, hA0, hcs⟩, rfl⟩ := h
  intro hN H locs lsC hP hS hl
  refine va_mmax hx hb (hml.trans hl.1.symm) hown (hts _ hlk) (hts _ mmaxW.1) (hts _ mmaxW.2.1) (hts _ mmaxW.2.2) hR.1 ?_ hcs.1 hcs.2 hd ?_
  · rw [List.map_map]
    have e0 : ((fun v : Value => v.category) ∘ tv ad) = fun v => v.category := funext (fun v => tv_cat ad v)
    rw [e0]
    exact hR.2
  · rw [max_nI ha hb2]
    exact k hN H locs lsC hP hS hl
theorem Cl.mmin (h : Cl l cc own nL R K) {idx a b : Nat} (ha : a < 2 ^ 31) (hb2 : b < 2 ^ 31) (hd : decode cc pc = .ok (.invokestatic idx, 3)) (hlk : Cond.methodLink own idx Lib.Math.min.name ∈ GW) (hR : 1 ≤ R.frames ∧ (st.map fun v => v.category).sum + 13 ≤ R.locals) (k : K (pc + 3) ls (.int (nI (min a b)) :: st) hs) : K pc ls (.int (nI b) :: .int (nI a) :: st) hs := by
  obtain ⟨p, e, s, m, args, below, meth, c, D, cA, ad, A0, H0, N, ck, sk, Q, ⟨hx, hb, hml, hown, hts, hKX, hD0, hA0, hcs⟩, rfl⟩ := h
  intro hN H locs lsC hP hS hl
  refine va_mmin hx hb (hml.trans hl.1.symm) hown (hts _ hlk) (hts _ mminW.1) (hts _ mminW.2.1) (hts _ mminW.2.2) hR.1 ?_ hcs.1 hcs.2 hd ?_
  · rw [List.map_map]
    have e0 : ((fun v : Value => v.category) ∘ tv ad) = fun v => v.category := funext (fun v => tv_cat ad v)
    rw [e0]
    exact hR.2
  · rw [min_nI ha hb2]
    exact k hN H locs lsC hP hS hl
end CLM
/-! copies of a row into another of the same length, from 0 to its end -/
theorem arrV_congr (cA : ClassId) (n : Nat) {f g : Nat → Value} (h : ∀ j, j < n → f j = g j) : arrV cA n f = arrV cA n g := by
  have e : ∀ k, k ≤ n → (List.range k).map f = (List.range k).map g := fun k hk => List.map_congr_left (fun j hj => h j (Nat.lt_of_lt_of_le (List.mem_range.mp hj) hk))
  first
    | (unfold arrV; simp only [e n (Nat.le_refl n)]; done)
    | (unfold arrV; congr 1; apply Array.ext <;> simp <;> intro i hi <;> exact h i (by omega))
set_option maxHeartbeats 4000000 in
theorem Cl.copyI {l : Launch} {cc : ByteArray} {own : String} {nL : Nat} {R : Room} {K : AK} {pc : Nat} {ls : AL} {st : List Value} {hs : List va_E} (h : Cl l cc own nL R K) {idx a0 a1 n : Nat} {f g : Nat → Int32} (hd : decode cc pc = .ok (.invokestatic idx, 3)) (hlk : Cond.methodLink own idx arraycopyName ∈ GW)
    (h0 : hs[a0]? = some (.inl (0, n, .inl f))) (h1 : hs[a1]? = some (.inl (0, n, .inl g))) (hn : n < 1000) (hR : 1 ≤ R.frames ∧ (st.map fun v => v.category).sum + 60 ≤ R.locals)
    (k : K (pc + 3) ls st (hs.set a1 (.inl (0, n, .inl f)))) : K pc ls (.int (nI n) :: .int (nI 0) :: .ref a1 :: .int (nI 0) :: .ref a0 :: st) hs := by
  obtain ⟨p, e, s, m, args, below, meth, c, D, cA, ad, A0, H0, N, ck, sk, Q, ⟨hx, hb, hml, hown, hts, hKX, hD0, hA0, hcs⟩, rfl⟩ := h
  intro hN H locs lsC hP hS hl
  have hc0 : (nI n).toNatClampNeg = n := nI_clamp (by omega)
  have hz : (nI 0).toNatClampNeg = 0 := nI_clamp (by decide)
  refine va_copyi hx hb (hml.trans hl.1.symm) hown (hts _ hlk) (hts _ acW.1) (hts _ acW.2.1) (hts _ acW.2.2) hKX.1 hP (hD0 hs hN) hS a0 a1 0 0 (tw_at h0) (tw_at h1) rfl rfl rfl (by decide) (by decide) (nI_pos (by omega)) (by rw [hc0, hz]; omega) (by rw [hc0, hz]; omega) (fun _ _ => rfl) hR.1 ?_ hd (fun H1 locs1 hP1 hD1 hS1 => k (by rw [List.length_set]; exact hN) H1 locs1 lsC ?_ hS1 hl)
  · rw [List.map_map]
    have e0 : ((fun v : Value => v.category) ∘ tv ad) = fun v => v.category := funext (fun v => tv_cat ad v)
    rw [e0]
    have : nativeFrameWords "java/lang/System" "arraycopy" 5 + 11 ≤ 60 := by decide +kernel
    omega
  · rw [tw_set]
    intro i q hi
    have h2 := hP1
    rw [hc0, hz] at h2
    by_cases hia : i = a1
    · subst hia
      have hlen : i < (tw cA ad hs).length := by rw [tw_len]; exact (List.getElem?_eq_some_iff.mp h1).1
      rw [List.getElem?_set_self hlen] at hi
      have h3 := h2 i _ (List.getElem?_set_self hlen)
      rw [← Option.some.inj hi]
      show H1[ad i]? = some (vp_cell (cA 0) (n, .inl f))
      have h4 : H1[ad i]? = some (vp_cell (cA 0) (n, .inl (va_cpy f g 0 0 n))) := h3
      rw [h4, vp_cell_i, vp_cell_i]
      exact congrArg some (arrV_congr _ _ (fun j hj => by simp [va_cpy, hj]))
    · rw [List.getElem?_set_ne (fun e => hia e.symm)] at hi
      refine h2 i q ?_
      rw [List.getElem?_set_ne (fun e => hia e.symm)]
      exact hi
end
section
/-! sums, unions; what flies; StripFlag$Plan's other reads -/
def sm (f : Nat → Nat) : Nat → Nat
  | 0 => 0
  | n + 1 => sm f n + f n
def orF (f : Nat → Nat) : Nat → Nat
  | 0 => 0
  | n + 1 => orF f n ||| f n
theorem orF_tb (f : Nat → Nat) : ∀ n i, (orF f n).testBit i = true ↔ ∃ s, s < n ∧ (f s).testBit i = true
  | 0, i => by simp [orF]
  | n + 1, i => by
    show (orF f n ||| f n).testBit i = true ↔ _
    rw [Nat.testBit_or, Bool.or_eq_true, orF_tb f n i]
    constructor
    · rintro (⟨s, h1, h2⟩ | h)
      · exact ⟨s, by omega, h2⟩
      · exact ⟨n, by omega, h⟩
    · rintro ⟨s, h1, h2⟩
      by_cases h : s = n
      · subst h; exact Or.inr h2
      · exact Or.inl ⟨s, by omega, h2⟩
theorem orF_lt {f : Nat → Nat} {k : Nat} (h : ∀ s, f s < 2 ^ k) : ∀ n, orF f n < 2 ^ k
  | 0 => Nat.two_pow_pos k
  | n + 1 => or_b k (orF_lt h n) (h n)
theorem sm_le {f : Nat → Nat} {b : Nat} (h : ∀ s, f s ≤ b) : ∀ n, sm f n ≤ n * b
  | 0 => Nat.zero_le _
  | n + 1 => by have := sm_le h n; have := h n; simp only [sm, Nat.add_mul]; omega
theorem cn_le (p : Nat → Bool) : ∀ n, cn p n ≤ n
  | 0 => Nat.le_refl 0
  | n + 1 => by have := cn_le p n; simp only [cn]; cases p n <;> simp <;> omega
theorem cn_mono {p q : Nat → Bool} : ∀ n, (∀ i, i < n → p i = true → q i = true) → cn p n ≤ cn q n
  | 0, _ => Nat.le_refl 0
  | n + 1, h => by
    have h1 := cn_mono n (fun i hi => h i (by omega))
    have h2 := h n (by omega)
    simp only [cn]
    cases hp : p n
    · simp; omega
    · rw [h2 hp]; simp; omega
theorem cn_lt {p q : Nat → Bool} : ∀ n, (∀ i, i < n → p i = true → q i = true) → (∃ i, i < n ∧ p i = false ∧ q i = true) → cn p n < cn q n
  | 0, _, ⟨i, hi, _⟩ => by omega
  | n + 1, h, ⟨i, hi, h1, h2⟩ => by
    simp only [cn]
    by_cases hin : i = n
    · subst hin
      have := cn_mono (p := p) (q := q) i (fun j hj => h j (by omega))
      rw [h1, h2]; simp; omega
    · have h3 := cn_lt n (fun j hj => h j (by omega)) ⟨i, by omega, h1, h2⟩
      have h4 := h n (by omega)
      cases hp : p n
      · simp; omega
      · rw [h4 hp]; simp; omega
theorem cn_full {p : Nat → Bool} : ∀ n, n ≤ cn p n → ∀ i, i < n → p i = true
  | 0, _, i, hi => by omega
  | n + 1, h, i, hi => by
    have h1 := cn_le p n
    simp only [cn] at h
    cases hp : p n
    · rw [hp] at h; simp at h; omega
    · by_cases hin : i = n
      · subst hin; exact hp
      · exact cn_full n (by rw [hp] at h; simp at h; omega) i (by omega)
def closedX (E : Nat → Nat) (N m X : Nat) : Prop := ∀ s, s < N → m.testBit s = true → E s &&& X ≠ 0 → ∀ i, (E s).testBit i = true → X.testBit i = true
def flyB (E : Nat → Nat) (N m a : Nat) : Prop := ∀ X, X < 512 → X.testBit 8 = true → closedX E N m X → X.testBit a = true
noncomputable def flyF (E : Nat → Nat) (N m : Nat) : Nat := bs 8 (fun a => @decide (flyB E N m a) (Classical.propDecidable _))
theorem flyF_tb (E : Nat → Nat) (N m a : Nat) : (flyF E N m).testBit a = true ↔ a < 8 ∧ flyB E N m a := by
  unfold flyF
  rw [bs_tb]
  simp
theorem flyF_lt (E : Nat → Nat) (N m : Nat) : flyF E N m < 256 := bs_lt _ 8
/-- a closed set, reached from the pole, is what flies -/
theorem flyF_of {E : Nat → Nat} {N m R : Nat} (h1 : R < 512) (h2 : R.testBit 8 = true) (h3 : closedX E N m R) (h4 : ∀ a, R.testBit a = true → flyB E N m a) : andn R 256 = flyF E N m := by
  refine set_ext (n := 9) (andn_b h1) (Nat.lt_trans (flyF_lt E N m) (by decide)) (fun i hi => ?_)
  have e : (andn R 256).testBit i = true ↔ (flyF E N m).testBit i = true := by
    rw [andn_tb, flyF_tb, show (256 : Nat) = 2 ^ 8 from rfl, Nat.testBit_two_pow]
    constructor
    · intro h
      simp at h
      exact ⟨by omega, h4 i h.1⟩
    · rintro ⟨g1, g2⟩
      have := g2 R h1 h2 h3
      simp [this]; omega
  cases ha : (andn R 256).testBit i <;> cases hb : (flyF E N m).testBit i
  · rfl
  · rw [e.mpr hb] at ha; cases ha
  · rw [e.mp ha] at hb; cases hb
  · rfl
def sprF (E : Nat → Nat) (m h : Nat) : Nat → Nat
  | 0 => h
  | n + 1 => if (m.testBit n && decide (E n &&& sprF E m h n ≠ 0)) = true then sprF E m h n ||| E n else sprF E m h n
theorem sprF_lt {E : Nat → Nat} {m h : Nat} (hE : ∀ s, E s < 512) (hh : h < 512) : ∀ n, sprF E m h n < 512
  | 0 => hh
  | n + 1 => by
    have h1 := sprF_lt (m := m) hE hh n
    unfold sprF
    split
    · exact or_b 9 h1 (hE n)
    · exact h1
theorem sprF_sup {E : Nat → Nat} {m h : Nat} : ∀ n k, n ≤ k → ∀ i, (sprF E m h n).testBit i = true → (sprF E m h k).testBit i = true := by
  intro n k hk
  induction k with
  | zero => intro i hi; have : n = 0 := by omega
            subst this; exact hi
  | succ k ih =>
    intro i hi
    by_cases e : n = k + 1
    · subst e; exact hi
    · have := ih (by omega) i hi
      show (sprF E m h (k + 1)).testBit i = true
      unfold sprF
      split
      · rw [Nat.testBit_or, this]; rfl
      · exact this
theorem sprF_sub {E : Nat → Nat} {N m h X : Nat} (hc : closedX E N m X) (hh : ∀ i, h.testBit i = true → X.testBit i = true) : ∀ n, n ≤ N → ∀ i, (sprF E m h n).testBit i = true → X.testBit i = true
  | 0, _, i, hi => hh i hi
  | n + 1, hn, i, hi => by
    have ih := sprF_sub hc hh n (by omega)
    unfold sprF at hi
    split at hi
    next hcond =>
      simp only [Bool.and_eq_true, decide_eq_true_eq] at hcond
      rw [Nat.testBit_or, Bool.or_eq_true] at hi
      rcases hi with hi | hi
      · exact ih i hi
      · refine hc n (by omega) hcond.1 ?_ i hi
        obtain ⟨j, hj⟩ := ne0_tb hcond.2
        rw [Nat.testBit_and, Bool.and_eq_true] at hj
        intro h0
        have := eq0_tb.mp h0 j
        rw [Nat.testBit_and, hj.1, ih j hj.2] at this
        cases this
    next => exact ih i hi
theorem sprF_closed {E : Nat → Nat} {N m h : Nat} (e : sprF E m h N = h) : closedX E N m h := by
  have eq : ∀ n, n ≤ N → sprF E m h n = h := by
    intro n hn
    apply Nat.eq_of_testBit_eq
    intro i
    cases hh : h.testBit i
    · cases hs : (sprF E m h n).testBit i
      · rfl
      · have := sprF_sup n N hn i hs
        rw [e, hh] at this; cases this
    · exact sprF_sup 0 n (Nat.zero_le n) i hh
  intro s hs hm hne i hi
  have h1 := eq (s + 1) hs
  unfold sprF at h1
  rw [eq s (by omega)] at h1
  rw [if_pos (by simp [hm, hne])] at h1
  rw [← h1, Nat.testBit_or, hi]; simp
theorem closed_all {E : Nat → Nat} {N m h : Nat} (hE : ∀ s, E s < 512) (hf : ∀ i, i < 9 → h.testBit i = true) : closedX E N m h := by
  intro s hs hm hne i hi
  by_cases h9 : i < 9
  · exact hf i h9
  · have := tb_lt (n := 9) (hE s) (i := i) (by omega)
    rw [this] at hi; cases hi
theorem nI_m257 (x : Nat) : nI x &&& (-257) = nI (andn x 256) := nI_andn x 256
set_option maxHeartbeats 4000000 in
set_option maxRecDepth 20000 in
theorem ct_X4_threadOf (l : Launch) (P : PlanT) (hP : PlanOK P) (m : Nat) (hm : m < 256) : Ct l 1 yX4_threadOf cX4_threadOf 4 (some .int) [.ref 0, .int (nI m)] (planW P) (RV (.int (nI (sm (fun s => if m.testBit s = true then P.1 7 s else 0) 8))) (planW P)) := by
  refine Ct.of (by decide) (Nat.le_of_ble_eq_true rfl) (fun K hC hR => ?_)
  show K 0 [(0, .ref 0), (1, .int (nI m))] [] _
  refine hC.iconst dX4_threadOf_0 (v := nI 0) rfl ?_
  refine hC.istore_n dX4_threadOf_1 (by decide) ?_
  refine hC.iconst dX4_threadOf_2 (v := nI 0) rfl ?_
  refine hC.istore_n dX4_threadOf_3 (by decide) ?_
  have loop : ∀ s, s ≤ 8 → K 4 [(0, .ref 0), (1, .int (nI m)), (2, .int (nI (sm (fun s => if m.testBit s = true then P.1 7 s else 0) s))), (3, .int (nI s))] [] (planW P) := by
    refine loopUp1 _ 8 ?_ (fun s hs ih => ?_)
    · refine hC.iload_n dX4_threadOf_4 rfl ?_
      refine hC.bipush dX4_threadOf_5 (v := nI 8) rfl ?_
      refine hC.n_ge (by omega) (by omega) dX4_threadOf_7 (tgt := 33) rfl (fun c => ?_) (fun c => ?_)
      · refine hC.iload_n dX4_threadOf_33 rfl ?_
        exact hR.ireturn dX4_threadOf_34 ⟨rfl, rfl⟩
      · omega
    · refine hC.iload_n dX4_threadOf_4 rfl ?_
      refine hC.bipush dX4_threadOf_5 (v := nI 8) rfl ?_
      refine hC.n_ge (by omega) (by omega) dX4_threadOf_7 (tgt := 33) rfl (fun c => ?_) (fun c => ?_)
      · omega
      · refine hC.iload_n dX4_threadOf_10 rfl ?_
        refine hC.iload_n dX4_threadOf_11 rfl ?_
        refine hC.rdSN [] dX4_threadOf_12 lnX4_66 mkX8_has sxX8_has (ct_X8_has l m s (by omega) (by omega)) ⟨Nat.le_of_ble_eq_true rfl, Nat.le_of_ble_eq_true rfl⟩ rfl rfl (Nat.le_of_ble_eq_true rfl) ⟨by decide, rfl⟩ ?_
        refine hC.bz dX4_threadOf_15 (tgt := 27) rfl (fun c1 => ?_) (fun c1 => ?_)
        · refine hC.iinc dX4_threadOf_27 rfl (nI_1 _) (by decide) ?_
          refine hC.goto dX4_threadOf_30 (tgt := 4) rfl ?_
          simp only [sm, c1, Bool.false_eq_true, if_false, Nat.add_zero] at ih
          exact hC.loc rfl ih
        · refine hC.iload_n dX4_threadOf_18 rfl ?_
          refine hC.aload_n dX4_threadOf_19 rfl ?_
          refine hC.getfield dX4_threadOf_20 lfX4_33 rfl rfl ?_
          refine hC.iload_n dX4_threadOf_23 rfl ?_
          refine hC.iaN dX4_threadOf_24 rfl ⟨by omega, by decide⟩ ?_
          refine hC.iadd dX4_threadOf_25 ?_
          refine hC.istore_n dX4_threadOf_26 (by decide) ?_
          refine hC.iinc dX4_threadOf_27 rfl (nI_1 _) (by decide) ?_
          refine hC.goto dX4_threadOf_30 (tgt := 4) rfl ?_
          rw [nI_add]
          simp only [sm, c1, if_true] at ih
          exact hC.loc rfl ih
  exact hC.loc rfl (loop 0 (by omega))
def ccP (P : PlanT) (n s : Nat) : Bool := decide (P.1 6 s &&& n ≠ 0) && decide (andn (P.1 6 s) n ≠ 0)
set_option maxHeartbeats 4000000 in
set_option maxRecDepth 20000 in
theorem ct_X4_couldsCrossing (l : Launch) (P : PlanT) (hP : PlanOK P) (n : Nat) : Ct l 1 yX4_couldsCrossing cX4_couldsCrossing 4 (some .int) [.ref 0, .int (nI n)] (planW P) (RV (.int (nI (bs (P.2 3) (ccP P n)))) (planW P)) := by
  refine Ct.of (by decide) (Nat.le_of_ble_eq_true rfl) (fun K hC hR => ?_)
  show K 0 [(0, .ref 0), (1, .int (nI n))] [] _
  have hE := hP.2.2.2.2.2.1
  have h8 := hP.2.2.2.1
  refine hC.iconst dX4_couldsCrossing_0 (v := nI 0) rfl ?_
  refine hC.istore_n dX4_couldsCrossing_1 (by decide) ?_
  refine hC.iconst dX4_couldsCrossing_2 (v := nI 0) rfl ?_
  refine hC.istore_n dX4_couldsCrossing_3 (by decide) ?_
  have loop : ∀ s, s ≤ P.2 3 → K 4 [(0, .ref 0), (1, .int (nI n)), (2, .int (nI (bs s (ccP P n)))), (3, .int (nI s))] [] (planW P) := by
    refine loopUp1 _ (P.2 3) ?_ (fun s hs ih => ?_)
    · refine hC.iload_n dX4_couldsCrossing_4 rfl ?_
      refine hC.aload_n dX4_couldsCrossing_5 rfl ?_
      refine hC.getfield dX4_couldsCrossing_6 lfX4_46 rfl rfl ?_
      refine hC.n_ge (by omega) (by omega) dX4_couldsCrossing_9 (tgt := 54) rfl (fun c => ?_) (fun c => ?_)
      · refine hC.iload_n dX4_couldsCrossing_54 rfl ?_
        exact hR.ireturn dX4_couldsCrossing_55 ⟨rfl, rfl⟩
      · omega
    · have hs2 := Nat.lt_trans (hE s) (show 512 < 2 ^ 31 by decide)
      refine hC.iload_n dX4_couldsCrossing_4 rfl ?_
      refine hC.aload_n dX4_couldsCrossing_5 rfl ?_
      refine hC.getfield dX4_couldsCrossing_6 lfX4_46 rfl rfl ?_
      refine hC.n_ge (by omega) (by omega) dX4_couldsCrossing_9 (tgt := 54) rfl (fun c => ?_) (fun c => ?_)
      · omega
      · refine hC.iload_n dX4_couldsCrossing_12 rfl ?_
        refine hC.bipush dX4_couldsCrossing_13 (v := nI 8) rfl ?_
        refine hC.n_ge (by omega) (by omega) dX4_couldsCrossing_15 (tgt := 54) rfl (fun c0 => ?_) (fun c0 => ?_)
        · omega
        · refine hC.aload_n dX4_couldsCrossing_18 rfl ?_
          refine hC.getfield dX4_couldsCrossing_19 lfX4_30 rfl rfl ?_
          refine hC.iload_n dX4_couldsCrossing_22 rfl ?_
          refine hC.iaN dX4_couldsCrossing_23 rfl ⟨by omega, by decide⟩ ?_
          refine hC.iload_n dX4_couldsCrossing_24 rfl ?_
          refine hC.iand dX4_couldsCrossing_25 ?_
          rw [nI_and]
          refine hC.nz (and_b hs2) dX4_couldsCrossing_26 (tgt := 48) rfl (fun c2 => ?_) (fun c2 => ?_)
          · refine hC.iinc dX4_couldsCrossing_48 rfl (nI_1 _) (by decide) ?_
            refine hC.goto dX4_couldsCrossing_51 (tgt := 4) rfl ?_
            rw [bs_f (show ccP P n s = false by simp [ccP, c2])] at ih
            exact hC.loc rfl ih
          · refine hC.aload_n dX4_couldsCrossing_29 rfl ?_
            refine hC.getfield dX4_couldsCrossing_30 lfX4_30 rfl rfl ?_
            refine hC.iload_n dX4_couldsCrossing_33 rfl ?_
            refine hC.iaN dX4_couldsCrossing_34 rfl ⟨by omega, by decide⟩ ?_
            refine hC.iload_n dX4_couldsCrossing_35 rfl ?_
            refine hC.iconst dX4_couldsCrossing_36 (v := (-1)) rfl ?_
            refine hC.ixor dX4_couldsCrossing_37 ?_
            refine hC.iand dX4_couldsCrossing_38 ?_
            rw [nI_andn]
            refine hC.nz (andn_b hs2) dX4_couldsCrossing_39 (tgt := 48) rfl (fun c3 => ?_) (fun c3 => ?_)
            · refine hC.iinc dX4_couldsCrossing_48 rfl (nI_1 _) (by decide) ?_
              refine hC.goto dX4_couldsCrossing_51 (tgt := 4) rfl ?_
              rw [bs_f (show ccP P n s = false by simp [ccP, c3])] at ih
              exact hC.loc rfl ih
            · refine hC.iload_n dX4_couldsCrossing_42 rfl ?_
              refine hC.iconst dX4_couldsCrossing_43 (v := nI 1) rfl ?_
              refine hC.iload_n dX4_couldsCrossing_44 rfl ?_
              refine hC.ishl dX4_couldsCrossing_45 ?_
              refine hC.ior dX4_couldsCrossing_46 ?_
              refine hC.istore_n dX4_couldsCrossing_47 (by decide) ?_
              refine hC.iinc dX4_couldsCrossing_48 rfl (nI_1 _) (by decide) ?_
              refine hC.goto dX4_couldsCrossing_51 (tgt := 4) rfl ?_
              rw [bs_t (show ccP P n s = true by simp [ccP, c2, c3])] at ih
              rw [nI_shl (by omega), nI_or, Nat.one_mul]
              exact hC.loc rfl ih
  exact hC.loc rfl (loop 0 (by omega))
set_option maxHeartbeats 4000000 in
set_option maxRecDepth 20000 in
theorem ct_X4_seamsOf (l : Launch) (P : PlanT) (hP : PlanOK P) (a m : Nat) (ha : a < 32) (hm : m < 4096) : Ct l 2 yX4_seamsOf cX4_seamsOf 3 (some .int) [.ref 0, .int (nI a), .int (nI m)] (planW P) (RV (.int (nI (crossF P (2 ^ a) m))) (planW P)) := by
  refine Ct.of (by decide) (Nat.le_of_ble_eq_true rfl) (fun K hC hR => ?_)
  show K 0 [(0, .ref 0), (1, .int (nI a)), (2, .int (nI m))] [] _
  refine hC.aload_n dX4_seamsOf_0 rfl ?_
  refine hC.iconst dX4_seamsOf_1 (v := nI 1) rfl ?_
  refine hC.iload_n dX4_seamsOf_2 rfl ?_
  refine hC.ishl dX4_seamsOf_3 ?_
  refine hC.iload_n dX4_seamsOf_4 rfl ?_
  rw [nI_shl ha, Nat.one_mul]
  refine hC.rdV [0, 1, 2, 3, 4, 5, 6, 7, 8] dX4_seamsOf_5 lmX4_70 mkX4_crossing svX4_crossing (ct_X4_crossing l P hP (2 ^ a) m hm) ⟨Nat.le_of_ble_eq_true rfl, Nat.le_of_ble_eq_true rfl⟩ rfl rfl (Nat.le_of_ble_eq_true rfl) ⟨by decide, rfl⟩ rfl rfl ?_
  exact hR.ireturn dX4_seamsOf_8 ⟨rfl, rfl⟩
def nrF (E : Nat → Nat) (m a : Nat) : Nat → Nat := fun s => if (m.testBit s && (E s).testBit a) = true then E s else 0
def bdF (P : PlanT) (a m : Nat) : Nat := andn (andn (orF (nrF (P.1 5) m a) 12) 256) (2 ^ a)
theorem nrF_lt {E : Nat → Nat} (hE : ∀ s, E s < 512) (m a s : Nat) : nrF E m a s < 2 ^ 9 := by
  unfold nrF; split
  · exact hE s
  · decide
theorem bdF_lt {P : PlanT} (hP : PlanOK P) (a m : Nat) : bdF P a m < 512 := andn_b (andn_b (orF_lt (k := 9) (nrF_lt hP.2.2.2.2.1 m a) 12))
set_option maxHeartbeats 4000000 in
set_option maxRecDepth 20000 in
theorem ct_X4_bordering (l : Launch) (P : PlanT) (hP : PlanOK P) (a m : Nat) (ha : a < 31) (hm : m < 4096) : Ct l 1 yX4_bordering cX4_bordering 5 (some .int) [.ref 0, .int (nI a), .int (nI m)] (planW P) (RV (.int (nI (bdF P a m))) (planW P)) := by
  refine Ct.of (by decide) (Nat.le_of_ble_eq_true rfl) (fun K hC hR => ?_)
  show K 0 [(0, .ref 0), (1, .int (nI a)), (2, .int (nI m))] [] _
  have hE := hP.2.2.2.2.1
  refine hC.iconst dX4_bordering_0 (v := nI 0) rfl ?_
  refine hC.istore_n dX4_bordering_1 (by decide) ?_
  refine hC.iconst dX4_bordering_2 (v := nI 0) rfl ?_
  refine hC.istore dX4_bordering_3 (by decide) ?_
  have loop : ∀ s, s ≤ 12 → K 5 [(0, .ref 0), (1, .int (nI a)), (2, .int (nI m)), (3, .int (nI (orF (nrF (P.1 5) m a) s))), (4, .int (nI s))] [] (planW P) := by
    refine loopUp1 _ 12 ?_ (fun s hs ih => ?_)
    · refine hC.iload dX4_bordering_5 rfl ?_
      refine hC.bipush dX4_bordering_7 (v := nI 12) rfl ?_
      refine hC.n_ge (by omega) (by omega) dX4_bordering_9 (tgt := 51) rfl (fun c => ?_) (fun c => ?_)
      · refine hC.iload_n dX4_bordering_51 rfl ?_
        refine hC.sipush dX4_bordering_52 (v := (-257)) rfl ?_
        refine hC.iand dX4_bordering_55 ?_
        rw [nI_m257]
        refine hC.iconst dX4_bordering_56 (v := nI 1) rfl ?_
        refine hC.iload_n dX4_bordering_57 rfl ?_
        refine hC.ishl dX4_bordering_58 ?_
        refine hC.iconst dX4_bordering_59 (v := (-1)) rfl ?_
        refine hC.ixor dX4_bordering_60 ?_
        refine hC.iand dX4_bordering_61 ?_
        rw [nI_shl (by omega), Nat.one_mul, nI_andn]
        exact hR.ireturn dX4_bordering_62 ⟨rfl, rfl⟩
      · omega
    · have hs2 := Nat.lt_trans (hE s) (show 512 < 2 ^ 31 by decide)
      refine hC.iload dX4_bordering_5 rfl ?_
      refine hC.bipush dX4_bordering_7 (v := nI 12) rfl ?_
      refine hC.n_ge (by omega) (by omega) dX4_bordering_9 (tgt := 51) rfl (fun c => ?_) (fun c => ?_)
      · omega
      · refine hC.iload_n dX4_bordering_12 rfl ?_
        refine hC.iload dX4_bordering_13 rfl ?_
        refine hC.rdSN [] dX4_bordering_15 lnX4_66 mkX8_has sxX8_has (ct_X8_has l m s (by omega) (by omega)) ⟨Nat.le_of_ble_eq_true rfl, Nat.le_of_ble_eq_true rfl⟩ rfl rfl (Nat.le_of_ble_eq_true rfl) ⟨by decide, rfl⟩ ?_
        refine hC.bz dX4_bordering_18 (tgt := 45) rfl (fun c1 => ?_) (fun c1 => ?_)
        · refine hC.iinc dX4_bordering_45 rfl (nI_1 _) (by decide) ?_
          refine hC.goto dX4_bordering_48 (tgt := 5) rfl ?_
          rw [show orF (nrF (P.1 5) m a) (s + 1) = orF (nrF (P.1 5) m a) s by simp [orF, nrF, c1]] at ih
          exact hC.loc rfl ih
        · refine hC.aload_n dX4_bordering_21 rfl ?_
          refine hC.getfield dX4_bordering_22 lfX4_27 rfl rfl ?_
          refine hC.iload dX4_bordering_25 rfl ?_
          refine hC.iaN dX4_bordering_27 rfl ⟨by omega, by decide⟩ ?_
          refine hC.iload_n dX4_bordering_28 rfl ?_
          refine hC.rdSN [] dX4_bordering_29 lnX4_66 mkX8_has sxX8_has (ct_X8_has l (P.1 5 s) a hs2 (by omega)) ⟨Nat.le_of_ble_eq_true rfl, Nat.le_of_ble_eq_true rfl⟩ rfl rfl (Nat.le_of_ble_eq_true rfl) ⟨by decide, rfl⟩ ?_
          refine hC.bz dX4_bordering_32 (tgt := 45) rfl (fun c2 => ?_) (fun c2 => ?_)
          · refine hC.iinc dX4_bordering_45 rfl (nI_1 _) (by decide) ?_
            refine hC.goto dX4_bordering_48 (tgt := 5) rfl ?_
            rw [show orF (nrF (P.1 5) m a) (s + 1) = orF (nrF (P.1 5) m a) s by simp [orF, nrF, c2]] at ih
            exact hC.loc rfl ih
          · refine hC.iload_n dX4_bordering_35 rfl ?_
            refine hC.aload_n dX4_bordering_36 rfl ?_
            refine hC.getfield dX4_bordering_37 lfX4_27 rfl rfl ?_
            refine hC.iload dX4_bordering_40 rfl ?_
            refine hC.iaN dX4_bordering_42 rfl ⟨by omega, by decide⟩ ?_
            refine hC.ior dX4_bordering_43 ?_
            refine hC.istore_n dX4_bordering_44 (by decide) ?_
            refine hC.iinc dX4_bordering_45 rfl (nI_1 _) (by decide) ?_
            refine hC.goto dX4_bordering_48 (tgt := 5) rfl ?_
            rw [nI_or]
            rw [show orF (nrF (P.1 5) m a) (s + 1) = orF (nrF (P.1 5) m a) s ||| P.1 5 s by simp [orF, nrF, c1, c2]] at ih
            exact hC.loc rfl ih
  exact hC.loc rfl (loop 0 (by omega))
def upP (P : PlanT) (a m h s : Nat) : Bool := (andn m h).testBit s && (!(P.1 5 s).testBit a && decide (P.1 5 s &&& bdF P a m ≠ 0))
def upF (P : PlanT) (a m h : Nat) : Nat := bs 12 (upP P a m h)
set_option maxHeartbeats 4000000 in
set_option maxRecDepth 20000 in
theorem ct_X4_unpickable (l : Launch) (P : PlanT) (hP : PlanOK P) (a m h : Nat) (ha : a < 31) (hm : m < 4096) : Ct l 2 yX4_unpickable cX4_unpickable 7 (some .int) [.ref 0, .int (nI a), .int (nI m), .int (nI h)] (planW P) (RV (.int (nI (upF P a m h))) (planW P)) := by
  refine Ct.of (by decide) (Nat.le_of_ble_eq_true rfl) (fun K hC hR => ?_)
  show K 0 [(0, .ref 0), (1, .int (nI a)), (2, .int (nI m)), (3, .int (nI h))] [] _
  have hE := hP.2.2.2.2.1
  refine hC.aload_n dX4_unpickable_0 rfl ?_
  refine hC.iload_n dX4_unpickable_1 rfl ?_
  refine hC.iload_n dX4_unpickable_2 rfl ?_
  refine hC.rdV [0, 1, 2, 3, 4, 5, 6, 7, 8] dX4_unpickable_3 lmX4_73 mkX4_bordering svX4_bordering (ct_X4_bordering l P hP a m ha hm) ⟨Nat.le_of_ble_eq_true rfl, Nat.le_of_ble_eq_true rfl⟩ rfl rfl (Nat.le_of_ble_eq_true rfl) ⟨by decide, rfl⟩ rfl rfl ?_
  refine hC.istore dX4_unpickable_6 (by decide) ?_
  refine hC.iconst dX4_unpickable_8 (v := nI 0) rfl ?_
  refine hC.istore dX4_unpickable_9 (by decide) ?_
  refine hC.iconst dX4_unpickable_11 (v := nI 0) rfl ?_
  refine hC.istore dX4_unpickable_12 (by decide) ?_
  have loop : ∀ s, s ≤ 12 → K 14 [(0, .ref 0), (1, .int (nI a)), (2, .int (nI m)), (3, .int (nI h)), (4, .int (nI (bdF P a m))), (5, .int (nI (bs s (upP P a m h)))), (6, .int (nI s))] [] (planW P) := by
    refine loopUp1 _ 12 ?_ (fun s hs ih => ?_)
    · refine hC.iload dX4_unpickable_14 rfl ?_
      refine hC.bipush dX4_unpickable_16 (v := nI 12) rfl ?_
      refine hC.n_ge (by omega) (by omega) dX4_unpickable_18 (tgt := 76) rfl (fun c => ?_) (fun c => ?_)
      · refine hC.iload dX4_unpickable_76 rfl ?_
        exact hR.ireturn dX4_unpickable_78 ⟨rfl, rfl⟩
      · omega
    · have hs2 := Nat.lt_trans (hE s) (show 512 < 2 ^ 31 by decide)
      refine hC.iload dX4_unpickable_14 rfl ?_
      refine hC.bipush dX4_unpickable_16 (v := nI 12) rfl ?_
      refine hC.n_ge (by omega) (by omega) dX4_unpickable_18 (tgt := 76) rfl (fun c => ?_) (fun c => ?_)
      · omega
      · refine hC.iload_n dX4_unpickable_21 rfl ?_
        refine hC.iload_n dX4_unpickable_22 rfl ?_
        refine hC.iconst dX4_unpickable_23 (v := (-1)) rfl ?_
        refine hC.ixor dX4_unpickable_24 ?_
        refine hC.iand dX4_unpickable_25 ?_
        refine hC.iload dX4_unpickable_26 rfl ?_
        rw [nI_andn]
        refine hC.rdSN [] dX4_unpickable_28 lnX4_66 mkX8_has sxX8_has (ct_X8_has l (andn m h) s (andn_b (Nat.lt_trans hm (by decide))) (by omega)) ⟨Nat.le_of_ble_eq_true rfl, Nat.le_of_ble_eq_true rfl⟩ rfl rfl (Nat.le_of_ble_eq_true rfl) ⟨by decide, rfl⟩ ?_
        refine hC.bz dX4_unpickable_31 (tgt := 70) rfl (fun c1 => ?_) (fun c1 => ?_)
        · refine hC.iinc dX4_unpickable_70 rfl (nI_1 _) (by decide) ?_
          refine hC.goto dX4_unpickable_73 (tgt := 14) rfl ?_
          rw [bs_f (show upP P a m h s = false by simp [upP, c1])] at ih
          exact hC.loc rfl ih
        · refine hC.aload_n dX4_unpickable_34 rfl ?_
          refine hC.getfield dX4_unpickable_35 lfX4_27 rfl rfl ?_
          refine hC.iload dX4_unpickable_38 rfl ?_
          refine hC.iaN dX4_unpickable_40 rfl ⟨by omega, by decide⟩ ?_
          refine hC.iload_n dX4_unpickable_41 rfl ?_
          refine hC.rdSN [] dX4_unpickable_42 lnX4_66 mkX8_has sxX8_has (ct_X8_has l (P.1 5 s) a hs2 (by omega)) ⟨Nat.le_of_ble_eq_true rfl, Nat.le_of_ble_eq_true rfl⟩ rfl rfl (Nat.le_of_ble_eq_true rfl) ⟨by decide, rfl⟩ ?_
          refine hC.bnz dX4_unpickable_45 (tgt := 70) rfl (fun c2 => ?_) (fun c2 => ?_)
          · refine hC.iinc dX4_unpickable_70 rfl (nI_1 _) (by decide) ?_
            refine hC.goto dX4_unpickable_73 (tgt := 14) rfl ?_
            rw [bs_f (show upP P a m h s = false by simp [upP, c2])] at ih
            exact hC.loc rfl ih
          · refine hC.aload_n dX4_unpickable_48 rfl ?_
            refine hC.getfield dX4_unpickable_49 lfX4_27 rfl rfl ?_
            refine hC.iload dX4_unpickable_52 rfl ?_
            refine hC.iaN dX4_unpickable_54 rfl ⟨by omega, by decide⟩ ?_
            refine hC.iload dX4_unpickable_55 rfl ?_
            refine hC.iand dX4_unpickable_57 ?_
            rw [nI_and]
            refine hC.nz (and_b hs2) dX4_unpickable_58 (tgt := 70) rfl (fun c3 => ?_) (fun c3 => ?_)
            · refine hC.iinc dX4_unpickable_70 rfl (nI_1 _) (by decide) ?_
              refine hC.goto dX4_unpickable_73 (tgt := 14) rfl ?_
              rw [bs_f (show upP P a m h s = false by simp [upP, c3])] at ih
              exact hC.loc rfl ih
            · refine hC.iload dX4_unpickable_61 rfl ?_
              refine hC.iconst dX4_unpickable_63 (v := nI 1) rfl ?_
              refine hC.iload dX4_unpickable_64 rfl ?_
              refine hC.ishl dX4_unpickable_66 ?_
              refine hC.ior dX4_unpickable_67 ?_
              refine hC.istore dX4_unpickable_68 (by decide) ?_
              refine hC.iinc dX4_unpickable_70 rfl (nI_1 _) (by decide) ?_
              refine hC.goto dX4_unpickable_73 (tgt := 14) rfl ?_
              rw [bs_t (show upP P a m h s = true by simp [upP, c1, c2, c3])] at ih
              rw [nI_shl (by omega), nI_or, Nat.one_mul]
              exact hC.loc rfl ih
  exact hC.loc rfl (loop 0 (by omega))
set_option maxHeartbeats 4000000 in
set_option maxRecDepth 20000 in
theorem ct_X4_spread (l : Launch) (P : PlanT) (hP : PlanOK P) (w m : Nat) (hw : w < 512) (hm : m < 4096) : Ct l 1 yX4_spread cX4_spread 5 (some .int) [.ref 0, .int (nI w), .int (nI m)] (planW P) (RV (.int (nI (sprF (P.1 5) m w 12))) (planW P)) := by
  refine Ct.of (by decide) (Nat.le_of_ble_eq_true rfl) (fun K hC hR => ?_)
  show K 0 [(0, .ref 0), (1, .int (nI w)), (2, .int (nI m))] [] _
  have hE := hP.2.2.2.2.1
  refine hC.iload_n dX4_spread_0 rfl ?_
  refine hC.istore_n dX4_spread_1 (by decide) ?_
  refine hC.iconst dX4_spread_2 (v := nI 0) rfl ?_
  refine hC.istore dX4_spread_3 (by decide) ?_
  have loop : ∀ s, s ≤ 12 → K 5 [(0, .ref 0), (1, .int (nI w)), (2, .int (nI m)), (3, .int (nI (sprF (P.1 5) m w s))), (4, .int (nI s))] [] (planW P) := by
    refine loopUp1 _ 12 ?_ (fun s hs ih => ?_)
    · refine hC.iload dX4_spread_5 rfl ?_
      refine hC.bipush dX4_spread_7 (v := nI 12) rfl ?_
      refine hC.n_ge (by omega) (by omega) dX4_spread_9 (tgt := 49) rfl (fun c => ?_) (fun c => ?_)
      · refine hC.iload_n dX4_spread_49 rfl ?_
        exact hR.ireturn dX4_spread_50 ⟨rfl, rfl⟩
      · omega
    · have hs2 := Nat.lt_trans (hE s) (show 512 < 2 ^ 31 by decide)
      refine hC.iload dX4_spread_5 rfl ?_
      refine hC.bipush dX4_spread_7 (v := nI 12) rfl ?_
      refine hC.n_ge (by omega) (by omega) dX4_spread_9 (tgt := 49) rfl (fun c => ?_) (fun c => ?_)
      · omega
      · refine hC.iload_n dX4_spread_12 rfl ?_
        refine hC.iload dX4_spread_13 rfl ?_
        refine hC.rdSN [] dX4_spread_15 lnX4_66 mkX8_has sxX8_has (ct_X8_has l m s (by omega) (by omega)) ⟨Nat.le_of_ble_eq_true rfl, Nat.le_of_ble_eq_true rfl⟩ rfl rfl (Nat.le_of_ble_eq_true rfl) ⟨by decide, rfl⟩ ?_
        refine hC.bz dX4_spread_18 (tgt := 43) rfl (fun c1 => ?_) (fun c1 => ?_)
        · refine hC.iinc dX4_spread_43 rfl (nI_1 _) (by decide) ?_
          refine hC.goto dX4_spread_46 (tgt := 5) rfl ?_
          rw [show sprF (P.1 5) m w (s + 1) = sprF (P.1 5) m w s by rw [sprF, if_neg (by simp [c1])]] at ih
          exact hC.loc rfl ih
        · refine hC.aload_n dX4_spread_21 rfl ?_
          refine hC.getfield dX4_spread_22 lfX4_27 rfl rfl ?_
          refine hC.iload dX4_spread_25 rfl ?_
          refine hC.iaN dX4_spread_27 rfl ⟨by omega, by decide⟩ ?_
          refine hC.iload_n dX4_spread_28 rfl ?_
          refine hC.iand dX4_spread_29 ?_
          rw [nI_and]
          refine hC.nz (and_b hs2) dX4_spread_30 (tgt := 43) rfl (fun c2 => ?_) (fun c2 => ?_)
          · refine hC.iinc dX4_spread_43 rfl (nI_1 _) (by decide) ?_
            refine hC.goto dX4_spread_46 (tgt := 5) rfl ?_
            rw [show sprF (P.1 5) m w (s + 1) = sprF (P.1 5) m w s by rw [sprF, if_neg (by simp [c2])]] at ih
            exact hC.loc rfl ih
          · refine hC.iload_n dX4_spread_33 rfl ?_
            refine hC.aload_n dX4_spread_34 rfl ?_
            refine hC.getfield dX4_spread_35 lfX4_27 rfl rfl ?_
            refine hC.iload dX4_spread_38 rfl ?_
            refine hC.iaN dX4_spread_40 rfl ⟨by omega, by decide⟩ ?_
            refine hC.ior dX4_spread_41 ?_
            refine hC.istore_n dX4_spread_42 (by decide) ?_
            refine hC.iinc dX4_spread_43 rfl (nI_1 _) (by decide) ?_
            refine hC.goto dX4_spread_46 (tgt := 5) rfl ?_
            rw [nI_or]
            rw [show sprF (P.1 5) m w (s + 1) = sprF (P.1 5) m w s ||| P.1 5 s by rw [sprF, if_pos (by simp [c1, c2])]] at ih
            exact hC.loc rfl ih
  exact hC.loc rfl (loop 0 (by omega))
set_option maxHeartbeats 4000000 in
set_option maxRecDepth 20000 in
theorem ct_X4_flying (l : Launch) (P : PlanT) (hP : PlanOK P) (m : Nat) (hm : m < 4096) : Ct l 2 yX4_flying cX4_flying 5 (some .int) [.ref 0, .int (nI m)] (planW P) (RV (.int (nI (flyF (P.1 5) 12 m))) (planW P)) := by
  refine Ct.of (by decide) (Nat.le_of_ble_eq_true rfl) (fun K hC hR => ?_)
  show K 0 [(0, .ref 0), (1, .int (nI m))] [] _
  have hE := hP.2.2.2.2.1
  refine hC.sipush dX4_flying_0 (v := nI 256) rfl ?_
  refine hC.istore_n dX4_flying_3 (by decide) ?_
  refine hC.iconst dX4_flying_4 (v := nI 0) rfl ?_
  refine hC.istore_n dX4_flying_5 (by decide) ?_
  have fin : ∀ (ls : AL) (w : Nat), lk ls 2 = some (.int (nI w)) → w < 512 → w.testBit 8 = true → closedX (P.1 5) 12 m w → (∀ a, w.testBit a = true → flyB (P.1 5) 12 m a) → K 38 ls [] (planW P) := by
    intro ls w hl h1 h2 h3 h4
    refine hC.iload_n dX4_flying_38 hl ?_
    refine hC.sipush dX4_flying_39 (v := (-257)) rfl ?_
    refine hC.iand dX4_flying_42 ?_
    rw [nI_m257, flyF_of h1 h2 h3 h4]
    exact hR.ireturn dX4_flying_43 ⟨rfl, rfl⟩
  have loop : ∀ t, t ≤ 8 → ∀ w, w < 512 → w.testBit 8 = true → (∀ a, w.testBit a = true → flyB (P.1 5) 12 m a) → t + 1 ≤ cn w.testBit 9 → K 6 [(0, .ref 0), (1, .int (nI m)), (2, .int (nI w)), (3, .int (nI t))] [] (planW P) := by
    refine loopUp1 _ 8 ?_ (fun t ht ih => ?_)
    · intro w h1 h2 h3 h4
      refine hC.iload_n dX4_flying_6 rfl ?_
      refine hC.bipush dX4_flying_7 (v := nI 8) rfl ?_
      refine hC.n_ge (by omega) (by omega) dX4_flying_9 (tgt := 38) rfl (fun c => ?_) (fun c => ?_)
      · exact fin _ w rfl h1 h2 (closed_all hE (cn_full 9 (by omega))) h3
      · omega
    · intro w h1 h2 h3 h4
      have hsup := sprF_sup (E := P.1 5) (m := m) (h := w) 0 12 (by omega)
      have hlt := sprF_lt (m := m) hE h1 12
      refine hC.iload_n dX4_flying_6 rfl ?_
      refine hC.bipush dX4_flying_7 (v := nI 8) rfl ?_
      refine hC.n_ge (by omega) (by omega) dX4_flying_9 (tgt := 38) rfl (fun c => ?_) (fun c => ?_)
      · omega
      · refine hC.aload_n dX4_flying_12 rfl ?_
        refine hC.iload_n dX4_flying_13 rfl ?_
        refine hC.iload_n dX4_flying_14 rfl ?_
        refine hC.rdV [0, 1, 2, 3, 4, 5, 6, 7, 8] dX4_flying_15 lmX4_76 mkX4_spread svX4_spread (ct_X4_spread l P hP w m h1 hm) ⟨Nat.le_of_ble_eq_true rfl, Nat.le_of_ble_eq_true rfl⟩ rfl rfl (Nat.le_of_ble_eq_true rfl) ⟨by decide, rfl⟩ rfl rfl ?_
        refine hC.istore dX4_flying_18 (by decide) ?_
        refine hC.iload dX4_flying_20 rfl ?_
        refine hC.iload_n dX4_flying_22 rfl ?_
        refine hC.n_ne (by omega) (by omega) dX4_flying_23 (tgt := 29) rfl (fun c1 => ?_) (fun c1 => ?_)
        · refine hC.iload dX4_flying_29 rfl ?_
          refine hC.istore_n dX4_flying_31 (by decide) ?_
          refine hC.iinc dX4_flying_32 rfl (nI_1 _) (by decide) ?_
          refine hC.goto dX4_flying_35 (tgt := 6) rfl ?_
          refine hC.loc rfl (ih _ hlt (hsup 8 h2) (fun a ha X hX1 hX2 hX3 => sprF_sub hX3 (fun i hi => h3 i hi X hX1 hX2 hX3) 12 (Nat.le_refl 12) a ha) ?_)
          have hd : ∃ i, i < 9 ∧ w.testBit i = false ∧ (sprF (P.1 5) m w 12).testBit i = true := by
            apply Classical.byContradiction
            intro hno
            refine c1 (set_ext (n := 9) hlt h1 (fun i hi => ?_))
            cases hw : w.testBit i
            · cases hs : (sprF (P.1 5) m w 12).testBit i
              · rfl
              · exact absurd ⟨i, hi, hw, hs⟩ hno
            · exact hsup i hw
          have : cn w.testBit 9 < cn (sprF (P.1 5) m w 12).testBit 9 := cn_lt 9 (fun i _ hi => hsup i hi) hd
          omega
        · refine hC.goto dX4_flying_26 (tgt := 38) rfl ?_
          exact fin _ w rfl h1 h2 (sprF_closed c1) h3
  refine hC.loc rfl (loop 0 (by omega) 256 (by decide) (by decide) (fun a ha X _ h8 _ => ?_) (by decide))
  rw [show (256 : Nat) = 2 ^ 8 from rfl, Nat.testBit_two_pow] at ha
  have : 8 = a := by simpa using ha
  rw [← this]; exact h8
end
