-- ===== PART A: goes FIRST, ahead of the names: the tables' words, and 'selects' of the private methods out of them =====
/-- a private method of a class that the tables say can be made, by its rows of tables_1 -/
def lw_okq (q : MethodName × Nat) : Prop := (q.1.cls ≠ "java/lang/invoke/MethodHandle" ∧ q.1.cls ≠ "java/lang/invoke/VarHandle") ∧ Cond.instantiable q.1.cls q.2 ∈ tables_1 ∧ Cond.privateMethod q.1 ∈ tables_1 ∧ Cond.instanceMethod q.1 ∈ tables_1
theorem lw_p0 : lw_okq (⟨"BootsStove", "noPair", "(I)Z"⟩, 17) := ⟨⟨by decide +kernel, by decide +kernel⟩, List.mem_of_getElem? (i := 19) (by decide +kernel), List.mem_of_getElem? (i := 380) (by decide +kernel), List.mem_of_getElem? (i := 381) (by decide +kernel)⟩
theorem lw_p1 : lw_okq (⟨"BootsStove$Hut", "isTrue", "(I)Z"⟩, 7) := ⟨⟨by decide +kernel, by decide +kernel⟩, List.mem_of_getElem? (i := 159) (by decide +kernel), List.mem_of_getElem? (i := 399) (by decide +kernel), List.mem_of_getElem? (i := 400) (by decide +kernel)⟩
theorem lw_p2 : lw_okq (⟨"BootsStove$Boots", "asStuffed", "(I)I"⟩, 8) := ⟨⟨by decide +kernel, by decide +kernel⟩, List.mem_of_getElem? (i := 61) (by decide +kernel), List.mem_of_getElem? (i := 407) (by decide +kernel), List.mem_of_getElem? (i := 408) (by decide +kernel)⟩
theorem lw_p3 : lw_okq (⟨"BootsStove$HutReader", "readClause", "()Z"⟩, 4) := ⟨⟨by decide +kernel, by decide +kernel⟩, List.mem_of_getElem? (i := 262) (by decide +kernel), List.mem_of_getElem? (i := 467) (by decide +kernel), List.mem_of_getElem? (i := 468) (by decide +kernel)⟩
theorem lw_p4 : lw_okq (⟨"BootsStove$HutReader", "readWord", "()I"⟩, 4) := ⟨⟨by decide +kernel, by decide +kernel⟩, List.mem_of_getElem? (i := 262) (by decide +kernel), List.mem_of_getElem? (i := 471) (by decide +kernel), List.mem_of_getElem? (i := 472) (by decide +kernel)⟩
theorem lw_p5 : lw_okq (⟨"BootsStove$HutReader", "skip", "(I)Z"⟩, 4) := ⟨⟨by decide +kernel, by decide +kernel⟩, List.mem_of_getElem? (i := 262) (by decide +kernel), List.mem_of_getElem? (i := 475) (by decide +kernel), List.mem_of_getElem? (i := 476) (by decide +kernel)⟩
theorem lw_p6 : lw_okq (⟨"BootsStove$HutReader", "sign", "()I"⟩, 4) := ⟨⟨by decide +kernel, by decide +kernel⟩, List.mem_of_getElem? (i := 262) (by decide +kernel), List.mem_of_getElem? (i := 479) (by decide +kernel), List.mem_of_getElem? (i := 480) (by decide +kernel)⟩
theorem lw_p7 : lw_okq (⟨"BootsStove$HutReader", "readNumber", "()I"⟩, 4) := ⟨⟨by decide +kernel, by decide +kernel⟩, List.mem_of_getElem? (i := 262) (by decide +kernel), List.mem_of_getElem? (i := 483) (by decide +kernel), List.mem_of_getElem? (i := 484) (by decide +kernel)⟩
theorem lw_p8 : lw_okq (⟨"BootsStove$HutReader", "readAny", "(I)Z"⟩, 4) := ⟨⟨by decide +kernel, by decide +kernel⟩, List.mem_of_getElem? (i := 262) (by decide +kernel), List.mem_of_getElem? (i := 487) (by decide +kernel), List.mem_of_getElem? (i := 488) (by decide +kernel)⟩
theorem lw_p9 : lw_okq (⟨"BootsStove$HutReader", "readAll", "(I)Z"⟩, 4) := ⟨⟨by decide +kernel, by decide +kernel⟩, List.mem_of_getElem? (i := 262) (by decide +kernel), List.mem_of_getElem? (i := 491) (by decide +kernel), List.mem_of_getElem? (i := 492) (by decide +kernel)⟩
theorem lw_p10 : lw_okq (⟨"BootsStove$HutReader", "readPart", "(I)Z"⟩, 4) := ⟨⟨by decide +kernel, by decide +kernel⟩, List.mem_of_getElem? (i := 262) (by decide +kernel), List.mem_of_getElem? (i := 495) (by decide +kernel), List.mem_of_getElem? (i := 496) (by decide +kernel)⟩
theorem lw_p11 : lw_okq (⟨"BootsStove$HutReader", "readTest", "()Z"⟩, 4) := ⟨⟨by decide +kernel, by decide +kernel⟩, List.mem_of_getElem? (i := 262) (by decide +kernel), List.mem_of_getElem? (i := 503) (by decide +kernel), List.mem_of_getElem? (i := 504) (by decide +kernel)⟩
theorem lw_p12 : lw_okq (⟨"BootsStove", "tryHours", "(I)V"⟩, 17) := ⟨⟨by decide +kernel, by decide +kernel⟩, List.mem_of_getElem? (i := 19) (by decide +kernel), List.mem_of_getElem? (i := 564) (by decide +kernel), List.mem_of_getElem? (i := 565) (by decide +kernel)⟩
theorem lw_p13 : lw_okq (⟨"BootsStove$Placing", "tryFrom", "(IIII)V"⟩, 7) := ⟨⟨by decide +kernel, by decide +kernel⟩, List.mem_of_getElem? (i := 128) (by decide +kernel), List.mem_of_getElem? (i := 625) (by decide +kernel), List.mem_of_getElem? (i := 626) (by decide +kernel)⟩
theorem lw_p14 : lw_okq (⟨"BootsStove$Placing", "keepIfBetter", "(II)V"⟩, 7) := ⟨⟨by decide +kernel, by decide +kernel⟩, List.mem_of_getElem? (i := 128) (by decide +kernel), List.mem_of_getElem? (i := 629) (by decide +kernel), List.mem_of_getElem? (i := 630) (by decide +kernel)⟩
theorem lw_p15 : lw_okq (⟨"BootsStove$Placing", "moreByMove", "(LBootsStove$Boots;I)I"⟩, 7) := ⟨⟨by decide +kernel, by decide +kernel⟩, List.mem_of_getElem? (i := 128) (by decide +kernel), List.mem_of_getElem? (i := 642) (by decide +kernel), List.mem_of_getElem? (i := 643) (by decide +kernel)⟩
def lw_privs_1 : List (MethodName × Nat) := [(⟨"BootsStove", "noPair", "(I)Z"⟩, 17), (⟨"BootsStove$Hut", "isTrue", "(I)Z"⟩, 7), (⟨"BootsStove$Boots", "asStuffed", "(I)I"⟩, 8), (⟨"BootsStove$HutReader", "readClause", "()Z"⟩, 4), (⟨"BootsStove$HutReader", "readWord", "()I"⟩, 4), (⟨"BootsStove$HutReader", "skip", "(I)Z"⟩, 4), (⟨"BootsStove$HutReader", "sign", "()I"⟩, 4), (⟨"BootsStove$HutReader", "readNumber", "()I"⟩, 4), (⟨"BootsStove$HutReader", "readAny", "(I)Z"⟩, 4), (⟨"BootsStove$HutReader", "readAll", "(I)Z"⟩, 4), (⟨"BootsStove$HutReader", "readPart", "(I)Z"⟩, 4), (⟨"BootsStove$HutReader", "readTest", "()Z"⟩, 4), (⟨"BootsStove", "tryHours", "(I)V"⟩, 17), (⟨"BootsStove$Placing", "tryFrom", "(IIII)V"⟩, 7), (⟨"BootsStove$Placing", "keepIfBetter", "(II)V"⟩, 7), (⟨"BootsStove$Placing", "moreByMove", "(LBootsStove$Boots;I)I"⟩, 7)]
theorem lw_r1 : ∀ q ∈ lw_privs_1, lw_okq q := List.forall_mem_cons.mpr ⟨lw_p0, List.forall_mem_cons.mpr ⟨lw_p1, List.forall_mem_cons.mpr ⟨lw_p2, List.forall_mem_cons.mpr ⟨lw_p3, List.forall_mem_cons.mpr ⟨lw_p4, List.forall_mem_cons.mpr ⟨lw_p5, List.forall_mem_cons.mpr ⟨lw_p6, List.forall_mem_cons.mpr ⟨lw_p7, List.forall_mem_cons.mpr ⟨lw_p8, List.forall_mem_cons.mpr ⟨lw_p9, List.forall_mem_cons.mpr ⟨lw_p10, List.forall_mem_cons.mpr ⟨lw_p11, List.forall_mem_cons.mpr ⟨lw_p12, List.forall_mem_cons.mpr ⟨lw_p13, List.forall_mem_cons.mpr ⟨lw_p14, List.forall_mem_cons.mpr ⟨lw_p15, fun _ h => absurd h List.not_mem_nil⟩⟩⟩⟩⟩⟩⟩⟩⟩⟩⟩⟩⟩⟩⟩⟩
theorem lw_p16 : lw_okq (⟨"BootsStove", "wetByLogs", "(II)I"⟩, 17) := ⟨⟨by decide +kernel, by decide +kernel⟩, List.mem_of_getElem? (i := 19) (by decide +kernel), List.mem_of_getElem? (i := 650) (by decide +kernel), List.mem_of_getElem? (i := 651) (by decide +kernel)⟩
theorem lw_p17 : lw_okq (⟨"BootsStove", "courseIsAsSeen", "()Z"⟩, 17) := ⟨⟨by decide +kernel, by decide +kernel⟩, List.mem_of_getElem? (i := 19) (by decide +kernel), List.mem_of_getElem? (i := 678) (by decide +kernel), List.mem_of_getElem? (i := 679) (by decide +kernel)⟩
theorem lw_p18 : lw_okq (⟨"BootsStove", "allIsAsSeenWith", "(II)Z"⟩, 17) := ⟨⟨by decide +kernel, by decide +kernel⟩, List.mem_of_getElem? (i := 19) (by decide +kernel), List.mem_of_getElem? (i := 695) (by decide +kernel), List.mem_of_getElem? (i := 696) (by decide +kernel)⟩
theorem lw_p19 : lw_okq (⟨"BootsStove$Acts", "drips", "(II)I"⟩, 3) := ⟨⟨by decide +kernel, by decide +kernel⟩, List.mem_of_getElem? (i := 55) (by decide +kernel), List.mem_of_getElem? (i := 765) (by decide +kernel), List.mem_of_getElem? (i := 766) (by decide +kernel)⟩
theorem lw_p20 : lw_okq (⟨"BootsStove$Acts", "note", "(I)V"⟩, 3) := ⟨⟨by decide +kernel, by decide +kernel⟩, List.mem_of_getElem? (i := 55) (by decide +kernel), List.mem_of_getElem? (i := 769) (by decide +kernel), List.mem_of_getElem? (i := 770) (by decide +kernel)⟩
theorem lw_p21 : lw_okq (⟨"BootsStove$Acts", "steams", "(II)I"⟩, 3) := ⟨⟨by decide +kernel, by decide +kernel⟩, List.mem_of_getElem? (i := 55) (by decide +kernel), List.mem_of_getElem? (i := 776) (by decide +kernel), List.mem_of_getElem? (i := 777) (by decide +kernel)⟩
theorem lw_p22 : lw_okq (⟨"BootsStove$Acts", "tells", "(II)I"⟩, 3) := ⟨⟨by decide +kernel, by decide +kernel⟩, List.mem_of_getElem? (i := 55) (by decide +kernel), List.mem_of_getElem? (i := 780) (by decide +kernel), List.mem_of_getElem? (i := 781) (by decide +kernel)⟩
theorem lw_p23 : lw_okq (⟨"BootsStoveModel", "in", "(III)Z"⟩, 82) := ⟨⟨by decide +kernel, by decide +kernel⟩, List.mem_of_getElem? (i := 837) (by decide +kernel), List.mem_of_getElem? (i := 1094) (by decide +kernel), List.mem_of_getElem? (i := 1095) (by decide +kernel)⟩
theorem lw_p24 : lw_okq (⟨"BootsStoveModel", "isWet", "(I)Z"⟩, 82) := ⟨⟨by decide +kernel, by decide +kernel⟩, List.mem_of_getElem? (i := 837) (by decide +kernel), List.mem_of_getElem? (i := 1098) (by decide +kernel), List.mem_of_getElem? (i := 1099) (by decide +kernel)⟩
theorem lw_p25 : lw_okq (⟨"BootsStoveModel", "whoIs", "(I)I"⟩, 82) := ⟨⟨by decide +kernel, by decide +kernel⟩, List.mem_of_getElem? (i := 837) (by decide +kernel), List.mem_of_getElem? (i := 1102) (by decide +kernel), List.mem_of_getElem? (i := 1103) (by decide +kernel)⟩
theorem lw_p26 : lw_okq (⟨"BootsStoveModel", "isPair", "(I)Z"⟩, 82) := ⟨⟨by decide +kernel, by decide +kernel⟩, List.mem_of_getElem? (i := 837) (by decide +kernel), List.mem_of_getElem? (i := 1110) (by decide +kernel), List.mem_of_getElem? (i := 1111) (by decide +kernel)⟩
theorem lw_p27 : lw_okq (⟨"BootsStoveModel", "isPlace", "(I)Z"⟩, 82) := ⟨⟨by decide +kernel, by decide +kernel⟩, List.mem_of_getElem? (i := 837) (by decide +kernel), List.mem_of_getElem? (i := 1118) (by decide +kernel), List.mem_of_getElem? (i := 1119) (by decide +kernel)⟩
theorem lw_p28 : lw_okq (⟨"BootsStoveModel", "comesTo", "(II)V"⟩, 82) := ⟨⟨by decide +kernel, by decide +kernel⟩, List.mem_of_getElem? (i := 837) (by decide +kernel), List.mem_of_getElem? (i := 1122) (by decide +kernel), List.mem_of_getElem? (i := 1123) (by decide +kernel)⟩
theorem lw_p29 : lw_okq (⟨"BootsStoveModel", "has", "(II)Z"⟩, 82) := ⟨⟨by decide +kernel, by decide +kernel⟩, List.mem_of_getElem? (i := 837) (by decide +kernel), List.mem_of_getElem? (i := 1130) (by decide +kernel), List.mem_of_getElem? (i := 1131) (by decide +kernel)⟩
theorem lw_p30 : lw_okq (⟨"BootsStoveModel", "goes", "(IZ)V"⟩, 82) := ⟨⟨by decide +kernel, by decide +kernel⟩, List.mem_of_getElem? (i := 837) (by decide +kernel), List.mem_of_getElem? (i := 1134) (by decide +kernel), List.mem_of_getElem? (i := 1135) (by decide +kernel)⟩
theorem lw_p31 : lw_okq (⟨"BootsStoveModel", "goesText", "(I)Z"⟩, 82) := ⟨⟨by decide +kernel, by decide +kernel⟩, List.mem_of_getElem? (i := 837) (by decide +kernel), List.mem_of_getElem? (i := 1154) (by decide +kernel), List.mem_of_getElem? (i := 1155) (by decide +kernel)⟩
def lw_privs_2 : List (MethodName × Nat) := [(⟨"BootsStove", "wetByLogs", "(II)I"⟩, 17), (⟨"BootsStove", "courseIsAsSeen", "()Z"⟩, 17), (⟨"BootsStove", "allIsAsSeenWith", "(II)Z"⟩, 17), (⟨"BootsStove$Acts", "drips", "(II)I"⟩, 3), (⟨"BootsStove$Acts", "note", "(I)V"⟩, 3), (⟨"BootsStove$Acts", "steams", "(II)I"⟩, 3), (⟨"BootsStove$Acts", "tells", "(II)I"⟩, 3), (⟨"BootsStoveModel", "in", "(III)Z"⟩, 82), (⟨"BootsStoveModel", "isWet", "(I)Z"⟩, 82), (⟨"BootsStoveModel", "whoIs", "(I)I"⟩, 82), (⟨"BootsStoveModel", "isPair", "(I)Z"⟩, 82), (⟨"BootsStoveModel", "isPlace", "(I)Z"⟩, 82), (⟨"BootsStoveModel", "comesTo", "(II)V"⟩, 82), (⟨"BootsStoveModel", "has", "(II)Z"⟩, 82), (⟨"BootsStoveModel", "goes", "(IZ)V"⟩, 82), (⟨"BootsStoveModel", "goesText", "(I)Z"⟩, 82)]
theorem lw_r2 : ∀ q ∈ lw_privs_2, lw_okq q := List.forall_mem_cons.mpr ⟨lw_p16, List.forall_mem_cons.mpr ⟨lw_p17, List.forall_mem_cons.mpr ⟨lw_p18, List.forall_mem_cons.mpr ⟨lw_p19, List.forall_mem_cons.mpr ⟨lw_p20, List.forall_mem_cons.mpr ⟨lw_p21, List.forall_mem_cons.mpr ⟨lw_p22, List.forall_mem_cons.mpr ⟨lw_p23, List.forall_mem_cons.mpr ⟨lw_p24, List.forall_mem_cons.mpr ⟨lw_p25, List.forall_mem_cons.mpr ⟨lw_p26, List.forall_mem_cons.mpr ⟨lw_p27, List.forall_mem_cons.mpr ⟨lw_p28, List.forall_mem_cons.mpr ⟨lw_p29, List.forall_mem_cons.mpr ⟨lw_p30, List.forall_mem_cons.mpr ⟨lw_p31, fun _ h => absurd h List.not_mem_nil⟩⟩⟩⟩⟩⟩⟩⟩⟩⟩⟩⟩⟩⟩⟩⟩
theorem lw_p32 : lw_okq (⟨"BootsStoveModel", "takesClause", "(I)Z"⟩, 82) := ⟨⟨by decide +kernel, by decide +kernel⟩, List.mem_of_getElem? (i := 837) (by decide +kernel), List.mem_of_getElem? (i := 1158) (by decide +kernel), List.mem_of_getElem? (i := 1159) (by decide +kernel)⟩
theorem lw_p33 : lw_okq (⟨"BootsStoveModel", "takesHead", "(I)Z"⟩, 82) := ⟨⟨by decide +kernel, by decide +kernel⟩, List.mem_of_getElem? (i := 837) (by decide +kernel), List.mem_of_getElem? (i := 1162) (by decide +kernel), List.mem_of_getElem? (i := 1163) (by decide +kernel)⟩
theorem lw_p34 : lw_okq (⟨"BootsStoveModel", "next", "()I"⟩, 82) := ⟨⟨by decide +kernel, by decide +kernel⟩, List.mem_of_getElem? (i := 837) (by decide +kernel), List.mem_of_getElem? (i := 1166) (by decide +kernel), List.mem_of_getElem? (i := 1167) (by decide +kernel)⟩
theorem lw_p35 : lw_okq (⟨"BootsStoveModel", "takesWord", "(II)Z"⟩, 82) := ⟨⟨by decide +kernel, by decide +kernel⟩, List.mem_of_getElem? (i := 837) (by decide +kernel), List.mem_of_getElem? (i := 1170) (by decide +kernel), List.mem_of_getElem? (i := 1171) (by decide +kernel)⟩
theorem lw_p36 : lw_okq (⟨"BootsStoveModel", "takes", "(I)Z"⟩, 82) := ⟨⟨by decide +kernel, by decide +kernel⟩, List.mem_of_getElem? (i := 837) (by decide +kernel), List.mem_of_getElem? (i := 1174) (by decide +kernel), List.mem_of_getElem? (i := 1175) (by decide +kernel)⟩
theorem lw_p37 : lw_okq (⟨"BootsStoveModel", "second", "()I"⟩, 82) := ⟨⟨by decide +kernel, by decide +kernel⟩, List.mem_of_getElem? (i := 837) (by decide +kernel), List.mem_of_getElem? (i := 1178) (by decide +kernel), List.mem_of_getElem? (i := 1179) (by decide +kernel)⟩
theorem lw_p38 : lw_okq (⟨"BootsStoveModel", "takesNumber", "()Z"⟩, 82) := ⟨⟨by decide +kernel, by decide +kernel⟩, List.mem_of_getElem? (i := 837) (by decide +kernel), List.mem_of_getElem? (i := 1182) (by decide +kernel), List.mem_of_getElem? (i := 1183) (by decide +kernel)⟩
theorem lw_p39 : lw_okq (⟨"BootsStoveModel", "isDigit", "()Z"⟩, 82) := ⟨⟨by decide +kernel, by decide +kernel⟩, List.mem_of_getElem? (i := 837) (by decide +kernel), List.mem_of_getElem? (i := 1186) (by decide +kernel), List.mem_of_getElem? (i := 1187) (by decide +kernel)⟩
theorem lw_p40 : lw_okq (⟨"BootsStoveModel", "takesE", "(I)Z"⟩, 82) := ⟨⟨by decide +kernel, by decide +kernel⟩, List.mem_of_getElem? (i := 837) (by decide +kernel), List.mem_of_getElem? (i := 1190) (by decide +kernel), List.mem_of_getElem? (i := 1191) (by decide +kernel)⟩
theorem lw_p41 : lw_okq (⟨"BootsStoveModel", "takesTest", "()Z"⟩, 82) := ⟨⟨by decide +kernel, by decide +kernel⟩, List.mem_of_getElem? (i := 837) (by decide +kernel), List.mem_of_getElem? (i := 1194) (by decide +kernel), List.mem_of_getElem? (i := 1195) (by decide +kernel)⟩
theorem lw_p42 : lw_okq (⟨"BootsStoveModel", "place", "(I)I"⟩, 82) := ⟨⟨by decide +kernel, by decide +kernel⟩, List.mem_of_getElem? (i := 837) (by decide +kernel), List.mem_of_getElem? (i := 1198) (by decide +kernel), List.mem_of_getElem? (i := 1199) (by decide +kernel)⟩
theorem lw_p43 : lw_okq (⟨"BootsStoveModel", "emits", "(I)V"⟩, 82) := ⟨⟨by decide +kernel, by decide +kernel⟩, List.mem_of_getElem? (i := 837) (by decide +kernel), List.mem_of_getElem? (i := 1202) (by decide +kernel), List.mem_of_getElem? (i := 1203) (by decide +kernel)⟩
theorem lw_p44 : lw_okq (⟨"BootsStoveModel", "whole", "()V"⟩, 82) := ⟨⟨by decide +kernel, by decide +kernel⟩, List.mem_of_getElem? (i := 837) (by decide +kernel), List.mem_of_getElem? (i := 1206) (by decide +kernel), List.mem_of_getElem? (i := 1207) (by decide +kernel)⟩
theorem lw_p45 : lw_okq (⟨"BootsStoveModel", "settle", "(I)V"⟩, 82) := ⟨⟨by decide +kernel, by decide +kernel⟩, List.mem_of_getElem? (i := 837) (by decide +kernel), List.mem_of_getElem? (i := 1210) (by decide +kernel), List.mem_of_getElem? (i := 1211) (by decide +kernel)⟩
theorem lw_p46 : lw_okq (⟨"BootsStoveModel", "dries", "(II)I"⟩, 82) := ⟨⟨by decide +kernel, by decide +kernel⟩, List.mem_of_getElem? (i := 837) (by decide +kernel), List.mem_of_getElem? (i := 1218) (by decide +kernel), List.mem_of_getElem? (i := 1219) (by decide +kernel)⟩
theorem lw_p47 : lw_okq (⟨"BootsStoveModel", "plainDries", "(II)I"⟩, 82) := ⟨⟨by decide +kernel, by decide +kernel⟩, List.mem_of_getElem? (i := 837) (by decide +kernel), List.mem_of_getElem? (i := 1222) (by decide +kernel), List.mem_of_getElem? (i := 1223) (by decide +kernel)⟩
def lw_privs_3 : List (MethodName × Nat) := [(⟨"BootsStoveModel", "takesClause", "(I)Z"⟩, 82), (⟨"BootsStoveModel", "takesHead", "(I)Z"⟩, 82), (⟨"BootsStoveModel", "next", "()I"⟩, 82), (⟨"BootsStoveModel", "takesWord", "(II)Z"⟩, 82), (⟨"BootsStoveModel", "takes", "(I)Z"⟩, 82), (⟨"BootsStoveModel", "second", "()I"⟩, 82), (⟨"BootsStoveModel", "takesNumber", "()Z"⟩, 82), (⟨"BootsStoveModel", "isDigit", "()Z"⟩, 82), (⟨"BootsStoveModel", "takesE", "(I)Z"⟩, 82), (⟨"BootsStoveModel", "takesTest", "()Z"⟩, 82), (⟨"BootsStoveModel", "place", "(I)I"⟩, 82), (⟨"BootsStoveModel", "emits", "(I)V"⟩, 82), (⟨"BootsStoveModel", "whole", "()V"⟩, 82), (⟨"BootsStoveModel", "settle", "(I)V"⟩, 82), (⟨"BootsStoveModel", "dries", "(II)I"⟩, 82), (⟨"BootsStoveModel", "plainDries", "(II)I"⟩, 82)]
theorem lw_r3 : ∀ q ∈ lw_privs_3, lw_okq q := List.forall_mem_cons.mpr ⟨lw_p32, List.forall_mem_cons.mpr ⟨lw_p33, List.forall_mem_cons.mpr ⟨lw_p34, List.forall_mem_cons.mpr ⟨lw_p35, List.forall_mem_cons.mpr ⟨lw_p36, List.forall_mem_cons.mpr ⟨lw_p37, List.forall_mem_cons.mpr ⟨lw_p38, List.forall_mem_cons.mpr ⟨lw_p39, List.forall_mem_cons.mpr ⟨lw_p40, List.forall_mem_cons.mpr ⟨lw_p41, List.forall_mem_cons.mpr ⟨lw_p42, List.forall_mem_cons.mpr ⟨lw_p43, List.forall_mem_cons.mpr ⟨lw_p44, List.forall_mem_cons.mpr ⟨lw_p45, List.forall_mem_cons.mpr ⟨lw_p46, List.forall_mem_cons.mpr ⟨lw_p47, fun _ h => absurd h List.not_mem_nil⟩⟩⟩⟩⟩⟩⟩⟩⟩⟩⟩⟩⟩⟩⟩⟩
theorem lw_p48 : lw_okq (⟨"BootsStoveModel", "sum", "(II)I"⟩, 82) := ⟨⟨by decide +kernel, by decide +kernel⟩, List.mem_of_getElem? (i := 837) (by decide +kernel), List.mem_of_getElem? (i := 1226) (by decide +kernel), List.mem_of_getElem? (i := 1227) (by decide +kernel)⟩
theorem lw_p49 : lw_okq (⟨"BootsStoveModel", "warm", "(I)I"⟩, 82) := ⟨⟨by decide +kernel, by decide +kernel⟩, List.mem_of_getElem? (i := 837) (by decide +kernel), List.mem_of_getElem? (i := 1230) (by decide +kernel), List.mem_of_getElem? (i := 1231) (by decide +kernel)⟩
theorem lw_p50 : lw_okq (⟨"BootsStoveModel", "atLeast0", "(I)I"⟩, 82) := ⟨⟨by decide +kernel, by decide +kernel⟩, List.mem_of_getElem? (i := 837) (by decide +kernel), List.mem_of_getElem? (i := 1234) (by decide +kernel), List.mem_of_getElem? (i := 1235) (by decide +kernel)⟩
theorem lw_p51 : lw_okq (⟨"BootsStoveModel", "begin", "()I"⟩, 82) := ⟨⟨by decide +kernel, by decide +kernel⟩, List.mem_of_getElem? (i := 837) (by decide +kernel), List.mem_of_getElem? (i := 1238) (by decide +kernel), List.mem_of_getElem? (i := 1239) (by decide +kernel)⟩
theorem lw_p52 : lw_okq (⟨"BootsStoveModel", "behind", "()I"⟩, 82) := ⟨⟨by decide +kernel, by decide +kernel⟩, List.mem_of_getElem? (i := 837) (by decide +kernel), List.mem_of_getElem? (i := 1242) (by decide +kernel), List.mem_of_getElem? (i := 1243) (by decide +kernel)⟩
theorem lw_p53 : lw_okq (⟨"BootsStoveModel", "holds", "(III)Z"⟩, 82) := ⟨⟨by decide +kernel, by decide +kernel⟩, List.mem_of_getElem? (i := 837) (by decide +kernel), List.mem_of_getElem? (i := 1246) (by decide +kernel), List.mem_of_getElem? (i := 1247) (by decide +kernel)⟩
theorem lw_p54 : lw_okq (⟨"BootsStoveModel", "factOf", "(III)I"⟩, 82) := ⟨⟨by decide +kernel, by decide +kernel⟩, List.mem_of_getElem? (i := 837) (by decide +kernel), List.mem_of_getElem? (i := 1250) (by decide +kernel), List.mem_of_getElem? (i := 1251) (by decide +kernel)⟩
theorem lw_p55 : lw_okq (⟨"BootsStoveModel", "spoils", "(I)Z"⟩, 82) := ⟨⟨by decide +kernel, by decide +kernel⟩, List.mem_of_getElem? (i := 837) (by decide +kernel), List.mem_of_getElem? (i := 1254) (by decide +kernel), List.mem_of_getElem? (i := 1255) (by decide +kernel)⟩
theorem lw_p56 : lw_okq (⟨"BootsStoveModel", "lastOf", "(II)I"⟩, 82) := ⟨⟨by decide +kernel, by decide +kernel⟩, List.mem_of_getElem? (i := 837) (by decide +kernel), List.mem_of_getElem? (i := 1262) (by decide +kernel), List.mem_of_getElem? (i := 1263) (by decide +kernel)⟩
theorem lw_p57 : lw_okq (⟨"BootsStoveModel", "wetHere", "()I"⟩, 82) := ⟨⟨by decide +kernel, by decide +kernel⟩, List.mem_of_getElem? (i := 837) (by decide +kernel), List.mem_of_getElem? (i := 1266) (by decide +kernel), List.mem_of_getElem? (i := 1267) (by decide +kernel)⟩
theorem lw_p58 : lw_okq (⟨"BootsStoveModel", "allCracks", "()I"⟩, 82) := ⟨⟨by decide +kernel, by decide +kernel⟩, List.mem_of_getElem? (i := 837) (by decide +kernel), List.mem_of_getElem? (i := 1270) (by decide +kernel), List.mem_of_getElem? (i := 1271) (by decide +kernel)⟩
theorem lw_p59 : lw_okq (⟨"BootsStoveModel", "drySet", "()I"⟩, 82) := ⟨⟨by decide +kernel, by decide +kernel⟩, List.mem_of_getElem? (i := 837) (by decide +kernel), List.mem_of_getElem? (i := 1274) (by decide +kernel), List.mem_of_getElem? (i := 1275) (by decide +kernel)⟩
theorem lw_p60 : lw_okq (⟨"BootsStoveModel", "stokes", "()V"⟩, 82) := ⟨⟨by decide +kernel, by decide +kernel⟩, List.mem_of_getElem? (i := 837) (by decide +kernel), List.mem_of_getElem? (i := 1282) (by decide +kernel), List.mem_of_getElem? (i := 1283) (by decide +kernel)⟩
theorem lw_p61 : lw_okq (⟨"BootsStoveModel", "least", "(II)I"⟩, 82) := ⟨⟨by decide +kernel, by decide +kernel⟩, List.mem_of_getElem? (i := 837) (by decide +kernel), List.mem_of_getElem? (i := 1286) (by decide +kernel), List.mem_of_getElem? (i := 1287) (by decide +kernel)⟩
theorem lw_p62 : lw_okq (⟨"BootsStoveModel", "isHours", "(I)Z"⟩, 82) := ⟨⟨by decide +kernel, by decide +kernel⟩, List.mem_of_getElem? (i := 837) (by decide +kernel), List.mem_of_getElem? (i := 1294) (by decide +kernel), List.mem_of_getElem? (i := 1295) (by decide +kernel)⟩
theorem lw_p63 : lw_okq (⟨"BootsStoveModel", "goHours", "(I)V"⟩, 82) := ⟨⟨by decide +kernel, by decide +kernel⟩, List.mem_of_getElem? (i := 837) (by decide +kernel), List.mem_of_getElem? (i := 1298) (by decide +kernel), List.mem_of_getElem? (i := 1299) (by decide +kernel)⟩
def lw_privs_4 : List (MethodName × Nat) := [(⟨"BootsStoveModel", "sum", "(II)I"⟩, 82), (⟨"BootsStoveModel", "warm", "(I)I"⟩, 82), (⟨"BootsStoveModel", "atLeast0", "(I)I"⟩, 82), (⟨"BootsStoveModel", "begin", "()I"⟩, 82), (⟨"BootsStoveModel", "behind", "()I"⟩, 82), (⟨"BootsStoveModel", "holds", "(III)Z"⟩, 82), (⟨"BootsStoveModel", "factOf", "(III)I"⟩, 82), (⟨"BootsStoveModel", "spoils", "(I)Z"⟩, 82), (⟨"BootsStoveModel", "lastOf", "(II)I"⟩, 82), (⟨"BootsStoveModel", "wetHere", "()I"⟩, 82), (⟨"BootsStoveModel", "allCracks", "()I"⟩, 82), (⟨"BootsStoveModel", "drySet", "()I"⟩, 82), (⟨"BootsStoveModel", "stokes", "()V"⟩, 82), (⟨"BootsStoveModel", "least", "(II)I"⟩, 82), (⟨"BootsStoveModel", "isHours", "(I)Z"⟩, 82), (⟨"BootsStoveModel", "goHours", "(I)V"⟩, 82)]
theorem lw_r4 : ∀ q ∈ lw_privs_4, lw_okq q := List.forall_mem_cons.mpr ⟨lw_p48, List.forall_mem_cons.mpr ⟨lw_p49, List.forall_mem_cons.mpr ⟨lw_p50, List.forall_mem_cons.mpr ⟨lw_p51, List.forall_mem_cons.mpr ⟨lw_p52, List.forall_mem_cons.mpr ⟨lw_p53, List.forall_mem_cons.mpr ⟨lw_p54, List.forall_mem_cons.mpr ⟨lw_p55, List.forall_mem_cons.mpr ⟨lw_p56, List.forall_mem_cons.mpr ⟨lw_p57, List.forall_mem_cons.mpr ⟨lw_p58, List.forall_mem_cons.mpr ⟨lw_p59, List.forall_mem_cons.mpr ⟨lw_p60, List.forall_mem_cons.mpr ⟨lw_p61, List.forall_mem_cons.mpr ⟨lw_p62, List.forall_mem_cons.mpr ⟨lw_p63, fun _ h => absurd h List.not_mem_nil⟩⟩⟩⟩⟩⟩⟩⟩⟩⟩⟩⟩⟩⟩⟩⟩
theorem lw_p64 : lw_okq (⟨"BootsStoveModel", "goHour", "()V"⟩, 82) := ⟨⟨by decide +kernel, by decide +kernel⟩, List.mem_of_getElem? (i := 837) (by decide +kernel), List.mem_of_getElem? (i := 1302) (by decide +kernel), List.mem_of_getElem? (i := 1303) (by decide +kernel)⟩
theorem lw_p65 : lw_okq (⟨"BootsStoveModel", "save", "()V"⟩, 82) := ⟨⟨by decide +kernel, by decide +kernel⟩, List.mem_of_getElem? (i := 837) (by decide +kernel), List.mem_of_getElem? (i := 1310) (by decide +kernel), List.mem_of_getElem? (i := 1311) (by decide +kernel)⟩
theorem lw_p66 : lw_okq (⟨"BootsStoveModel", "putBack", "()V"⟩, 82) := ⟨⟨by decide +kernel, by decide +kernel⟩, List.mem_of_getElem? (i := 837) (by decide +kernel), List.mem_of_getElem? (i := 1315) (by decide +kernel), List.mem_of_getElem? (i := 1316) (by decide +kernel)⟩
theorem lw_p67 : lw_okq (⟨"BootsStoveModel", "bits", "(I)I"⟩, 82) := ⟨⟨by decide +kernel, by decide +kernel⟩, List.mem_of_getElem? (i := 837) (by decide +kernel), List.mem_of_getElem? (i := 1327) (by decide +kernel), List.mem_of_getElem? (i := 1328) (by decide +kernel)⟩
theorem lw_p68 : lw_okq (⟨"BootsStoveModel", "layBest", "(I)V"⟩, 82) := ⟨⟨by decide +kernel, by decide +kernel⟩, List.mem_of_getElem? (i := 837) (by decide +kernel), List.mem_of_getElem? (i := 1335) (by decide +kernel), List.mem_of_getElem? (i := 1336) (by decide +kernel)⟩
theorem lw_p69 : lw_okq (⟨"BootsStoveModel", "layWets", "(I)V"⟩, 82) := ⟨⟨by decide +kernel, by decide +kernel⟩, List.mem_of_getElem? (i := 837) (by decide +kernel), List.mem_of_getElem? (i := 1339) (by decide +kernel), List.mem_of_getElem? (i := 1340) (by decide +kernel)⟩
theorem lw_p70 : lw_okq (⟨"BootsStoveModel", "layPlaces", "(I)Z"⟩, 82) := ⟨⟨by decide +kernel, by decide +kernel⟩, List.mem_of_getElem? (i := 837) (by decide +kernel), List.mem_of_getElem? (i := 1343) (by decide +kernel), List.mem_of_getElem? (i := 1344) (by decide +kernel)⟩
theorem lw_p71 : lw_okq (⟨"BootsStoveModel", "wetBy", "(II)I"⟩, 82) := ⟨⟨by decide +kernel, by decide +kernel⟩, List.mem_of_getElem? (i := 837) (by decide +kernel), List.mem_of_getElem? (i := 1351) (by decide +kernel), List.mem_of_getElem? (i := 1352) (by decide +kernel)⟩
theorem lw_p72 : lw_okq (⟨"BootsStoveModel", "wetStoked", "(II)I"⟩, 82) := ⟨⟨by decide +kernel, by decide +kernel⟩, List.mem_of_getElem? (i := 837) (by decide +kernel), List.mem_of_getElem? (i := 1359) (by decide +kernel), List.mem_of_getElem? (i := 1360) (by decide +kernel)⟩
theorem lw_p73 : lw_okq (⟨"BootsStoveModel", "isSeen", "(I)Z"⟩, 82) := ⟨⟨by decide +kernel, by decide +kernel⟩, List.mem_of_getElem? (i := 837) (by decide +kernel), List.mem_of_getElem? (i := 1371) (by decide +kernel), List.mem_of_getElem? (i := 1372) (by decide +kernel)⟩
theorem lw_p74 : lw_okq (⟨"BootsStoveModel", "lowest", "(III)J"⟩, 82) := ⟨⟨by decide +kernel, by decide +kernel⟩, List.mem_of_getElem? (i := 837) (by decide +kernel), List.mem_of_getElem? (i := 1388) (by decide +kernel), List.mem_of_getElem? (i := 1389) (by decide +kernel)⟩
theorem lw_p75 : lw_okq (⟨"BootsStoveModel", "divisor", "(II)I"⟩, 82) := ⟨⟨by decide +kernel, by decide +kernel⟩, List.mem_of_getElem? (i := 837) (by decide +kernel), List.mem_of_getElem? (i := 1392) (by decide +kernel), List.mem_of_getElem? (i := 1393) (by decide +kernel)⟩
theorem lw_p76 : lw_okq (⟨"BootsStoveModel", "wetAll", "()I"⟩, 82) := ⟨⟨by decide +kernel, by decide +kernel⟩, List.mem_of_getElem? (i := 837) (by decide +kernel), List.mem_of_getElem? (i := 1400) (by decide +kernel), List.mem_of_getElem? (i := 1401) (by decide +kernel)⟩
theorem lw_p77 : lw_okq (⟨"BootsStoveModel", "goRota", "(II)V"⟩, 82) := ⟨⟨by decide +kernel, by decide +kernel⟩, List.mem_of_getElem? (i := 837) (by decide +kernel), List.mem_of_getElem? (i := 1412) (by decide +kernel), List.mem_of_getElem? (i := 1413) (by decide +kernel)⟩
theorem lw_p78 : lw_okq (⟨"BootsStoveModel", "isTape", "(I)Z"⟩, 82) := ⟨⟨by decide +kernel, by decide +kernel⟩, List.mem_of_getElem? (i := 837) (by decide +kernel), List.mem_of_getElem? (i := 1428) (by decide +kernel), List.mem_of_getElem? (i := 1429) (by decide +kernel)⟩
theorem lw_p79 : lw_okq (⟨"BootsStoveModel", "dripsAct", "(II)I"⟩, 82) := ⟨⟨by decide +kernel, by decide +kernel⟩, List.mem_of_getElem? (i := 837) (by decide +kernel), List.mem_of_getElem? (i := 1444) (by decide +kernel), List.mem_of_getElem? (i := 1445) (by decide +kernel)⟩
def lw_privs_5 : List (MethodName × Nat) := [(⟨"BootsStoveModel", "goHour", "()V"⟩, 82), (⟨"BootsStoveModel", "save", "()V"⟩, 82), (⟨"BootsStoveModel", "putBack", "()V"⟩, 82), (⟨"BootsStoveModel", "bits", "(I)I"⟩, 82), (⟨"BootsStoveModel", "layBest", "(I)V"⟩, 82), (⟨"BootsStoveModel", "layWets", "(I)V"⟩, 82), (⟨"BootsStoveModel", "layPlaces", "(I)Z"⟩, 82), (⟨"BootsStoveModel", "wetBy", "(II)I"⟩, 82), (⟨"BootsStoveModel", "wetStoked", "(II)I"⟩, 82), (⟨"BootsStoveModel", "isSeen", "(I)Z"⟩, 82), (⟨"BootsStoveModel", "lowest", "(III)J"⟩, 82), (⟨"BootsStoveModel", "divisor", "(II)I"⟩, 82), (⟨"BootsStoveModel", "wetAll", "()I"⟩, 82), (⟨"BootsStoveModel", "goRota", "(II)V"⟩, 82), (⟨"BootsStoveModel", "isTape", "(I)Z"⟩, 82), (⟨"BootsStoveModel", "dripsAct", "(II)I"⟩, 82)]
theorem lw_r5 : ∀ q ∈ lw_privs_5, lw_okq q := List.forall_mem_cons.mpr ⟨lw_p64, List.forall_mem_cons.mpr ⟨lw_p65, List.forall_mem_cons.mpr ⟨lw_p66, List.forall_mem_cons.mpr ⟨lw_p67, List.forall_mem_cons.mpr ⟨lw_p68, List.forall_mem_cons.mpr ⟨lw_p69, List.forall_mem_cons.mpr ⟨lw_p70, List.forall_mem_cons.mpr ⟨lw_p71, List.forall_mem_cons.mpr ⟨lw_p72, List.forall_mem_cons.mpr ⟨lw_p73, List.forall_mem_cons.mpr ⟨lw_p74, List.forall_mem_cons.mpr ⟨lw_p75, List.forall_mem_cons.mpr ⟨lw_p76, List.forall_mem_cons.mpr ⟨lw_p77, List.forall_mem_cons.mpr ⟨lw_p78, List.forall_mem_cons.mpr ⟨lw_p79, fun _ h => absurd h List.not_mem_nil⟩⟩⟩⟩⟩⟩⟩⟩⟩⟩⟩⟩⟩⟩⟩⟩
theorem lw_p80 : lw_okq (⟨"BootsStoveModel", "body", "(I)V"⟩, 82) := ⟨⟨by decide +kernel, by decide +kernel⟩, List.mem_of_getElem? (i := 837) (by decide +kernel), List.mem_of_getElem? (i := 1448) (by decide +kernel), List.mem_of_getElem? (i := 1449) (by decide +kernel)⟩
theorem lw_p81 : lw_okq (⟨"BootsStoveModel", "pairDrips", "(II)I"⟩, 82) := ⟨⟨by decide +kernel, by decide +kernel⟩, List.mem_of_getElem? (i := 837) (by decide +kernel), List.mem_of_getElem? (i := 1452) (by decide +kernel), List.mem_of_getElem? (i := 1453) (by decide +kernel)⟩
theorem lw_p82 : lw_okq (⟨"BootsStoveModel", "steamsAct", "(II)I"⟩, 82) := ⟨⟨by decide +kernel, by decide +kernel⟩, List.mem_of_getElem? (i := 837) (by decide +kernel), List.mem_of_getElem? (i := 1456) (by decide +kernel), List.mem_of_getElem? (i := 1457) (by decide +kernel)⟩
theorem lw_p83 : lw_okq (⟨"BootsStoveModel", "leatherSteams", "(II)I"⟩, 82) := ⟨⟨by decide +kernel, by decide +kernel⟩, List.mem_of_getElem? (i := 837) (by decide +kernel), List.mem_of_getElem? (i := 1460) (by decide +kernel), List.mem_of_getElem? (i := 1461) (by decide +kernel)⟩
theorem lw_p84 : lw_okq (⟨"BootsStoveModel", "pairSteams", "(II)I"⟩, 82) := ⟨⟨by decide +kernel, by decide +kernel⟩, List.mem_of_getElem? (i := 837) (by decide +kernel), List.mem_of_getElem? (i := 1464) (by decide +kernel), List.mem_of_getElem? (i := 1465) (by decide +kernel)⟩
theorem lw_p85 : lw_okq (⟨"BootsStoveModel", "tellsAct", "(II)I"⟩, 82) := ⟨⟨by decide +kernel, by decide +kernel⟩, List.mem_of_getElem? (i := 837) (by decide +kernel), List.mem_of_getElem? (i := 1468) (by decide +kernel), List.mem_of_getElem? (i := 1469) (by decide +kernel)⟩
theorem lw_p86 : lw_okq (⟨"BootsStoveModel", "pairTells", "(II)I"⟩, 82) := ⟨⟨by decide +kernel, by decide +kernel⟩, List.mem_of_getElem? (i := 837) (by decide +kernel), List.mem_of_getElem? (i := 1472) (by decide +kernel), List.mem_of_getElem? (i := 1473) (by decide +kernel)⟩
theorem lw_p87 : lw_okq (⟨"BootsStoveModel", "narrow", "(IJ)J"⟩, 82) := ⟨⟨by decide +kernel, by decide +kernel⟩, List.mem_of_getElem? (i := 837) (by decide +kernel), List.mem_of_getElem? (i := 1496) (by decide +kernel), List.mem_of_getElem? (i := 1497) (by decide +kernel)⟩
def lw_privs_6 : List (MethodName × Nat) := [(⟨"BootsStoveModel", "body", "(I)V"⟩, 82), (⟨"BootsStoveModel", "pairDrips", "(II)I"⟩, 82), (⟨"BootsStoveModel", "steamsAct", "(II)I"⟩, 82), (⟨"BootsStoveModel", "leatherSteams", "(II)I"⟩, 82), (⟨"BootsStoveModel", "pairSteams", "(II)I"⟩, 82), (⟨"BootsStoveModel", "tellsAct", "(II)I"⟩, 82), (⟨"BootsStoveModel", "pairTells", "(II)I"⟩, 82), (⟨"BootsStoveModel", "narrow", "(IJ)J"⟩, 82)]
theorem lw_r6 : ∀ q ∈ lw_privs_6, lw_okq q := List.forall_mem_cons.mpr ⟨lw_p80, List.forall_mem_cons.mpr ⟨lw_p81, List.forall_mem_cons.mpr ⟨lw_p82, List.forall_mem_cons.mpr ⟨lw_p83, List.forall_mem_cons.mpr ⟨lw_p84, List.forall_mem_cons.mpr ⟨lw_p85, List.forall_mem_cons.mpr ⟨lw_p86, List.forall_mem_cons.mpr ⟨lw_p87, fun _ h => absurd h List.not_mem_nil⟩⟩⟩⟩⟩⟩⟩⟩
def lw_privs : List (MethodName × Nat) := lw_privs_1 ++ (lw_privs_2 ++ (lw_privs_3 ++ (lw_privs_4 ++ (lw_privs_5 ++ (lw_privs_6)))))
def lw_tbl : List Cond := k2_sels lw_privs ++ tables_1
theorem lw_privs_ok : ∀ q ∈ lw_privs, lw_okq q := by
  show ∀ q ∈ lw_privs_1 ++ (lw_privs_2 ++ (lw_privs_3 ++ (lw_privs_4 ++ (lw_privs_5 ++ (lw_privs_6))))), lw_okq q
  exact List.forall_mem_append.mpr ⟨lw_r1, List.forall_mem_append.mpr ⟨lw_r2, List.forall_mem_append.mpr ⟨lw_r3, List.forall_mem_append.mpr ⟨lw_r4, List.forall_mem_append.mpr ⟨lw_r5, lw_r6⟩⟩⟩⟩⟩

def RX0 : String := "BootsStove$Acts"
def TX0 : u_T := fun k => match k with
  | 0 => ("BootsStove$Acts", "bodies", "[I", true)
  | 1 => ("BootsStove$Acts", "ran", "I", false)
  | _ => ("BootsStove$Acts", "actor", "LBootsStove$Boots;", false)
def tyX0 : Nat → FieldType := fun k => match k with
  | 0 => .array .int
  | 1 => .int
  | _ => .object "BootsStove$Boots"
abbrev wsX00 : List Cond := u_ws RX0 TX0 3
theorem nmX0 : ∀ a, a < 3 → ∀ b, b < 3 → a ≠ b → (TX0 a).2.1 ≠ (TX0 b).2.1 := by decide +kernel
theorem tyX0_ok : ∀ k, k < 3 → parseFieldDescriptor (TX0 k).2.2.1 = some (tyX0 k) := by decide +kernel
abbrev cX0_init : ByteArray := prog_2_method_1_code
def yX0_init : MethodName := ⟨RX0, "<init>", "()V"⟩
abbrev cX0_forget : ByteArray := prog_2_method_2_code
def yX0_forget : MethodName := ⟨RX0, "forget", "()V"⟩
abbrev cX0_kept : ByteArray := prog_2_method_3_code
def yX0_kept : MethodName := ⟨RX0, "kept", "()I"⟩
abbrev cX0_run : ByteArray := prog_2_method_4_code
def yX0_run : MethodName := ⟨RX0, "run", "(LBootsStove$Boots;II)I"⟩
abbrev cX0_note : ByteArray := prog_2_method_5_code
def yX0_note : MethodName := ⟨RX0, "note", "(I)V"⟩
abbrev cX0_drips : ByteArray := prog_2_method_6_code
def yX0_drips : MethodName := ⟨RX0, "drips", "(II)I"⟩
abbrev cX0_steams : ByteArray := prog_2_method_7_code
def yX0_steams : MethodName := ⟨RX0, "steams", "(II)I"⟩
abbrev cX0_tells : ByteArray := prog_2_method_8_code
def yX0_tells : MethodName := ⟨RX0, "tells", "(II)I"⟩
def RX1 : String := "BootsStove$Boots"
def TX1 : u_T := fun k => match k with
  | 0 => ("BootsStove$Boots", "number", "I", false)
  | 1 => ("BootsStove$Boots", "kind", "I", false)
  | 2 => ("BootsStove$Boots", "v", "I", false)
  | 3 => ("BootsStove$Boots", "wet", "I", false)
  | 4 => ("BootsStove$Boots", "place", "I", false)
  | 5 => ("BootsStove$Boots", "isTaken", "Z", false)
  | 6 => ("BootsStove$Boots", "cracks", "I", false)
  | _ => ("BootsStove$Boots", "toldRow", "[I", true)
def tyX1 : Nat → FieldType := fun k => match k with
  | 0 => .int
  | 1 => .int
  | 2 => .int
  | 3 => .int
  | 4 => .int
  | 5 => .boolean
  | 6 => .int
  | _ => .array .int
abbrev wsX10 : List Cond := u_ws RX1 TX1 8
theorem nmX1 : ∀ a, a < 8 → ∀ b, b < 8 → a ≠ b → (TX1 a).2.1 ≠ (TX1 b).2.1 := by decide +kernel
theorem tyX1_ok : ∀ k, k < 8 → parseFieldDescriptor (TX1 k).2.2.1 = some (tyX1 k) := by decide +kernel
abbrev cX1_init : ByteArray := prog_3_method_1_code
def yX1_init : MethodName := ⟨RX1, "<init>", "(I)V"⟩
abbrev cX1_become : ByteArray := prog_3_method_2_code
def yX1_become : MethodName := ⟨RX1, "become", "(IIII)V"⟩
abbrev cX1_copyFrom : ByteArray := prog_3_method_3_code
def yX1_copyFrom : MethodName := ⟨RX1, "copyFrom", "(LBootsStove$Boots;)V"⟩
abbrev cX1_driesAt : ByteArray := prog_3_method_4_code
def yX1_driesAt : MethodName := ⟨RX1, "driesAt", "(ILBootsStove$Stove;)I"⟩
abbrev cX1_asLeather : ByteArray := prog_3_method_5_code
def yX1_asLeather : MethodName := ⟨RX1, "asLeather", "(II)I"⟩
abbrev cX1_asStuffed : ByteArray := prog_3_method_6_code
def yX1_asStuffed : MethodName := ⟨RX1, "asStuffed", "(I)I"⟩
abbrev cX1_spoils : ByteArray := prog_3_method_7_code
def yX1_spoils : MethodName := ⟨RX1, "spoils", "(LBootsStove$Stove;)Z"⟩
abbrev cX1_letHourGo : ByteArray := prog_3_method_8_code
def yX1_letHourGo : MethodName := ⟨RX1, "letHourGo", "(LBootsStove$Stove;)V"⟩
def RX2 : String := "BootsStove$Course"
def TX2 : u_T := fun k => match k with
  | 0 => ("BootsStove$Course", "boots", "LBootsStove$Boots;", true)
  | _ => ("BootsStove$Course", "stove", "LBootsStove$Stove;", true)
def tyX2 : Nat → FieldType := fun k => match k with
  | 0 => .object "BootsStove$Boots"
  | _ => .object "BootsStove$Stove"
abbrev wsX20 : List Cond := u_ws RX2 TX2 2
theorem nmX2 : ∀ a, a < 2 → ∀ b, b < 2 → a ≠ b → (TX2 a).2.1 ≠ (TX2 b).2.1 := by decide +kernel
theorem tyX2_ok : ∀ k, k < 2 → parseFieldDescriptor (TX2 k).2.2.1 = some (tyX2 k) := by decide +kernel
abbrev cX2_init : ByteArray := prog_4_method_1_code
def yX2_init : MethodName := ⟨RX2, "<init>", "(LBootsStove$Hut;)V"⟩
abbrev cX2_begin : ByteArray := prog_4_method_2_code
def yX2_begin : MethodName := ⟨RX2, "begin", "(LBootsStove$Boots;LBootsStove$Stove;)V"⟩
abbrev cX2_letHourGo : ByteArray := prog_4_method_3_code
def yX2_letHourGo : MethodName := ⟨RX2, "letHourGo", "()V"⟩
abbrev cX2_wetBehind : ByteArray := prog_4_method_4_code
def yX2_wetBehind : MethodName := ⟨RX2, "wetBehind", "(ILBootsStove$Boots;ILBootsStove$Stove;)I"⟩
def RX3 : String := "BootsStove$Hut"
def TX3 : u_T := fun k => match k with
  | 0 => ("BootsStove$Hut", "cool", "I", false)
  | 1 => ("BootsStove$Hut", "log", "I", false)
  | 2 => ("BootsStove$Hut", "length", "I", false)
  | 3 => ("BootsStove$Hut", "program", "[I", true)
  | 4 => ("BootsStove$Hut", "clauses", "I", false)
  | 5 => ("BootsStove$Hut", "amounts", "[I", true)
  | _ => ("BootsStove$Hut", "letters", "[I", true)
def tyX3 : Nat → FieldType := fun k => match k with
  | 0 => .int
  | 1 => .int
  | 2 => .int
  | 3 => .array .int
  | 4 => .int
  | 5 => .array .int
  | _ => .array .int
abbrev wsX30 : List Cond := u_ws RX3 TX3 7
theorem nmX3 : ∀ a, a < 7 → ∀ b, b < 7 → a ≠ b → (TX3 a).2.1 ≠ (TX3 b).2.1 := by decide +kernel
theorem tyX3_ok : ∀ k, k < 7 → parseFieldDescriptor (TX3 k).2.2.1 = some (tyX3 k) := by decide +kernel
abbrev cX3_init : ByteArray := prog_5_method_1_code
def yX3_init : MethodName := ⟨RX3, "<init>", "()V"⟩
abbrev cX3_clear : ByteArray := prog_5_method_2_code
def yX3_clear : MethodName := ⟨RX3, "clear", "()V"⟩
abbrev cX3_append : ByteArray := prog_5_method_3_code
def yX3_append : MethodName := ⟨RX3, "append", "(I)V"⟩
abbrev cX3_codeOfTest : ByteArray := prog_5_method_4_code
def yX3_codeOfTest : MethodName := ⟨RX3, "codeOfTest", "(III)I"⟩
abbrev cX3_appendEnd : ByteArray := prog_5_method_5_code
def yX3_appendEnd : MethodName := ⟨RX3, "appendEnd", "(I)V"⟩
abbrev cX3_extraFor : ByteArray := prog_5_method_6_code
def yX3_extraFor : MethodName := ⟨RX3, "extraFor", "(LBootsStove$Boots;II)I"⟩
abbrev cX3_isTrue : ByteArray := prog_5_method_7_code
def yX3_isTrue : MethodName := ⟨RX3, "isTrue", "(I)Z"⟩
def RX4 : String := "BootsStove$HutReader"
def TX4 : u_T := fun k => match k with
  | 0 => ("BootsStove$HutReader", "text", "[B", true)
  | 1 => ("BootsStove$HutReader", "length", "I", false)
  | 2 => ("BootsStove$HutReader", "at", "I", false)
  | _ => ("BootsStove$HutReader", "hut", "LBootsStove$Hut;", false)
def tyX4 : Nat → FieldType := fun k => match k with
  | 0 => .array .byte
  | 1 => .int
  | 2 => .int
  | _ => .object "BootsStove$Hut"
abbrev wsX40 : List Cond := u_ws RX4 TX4 4
theorem nmX4 : ∀ a, a < 4 → ∀ b, b < 4 → a ≠ b → (TX4 a).2.1 ≠ (TX4 b).2.1 := by decide +kernel
theorem tyX4_ok : ∀ k, k < 4 → parseFieldDescriptor (TX4 k).2.2.1 = some (tyX4 k) := by decide +kernel
abbrev cX4_init : ByteArray := prog_6_method_1_code
def yX4_init : MethodName := ⟨RX4, "<init>", "(LBootsStove$Hut;)V"⟩
abbrev cX4_append : ByteArray := prog_6_method_2_code
def yX4_append : MethodName := ⟨RX4, "append", "(I)I"⟩
abbrev cX4_faultReadingInto : ByteArray := prog_6_method_3_code
def yX4_faultReadingInto : MethodName := ⟨RX4, "faultReadingInto", "(LBootsStove$Hut;)I"⟩
abbrev cX4_readClause : ByteArray := prog_6_method_4_code
def yX4_readClause : MethodName := ⟨RX4, "readClause", "()Z"⟩
abbrev cX4_readWord : ByteArray := prog_6_method_5_code
def yX4_readWord : MethodName := ⟨RX4, "readWord", "()I"⟩
abbrev cX4_readNumber : ByteArray := prog_6_method_6_code
def yX4_readNumber : MethodName := ⟨RX4, "readNumber", "()I"⟩
abbrev cX4_readAny : ByteArray := prog_6_method_7_code
def yX4_readAny : MethodName := ⟨RX4, "readAny", "(I)Z"⟩
abbrev cX4_readAll : ByteArray := prog_6_method_8_code
def yX4_readAll : MethodName := ⟨RX4, "readAll", "(I)Z"⟩
abbrev cX4_readPart : ByteArray := prog_6_method_9_code
def yX4_readPart : MethodName := ⟨RX4, "readPart", "(I)Z"⟩
abbrev cX4_readTest : ByteArray := prog_6_method_10_code
def yX4_readTest : MethodName := ⟨RX4, "readTest", "()Z"⟩
abbrev cX4_letterOf : ByteArray := prog_6_method_11_code
def yX4_letterOf : MethodName := ⟨RX4, "letterOf", "(I)I"⟩
abbrev cX4_comparisonOf : ByteArray := prog_6_method_12_code
def yX4_comparisonOf : MethodName := ⟨RX4, "comparisonOf", "(I)I"⟩
abbrev cX4_sign : ByteArray := prog_6_method_13_code
def yX4_sign : MethodName := ⟨RX4, "sign", "()I"⟩
abbrev cX4_skip : ByteArray := prog_6_method_14_code
def yX4_skip : MethodName := ⟨RX4, "skip", "(I)Z"⟩
def RX5 : String := "BootsStove$Kinds"
def TX5 : u_T := fun k => match k with
  | _ => ("", "", "", false)
def tyX5 : Nat → FieldType := fun k => match k with
  | _ => .int
abbrev wsX50 : List Cond := u_ws RX5 TX5 0
theorem nmX5 : ∀ a, a < 0 → ∀ b, b < 0 → a ≠ b → (TX5 a).2.1 ≠ (TX5 b).2.1 := by decide +kernel
theorem tyX5_ok : ∀ k, k < 0 → parseFieldDescriptor (TX5 k).2.2.1 = some (tyX5 k) := by decide +kernel
abbrev cX5_above : ByteArray := prog_7_method_2_code
def yX5_above : MethodName := ⟨RX5, "above", "(I)I"⟩
abbrev cX5_isOrIsUnder : ByteArray := prog_7_method_3_code
def yX5_isOrIsUnder : MethodName := ⟨RX5, "isOrIsUnder", "(II)Z"⟩
def RX6 : String := "BootsStove$Placing"
def TX6 : u_T := fun k => match k with
  | 0 => ("BootsStove$Placing", "wetByPlace", "[I", true)
  | 1 => ("BootsStove$Placing", "isHere", "[Z", true)
  | 2 => ("BootsStove$Placing", "way", "[I", true)
  | 3 => ("BootsStove$Placing", "count", "I", false)
  | 4 => ("BootsStove$Placing", "best", "[I", true)
  | 5 => ("BootsStove$Placing", "bestDry", "I", false)
  | _ => ("BootsStove$Placing", "bestWet", "I", false)
def tyX6 : Nat → FieldType := fun k => match k with
  | 0 => .array .int
  | 1 => .array .boolean
  | 2 => .array .int
  | 3 => .int
  | 4 => .array .int
  | 5 => .int
  | _ => .int
abbrev wsX60 : List Cond := u_ws RX6 TX6 7
theorem nmX6 : ∀ a, a < 7 → ∀ b, b < 7 → a ≠ b → (TX6 a).2.1 ≠ (TX6 b).2.1 := by decide +kernel
theorem tyX6_ok : ∀ k, k < 7 → parseFieldDescriptor (TX6 k).2.2.1 = some (tyX6 k) := by decide +kernel
abbrev cX6_init : ByteArray := prog_8_method_1_code
def yX6_init : MethodName := ⟨RX6, "<init>", "()V"⟩
abbrev cX6_foresee : ByteArray := prog_8_method_2_code
def yX6_foresee : MethodName := ⟨RX6, "foresee", "(LBootsStove$Room;LBootsStove$Course;I)V"⟩
abbrev cX6_moreByChange : ByteArray := prog_8_method_3_code
def yX6_moreByChange : MethodName := ⟨RX6, "moreByChange", "(LBootsStove$Boots;LBootsStove$Boots;)I"⟩
abbrev cX6_moreByMove : ByteArray := prog_8_method_4_code
def yX6_moreByMove : MethodName := ⟨RX6, "moreByMove", "(LBootsStove$Boots;I)I"⟩
abbrev cX6_findBest : ByteArray := prog_8_method_5_code
def yX6_findBest : MethodName := ⟨RX6, "findBest", "()V"⟩
abbrev cX6_tryFrom : ByteArray := prog_8_method_6_code
def yX6_tryFrom : MethodName := ⟨RX6, "tryFrom", "(IIII)V"⟩
abbrev cX6_keepIfBetter : ByteArray := prog_8_method_7_code
def yX6_keepIfBetter : MethodName := ⟨RX6, "keepIfBetter", "(II)V"⟩
def RX7 : String := "BootsStove$Room"
def TX7 : u_T := fun k => match k with
  | 0 => ("BootsStove$Room", "boots", "[LBootsStove$Boots;", true)
  | 1 => ("BootsStove$Room", "count", "I", false)
  | _ => ("BootsStove$Room", "stove", "LBootsStove$Stove;", true)
def tyX7 : Nat → FieldType := fun k => match k with
  | 0 => .array (.object "BootsStove$Boots")
  | 1 => .int
  | _ => .object "BootsStove$Stove"
abbrev wsX70 : List Cond := u_ws RX7 TX7 3
theorem nmX7 : ∀ a, a < 3 → ∀ b, b < 3 → a ≠ b → (TX7 a).2.1 ≠ (TX7 b).2.1 := by decide +kernel
theorem tyX7_ok : ∀ k, k < 3 → parseFieldDescriptor (TX7 k).2.2.1 = some (tyX7 k) := by decide +kernel
abbrev cX7_init : ByteArray := prog_9_method_1_code
def yX7_init : MethodName := ⟨RX7, "<init>", "(LBootsStove$Hut;)V"⟩
abbrev cX7_copyFrom : ByteArray := prog_9_method_2_code
def yX7_copyFrom : MethodName := ⟨RX7, "copyFrom", "(LBootsStove$Room;)V"⟩
abbrev cX7_whoIsAt : ByteArray := prog_9_method_3_code
def yX7_whoIsAt : MethodName := ⟨RX7, "whoIsAt", "(I)I"⟩
abbrev cX7_freePlace : ByteArray := prog_9_method_4_code
def yX7_freePlace : MethodName := ⟨RX7, "freePlace", "()I"⟩
abbrev cX7_letHourGo : ByteArray := prog_9_method_5_code
def yX7_letHourGo : MethodName := ⟨RX7, "letHourGo", "()V"⟩
abbrev cX7_letHoursGo : ByteArray := prog_9_method_6_code
def yX7_letHoursGo : MethodName := ⟨RX7, "letHoursGo", "(I)V"⟩
abbrev cX7_follow : ByteArray := prog_9_method_7_code
def yX7_follow : MethodName := ⟨RX7, "follow", "(II)V"⟩
abbrev cX7_wetOfThoseHere : ByteArray := prog_9_method_8_code
def yX7_wetOfThoseHere : MethodName := ⟨RX7, "wetOfThoseHere", "()I"⟩
abbrev cX7_cracksOfAll : ByteArray := prog_9_method_9_code
def yX7_cracksOfAll : MethodName := ⟨RX7, "cracksOfAll", "()I"⟩
abbrev cX7_dryOfThoseHere : ByteArray := prog_9_method_10_code
def yX7_dryOfThoseHere : MethodName := ⟨RX7, "dryOfThoseHere", "()I"⟩
abbrev cX7_dryBits : ByteArray := prog_9_method_11_code
def yX7_dryBits : MethodName := ⟨RX7, "dryBits", "()I"⟩
def RX8 : String := "BootsStove$Rows"
def TX8 : u_T := fun k => match k with
  | 0 => ("BootsStove$Rows", "first", "[I", true)
  | 1 => ("BootsStove$Rows", "second", "[I", true)
  | 2 => ("BootsStove$Rows", "third", "[I", true)
  | _ => ("BootsStove$Rows", "count", "I", false)
def tyX8 : Nat → FieldType := fun k => match k with
  | 0 => .array .int
  | 1 => .array .int
  | 2 => .array .int
  | _ => .int
abbrev wsX80 : List Cond := u_ws RX8 TX8 4
theorem nmX8 : ∀ a, a < 4 → ∀ b, b < 4 → a ≠ b → (TX8 a).2.1 ≠ (TX8 b).2.1 := by decide +kernel
theorem tyX8_ok : ∀ k, k < 4 → parseFieldDescriptor (TX8 k).2.2.1 = some (tyX8 k) := by decide +kernel
abbrev cX8_init : ByteArray := prog_10_method_1_code
def yX8_init : MethodName := ⟨RX8, "<init>", "(I)V"⟩
abbrev cX8_isFull : ByteArray := prog_10_method_2_code
def yX8_isFull : MethodName := ⟨RX8, "isFull", "()Z"⟩
abbrev cX8_append : ByteArray := prog_10_method_3_code
def yX8_append : MethodName := ⟨RX8, "append", "(III)I"⟩
abbrev cX8_copyFrom : ByteArray := prog_10_method_4_code
def yX8_copyFrom : MethodName := ⟨RX8, "copyFrom", "(LBootsStove$Rows;)V"⟩
abbrev cX8_mostThirdOf : ByteArray := prog_10_method_5_code
def yX8_mostThirdOf : MethodName := ⟨RX8, "mostThirdOf", "(I)I"⟩
def RX9 : String := "BootsStove$Stove"
def TX9 : u_T := fun k => match k with
  | 0 => ("BootsStove$Stove", "heat", "I", false)
  | 1 => ("BootsStove$Stove", "wood", "I", false)
  | 2 => ("BootsStove$Stove", "hour", "I", false)
  | _ => ("BootsStove$Stove", "hut", "LBootsStove$Hut;", false)
def tyX9 : Nat → FieldType := fun k => match k with
  | 0 => .int
  | 1 => .int
  | 2 => .int
  | _ => .object "BootsStove$Hut"
abbrev wsX90 : List Cond := u_ws RX9 TX9 4
theorem nmX9 : ∀ a, a < 4 → ∀ b, b < 4 → a ≠ b → (TX9 a).2.1 ≠ (TX9 b).2.1 := by decide +kernel
theorem tyX9_ok : ∀ k, k < 4 → parseFieldDescriptor (TX9 k).2.2.1 = some (tyX9 k) := by decide +kernel
abbrev cX9_init : ByteArray := prog_11_method_1_code
def yX9_init : MethodName := ⟨RX9, "<init>", "(LBootsStove$Hut;)V"⟩
abbrev cX9_copyFrom : ByteArray := prog_11_method_2_code
def yX9_copyFrom : MethodName := ⟨RX9, "copyFrom", "(LBootsStove$Stove;)V"⟩
abbrev cX9_warmAt : ByteArray := prog_11_method_3_code
def yX9_warmAt : MethodName := ⟨RX9, "warmAt", "(I)I"⟩
abbrev cX9_burnLog : ByteArray := prog_11_method_4_code
def yX9_burnLog : MethodName := ⟨RX9, "burnLog", "()V"⟩
abbrev cX9_letHourGo : ByteArray := prog_11_method_5_code
def yX9_letHourGo : MethodName := ⟨RX9, "letHourGo", "()V"⟩
def RX10 : String := "BootsStove$Tape"
def TX10 : u_T := fun k => match k with
  | 0 => ("BootsStove$Tape", "sort", "I", false)
  | 1 => ("BootsStove$Tape", "length", "I", false)
  | _ => ("BootsStove$Tape", "items", "[J", true)
def tyX10 : Nat → FieldType := fun k => match k with
  | 0 => .int
  | 1 => .int
  | _ => .array .long
abbrev wsX100 : List Cond := u_ws RX10 TX10 3
theorem nmX10 : ∀ a, a < 3 → ∀ b, b < 3 → a ≠ b → (TX10 a).2.1 ≠ (TX10 b).2.1 := by decide +kernel
theorem tyX10_ok : ∀ k, k < 3 → parseFieldDescriptor (TX10 k).2.2.1 = some (tyX10 k) := by decide +kernel
abbrev cX10_init : ByteArray := prog_12_method_1_code
def yX10_init : MethodName := ⟨RX10, "<init>", "()V"⟩
abbrev cX10_become : ByteArray := prog_12_method_2_code
def yX10_become : MethodName := ⟨RX10, "become", "(II)V"⟩
abbrev cX10_holds : ByteArray := prog_12_method_3_code
def yX10_holds : MethodName := ⟨RX10, "holds", "(II)Z"⟩
abbrev cX10_narrowed : ByteArray := prog_12_method_4_code
def yX10_narrowed : MethodName := ⟨RX10, "narrowed", "(J)J"⟩
def RX11 : String := "BootsStove"
def TX11 : u_T := fun k => match k with
  | 0 => ("BootsStove", "room", "LBootsStove$Room;", true)
  | 1 => ("BootsStove", "seen", "LBootsStove$Rows;", true)
  | 2 => ("BootsStove", "rota", "LBootsStove$Rows;", true)
  | 3 => ("BootsStove", "book", "LBootsStove$Rows;", true)
  | 4 => ("BootsStove", "imageIsTaken", "Z", false)
  | 5 => ("BootsStove", "keptRoom", "LBootsStove$Room;", true)
  | 6 => ("BootsStove", "keptSeen", "LBootsStove$Rows;", true)
  | 7 => ("BootsStove", "keptRota", "LBootsStove$Rows;", true)
  | 8 => ("BootsStove", "keptBook", "LBootsStove$Rows;", true)
  | 9 => ("BootsStove", "text", "LBootsStove$HutReader;", true)
  | 10 => ("BootsStove", "huts", "[LBootsStove$Hut;", true)
  | 11 => ("BootsStove", "hutCount", "I", false)
  | 12 => ("BootsStove", "tapes", "[LBootsStove$Tape;", true)
  | 13 => ("BootsStove", "acts", "LBootsStove$Acts;", true)
  | 14 => ("BootsStove", "trial", "LBootsStove$Room;", true)
  | 15 => ("BootsStove", "course", "LBootsStove$Course;", true)
  | _ => ("BootsStove", "placing", "LBootsStove$Placing;", true)
def tyX11 : Nat → FieldType := fun k => match k with
  | 0 => .object "BootsStove$Room"
  | 1 => .object "BootsStove$Rows"
  | 2 => .object "BootsStove$Rows"
  | 3 => .object "BootsStove$Rows"
  | 4 => .boolean
  | 5 => .object "BootsStove$Room"
  | 6 => .object "BootsStove$Rows"
  | 7 => .object "BootsStove$Rows"
  | 8 => .object "BootsStove$Rows"
  | 9 => .object "BootsStove$HutReader"
  | 10 => .array (.object "BootsStove$Hut")
  | 11 => .int
  | 12 => .array (.object "BootsStove$Tape")
  | 13 => .object "BootsStove$Acts"
  | 14 => .object "BootsStove$Room"
  | 15 => .object "BootsStove$Course"
  | _ => .object "BootsStove$Placing"
abbrev wsX110 : List Cond := u_ws RX11 TX11 17
theorem nmX11 : ∀ a, a < 17 → ∀ b, b < 17 → a ≠ b → (TX11 a).2.1 ≠ (TX11 b).2.1 := by decide +kernel
theorem tyX11_ok : ∀ k, k < 17 → parseFieldDescriptor (TX11 k).2.2.1 = some (tyX11 k) := by decide +kernel
abbrev cX11_init : ByteArray := prog_1_method_1_code
def yX11_init : MethodName := ⟨RX11, "<init>", "()V"⟩
abbrev cX11_pair : ByteArray := prog_1_method_2_code
def yX11_pair : MethodName := ⟨RX11, "pair", "(III)I"⟩
abbrev cX11_of : ByteArray := prog_1_method_3_code
def yX11_of : MethodName := ⟨RX11, "of", "(II)I"⟩
abbrev cX11_wet : ByteArray := prog_1_method_4_code
def yX11_wet : MethodName := ⟨RX11, "wet", "(II)I"⟩
abbrev cX11_put : ByteArray := prog_1_method_5_code
def yX11_put : MethodName := ⟨RX11, "put", "(II)I"⟩
abbrev cX11_take : ByteArray := prog_1_method_6_code
def yX11_take : MethodName := ⟨RX11, "take", "(IZ)I"⟩
abbrev cX11_stoke : ByteArray := prog_1_method_7_code
def yX11_stoke : MethodName := ⟨RX11, "stoke", "()I"⟩
abbrev cX11_set : ByteArray := prog_1_method_8_code
def yX11_set : MethodName := ⟨RX11, "set", "(II)I"⟩
abbrev cX11_row : ByteArray := prog_1_method_9_code
def yX11_row : MethodName := ⟨RX11, "row", "(III)I"⟩
abbrev cX11_feed : ByteArray := prog_1_method_10_code
def yX11_feed : MethodName := ⟨RX11, "feed", "(I)I"⟩
abbrev cX11_hut : ByteArray := prog_1_method_11_code
def yX11_hut : MethodName := ⟨RX11, "hut", "()I"⟩
abbrev cX11_told : ByteArray := prog_1_method_12_code
def yX11_told : MethodName := ⟨RX11, "told", "(I)I"⟩
abbrev cX11_pass : ByteArray := prog_1_method_13_code
def yX11_pass : MethodName := ⟨RX11, "pass", "(I)I"⟩
abbrev cX11_on : ByteArray := prog_1_method_14_code
def yX11_on : MethodName := ⟨RX11, "on", "(II)I"⟩
abbrev cX11_done : ByteArray := prog_1_method_15_code
def yX11_done : MethodName := ⟨RX11, "done", "(I)I"⟩
abbrev cX11_night : ByteArray := prog_1_method_16_code
def yX11_night : MethodName := ⟨RX11, "night", "(I)I"⟩
abbrev cX11_placed : ByteArray := prog_1_method_17_code
def yX11_placed : MethodName := ⟨RX11, "placed", "(II)I"⟩
abbrev cX11_change : ByteArray := prog_1_method_18_code
def yX11_change : MethodName := ⟨RX11, "change", "()I"⟩
abbrev cX11_logs : ByteArray := prog_1_method_19_code
def yX11_logs : MethodName := ⟨RX11, "logs", "(II)I"⟩
abbrev cX11_see : ByteArray := prog_1_method_20_code
def yX11_see : MethodName := ⟨RX11, "see", "(III)I"⟩
abbrev cX11_wets : ByteArray := prog_1_method_21_code
def yX11_wets : MethodName := ⟨RX11, "wets", "(II)I"⟩
abbrev cX11_can : ByteArray := prog_1_method_22_code
def yX11_can : MethodName := ⟨RX11, "can", "(II)I"⟩
abbrev cX11_where : ByteArray := prog_1_method_23_code
def yX11_where : MethodName := ⟨RX11, "where", "(I)I"⟩
abbrev cX11_odds : ByteArray := prog_1_method_24_code
def yX11_odds : MethodName := ⟨RX11, "odds", "(III)J"⟩
abbrev cX11_mean : ByteArray := prog_1_method_25_code
def yX11_mean : MethodName := ⟨RX11, "mean", "(II)J"⟩
abbrev cX11_rota : ByteArray := prog_1_method_26_code
def yX11_rota : MethodName := ⟨RX11, "rota", "(II)I"⟩
abbrev cX11_ends : ByteArray := prog_1_method_27_code
def yX11_ends : MethodName := ⟨RX11, "ends", "(I)I"⟩
abbrev cX11_book : ByteArray := prog_1_method_28_code
def yX11_book : MethodName := ⟨RX11, "book", "(II)I"⟩
abbrev cX11_looked : ByteArray := prog_1_method_29_code
def yX11_looked : MethodName := ⟨RX11, "looked", "()I"⟩
abbrev cX11_judge : ByteArray := prog_1_method_30_code
def yX11_judge : MethodName := ⟨RX11, "judge", "(II)I"⟩
abbrev cX11_image : ByteArray := prog_1_method_31_code
def yX11_image : MethodName := ⟨RX11, "image", "()I"⟩
abbrev cX11_undo : ByteArray := prog_1_method_32_code
def yX11_undo : MethodName := ⟨RX11, "undo", "()I"⟩
abbrev cX11_act : ByteArray := prog_1_method_33_code
def yX11_act : MethodName := ⟨RX11, "act", "(III)I"⟩
abbrev cX11_trace : ByteArray := prog_1_method_34_code
def yX11_trace : MethodName := ⟨RX11, "trace", "(I)I"⟩
abbrev cX11_taken : ByteArray := prog_1_method_35_code
def yX11_taken : MethodName := ⟨RX11, "taken", "(II)I"⟩
abbrev cX11_count : ByteArray := prog_1_method_36_code
def yX11_count : MethodName := ⟨RX11, "count", "(I)I"⟩
abbrev cX11_tape : ByteArray := prog_1_method_37_code
def yX11_tape : MethodName := ⟨RX11, "tape", "(III)I"⟩
abbrev cX11_item : ByteArray := prog_1_method_38_code
def yX11_item : MethodName := ⟨RX11, "item", "(IIJ)I"⟩
abbrev cX11_read : ByteArray := prog_1_method_39_code
def yX11_read : MethodName := ⟨RX11, "read", "(II)J"⟩
abbrev cX11_shift : ByteArray := prog_1_method_40_code
def yX11_shift : MethodName := ⟨RX11, "shift", "(IIIII)I"⟩
abbrev cX11_outside : ByteArray := prog_1_method_41_code
def yX11_outside : MethodName := ⟨RX11, "outside", "(II)Z"⟩
abbrev cX11_noPair : ByteArray := prog_1_method_42_code
def yX11_noPair : MethodName := ⟨RX11, "noPair", "(I)Z"⟩
abbrev cX11_tryHours : ByteArray := prog_1_method_43_code
def yX11_tryHours : MethodName := ⟨RX11, "tryHours", "(I)V"⟩
abbrev cX11_wetByLogs : ByteArray := prog_1_method_44_code
def yX11_wetByLogs : MethodName := ⟨RX11, "wetByLogs", "(II)I"⟩
abbrev cX11_courseIsAsSeen : ByteArray := prog_1_method_45_code
def yX11_courseIsAsSeen : MethodName := ⟨RX11, "courseIsAsSeen", "()Z"⟩
abbrev cX11_allIsAsSeenWith : ByteArray := prog_1_method_46_code
def yX11_allIsAsSeenWith : MethodName := ⟨RX11, "allIsAsSeenWith", "(II)Z"⟩
abbrev cX11_partOfFraction : ByteArray := prog_1_method_47_code
def yX11_partOfFraction : MethodName := ⟨RX11, "partOfFraction", "(III)J"⟩
abbrev cX11_commonDivisor : ByteArray := prog_1_method_48_code
def yX11_commonDivisor : MethodName := ⟨RX11, "commonDivisor", "(II)I"⟩
def RX12 : String := "BootsStoveModel"
def TX12 : u_T := fun k => match k with
  | 0 => ("BootsStoveModel", "pairs", "I", false)
  | 1 => ("BootsStoveModel", "gone", "I", false)
  | 2 => ("BootsStoveModel", "heat", "I", false)
  | 3 => ("BootsStoveModel", "wood", "I", false)
  | 4 => ("BootsStoveModel", "hours", "I", false)
  | 5 => ("BootsStoveModel", "kind", "[I", true)
  | 6 => ("BootsStoveModel", "v", "[I", true)
  | 7 => ("BootsStoveModel", "wets0", "[I", true)
  | 8 => ("BootsStoveModel", "spot", "[I", true)
  | 9 => ("BootsStoveModel", "cracks", "[I", true)
  | 10 => ("BootsStoveModel", "rows", "[I", true)
  | 11 => ("BootsStoveModel", "huts", "I", false)
  | 12 => ("BootsStoveModel", "the", "I", false)
  | 13 => ("BootsStoveModel", "fed", "I", false)
  | 14 => ("BootsStoveModel", "at", "I", false)
  | 15 => ("BootsStoveModel", "digits", "I", false)
  | 16 => ("BootsStoveModel", "text", "[I", true)
  | 17 => ("BootsStoveModel", "clauses", "[I", true)
  | 18 => ("BootsStoveModel", "word", "[I", true)
  | 19 => ("BootsStoveModel", "number", "[I", true)
  | 20 => ("BootsStoveModel", "from", "[I", true)
  | 21 => ("BootsStoveModel", "to", "[I", true)
  | 22 => ("BootsStoveModel", "sign", "[I", true)
  | 23 => ("BootsStoveModel", "waits", "[I", true)
  | 24 => ("BootsStoveModel", "signs", "I", false)
  | 25 => ("BootsStoveModel", "waiting", "I", false)
  | 26 => ("BootsStoveModel", "open", "I", false)
  | 27 => ("BootsStoveModel", "letters", "[I", true)
  | 28 => ("BootsStoveModel", "pile", "[Z", true)
  | 29 => ("BootsStoveModel", "mostCracks", "I", false)
  | 30 => ("BootsStoveModel", "keptGone", "I", false)
  | 31 => ("BootsStoveModel", "keptHeat", "I", false)
  | 32 => ("BootsStoveModel", "keptWood", "I", false)
  | 33 => ("BootsStoveModel", "keptHours", "I", false)
  | 34 => ("BootsStoveModel", "keptWets", "[I", true)
  | 35 => ("BootsStoveModel", "keptSpot", "[I", true)
  | 36 => ("BootsStoveModel", "keptCracks", "[I", true)
  | 37 => ("BootsStoveModel", "laid", "[I", true)
  | 38 => ("BootsStoveModel", "tried", "[I", true)
  | 39 => ("BootsStoveModel", "bestSpot", "[I", true)
  | 40 => ("BootsStoveModel", "bestMany", "I", false)
  | 41 => ("BootsStoveModel", "bestWet", "I", false)
  | 42 => ("BootsStoveModel", "seen", "I", false)
  | 43 => ("BootsStoveModel", "seenWho", "[I", true)
  | 44 => ("BootsStoveModel", "seenWet", "[I", true)
  | 45 => ("BootsStoveModel", "seenWhen", "[I", true)
  | 46 => ("BootsStoveModel", "triedSpot", "[I", true)
  | 47 => ("BootsStoveModel", "rotas", "I", false)
  | 48 => ("BootsStoveModel", "books", "I", false)
  | 49 => ("BootsStoveModel", "rotaWhat", "[I", true)
  | 50 => ("BootsStoveModel", "rotaNumber", "[I", true)
  | 51 => ("BootsStoveModel", "bookWho", "[I", true)
  | 52 => ("BootsStoveModel", "bookWet", "[I", true)
  | 53 => ("BootsStoveModel", "hasImage", "Z", false)
  | 54 => ("BootsStoveModel", "imageThe", "I", false)
  | 55 => ("BootsStoveModel", "imagePairs", "I", false)
  | 56 => ("BootsStoveModel", "imageGone", "I", false)
  | 57 => ("BootsStoveModel", "imageHeat", "I", false)
  | 58 => ("BootsStoveModel", "imageWood", "I", false)
  | 59 => ("BootsStoveModel", "imageHours", "I", false)
  | 60 => ("BootsStoveModel", "imageSeen", "I", false)
  | 61 => ("BootsStoveModel", "imageRotas", "I", false)
  | 62 => ("BootsStoveModel", "imageBooks", "I", false)
  | 63 => ("BootsStoveModel", "imageKind", "[I", true)
  | 64 => ("BootsStoveModel", "imageV", "[I", true)
  | 65 => ("BootsStoveModel", "imageWets", "[I", true)
  | 66 => ("BootsStoveModel", "imageSpot", "[I", true)
  | 67 => ("BootsStoveModel", "imageCracks", "[I", true)
  | 68 => ("BootsStoveModel", "imageRows", "[I", true)
  | 69 => ("BootsStoveModel", "imageWho", "[I", true)
  | 70 => ("BootsStoveModel", "imageWet", "[I", true)
  | 71 => ("BootsStoveModel", "imageWhen", "[I", true)
  | 72 => ("BootsStoveModel", "imageWhat", "[I", true)
  | 73 => ("BootsStoveModel", "imageNumber", "[I", true)
  | 74 => ("BootsStoveModel", "imageBookWho", "[I", true)
  | 75 => ("BootsStoveModel", "imageBookWet", "[I", true)
  | 76 => ("BootsStoveModel", "ran", "I", false)
  | 77 => ("BootsStoveModel", "bodies", "[I", true)
  | 78 => ("BootsStoveModel", "sort", "[I", true)
  | 79 => ("BootsStoveModel", "length", "[I", true)
  | 80 => ("BootsStoveModel", "item", "[J", true)
  | _ => ("BootsStoveModel", "aside", "[J", true)
def tyX12 : Nat → FieldType := fun k => match k with
  | 0 => .int
  | 1 => .int
  | 2 => .int
  | 3 => .int
  | 4 => .int
  | 5 => .array .int
  | 6 => .array .int
  | 7 => .array .int
  | 8 => .array .int
  | 9 => .array .int
  | 10 => .array .int
  | 11 => .int
  | 12 => .int
  | 13 => .int
  | 14 => .int
  | 15 => .int
  | 16 => .array .int
  | 17 => .array .int
  | 18 => .array .int
  | 19 => .array .int
  | 20 => .array .int
  | 21 => .array .int
  | 22 => .array .int
  | 23 => .array .int
  | 24 => .int
  | 25 => .int
  | 26 => .int
  | 27 => .array .int
  | 28 => .array .boolean
  | 29 => .int
  | 30 => .int
  | 31 => .int
  | 32 => .int
  | 33 => .int
  | 34 => .array .int
  | 35 => .array .int
  | 36 => .array .int
  | 37 => .array .int
  | 38 => .array .int
  | 39 => .array .int
  | 40 => .int
  | 41 => .int
  | 42 => .int
  | 43 => .array .int
  | 44 => .array .int
  | 45 => .array .int
  | 46 => .array .int
  | 47 => .int
  | 48 => .int
  | 49 => .array .int
  | 50 => .array .int
  | 51 => .array .int
  | 52 => .array .int
  | 53 => .boolean
  | 54 => .int
  | 55 => .int
  | 56 => .int
  | 57 => .int
  | 58 => .int
  | 59 => .int
  | 60 => .int
  | 61 => .int
  | 62 => .int
  | 63 => .array .int
  | 64 => .array .int
  | 65 => .array .int
  | 66 => .array .int
  | 67 => .array .int
  | 68 => .array .int
  | 69 => .array .int
  | 70 => .array .int
  | 71 => .array .int
  | 72 => .array .int
  | 73 => .array .int
  | 74 => .array .int
  | 75 => .array .int
  | 76 => .int
  | 77 => .array .int
  | 78 => .array .int
  | 79 => .array .int
  | 80 => .array .long
  | _ => .array .long
abbrev wsX120 : List Cond := u_ws RX12 TX12 82
theorem nmX12 : ∀ a, a < 82 → ∀ b, b < 82 → a ≠ b → (TX12 a).2.1 ≠ (TX12 b).2.1 := by decide +kernel
theorem tyX12_ok : ∀ k, k < 82 → parseFieldDescriptor (TX12 k).2.2.1 = some (tyX12 k) := by decide +kernel
abbrev cX12_init : ByteArray := prog_14_method_1_code
def yX12_init : MethodName := ⟨RX12, "<init>", "()V"⟩
abbrev cX12_in : ByteArray := prog_14_method_2_code
def yX12_in : MethodName := ⟨RX12, "in", "(III)Z"⟩
abbrev cX12_has : ByteArray := prog_14_method_3_code
def yX12_has : MethodName := ⟨RX12, "has", "(II)Z"⟩
abbrev cX12_least : ByteArray := prog_14_method_4_code
def yX12_least : MethodName := ⟨RX12, "least", "(II)I"⟩
abbrev cX12_atLeast0 : ByteArray := prog_14_method_5_code
def yX12_atLeast0 : MethodName := ⟨RX12, "atLeast0", "(I)I"⟩
abbrev cX12_bits : ByteArray := prog_14_method_6_code
def yX12_bits : MethodName := ⟨RX12, "bits", "(I)I"⟩
abbrev cX12_isPair : ByteArray := prog_14_method_7_code
def yX12_isPair : MethodName := ⟨RX12, "isPair", "(I)Z"⟩
abbrev cX12_isPlace : ByteArray := prog_14_method_8_code
def yX12_isPlace : MethodName := ⟨RX12, "isPlace", "(I)Z"⟩
abbrev cX12_isWet : ByteArray := prog_14_method_9_code
def yX12_isWet : MethodName := ⟨RX12, "isWet", "(I)Z"⟩
abbrev cX12_isHours : ByteArray := prog_14_method_10_code
def yX12_isHours : MethodName := ⟨RX12, "isHours", "(I)Z"⟩
abbrev cX12_whoIs : ByteArray := prog_14_method_11_code
def yX12_whoIs : MethodName := ⟨RX12, "whoIs", "(I)I"⟩
abbrev cX12_pair : ByteArray := prog_14_method_12_code
def yX12_pair : MethodName := ⟨RX12, "pair", "(III)I"⟩
abbrev cX12_wet : ByteArray := prog_14_method_13_code
def yX12_wet : MethodName := ⟨RX12, "wet", "(II)I"⟩
abbrev cX12_comesTo : ByteArray := prog_14_method_14_code
def yX12_comesTo : MethodName := ⟨RX12, "comesTo", "(II)V"⟩
abbrev cX12_put : ByteArray := prog_14_method_15_code
def yX12_put : MethodName := ⟨RX12, "put", "(II)I"⟩
abbrev cX12_goes : ByteArray := prog_14_method_16_code
def yX12_goes : MethodName := ⟨RX12, "goes", "(IZ)V"⟩
abbrev cX12_take : ByteArray := prog_14_method_17_code
def yX12_take : MethodName := ⟨RX12, "take", "(IZ)I"⟩
abbrev cX12_set : ByteArray := prog_14_method_18_code
def yX12_set : MethodName := ⟨RX12, "set", "(II)I"⟩
abbrev cX12_row : ByteArray := prog_14_method_19_code
def yX12_row : MethodName := ⟨RX12, "row", "(III)I"⟩
abbrev cX12_feed : ByteArray := prog_14_method_20_code
def yX12_feed : MethodName := ⟨RX12, "feed", "(I)I"⟩
abbrev cX12_next : ByteArray := prog_14_method_21_code
def yX12_next : MethodName := ⟨RX12, "next", "()I"⟩
abbrev cX12_second : ByteArray := prog_14_method_22_code
def yX12_second : MethodName := ⟨RX12, "second", "()I"⟩
abbrev cX12_takes : ByteArray := prog_14_method_23_code
def yX12_takes : MethodName := ⟨RX12, "takes", "(I)Z"⟩
abbrev cX12_takesWord : ByteArray := prog_14_method_24_code
def yX12_takesWord : MethodName := ⟨RX12, "takesWord", "(II)Z"⟩
abbrev cX12_isDigit : ByteArray := prog_14_method_25_code
def yX12_isDigit : MethodName := ⟨RX12, "isDigit", "()Z"⟩
abbrev cX12_takesNumber : ByteArray := prog_14_method_26_code
def yX12_takesNumber : MethodName := ⟨RX12, "takesNumber", "()Z"⟩
abbrev cX12_emits : ByteArray := prog_14_method_27_code
def yX12_emits : MethodName := ⟨RX12, "emits", "(I)V"⟩
abbrev cX12_whole : ByteArray := prog_14_method_28_code
def yX12_whole : MethodName := ⟨RX12, "whole", "()V"⟩
abbrev cX12_settle : ByteArray := prog_14_method_29_code
def yX12_settle : MethodName := ⟨RX12, "settle", "(I)V"⟩
abbrev cX12_place : ByteArray := prog_14_method_30_code
def yX12_place : MethodName := ⟨RX12, "place", "(I)I"⟩
abbrev cX12_takesTest : ByteArray := prog_14_method_31_code
def yX12_takesTest : MethodName := ⟨RX12, "takesTest", "()Z"⟩
abbrev cX12_takesE : ByteArray := prog_14_method_32_code
def yX12_takesE : MethodName := ⟨RX12, "takesE", "(I)Z"⟩
abbrev cX12_takesHead : ByteArray := prog_14_method_33_code
def yX12_takesHead : MethodName := ⟨RX12, "takesHead", "(I)Z"⟩
abbrev cX12_takesClause : ByteArray := prog_14_method_34_code
def yX12_takesClause : MethodName := ⟨RX12, "takesClause", "(I)Z"⟩
abbrev cX12_goesText : ByteArray := prog_14_method_35_code
def yX12_goesText : MethodName := ⟨RX12, "goesText", "(I)Z"⟩
abbrev cX12_hut : ByteArray := prog_14_method_36_code
def yX12_hut : MethodName := ⟨RX12, "hut", "()I"⟩
abbrev cX12_begin : ByteArray := prog_14_method_37_code
def yX12_begin : MethodName := ⟨RX12, "begin", "()I"⟩
abbrev cX12_behind : ByteArray := prog_14_method_38_code
def yX12_behind : MethodName := ⟨RX12, "behind", "()I"⟩
abbrev cX12_lastOf : ByteArray := prog_14_method_39_code
def yX12_lastOf : MethodName := ⟨RX12, "lastOf", "(II)I"⟩
abbrev cX12_factOf : ByteArray := prog_14_method_40_code
def yX12_factOf : MethodName := ⟨RX12, "factOf", "(III)I"⟩
abbrev cX12_holds : ByteArray := prog_14_method_41_code
def yX12_holds : MethodName := ⟨RX12, "holds", "(III)Z"⟩
abbrev cX12_warm : ByteArray := prog_14_method_42_code
def yX12_warm : MethodName := ⟨RX12, "warm", "(I)I"⟩
abbrev cX12_sum : ByteArray := prog_14_method_43_code
def yX12_sum : MethodName := ⟨RX12, "sum", "(II)I"⟩
abbrev cX12_plainDries : ByteArray := prog_14_method_44_code
def yX12_plainDries : MethodName := ⟨RX12, "plainDries", "(II)I"⟩
abbrev cX12_dries : ByteArray := prog_14_method_45_code
def yX12_dries : MethodName := ⟨RX12, "dries", "(II)I"⟩
abbrev cX12_spoils : ByteArray := prog_14_method_46_code
def yX12_spoils : MethodName := ⟨RX12, "spoils", "(I)Z"⟩
abbrev cX12_of : ByteArray := prog_14_method_47_code
def yX12_of : MethodName := ⟨RX12, "of", "(II)I"⟩
abbrev cX12_wetHere : ByteArray := prog_14_method_48_code
def yX12_wetHere : MethodName := ⟨RX12, "wetHere", "()I"⟩
abbrev cX12_wetAll : ByteArray := prog_14_method_49_code
def yX12_wetAll : MethodName := ⟨RX12, "wetAll", "()I"⟩
abbrev cX12_allCracks : ByteArray := prog_14_method_50_code
def yX12_allCracks : MethodName := ⟨RX12, "allCracks", "()I"⟩
abbrev cX12_drySet : ByteArray := prog_14_method_51_code
def yX12_drySet : MethodName := ⟨RX12, "drySet", "()I"⟩
abbrev cX12_told : ByteArray := prog_14_method_52_code
def yX12_told : MethodName := ⟨RX12, "told", "(I)I"⟩
abbrev cX12_goHour : ByteArray := prog_14_method_53_code
def yX12_goHour : MethodName := ⟨RX12, "goHour", "()V"⟩
abbrev cX12_goHours : ByteArray := prog_14_method_54_code
def yX12_goHours : MethodName := ⟨RX12, "goHours", "(I)V"⟩
abbrev cX12_stokes : ByteArray := prog_14_method_55_code
def yX12_stokes : MethodName := ⟨RX12, "stokes", "()V"⟩
abbrev cX12_stoke : ByteArray := prog_14_method_56_code
def yX12_stoke : MethodName := ⟨RX12, "stoke", "()I"⟩
abbrev cX12_pass : ByteArray := prog_14_method_57_code
def yX12_pass : MethodName := ⟨RX12, "pass", "(I)I"⟩
abbrev cX12_save : ByteArray := prog_14_method_58_code
def yX12_save : MethodName := ⟨RX12, "save", "()V"⟩
abbrev cX12_putBack : ByteArray := prog_14_method_59_code
def yX12_putBack : MethodName := ⟨RX12, "putBack", "()V"⟩
abbrev cX12_on : ByteArray := prog_14_method_60_code
def yX12_on : MethodName := ⟨RX12, "on", "(II)I"⟩
abbrev cX12_done : ByteArray := prog_14_method_61_code
def yX12_done : MethodName := ⟨RX12, "done", "(I)I"⟩
abbrev cX12_night : ByteArray := prog_14_method_62_code
def yX12_night : MethodName := ⟨RX12, "night", "(I)I"⟩
abbrev cX12_layWets : ByteArray := prog_14_method_63_code
def yX12_layWets : MethodName := ⟨RX12, "layWets", "(I)V"⟩
abbrev cX12_layPlaces : ByteArray := prog_14_method_64_code
def yX12_layPlaces : MethodName := ⟨RX12, "layPlaces", "(I)Z"⟩
abbrev cX12_layBest : ByteArray := prog_14_method_65_code
def yX12_layBest : MethodName := ⟨RX12, "layBest", "(I)V"⟩
abbrev cX12_placed : ByteArray := prog_14_method_66_code
def yX12_placed : MethodName := ⟨RX12, "placed", "(II)I"⟩
abbrev cX12_wetBy : ByteArray := prog_14_method_67_code
def yX12_wetBy : MethodName := ⟨RX12, "wetBy", "(II)I"⟩
abbrev cX12_change : ByteArray := prog_14_method_68_code
def yX12_change : MethodName := ⟨RX12, "change", "()I"⟩
abbrev cX12_wetStoked : ByteArray := prog_14_method_69_code
def yX12_wetStoked : MethodName := ⟨RX12, "wetStoked", "(II)I"⟩
abbrev cX12_logs : ByteArray := prog_14_method_70_code
def yX12_logs : MethodName := ⟨RX12, "logs", "(II)I"⟩
abbrev cX12_see : ByteArray := prog_14_method_71_code
def yX12_see : MethodName := ⟨RX12, "see", "(III)I"⟩
abbrev cX12_isSeen : ByteArray := prog_14_method_72_code
def yX12_isSeen : MethodName := ⟨RX12, "isSeen", "(I)Z"⟩
abbrev cX12_wets : ByteArray := prog_14_method_73_code
def yX12_wets : MethodName := ⟨RX12, "wets", "(II)I"⟩
abbrev cX12_can : ByteArray := prog_14_method_74_code
def yX12_can : MethodName := ⟨RX12, "can", "(II)I"⟩
abbrev cX12_where : ByteArray := prog_14_method_75_code
def yX12_where : MethodName := ⟨RX12, "where", "(I)I"⟩
abbrev cX12_divisor : ByteArray := prog_14_method_76_code
def yX12_divisor : MethodName := ⟨RX12, "divisor", "(II)I"⟩
abbrev cX12_lowest : ByteArray := prog_14_method_77_code
def yX12_lowest : MethodName := ⟨RX12, "lowest", "(III)J"⟩
abbrev cX12_odds : ByteArray := prog_14_method_78_code
def yX12_odds : MethodName := ⟨RX12, "odds", "(III)J"⟩
abbrev cX12_mean : ByteArray := prog_14_method_79_code
def yX12_mean : MethodName := ⟨RX12, "mean", "(II)J"⟩
abbrev cX12_rota : ByteArray := prog_14_method_80_code
def yX12_rota : MethodName := ⟨RX12, "rota", "(II)I"⟩
abbrev cX12_goRota : ByteArray := prog_14_method_81_code
def yX12_goRota : MethodName := ⟨RX12, "goRota", "(II)V"⟩
abbrev cX12_ends : ByteArray := prog_14_method_82_code
def yX12_ends : MethodName := ⟨RX12, "ends", "(I)I"⟩
abbrev cX12_book : ByteArray := prog_14_method_83_code
def yX12_book : MethodName := ⟨RX12, "book", "(II)I"⟩
abbrev cX12_looked : ByteArray := prog_14_method_84_code
def yX12_looked : MethodName := ⟨RX12, "looked", "()I"⟩
abbrev cX12_judge : ByteArray := prog_14_method_85_code
def yX12_judge : MethodName := ⟨RX12, "judge", "(II)I"⟩
abbrev cX12_image : ByteArray := prog_14_method_86_code
def yX12_image : MethodName := ⟨RX12, "image", "()I"⟩
abbrev cX12_undo : ByteArray := prog_14_method_87_code
def yX12_undo : MethodName := ⟨RX12, "undo", "()I"⟩
abbrev cX12_body : ByteArray := prog_14_method_88_code
def yX12_body : MethodName := ⟨RX12, "body", "(I)V"⟩
abbrev cX12_pairDrips : ByteArray := prog_14_method_89_code
def yX12_pairDrips : MethodName := ⟨RX12, "pairDrips", "(II)I"⟩
abbrev cX12_dripsAct : ByteArray := prog_14_method_90_code
def yX12_dripsAct : MethodName := ⟨RX12, "dripsAct", "(II)I"⟩
abbrev cX12_pairSteams : ByteArray := prog_14_method_91_code
def yX12_pairSteams : MethodName := ⟨RX12, "pairSteams", "(II)I"⟩
abbrev cX12_leatherSteams : ByteArray := prog_14_method_92_code
def yX12_leatherSteams : MethodName := ⟨RX12, "leatherSteams", "(II)I"⟩
abbrev cX12_steamsAct : ByteArray := prog_14_method_93_code
def yX12_steamsAct : MethodName := ⟨RX12, "steamsAct", "(II)I"⟩
abbrev cX12_pairTells : ByteArray := prog_14_method_94_code
def yX12_pairTells : MethodName := ⟨RX12, "pairTells", "(II)I"⟩
abbrev cX12_tellsAct : ByteArray := prog_14_method_95_code
def yX12_tellsAct : MethodName := ⟨RX12, "tellsAct", "(II)I"⟩
abbrev cX12_act : ByteArray := prog_14_method_96_code
def yX12_act : MethodName := ⟨RX12, "act", "(III)I"⟩
abbrev cX12_trace : ByteArray := prog_14_method_97_code
def yX12_trace : MethodName := ⟨RX12, "trace", "(I)I"⟩
abbrev cX12_taken : ByteArray := prog_14_method_98_code
def yX12_taken : MethodName := ⟨RX12, "taken", "(II)I"⟩
abbrev cX12_count : ByteArray := prog_14_method_99_code
def yX12_count : MethodName := ⟨RX12, "count", "(I)I"⟩
abbrev cX12_isTape : ByteArray := prog_14_method_100_code
def yX12_isTape : MethodName := ⟨RX12, "isTape", "(I)Z"⟩
abbrev cX12_tape : ByteArray := prog_14_method_101_code
def yX12_tape : MethodName := ⟨RX12, "tape", "(III)I"⟩
abbrev cX12_narrow : ByteArray := prog_14_method_102_code
def yX12_narrow : MethodName := ⟨RX12, "narrow", "(IJ)J"⟩
abbrev cX12_item : ByteArray := prog_14_method_103_code
def yX12_item : MethodName := ⟨RX12, "item", "(IIJ)I"⟩
abbrev cX12_read : ByteArray := prog_14_method_104_code
def yX12_read : MethodName := ⟨RX12, "read", "(II)J"⟩
abbrev cX12_shift : ByteArray := prog_14_method_105_code
def yX12_shift : MethodName := ⟨RX12, "shift", "(IIIII)I"⟩
def RJ6 : String := "java/lang/Integer"
def TJ6 : u_T := fun k => match k with
  | _ => ("", "", "", false)
def tyJ6 : Nat → FieldType := fun k => match k with
  | _ => .int
abbrev wsJ60 : List Cond := u_ws RJ6 TJ6 0
theorem nmJ6 : ∀ a, a < 0 → ∀ b, b < 0 → a ≠ b → (TJ6 a).2.1 ≠ (TJ6 b).2.1 := by decide +kernel
theorem tyJ6_ok : ∀ k, k < 0 → parseFieldDescriptor (TJ6 k).2.2.1 = some (tyJ6 k) := by decide +kernel
abbrev cJ6_bitCount_0f7a4 : ByteArray := prog_15_method_49_code
def yJ6_bitCount_0f7a4 : MethodName := ⟨RJ6, "bitCount", "(I)I"⟩
def RJ9 : String := "java/lang/Math"
def TJ9 : u_T := fun k => match k with
  | _ => ("", "", "", false)
def tyJ9 : Nat → FieldType := fun k => match k with
  | _ => .int
abbrev wsJ90 : List Cond := u_ws RJ9 TJ9 0
theorem nmJ9 : ∀ a, a < 0 → ∀ b, b < 0 → a ≠ b → (TJ9 a).2.1 ≠ (TJ9 b).2.1 := by decide +kernel
theorem tyJ9_ok : ∀ k, k < 0 → parseFieldDescriptor (TJ9 k).2.2.1 = some (tyJ9 k) := by decide +kernel
abbrev cJ9_max_7cf53 : ByteArray := prog_16_method_65_code
def yJ9_max_7cf53 : MethodName := ⟨RJ9, "max", "(II)I"⟩
abbrev cJ9_min_7cf53 : ByteArray := prog_16_method_69_code
def yJ9_min_7cf53 : MethodName := ⟨RJ9, "min", "(II)I"⟩
def RJ10 : String := "java/lang/System"
def TJ10 : u_T := fun k => match k with
  | _ => ("", "", "", false)
def tyJ10 : Nat → FieldType := fun k => match k with
  | _ => .int
abbrev wsJ100 : List Cond := u_ws RJ10 TJ10 0
theorem nmJ10 : ∀ a, a < 0 → ∀ b, b < 0 → a ≠ b → (TJ10 a).2.1 ≠ (TJ10 b).2.1 := by decide +kernel
theorem tyJ10_ok : ∀ k, k < 0 → parseFieldDescriptor (TJ10 k).2.2.1 = some (tyJ10 k) := by decide +kernel
def RJ7 : String := "java/util/Arrays"
def TJ7 : u_T := fun k => match k with
  | _ => ("", "", "", false)
def tyJ7 : Nat → FieldType := fun k => match k with
  | _ => .int
abbrev wsJ70 : List Cond := u_ws RJ7 TJ7 0
theorem nmJ7 : ∀ a, a < 0 → ∀ b, b < 0 → a ≠ b → (TJ7 a).2.1 ≠ (TJ7 b).2.1 := by decide +kernel
theorem tyJ7_ok : ∀ k, k < 0 → parseFieldDescriptor (TJ7 k).2.2.1 = some (tyJ7 k) := by decide +kernel
abbrev cJ7_fill_d0a16 : ByteArray := prog_18_method_101_code
def yJ7_fill_d0a16 : MethodName := ⟨RJ7, "fill", "([JJ)V"⟩
abbrev cJ7_fill_53178 : ByteArray := prog_18_method_103_code
def yJ7_fill_53178 : MethodName := ⟨RJ7, "fill", "([II)V"⟩
def RL : String := "BootsStoveLaw"
abbrev cL_law : ByteArray := code
def yL_law : MethodName := ⟨RL, "law", "([I)Z"⟩
abbrev vwCl : List vw_C := [(RX0, TX0, 3), (RX1, TX1, 8), (RX2, TX2, 2), (RX3, TX3, 7), (RX4, TX4, 4), (RX6, TX6, 7), (RX7, TX7, 3), (RX8, TX8, 4), (RX9, TX9, 4), (RX10, TX10, 3), (RX11, TX11, 17), (RX12, TX12, 82)]
