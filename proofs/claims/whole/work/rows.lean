section
-- ===== PART A: goes FIRST, ahead of the names: the tables' words, and 'selects' of the private methods out of them =====
/-- a private method of a class that the tables say can be made, by its rows of tables_1 -/
def lw_okq (q : MethodName × Nat) : Prop := (q.1.cls ≠ "java/lang/invoke/MethodHandle" ∧ q.1.cls ≠ "java/lang/invoke/VarHandle") ∧ Cond.instantiable q.1.cls q.2 ∈ tables_1 ∧ Cond.privateMethod q.1 ∈ tables_1 ∧ Cond.instanceMethod q.1 ∈ tables_1
theorem lw_p0 : lw_okq (⟨"BootsStove", "noPair", "(I)Z"⟩, 17) := ⟨⟨by decide +kernel, by decide +kernel⟩, List.mem_of_getElem? (i := 19) (by decide +kernel), List.mem_of_getElem? (i := 380) (by decide +kernel), List.mem_of_getElem? (i := 381) (by decide +kernel)⟩
theorem lw_p1 : lw_okq (⟨"BootsStove$Hut", "isTrue", "(I)Z"⟩, 7) := ⟨⟨by decide +kernel, by decide +kernel⟩, List.mem_of_getElem? (i := 159) (by decide +kernel), List.mem_of_getElem? (i := 399) (by decide +kernel), List.mem_of_getElem? (i := 400) (by decide +kernel)⟩
theorem lw_p2 : lw_okq (⟨"BootsStove$Boots", "asStuffed", "(I)I"⟩, 8) := ⟨⟨by decide +kernel, by decide +kernel⟩, List.mem_of_getElem? (i := 61) (by decide +kernel), List.mem_of_getElem? (i := 407) (by decide +kernel), List.mem_of_getElem? (i := 408) (by decide +kernel)⟩
theorem lw_p3 : lw_okq (⟨"BootsStove$HutReader", "readClause", "()Z"⟩, 4) := ⟨⟨by decide +kernel, by decide +kernel⟩, List.mem_of_getElem? (i := 262) (by decide +kernel), List.mem_of_getElem? (i := 467) (by decide +kernel), List.mem_of_getElem? (i := 468) (by decide +kernel)⟩
theorem lw_p4 : lw_okq (⟨"BootsStove$HutReader", "readWord", "()I"⟩, 4) := ⟨⟨by decide +kernel, by decide +kernel⟩, List.mem_of_getElem? (i := 262) (by decide +kernel), List.mem_of_getElem? (i := 471) (by decide +kernel), List.mem_of_getElem? (i := 472) (by decide +kernel)⟩
theorem lw_p5 : lw_okq (⟨"BootsStove$HutReader", "skip", "(I)Z"⟩, 4) := ⟨⟨by decide +kernel, by decide +kernel⟩, List.mem_of_getElem? (i := 262) (by decide +kernel), List.mem_of_getElem? (i := 475) (by decide +kernel), List.mem_of_getElem? (i := 476) (by decide +kernel)⟩
theorem lw_p6 : lw_okq (⟨"BootsStove$HutReader", "sign", "()I"⟩, 4) := ⟨⟨by decide +kernel, by decide +kernel⟩, List.mem_of_getElem? (i := 262) (by decide +kernel), List.mem_of_getElem? (i := 479) (by decide +kernel), List.mem_of_getElem? (i := 480) (by decide +kernel)⟩
theorem lw_p7 : lw_okq (⟨"BootsStove$HutReader", "readNumber", "()I"⟩, 4) := ⟨⟨by decide +kernel, by decide +kernel⟩, List.mem_of_getElem? (i := 262) (by decide +kernel), List.mem_of_getElem? (i := 483) (by decide +kernel), List.mem_of_getElem? (i := 484) (by decide +kernel)⟩
theorem lw_p8 : lw_okq (⟨"BootsStove$HutReader", "readAny", "(I)Z"⟩, 4) := ⟨⟨by decide +kernel, by decide +kernel⟩, List.mem_of_getElem? (i := 262) (by decide +kernel), List.mem_of_getElem? (i := 487) (by decide +kernel), List.mem_of_getElem? (i := 488) (by decide +kernel)⟩
theorem lw_p9 : lw_okq (⟨"BootsStove$HutReader", "readAll", "(I)Z"⟩, 4) := ⟨⟨by decide +kernel, by decide +kernel⟩, List.mem_of_getElem? (i := 262) (by decide +kernel), List.mem_of_getElem? (i := 491) (by decide +kernel), List.mem_of_getElem? (i := 492) (by decide +kernel)⟩
theorem lw_p10 : lw_okq (⟨"BootsStove$HutReader", "readPart", "(I)Z"⟩, 4) := ⟨⟨by decide +kernel, by decide +kernel⟩, List.mem_of_getElem? (i := 262) (by decide +kernel), List.mem_of_getElem? (i := 495) (by decide +kernel), List.mem_of_getElem? (i := 496) (by decide +kernel)⟩
theorem lw_p11 : lw_okq (⟨"BootsStove$HutReader", "readTest", "()Z"⟩, 4) := ⟨⟨by decide +kernel, by decide +kernel⟩, List.mem_of_getElem? (i := 262) (by decide +kernel), List.mem_of_getElem? (i := 503) (by decide +kernel), List.mem_of_getElem? (i := 504) (by decide +kernel)⟩
theorem lw_p12 : lw_okq (⟨"BootsStove", "tryHours", "(I)V"⟩, 17) := ⟨⟨by decide +kernel, by decide +kernel⟩, List.mem_of_getElem? (i := 19) (by decide +kernel), List.mem_of_getElem? (i := 565) (by decide +kernel), List.mem_of_getElem? (i := 566) (by decide +kernel)⟩
theorem lw_p13 : lw_okq (⟨"BootsStove$Placing", "tryFrom", "(IIII)V"⟩, 7) := ⟨⟨by decide +kernel, by decide +kernel⟩, List.mem_of_getElem? (i := 128) (by decide +kernel), List.mem_of_getElem? (i := 625) (by decide +kernel), List.mem_of_getElem? (i := 626) (by decide +kernel)⟩
theorem lw_p14 : lw_okq (⟨"BootsStove$Placing", "keepIfBetter", "(II)V"⟩, 7) := ⟨⟨by decide +kernel, by decide +kernel⟩, List.mem_of_getElem? (i := 128) (by decide +kernel), List.mem_of_getElem? (i := 629) (by decide +kernel), List.mem_of_getElem? (i := 630) (by decide +kernel)⟩
theorem lw_p15 : lw_okq (⟨"BootsStove$Placing", "moreByMove", "(LBootsStove$Boots;I)I"⟩, 7) := ⟨⟨by decide +kernel, by decide +kernel⟩, List.mem_of_getElem? (i := 128) (by decide +kernel), List.mem_of_getElem? (i := 642) (by decide +kernel), List.mem_of_getElem? (i := 643) (by decide +kernel)⟩
def lw_privs_1 : List (MethodName × Nat) := [(⟨"BootsStove", "noPair", "(I)Z"⟩, 17), (⟨"BootsStove$Hut", "isTrue", "(I)Z"⟩, 7), (⟨"BootsStove$Boots", "asStuffed", "(I)I"⟩, 8), (⟨"BootsStove$HutReader", "readClause", "()Z"⟩, 4), (⟨"BootsStove$HutReader", "readWord", "()I"⟩, 4), (⟨"BootsStove$HutReader", "skip", "(I)Z"⟩, 4), (⟨"BootsStove$HutReader", "sign", "()I"⟩, 4), (⟨"BootsStove$HutReader", "readNumber", "()I"⟩, 4), (⟨"BootsStove$HutReader", "readAny", "(I)Z"⟩, 4), (⟨"BootsStove$HutReader", "readAll", "(I)Z"⟩, 4), (⟨"BootsStove$HutReader", "readPart", "(I)Z"⟩, 4), (⟨"BootsStove$HutReader", "readTest", "()Z"⟩, 4), (⟨"BootsStove", "tryHours", "(I)V"⟩, 17), (⟨"BootsStove$Placing", "tryFrom", "(IIII)V"⟩, 7), (⟨"BootsStove$Placing", "keepIfBetter", "(II)V"⟩, 7), (⟨"BootsStove$Placing", "moreByMove", "(LBootsStove$Boots;I)I"⟩, 7)]
theorem lw_r1 : ∀ q ∈ lw_privs_1, lw_okq q := List.forall_mem_cons.mpr ⟨lw_p0, List.forall_mem_cons.mpr ⟨lw_p1, List.forall_mem_cons.mpr ⟨lw_p2, List.forall_mem_cons.mpr ⟨lw_p3, List.forall_mem_cons.mpr ⟨lw_p4, List.forall_mem_cons.mpr ⟨lw_p5, List.forall_mem_cons.mpr ⟨lw_p6, List.forall_mem_cons.mpr ⟨lw_p7, List.forall_mem_cons.mpr ⟨lw_p8, List.forall_mem_cons.mpr ⟨lw_p9, List.forall_mem_cons.mpr ⟨lw_p10, List.forall_mem_cons.mpr ⟨lw_p11, List.forall_mem_cons.mpr ⟨lw_p12, List.forall_mem_cons.mpr ⟨lw_p13, List.forall_mem_cons.mpr ⟨lw_p14, List.forall_mem_cons.mpr ⟨lw_p15, fun _ h => absurd h List.not_mem_nil⟩⟩⟩⟩⟩⟩⟩⟩⟩⟩⟩⟩⟩⟩⟩⟩
theorem lw_p16 : lw_okq (⟨"BootsStove", "wetByLogs", "(II)I"⟩, 17) := ⟨⟨by decide +kernel, by decide +kernel⟩, List.mem_of_getElem? (i := 19) (by decide +kernel), List.mem_of_getElem? (i := 650) (by decide +kernel), List.mem_of_getElem? (i := 651) (by decide +kernel)⟩
theorem lw_p17 : lw_okq (⟨"BootsStove", "courseIsAsSeen", "()Z"⟩, 17) := ⟨⟨by decide +kernel, by decide +kernel⟩, List.mem_of_getElem? (i := 19) (by decide +kernel), List.mem_of_getElem? (i := 677) (by decide +kernel), List.mem_of_getElem? (i := 678) (by decide +kernel)⟩
theorem lw_p18 : lw_okq (⟨"BootsStove", "allIsAsSeenWith", "(II)Z"⟩, 17) := ⟨⟨by decide +kernel, by decide +kernel⟩, List.mem_of_getElem? (i := 19) (by decide +kernel), List.mem_of_getElem? (i := 694) (by decide +kernel), List.mem_of_getElem? (i := 695) (by decide +kernel)⟩
theorem lw_p19 : lw_okq (⟨"BootsStove$Acts", "drips", "(II)I"⟩, 3) := ⟨⟨by decide +kernel, by decide +kernel⟩, List.mem_of_getElem? (i := 55) (by decide +kernel), List.mem_of_getElem? (i := 764) (by decide +kernel), List.mem_of_getElem? (i := 765) (by decide +kernel)⟩
theorem lw_p20 : lw_okq (⟨"BootsStove$Acts", "note", "(I)V"⟩, 3) := ⟨⟨by decide +kernel, by decide +kernel⟩, List.mem_of_getElem? (i := 55) (by decide +kernel), List.mem_of_getElem? (i := 768) (by decide +kernel), List.mem_of_getElem? (i := 769) (by decide +kernel)⟩
theorem lw_p21 : lw_okq (⟨"BootsStove$Acts", "steams", "(II)I"⟩, 3) := ⟨⟨by decide +kernel, by decide +kernel⟩, List.mem_of_getElem? (i := 55) (by decide +kernel), List.mem_of_getElem? (i := 775) (by decide +kernel), List.mem_of_getElem? (i := 776) (by decide +kernel)⟩
theorem lw_p22 : lw_okq (⟨"BootsStove$Acts", "tells", "(II)I"⟩, 3) := ⟨⟨by decide +kernel, by decide +kernel⟩, List.mem_of_getElem? (i := 55) (by decide +kernel), List.mem_of_getElem? (i := 779) (by decide +kernel), List.mem_of_getElem? (i := 780) (by decide +kernel)⟩
theorem lw_p23 : lw_okq (⟨"BootsStoveModel", "in", "(III)Z"⟩, 82) := ⟨⟨by decide +kernel, by decide +kernel⟩, List.mem_of_getElem? (i := 836) (by decide +kernel), List.mem_of_getElem? (i := 1093) (by decide +kernel), List.mem_of_getElem? (i := 1094) (by decide +kernel)⟩
theorem lw_p24 : lw_okq (⟨"BootsStoveModel", "isWet", "(I)Z"⟩, 82) := ⟨⟨by decide +kernel, by decide +kernel⟩, List.mem_of_getElem? (i := 836) (by decide +kernel), List.mem_of_getElem? (i := 1097) (by decide +kernel), List.mem_of_getElem? (i := 1098) (by decide +kernel)⟩
theorem lw_p25 : lw_okq (⟨"BootsStoveModel", "whoIs", "(I)I"⟩, 82) := ⟨⟨by decide +kernel, by decide +kernel⟩, List.mem_of_getElem? (i := 836) (by decide +kernel), List.mem_of_getElem? (i := 1101) (by decide +kernel), List.mem_of_getElem? (i := 1102) (by decide +kernel)⟩
theorem lw_p26 : lw_okq (⟨"BootsStoveModel", "isPair", "(I)Z"⟩, 82) := ⟨⟨by decide +kernel, by decide +kernel⟩, List.mem_of_getElem? (i := 836) (by decide +kernel), List.mem_of_getElem? (i := 1109) (by decide +kernel), List.mem_of_getElem? (i := 1110) (by decide +kernel)⟩
theorem lw_p27 : lw_okq (⟨"BootsStoveModel", "isPlace", "(I)Z"⟩, 82) := ⟨⟨by decide +kernel, by decide +kernel⟩, List.mem_of_getElem? (i := 836) (by decide +kernel), List.mem_of_getElem? (i := 1117) (by decide +kernel), List.mem_of_getElem? (i := 1118) (by decide +kernel)⟩
theorem lw_p28 : lw_okq (⟨"BootsStoveModel", "comesTo", "(II)V"⟩, 82) := ⟨⟨by decide +kernel, by decide +kernel⟩, List.mem_of_getElem? (i := 836) (by decide +kernel), List.mem_of_getElem? (i := 1121) (by decide +kernel), List.mem_of_getElem? (i := 1122) (by decide +kernel)⟩
theorem lw_p29 : lw_okq (⟨"BootsStoveModel", "has", "(II)Z"⟩, 82) := ⟨⟨by decide +kernel, by decide +kernel⟩, List.mem_of_getElem? (i := 836) (by decide +kernel), List.mem_of_getElem? (i := 1129) (by decide +kernel), List.mem_of_getElem? (i := 1130) (by decide +kernel)⟩
theorem lw_p30 : lw_okq (⟨"BootsStoveModel", "goes", "(IZ)V"⟩, 82) := ⟨⟨by decide +kernel, by decide +kernel⟩, List.mem_of_getElem? (i := 836) (by decide +kernel), List.mem_of_getElem? (i := 1133) (by decide +kernel), List.mem_of_getElem? (i := 1134) (by decide +kernel)⟩
theorem lw_p31 : lw_okq (⟨"BootsStoveModel", "goesText", "(I)Z"⟩, 82) := ⟨⟨by decide +kernel, by decide +kernel⟩, List.mem_of_getElem? (i := 836) (by decide +kernel), List.mem_of_getElem? (i := 1153) (by decide +kernel), List.mem_of_getElem? (i := 1154) (by decide +kernel)⟩
def lw_privs_2 : List (MethodName × Nat) := [(⟨"BootsStove", "wetByLogs", "(II)I"⟩, 17), (⟨"BootsStove", "courseIsAsSeen", "()Z"⟩, 17), (⟨"BootsStove", "allIsAsSeenWith", "(II)Z"⟩, 17), (⟨"BootsStove$Acts", "drips", "(II)I"⟩, 3), (⟨"BootsStove$Acts", "note", "(I)V"⟩, 3), (⟨"BootsStove$Acts", "steams", "(II)I"⟩, 3), (⟨"BootsStove$Acts", "tells", "(II)I"⟩, 3), (⟨"BootsStoveModel", "in", "(III)Z"⟩, 82), (⟨"BootsStoveModel", "isWet", "(I)Z"⟩, 82), (⟨"BootsStoveModel", "whoIs", "(I)I"⟩, 82), (⟨"BootsStoveModel", "isPair", "(I)Z"⟩, 82), (⟨"BootsStoveModel", "isPlace", "(I)Z"⟩, 82), (⟨"BootsStoveModel", "comesTo", "(II)V"⟩, 82), (⟨"BootsStoveModel", "has", "(II)Z"⟩, 82), (⟨"BootsStoveModel", "goes", "(IZ)V"⟩, 82), (⟨"BootsStoveModel", "goesText", "(I)Z"⟩, 82)]
theorem lw_r2 : ∀ q ∈ lw_privs_2, lw_okq q := List.forall_mem_cons.mpr ⟨lw_p16, List.forall_mem_cons.mpr ⟨lw_p17, List.forall_mem_cons.mpr ⟨lw_p18, List.forall_mem_cons.mpr ⟨lw_p19, List.forall_mem_cons.mpr ⟨lw_p20, List.forall_mem_cons.mpr ⟨lw_p21, List.forall_mem_cons.mpr ⟨lw_p22, List.forall_mem_cons.mpr ⟨lw_p23, List.forall_mem_cons.mpr ⟨lw_p24, List.forall_mem_cons.mpr ⟨lw_p25, List.forall_mem_cons.mpr ⟨lw_p26, List.forall_mem_cons.mpr ⟨lw_p27, List.forall_mem_cons.mpr ⟨lw_p28, List.forall_mem_cons.mpr ⟨lw_p29, List.forall_mem_cons.mpr ⟨lw_p30, List.forall_mem_cons.mpr ⟨lw_p31, fun _ h => absurd h List.not_mem_nil⟩⟩⟩⟩⟩⟩⟩⟩⟩⟩⟩⟩⟩⟩⟩⟩
theorem lw_p32 : lw_okq (⟨"BootsStoveModel", "takesClause", "(I)Z"⟩, 82) := ⟨⟨by decide +kernel, by decide +kernel⟩, List.mem_of_getElem? (i := 836) (by decide +kernel), List.mem_of_getElem? (i := 1157) (by decide +kernel), List.mem_of_getElem? (i := 1158) (by decide +kernel)⟩
theorem lw_p33 : lw_okq (⟨"BootsStoveModel", "takesHead", "(I)Z"⟩, 82) := ⟨⟨by decide +kernel, by decide +kernel⟩, List.mem_of_getElem? (i := 836) (by decide +kernel), List.mem_of_getElem? (i := 1161) (by decide +kernel), List.mem_of_getElem? (i := 1162) (by decide +kernel)⟩
theorem lw_p34 : lw_okq (⟨"BootsStoveModel", "next", "()I"⟩, 82) := ⟨⟨by decide +kernel, by decide +kernel⟩, List.mem_of_getElem? (i := 836) (by decide +kernel), List.mem_of_getElem? (i := 1165) (by decide +kernel), List.mem_of_getElem? (i := 1166) (by decide +kernel)⟩
theorem lw_p35 : lw_okq (⟨"BootsStoveModel", "takesWord", "(II)Z"⟩, 82) := ⟨⟨by decide +kernel, by decide +kernel⟩, List.mem_of_getElem? (i := 836) (by decide +kernel), List.mem_of_getElem? (i := 1169) (by decide +kernel), List.mem_of_getElem? (i := 1170) (by decide +kernel)⟩
theorem lw_p36 : lw_okq (⟨"BootsStoveModel", "takes", "(I)Z"⟩, 82) := ⟨⟨by decide +kernel, by decide +kernel⟩, List.mem_of_getElem? (i := 836) (by decide +kernel), List.mem_of_getElem? (i := 1173) (by decide +kernel), List.mem_of_getElem? (i := 1174) (by decide +kernel)⟩
theorem lw_p37 : lw_okq (⟨"BootsStoveModel", "second", "()I"⟩, 82) := ⟨⟨by decide +kernel, by decide +kernel⟩, List.mem_of_getElem? (i := 836) (by decide +kernel), List.mem_of_getElem? (i := 1177) (by decide +kernel), List.mem_of_getElem? (i := 1178) (by decide +kernel)⟩
theorem lw_p38 : lw_okq (⟨"BootsStoveModel", "takesNumber", "()Z"⟩, 82) := ⟨⟨by decide +kernel, by decide +kernel⟩, List.mem_of_getElem? (i := 836) (by decide +kernel), List.mem_of_getElem? (i := 1181) (by decide +kernel), List.mem_of_getElem? (i := 1182) (by decide +kernel)⟩
theorem lw_p39 : lw_okq (⟨"BootsStoveModel", "isDigit", "()Z"⟩, 82) := ⟨⟨by decide +kernel, by decide +kernel⟩, List.mem_of_getElem? (i := 836) (by decide +kernel), List.mem_of_getElem? (i := 1185) (by decide +kernel), List.mem_of_getElem? (i := 1186) (by decide +kernel)⟩
theorem lw_p40 : lw_okq (⟨"BootsStoveModel", "takesE", "(I)Z"⟩, 82) := ⟨⟨by decide +kernel, by decide +kernel⟩, List.mem_of_getElem? (i := 836) (by decide +kernel), List.mem_of_getElem? (i := 1189) (by decide +kernel), List.mem_of_getElem? (i := 1190) (by decide +kernel)⟩
theorem lw_p41 : lw_okq (⟨"BootsStoveModel", "takesTest", "()Z"⟩, 82) := ⟨⟨by decide +kernel, by decide +kernel⟩, List.mem_of_getElem? (i := 836) (by decide +kernel), List.mem_of_getElem? (i := 1193) (by decide +kernel), List.mem_of_getElem? (i := 1194) (by decide +kernel)⟩
theorem lw_p42 : lw_okq (⟨"BootsStoveModel", "place", "(I)I"⟩, 82) := ⟨⟨by decide +kernel, by decide +kernel⟩, List.mem_of_getElem? (i := 836) (by decide +kernel), List.mem_of_getElem? (i := 1197) (by decide +kernel), List.mem_of_getElem? (i := 1198) (by decide +kernel)⟩
theorem lw_p43 : lw_okq (⟨"BootsStoveModel", "emits", "(I)V"⟩, 82) := ⟨⟨by decide +kernel, by decide +kernel⟩, List.mem_of_getElem? (i := 836) (by decide +kernel), List.mem_of_getElem? (i := 1201) (by decide +kernel), List.mem_of_getElem? (i := 1202) (by decide +kernel)⟩
theorem lw_p44 : lw_okq (⟨"BootsStoveModel", "whole", "()V"⟩, 82) := ⟨⟨by decide +kernel, by decide +kernel⟩, List.mem_of_getElem? (i := 836) (by decide +kernel), List.mem_of_getElem? (i := 1205) (by decide +kernel), List.mem_of_getElem? (i := 1206) (by decide +kernel)⟩
theorem lw_p45 : lw_okq (⟨"BootsStoveModel", "settle", "(I)V"⟩, 82) := ⟨⟨by decide +kernel, by decide +kernel⟩, List.mem_of_getElem? (i := 836) (by decide +kernel), List.mem_of_getElem? (i := 1209) (by decide +kernel), List.mem_of_getElem? (i := 1210) (by decide +kernel)⟩
theorem lw_p46 : lw_okq (⟨"BootsStoveModel", "dries", "(II)I"⟩, 82) := ⟨⟨by decide +kernel, by decide +kernel⟩, List.mem_of_getElem? (i := 836) (by decide +kernel), List.mem_of_getElem? (i := 1217) (by decide +kernel), List.mem_of_getElem? (i := 1218) (by decide +kernel)⟩
theorem lw_p47 : lw_okq (⟨"BootsStoveModel", "plainDries", "(II)I"⟩, 82) := ⟨⟨by decide +kernel, by decide +kernel⟩, List.mem_of_getElem? (i := 836) (by decide +kernel), List.mem_of_getElem? (i := 1221) (by decide +kernel), List.mem_of_getElem? (i := 1222) (by decide +kernel)⟩
def lw_privs_3 : List (MethodName × Nat) := [(⟨"BootsStoveModel", "takesClause", "(I)Z"⟩, 82), (⟨"BootsStoveModel", "takesHead", "(I)Z"⟩, 82), (⟨"BootsStoveModel", "next", "()I"⟩, 82), (⟨"BootsStoveModel", "takesWord", "(II)Z"⟩, 82), (⟨"BootsStoveModel", "takes", "(I)Z"⟩, 82), (⟨"BootsStoveModel", "second", "()I"⟩, 82), (⟨"BootsStoveModel", "takesNumber", "()Z"⟩, 82), (⟨"BootsStoveModel", "isDigit", "()Z"⟩, 82), (⟨"BootsStoveModel", "takesE", "(I)Z"⟩, 82), (⟨"BootsStoveModel", "takesTest", "()Z"⟩, 82), (⟨"BootsStoveModel", "place", "(I)I"⟩, 82), (⟨"BootsStoveModel", "emits", "(I)V"⟩, 82), (⟨"BootsStoveModel", "whole", "()V"⟩, 82), (⟨"BootsStoveModel", "settle", "(I)V"⟩, 82), (⟨"BootsStoveModel", "dries", "(II)I"⟩, 82), (⟨"BootsStoveModel", "plainDries", "(II)I"⟩, 82)]
theorem lw_r3 : ∀ q ∈ lw_privs_3, lw_okq q := List.forall_mem_cons.mpr ⟨lw_p32, List.forall_mem_cons.mpr ⟨lw_p33, List.forall_mem_cons.mpr ⟨lw_p34, List.forall_mem_cons.mpr ⟨lw_p35, List.forall_mem_cons.mpr ⟨lw_p36, List.forall_mem_cons.mpr ⟨lw_p37, List.forall_mem_cons.mpr ⟨lw_p38, List.forall_mem_cons.mpr ⟨lw_p39, List.forall_mem_cons.mpr ⟨lw_p40, List.forall_mem_cons.mpr ⟨lw_p41, List.forall_mem_cons.mpr ⟨lw_p42, List.forall_mem_cons.mpr ⟨lw_p43, List.forall_mem_cons.mpr ⟨lw_p44, List.forall_mem_cons.mpr ⟨lw_p45, List.forall_mem_cons.mpr ⟨lw_p46, List.forall_mem_cons.mpr ⟨lw_p47, fun _ h => absurd h List.not_mem_nil⟩⟩⟩⟩⟩⟩⟩⟩⟩⟩⟩⟩⟩⟩⟩⟩
theorem lw_p48 : lw_okq (⟨"BootsStoveModel", "sum", "(II)I"⟩, 82) := ⟨⟨by decide +kernel, by decide +kernel⟩, List.mem_of_getElem? (i := 836) (by decide +kernel), List.mem_of_getElem? (i := 1225) (by decide +kernel), List.mem_of_getElem? (i := 1226) (by decide +kernel)⟩
theorem lw_p49 : lw_okq (⟨"BootsStoveModel", "warm", "(I)I"⟩, 82) := ⟨⟨by decide +kernel, by decide +kernel⟩, List.mem_of_getElem? (i := 836) (by decide +kernel), List.mem_of_getElem? (i := 1229) (by decide +kernel), List.mem_of_getElem? (i := 1230) (by decide +kernel)⟩
theorem lw_p50 : lw_okq (⟨"BootsStoveModel", "atLeast0", "(I)I"⟩, 82) := ⟨⟨by decide +kernel, by decide +kernel⟩, List.mem_of_getElem? (i := 836) (by decide +kernel), List.mem_of_getElem? (i := 1233) (by decide +kernel), List.mem_of_getElem? (i := 1234) (by decide +kernel)⟩
theorem lw_p51 : lw_okq (⟨"BootsStoveModel", "begin", "()I"⟩, 82) := ⟨⟨by decide +kernel, by decide +kernel⟩, List.mem_of_getElem? (i := 836) (by decide +kernel), List.mem_of_getElem? (i := 1237) (by decide +kernel), List.mem_of_getElem? (i := 1238) (by decide +kernel)⟩
theorem lw_p52 : lw_okq (⟨"BootsStoveModel", "behind", "()I"⟩, 82) := ⟨⟨by decide +kernel, by decide +kernel⟩, List.mem_of_getElem? (i := 836) (by decide +kernel), List.mem_of_getElem? (i := 1241) (by decide +kernel), List.mem_of_getElem? (i := 1242) (by decide +kernel)⟩
theorem lw_p53 : lw_okq (⟨"BootsStoveModel", "holds", "(III)Z"⟩, 82) := ⟨⟨by decide +kernel, by decide +kernel⟩, List.mem_of_getElem? (i := 836) (by decide +kernel), List.mem_of_getElem? (i := 1245) (by decide +kernel), List.mem_of_getElem? (i := 1246) (by decide +kernel)⟩
theorem lw_p54 : lw_okq (⟨"BootsStoveModel", "factOf", "(III)I"⟩, 82) := ⟨⟨by decide +kernel, by decide +kernel⟩, List.mem_of_getElem? (i := 836) (by decide +kernel), List.mem_of_getElem? (i := 1249) (by decide +kernel), List.mem_of_getElem? (i := 1250) (by decide +kernel)⟩
theorem lw_p55 : lw_okq (⟨"BootsStoveModel", "spoils", "(I)Z"⟩, 82) := ⟨⟨by decide +kernel, by decide +kernel⟩, List.mem_of_getElem? (i := 836) (by decide +kernel), List.mem_of_getElem? (i := 1253) (by decide +kernel), List.mem_of_getElem? (i := 1254) (by decide +kernel)⟩
theorem lw_p56 : lw_okq (⟨"BootsStoveModel", "lastOf", "(II)I"⟩, 82) := ⟨⟨by decide +kernel, by decide +kernel⟩, List.mem_of_getElem? (i := 836) (by decide +kernel), List.mem_of_getElem? (i := 1261) (by decide +kernel), List.mem_of_getElem? (i := 1262) (by decide +kernel)⟩
theorem lw_p57 : lw_okq (⟨"BootsStoveModel", "wetHere", "()I"⟩, 82) := ⟨⟨by decide +kernel, by decide +kernel⟩, List.mem_of_getElem? (i := 836) (by decide +kernel), List.mem_of_getElem? (i := 1265) (by decide +kernel), List.mem_of_getElem? (i := 1266) (by decide +kernel)⟩
theorem lw_p58 : lw_okq (⟨"BootsStoveModel", "allCracks", "()I"⟩, 82) := ⟨⟨by decide +kernel, by decide +kernel⟩, List.mem_of_getElem? (i := 836) (by decide +kernel), List.mem_of_getElem? (i := 1269) (by decide +kernel), List.mem_of_getElem? (i := 1270) (by decide +kernel)⟩
theorem lw_p59 : lw_okq (⟨"BootsStoveModel", "drySet", "()I"⟩, 82) := ⟨⟨by decide +kernel, by decide +kernel⟩, List.mem_of_getElem? (i := 836) (by decide +kernel), List.mem_of_getElem? (i := 1273) (by decide +kernel), List.mem_of_getElem? (i := 1274) (by decide +kernel)⟩
theorem lw_p60 : lw_okq (⟨"BootsStoveModel", "stokes", "()V"⟩, 82) := ⟨⟨by decide +kernel, by decide +kernel⟩, List.mem_of_getElem? (i := 836) (by decide +kernel), List.mem_of_getElem? (i := 1281) (by decide +kernel), List.mem_of_getElem? (i := 1282) (by decide +kernel)⟩
theorem lw_p61 : lw_okq (⟨"BootsStoveModel", "least", "(II)I"⟩, 82) := ⟨⟨by decide +kernel, by decide +kernel⟩, List.mem_of_getElem? (i := 836) (by decide +kernel), List.mem_of_getElem? (i := 1285) (by decide +kernel), List.mem_of_getElem? (i := 1286) (by decide +kernel)⟩
theorem lw_p62 : lw_okq (⟨"BootsStoveModel", "isHours", "(I)Z"⟩, 82) := ⟨⟨by decide +kernel, by decide +kernel⟩, List.mem_of_getElem? (i := 836) (by decide +kernel), List.mem_of_getElem? (i := 1293) (by decide +kernel), List.mem_of_getElem? (i := 1294) (by decide +kernel)⟩
theorem lw_p63 : lw_okq (⟨"BootsStoveModel", "goHours", "(I)V"⟩, 82) := ⟨⟨by decide +kernel, by decide +kernel⟩, List.mem_of_getElem? (i := 836) (by decide +kernel), List.mem_of_getElem? (i := 1297) (by decide +kernel), List.mem_of_getElem? (i := 1298) (by decide +kernel)⟩
def lw_privs_4 : List (MethodName × Nat) := [(⟨"BootsStoveModel", "sum", "(II)I"⟩, 82), (⟨"BootsStoveModel", "warm", "(I)I"⟩, 82), (⟨"BootsStoveModel", "atLeast0", "(I)I"⟩, 82), (⟨"BootsStoveModel", "begin", "()I"⟩, 82), (⟨"BootsStoveModel", "behind", "()I"⟩, 82), (⟨"BootsStoveModel", "holds", "(III)Z"⟩, 82), (⟨"BootsStoveModel", "factOf", "(III)I"⟩, 82), (⟨"BootsStoveModel", "spoils", "(I)Z"⟩, 82), (⟨"BootsStoveModel", "lastOf", "(II)I"⟩, 82), (⟨"BootsStoveModel", "wetHere", "()I"⟩, 82), (⟨"BootsStoveModel", "allCracks", "()I"⟩, 82), (⟨"BootsStoveModel", "drySet", "()I"⟩, 82), (⟨"BootsStoveModel", "stokes", "()V"⟩, 82), (⟨"BootsStoveModel", "least", "(II)I"⟩, 82), (⟨"BootsStoveModel", "isHours", "(I)Z"⟩, 82), (⟨"BootsStoveModel", "goHours", "(I)V"⟩, 82)]
theorem lw_r4 : ∀ q ∈ lw_privs_4, lw_okq q := List.forall_mem_cons.mpr ⟨lw_p48, List.forall_mem_cons.mpr ⟨lw_p49, List.forall_mem_cons.mpr ⟨lw_p50, List.forall_mem_cons.mpr ⟨lw_p51, List.forall_mem_cons.mpr ⟨lw_p52, List.forall_mem_cons.mpr ⟨lw_p53, List.forall_mem_cons.mpr ⟨lw_p54, List.forall_mem_cons.mpr ⟨lw_p55, List.forall_mem_cons.mpr ⟨lw_p56, List.forall_mem_cons.mpr ⟨lw_p57, List.forall_mem_cons.mpr ⟨lw_p58, List.forall_mem_cons.mpr ⟨lw_p59, List.forall_mem_cons.mpr ⟨lw_p60, List.forall_mem_cons.mpr ⟨lw_p61, List.forall_mem_cons.mpr ⟨lw_p62, List.forall_mem_cons.mpr ⟨lw_p63, fun _ h => absurd h List.not_mem_nil⟩⟩⟩⟩⟩⟩⟩⟩⟩⟩⟩⟩⟩⟩⟩⟩
theorem lw_p64 : lw_okq (⟨"BootsStoveModel", "goHour", "()V"⟩, 82) := ⟨⟨by decide +kernel, by decide +kernel⟩, List.mem_of_getElem? (i := 836) (by decide +kernel), List.mem_of_getElem? (i := 1301) (by decide +kernel), List.mem_of_getElem? (i := 1302) (by decide +kernel)⟩
theorem lw_p65 : lw_okq (⟨"BootsStoveModel", "save", "()V"⟩, 82) := ⟨⟨by decide +kernel, by decide +kernel⟩, List.mem_of_getElem? (i := 836) (by decide +kernel), List.mem_of_getElem? (i := 1309) (by decide +kernel), List.mem_of_getElem? (i := 1310) (by decide +kernel)⟩
theorem lw_p66 : lw_okq (⟨"BootsStoveModel", "putBack", "()V"⟩, 82) := ⟨⟨by decide +kernel, by decide +kernel⟩, List.mem_of_getElem? (i := 836) (by decide +kernel), List.mem_of_getElem? (i := 1314) (by decide +kernel), List.mem_of_getElem? (i := 1315) (by decide +kernel)⟩
theorem lw_p67 : lw_okq (⟨"BootsStoveModel", "bits", "(I)I"⟩, 82) := ⟨⟨by decide +kernel, by decide +kernel⟩, List.mem_of_getElem? (i := 836) (by decide +kernel), List.mem_of_getElem? (i := 1326) (by decide +kernel), List.mem_of_getElem? (i := 1327) (by decide +kernel)⟩
theorem lw_p68 : lw_okq (⟨"BootsStoveModel", "layBest", "(I)V"⟩, 82) := ⟨⟨by decide +kernel, by decide +kernel⟩, List.mem_of_getElem? (i := 836) (by decide +kernel), List.mem_of_getElem? (i := 1334) (by decide +kernel), List.mem_of_getElem? (i := 1335) (by decide +kernel)⟩
theorem lw_p69 : lw_okq (⟨"BootsStoveModel", "layWets", "(I)V"⟩, 82) := ⟨⟨by decide +kernel, by decide +kernel⟩, List.mem_of_getElem? (i := 836) (by decide +kernel), List.mem_of_getElem? (i := 1338) (by decide +kernel), List.mem_of_getElem? (i := 1339) (by decide +kernel)⟩
theorem lw_p70 : lw_okq (⟨"BootsStoveModel", "layPlaces", "(I)Z"⟩, 82) := ⟨⟨by decide +kernel, by decide +kernel⟩, List.mem_of_getElem? (i := 836) (by decide +kernel), List.mem_of_getElem? (i := 1342) (by decide +kernel), List.mem_of_getElem? (i := 1343) (by decide +kernel)⟩
theorem lw_p71 : lw_okq (⟨"BootsStoveModel", "wetBy", "(II)I"⟩, 82) := ⟨⟨by decide +kernel, by decide +kernel⟩, List.mem_of_getElem? (i := 836) (by decide +kernel), List.mem_of_getElem? (i := 1350) (by decide +kernel), List.mem_of_getElem? (i := 1351) (by decide +kernel)⟩
theorem lw_p72 : lw_okq (⟨"BootsStoveModel", "wetStoked", "(II)I"⟩, 82) := ⟨⟨by decide +kernel, by decide +kernel⟩, List.mem_of_getElem? (i := 836) (by decide +kernel), List.mem_of_getElem? (i := 1358) (by decide +kernel), List.mem_of_getElem? (i := 1359) (by decide +kernel)⟩
theorem lw_p73 : lw_okq (⟨"BootsStoveModel", "isSeen", "(I)Z"⟩, 82) := ⟨⟨by decide +kernel, by decide +kernel⟩, List.mem_of_getElem? (i := 836) (by decide +kernel), List.mem_of_getElem? (i := 1370) (by decide +kernel), List.mem_of_getElem? (i := 1371) (by decide +kernel)⟩
theorem lw_p74 : lw_okq (⟨"BootsStoveModel", "lowest", "(III)J"⟩, 82) := ⟨⟨by decide +kernel, by decide +kernel⟩, List.mem_of_getElem? (i := 836) (by decide +kernel), List.mem_of_getElem? (i := 1387) (by decide +kernel), List.mem_of_getElem? (i := 1388) (by decide +kernel)⟩
theorem lw_p75 : lw_okq (⟨"BootsStoveModel", "divisor", "(II)I"⟩, 82) := ⟨⟨by decide +kernel, by decide +kernel⟩, List.mem_of_getElem? (i := 836) (by decide +kernel), List.mem_of_getElem? (i := 1391) (by decide +kernel), List.mem_of_getElem? (i := 1392) (by decide +kernel)⟩
theorem lw_p76 : lw_okq (⟨"BootsStoveModel", "wetAll", "()I"⟩, 82) := ⟨⟨by decide +kernel, by decide +kernel⟩, List.mem_of_getElem? (i := 836) (by decide +kernel), List.mem_of_getElem? (i := 1399) (by decide +kernel), List.mem_of_getElem? (i := 1400) (by decide +kernel)⟩
theorem lw_p77 : lw_okq (⟨"BootsStoveModel", "goRota", "(II)V"⟩, 82) := ⟨⟨by decide +kernel, by decide +kernel⟩, List.mem_of_getElem? (i := 836) (by decide +kernel), List.mem_of_getElem? (i := 1411) (by decide +kernel), List.mem_of_getElem? (i := 1412) (by decide +kernel)⟩
theorem lw_p78 : lw_okq (⟨"BootsStoveModel", "isTape", "(I)Z"⟩, 82) := ⟨⟨by decide +kernel, by decide +kernel⟩, List.mem_of_getElem? (i := 836) (by decide +kernel), List.mem_of_getElem? (i := 1427) (by decide +kernel), List.mem_of_getElem? (i := 1428) (by decide +kernel)⟩
theorem lw_p79 : lw_okq (⟨"BootsStoveModel", "dripsAct", "(II)I"⟩, 82) := ⟨⟨by decide +kernel, by decide +kernel⟩, List.mem_of_getElem? (i := 836) (by decide +kernel), List.mem_of_getElem? (i := 1443) (by decide +kernel), List.mem_of_getElem? (i := 1444) (by decide +kernel)⟩
def lw_privs_5 : List (MethodName × Nat) := [(⟨"BootsStoveModel", "goHour", "()V"⟩, 82), (⟨"BootsStoveModel", "save", "()V"⟩, 82), (⟨"BootsStoveModel", "putBack", "()V"⟩, 82), (⟨"BootsStoveModel", "bits", "(I)I"⟩, 82), (⟨"BootsStoveModel", "layBest", "(I)V"⟩, 82), (⟨"BootsStoveModel", "layWets", "(I)V"⟩, 82), (⟨"BootsStoveModel", "layPlaces", "(I)Z"⟩, 82), (⟨"BootsStoveModel", "wetBy", "(II)I"⟩, 82), (⟨"BootsStoveModel", "wetStoked", "(II)I"⟩, 82), (⟨"BootsStoveModel", "isSeen", "(I)Z"⟩, 82), (⟨"BootsStoveModel", "lowest", "(III)J"⟩, 82), (⟨"BootsStoveModel", "divisor", "(II)I"⟩, 82), (⟨"BootsStoveModel", "wetAll", "()I"⟩, 82), (⟨"BootsStoveModel", "goRota", "(II)V"⟩, 82), (⟨"BootsStoveModel", "isTape", "(I)Z"⟩, 82), (⟨"BootsStoveModel", "dripsAct", "(II)I"⟩, 82)]
theorem lw_r5 : ∀ q ∈ lw_privs_5, lw_okq q := List.forall_mem_cons.mpr ⟨lw_p64, List.forall_mem_cons.mpr ⟨lw_p65, List.forall_mem_cons.mpr ⟨lw_p66, List.forall_mem_cons.mpr ⟨lw_p67, List.forall_mem_cons.mpr ⟨lw_p68, List.forall_mem_cons.mpr ⟨lw_p69, List.forall_mem_cons.mpr ⟨lw_p70, List.forall_mem_cons.mpr ⟨lw_p71, List.forall_mem_cons.mpr ⟨lw_p72, List.forall_mem_cons.mpr ⟨lw_p73, List.forall_mem_cons.mpr ⟨lw_p74, List.forall_mem_cons.mpr ⟨lw_p75, List.forall_mem_cons.mpr ⟨lw_p76, List.forall_mem_cons.mpr ⟨lw_p77, List.forall_mem_cons.mpr ⟨lw_p78, List.forall_mem_cons.mpr ⟨lw_p79, fun _ h => absurd h List.not_mem_nil⟩⟩⟩⟩⟩⟩⟩⟩⟩⟩⟩⟩⟩⟩⟩⟩
theorem lw_p80 : lw_okq (⟨"BootsStoveModel", "body", "(I)V"⟩, 82) := ⟨⟨by decide +kernel, by decide +kernel⟩, List.mem_of_getElem? (i := 836) (by decide +kernel), List.mem_of_getElem? (i := 1447) (by decide +kernel), List.mem_of_getElem? (i := 1448) (by decide +kernel)⟩
theorem lw_p81 : lw_okq (⟨"BootsStoveModel", "pairDrips", "(II)I"⟩, 82) := ⟨⟨by decide +kernel, by decide +kernel⟩, List.mem_of_getElem? (i := 836) (by decide +kernel), List.mem_of_getElem? (i := 1451) (by decide +kernel), List.mem_of_getElem? (i := 1452) (by decide +kernel)⟩
theorem lw_p82 : lw_okq (⟨"BootsStoveModel", "steamsAct", "(II)I"⟩, 82) := ⟨⟨by decide +kernel, by decide +kernel⟩, List.mem_of_getElem? (i := 836) (by decide +kernel), List.mem_of_getElem? (i := 1455) (by decide +kernel), List.mem_of_getElem? (i := 1456) (by decide +kernel)⟩
theorem lw_p83 : lw_okq (⟨"BootsStoveModel", "leatherSteams", "(II)I"⟩, 82) := ⟨⟨by decide +kernel, by decide +kernel⟩, List.mem_of_getElem? (i := 836) (by decide +kernel), List.mem_of_getElem? (i := 1459) (by decide +kernel), List.mem_of_getElem? (i := 1460) (by decide +kernel)⟩
theorem lw_p84 : lw_okq (⟨"BootsStoveModel", "pairSteams", "(II)I"⟩, 82) := ⟨⟨by decide +kernel, by decide +kernel⟩, List.mem_of_getElem? (i := 836) (by decide +kernel), List.mem_of_getElem? (i := 1463) (by decide +kernel), List.mem_of_getElem? (i := 1464) (by decide +kernel)⟩
theorem lw_p85 : lw_okq (⟨"BootsStoveModel", "tellsAct", "(II)I"⟩, 82) := ⟨⟨by decide +kernel, by decide +kernel⟩, List.mem_of_getElem? (i := 836) (by decide +kernel), List.mem_of_getElem? (i := 1467) (by decide +kernel), List.mem_of_getElem? (i := 1468) (by decide +kernel)⟩
theorem lw_p86 : lw_okq (⟨"BootsStoveModel", "pairTells", "(II)I"⟩, 82) := ⟨⟨by decide +kernel, by decide +kernel⟩, List.mem_of_getElem? (i := 836) (by decide +kernel), List.mem_of_getElem? (i := 1471) (by decide +kernel), List.mem_of_getElem? (i := 1472) (by decide +kernel)⟩
theorem lw_p87 : lw_okq (⟨"BootsStoveModel", "narrow", "(IJ)J"⟩, 82) := ⟨⟨by decide +kernel, by decide +kernel⟩, List.mem_of_getElem? (i := 836) (by decide +kernel), List.mem_of_getElem? (i := 1495) (by decide +kernel), List.mem_of_getElem? (i := 1496) (by decide +kernel)⟩
def lw_privs_6 : List (MethodName × Nat) := [(⟨"BootsStoveModel", "body", "(I)V"⟩, 82), (⟨"BootsStoveModel", "pairDrips", "(II)I"⟩, 82), (⟨"BootsStoveModel", "steamsAct", "(II)I"⟩, 82), (⟨"BootsStoveModel", "leatherSteams", "(II)I"⟩, 82), (⟨"BootsStoveModel", "pairSteams", "(II)I"⟩, 82), (⟨"BootsStoveModel", "tellsAct", "(II)I"⟩, 82), (⟨"BootsStoveModel", "pairTells", "(II)I"⟩, 82), (⟨"BootsStoveModel", "narrow", "(IJ)J"⟩, 82)]
theorem lw_r6 : ∀ q ∈ lw_privs_6, lw_okq q := List.forall_mem_cons.mpr ⟨lw_p80, List.forall_mem_cons.mpr ⟨lw_p81, List.forall_mem_cons.mpr ⟨lw_p82, List.forall_mem_cons.mpr ⟨lw_p83, List.forall_mem_cons.mpr ⟨lw_p84, List.forall_mem_cons.mpr ⟨lw_p85, List.forall_mem_cons.mpr ⟨lw_p86, List.forall_mem_cons.mpr ⟨lw_p87, fun _ h => absurd h List.not_mem_nil⟩⟩⟩⟩⟩⟩⟩⟩
def lw_privs : List (MethodName × Nat) := lw_privs_1 ++ (lw_privs_2 ++ (lw_privs_3 ++ (lw_privs_4 ++ (lw_privs_5 ++ (lw_privs_6)))))
def lw_tbl : List Cond := k2_sels lw_privs ++ tables_1
theorem lw_privs_ok : ∀ q ∈ lw_privs, lw_okq q := by
  show ∀ q ∈ lw_privs_1 ++ (lw_privs_2 ++ (lw_privs_3 ++ (lw_privs_4 ++ (lw_privs_5 ++ (lw_privs_6))))), lw_okq q
  exact List.forall_mem_append.mpr ⟨lw_r1, List.forall_mem_append.mpr ⟨lw_r2, List.forall_mem_append.mpr ⟨lw_r3, List.forall_mem_append.mpr ⟨lw_r4, List.forall_mem_append.mpr ⟨lw_r5, lw_r6⟩⟩⟩⟩⟩

def RX0 : String := "BootsStove$Acts"
def TX0 : u_T := fun k => match k with
  | 0 => ("BootsStove$Acts", "bodies", "[I", true)
  | 1 => ("BootsStove$Acts", "ran", "I", false)
  | _ => ("BootsStove$Acts", "actor", "LBootsStove$Boots;", false)
def tyX0 : Nat → FieldType := fun k => match k with
  | 0 => .array .int
  | 1 => .int
  | _ => .object "BootsStove$Boots"
abbrev wsX00 : List Cond := u_ws RX0 TX0 3
theorem nmX0 : ∀ a, a < 3 → ∀ b, b < 3 → a ≠ b → (TX0 a).2.1 ≠ (TX0 b).2.1 := by decide +kernel
theorem tyX0_ok : ∀ k, k < 3 → parseFieldDescriptor (TX0 k).2.2.1 = some (tyX0 k) := by decide +kernel
abbrev cX0_init : ByteArray := prog_2_method_1_code
def yX0_init : MethodName := ⟨RX0, "<init>", "()V"⟩
abbrev cX0_forget : ByteArray := prog_2_method_2_code
def yX0_forget : MethodName := ⟨RX0, "forget", "()V"⟩
abbrev cX0_kept : ByteArray := prog_2_method_3_code
def yX0_kept : MethodName := ⟨RX0, "kept", "()I"⟩
abbrev cX0_run : ByteArray := prog_2_method_4_code
def yX0_run : MethodName := ⟨RX0, "run", "(LBootsStove$Boots;II)I"⟩
abbrev cX0_note : ByteArray := prog_2_method_5_code
def yX0_note : MethodName := ⟨RX0, "note", "(I)V"⟩
abbrev cX0_drips : ByteArray := prog_2_method_6_code
def yX0_drips : MethodName := ⟨RX0, "drips", "(II)I"⟩
abbrev cX0_steams : ByteArray := prog_2_method_7_code
def yX0_steams : MethodName := ⟨RX0, "steams", "(II)I"⟩
abbrev cX0_tells : ByteArray := prog_2_method_8_code
def yX0_tells : MethodName := ⟨RX0, "tells", "(II)I"⟩
def RX1 : String := "BootsStove$Boots"
def TX1 : u_T := fun k => match k with
  | 0 => ("BootsStove$Boots", "number", "I", false)
  | 1 => ("BootsStove$Boots", "kind", "I", false)
  | 2 => ("BootsStove$Boots", "v", "I", false)
  | 3 => ("BootsStove$Boots", "wet", "I", false)
  | 4 => ("BootsStove$Boots", "place", "I", false)
  | 5 => ("BootsStove$Boots", "isTaken", "Z", false)
  | 6 => ("BootsStove$Boots", "cracks", "I", false)
  | _ => ("BootsStove$Boots", "toldRow", "[I", true)
def tyX1 : Nat → FieldType := fun k => match k with
  | 0 => .int
  | 1 => .int
  | 2 => .int
  | 3 => .int
  | 4 => .int
  | 5 => .boolean
  | 6 => .int
  | _ => .array .int
abbrev wsX10 : List Cond := u_ws RX1 TX1 8
theorem nmX1 : ∀ a, a < 8 → ∀ b, b < 8 → a ≠ b → (TX1 a).2.1 ≠ (TX1 b).2.1 := by decide +kernel
theorem tyX1_ok : ∀ k, k < 8 → parseFieldDescriptor (TX1 k).2.2.1 = some (tyX1 k) := by decide +kernel
abbrev cX1_init : ByteArray := prog_3_method_1_code
def yX1_init : MethodName := ⟨RX1, "<init>", "(I)V"⟩
abbrev cX1_become : ByteArray := prog_3_method_2_code
def yX1_become : MethodName := ⟨RX1, "become", "(IIII)V"⟩
abbrev cX1_copyFrom : ByteArray := prog_3_method_3_code
def yX1_copyFrom : MethodName := ⟨RX1, "copyFrom", "(LBootsStove$Boots;)V"⟩
abbrev cX1_driesAt : ByteArray := prog_3_method_4_code
def yX1_driesAt : MethodName := ⟨RX1, "driesAt", "(ILBootsStove$Stove;)I"⟩
abbrev cX1_asLeather : ByteArray := prog_3_method_5_code
def yX1_asLeather : MethodName := ⟨RX1, "asLeather", "(IILBootsStove$Stove;)I"⟩
abbrev cX1_asStuffed : ByteArray := prog_3_method_6_code
def yX1_asStuffed : MethodName := ⟨RX1, "asStuffed", "(I)I"⟩
abbrev cX1_spoils : ByteArray := prog_3_method_7_code
def yX1_spoils : MethodName := ⟨RX1, "spoils", "(LBootsStove$Stove;)Z"⟩
abbrev cX1_letHourGo : ByteArray := prog_3_method_8_code
def yX1_letHourGo : MethodName := ⟨RX1, "letHourGo", "(LBootsStove$Stove;)V"⟩
def RX2 : String := "BootsStove$Course"
def TX2 : u_T := fun k => match k with
  | 0 => ("BootsStove$Course", "boots", "LBootsStove$Boots;", true)
  | _ => ("BootsStove$Course", "stove", "LBootsStove$Stove;", true)
def tyX2 : Nat → FieldType := fun k => match k with
  | 0 => .object "BootsStove$Boots"
  | _ => .object "BootsStove$Stove"
abbrev wsX20 : List Cond := u_ws RX2 TX2 2
theorem nmX2 : ∀ a, a < 2 → ∀ b, b < 2 → a ≠ b → (TX2 a).2.1 ≠ (TX2 b).2.1 := by decide +kernel
theorem tyX2_ok : ∀ k, k < 2 → parseFieldDescriptor (TX2 k).2.2.1 = some (tyX2 k) := by decide +kernel
abbrev cX2_init : ByteArray := prog_4_method_1_code
def yX2_init : MethodName := ⟨RX2, "<init>", "(LBootsStove$Hut;)V"⟩
abbrev cX2_begin : ByteArray := prog_4_method_2_code
def yX2_begin : MethodName := ⟨RX2, "begin", "(LBootsStove$Boots;LBootsStove$Stove;)V"⟩
abbrev cX2_letHourGo : ByteArray := prog_4_method_3_code
def yX2_letHourGo : MethodName := ⟨RX2, "letHourGo", "()V"⟩
abbrev cX2_wetBehind : ByteArray := prog_4_method_4_code
def yX2_wetBehind : MethodName := ⟨RX2, "wetBehind", "(ILBootsStove$Boots;ILBootsStove$Stove;)I"⟩
def RX3 : String := "BootsStove$Hut"
def TX3 : u_T := fun k => match k with
  | 0 => ("BootsStove$Hut", "cool", "I", false)
  | 1 => ("BootsStove$Hut", "log", "I", false)
  | 2 => ("BootsStove$Hut", "length", "I", false)
  | 3 => ("BootsStove$Hut", "program", "[I", true)
  | 4 => ("BootsStove$Hut", "clauses", "I", false)
  | 5 => ("BootsStove$Hut", "amounts", "[I", true)
  | _ => ("BootsStove$Hut", "letters", "[I", true)
def tyX3 : Nat → FieldType := fun k => match k with
  | 0 => .int
  | 1 => .int
  | 2 => .int
  | 3 => .array .int
  | 4 => .int
  | 5 => .array .int
  | _ => .array .int
abbrev wsX30 : List Cond := u_ws RX3 TX3 7
theorem nmX3 : ∀ a, a < 7 → ∀ b, b < 7 → a ≠ b → (TX3 a).2.1 ≠ (TX3 b).2.1 := by decide +kernel
theorem tyX3_ok : ∀ k, k < 7 → parseFieldDescriptor (TX3 k).2.2.1 = some (tyX3 k) := by decide +kernel
abbrev cX3_init : ByteArray := prog_5_method_1_code
def yX3_init : MethodName := ⟨RX3, "<init>", "()V"⟩
abbrev cX3_clear : ByteArray := prog_5_method_2_code
def yX3_clear : MethodName := ⟨RX3, "clear", "()V"⟩
abbrev cX3_append : ByteArray := prog_5_method_3_code
def yX3_append : MethodName := ⟨RX3, "append", "(I)V"⟩
abbrev cX3_appendTest : ByteArray := prog_5_method_4_code
def yX3_appendTest : MethodName := ⟨RX3, "appendTest", "(III)V"⟩
abbrev cX3_appendEnd : ByteArray := prog_5_method_5_code
def yX3_appendEnd : MethodName := ⟨RX3, "appendEnd", "(I)V"⟩
abbrev cX3_extraFor : ByteArray := prog_5_method_6_code
def yX3_extraFor : MethodName := ⟨RX3, "extraFor", "(LBootsStove$Boots;II)I"⟩
abbrev cX3_isTrue : ByteArray := prog_5_method_7_code
def yX3_isTrue : MethodName := ⟨RX3, "isTrue", "(I)Z"⟩
def RX4 : String := "BootsStove$HutReader"
def TX4 : u_T := fun k => match k with
  | 0 => ("BootsStove$HutReader", "text", "[B", true)
  | 1 => ("BootsStove$HutReader", "length", "I", false)
  | 2 => ("BootsStove$HutReader", "at", "I", false)
  | _ => ("BootsStove$HutReader", "hut", "LBootsStove$Hut;", false)
def tyX4 : Nat → FieldType := fun k => match k with
  | 0 => .array .byte
  | 1 => .int
  | 2 => .int
  | _ => .object "BootsStove$Hut"
abbrev wsX40 : List Cond := u_ws RX4 TX4 4
theorem nmX4 : ∀ a, a < 4 → ∀ b, b < 4 → a ≠ b → (TX4 a).2.1 ≠ (TX4 b).2.1 := by decide +kernel
theorem tyX4_ok : ∀ k, k < 4 → parseFieldDescriptor (TX4 k).2.2.1 = some (tyX4 k) := by decide +kernel
abbrev cX4_init : ByteArray := prog_6_method_1_code
def yX4_init : MethodName := ⟨RX4, "<init>", "(LBootsStove$Hut;)V"⟩
abbrev cX4_append : ByteArray := prog_6_method_2_code
def yX4_append : MethodName := ⟨RX4, "append", "(I)I"⟩
abbrev cX4_faultReadingInto : ByteArray := prog_6_method_3_code
def yX4_faultReadingInto : MethodName := ⟨RX4, "faultReadingInto", "(LBootsStove$Hut;)I"⟩
abbrev cX4_readClause : ByteArray := prog_6_method_4_code
def yX4_readClause : MethodName := ⟨RX4, "readClause", "()Z"⟩
abbrev cX4_readWord : ByteArray := prog_6_method_5_code
def yX4_readWord : MethodName := ⟨RX4, "readWord", "()I"⟩
abbrev cX4_readNumber : ByteArray := prog_6_method_6_code
def yX4_readNumber : MethodName := ⟨RX4, "readNumber", "()I"⟩
abbrev cX4_readAny : ByteArray := prog_6_method_7_code
def yX4_readAny : MethodName := ⟨RX4, "readAny", "(I)Z"⟩
abbrev cX4_readAll : ByteArray := prog_6_method_8_code
def yX4_readAll : MethodName := ⟨RX4, "readAll", "(I)Z"⟩
abbrev cX4_readPart : ByteArray := prog_6_method_9_code
def yX4_readPart : MethodName := ⟨RX4, "readPart", "(I)Z"⟩
abbrev cX4_readTest : ByteArray := prog_6_method_10_code
def yX4_readTest : MethodName := ⟨RX4, "readTest", "()Z"⟩
abbrev cX4_letterOf : ByteArray := prog_6_method_11_code
def yX4_letterOf : MethodName := ⟨RX4, "letterOf", "(I)I"⟩
abbrev cX4_comparisonOf : ByteArray := prog_6_method_12_code
def yX4_comparisonOf : MethodName := ⟨RX4, "comparisonOf", "(I)I"⟩
abbrev cX4_sign : ByteArray := prog_6_method_13_code
def yX4_sign : MethodName := ⟨RX4, "sign", "()I"⟩
abbrev cX4_skip : ByteArray := prog_6_method_14_code
def yX4_skip : MethodName := ⟨RX4, "skip", "(I)Z"⟩
def RX5 : String := "BootsStove$Kinds"
def TX5 : u_T := fun k => match k with
  | _ => ("", "", "", false)
def tyX5 : Nat → FieldType := fun k => match k with
  | _ => .int
abbrev wsX50 : List Cond := u_ws RX5 TX5 0
theorem nmX5 : ∀ a, a < 0 → ∀ b, b < 0 → a ≠ b → (TX5 a).2.1 ≠ (TX5 b).2.1 := by decide +kernel
theorem tyX5_ok : ∀ k, k < 0 → parseFieldDescriptor (TX5 k).2.2.1 = some (tyX5 k) := by decide +kernel
abbrev cX5_above : ByteArray := prog_7_method_2_code
def yX5_above : MethodName := ⟨RX5, "above", "(I)I"⟩
abbrev cX5_isOrIsUnder : ByteArray := prog_7_method_3_code
def yX5_isOrIsUnder : MethodName := ⟨RX5, "isOrIsUnder", "(II)Z"⟩
def RX6 : String := "BootsStove$Placing"
def TX6 : u_T := fun k => match k with
  | 0 => ("BootsStove$Placing", "wetByPlace", "[I", true)
  | 1 => ("BootsStove$Placing", "isHere", "[Z", true)
  | 2 => ("BootsStove$Placing", "way", "[I", true)
  | 3 => ("BootsStove$Placing", "count", "I", false)
  | 4 => ("BootsStove$Placing", "best", "[I", true)
  | 5 => ("BootsStove$Placing", "bestDry", "I", false)
  | _ => ("BootsStove$Placing", "bestWet", "I", false)
def tyX6 : Nat → FieldType := fun k => match k with
  | 0 => .array .int
  | 1 => .array .boolean
  | 2 => .array .int
  | 3 => .int
  | 4 => .array .int
  | 5 => .int
  | _ => .int
abbrev wsX60 : List Cond := u_ws RX6 TX6 7
theorem nmX6 : ∀ a, a < 7 → ∀ b, b < 7 → a ≠ b → (TX6 a).2.1 ≠ (TX6 b).2.1 := by decide +kernel
theorem tyX6_ok : ∀ k, k < 7 → parseFieldDescriptor (TX6 k).2.2.1 = some (tyX6 k) := by decide +kernel
abbrev cX6_init : ByteArray := prog_8_method_1_code
def yX6_init : MethodName := ⟨RX6, "<init>", "()V"⟩
abbrev cX6_foresee : ByteArray := prog_8_method_2_code
def yX6_foresee : MethodName := ⟨RX6, "foresee", "(LBootsStove$Room;LBootsStove$Course;I)V"⟩
abbrev cX6_moreByChange : ByteArray := prog_8_method_3_code
def yX6_moreByChange : MethodName := ⟨RX6, "moreByChange", "(LBootsStove$Boots;LBootsStove$Boots;)I"⟩
abbrev cX6_moreByMove : ByteArray := prog_8_method_4_code
def yX6_moreByMove : MethodName := ⟨RX6, "moreByMove", "(LBootsStove$Boots;I)I"⟩
abbrev cX6_findBest : ByteArray := prog_8_method_5_code
def yX6_findBest : MethodName := ⟨RX6, "findBest", "()V"⟩
abbrev cX6_tryFrom : ByteArray := prog_8_method_6_code
def yX6_tryFrom : MethodName := ⟨RX6, "tryFrom", "(IIII)V"⟩
abbrev cX6_keepIfBetter : ByteArray := prog_8_method_7_code
def yX6_keepIfBetter : MethodName := ⟨RX6, "keepIfBetter", "(II)V"⟩
def RX7 : String := "BootsStove$Room"
def TX7 : u_T := fun k => match k with
  | 0 => ("BootsStove$Room", "boots", "[LBootsStove$Boots;", true)
  | 1 => ("BootsStove$Room", "count", "I", false)
  | _ => ("BootsStove$Room", "stove", "LBootsStove$Stove;", true)
def tyX7 : Nat → FieldType := fun k => match k with
  | 0 => .array (.object "BootsStove$Boots")
  | 1 => .int
  | _ => .object "BootsStove$Stove"
abbrev wsX70 : List Cond := u_ws RX7 TX7 3
theorem nmX7 : ∀ a, a < 3 → ∀ b, b < 3 → a ≠ b → (TX7 a).2.1 ≠ (TX7 b).2.1 := by decide +kernel
theorem tyX7_ok : ∀ k, k < 3 → parseFieldDescriptor (TX7 k).2.2.1 = some (tyX7 k) := by decide +kernel
abbrev cX7_init : ByteArray := prog_9_method_1_code
def yX7_init : MethodName := ⟨RX7, "<init>", "(LBootsStove$Hut;)V"⟩
abbrev cX7_copyFrom : ByteArray := prog_9_method_2_code
def yX7_copyFrom : MethodName := ⟨RX7, "copyFrom", "(LBootsStove$Room;)V"⟩
abbrev cX7_whoIsAt : ByteArray := prog_9_method_3_code
def yX7_whoIsAt : MethodName := ⟨RX7, "whoIsAt", "(I)I"⟩
abbrev cX7_freePlace : ByteArray := prog_9_method_4_code
def yX7_freePlace : MethodName := ⟨RX7, "freePlace", "()I"⟩
abbrev cX7_letHourGo : ByteArray := prog_9_method_5_code
def yX7_letHourGo : MethodName := ⟨RX7, "letHourGo", "()V"⟩
abbrev cX7_letHoursGo : ByteArray := prog_9_method_6_code
def yX7_letHoursGo : MethodName := ⟨RX7, "letHoursGo", "(I)V"⟩
abbrev cX7_follow : ByteArray := prog_9_method_7_code
def yX7_follow : MethodName := ⟨RX7, "follow", "(II)V"⟩
abbrev cX7_wetOfThoseHere : ByteArray := prog_9_method_8_code
def yX7_wetOfThoseHere : MethodName := ⟨RX7, "wetOfThoseHere", "()I"⟩
abbrev cX7_cracksOfAll : ByteArray := prog_9_method_9_code
def yX7_cracksOfAll : MethodName := ⟨RX7, "cracksOfAll", "()I"⟩
abbrev cX7_dryOfThoseHere : ByteArray := prog_9_method_10_code
def yX7_dryOfThoseHere : MethodName := ⟨RX7, "dryOfThoseHere", "()I"⟩
abbrev cX7_dryBits : ByteArray := prog_9_method_11_code
def yX7_dryBits : MethodName := ⟨RX7, "dryBits", "()I"⟩
def RX8 : String := "BootsStove$Rows"
def TX8 : u_T := fun k => match k with
  | 0 => ("BootsStove$Rows", "first", "[I", true)
  | 1 => ("BootsStove$Rows", "second", "[I", true)
  | 2 => ("BootsStove$Rows", "third", "[I", true)
  | _ => ("BootsStove$Rows", "count", "I", false)
def tyX8 : Nat → FieldType := fun k => match k with
  | 0 => .array .int
  | 1 => .array .int
  | 2 => .array .int
  | _ => .int
abbrev wsX80 : List Cond := u_ws RX8 TX8 4
theorem nmX8 : ∀ a, a < 4 → ∀ b, b < 4 → a ≠ b → (TX8 a).2.1 ≠ (TX8 b).2.1 := by decide +kernel
theorem tyX8_ok : ∀ k, k < 4 → parseFieldDescriptor (TX8 k).2.2.1 = some (tyX8 k) := by decide +kernel
abbrev cX8_init : ByteArray := prog_10_method_1_code
def yX8_init : MethodName := ⟨RX8, "<init>", "(I)V"⟩
abbrev cX8_isFull : ByteArray := prog_10_method_2_code
def yX8_isFull : MethodName := ⟨RX8, "isFull", "()Z"⟩
abbrev cX8_append : ByteArray := prog_10_method_3_code
def yX8_append : MethodName := ⟨RX8, "append", "(III)I"⟩
abbrev cX8_copyFrom : ByteArray := prog_10_method_4_code
def yX8_copyFrom : MethodName := ⟨RX8, "copyFrom", "(LBootsStove$Rows;)V"⟩
abbrev cX8_mostThirdOf : ByteArray := prog_10_method_5_code
def yX8_mostThirdOf : MethodName := ⟨RX8, "mostThirdOf", "(I)I"⟩
def RX9 : String := "BootsStove$Stove"
def TX9 : u_T := fun k => match k with
  | 0 => ("BootsStove$Stove", "heat", "I", false)
  | 1 => ("BootsStove$Stove", "wood", "I", false)
  | 2 => ("BootsStove$Stove", "hour", "I", false)
  | _ => ("BootsStove$Stove", "hut", "LBootsStove$Hut;", false)
def tyX9 : Nat → FieldType := fun k => match k with
  | 0 => .int
  | 1 => .int
  | 2 => .int
  | _ => .object "BootsStove$Hut"
abbrev wsX90 : List Cond := u_ws RX9 TX9 4
theorem nmX9 : ∀ a, a < 4 → ∀ b, b < 4 → a ≠ b → (TX9 a).2.1 ≠ (TX9 b).2.1 := by decide +kernel
theorem tyX9_ok : ∀ k, k < 4 → parseFieldDescriptor (TX9 k).2.2.1 = some (tyX9 k) := by decide +kernel
abbrev cX9_init : ByteArray := prog_11_method_1_code
def yX9_init : MethodName := ⟨RX9, "<init>", "(LBootsStove$Hut;)V"⟩
abbrev cX9_copyFrom : ByteArray := prog_11_method_2_code
def yX9_copyFrom : MethodName := ⟨RX9, "copyFrom", "(LBootsStove$Stove;)V"⟩
abbrev cX9_warmAt : ByteArray := prog_11_method_3_code
def yX9_warmAt : MethodName := ⟨RX9, "warmAt", "(I)I"⟩
abbrev cX9_burnLog : ByteArray := prog_11_method_4_code
def yX9_burnLog : MethodName := ⟨RX9, "burnLog", "()V"⟩
abbrev cX9_letHourGo : ByteArray := prog_11_method_5_code
def yX9_letHourGo : MethodName := ⟨RX9, "letHourGo", "()V"⟩
def RX10 : String := "BootsStove$Tape"
def TX10 : u_T := fun k => match k with
  | 0 => ("BootsStove$Tape", "sort", "I", false)
  | 1 => ("BootsStove$Tape", "length", "I", false)
  | _ => ("BootsStove$Tape", "items", "[J", true)
def tyX10 : Nat → FieldType := fun k => match k with
  | 0 => .int
  | 1 => .int
  | _ => .array .long
abbrev wsX100 : List Cond := u_ws RX10 TX10 3
theorem nmX10 : ∀ a, a < 3 → ∀ b, b < 3 → a ≠ b → (TX10 a).2.1 ≠ (TX10 b).2.1 := by decide +kernel
theorem tyX10_ok : ∀ k, k < 3 → parseFieldDescriptor (TX10 k).2.2.1 = some (tyX10 k) := by decide +kernel
abbrev cX10_init : ByteArray := prog_12_method_1_code
def yX10_init : MethodName := ⟨RX10, "<init>", "()V"⟩
abbrev cX10_become : ByteArray := prog_12_method_2_code
def yX10_become : MethodName := ⟨RX10, "become", "(II)V"⟩
abbrev cX10_holds : ByteArray := prog_12_method_3_code
def yX10_holds : MethodName := ⟨RX10, "holds", "(II)Z"⟩
abbrev cX10_narrowed : ByteArray := prog_12_method_4_code
def yX10_narrowed : MethodName := ⟨RX10, "narrowed", "(J)J"⟩
def RX11 : String := "BootsStove"
def TX11 : u_T := fun k => match k with
  | 0 => ("BootsStove", "room", "LBootsStove$Room;", true)
  | 1 => ("BootsStove", "seen", "LBootsStove$Rows;", true)
  | 2 => ("BootsStove", "rota", "LBootsStove$Rows;", true)
  | 3 => ("BootsStove", "book", "LBootsStove$Rows;", true)
  | 4 => ("BootsStove", "imageIsTaken", "Z", false)
  | 5 => ("BootsStove", "keptRoom", "LBootsStove$Room;", true)
  | 6 => ("BootsStove", "keptSeen", "LBootsStove$Rows;", true)
  | 7 => ("BootsStove", "keptRota", "LBootsStove$Rows;", true)
  | 8 => ("BootsStove", "keptBook", "LBootsStove$Rows;", true)
  | 9 => ("BootsStove", "text", "LBootsStove$HutReader;", true)
  | 10 => ("BootsStove", "huts", "[LBootsStove$Hut;", true)
  | 11 => ("BootsStove", "hutCount", "I", false)
  | 12 => ("BootsStove", "tapes", "[LBootsStove$Tape;", true)
  | 13 => ("BootsStove", "acts", "LBootsStove$Acts;", true)
  | 14 => ("BootsStove", "trial", "LBootsStove$Room;", true)
  | 15 => ("BootsStove", "course", "LBootsStove$Course;", true)
  | _ => ("BootsStove", "placing", "LBootsStove$Placing;", true)
def tyX11 : Nat → FieldType := fun k => match k with
  | 0 => .object "BootsStove$Room"
  | 1 => .object "BootsStove$Rows"
  | 2 => .object "BootsStove$Rows"
  | 3 => .object "BootsStove$Rows"
  | 4 => .boolean
  | 5 => .object "BootsStove$Room"
  | 6 => .object "BootsStove$Rows"
  | 7 => .object "BootsStove$Rows"
  | 8 => .object "BootsStove$Rows"
  | 9 => .object "BootsStove$HutReader"
  | 10 => .array (.object "BootsStove$Hut")
  | 11 => .int
  | 12 => .array (.object "BootsStove$Tape")
  | 13 => .object "BootsStove$Acts"
  | 14 => .object "BootsStove$Room"
  | 15 => .object "BootsStove$Course"
  | _ => .object "BootsStove$Placing"
abbrev wsX110 : List Cond := u_ws RX11 TX11 17
theorem nmX11 : ∀ a, a < 17 → ∀ b, b < 17 → a ≠ b → (TX11 a).2.1 ≠ (TX11 b).2.1 := by decide +kernel
theorem tyX11_ok : ∀ k, k < 17 → parseFieldDescriptor (TX11 k).2.2.1 = some (tyX11 k) := by decide +kernel
abbrev cX11_init : ByteArray := prog_1_method_1_code
def yX11_init : MethodName := ⟨RX11, "<init>", "()V"⟩
abbrev cX11_pair : ByteArray := prog_1_method_2_code
def yX11_pair : MethodName := ⟨RX11, "pair", "(III)I"⟩
abbrev cX11_of : ByteArray := prog_1_method_3_code
def yX11_of : MethodName := ⟨RX11, "of", "(II)I"⟩
abbrev cX11_wet : ByteArray := prog_1_method_4_code
def yX11_wet : MethodName := ⟨RX11, "wet", "(II)I"⟩
abbrev cX11_put : ByteArray := prog_1_method_5_code
def yX11_put : MethodName := ⟨RX11, "put", "(II)I"⟩
abbrev cX11_take : ByteArray := prog_1_method_6_code
def yX11_take : MethodName := ⟨RX11, "take", "(IZ)I"⟩
abbrev cX11_stoke : ByteArray := prog_1_method_7_code
def yX11_stoke : MethodName := ⟨RX11, "stoke", "()I"⟩
abbrev cX11_set : ByteArray := prog_1_method_8_code
def yX11_set : MethodName := ⟨RX11, "set", "(II)I"⟩
abbrev cX11_row : ByteArray := prog_1_method_9_code
def yX11_row : MethodName := ⟨RX11, "row", "(III)I"⟩
abbrev cX11_feed : ByteArray := prog_1_method_10_code
def yX11_feed : MethodName := ⟨RX11, "feed", "(I)I"⟩
abbrev cX11_hut : ByteArray := prog_1_method_11_code
def yX11_hut : MethodName := ⟨RX11, "hut", "()I"⟩
abbrev cX11_told : ByteArray := prog_1_method_12_code
def yX11_told : MethodName := ⟨RX11, "told", "(I)I"⟩
abbrev cX11_pass : ByteArray := prog_1_method_13_code
def yX11_pass : MethodName := ⟨RX11, "pass", "(I)I"⟩
abbrev cX11_on : ByteArray := prog_1_method_14_code
def yX11_on : MethodName := ⟨RX11, "on", "(II)I"⟩
abbrev cX11_done : ByteArray := prog_1_method_15_code
def yX11_done : MethodName := ⟨RX11, "done", "(I)I"⟩
abbrev cX11_night : ByteArray := prog_1_method_16_code
def yX11_night : MethodName := ⟨RX11, "night", "(I)I"⟩
abbrev cX11_placed : ByteArray := prog_1_method_17_code
def yX11_placed : MethodName := ⟨RX11, "placed", "(II)I"⟩
abbrev cX11_change : ByteArray := prog_1_method_18_code
def yX11_change : MethodName := ⟨RX11, "change", "()I"⟩
abbrev cX11_logs : ByteArray := prog_1_method_19_code
def yX11_logs : MethodName := ⟨RX11, "logs", "(II)I"⟩
abbrev cX11_see : ByteArray := prog_1_method_20_code
def yX11_see : MethodName := ⟨RX11, "see", "(III)I"⟩
abbrev cX11_wets : ByteArray := prog_1_method_21_code
def yX11_wets : MethodName := ⟨RX11, "wets", "(II)I"⟩
abbrev cX11_can : ByteArray := prog_1_method_22_code
def yX11_can : MethodName := ⟨RX11, "can", "(II)I"⟩
abbrev cX11_where : ByteArray := prog_1_method_23_code
def yX11_where : MethodName := ⟨RX11, "where", "(I)I"⟩
abbrev cX11_odds : ByteArray := prog_1_method_24_code
def yX11_odds : MethodName := ⟨RX11, "odds", "(III)J"⟩
abbrev cX11_mean : ByteArray := prog_1_method_25_code
def yX11_mean : MethodName := ⟨RX11, "mean", "(II)J"⟩
abbrev cX11_rota : ByteArray := prog_1_method_26_code
def yX11_rota : MethodName := ⟨RX11, "rota", "(II)I"⟩
abbrev cX11_ends : ByteArray := prog_1_method_27_code
def yX11_ends : MethodName := ⟨RX11, "ends", "(I)I"⟩
abbrev cX11_book : ByteArray := prog_1_method_28_code
def yX11_book : MethodName := ⟨RX11, "book", "(II)I"⟩
abbrev cX11_looked : ByteArray := prog_1_method_29_code
def yX11_looked : MethodName := ⟨RX11, "looked", "()I"⟩
abbrev cX11_judge : ByteArray := prog_1_method_30_code
def yX11_judge : MethodName := ⟨RX11, "judge", "(II)I"⟩
abbrev cX11_image : ByteArray := prog_1_method_31_code
def yX11_image : MethodName := ⟨RX11, "image", "()I"⟩
abbrev cX11_undo : ByteArray := prog_1_method_32_code
def yX11_undo : MethodName := ⟨RX11, "undo", "()I"⟩
abbrev cX11_act : ByteArray := prog_1_method_33_code
def yX11_act : MethodName := ⟨RX11, "act", "(III)I"⟩
abbrev cX11_trace : ByteArray := prog_1_method_34_code
def yX11_trace : MethodName := ⟨RX11, "trace", "(I)I"⟩
abbrev cX11_taken : ByteArray := prog_1_method_35_code
def yX11_taken : MethodName := ⟨RX11, "taken", "(II)I"⟩
abbrev cX11_count : ByteArray := prog_1_method_36_code
def yX11_count : MethodName := ⟨RX11, "count", "(I)I"⟩
abbrev cX11_tape : ByteArray := prog_1_method_37_code
def yX11_tape : MethodName := ⟨RX11, "tape", "(III)I"⟩
abbrev cX11_item : ByteArray := prog_1_method_38_code
def yX11_item : MethodName := ⟨RX11, "item", "(IIJ)I"⟩
abbrev cX11_read : ByteArray := prog_1_method_39_code
def yX11_read : MethodName := ⟨RX11, "read", "(II)J"⟩
abbrev cX11_shift : ByteArray := prog_1_method_40_code
def yX11_shift : MethodName := ⟨RX11, "shift", "(IIIII)I"⟩
abbrev cX11_outside : ByteArray := prog_1_method_41_code
def yX11_outside : MethodName := ⟨RX11, "outside", "(II)Z"⟩
abbrev cX11_noPair : ByteArray := prog_1_method_42_code
def yX11_noPair : MethodName := ⟨RX11, "noPair", "(I)Z"⟩
abbrev cX11_tryHours : ByteArray := prog_1_method_43_code
def yX11_tryHours : MethodName := ⟨RX11, "tryHours", "(I)V"⟩
abbrev cX11_wetByLogs : ByteArray := prog_1_method_44_code
def yX11_wetByLogs : MethodName := ⟨RX11, "wetByLogs", "(II)I"⟩
abbrev cX11_courseIsAsSeen : ByteArray := prog_1_method_45_code
def yX11_courseIsAsSeen : MethodName := ⟨RX11, "courseIsAsSeen", "()Z"⟩
abbrev cX11_allIsAsSeenWith : ByteArray := prog_1_method_46_code
def yX11_allIsAsSeenWith : MethodName := ⟨RX11, "allIsAsSeenWith", "(II)Z"⟩
abbrev cX11_partOfFraction : ByteArray := prog_1_method_47_code
def yX11_partOfFraction : MethodName := ⟨RX11, "partOfFraction", "(III)J"⟩
abbrev cX11_commonDivisor : ByteArray := prog_1_method_48_code
def yX11_commonDivisor : MethodName := ⟨RX11, "commonDivisor", "(II)I"⟩
def RX12 : String := "BootsStoveModel"
def TX12 : u_T := fun k => match k with
  | 0 => ("BootsStoveModel", "pairs", "I", false)
  | 1 => ("BootsStoveModel", "gone", "I", false)
  | 2 => ("BootsStoveModel", "heat", "I", false)
  | 3 => ("BootsStoveModel", "wood", "I", false)
  | 4 => ("BootsStoveModel", "hours", "I", false)
  | 5 => ("BootsStoveModel", "kind", "[I", true)
  | 6 => ("BootsStoveModel", "v", "[I", true)
  | 7 => ("BootsStoveModel", "wets0", "[I", true)
  | 8 => ("BootsStoveModel", "spot", "[I", true)
  | 9 => ("BootsStoveModel", "cracks", "[I", true)
  | 10 => ("BootsStoveModel", "rows", "[I", true)
  | 11 => ("BootsStoveModel", "huts", "I", false)
  | 12 => ("BootsStoveModel", "the", "I", false)
  | 13 => ("BootsStoveModel", "fed", "I", false)
  | 14 => ("BootsStoveModel", "at", "I", false)
  | 15 => ("BootsStoveModel", "digits", "I", false)
  | 16 => ("BootsStoveModel", "text", "[I", true)
  | 17 => ("BootsStoveModel", "clauses", "[I", true)
  | 18 => ("BootsStoveModel", "word", "[I", true)
  | 19 => ("BootsStoveModel", "number", "[I", true)
  | 20 => ("BootsStoveModel", "from", "[I", true)
  | 21 => ("BootsStoveModel", "to", "[I", true)
  | 22 => ("BootsStoveModel", "sign", "[I", true)
  | 23 => ("BootsStoveModel", "waits", "[I", true)
  | 24 => ("BootsStoveModel", "signs", "I", false)
  | 25 => ("BootsStoveModel", "waiting", "I", false)
  | 26 => ("BootsStoveModel", "open", "I", false)
  | 27 => ("BootsStoveModel", "letters", "[I", true)
  | 28 => ("BootsStoveModel", "pile", "[Z", true)
  | 29 => ("BootsStoveModel", "mostCracks", "I", false)
  | 30 => ("BootsStoveModel", "keptGone", "I", false)
  | 31 => ("BootsStoveModel", "keptHeat", "I", false)
  | 32 => ("BootsStoveModel", "keptWood", "I", false)
  | 33 => ("BootsStoveModel", "keptHours", "I", false)
  | 34 => ("BootsStoveModel", "keptWets", "[I", true)
  | 35 => ("BootsStoveModel", "keptSpot", "[I", true)
  | 36 => ("BootsStoveModel", "keptCracks", "[I", true)
  | 37 => ("BootsStoveModel", "laid", "[I", true)
  | 38 => ("BootsStoveModel", "tried", "[I", true)
  | 39 => ("BootsStoveModel", "bestSpot", "[I", true)
  | 40 => ("BootsStoveModel", "bestMany", "I", false)
  | 41 => ("BootsStoveModel", "bestWet", "I", false)
  | 42 => ("BootsStoveModel", "seen", "I", false)
  | 43 => ("BootsStoveModel", "seenWho", "[I", true)
  | 44 => ("BootsStoveModel", "seenWet", "[I", true)
  | 45 => ("BootsStoveModel", "seenWhen", "[I", true)
  | 46 => ("BootsStoveModel", "triedSpot", "[I", true)
  | 47 => ("BootsStoveModel", "rotas", "I", false)
  | 48 => ("BootsStoveModel", "books", "I", false)
  | 49 => ("BootsStoveModel", "rotaWhat", "[I", true)
  | 50 => ("BootsStoveModel", "rotaNumber", "[I", true)
  | 51 => ("BootsStoveModel", "bookWho", "[I", true)
  | 52 => ("BootsStoveModel", "bookWet", "[I", true)
  | 53 => ("BootsStoveModel", "hasImage", "Z", false)
  | 54 => ("BootsStoveModel", "imageThe", "I", false)
  | 55 => ("BootsStoveModel", "imagePairs", "I", false)
  | 56 => ("BootsStoveModel", "imageGone", "I", false)
  | 57 => ("BootsStoveModel", "imageHeat", "I", false)
  | 58 => ("BootsStoveModel", "imageWood", "I", false)
  | 59 => ("BootsStoveModel", "imageHours", "I", false)
  | 60 => ("BootsStoveModel", "imageSeen", "I", false)
  | 61 => ("BootsStoveModel", "imageRotas", "I", false)
  | 62 => ("BootsStoveModel", "imageBooks", "I", false)
  | 63 => ("BootsStoveModel", "imageKind", "[I", true)
  | 64 => ("BootsStoveModel", "imageV", "[I", true)
  | 65 => ("BootsStoveModel", "imageWets", "[I", true)
  | 66 => ("BootsStoveModel", "imageSpot", "[I", true)
  | 67 => ("BootsStoveModel", "imageCracks", "[I", true)
  | 68 => ("BootsStoveModel", "imageRows", "[I", true)
  | 69 => ("BootsStoveModel", "imageWho", "[I", true)
  | 70 => ("BootsStoveModel", "imageWet", "[I", true)
  | 71 => ("BootsStoveModel", "imageWhen", "[I", true)
  | 72 => ("BootsStoveModel", "imageWhat", "[I", true)
  | 73 => ("BootsStoveModel", "imageNumber", "[I", true)
  | 74 => ("BootsStoveModel", "imageBookWho", "[I", true)
  | 75 => ("BootsStoveModel", "imageBookWet", "[I", true)
  | 76 => ("BootsStoveModel", "ran", "I", false)
  | 77 => ("BootsStoveModel", "bodies", "[I", true)
  | 78 => ("BootsStoveModel", "sort", "[I", true)
  | 79 => ("BootsStoveModel", "length", "[I", true)
  | 80 => ("BootsStoveModel", "item", "[J", true)
  | _ => ("BootsStoveModel", "aside", "[J", true)
def tyX12 : Nat → FieldType := fun k => match k with
  | 0 => .int
  | 1 => .int
  | 2 => .int
  | 3 => .int
  | 4 => .int
  | 5 => .array .int
  | 6 => .array .int
  | 7 => .array .int
  | 8 => .array .int
  | 9 => .array .int
  | 10 => .array .int
  | 11 => .int
  | 12 => .int
  | 13 => .int
  | 14 => .int
  | 15 => .int
  | 16 => .array .int
  | 17 => .array .int
  | 18 => .array .int
  | 19 => .array .int
  | 20 => .array .int
  | 21 => .array .int
  | 22 => .array .int
  | 23 => .array .int
  | 24 => .int
  | 25 => .int
  | 26 => .int
  | 27 => .array .int
  | 28 => .array .boolean
  | 29 => .int
  | 30 => .int
  | 31 => .int
  | 32 => .int
  | 33 => .int
  | 34 => .array .int
  | 35 => .array .int
  | 36 => .array .int
  | 37 => .array .int
  | 38 => .array .int
  | 39 => .array .int
  | 40 => .int
  | 41 => .int
  | 42 => .int
  | 43 => .array .int
  | 44 => .array .int
  | 45 => .array .int
  | 46 => .array .int
  | 47 => .int
  | 48 => .int
  | 49 => .array .int
  | 50 => .array .int
  | 51 => .array .int
  | 52 => .array .int
  | 53 => .boolean
  | 54 => .int
  | 55 => .int
  | 56 => .int
  | 57 => .int
  | 58 => .int
  | 59 => .int
  | 60 => .int
  | 61 => .int
  | 62 => .int
  | 63 => .array .int
  | 64 => .array .int
  | 65 => .array .int
  | 66 => .array .int
  | 67 => .array .int
  | 68 => .array .int
  | 69 => .array .int
  | 70 => .array .int
  | 71 => .array .int
  | 72 => .array .int
  | 73 => .array .int
  | 74 => .array .int
  | 75 => .array .int
  | 76 => .int
  | 77 => .array .int
  | 78 => .array .int
  | 79 => .array .int
  | 80 => .array .long
  | _ => .array .long
abbrev wsX120 : List Cond := u_ws RX12 TX12 82
theorem nmX12 : ∀ a, a < 82 → ∀ b, b < 82 → a ≠ b → (TX12 a).2.1 ≠ (TX12 b).2.1 := by decide +kernel
theorem tyX12_ok : ∀ k, k < 82 → parseFieldDescriptor (TX12 k).2.2.1 = some (tyX12 k) := by decide +kernel
abbrev cX12_init : ByteArray := prog_14_method_1_code
def yX12_init : MethodName := ⟨RX12, "<init>", "()V"⟩
abbrev cX12_in : ByteArray := prog_14_method_2_code
def yX12_in : MethodName := ⟨RX12, "in", "(III)Z"⟩
abbrev cX12_has : ByteArray := prog_14_method_3_code
def yX12_has : MethodName := ⟨RX12, "has", "(II)Z"⟩
abbrev cX12_least : ByteArray := prog_14_method_4_code
def yX12_least : MethodName := ⟨RX12, "least", "(II)I"⟩
abbrev cX12_atLeast0 : ByteArray := prog_14_method_5_code
def yX12_atLeast0 : MethodName := ⟨RX12, "atLeast0", "(I)I"⟩
abbrev cX12_bits : ByteArray := prog_14_method_6_code
def yX12_bits : MethodName := ⟨RX12, "bits", "(I)I"⟩
abbrev cX12_isPair : ByteArray := prog_14_method_7_code
def yX12_isPair : MethodName := ⟨RX12, "isPair", "(I)Z"⟩
abbrev cX12_isPlace : ByteArray := prog_14_method_8_code
def yX12_isPlace : MethodName := ⟨RX12, "isPlace", "(I)Z"⟩
abbrev cX12_isWet : ByteArray := prog_14_method_9_code
def yX12_isWet : MethodName := ⟨RX12, "isWet", "(I)Z"⟩
abbrev cX12_isHours : ByteArray := prog_14_method_10_code
def yX12_isHours : MethodName := ⟨RX12, "isHours", "(I)Z"⟩
abbrev cX12_whoIs : ByteArray := prog_14_method_11_code
def yX12_whoIs : MethodName := ⟨RX12, "whoIs", "(I)I"⟩
abbrev cX12_pair : ByteArray := prog_14_method_12_code
def yX12_pair : MethodName := ⟨RX12, "pair", "(III)I"⟩
abbrev cX12_wet : ByteArray := prog_14_method_13_code
def yX12_wet : MethodName := ⟨RX12, "wet", "(II)I"⟩
abbrev cX12_comesTo : ByteArray := prog_14_method_14_code
def yX12_comesTo : MethodName := ⟨RX12, "comesTo", "(II)V"⟩
abbrev cX12_put : ByteArray := prog_14_method_15_code
def yX12_put : MethodName := ⟨RX12, "put", "(II)I"⟩
abbrev cX12_goes : ByteArray := prog_14_method_16_code
def yX12_goes : MethodName := ⟨RX12, "goes", "(IZ)V"⟩
abbrev cX12_take : ByteArray := prog_14_method_17_code
def yX12_take : MethodName := ⟨RX12, "take", "(IZ)I"⟩
abbrev cX12_set : ByteArray := prog_14_method_18_code
def yX12_set : MethodName := ⟨RX12, "set", "(II)I"⟩
abbrev cX12_row : ByteArray := prog_14_method_19_code
def yX12_row : MethodName := ⟨RX12, "row", "(III)I"⟩
abbrev cX12_feed : ByteArray := prog_14_method_20_code
def yX12_feed : MethodName := ⟨RX12, "feed", "(I)I"⟩
abbrev cX12_next : ByteArray := prog_14_method_21_code
def yX12_next : MethodName := ⟨RX12, "next", "()I"⟩
abbrev cX12_second : ByteArray := prog_14_method_22_code
def yX12_second : MethodName := ⟨RX12, "second", "()I"⟩
abbrev cX12_takes : ByteArray := prog_14_method_23_code
def yX12_takes : MethodName := ⟨RX12, "takes", "(I)Z"⟩
abbrev cX12_takesWord : ByteArray := prog_14_method_24_code
def yX12_takesWord : MethodName := ⟨RX12, "takesWord", "(II)Z"⟩
abbrev cX12_isDigit : ByteArray := prog_14_method_25_code
def yX12_isDigit : MethodName := ⟨RX12, "isDigit", "()Z"⟩
abbrev cX12_takesNumber : ByteArray := prog_14_method_26_code
def yX12_takesNumber : MethodName := ⟨RX12, "takesNumber", "()Z"⟩
abbrev cX12_emits : ByteArray := prog_14_method_27_code
def yX12_emits : MethodName := ⟨RX12, "emits", "(I)V"⟩
abbrev cX12_whole : ByteArray := prog_14_method_28_code
def yX12_whole : MethodName := ⟨RX12, "whole", "()V"⟩
abbrev cX12_settle : ByteArray := prog_14_method_29_code
def yX12_settle : MethodName := ⟨RX12, "settle", "(I)V"⟩
abbrev cX12_place : ByteArray := prog_14_method_30_code
def yX12_place : MethodName := ⟨RX12, "place", "(I)I"⟩
abbrev cX12_takesTest : ByteArray := prog_14_method_31_code
def yX12_takesTest : MethodName := ⟨RX12, "takesTest", "()Z"⟩
abbrev cX12_takesE : ByteArray := prog_14_method_32_code
def yX12_takesE : MethodName := ⟨RX12, "takesE", "(I)Z"⟩
abbrev cX12_takesHead : ByteArray := prog_14_method_33_code
def yX12_takesHead : MethodName := ⟨RX12, "takesHead", "(I)Z"⟩
abbrev cX12_takesClause : ByteArray := prog_14_method_34_code
def yX12_takesClause : MethodName := ⟨RX12, "takesClause", "(I)Z"⟩
abbrev cX12_goesText : ByteArray := prog_14_method_35_code
def yX12_goesText : MethodName := ⟨RX12, "goesText", "(I)Z"⟩
abbrev cX12_hut : ByteArray := prog_14_method_36_code
def yX12_hut : MethodName := ⟨RX12, "hut", "()I"⟩
abbrev cX12_begin : ByteArray := prog_14_method_37_code
def yX12_begin : MethodName := ⟨RX12, "begin", "()I"⟩
abbrev cX12_behind : ByteArray := prog_14_method_38_code
def yX12_behind : MethodName := ⟨RX12, "behind", "()I"⟩
abbrev cX12_lastOf : ByteArray := prog_14_method_39_code
def yX12_lastOf : MethodName := ⟨RX12, "lastOf", "(II)I"⟩
abbrev cX12_factOf : ByteArray := prog_14_method_40_code
def yX12_factOf : MethodName := ⟨RX12, "factOf", "(III)I"⟩
abbrev cX12_holds : ByteArray := prog_14_method_41_code
def yX12_holds : MethodName := ⟨RX12, "holds", "(III)Z"⟩
abbrev cX12_warm : ByteArray := prog_14_method_42_code
def yX12_warm : MethodName := ⟨RX12, "warm", "(I)I"⟩
abbrev cX12_sum : ByteArray := prog_14_method_43_code
def yX12_sum : MethodName := ⟨RX12, "sum", "(II)I"⟩
abbrev cX12_plainDries : ByteArray := prog_14_method_44_code
def yX12_plainDries : MethodName := ⟨RX12, "plainDries", "(II)I"⟩
abbrev cX12_dries : ByteArray := prog_14_method_45_code
def yX12_dries : MethodName := ⟨RX12, "dries", "(II)I"⟩
abbrev cX12_spoils : ByteArray := prog_14_method_46_code
def yX12_spoils : MethodName := ⟨RX12, "spoils", "(I)Z"⟩
abbrev cX12_of : ByteArray := prog_14_method_47_code
def yX12_of : MethodName := ⟨RX12, "of", "(II)I"⟩
abbrev cX12_wetHere : ByteArray := prog_14_method_48_code
def yX12_wetHere : MethodName := ⟨RX12, "wetHere", "()I"⟩
abbrev cX12_wetAll : ByteArray := prog_14_method_49_code
def yX12_wetAll : MethodName := ⟨RX12, "wetAll", "()I"⟩
abbrev cX12_allCracks : ByteArray := prog_14_method_50_code
def yX12_allCracks : MethodName := ⟨RX12, "allCracks", "()I"⟩
abbrev cX12_drySet : ByteArray := prog_14_method_51_code
def yX12_drySet : MethodName := ⟨RX12, "drySet", "()I"⟩
abbrev cX12_told : ByteArray := prog_14_method_52_code
def yX12_told : MethodName := ⟨RX12, "told", "(I)I"⟩
abbrev cX12_goHour : ByteArray := prog_14_method_53_code
def yX12_goHour : MethodName := ⟨RX12, "goHour", "()V"⟩
abbrev cX12_goHours : ByteArray := prog_14_method_54_code
def yX12_goHours : MethodName := ⟨RX12, "goHours", "(I)V"⟩
abbrev cX12_stokes : ByteArray := prog_14_method_55_code
def yX12_stokes : MethodName := ⟨RX12, "stokes", "()V"⟩
abbrev cX12_stoke : ByteArray := prog_14_method_56_code
def yX12_stoke : MethodName := ⟨RX12, "stoke", "()I"⟩
abbrev cX12_pass : ByteArray := prog_14_method_57_code
def yX12_pass : MethodName := ⟨RX12, "pass", "(I)I"⟩
abbrev cX12_save : ByteArray := prog_14_method_58_code
def yX12_save : MethodName := ⟨RX12, "save", "()V"⟩
abbrev cX12_putBack : ByteArray := prog_14_method_59_code
def yX12_putBack : MethodName := ⟨RX12, "putBack", "()V"⟩
abbrev cX12_on : ByteArray := prog_14_method_60_code
def yX12_on : MethodName := ⟨RX12, "on", "(II)I"⟩
abbrev cX12_done : ByteArray := prog_14_method_61_code
def yX12_done : MethodName := ⟨RX12, "done", "(I)I"⟩
abbrev cX12_night : ByteArray := prog_14_method_62_code
def yX12_night : MethodName := ⟨RX12, "night", "(I)I"⟩
abbrev cX12_layWets : ByteArray := prog_14_method_63_code
def yX12_layWets : MethodName := ⟨RX12, "layWets", "(I)V"⟩
abbrev cX12_layPlaces : ByteArray := prog_14_method_64_code
def yX12_layPlaces : MethodName := ⟨RX12, "layPlaces", "(I)Z"⟩
abbrev cX12_layBest : ByteArray := prog_14_method_65_code
def yX12_layBest : MethodName := ⟨RX12, "layBest", "(I)V"⟩
abbrev cX12_placed : ByteArray := prog_14_method_66_code
def yX12_placed : MethodName := ⟨RX12, "placed", "(II)I"⟩
abbrev cX12_wetBy : ByteArray := prog_14_method_67_code
def yX12_wetBy : MethodName := ⟨RX12, "wetBy", "(II)I"⟩
abbrev cX12_change : ByteArray := prog_14_method_68_code
def yX12_change : MethodName := ⟨RX12, "change", "()I"⟩
abbrev cX12_wetStoked : ByteArray := prog_14_method_69_code
def yX12_wetStoked : MethodName := ⟨RX12, "wetStoked", "(II)I"⟩
abbrev cX12_logs : ByteArray := prog_14_method_70_code
def yX12_logs : MethodName := ⟨RX12, "logs", "(II)I"⟩
abbrev cX12_see : ByteArray := prog_14_method_71_code
def yX12_see : MethodName := ⟨RX12, "see", "(III)I"⟩
abbrev cX12_isSeen : ByteArray := prog_14_method_72_code
def yX12_isSeen : MethodName := ⟨RX12, "isSeen", "(I)Z"⟩
abbrev cX12_wets : ByteArray := prog_14_method_73_code
def yX12_wets : MethodName := ⟨RX12, "wets", "(II)I"⟩
abbrev cX12_can : ByteArray := prog_14_method_74_code
def yX12_can : MethodName := ⟨RX12, "can", "(II)I"⟩
abbrev cX12_where : ByteArray := prog_14_method_75_code
def yX12_where : MethodName := ⟨RX12, "where", "(I)I"⟩
abbrev cX12_divisor : ByteArray := prog_14_method_76_code
def yX12_divisor : MethodName := ⟨RX12, "divisor", "(II)I"⟩
abbrev cX12_lowest : ByteArray := prog_14_method_77_code
def yX12_lowest : MethodName := ⟨RX12, "lowest", "(III)J"⟩
abbrev cX12_odds : ByteArray := prog_14_method_78_code
def yX12_odds : MethodName := ⟨RX12, "odds", "(III)J"⟩
abbrev cX12_mean : ByteArray := prog_14_method_79_code
def yX12_mean : MethodName := ⟨RX12, "mean", "(II)J"⟩
abbrev cX12_rota : ByteArray := prog_14_method_80_code
def yX12_rota : MethodName := ⟨RX12, "rota", "(II)I"⟩
abbrev cX12_goRota : ByteArray := prog_14_method_81_code
def yX12_goRota : MethodName := ⟨RX12, "goRota", "(II)V"⟩
abbrev cX12_ends : ByteArray := prog_14_method_82_code
def yX12_ends : MethodName := ⟨RX12, "ends", "(I)I"⟩
abbrev cX12_book : ByteArray := prog_14_method_83_code
def yX12_book : MethodName := ⟨RX12, "book", "(II)I"⟩
abbrev cX12_looked : ByteArray := prog_14_method_84_code
def yX12_looked : MethodName := ⟨RX12, "looked", "()I"⟩
abbrev cX12_judge : ByteArray := prog_14_method_85_code
def yX12_judge : MethodName := ⟨RX12, "judge", "(II)I"⟩
abbrev cX12_image : ByteArray := prog_14_method_86_code
def yX12_image : MethodName := ⟨RX12, "image", "()I"⟩
abbrev cX12_undo : ByteArray := prog_14_method_87_code
def yX12_undo : MethodName := ⟨RX12, "undo", "()I"⟩
abbrev cX12_body : ByteArray := prog_14_method_88_code
def yX12_body : MethodName := ⟨RX12, "body", "(I)V"⟩
abbrev cX12_pairDrips : ByteArray := prog_14_method_89_code
def yX12_pairDrips : MethodName := ⟨RX12, "pairDrips", "(II)I"⟩
abbrev cX12_dripsAct : ByteArray := prog_14_method_90_code
def yX12_dripsAct : MethodName := ⟨RX12, "dripsAct", "(II)I"⟩
abbrev cX12_pairSteams : ByteArray := prog_14_method_91_code
def yX12_pairSteams : MethodName := ⟨RX12, "pairSteams", "(II)I"⟩
abbrev cX12_leatherSteams : ByteArray := prog_14_method_92_code
def yX12_leatherSteams : MethodName := ⟨RX12, "leatherSteams", "(II)I"⟩
abbrev cX12_steamsAct : ByteArray := prog_14_method_93_code
def yX12_steamsAct : MethodName := ⟨RX12, "steamsAct", "(II)I"⟩
abbrev cX12_pairTells : ByteArray := prog_14_method_94_code
def yX12_pairTells : MethodName := ⟨RX12, "pairTells", "(II)I"⟩
abbrev cX12_tellsAct : ByteArray := prog_14_method_95_code
def yX12_tellsAct : MethodName := ⟨RX12, "tellsAct", "(II)I"⟩
abbrev cX12_act : ByteArray := prog_14_method_96_code
def yX12_act : MethodName := ⟨RX12, "act", "(III)I"⟩
abbrev cX12_trace : ByteArray := prog_14_method_97_code
def yX12_trace : MethodName := ⟨RX12, "trace", "(I)I"⟩
abbrev cX12_taken : ByteArray := prog_14_method_98_code
def yX12_taken : MethodName := ⟨RX12, "taken", "(II)I"⟩
abbrev cX12_count : ByteArray := prog_14_method_99_code
def yX12_count : MethodName := ⟨RX12, "count", "(I)I"⟩
abbrev cX12_isTape : ByteArray := prog_14_method_100_code
def yX12_isTape : MethodName := ⟨RX12, "isTape", "(I)Z"⟩
abbrev cX12_tape : ByteArray := prog_14_method_101_code
def yX12_tape : MethodName := ⟨RX12, "tape", "(III)I"⟩
abbrev cX12_narrow : ByteArray := prog_14_method_102_code
def yX12_narrow : MethodName := ⟨RX12, "narrow", "(IJ)J"⟩
abbrev cX12_item : ByteArray := prog_14_method_103_code
def yX12_item : MethodName := ⟨RX12, "item", "(IIJ)I"⟩
abbrev cX12_read : ByteArray := prog_14_method_104_code
def yX12_read : MethodName := ⟨RX12, "read", "(II)J"⟩
abbrev cX12_shift : ByteArray := prog_14_method_105_code
def yX12_shift : MethodName := ⟨RX12, "shift", "(IIIII)I"⟩
def RJ6 : String := "java/lang/Integer"
def TJ6 : u_T := fun k => match k with
  | _ => ("", "", "", false)
def tyJ6 : Nat → FieldType := fun k => match k with
  | _ => .int
abbrev wsJ60 : List Cond := u_ws RJ6 TJ6 0
theorem nmJ6 : ∀ a, a < 0 → ∀ b, b < 0 → a ≠ b → (TJ6 a).2.1 ≠ (TJ6 b).2.1 := by decide +kernel
theorem tyJ6_ok : ∀ k, k < 0 → parseFieldDescriptor (TJ6 k).2.2.1 = some (tyJ6 k) := by decide +kernel
abbrev cJ6_bitCount_0f7a4 : ByteArray := prog_15_method_49_code
def yJ6_bitCount_0f7a4 : MethodName := ⟨RJ6, "bitCount", "(I)I"⟩
def RJ9 : String := "java/lang/Math"
def TJ9 : u_T := fun k => match k with
  | _ => ("", "", "", false)
def tyJ9 : Nat → FieldType := fun k => match k with
  | _ => .int
abbrev wsJ90 : List Cond := u_ws RJ9 TJ9 0
theorem nmJ9 : ∀ a, a < 0 → ∀ b, b < 0 → a ≠ b → (TJ9 a).2.1 ≠ (TJ9 b).2.1 := by decide +kernel
theorem tyJ9_ok : ∀ k, k < 0 → parseFieldDescriptor (TJ9 k).2.2.1 = some (tyJ9 k) := by decide +kernel
abbrev cJ9_max_7cf53 : ByteArray := prog_16_method_65_code
def yJ9_max_7cf53 : MethodName := ⟨RJ9, "max", "(II)I"⟩
abbrev cJ9_min_7cf53 : ByteArray := prog_16_method_69_code
def yJ9_min_7cf53 : MethodName := ⟨RJ9, "min", "(II)I"⟩
def RJ10 : String := "java/lang/System"
def TJ10 : u_T := fun k => match k with
  | _ => ("", "", "", false)
def tyJ10 : Nat → FieldType := fun k => match k with
  | _ => .int
abbrev wsJ100 : List Cond := u_ws RJ10 TJ10 0
theorem nmJ10 : ∀ a, a < 0 → ∀ b, b < 0 → a ≠ b → (TJ10 a).2.1 ≠ (TJ10 b).2.1 := by decide +kernel
theorem tyJ10_ok : ∀ k, k < 0 → parseFieldDescriptor (TJ10 k).2.2.1 = some (tyJ10 k) := by decide +kernel
def RJ7 : String := "java/util/Arrays"
def TJ7 : u_T := fun k => match k with
  | _ => ("", "", "", false)
def tyJ7 : Nat → FieldType := fun k => match k with
  | _ => .int
abbrev wsJ70 : List Cond := u_ws RJ7 TJ7 0
theorem nmJ7 : ∀ a, a < 0 → ∀ b, b < 0 → a ≠ b → (TJ7 a).2.1 ≠ (TJ7 b).2.1 := by decide +kernel
theorem tyJ7_ok : ∀ k, k < 0 → parseFieldDescriptor (TJ7 k).2.2.1 = some (tyJ7 k) := by decide +kernel
abbrev cJ7_fill_d0a16 : ByteArray := prog_18_method_101_code
def yJ7_fill_d0a16 : MethodName := ⟨RJ7, "fill", "([JJ)V"⟩
abbrev cJ7_fill_53178 : ByteArray := prog_18_method_103_code
def yJ7_fill_53178 : MethodName := ⟨RJ7, "fill", "([II)V"⟩
def RL : String := "BootsStoveLaw"
abbrev cL_law : ByteArray := code
def yL_law : MethodName := ⟨RL, "law", "([I)Z"⟩
abbrev vwCl : List vw_C := [(RX0, TX0, 3), (RX1, TX1, 8), (RX2, TX2, 2), (RX3, TX3, 7), (RX4, TX4, 4), (RX6, TX6, 7), (RX7, TX7, 3), (RX8, TX8, 4), (RX9, TX9, 4), (RX10, TX10, 3), (RX11, TX11, 17), (RX12, TX12, 82)]
end
section
/-! ===== CORE: an abstract machine over named cells (own work) ===== -/
abbrev z_AV : Type := Int32 ⊕ (Int64 ⊕ (Nat × Nat))
abbrev z_Lc : Type := List (Option z_AV)
abbrev z_Mem : Type := (Nat → Nat → Nat → Int32) × ((Nat → Nat → Nat → Int64) × ((Nat → Nat → Nat → Nat × Nat) × Nat))
abbrev z_Op : Type := Nat × (Instr × (Nat × (Nat × (Nat × (Nat × (Int32 × List (Int32 × Nat)))))))
abbrev z_Sc : Type := Option (Nat × (Nat → Int32))
def z_kT : List (List Nat) := [[], [2, 0, 3], [0, 0, 0, 0, 0, 1, 0, 2], [2, 2], [0, 0, 0, 2, 0, 2, 2], [2, 0, 0, 3], [2, 2, 2, 0, 2, 0, 0], [2, 0, 2], [2, 2, 2, 0], [0, 0, 0, 3], [0, 0, 2], [2, 2, 2, 2, 1, 2, 2, 2, 2, 2, 2, 0, 2, 2, 2, 2, 2], [0, 0, 0, 0, 0, 2, 2, 2, 2, 2, 2, 0, 0, 0, 0, 0, 2, 2, 2, 2, 2, 2, 2, 2, 0, 0, 0, 2, 2, 0, 0, 0, 0, 0, 2, 2, 2, 2, 2, 2, 0, 0, 0, 2, 2, 2, 2, 0, 0, 2, 2, 2, 2, 1, 0, 0, 0, 0, 0, 0, 0, 0, 0, 2, 2, 2, 2, 2, 2, 2, 2, 2, 2, 2, 2, 2, 0, 2, 2, 2, 2, 2], [], [], [], [], [], [], [], [], [], [], [], [], [], [], [], [], [], [], [], [], [], [], [], [], [], [], [], [], [], [], [], [], [], [], [], [], [], [], [], [], [], [], [], [], [], [], [], [], [], [], [], [], [], [], [], [], [], [], [], [], [], [], [], [], [], [], [], [], [], [], [], []]
def z_cT : List (List (Nat × (Nat × Nat))) := [[], [(20, 1, 0), (0, 0, 0), (2, 0, 0)], [(0, 0, 0), (0, 0, 0), (0, 0, 0), (0, 0, 0), (0, 0, 0), (0, 0, 0), (0, 0, 0), (21, 1, 0)], [(2, 0, 18), (9, 0, 3)], [(0, 0, 0), (0, 0, 0), (0, 0, 0), (22, 1, 0), (0, 0, 0), (23, 1, 0), (24, 1, 0)], [(25, 1, 0), (0, 0, 0), (0, 0, 0), (4, 0, 0)], [(26, 1, 0), (27, 1, 0), (28, 1, 0), (0, 0, 0), (29, 1, 0), (0, 0, 0), (0, 0, 0)], [(30, 1, 0), (0, 0, 0), (9, 1, 0)], [(31, 1, 0), (32, 1, 0), (33, 1, 0), (0, 0, 0)], [(0, 0, 0), (0, 0, 0), (0, 0, 0), (4, 0, 0)], [(0, 0, 0), (0, 0, 0), (34, 1, 0)], [(7, 0, 0), (8, 0, 0), (8, 0, 1), (8, 0, 2), (0, 0, 0), (7, 0, 1), (8, 0, 3), (8, 0, 4), (8, 0, 5), (5, 0, 0), (35, 1, 0), (0, 0, 0), (36, 1, 0), (1, 0, 0), (7, 0, 2), (3, 0, 0), (6, 0, 0)], [(0, 0, 0), (0, 0, 0), (0, 0, 0), (0, 0, 0), (0, 0, 0), (37, 1, 0), (38, 1, 0), (39, 1, 0), (40, 1, 0), (41, 1, 0), (42, 1, 0), (0, 0, 0), (0, 0, 0), (0, 0, 0), (0, 0, 0), (0, 0, 0), (43, 1, 0), (44, 1, 0), (45, 1, 0), (46, 1, 0), (47, 1, 0), (48, 1, 0), (49, 1, 0), (50, 1, 0), (0, 0, 0), (0, 0, 0), (0, 0, 0), (51, 1, 0), (52, 1, 0), (0, 0, 0), (0, 0, 0), (0, 0, 0), (0, 0, 0), (0, 0, 0), (53, 1, 0), (54, 1, 0), (55, 1, 0), (56, 1, 0), (57, 1, 0), (58, 1, 0), (0, 0, 0), (0, 0, 0), (0, 0, 0), (59, 1, 0), (60, 1, 0), (61, 1, 0), (62, 1, 0), (0, 0, 0), (0, 0, 0), (63, 1, 0), (64, 1, 0), (65, 1, 0), (66, 1, 0), (0, 0, 0), (0, 0, 0), (0, 0, 0), (0, 0, 0), (0, 0, 0), (0, 0, 0), (0, 0, 0), (0, 0, 0), (0, 0, 0), (0, 0, 0), (67, 1, 0), (68, 1, 0), (69, 1, 0), (70, 1, 0), (71, 1, 0), (72, 1, 0), (73, 1, 0), (74, 1, 0), (75, 1, 0), (76, 1, 0), (77, 1, 0), (78, 1, 0), (79, 1, 0), (0, 0, 0), (80, 1, 0), (81, 1, 0), (82, 1, 0), (83, 1, 0), (84, 1, 0)], [], [], [], [], [], [], [], [], [], [], [], [], [], [], [], [], [], [(2, 6, 0)], [], [], [], [], [(4, 0, 0)], [(10, 0, 0)], [], [], [], [], [], [], [], [], [], [], [], [], [], [], [], [], [], [], [], [], [], [], [], [], [], [], [], [], [], [], [], [], [], [], [], [], [], [], [], [], [], [], [], [], [], [], [], []]
def z_aT : List Nat := [0, 0, 0, 0, 0, 0, 0, 0, 0, 0, 0, 0, 0, 0, 0, 0, 0, 0, 0, 0, 1, 1, 1, 1, 1, 3, 1, 2, 1, 1, 5, 1, 1, 1, 4, 5, 5, 1, 1, 1, 1, 1, 1, 1, 1, 1, 1, 1, 1, 1, 1, 1, 2, 1, 1, 1, 1, 1, 1, 1, 1, 1, 1, 1, 1, 1, 1, 1, 1, 1, 1, 1, 1, 1, 1, 1, 1, 1, 1, 1, 1, 1, 1, 4, 4]
def z_nT : List Nat := [0, 0, 0, 0, 0, 0, 0, 0, 0, 0, 0, 0, 0, 0, 0, 0, 0, 0, 0, 0, 20, 4, 100, 10, 6, 100, 36, 6, 6, 6, 6, 1000, 1000, 1000, 60, 6, 6, 6, 6, 6, 6, 6, 24, 100, 6, 60, 60, 60, 60, 600, 101, 14, 100, 6, 6, 6, 36, 6, 6, 5, 5, 5, 6, 10, 10, 8, 8, 6, 6, 6, 6, 6, 24, 5, 5, 5, 10, 10, 8, 8, 20, 6, 6, 360, 60]
def z_ord : List (Nat × Nat) := [(11, 0), (8, 0), (31, 0), (32, 0), (33, 0), (8, 1), (31, 1), (32, 1), (33, 1), (8, 2), (31, 2), (32, 2), (33, 2), (8, 3), (31, 3), (32, 3), (33, 3), (8, 4), (31, 4), (32, 4), (33, 4), (8, 5), (31, 5), (32, 5), (33, 5), (35, 0), (36, 0), (1, 0), (20, 0), (2, 19), (21, 19), (6, 0), (26, 0), (27, 0), (28, 0), (29, 0), (4, 6), (22, 6), (23, 6), (24, 6), (7, 0), (30, 0), (9, 0), (2, 0), (21, 0), (2, 1), (21, 1), (2, 2), (21, 2), (2, 3), (21, 3), (2, 4), (21, 4), (2, 5), (21, 5), (7, 1), (30, 1), (9, 1), (2, 6), (21, 6), (2, 7), (21, 7), (2, 8), (21, 8), (2, 9), (21, 9), (2, 10), (21, 10), (2, 11), (21, 11), (7, 2), (30, 2), (9, 2), (2, 12), (21, 12), (2, 13), (21, 13), (2, 14), (21, 14), (2, 15), (21, 15), (2, 16), (21, 16), (2, 17), (21, 17), (3, 0), (2, 18), (21, 18), (9, 3), (5, 0), (25, 0), (4, 0), (22, 0), (23, 0), (24, 0), (4, 1), (22, 1), (23, 1), (24, 1), (4, 2), (22, 2), (23, 2), (24, 2), (4, 3), (22, 3), (23, 3), (24, 3), (4, 4), (22, 4), (23, 4), (24, 4), (4, 5), (22, 5), (23, 5), (24, 5), (10, 0), (34, 0), (10, 1), (34, 1), (10, 2), (34, 2), (10, 3), (34, 3), (10, 4), (34, 4), (10, 5), (34, 5), (12, 0), (37, 0), (38, 0), (39, 0), (40, 0), (41, 0), (42, 0), (43, 0), (44, 0), (45, 0), (46, 0), (47, 0), (48, 0), (49, 0), (50, 0), (51, 0), (52, 0), (53, 0), (54, 0), (55, 0), (56, 0), (57, 0), (58, 0), (59, 0), (60, 0), (61, 0), (62, 0), (63, 0), (64, 0), (65, 0), (66, 0), (67, 0), (68, 0), (69, 0), (70, 0), (71, 0), (72, 0), (73, 0), (74, 0), (75, 0), (76, 0), (77, 0), (78, 0), (79, 0), (80, 0), (81, 0), (82, 0), (83, 0), (84, 0)]
def z_sI (S : z_Mem) (t i k : Nat) (x : Int32) : z_Mem := (fun t' i' k' => if t' = t ∧ i' = i ∧ k' = k then x else S.1 t' i' k', S.2)
def z_sL (S : z_Mem) (t i k : Nat) (x : Int64) : z_Mem := (S.1, fun t' i' k' => if t' = t ∧ i' = i ∧ k' = k then x else S.2.1 t' i' k', S.2.2)
def z_sR (S : z_Mem) (t i k : Nat) (x : Nat × Nat) : z_Mem := (S.1, S.2.1, fun t' i' k' => if t' = t ∧ i' = i ∧ k' = k then x else S.2.2.1 t' i' k', S.2.2.2)
def z_rst (S : z_Mem) (t i : Nat) : z_Mem := (fun t' i' k' => if t' = t ∧ i' = i then 0 else S.1 t' i' k', fun t' i' k' => if t' = t ∧ i' = i then 0 else S.2.1 t' i' k', fun t' i' k' => if t' = t ∧ i' = i then (0, 0) else S.2.2.1 t' i' k', S.2.2.2 + 1)
/-- kinds of an object's slots: 0 int, 1 boolean, 2 a fixed reference, 3 a reference that changes -/
def z_shK (t k : Nat) : Nat := (z_kT.getD t []).getD k 9
/-- kinds of an array's elements: 0 no array, 1 int, 2 boolean, 3 byte, 4 long, 5 references -/
def z_aK (t : Nat) : Nat := z_aT.getD t 0
def z_rl (i : Nat) : Nat := match i with | 0 => 5 | 1 => 10 | 2 => 8 | 3 => 5 | 4 => 10 | _ => 8
def z_aN (t i : Nat) : Nat := cond (Nat.beq (z_nT.getD t 0) 1000) (z_rl i) (z_nT.getD t 0)
def z_rT (t k : Nat) : Nat × (Nat × Nat) := (z_cT.getD t []).getD k (0, 0, 0)
def z_dT (t k : Nat) : Nat := (z_rT t k).1
def z_refC (t k i : Nat) : Nat × Nat := cond (Nat.beq (z_rT t k).2.1 1) ((z_rT t k).1, i) ((z_rT t k).1, (z_rT t k).2.2)
def z_eT (t : Nat) : Nat := (z_rT t 0).1
def z_elC (t i j : Nat) : Nat × Nat := cond (Nat.beq (z_rT t 0).2.1 0) (z_eT t, j) (z_eT t, (z_rT t 0).2.1 * i + j)
def z_rv (md : Bool) (S : z_Mem) (t i k : Nat) : Nat × Nat := cond md (cond (Nat.beq (z_shK t k) 2) (z_refC t k i) (z_dT t k, (S.2.2.1 t i k).2)) (S.2.2.1 t i k)
def z_re (md : Bool) (S : z_Mem) (t i j : Nat) : Nat × Nat := cond md (z_elC t i j) (S.2.2.1 t i j)
def z_oob (j : Int32) (n : Nat) : Bool := decide (j < 0) || Nat.ble n j.toNatClampNeg
def z_st (ls : z_Lc) (i : Nat) (v : z_AV) : Option z_Lc := match i with
  | 0 => some (ls.set 0 (some v))
  | j + 1 => match ls.getD j none with
    | some (.inr (.inl _)) => none
    | _ => some (ls.set (j + 1) (some v))
def z_sw {ρ : Type} : List (Int32 × Nat) → Int32 → (Nat → ρ) → Nat → ρ
  | [], _, f, d => f d
  | q :: r, v, f, d => if v = q.1 then f q.2 else z_sw r v f d
def z_cpI (f g : Nat → Int32) (sp dp n : Nat) : Nat → Int32 := va_cpy f g sp dp n
def z_acI (S : z_Mem) (t i sp t2 i2 dp n : Nat) : z_Mem := (fun t' i' k' => if t' = t2 ∧ i' = i2 then va_cpy (S.1 t i) (S.1 t2 i2) sp dp n k' else S.1 t' i' k', S.2)
def z_acL (S : z_Mem) (t i sp t2 i2 dp n : Nat) : z_Mem := (S.1, fun t' i' k' => if t' = t2 ∧ i' = i2 then va_cpy (S.2.1 t i) (S.2.1 t2 i2) sp dp n k' else S.2.1 t' i' k', S.2.2)
def z_rng (sp n : Int32) (N : Nat) : Bool := !decide (sp < 0) && (!decide (n < 0) && Nat.ble (sp.toNatClampNeg + n.toNatClampNeg) N)
def z_cat : List z_AV → Nat
  | [] => 0
  | .inl _ :: r => z_cat r + 1
  | .inr (.inl _) :: r => z_cat r + 2
  | .inr (.inr _) :: r => z_cat r + 1
/-- one instruction that is no call and no return -/
def z_stp {ρ : Type} (md : Bool) (sc : z_Sc) (ins : Instr) (a b c : Nat) (x : Int32) (sw : List (Int32 × Nat)) (pc : Nat) (ls : z_Lc) (st : List z_AV) (S : z_Mem) (κ : Nat → z_Lc → List z_AV → z_Mem → Option ρ) : Option ρ :=
  match ins with
  | .iconst _ => κ (pc + 1) ls (.inl x :: st) S
  | .bipush _ => κ (pc + 2) ls (.inl x :: st) S
  | .sipush _ => κ (pc + 3) ls (.inl x :: st) S
  | .ldc_w _ => κ (pc + 3) ls (.inl x :: st) S
  | .lconst n => κ (pc + 1) ls (.inr (.inl (Int64.ofNat (n : Nat))) :: st) S
  | .ldc2_w _ => κ (pc + 3) ls (.inr (.inl (Int64.ofNat a)) :: st) S
  | .iload _ => match ls.getD a none with | some (.inl v) => κ (pc + 2) ls (.inl v :: st) S | _ => none
  | .iload_n _ => match ls.getD a none with | some (.inl v) => κ (pc + 1) ls (.inl v :: st) S | _ => none
  | .lload _ => match ls.getD a none with | some (.inr (.inl v)) => κ (pc + 2) ls (.inr (.inl v) :: st) S | _ => none
  | .lload_n _ => match ls.getD a none with | some (.inr (.inl v)) => κ (pc + 1) ls (.inr (.inl v) :: st) S | _ => none
  | .aload _ => match ls.getD a none with | some (.inr (.inr v)) => cond (Nat.beq v.1 0) none (κ (pc + 2) ls (.inr (.inr v) :: st) S) | _ => none
  | .aload_n _ => match ls.getD a none with | some (.inr (.inr v)) => cond (Nat.beq v.1 0) none (κ (pc + 1) ls (.inr (.inr v) :: st) S) | _ => none
  | .istore _ => match st with | .inl v :: r => (match z_st ls a (.inl v) with | some l => κ (pc + 2) l r S | none => none) | _ => none
  | .istore_n _ => match st with | .inl v :: r => (match z_st ls a (.inl v) with | some l => κ (pc + 1) l r S | none => none) | _ => none
  | .lstore _ => match st with | .inr (.inl v) :: r => (match z_st ls a (.inr (.inl v)) with | some l => κ (pc + 2) (l.set (a + 1) none) r S | none => none) | _ => none
  | .astore _ => match st with | .inr (.inr v) :: r => cond (Nat.beq v.1 0) none (match z_st ls a (.inr (.inr v)) with | some l => κ (pc + 2) l r S | none => none) | _ => none
  | .astore_n _ => match st with | .inr (.inr v) :: r => cond (Nat.beq v.1 0) none (match z_st ls a (.inr (.inr v)) with | some l => κ (pc + 1) l r S | none => none) | _ => none
  | .iinc _ _ => match ls.getD a none with | some (.inl v) => (match z_st ls a (.inl (v + x)) with | some l => κ (pc + 3) l st S | none => none) | _ => none
  | .iadd => match st with | .inl y :: .inl w :: r => κ (pc + 1) ls (.inl (w + y) :: r) S | _ => none
  | .isub => match st with | .inl y :: .inl w :: r => κ (pc + 1) ls (.inl (w - y) :: r) S | _ => none
  | .imul => match st with | .inl y :: .inl w :: r => κ (pc + 1) ls (.inl (w * y) :: r) S | _ => none
  | .iand => match st with | .inl y :: .inl w :: r => κ (pc + 1) ls (.inl (w &&& y) :: r) S | _ => none
  | .ior => match st with | .inl y :: .inl w :: r => κ (pc + 1) ls (.inl (w ||| y) :: r) S | _ => none
  | .ixor => match st with | .inl y :: .inl w :: r => κ (pc + 1) ls (.inl (w ^^^ y) :: r) S | _ => none
  | .ishl => match st with | .inl y :: .inl w :: r => κ (pc + 1) ls (.inl (w <<< (y &&& 31)) :: r) S | _ => none
  | .ishr => match st with | .inl y :: .inl w :: r => κ (pc + 1) ls (.inl (w >>> (y &&& 31)) :: r) S | _ => none
  | .iushr => match st with | .inl y :: .inl w :: r => κ (pc + 1) ls (.inl ((w.toUInt32 >>> (y.toUInt32 &&& Int32.toUInt32 31)).toInt32) :: r) S | _ => none
  | .idiv => match st with | .inl y :: .inl w :: r => if y = 0 then none else κ (pc + 1) ls (.inl (w / y) :: r) S | _ => none
  | .irem => match st with | .inl y :: .inl w :: r => if y = 0 then none else κ (pc + 1) ls (.inl (w - w / y * y) :: r) S | _ => none
  | .ineg => match st with | .inl y :: r => κ (pc + 1) ls (.inl (-y) :: r) S | _ => none
  | .land => match st with | .inr (.inl y) :: .inr (.inl w) :: r => κ (pc + 1) ls (.inr (.inl (w &&& y)) :: r) S | _ => none
  | .lor => match st with | .inr (.inl y) :: .inr (.inl w) :: r => κ (pc + 1) ls (.inr (.inl (w ||| y)) :: r) S | _ => none
  | .lshl => match st with | .inl y :: .inr (.inl w) :: r => κ (pc + 1) ls (.inr (.inl (w <<< (y.toInt64 &&& 63))) :: r) S | _ => none
  | .lcmp => match st with | .inr (.inl y) :: .inr (.inl w) :: r => κ (pc + 1) ls (.inl (lg_cmp w y) :: r) S | _ => none
  | .i2l => match st with | .inl y :: r => κ (pc + 1) ls (.inr (.inl y.toInt64) :: r) S | _ => none
  | .l2i => match st with | .inr (.inl y) :: r => κ (pc + 1) ls (.inl y.toInt32 :: r) S | _ => none
  | .i2b => match st with | .inl y :: r => κ (pc + 1) ls (.inl y.toInt8.toInt32 :: r) S | _ => none
  | .i2s => match st with | .inl y :: r => κ (pc + 1) ls (.inl y.toInt16.toInt32 :: r) S | _ => none
  | .dup => match st with | .inl v :: r => κ (pc + 1) ls (.inl v :: .inl v :: r) S | .inr (.inr v) :: r => cond (Nat.beq v.1 0) none (κ (pc + 1) ls (.inr (.inr v) :: .inr (.inr v) :: r) S) | _ => none
  | .goto _ => κ a ls st S
  | .ifCond cd _ => match st with
    | .inl v :: r => (match cd with
      | .eq => if v = 0 then κ a ls r S else κ (pc + 3) ls r S
      | .ne => if v = 0 then κ (pc + 3) ls r S else κ a ls r S
      | .lt => if v < 0 then κ a ls r S else κ (pc + 3) ls r S
      | .ge => if 0 ≤ v then κ a ls r S else κ (pc + 3) ls r S
      | .gt => if 0 < v then κ a ls r S else κ (pc + 3) ls r S
      | .le => if v ≤ 0 then κ a ls r S else κ (pc + 3) ls r S)
    | _ => none
  | .if_icmp cd _ => match st with
    | .inl y :: .inl v :: r => (match cd with
      | .eq => if v = y then κ a ls r S else κ (pc + 3) ls r S
      | .ne => if v = y then κ (pc + 3) ls r S else κ a ls r S
      | .lt => if v < y then κ a ls r S else κ (pc + 3) ls r S
      | .ge => if y ≤ v then κ a ls r S else κ (pc + 3) ls r S
      | .gt => if y < v then κ a ls r S else κ (pc + 3) ls r S
      | .le => if v ≤ y then κ a ls r S else κ (pc + 3) ls r S)
    | _ => none
  | .tableswitch _ _ _ _ => match st with | .inl v :: r => z_sw sw v (fun t => κ t ls r S) a | _ => none
  | .lookupswitch _ _ => match st with | .inl v :: r => z_sw sw v (fun t => κ t ls r S) a | _ => none
  | .getfield _ => match st with
    | .inr (.inr q) :: r => cond (Nat.beq q.1 a) (match z_shK a b with
      | 0 => κ (pc + 3) ls (.inl (S.1 a q.2 b) :: r) S
      | 1 => κ (pc + 3) ls (.inl (S.1 a q.2 b) :: r) S
      | 2 => κ (pc + 3) ls (.inr (.inr (z_rv md S a q.2 b)) :: r) S
      | 3 => κ (pc + 3) ls (.inr (.inr (z_rv md S a q.2 b)) :: r) S
      | _ => none) none
    | _ => none
  | .putfield _ => match st with
    | .inl v :: .inr (.inr q) :: r => cond (Nat.beq q.1 a) (match z_shK a b with
      | 0 => κ (pc + 3) ls r (z_sI S a q.2 b v)
      | 1 => if v &&& 1 = v then κ (pc + 3) ls r (z_sI S a q.2 b v) else none
      | _ => none) none
    | .inr (.inr v) :: .inr (.inr q) :: r => cond (Nat.beq q.1 a) (cond (Nat.beq v.1 0) none (match z_shK a b with
      | 2 => cond md none (κ (pc + 3) ls r (z_sR S a q.2 b v))
      | 3 => cond md (cond (Nat.beq v.1 (z_dT a b)) (κ (pc + 3) ls r (z_sR S a q.2 b v)) none) (κ (pc + 3) ls r (z_sR S a q.2 b v))
      | _ => none)) none
    | _ => none
  | .iaload => match st with
    | .inl j :: .inr (.inr q) :: r => cond (Nat.beq q.1 90)
      (match sc with | some (L, xs) => cond (z_oob j L) none (κ (pc + 1) ls (.inl (xs j.toNatClampNeg) :: r) S) | none => none)
      (cond (Nat.beq (z_aK q.1) 1) (cond (z_oob j (z_aN q.1 q.2)) none (κ (pc + 1) ls (.inl (S.1 q.1 q.2 j.toNatClampNeg) :: r) S)) none)
    | _ => none
  | .baload => match st with
    | .inl j :: .inr (.inr q) :: r => cond (Nat.beq (z_aK q.1) 2 || Nat.beq (z_aK q.1) 3) (cond (z_oob j (z_aN q.1 q.2)) none (κ (pc + 1) ls (.inl (S.1 q.1 q.2 j.toNatClampNeg) :: r) S)) none
    | _ => none
  | .laload => match st with
    | .inl j :: .inr (.inr q) :: r => cond (Nat.beq (z_aK q.1) 4) (cond (z_oob j (z_aN q.1 q.2)) none (κ (pc + 1) ls (.inr (.inl (S.2.1 q.1 q.2 j.toNatClampNeg)) :: r) S)) none
    | _ => none
  | .aaload => match st with
    | .inl j :: .inr (.inr q) :: r => cond (Nat.beq (z_aK q.1) 5) (cond (z_oob j (z_aN q.1 q.2)) none (κ (pc + 1) ls (.inr (.inr (z_re md S q.1 q.2 j.toNatClampNeg)) :: r) S)) none
    | _ => none
  | .iastore => match st with
    | .inl v :: .inl j :: .inr (.inr q) :: r => cond (Nat.beq (z_aK q.1) 1) (cond (z_oob j (z_aN q.1 q.2)) none (κ (pc + 1) ls r (z_sI S q.1 q.2 j.toNatClampNeg v))) none
    | _ => none
  | .bastore => match st with
    | .inl v :: .inl j :: .inr (.inr q) :: r => cond (Nat.beq (z_aK q.1) 2) (cond (z_oob j (z_aN q.1 q.2)) none (κ (pc + 1) ls r (z_sI S q.1 q.2 j.toNatClampNeg (vp_nar .boolean v))))
      (cond (Nat.beq (z_aK q.1) 3) (cond (z_oob j (z_aN q.1 q.2)) none (κ (pc + 1) ls r (z_sI S q.1 q.2 j.toNatClampNeg (vp_nar .byte v)))) none)
    | _ => none
  | .lastore => match st with
    | .inr (.inl v) :: .inl j :: .inr (.inr q) :: r => cond (Nat.beq (z_aK q.1) 4) (cond (z_oob j (z_aN q.1 q.2)) none (κ (pc + 1) ls r (z_sL S q.1 q.2 j.toNatClampNeg v))) none
    | _ => none
  | .aastore => match st with
    | .inr (.inr v) :: .inl j :: .inr (.inr q) :: r => cond md none (cond (Nat.beq (z_aK q.1) 5 && Nat.beq v.1 (z_eT q.1)) (cond (z_oob j (z_aN q.1 q.2)) none (κ (pc + 1) ls r (z_sR S q.1 q.2 j.toNatClampNeg v))) none)
    | _ => none
  | .arraylength => match st with
    | .inr (.inr q) :: r => cond (Nat.beq q.1 90)
      (match sc with | some (L, _) => κ (pc + 1) ls (.inl (Int32.ofNat L) :: r) S | none => none)
      (cond (Nat.beq (z_aK q.1) 0) none (κ (pc + 1) ls (.inl (Int32.ofNat (z_aN q.1 q.2)) :: r) S))
    | _ => none
  | .new _ => cond (!md && Nat.beq (z_ord.getD S.2.2.2 (0, 0)).1 a) (κ (pc + 3) ls (.inr (.inr (z_ord.getD S.2.2.2 (0, 0))) :: st) (z_rst S (z_ord.getD S.2.2.2 (0, 0)).1 (z_ord.getD S.2.2.2 (0, 0)).2)) none
  | .newarray _ => match st with
    | .inl j :: r => cond (!md && Nat.beq (z_aK (z_ord.getD S.2.2.2 (0, 0)).1) a) (if j = Int32.ofNat (z_aN (z_ord.getD S.2.2.2 (0, 0)).1 (z_ord.getD S.2.2.2 (0, 0)).2) then κ (pc + 2) ls (.inr (.inr (z_ord.getD S.2.2.2 (0, 0))) :: r) (z_rst S (z_ord.getD S.2.2.2 (0, 0)).1 (z_ord.getD S.2.2.2 (0, 0)).2) else none) none
    | _ => none
  | .anewarray _ => match st with
    | .inl j :: r => cond (!md && (Nat.beq (z_aK (z_ord.getD S.2.2.2 (0, 0)).1) 5 && Nat.beq (z_eT (z_ord.getD S.2.2.2 (0, 0)).1) a)) (if j = Int32.ofNat (z_aN (z_ord.getD S.2.2.2 (0, 0)).1 (z_ord.getD S.2.2.2 (0, 0)).2) then κ (pc + 3) ls (.inr (.inr (z_ord.getD S.2.2.2 (0, 0))) :: r) (z_rst S (z_ord.getD S.2.2.2 (0, 0)).1 (z_ord.getD S.2.2.2 (0, 0)).2) else none) none
    | _ => none
  | _ => none
/-- the calls that are rows of the kit: 1000 Object(), 1001 Math.max, 1002 Math.min, 1003 System.arraycopy -/
def z_bi {ρ : Type} (a : Nat) (pc : Nat) (ls : z_Lc) (st : List z_AV) (S : z_Mem) (κ : Nat → z_Lc → List z_AV → z_Mem → Option ρ) : Option ρ :=
  match a with
  | 1000 => match st with | .inr (.inr q) :: r => cond (Nat.beq q.1 0 || Nat.ble 9 (z_cat r)) none (κ (pc + 3) ls r S) | _ => none
  | 1001 => match st with | .inl y :: .inl w :: r => cond (Nat.ble 9 (z_cat r)) none (κ (pc + 3) ls (.inl (if w < y then y else w) :: r) S) | _ => none
  | 1002 => match st with | .inl y :: .inl w :: r => cond (Nat.ble 9 (z_cat r)) none (κ (pc + 3) ls (.inl (if y < w then y else w) :: r) S) | _ => none
  | 1003 => match st with
    | .inl n :: .inl dp :: .inr (.inr q2) :: .inl sp :: .inr (.inr q) :: r =>
      cond (Nat.ble 9 (z_cat r)) none (cond (z_rng sp n (z_aN q.1 q.2) && z_rng dp n (z_aN q2.1 q2.2))
        (cond (Nat.beq (z_aK q.1) 1 && Nat.beq (z_aK q2.1) 1) (κ (pc + 3) ls r (z_acI S q.1 q.2 sp.toNatClampNeg q2.1 q2.2 dp.toNatClampNeg n.toNatClampNeg))
          (cond (Nat.beq (z_aK q.1) 4 && Nat.beq (z_aK q2.1) 4) (κ (pc + 3) ls r (z_acL S q.1 q.2 sp.toNatClampNeg q2.1 q2.2 dp.toNatClampNeg n.toNatClampNeg)) none)) none)
    | _ => none
  | _ => none
abbrev z_Ex : Type := Nat → List z_AV → z_Mem → Option (Option z_AV × z_Mem)
def z_rV {ρ : Type} (o : Option (Option z_AV × z_Mem)) (f : z_Mem → Option ρ) : Option ρ := match o with | some (none, S) => f S | _ => none
def z_rI {ρ : Type} (o : Option (Option z_AV × z_Mem)) (f : Int32 → z_Mem → Option ρ) : Option ρ := match o with | some (some (.inl x), S) => f x S | _ => none
def z_rL {ρ : Type} (o : Option (Option z_AV × z_Mem)) (f : Int64 → z_Mem → Option ρ) : Option ρ := match o with | some (some (.inr (.inl x)), S) => f x S | _ => none
def z_tk : Nat → List z_AV → List z_AV → Option (List z_AV × List z_AV)
  | 0, st, acc => some (acc, st)
  | _ + 1, [], _ => none
  | n + 1, v :: st, acc => z_tk n st (v :: acc)
def z_rcv (t : Nat) (as : List z_AV) : Bool := match as with
  | .inr (.inr q) :: _ => Nat.beq q.1 t || Nat.beq t 0
  | _ => Nat.beq t 0
/-- a call: a the method, b how many arguments, c the receiver's tag (0: a static one), x 0 void, 1 int, 2 long -/
def z_call {ρ : Type} (ex : z_Ex) (a b c : Nat) (x : Int32) (pc : Nat) (ls : z_Lc) (st : List z_AV) (S : z_Mem) (κ : Nat → z_Lc → List z_AV → z_Mem → Option ρ) : Option ρ :=
  match z_tk b st [] with
  | none => none
  | some (as, r) => cond (z_rcv c as && Nat.ble (z_cat r) 8)
    (if x = 0 then z_rV (ex a as S) (fun S' => κ (pc + 3) ls r S') else if x = 1 then z_rI (ex a as S) (fun v S' => κ (pc + 3) ls (.inl v :: r) S') else z_rL (ex a as S) (fun v S' => κ (pc + 3) ls (.inr (.inl v) :: r) S')) none
def z_lk : List z_Op → Nat → Option (Instr × (Nat × (Nat × (Nat × (Nat × (Int32 × List (Int32 × Nat)))))))
  | [], _ => none
  | q :: r, pc => cond (Nat.beq q.1 pc) (some q.2) (z_lk r pc)
def z_cut : List (Nat × List Bool) → Nat → Option (List Bool)
  | [], _ => none
  | q :: r, pc => cond (Nat.beq q.1 pc) (some q.2) (z_cut r pc)
def z_msk : List Bool → z_Lc → z_Lc
  | b :: bs, v :: vs => cond b v none :: z_msk bs vs
  | _, vs => vs
def z_go {ρ : Type} (md : Bool) (sc : z_Sc) (ex : z_Ex) (bo : Bool) (ops : List z_Op) (cuts : List (Nat × List Bool)) (K : Nat → z_Lc → List z_AV → z_Mem → Option ρ) (Kr : Option z_AV → z_Mem → Option ρ) : Nat → Nat → z_Lc → List z_AV → z_Mem → Option ρ
  | 0, _, _, _, _ => none
  | k + 1, pc, ls, st, S => match z_lk ops pc with
    | none => none
    | some (ins, _, a, b, c, x, sw) =>
      match ins with
      | .ireturn => match st with | [.inl v] => (cond bo (if v &&& 1 = v then Kr (some (.inl v)) S else none) (Kr (some (.inl v)) S)) | _ => none
      | .lreturn => match st with | [.inr (.inl v)] => Kr (some (.inr (.inl v))) S | _ => none
      | .return_ => match st with | [] => Kr none S | _ => none
      | .invokevirtual _ => z_call ex a b c x pc ls st S (fun pc' ls' st' S' => match z_cut cuts pc' with | some mq => K pc' (z_msk mq ls') st' S' | none => z_go md sc ex bo ops cuts K Kr k pc' ls' st' S')
      | .invokestatic _ => cond (Nat.ble 1000 a) (z_bi a pc ls st S (fun pc' ls' st' S' => match z_cut cuts pc' with | some mq => K pc' (z_msk mq ls') st' S' | none => z_go md sc ex bo ops cuts K Kr k pc' ls' st' S'))
          (z_call ex a b c x pc ls st S (fun pc' ls' st' S' => match z_cut cuts pc' with | some mq => K pc' (z_msk mq ls') st' S' | none => z_go md sc ex bo ops cuts K Kr k pc' ls' st' S'))
      | .invokespecial _ => cond (Nat.ble 1000 a) (z_bi a pc ls st S (fun pc' ls' st' S' => match z_cut cuts pc' with | some mq => K pc' (z_msk mq ls') st' S' | none => z_go md sc ex bo ops cuts K Kr k pc' ls' st' S'))
          (z_call ex a b c x pc ls st S (fun pc' ls' st' S' => match z_cut cuts pc' with | some mq => K pc' (z_msk mq ls') st' S' | none => z_go md sc ex bo ops cuts K Kr k pc' ls' st' S'))
      | _ => z_stp md sc ins a b c x sw pc ls st S (fun pc' ls' st' S' => match z_cut cuts pc' with | some mq => K pc' (z_msk mq ls') st' S' | none => z_go md sc ex bo ops cuts K Kr k pc' ls' st' S')
def z_run (md : Bool) (ex : z_Ex) (bo : Bool) (ops : List z_Op) (cuts : List (Nat × List Bool)) : Nat → Nat → z_Lc → List z_AV → z_Mem → Option (Option z_AV × z_Mem)
  | 0, _, _, _, _ => none
  | n + 1, pc, ls, st, S => z_go md none ex bo ops cuts (fun pc' ls' st' S' => z_run md ex bo ops cuts n pc' ls' st' S') (fun r S' => some (r, S')) 2000 pc ls st S
def z_ent : Nat → List z_AV → z_Lc
  | n, [] => List.replicate n none
  | n, .inl v :: r => some (.inl v) :: z_ent (n - 1) r
  | n, .inr (.inl v) :: r => some (.inr (.inl v)) :: none :: z_ent (n - 2) r
  | n, .inr (.inr v) :: r => some (.inr (.inr v)) :: z_ent (n - 1) r
/-- a method's row: name, code, locals, what it returns, boolean or not, instructions, cuts, the receiver's tag (0: static), how many arguments -/
abbrev z_Mt : Type := MethodName × (ByteArray × (Nat × (Option FieldType × (Bool × (List z_Op × (List (Nat × List Bool) × (Nat × Nat)))))))
def z_exe (mt : List z_Mt) (md : Bool) : Nat → z_Ex
  | 0 => fun _ _ _ => none
  | d + 1 => fun j as S => match mt[j]? with
    | none => none
    | some q => cond (Nat.beq (z_ent q.2.2.1 as).length q.2.2.1) (z_run md (z_exe mt md d) q.2.2.2.2.1 q.2.2.2.2.2.1 q.2.2.2.2.2.2.1 1000000 0 (z_ent q.2.2.1 as) [] S) none
end
section
def zc_X0_init : List (Nat × List Bool) := []
def zo_X0_init : List z_Op := [(0, .aload_n 0, 1, 0, 0, 0, 0, []),
  (1, .invokespecial 3, 3, 1000, 1, 0, 0, []),
  (4, .aload_n 0, 1, 0, 0, 0, 0, []),
  (5, .bipush 20, 2, 0, 0, 0, 20, []),
  (7, .newarray .int, 2, 1, 0, 0, 0, []),
  (9, .putfield 9, 3, 1, 0, 0, 0, []),
  (12, .aload_n 0, 1, 0, 0, 0, 0, []),
  (13, .new 15, 3, 2, 0, 0, 0, []),
  (16, .dup, 1, 0, 0, 0, 0, []),
  (17, .iconst 0, 1, 0, 0, 0, 0, []),
  (18, .invokespecial 17, 3, 8, 2, 2, 0, []),
  (21, .putfield 20, 3, 1, 2, 0, 0, []),
  (24, .return_, 1, 0, 0, 0, 0, [])]
def zc_X0_forget : List (Nat × List Bool) := []
def zo_X0_forget : List z_Op := [(0, .aload_n 0, 1, 0, 0, 0, 0, []),
  (1, .iconst 0, 1, 0, 0, 0, 0, []),
  (2, .putfield 24, 3, 1, 1, 0, 0, []),
  (5, .return_, 1, 0, 0, 0, 0, [])]
def zc_X0_kept : List (Nat × List Bool) := []
def zo_X0_kept : List z_Op := [(0, .aload_n 0, 1, 0, 0, 0, 0, []),
  (1, .getfield 24, 3, 1, 1, 0, 0, []),
  (4, .bipush 20, 2, 0, 0, 0, 20, []),
  (6, .invokestatic 28, 3, 1002, 2, 0, 0, []),
  (9, .ireturn, 1, 0, 0, 0, 0, [])]
def zc_X0_run : List (Nat × List Bool) := []
def zo_X0_run : List z_Op := [(0, .aload_n 0, 1, 0, 0, 0, 0, []),
  (1, .aload_n 1, 1, 1, 0, 0, 0, []),
  (2, .putfield 20, 3, 1, 2, 0, 0, []),
  (5, .iload_n 2, 1, 2, 0, 0, 0, []),
  (6, .tableswitch 65 0 2 #[26, 39, 52], 26, 71, 0, 0, 0, [(0, 32), (1, 45), (2, 58)]),
  (32, .aload_n 0, 1, 0, 0, 0, 0, []),
  (33, .aload_n 0, 1, 0, 0, 0, 0, []),
  (34, .getfield 20, 3, 1, 2, 0, 0, []),
  (37, .getfield 34, 3, 2, 1, 0, 0, []),
  (40, .iload_n 3, 1, 3, 0, 0, 0, []),
  (41, .invokevirtual 37, 3, 5, 3, 1, 1, []),
  (44, .ireturn, 1, 0, 0, 0, 0, []),
  (45, .aload_n 0, 1, 0, 0, 0, 0, []),
  (46, .aload_n 0, 1, 0, 0, 0, 0, []),
  (47, .getfield 20, 3, 1, 2, 0, 0, []),
  (50, .getfield 34, 3, 2, 1, 0, 0, []),
  (53, .iload_n 3, 1, 3, 0, 0, 0, []),
  (54, .invokevirtual 40, 3, 6, 3, 1, 1, []),
  (57, .ireturn, 1, 0, 0, 0, 0, []),
  (58, .aload_n 0, 1, 0, 0, 0, 0, []),
  (59, .aload_n 0, 1, 0, 0, 0, 0, []),
  (60, .getfield 20, 3, 1, 2, 0, 0, []),
  (63, .getfield 34, 3, 2, 1, 0, 0, []),
  (66, .iload_n 3, 1, 3, 0, 0, 0, []),
  (67, .invokevirtual 43, 3, 7, 3, 1, 1, []),
  (70, .ireturn, 1, 0, 0, 0, 0, []),
  (71, .iconst 0, 1, 0, 0, 0, 0, []),
  (72, .ireturn, 1, 0, 0, 0, 0, [])]
def zc_X0_note : List (Nat × List Bool) := []
def zo_X0_note : List z_Op := [(0, .aload_n 0, 1, 0, 0, 0, 0, []),
  (1, .getfield 24, 3, 1, 1, 0, 0, []),
  (4, .bipush 20, 2, 0, 0, 0, 20, []),
  (6, .if_icmp .ge 13, 3, 19, 0, 0, 0, []),
  (9, .aload_n 0, 1, 0, 0, 0, 0, []),
  (10, .getfield 9, 3, 1, 0, 0, 0, []),
  (13, .aload_n 0, 1, 0, 0, 0, 0, []),
  (14, .getfield 24, 3, 1, 1, 0, 0, []),
  (17, .iload_n 1, 1, 1, 0, 0, 0, []),
  (18, .iastore, 1, 0, 0, 0, 0, []),
  (19, .aload_n 0, 1, 0, 0, 0, 0, []),
  (20, .dup, 1, 0, 0, 0, 0, []),
  (21, .getfield 24, 3, 1, 1, 0, 0, []),
  (24, .iconst 1, 1, 0, 0, 0, 1, []),
  (25, .iadd, 1, 0, 0, 0, 0, []),
  (26, .putfield 24, 3, 1, 1, 0, 0, []),
  (29, .return_, 1, 0, 0, 0, 0, [])]
def zc_X0_drips : List (Nat × List Bool) := []
def zo_X0_drips : List z_Op := [(0, .iload_n 1, 1, 1, 0, 0, 0, []),
  (1, .tableswitch 119 0 6 #[103, 119, 43, 119, 61, 119, 78], 43, 120, 0, 0, 0, [(0, 104), (1, 120), (2, 44), (3, 120), (4, 62), (5, 120), (6, 79)]),
  (44, .aload_n 0, 1, 0, 0, 0, 0, []),
  (45, .bipush 30, 2, 0, 0, 0, 30, []),
  (47, .invokevirtual 46, 3, 4, 2, 1, 0, []),
  (50, .aload_n 0, 1, 0, 0, 0, 0, []),
  (51, .iconst 2, 1, 0, 0, 0, 2, []),
  (52, .invokestatic 49, 3, 41, 1, 0, 1, []),
  (55, .iload_n 2, 1, 2, 0, 0, 0, []),
  (56, .iconst 3, 1, 0, 0, 0, 3, []),
  (57, .imul, 1, 0, 0, 0, 0, []),
  (58, .invokevirtual 37, 3, 5, 3, 1, 1, []),
  (61, .ireturn, 1, 0, 0, 0, 0, []),
  (62, .aload_n 0, 1, 0, 0, 0, 0, []),
  (63, .bipush 50, 2, 0, 0, 0, 50, []),
  (65, .invokevirtual 46, 3, 4, 2, 1, 0, []),
  (68, .aload_n 0, 1, 0, 0, 0, 0, []),
  (69, .iconst 4, 1, 0, 0, 0, 4, []),
  (70, .invokestatic 49, 3, 41, 1, 0, 1, []),
  (73, .iload_n 2, 1, 2, 0, 0, 0, []),
  (74, .invokevirtual 37, 3, 5, 3, 1, 1, []),
  (77, .ineg, 1, 0, 0, 0, 0, []),
  (78, .ireturn, 1, 0, 0, 0, 0, []),
  (79, .aload_n 0, 1, 0, 0, 0, 0, []),
  (80, .bipush 71, 2, 0, 0, 0, 71, []),
  (82, .invokevirtual 46, 3, 4, 2, 1, 0, []),
  (85, .aload_n 0, 1, 0, 0, 0, 0, []),
  (86, .bipush 6, 2, 0, 0, 0, 6, []),
  (88, .invokestatic 49, 3, 41, 1, 0, 1, []),
  (91, .iload_n 2, 1, 2, 0, 0, 0, []),
  (92, .invokevirtual 37, 3, 5, 3, 1, 1, []),
  (95, .aload_n 0, 1, 0, 0, 0, 0, []),
  (96, .getfield 20, 3, 1, 2, 0, 0, []),
  (99, .getfield 55, 3, 2, 2, 0, 0, []),
  (102, .ixor, 1, 0, 0, 0, 0, []),
  (103, .ireturn, 1, 0, 0, 0, 0, []),
  (104, .aload_n 0, 1, 0, 0, 0, 0, []),
  (105, .bipush 10, 2, 0, 0, 0, 10, []),
  (107, .invokevirtual 46, 3, 4, 2, 1, 0, []),
  (110, .iload_n 2, 1, 2, 0, 0, 0, []),
  (111, .aload_n 0, 1, 0, 0, 0, 0, []),
  (112, .getfield 20, 3, 1, 2, 0, 0, []),
  (115, .getfield 58, 3, 2, 0, 0, 0, []),
  (118, .iadd, 1, 0, 0, 0, 0, []),
  (119, .ireturn, 1, 0, 0, 0, 0, []),
  (120, .aload_n 0, 1, 0, 0, 0, 0, []),
  (121, .iload_n 1, 1, 1, 0, 0, 0, []),
  (122, .invokestatic 49, 3, 41, 1, 0, 1, []),
  (125, .iload_n 2, 1, 2, 0, 0, 0, []),
  (126, .invokevirtual 37, 3, 5, 3, 1, 1, []),
  (129, .ireturn, 1, 0, 0, 0, 0, [])]
def zc_X0_steams : List (Nat × List Bool) := []
def zo_X0_steams : List z_Op := [(0, .iload_n 1, 1, 1, 0, 0, 0, []),
  (1, .tableswitch 135 0 6 #[108, 43, 135, 135, 62, 135, 80], 43, 136, 0, 0, 0, [(0, 109), (1, 44), (2, 136), (3, 136), (4, 63), (5, 136), (6, 81)]),
  (44, .aload_n 0, 1, 0, 0, 0, 0, []),
  (45, .bipush 20, 2, 0, 0, 0, 20, []),
  (47, .invokevirtual 46, 3, 4, 2, 1, 0, []),
  (50, .aload_n 0, 1, 0, 0, 0, 0, []),
  (51, .iconst 1, 1, 0, 0, 0, 1, []),
  (52, .invokestatic 49, 3, 41, 1, 0, 1, []),
  (55, .iload_n 2, 1, 2, 0, 0, 0, []),
  (56, .invokevirtual 40, 3, 6, 3, 1, 1, []),
  (59, .bipush 6, 2, 0, 0, 0, 6, []),
  (61, .ixor, 1, 0, 0, 0, 0, []),
  (62, .ireturn, 1, 0, 0, 0, 0, []),
  (63, .aload_n 0, 1, 0, 0, 0, 0, []),
  (64, .bipush 51, 2, 0, 0, 0, 51, []),
  (66, .invokevirtual 46, 3, 4, 2, 1, 0, []),
  (69, .aload_n 0, 1, 0, 0, 0, 0, []),
  (70, .iconst 4, 1, 0, 0, 0, 4, []),
  (71, .invokestatic 49, 3, 41, 1, 0, 1, []),
  (74, .iload_n 2, 1, 2, 0, 0, 0, []),
  (75, .iconst 1, 1, 0, 0, 0, 1, []),
  (76, .iadd, 1, 0, 0, 0, 0, []),
  (77, .invokevirtual 40, 3, 6, 3, 1, 1, []),
  (80, .ireturn, 1, 0, 0, 0, 0, []),
  (81, .aload_n 0, 1, 0, 0, 0, 0, []),
  (82, .bipush 70, 2, 0, 0, 0, 70, []),
  (84, .invokevirtual 46, 3, 4, 2, 1, 0, []),
  (87, .aload_n 0, 1, 0, 0, 0, 0, []),
  (88, .bipush 6, 2, 0, 0, 0, 6, []),
  (90, .invokestatic 49, 3, 41, 1, 0, 1, []),
  (93, .iload_n 2, 1, 2, 0, 0, 0, []),
  (94, .invokevirtual 40, 3, 6, 3, 1, 1, []),
  (97, .aload_n 0, 1, 0, 0, 0, 0, []),
  (98, .bipush 6, 2, 0, 0, 0, 6, []),
  (100, .invokestatic 49, 3, 41, 1, 0, 1, []),
  (103, .iconst 2, 1, 0, 0, 0, 2, []),
  (104, .invokevirtual 37, 3, 5, 3, 1, 1, []),
  (107, .iadd, 1, 0, 0, 0, 0, []),
  (108, .ireturn, 1, 0, 0, 0, 0, []),
  (109, .aload_n 0, 1, 0, 0, 0, 0, []),
  (110, .bipush 11, 2, 0, 0, 0, 11, []),
  (112, .invokevirtual 46, 3, 4, 2, 1, 0, []),
  (115, .aload_n 0, 1, 0, 0, 0, 0, []),
  (116, .aload_n 0, 1, 0, 0, 0, 0, []),
  (117, .getfield 20, 3, 1, 2, 0, 0, []),
  (120, .getfield 34, 3, 2, 1, 0, 0, []),
  (123, .iload_n 2, 1, 2, 0, 0, 0, []),
  (124, .invokevirtual 37, 3, 5, 3, 1, 1, []),
  (127, .aload_n 0, 1, 0, 0, 0, 0, []),
  (128, .getfield 20, 3, 1, 2, 0, 0, []),
  (131, .getfield 55, 3, 2, 2, 0, 0, []),
  (134, .isub, 1, 0, 0, 0, 0, []),
  (135, .ireturn, 1, 0, 0, 0, 0, []),
  (136, .aload_n 0, 1, 0, 0, 0, 0, []),
  (137, .iload_n 1, 1, 1, 0, 0, 0, []),
  (138, .invokestatic 49, 3, 41, 1, 0, 1, []),
  (141, .iload_n 2, 1, 2, 0, 0, 0, []),
  (142, .invokevirtual 40, 3, 6, 3, 1, 1, []),
  (145, .ireturn, 1, 0, 0, 0, 0, [])]
def zc_X0_tells : List (Nat × List Bool) := []
def zo_X0_tells : List z_Op := [(0, .iload_n 1, 1, 1, 0, 0, 0, []),
  (1, .lookupswitch 109 #[(0, 88), (3, 35), (5, 64)], 35, 110, 0, 0, 0, [((0), 89), ((3), 36), ((5), 65)]),
  (36, .aload_n 0, 1, 0, 0, 0, 0, []),
  (37, .bipush 40, 2, 0, 0, 0, 40, []),
  (39, .invokevirtual 46, 3, 4, 2, 1, 0, []),
  (42, .aload_n 0, 1, 0, 0, 0, 0, []),
  (43, .iconst 3, 1, 0, 0, 0, 3, []),
  (44, .invokestatic 49, 3, 41, 1, 0, 1, []),
  (47, .iload_n 2, 1, 2, 0, 0, 0, []),
  (48, .invokevirtual 43, 3, 7, 3, 1, 1, []),
  (51, .aload_n 0, 1, 0, 0, 0, 0, []),
  (52, .aload_n 0, 1, 0, 0, 0, 0, []),
  (53, .getfield 20, 3, 1, 2, 0, 0, []),
  (56, .getfield 34, 3, 2, 1, 0, 0, []),
  (59, .iconst 1, 1, 0, 0, 0, 1, []),
  (60, .invokevirtual 40, 3, 6, 3, 1, 1, []),
  (63, .iadd, 1, 0, 0, 0, 0, []),
  (64, .ireturn, 1, 0, 0, 0, 0, []),
  (65, .aload_n 0, 1, 0, 0, 0, 0, []),
  (66, .bipush 60, 2, 0, 0, 0, 60, []),
  (68, .invokevirtual 46, 3, 4, 2, 1, 0, []),
  (71, .aload_n 0, 1, 0, 0, 0, 0, []),
  (72, .iconst 5, 1, 0, 0, 0, 5, []),
  (73, .invokestatic 49, 3, 41, 1, 0, 1, []),
  (76, .iload_n 2, 1, 2, 0, 0, 0, []),
  (77, .aload_n 0, 1, 0, 0, 0, 0, []),
  (78, .getfield 20, 3, 1, 2, 0, 0, []),
  (81, .getfield 58, 3, 2, 0, 0, 0, []),
  (84, .isub, 1, 0, 0, 0, 0, []),
  (85, .invokevirtual 43, 3, 7, 3, 1, 1, []),
  (88, .ireturn, 1, 0, 0, 0, 0, []),
  (89, .aload_n 0, 1, 0, 0, 0, 0, []),
  (90, .bipush 12, 2, 0, 0, 0, 12, []),
  (92, .invokevirtual 46, 3, 4, 2, 1, 0, []),
  (95, .aload_n 0, 1, 0, 0, 0, 0, []),
  (96, .aload_n 0, 1, 0, 0, 0, 0, []),
  (97, .getfield 20, 3, 1, 2, 0, 0, []),
  (100, .getfield 34, 3, 2, 1, 0, 0, []),
  (103, .iload_n 2, 1, 2, 0, 0, 0, []),
  (104, .invokevirtual 40, 3, 6, 3, 1, 1, []),
  (107, .iconst 2, 1, 0, 0, 0, 2, []),
  (108, .imul, 1, 0, 0, 0, 0, []),
  (109, .ireturn, 1, 0, 0, 0, 0, []),
  (110, .aload_n 0, 1, 0, 0, 0, 0, []),
  (111, .iload_n 1, 1, 1, 0, 0, 0, []),
  (112, .invokestatic 49, 3, 41, 1, 0, 1, []),
  (115, .iload_n 2, 1, 2, 0, 0, 0, []),
  (116, .invokevirtual 43, 3, 7, 3, 1, 1, []),
  (119, .ireturn, 1, 0, 0, 0, 0, [])]
def zc_X1_init : List (Nat × List Bool) := []
def zo_X1_init : List z_Op := [(0, .aload_n 0, 1, 0, 0, 0, 0, []),
  (1, .invokespecial 3, 3, 1000, 1, 0, 0, []),
  (4, .aload_n 0, 1, 0, 0, 0, 0, []),
  (5, .iconst 4, 1, 0, 0, 0, 4, []),
  (6, .newarray .int, 2, 1, 0, 0, 0, []),
  (8, .putfield 9, 3, 2, 7, 0, 0, []),
  (11, .aload_n 0, 1, 0, 0, 0, 0, []),
  (12, .iload_n 1, 1, 1, 0, 0, 0, []),
  (13, .putfield 15, 3, 2, 0, 0, 0, []),
  (16, .return_, 1, 0, 0, 0, 0, [])]
def zc_X1_become : List (Nat × List Bool) := []
def zo_X1_become : List z_Op := [(0, .aload_n 0, 1, 0, 0, 0, 0, []),
  (1, .iload_n 1, 1, 1, 0, 0, 0, []),
  (2, .putfield 19, 3, 2, 1, 0, 0, []),
  (5, .aload_n 0, 1, 0, 0, 0, 0, []),
  (6, .iload_n 2, 1, 2, 0, 0, 0, []),
  (7, .putfield 22, 3, 2, 2, 0, 0, []),
  (10, .aload_n 0, 1, 0, 0, 0, 0, []),
  (11, .iload_n 3, 1, 3, 0, 0, 0, []),
  (12, .putfield 25, 3, 2, 3, 0, 0, []),
  (15, .aload_n 0, 1, 0, 0, 0, 0, []),
  (16, .iload 4, 2, 4, 0, 0, 0, []),
  (18, .putfield 28, 3, 2, 4, 0, 0, []),
  (21, .aload_n 0, 1, 0, 0, 0, 0, []),
  (22, .iconst 0, 1, 0, 0, 0, 0, []),
  (23, .putfield 31, 3, 2, 5, 0, 0, []),
  (26, .aload_n 0, 1, 0, 0, 0, 0, []),
  (27, .iconst 0, 1, 0, 0, 0, 0, []),
  (28, .putfield 35, 3, 2, 6, 0, 0, []),
  (31, .aload_n 0, 1, 0, 0, 0, 0, []),
  (32, .getfield 9, 3, 2, 7, 0, 0, []),
  (35, .iconst 0, 1, 0, 0, 0, 0, []),
  (36, .invokestatic 38, 3, 230, 2, 0, 0, []),
  (39, .return_, 1, 0, 0, 0, 0, [])]
def zc_X1_copyFrom : List (Nat × List Bool) := []
def zo_X1_copyFrom : List z_Op := [(0, .aload_n 0, 1, 0, 0, 0, 0, []),
  (1, .aload_n 1, 1, 1, 0, 0, 0, []),
  (2, .getfield 15, 3, 2, 0, 0, 0, []),
  (5, .putfield 15, 3, 2, 0, 0, 0, []),
  (8, .aload_n 0, 1, 0, 0, 0, 0, []),
  (9, .aload_n 1, 1, 1, 0, 0, 0, []),
  (10, .getfield 19, 3, 2, 1, 0, 0, []),
  (13, .putfield 19, 3, 2, 1, 0, 0, []),
  (16, .aload_n 0, 1, 0, 0, 0, 0, []),
  (17, .aload_n 1, 1, 1, 0, 0, 0, []),
  (18, .getfield 22, 3, 2, 2, 0, 0, []),
  (21, .putfield 22, 3, 2, 2, 0, 0, []),
  (24, .aload_n 0, 1, 0, 0, 0, 0, []),
  (25, .aload_n 1, 1, 1, 0, 0, 0, []),
  (26, .getfield 25, 3, 2, 3, 0, 0, []),
  (29, .putfield 25, 3, 2, 3, 0, 0, []),
  (32, .aload_n 0, 1, 0, 0, 0, 0, []),
  (33, .aload_n 1, 1, 1, 0, 0, 0, []),
  (34, .getfield 28, 3, 2, 4, 0, 0, []),
  (37, .putfield 28, 3, 2, 4, 0, 0, []),
  (40, .aload_n 0, 1, 0, 0, 0, 0, []),
  (41, .aload_n 1, 1, 1, 0, 0, 0, []),
  (42, .getfield 31, 3, 2, 5, 0, 0, []),
  (45, .putfield 31, 3, 2, 5, 0, 0, []),
  (48, .aload_n 0, 1, 0, 0, 0, 0, []),
  (49, .aload_n 1, 1, 1, 0, 0, 0, []),
  (50, .getfield 35, 3, 2, 6, 0, 0, []),
  (53, .putfield 35, 3, 2, 6, 0, 0, []),
  (56, .aload_n 1, 1, 1, 0, 0, 0, []),
  (57, .getfield 9, 3, 2, 7, 0, 0, []),
  (60, .iconst 0, 1, 0, 0, 0, 0, []),
  (61, .aload_n 0, 1, 0, 0, 0, 0, []),
  (62, .getfield 9, 3, 2, 7, 0, 0, []),
  (65, .iconst 0, 1, 0, 0, 0, 0, []),
  (66, .iconst 4, 1, 0, 0, 0, 4, []),
  (67, .invokestatic 44, 3, 1003, 5, 0, 0, []),
  (70, .return_, 1, 0, 0, 0, 0, [])]
def zc_X1_driesAt : List (Nat × List Bool) := []
def zo_X1_driesAt : List z_Op := [(0, .aload_n 2, 1, 2, 0, 0, 0, []),
  (1, .iload_n 1, 1, 1, 0, 0, 0, []),
  (2, .invokevirtual 50, 3, 68, 2, 9, 1, []),
  (5, .aload_n 2, 1, 2, 0, 0, 0, []),
  (6, .getfield 56, 3, 9, 3, 0, 0, []),
  (9, .aload_n 0, 1, 0, 0, 0, 0, []),
  (10, .iload_n 1, 1, 1, 0, 0, 0, []),
  (11, .aload_n 2, 1, 2, 0, 0, 0, []),
  (12, .getfield 60, 3, 9, 2, 0, 0, []),
  (15, .invokevirtual 63, 3, 25, 4, 4, 1, []),
  (18, .iadd, 1, 0, 0, 0, 0, []),
  (19, .istore_n 3, 1, 3, 0, 0, 0, []),
  (20, .aload_n 0, 1, 0, 0, 0, 0, []),
  (21, .getfield 19, 3, 2, 1, 0, 0, []),
  (24, .tableswitch 140 1 6 #[40, 51, 59, 69, 95, 118], 40, 164, 0, 0, 0, [(1, 64), (2, 75), (3, 83), (4, 93), (5, 119), (6, 142)]),
  (64, .iconst 0, 1, 0, 0, 0, 0, []),
  (65, .iload_n 3, 1, 3, 0, 0, 0, []),
  (66, .iload_n 1, 1, 1, 0, 0, 0, []),
  (67, .aload_n 2, 1, 2, 0, 0, 0, []),
  (68, .invokestatic 69, 3, 12, 3, 0, 1, []),
  (71, .invokestatic 73, 3, 1001, 2, 0, 0, []),
  (74, .ireturn, 1, 0, 0, 0, 0, []),
  (75, .iconst 0, 1, 0, 0, 0, 0, []),
  (76, .iload_n 3, 1, 3, 0, 0, 0, []),
  (77, .iconst 2, 1, 0, 0, 0, 2, []),
  (78, .idiv, 1, 0, 0, 0, 0, []),
  (79, .invokestatic 73, 3, 1001, 2, 0, 0, []),
  (82, .ireturn, 1, 0, 0, 0, 0, []),
  (83, .iconst 0, 1, 0, 0, 0, 0, []),
  (84, .aload_n 0, 1, 0, 0, 0, 0, []),
  (85, .iload_n 3, 1, 3, 0, 0, 0, []),
  (86, .invokevirtual 79, 3, 13, 2, 2, 1, []),
  (89, .invokestatic 73, 3, 1001, 2, 0, 0, []),
  (92, .ireturn, 1, 0, 0, 0, 0, []),
  (93, .iconst 0, 1, 0, 0, 0, 0, []),
  (94, .iload_n 3, 1, 3, 0, 0, 0, []),
  (95, .iload_n 1, 1, 1, 0, 0, 0, []),
  (96, .aload_n 2, 1, 2, 0, 0, 0, []),
  (97, .invokestatic 69, 3, 12, 3, 0, 1, []),
  (100, .aload_n 2, 1, 2, 0, 0, 0, []),
  (101, .getfield 60, 3, 9, 2, 0, 0, []),
  (104, .iconst 4, 1, 0, 0, 0, 4, []),
  (105, .irem, 1, 0, 0, 0, 0, []),
  (106, .ifCond .ne 7, 3, 113, 0, 0, 0, []),
  (109, .iconst 2, 1, 0, 0, 0, 2, []),
  (110, .goto 4, 3, 114, 0, 0, 0, []),
  (113, .iconst 0, 1, 0, 0, 0, 0, []),
  (114, .iadd, 1, 0, 0, 0, 0, []),
  (115, .invokestatic 73, 3, 1001, 2, 0, 0, []),
  (118, .ireturn, 1, 0, 0, 0, 0, []),
  (119, .aload_n 0, 1, 0, 0, 0, 0, []),
  (120, .getfield 25, 3, 2, 3, 0, 0, []),
  (123, .aload_n 0, 1, 0, 0, 0, 0, []),
  (124, .getfield 22, 3, 2, 2, 0, 0, []),
  (127, .if_icmp .ge 7, 3, 134, 0, 0, 0, []),
  (130, .iconst 0, 1, 0, 0, 0, 0, []),
  (131, .goto 10, 3, 141, 0, 0, 0, []),
  (134, .iconst 0, 1, 0, 0, 0, 0, []),
  (135, .iload_n 3, 1, 3, 0, 0, 0, []),
  (136, .iconst 2, 1, 0, 0, 0, 2, []),
  (137, .idiv, 1, 0, 0, 0, 0, []),
  (138, .invokestatic 73, 3, 1001, 2, 0, 0, []),
  (141, .ireturn, 1, 0, 0, 0, 0, []),
  (142, .iconst 0, 1, 0, 0, 0, 0, []),
  (143, .aload_n 0, 1, 0, 0, 0, 0, []),
  (144, .iload_n 3, 1, 3, 0, 0, 0, []),
  (145, .invokevirtual 79, 3, 13, 2, 2, 1, []),
  (148, .aload_n 0, 1, 0, 0, 0, 0, []),
  (149, .getfield 9, 3, 2, 7, 0, 0, []),
  (152, .aload_n 2, 1, 2, 0, 0, 0, []),
  (153, .getfield 60, 3, 9, 2, 0, 0, []),
  (156, .iconst 4, 1, 0, 0, 0, 4, []),
  (157, .irem, 1, 0, 0, 0, 0, []),
  (158, .iaload, 1, 0, 0, 0, 0, []),
  (159, .iadd, 1, 0, 0, 0, 0, []),
  (160, .invokestatic 73, 3, 1001, 2, 0, 0, []),
  (163, .ireturn, 1, 0, 0, 0, 0, []),
  (164, .iconst 0, 1, 0, 0, 0, 0, []),
  (165, .iload_n 3, 1, 3, 0, 0, 0, []),
  (166, .invokestatic 73, 3, 1001, 2, 0, 0, []),
  (169, .ireturn, 1, 0, 0, 0, 0, [])]
def zc_X1_asLeather : List (Nat × List Bool) := []
def zo_X1_asLeather : List z_Op := [(0, .aload_n 2, 1, 2, 0, 0, 0, []),
  (1, .iload_n 1, 1, 1, 0, 0, 0, []),
  (2, .invokevirtual 50, 3, 68, 2, 9, 1, []),
  (5, .bipush 8, 2, 0, 0, 0, 8, []),
  (7, .if_icmp .le 9, 3, 16, 0, 0, 0, []),
  (10, .iload_n 0, 1, 0, 0, 0, 0, []),
  (11, .iconst 2, 1, 0, 0, 0, 2, []),
  (12, .idiv, 1, 0, 0, 0, 0, []),
  (13, .goto 4, 3, 17, 0, 0, 0, []),
  (16, .iload_n 0, 1, 0, 0, 0, 0, []),
  (17, .ireturn, 1, 0, 0, 0, 0, [])]
def zc_X1_asStuffed : List (Nat × List Bool) := []
def zo_X1_asStuffed : List z_Op := [(0, .aload_n 0, 1, 0, 0, 0, 0, []),
  (1, .getfield 25, 3, 2, 3, 0, 0, []),
  (4, .bipush 50, 2, 0, 0, 0, 50, []),
  (6, .if_icmp .lt 12, 3, 18, 0, 0, 0, []),
  (9, .iload_n 1, 1, 1, 0, 0, 0, []),
  (10, .aload_n 0, 1, 0, 0, 0, 0, []),
  (11, .getfield 22, 3, 2, 2, 0, 0, []),
  (14, .iadd, 1, 0, 0, 0, 0, []),
  (15, .goto 4, 3, 19, 0, 0, 0, []),
  (18, .iload_n 1, 1, 1, 0, 0, 0, []),
  (19, .ireturn, 1, 0, 0, 0, 0, [])]
def zc_X1_spoils : List (Nat × List Bool) := []
def zo_X1_spoils : List z_Op := [(0, .aload_n 1, 1, 1, 0, 0, 0, []),
  (1, .aload_n 0, 1, 0, 0, 0, 0, []),
  (2, .getfield 28, 3, 2, 4, 0, 0, []),
  (5, .invokevirtual 50, 3, 68, 2, 9, 1, []),
  (8, .istore_n 2, 1, 2, 0, 0, 0, []),
  (9, .aload_n 0, 1, 0, 0, 0, 0, []),
  (10, .getfield 19, 3, 2, 1, 0, 0, []),
  (13, .iconst 1, 1, 0, 0, 0, 1, []),
  (14, .if_icmp .ne 9, 3, 23, 0, 0, 0, []),
  (17, .iload_n 2, 1, 2, 0, 0, 0, []),
  (18, .bipush 8, 2, 0, 0, 0, 8, []),
  (20, .if_icmp .gt 22, 3, 42, 0, 0, 0, []),
  (23, .aload_n 0, 1, 0, 0, 0, 0, []),
  (24, .getfield 19, 3, 2, 1, 0, 0, []),
  (27, .iconst 4, 1, 0, 0, 0, 4, []),
  (28, .if_icmp .ne 18, 3, 46, 0, 0, 0, []),
  (31, .iload_n 2, 1, 2, 0, 0, 0, []),
  (32, .bipush 8, 2, 0, 0, 0, 8, []),
  (34, .aload_n 0, 1, 0, 0, 0, 0, []),
  (35, .getfield 22, 3, 2, 2, 0, 0, []),
  (38, .iadd, 1, 0, 0, 0, 0, []),
  (39, .if_icmp .le 7, 3, 46, 0, 0, 0, []),
  (42, .iconst 1, 1, 0, 0, 0, 1, []),
  (43, .goto 4, 3, 47, 0, 0, 0, []),
  (46, .iconst 0, 1, 0, 0, 0, 0, []),
  (47, .ireturn, 1, 0, 0, 0, 0, [])]
def zc_X1_letHourGo : List (Nat × List Bool) := []
def zo_X1_letHourGo : List z_Op := [(0, .aload_n 0, 1, 0, 0, 0, 0, []),
  (1, .getfield 31, 3, 2, 5, 0, 0, []),
  (4, .ifCond .eq 4, 3, 8, 0, 0, 0, []),
  (7, .return_, 1, 0, 0, 0, 0, []),
  (8, .aload_n 0, 1, 0, 0, 0, 0, []),
  (9, .aload_n 1, 1, 1, 0, 0, 0, []),
  (10, .invokevirtual 82, 3, 14, 2, 2, 1, []),
  (13, .ifCond .eq 13, 3, 26, 0, 0, 0, []),
  (16, .aload_n 0, 1, 0, 0, 0, 0, []),
  (17, .dup, 1, 0, 0, 0, 0, []),
  (18, .getfield 35, 3, 2, 6, 0, 0, []),
  (21, .iconst 1, 1, 0, 0, 0, 1, []),
  (22, .iadd, 1, 0, 0, 0, 0, []),
  (23, .putfield 35, 3, 2, 6, 0, 0, []),
  (26, .aload_n 0, 1, 0, 0, 0, 0, []),
  (27, .getfield 25, 3, 2, 3, 0, 0, []),
  (30, .ifCond .le 25, 3, 55, 0, 0, 0, []),
  (33, .aload_n 0, 1, 0, 0, 0, 0, []),
  (34, .iconst 0, 1, 0, 0, 0, 0, []),
  (35, .aload_n 0, 1, 0, 0, 0, 0, []),
  (36, .getfield 25, 3, 2, 3, 0, 0, []),
  (39, .aload_n 0, 1, 0, 0, 0, 0, []),
  (40, .aload_n 0, 1, 0, 0, 0, 0, []),
  (41, .getfield 28, 3, 2, 4, 0, 0, []),
  (44, .aload_n 1, 1, 1, 0, 0, 0, []),
  (45, .invokevirtual 86, 3, 11, 3, 2, 1, []),
  (48, .isub, 1, 0, 0, 0, 0, []),
  (49, .invokestatic 73, 3, 1001, 2, 0, 0, []),
  (52, .putfield 25, 3, 2, 3, 0, 0, []),
  (55, .return_, 1, 0, 0, 0, 0, [])]
def zc_X2_init : List (Nat × List Bool) := []
def zo_X2_init : List z_Op := [(0, .aload_n 0, 1, 0, 0, 0, 0, []),
  (1, .invokespecial 1, 3, 1000, 1, 0, 0, []),
  (4, .aload_n 0, 1, 0, 0, 0, 0, []),
  (5, .new 7, 3, 2, 0, 0, 0, []),
  (8, .dup, 1, 0, 0, 0, 0, []),
  (9, .iconst 0, 1, 0, 0, 0, 0, []),
  (10, .invokespecial 9, 3, 8, 2, 2, 0, []),
  (13, .putfield 12, 3, 3, 0, 0, 0, []),
  (16, .aload_n 0, 1, 0, 0, 0, 0, []),
  (17, .new 18, 3, 9, 0, 0, 0, []),
  (20, .dup, 1, 0, 0, 0, 0, []),
  (21, .aload_n 1, 1, 1, 0, 0, 0, []),
  (22, .invokespecial 20, 3, 66, 2, 9, 0, []),
  (25, .putfield 23, 3, 3, 1, 0, 0, []),
  (28, .return_, 1, 0, 0, 0, 0, [])]
def zc_X2_begin : List (Nat × List Bool) := []
def zo_X2_begin : List z_Op := [(0, .aload_n 0, 1, 0, 0, 0, 0, []),
  (1, .getfield 12, 3, 3, 0, 0, 0, []),
  (4, .aload_n 1, 1, 1, 0, 0, 0, []),
  (5, .invokevirtual 27, 3, 10, 2, 2, 0, []),
  (8, .aload_n 0, 1, 0, 0, 0, 0, []),
  (9, .getfield 23, 3, 3, 1, 0, 0, []),
  (12, .aload_n 2, 1, 2, 0, 0, 0, []),
  (13, .invokevirtual 31, 3, 67, 2, 9, 0, []),
  (16, .return_, 1, 0, 0, 0, 0, [])]
def zc_X2_letHourGo : List (Nat × List Bool) := []
def zo_X2_letHourGo : List z_Op := [(0, .aload_n 0, 1, 0, 0, 0, 0, []),
  (1, .getfield 12, 3, 3, 0, 0, 0, []),
  (4, .aload_n 0, 1, 0, 0, 0, 0, []),
  (5, .getfield 23, 3, 3, 1, 0, 0, []),
  (8, .invokevirtual 34, 3, 15, 2, 2, 0, []),
  (11, .aload_n 0, 1, 0, 0, 0, 0, []),
  (12, .getfield 23, 3, 3, 1, 0, 0, []),
  (15, .invokevirtual 37, 3, 70, 1, 9, 0, []),
  (18, .return_, 1, 0, 0, 0, 0, [])]
def zc_X2_wetBehind : List (Nat × List Bool) := [(18, [true, true, false, false, false, true])]
def zo_X2_wetBehind : List z_Op := [(0, .aload_n 0, 1, 0, 0, 0, 0, []),
  (1, .aload_n 2, 1, 2, 0, 0, 0, []),
  (2, .aload 4, 2, 4, 0, 0, 0, []),
  (4, .invokevirtual 39, 3, 17, 3, 3, 0, []),
  (7, .aload_n 0, 1, 0, 0, 0, 0, []),
  (8, .getfield 12, 3, 3, 0, 0, 0, []),
  (11, .iload_n 3, 1, 3, 0, 0, 0, []),
  (12, .putfield 43, 3, 2, 4, 0, 0, []),
  (15, .iconst 0, 1, 0, 0, 0, 0, []),
  (16, .istore 5, 2, 5, 0, 0, 0, []),
  (18, .iload 5, 2, 5, 0, 0, 0, []),
  (20, .iload_n 1, 1, 1, 0, 0, 0, []),
  (21, .if_icmp .ge 27, 3, 48, 0, 0, 0, []),
  (24, .aload_n 0, 1, 0, 0, 0, 0, []),
  (25, .getfield 12, 3, 3, 0, 0, 0, []),
  (28, .aload_n 0, 1, 0, 0, 0, 0, []),
  (29, .getfield 23, 3, 3, 1, 0, 0, []),
  (32, .invokevirtual 34, 3, 15, 2, 2, 0, []),
  (35, .aload_n 0, 1, 0, 0, 0, 0, []),
  (36, .getfield 23, 3, 3, 1, 0, 0, []),
  (39, .invokevirtual 37, 3, 70, 1, 9, 0, []),
  (42, .iinc 5 1, 3, 5, 0, 0, 1, []),
  (45, .goto (-27), 3, 18, 0, 0, 0, []),
  (48, .aload_n 0, 1, 0, 0, 0, 0, []),
  (49, .getfield 12, 3, 3, 0, 0, 0, []),
  (52, .getfield 47, 3, 2, 3, 0, 0, []),
  (55, .ireturn, 1, 0, 0, 0, 0, [])]
def zc_X3_init : List (Nat × List Bool) := []
def zo_X3_init : List z_Op := [(0, .aload_n 0, 1, 0, 0, 0, 0, []),
  (1, .invokespecial 3, 3, 1000, 1, 0, 0, []),
  (4, .aload_n 0, 1, 0, 0, 0, 0, []),
  (5, .iconst 1, 1, 0, 0, 0, 1, []),
  (6, .putfield 9, 3, 4, 0, 0, 0, []),
  (9, .aload_n 0, 1, 0, 0, 0, 0, []),
  (10, .bipush 6, 2, 0, 0, 0, 6, []),
  (12, .putfield 15, 3, 4, 1, 0, 0, []),
  (15, .aload_n 0, 1, 0, 0, 0, 0, []),
  (16, .bipush 100, 2, 0, 0, 0, 100, []),
  (18, .newarray .int, 2, 1, 0, 0, 0, []),
  (20, .putfield 18, 3, 4, 3, 0, 0, []),
  (23, .aload_n 0, 1, 0, 0, 0, 0, []),
  (24, .bipush 10, 2, 0, 0, 0, 10, []),
  (26, .newarray .int, 2, 1, 0, 0, 0, []),
  (28, .putfield 22, 3, 4, 5, 0, 0, []),
  (31, .aload_n 0, 1, 0, 0, 0, 0, []),
  (32, .bipush 6, 2, 0, 0, 0, 6, []),
  (34, .newarray .int, 2, 1, 0, 0, 0, []),
  (36, .putfield 25, 3, 4, 6, 0, 0, []),
  (39, .return_, 1, 0, 0, 0, 0, [])]
def zc_X3_clear : List (Nat × List Bool) := []
def zo_X3_clear : List z_Op := [(0, .aload_n 0, 1, 0, 0, 0, 0, []),
  (1, .iconst 1, 1, 0, 0, 0, 1, []),
  (2, .putfield 9, 3, 4, 0, 0, 0, []),
  (5, .aload_n 0, 1, 0, 0, 0, 0, []),
  (6, .bipush 6, 2, 0, 0, 0, 6, []),
  (8, .putfield 15, 3, 4, 1, 0, 0, []),
  (11, .aload_n 0, 1, 0, 0, 0, 0, []),
  (12, .iconst 0, 1, 0, 0, 0, 0, []),
  (13, .putfield 28, 3, 4, 2, 0, 0, []),
  (16, .aload_n 0, 1, 0, 0, 0, 0, []),
  (17, .iconst 0, 1, 0, 0, 0, 0, []),
  (18, .putfield 31, 3, 4, 4, 0, 0, []),
  (21, .return_, 1, 0, 0, 0, 0, [])]
def zc_X3_append : List (Nat × List Bool) := []
def zo_X3_append : List z_Op := [(0, .aload_n 0, 1, 0, 0, 0, 0, []),
  (1, .getfield 28, 3, 4, 2, 0, 0, []),
  (4, .bipush 100, 2, 0, 0, 0, 100, []),
  (6, .if_icmp .ge 23, 3, 29, 0, 0, 0, []),
  (9, .aload_n 0, 1, 0, 0, 0, 0, []),
  (10, .getfield 18, 3, 4, 3, 0, 0, []),
  (13, .aload_n 0, 1, 0, 0, 0, 0, []),
  (14, .getfield 28, 3, 4, 2, 0, 0, []),
  (17, .iload_n 1, 1, 1, 0, 0, 0, []),
  (18, .iastore, 1, 0, 0, 0, 0, []),
  (19, .aload_n 0, 1, 0, 0, 0, 0, []),
  (20, .dup, 1, 0, 0, 0, 0, []),
  (21, .getfield 28, 3, 4, 2, 0, 0, []),
  (24, .iconst 1, 1, 0, 0, 0, 1, []),
  (25, .iadd, 1, 0, 0, 0, 0, []),
  (26, .putfield 28, 3, 4, 2, 0, 0, []),
  (29, .return_, 1, 0, 0, 0, 0, [])]
def zc_X3_appendTest : List (Nat × List Bool) := []
def zo_X3_appendTest : List z_Op := [(0, .aload_n 0, 1, 0, 0, 0, 0, []),
  (1, .iload_n 1, 1, 1, 0, 0, 0, []),
  (2, .iconst 3, 1, 0, 0, 0, 3, []),
  (3, .imul, 1, 0, 0, 0, 0, []),
  (4, .iload_n 2, 1, 2, 0, 0, 0, []),
  (5, .iadd, 1, 0, 0, 0, 0, []),
  (6, .bipush 100, 2, 0, 0, 0, 100, []),
  (8, .imul, 1, 0, 0, 0, 0, []),
  (9, .iload_n 3, 1, 3, 0, 0, 0, []),
  (10, .iadd, 1, 0, 0, 0, 0, []),
  (11, .invokevirtual 34, 3, 22, 2, 4, 0, []),
  (14, .return_, 1, 0, 0, 0, 0, [])]
def zc_X3_appendEnd : List (Nat × List Bool) := []
def zo_X3_appendEnd : List z_Op := [(0, .aload_n 0, 1, 0, 0, 0, 0, []),
  (1, .getfield 31, 3, 4, 4, 0, 0, []),
  (4, .bipush 10, 2, 0, 0, 0, 10, []),
  (6, .if_icmp .ge 29, 3, 35, 0, 0, 0, []),
  (9, .aload_n 0, 1, 0, 0, 0, 0, []),
  (10, .getfield 22, 3, 4, 5, 0, 0, []),
  (13, .aload_n 0, 1, 0, 0, 0, 0, []),
  (14, .getfield 31, 3, 4, 4, 0, 0, []),
  (17, .iload_n 1, 1, 1, 0, 0, 0, []),
  (18, .iastore, 1, 0, 0, 0, 0, []),
  (19, .aload_n 0, 1, 0, 0, 0, 0, []),
  (20, .dup, 1, 0, 0, 0, 0, []),
  (21, .getfield 31, 3, 4, 4, 0, 0, []),
  (24, .iconst 1, 1, 0, 0, 0, 1, []),
  (25, .iadd, 1, 0, 0, 0, 0, []),
  (26, .putfield 31, 3, 4, 4, 0, 0, []),
  (29, .aload_n 0, 1, 0, 0, 0, 0, []),
  (30, .bipush (-4), 2, 0, 0, 0, (-4), []),
  (32, .invokevirtual 34, 3, 22, 2, 4, 0, []),
  (35, .return_, 1, 0, 0, 0, 0, [])]
def zc_X3_extraFor : List (Nat × List Bool) := [(72, [true, false, false, false, true, true, true, true, false, false])]
def zo_X3_extraFor : List z_Op := [(0, .aload_n 0, 1, 0, 0, 0, 0, []),
  (1, .getfield 25, 3, 4, 6, 0, 0, []),
  (4, .iconst 0, 1, 0, 0, 0, 0, []),
  (5, .aload_n 1, 1, 1, 0, 0, 0, []),
  (6, .getfield 38, 3, 2, 0, 0, 0, []),
  (9, .iastore, 1, 0, 0, 0, 0, []),
  (10, .aload_n 0, 1, 0, 0, 0, 0, []),
  (11, .getfield 25, 3, 4, 6, 0, 0, []),
  (14, .iconst 1, 1, 0, 0, 0, 1, []),
  (15, .iload_n 2, 1, 2, 0, 0, 0, []),
  (16, .iastore, 1, 0, 0, 0, 0, []),
  (17, .aload_n 0, 1, 0, 0, 0, 0, []),
  (18, .getfield 25, 3, 4, 6, 0, 0, []),
  (21, .iconst 2, 1, 0, 0, 0, 2, []),
  (22, .aload_n 1, 1, 1, 0, 0, 0, []),
  (23, .getfield 43, 3, 2, 1, 0, 0, []),
  (26, .iastore, 1, 0, 0, 0, 0, []),
  (27, .aload_n 0, 1, 0, 0, 0, 0, []),
  (28, .getfield 25, 3, 4, 6, 0, 0, []),
  (31, .iconst 3, 1, 0, 0, 0, 3, []),
  (32, .aload_n 1, 1, 1, 0, 0, 0, []),
  (33, .getfield 46, 3, 2, 2, 0, 0, []),
  (36, .iastore, 1, 0, 0, 0, 0, []),
  (37, .aload_n 0, 1, 0, 0, 0, 0, []),
  (38, .getfield 25, 3, 4, 6, 0, 0, []),
  (41, .iconst 4, 1, 0, 0, 0, 4, []),
  (42, .aload_n 1, 1, 1, 0, 0, 0, []),
  (43, .getfield 49, 3, 2, 3, 0, 0, []),
  (46, .bipush 10, 2, 0, 0, 0, 10, []),
  (48, .idiv, 1, 0, 0, 0, 0, []),
  (49, .iastore, 1, 0, 0, 0, 0, []),
  (50, .aload_n 0, 1, 0, 0, 0, 0, []),
  (51, .getfield 25, 3, 4, 6, 0, 0, []),
  (54, .iconst 5, 1, 0, 0, 0, 5, []),
  (55, .iload_n 3, 1, 3, 0, 0, 0, []),
  (56, .bipush 10, 2, 0, 0, 0, 10, []),
  (58, .irem, 1, 0, 0, 0, 0, []),
  (59, .iastore, 1, 0, 0, 0, 0, []),
  (60, .iconst 0, 1, 0, 0, 0, 0, []),
  (61, .istore 4, 2, 4, 0, 0, 0, []),
  (63, .iconst 0, 1, 0, 0, 0, 0, []),
  (64, .istore 5, 2, 5, 0, 0, 0, []),
  (66, .iconst 0, 1, 0, 0, 0, 0, []),
  (67, .istore 6, 2, 6, 0, 0, 0, []),
  (69, .iconst 0, 1, 0, 0, 0, 0, []),
  (70, .istore 7, 2, 7, 0, 0, 0, []),
  (72, .iload 7, 2, 7, 0, 0, 0, []),
  (74, .aload_n 0, 1, 0, 0, 0, 0, []),
  (75, .getfield 28, 3, 4, 2, 0, 0, []),
  (78, .if_icmp .ge 139, 3, 217, 0, 0, 0, []),
  (81, .aload_n 0, 1, 0, 0, 0, 0, []),
  (82, .getfield 18, 3, 4, 3, 0, 0, []),
  (85, .iload 7, 2, 7, 0, 0, 0, []),
  (87, .iaload, 1, 0, 0, 0, 0, []),
  (88, .istore 8, 2, 8, 0, 0, 0, []),
  (90, .iload 6, 2, 6, 0, 0, 0, []),
  (92, .iconst 1, 1, 0, 0, 0, 1, []),
  (93, .iand, 1, 0, 0, 0, 0, []),
  (94, .istore 9, 2, 9, 0, 0, 0, []),
  (96, .iload 8, 2, 8, 0, 0, 0, []),
  (98, .ifCond .lt 27, 3, 125, 0, 0, 0, []),
  (101, .iload 6, 2, 6, 0, 0, 0, []),
  (103, .iconst 1, 1, 0, 0, 0, 1, []),
  (104, .ishl, 1, 0, 0, 0, 0, []),
  (105, .aload_n 0, 1, 0, 0, 0, 0, []),
  (106, .iload 8, 2, 8, 0, 0, 0, []),
  (108, .invokevirtual 52, 3, 26, 2, 4, 1, []),
  (111, .ifCond .eq 7, 3, 118, 0, 0, 0, []),
  (114, .iconst 1, 1, 0, 0, 0, 1, []),
  (115, .goto 4, 3, 119, 0, 0, 0, []),
  (118, .iconst 0, 1, 0, 0, 0, 0, []),
  (119, .ior, 1, 0, 0, 0, 0, []),
  (120, .istore 6, 2, 6, 0, 0, 0, []),
  (122, .goto 89, 3, 211, 0, 0, 0, []),
  (125, .iload 8, 2, 8, 0, 0, 0, []),
  (127, .iconst (-1), 1, 0, 0, 0, (-1), []),
  (128, .if_icmp .ne 12, 3, 140, 0, 0, 0, []),
  (131, .iload 6, 2, 6, 0, 0, 0, []),
  (133, .iconst 1, 1, 0, 0, 0, 1, []),
  (134, .ixor, 1, 0, 0, 0, 0, []),
  (135, .istore 6, 2, 6, 0, 0, 0, []),
  (137, .goto 74, 3, 211, 0, 0, 0, []),
  (140, .iload 8, 2, 8, 0, 0, 0, []),
  (142, .bipush (-2), 2, 0, 0, 0, (-2), []),
  (144, .if_icmp .ne 18, 3, 162, 0, 0, 0, []),
  (147, .iload 6, 2, 6, 0, 0, 0, []),
  (149, .iconst 1, 1, 0, 0, 0, 1, []),
  (150, .ishr, 1, 0, 0, 0, 0, []),
  (151, .iload 9, 2, 9, 0, 0, 0, []),
  (153, .bipush (-2), 2, 0, 0, 0, (-2), []),
  (155, .ior, 1, 0, 0, 0, 0, []),
  (156, .iand, 1, 0, 0, 0, 0, []),
  (157, .istore 6, 2, 6, 0, 0, 0, []),
  (159, .goto 52, 3, 211, 0, 0, 0, []),
  (162, .iload 8, 2, 8, 0, 0, 0, []),
  (164, .bipush (-3), 2, 0, 0, 0, (-3), []),
  (166, .if_icmp .ne 15, 3, 181, 0, 0, 0, []),
  (169, .iload 6, 2, 6, 0, 0, 0, []),
  (171, .iconst 1, 1, 0, 0, 0, 1, []),
  (172, .ishr, 1, 0, 0, 0, 0, []),
  (173, .iload 9, 2, 9, 0, 0, 0, []),
  (175, .ior, 1, 0, 0, 0, 0, []),
  (176, .istore 6, 2, 6, 0, 0, 0, []),
  (178, .goto 33, 3, 211, 0, 0, 0, []),
  (181, .iload 5, 2, 5, 0, 0, 0, []),
  (183, .aload_n 0, 1, 0, 0, 0, 0, []),
  (184, .getfield 31, 3, 4, 4, 0, 0, []),
  (187, .if_icmp .ge 24, 3, 211, 0, 0, 0, []),
  (190, .iload 4, 2, 4, 0, 0, 0, []),
  (192, .iload 9, 2, 9, 0, 0, 0, []),
  (194, .aload_n 0, 1, 0, 0, 0, 0, []),
  (195, .getfield 22, 3, 4, 5, 0, 0, []),
  (198, .iload 5, 2, 5, 0, 0, 0, []),
  (200, .iaload, 1, 0, 0, 0, 0, []),
  (201, .imul, 1, 0, 0, 0, 0, []),
  (202, .iadd, 1, 0, 0, 0, 0, []),
  (203, .istore 4, 2, 4, 0, 0, 0, []),
  (205, .iinc 5 1, 3, 5, 0, 0, 1, []),
  (208, .iconst 0, 1, 0, 0, 0, 0, []),
  (209, .istore 6, 2, 6, 0, 0, 0, []),
  (211, .iinc 7 1, 3, 7, 0, 0, 1, []),
  (214, .goto (-142), 3, 72, 0, 0, 0, []),
  (217, .iload 4, 2, 4, 0, 0, 0, []),
  (219, .ireturn, 1, 0, 0, 0, 0, [])]
def zc_X3_isTrue : List (Nat × List Bool) := []
def zo_X3_isTrue : List z_Op := [(0, .iload_n 1, 1, 1, 0, 0, 0, []),
  (1, .bipush 100, 2, 0, 0, 0, 100, []),
  (3, .irem, 1, 0, 0, 0, 0, []),
  (4, .istore_n 2, 1, 2, 0, 0, 0, []),
  (5, .iload_n 1, 1, 1, 0, 0, 0, []),
  (6, .bipush 100, 2, 0, 0, 0, 100, []),
  (8, .idiv, 1, 0, 0, 0, 0, []),
  (9, .istore_n 3, 1, 3, 0, 0, 0, []),
  (10, .iload_n 3, 1, 3, 0, 0, 0, []),
  (11, .iconst 3, 1, 0, 0, 0, 3, []),
  (12, .idiv, 1, 0, 0, 0, 0, []),
  (13, .istore 4, 2, 4, 0, 0, 0, []),
  (15, .iload 4, 2, 4, 0, 0, 0, []),
  (17, .bipush 6, 2, 0, 0, 0, 6, []),
  (19, .if_icmp .ge 13, 3, 32, 0, 0, 0, []),
  (22, .aload_n 0, 1, 0, 0, 0, 0, []),
  (23, .getfield 25, 3, 4, 6, 0, 0, []),
  (26, .iload 4, 2, 4, 0, 0, 0, []),
  (28, .iaload, 1, 0, 0, 0, 0, []),
  (29, .goto 4, 3, 33, 0, 0, 0, []),
  (32, .iconst 0, 1, 0, 0, 0, 0, []),
  (33, .istore 5, 2, 5, 0, 0, 0, []),
  (35, .iload_n 3, 1, 3, 0, 0, 0, []),
  (36, .iconst 3, 1, 0, 0, 0, 3, []),
  (37, .irem, 1, 0, 0, 0, 0, []),
  (38, .lookupswitch 50 #[(0, 26), (1, 38)], 26, 88, 0, 0, 0, [((0), 64), ((1), 76)]),
  (64, .iload 5, 2, 5, 0, 0, 0, []),
  (66, .iload_n 2, 1, 2, 0, 0, 0, []),
  (67, .if_icmp .ge 7, 3, 74, 0, 0, 0, []),
  (70, .iconst 1, 1, 0, 0, 0, 1, []),
  (71, .goto 4, 3, 75, 0, 0, 0, []),
  (74, .iconst 0, 1, 0, 0, 0, 0, []),
  (75, .ireturn, 1, 0, 0, 0, 0, []),
  (76, .iload 5, 2, 5, 0, 0, 0, []),
  (78, .iload_n 2, 1, 2, 0, 0, 0, []),
  (79, .if_icmp .ne 7, 3, 86, 0, 0, 0, []),
  (82, .iconst 1, 1, 0, 0, 0, 1, []),
  (83, .goto 4, 3, 87, 0, 0, 0, []),
  (86, .iconst 0, 1, 0, 0, 0, 0, []),
  (87, .ireturn, 1, 0, 0, 0, 0, []),
  (88, .iload 5, 2, 5, 0, 0, 0, []),
  (90, .iload_n 2, 1, 2, 0, 0, 0, []),
  (91, .if_icmp .le 7, 3, 98, 0, 0, 0, []),
  (94, .iconst 1, 1, 0, 0, 0, 1, []),
  (95, .goto 4, 3, 99, 0, 0, 0, []),
  (98, .iconst 0, 1, 0, 0, 0, 0, []),
  (99, .ireturn, 1, 0, 0, 0, 0, [])]
def zc_X4_init : List (Nat × List Bool) := []
def zo_X4_init : List z_Op := [(0, .aload_n 0, 1, 0, 0, 0, 0, []),
  (1, .invokespecial 3, 3, 1000, 1, 0, 0, []),
  (4, .aload_n 0, 1, 0, 0, 0, 0, []),
  (5, .bipush 100, 2, 0, 0, 0, 100, []),
  (7, .newarray .byte, 2, 3, 0, 0, 0, []),
  (9, .putfield 9, 3, 5, 0, 0, 0, []),
  (12, .aload_n 0, 1, 0, 0, 0, 0, []),
  (13, .aload_n 1, 1, 1, 0, 0, 0, []),
  (14, .putfield 15, 3, 5, 3, 0, 0, []),
  (17, .return_, 1, 0, 0, 0, 0, [])]
def zc_X4_append : List (Nat × List Bool) := []
def zo_X4_append : List z_Op := [(0, .aload_n 0, 1, 0, 0, 0, 0, []),
  (1, .getfield 19, 3, 5, 1, 0, 0, []),
  (4, .bipush 100, 2, 0, 0, 0, 100, []),
  (6, .if_icmp .ge 24, 3, 30, 0, 0, 0, []),
  (9, .aload_n 0, 1, 0, 0, 0, 0, []),
  (10, .getfield 9, 3, 5, 0, 0, 0, []),
  (13, .aload_n 0, 1, 0, 0, 0, 0, []),
  (14, .getfield 19, 3, 5, 1, 0, 0, []),
  (17, .iload_n 1, 1, 1, 0, 0, 0, []),
  (18, .i2b, 1, 0, 0, 0, 0, []),
  (19, .bastore, 1, 0, 0, 0, 0, []),
  (20, .aload_n 0, 1, 0, 0, 0, 0, []),
  (21, .dup, 1, 0, 0, 0, 0, []),
  (22, .getfield 19, 3, 5, 1, 0, 0, []),
  (25, .iconst 1, 1, 0, 0, 0, 1, []),
  (26, .iadd, 1, 0, 0, 0, 0, []),
  (27, .putfield 19, 3, 5, 1, 0, 0, []),
  (30, .aload_n 0, 1, 0, 0, 0, 0, []),
  (31, .getfield 19, 3, 5, 1, 0, 0, []),
  (34, .ireturn, 1, 0, 0, 0, 0, [])]
def zc_X4_faultReadingInto : List (Nat × List Bool) := [(19, [true, false, true])]
def zo_X4_faultReadingInto : List z_Op := [(0, .aload_n 0, 1, 0, 0, 0, 0, []),
  (1, .aload_n 1, 1, 1, 0, 0, 0, []),
  (2, .putfield 15, 3, 5, 3, 0, 0, []),
  (5, .aload_n 0, 1, 0, 0, 0, 0, []),
  (6, .getfield 15, 3, 5, 3, 0, 0, []),
  (9, .invokevirtual 23, 3, 21, 1, 4, 0, []),
  (12, .aload_n 0, 1, 0, 0, 0, 0, []),
  (13, .iconst 0, 1, 0, 0, 0, 0, []),
  (14, .putfield 28, 3, 5, 2, 0, 0, []),
  (17, .iconst 1, 1, 0, 0, 0, 1, []),
  (18, .istore_n 2, 1, 2, 0, 0, 0, []),
  (19, .iload_n 2, 1, 2, 0, 0, 0, []),
  (20, .bipush 10, 2, 0, 0, 0, 10, []),
  (22, .if_icmp .gt 49, 3, 71, 0, 0, 0, []),
  (25, .aload_n 0, 1, 0, 0, 0, 0, []),
  (26, .invokevirtual 31, 3, 30, 1, 5, 1, []),
  (29, .ifCond .eq 42, 3, 71, 0, 0, 0, []),
  (32, .aload_n 0, 1, 0, 0, 0, 0, []),
  (33, .getfield 28, 3, 5, 2, 0, 0, []),
  (36, .aload_n 0, 1, 0, 0, 0, 0, []),
  (37, .getfield 19, 3, 5, 1, 0, 0, []),
  (40, .if_icmp .lt 5, 3, 45, 0, 0, 0, []),
  (43, .iconst (-1), 1, 0, 0, 0, (-1), []),
  (44, .ireturn, 1, 0, 0, 0, 0, []),
  (45, .iload_n 2, 1, 2, 0, 0, 0, []),
  (46, .bipush 10, 2, 0, 0, 0, 10, []),
  (48, .if_icmp .eq 12, 3, 60, 0, 0, 0, []),
  (51, .aload_n 0, 1, 0, 0, 0, 0, []),
  (52, .bipush 59, 2, 0, 0, 0, 59, []),
  (54, .invokevirtual 35, 3, 40, 2, 5, 1, []),
  (57, .ifCond .ne 8, 3, 65, 0, 0, 0, []),
  (60, .aload_n 0, 1, 0, 0, 0, 0, []),
  (61, .getfield 28, 3, 5, 2, 0, 0, []),
  (64, .ireturn, 1, 0, 0, 0, 0, []),
  (65, .iinc 2 1, 3, 2, 0, 0, 1, []),
  (68, .goto (-49), 3, 19, 0, 0, 0, []),
  (71, .aload_n 0, 1, 0, 0, 0, 0, []),
  (72, .getfield 28, 3, 5, 2, 0, 0, []),
  (75, .ireturn, 1, 0, 0, 0, 0, [])]
def zc_X4_readClause : List (Nat × List Bool) := []
def zo_X4_readClause : List z_Op := [(0, .aload_n 0, 1, 0, 0, 0, 0, []),
  (1, .invokevirtual 39, 3, 31, 1, 5, 1, []),
  (4, .istore_n 1, 1, 1, 0, 0, 0, []),
  (5, .iload_n 1, 1, 1, 0, 0, 0, []),
  (6, .iconst (-1), 1, 0, 0, 0, (-1), []),
  (7, .if_icmp .eq 12, 3, 19, 0, 0, 0, []),
  (10, .aload_n 0, 1, 0, 0, 0, 0, []),
  (11, .bipush 32, 2, 0, 0, 0, 32, []),
  (13, .invokevirtual 35, 3, 40, 2, 5, 1, []),
  (16, .ifCond .ne 5, 3, 21, 0, 0, 0, []),
  (19, .iconst 0, 1, 0, 0, 0, 0, []),
  (20, .ireturn, 1, 0, 0, 0, 0, []),
  (21, .aload_n 0, 1, 0, 0, 0, 0, []),
  (22, .invokevirtual 43, 3, 32, 1, 5, 1, []),
  (25, .istore_n 2, 1, 2, 0, 0, 0, []),
  (26, .iload_n 2, 1, 2, 0, 0, 0, []),
  (27, .ifCond .ge 5, 3, 32, 0, 0, 0, []),
  (30, .iconst 0, 1, 0, 0, 0, 0, []),
  (31, .ireturn, 1, 0, 0, 0, 0, []),
  (32, .iload_n 1, 1, 1, 0, 0, 0, []),
  (33, .iconst 2, 1, 0, 0, 0, 2, []),
  (34, .if_icmp .ne 13, 3, 47, 0, 0, 0, []),
  (37, .aload_n 0, 1, 0, 0, 0, 0, []),
  (38, .getfield 15, 3, 5, 3, 0, 0, []),
  (41, .iload_n 2, 1, 2, 0, 0, 0, []),
  (42, .putfield 46, 3, 4, 0, 0, 0, []),
  (45, .iconst 1, 1, 0, 0, 0, 1, []),
  (46, .ireturn, 1, 0, 0, 0, 0, []),
  (47, .iload_n 1, 1, 1, 0, 0, 0, []),
  (48, .iconst 3, 1, 0, 0, 0, 3, []),
  (49, .if_icmp .ne 13, 3, 62, 0, 0, 0, []),
  (52, .aload_n 0, 1, 0, 0, 0, 0, []),
  (53, .getfield 15, 3, 5, 3, 0, 0, []),
  (56, .iload_n 2, 1, 2, 0, 0, 0, []),
  (57, .putfield 49, 3, 4, 1, 0, 0, []),
  (60, .iconst 1, 1, 0, 0, 0, 1, []),
  (61, .ireturn, 1, 0, 0, 0, 0, []),
  (62, .aload_n 0, 1, 0, 0, 0, 0, []),
  (63, .bipush 32, 2, 0, 0, 0, 32, []),
  (65, .invokevirtual 35, 3, 40, 2, 5, 1, []),
  (68, .ifCond .eq 11, 3, 79, 0, 0, 0, []),
  (71, .aload_n 0, 1, 0, 0, 0, 0, []),
  (72, .iconst 0, 1, 0, 0, 0, 0, []),
  (73, .invokevirtual 52, 3, 33, 2, 5, 1, []),
  (76, .ifCond .ne 5, 3, 81, 0, 0, 0, []),
  (79, .iconst 0, 1, 0, 0, 0, 0, []),
  (80, .ireturn, 1, 0, 0, 0, 0, []),
  (81, .aload_n 0, 1, 0, 0, 0, 0, []),
  (82, .getfield 15, 3, 5, 3, 0, 0, []),
  (85, .iload_n 1, 1, 1, 0, 0, 0, []),
  (86, .ifCond .ne 7, 3, 93, 0, 0, 0, []),
  (89, .iload_n 2, 1, 2, 0, 0, 0, []),
  (90, .goto 5, 3, 95, 0, 0, 0, []),
  (93, .iload_n 2, 1, 2, 0, 0, 0, []),
  (94, .ineg, 1, 0, 0, 0, 0, []),
  (95, .invokevirtual 55, 3, 24, 2, 4, 0, []),
  (98, .iconst 1, 1, 0, 0, 0, 1, []),
  (99, .ireturn, 1, 0, 0, 0, 0, [])]
def zc_X4_readWord : List (Nat × List Bool) := []
def zo_X4_readWord : List z_Op := [(0, .aload_n 0, 1, 0, 0, 0, 0, []),
  (1, .bipush 100, 2, 0, 0, 0, 100, []),
  (3, .invokevirtual 35, 3, 40, 2, 5, 1, []),
  (6, .ifCond .eq 60, 3, 66, 0, 0, 0, []),
  (9, .aload_n 0, 1, 0, 0, 0, 0, []),
  (10, .bipush 114, 2, 0, 0, 0, 114, []),
  (12, .invokevirtual 35, 3, 40, 2, 5, 1, []),
  (15, .ifCond .eq 18, 3, 33, 0, 0, 0, []),
  (18, .aload_n 0, 1, 0, 0, 0, 0, []),
  (19, .bipush 121, 2, 0, 0, 0, 121, []),
  (21, .invokevirtual 35, 3, 40, 2, 5, 1, []),
  (24, .ifCond .eq 7, 3, 31, 0, 0, 0, []),
  (27, .iconst 0, 1, 0, 0, 0, 0, []),
  (28, .goto 4, 3, 32, 0, 0, 0, []),
  (31, .iconst (-1), 1, 0, 0, 0, (-1), []),
  (32, .ireturn, 1, 0, 0, 0, 0, []),
  (33, .aload_n 0, 1, 0, 0, 0, 0, []),
  (34, .bipush 97, 2, 0, 0, 0, 97, []),
  (36, .invokevirtual 35, 3, 40, 2, 5, 1, []),
  (39, .ifCond .eq 25, 3, 64, 0, 0, 0, []),
  (42, .aload_n 0, 1, 0, 0, 0, 0, []),
  (43, .bipush 109, 2, 0, 0, 0, 109, []),
  (45, .invokevirtual 35, 3, 40, 2, 5, 1, []),
  (48, .ifCond .eq 16, 3, 64, 0, 0, 0, []),
  (51, .aload_n 0, 1, 0, 0, 0, 0, []),
  (52, .bipush 112, 2, 0, 0, 0, 112, []),
  (54, .invokevirtual 35, 3, 40, 2, 5, 1, []),
  (57, .ifCond .eq 7, 3, 64, 0, 0, 0, []),
  (60, .iconst 1, 1, 0, 0, 0, 1, []),
  (61, .goto 4, 3, 65, 0, 0, 0, []),
  (64, .iconst (-1), 1, 0, 0, 0, (-1), []),
  (65, .ireturn, 1, 0, 0, 0, 0, []),
  (66, .aload_n 0, 1, 0, 0, 0, 0, []),
  (67, .bipush 99, 2, 0, 0, 0, 99, []),
  (69, .invokevirtual 35, 3, 40, 2, 5, 1, []),
  (72, .ifCond .eq 36, 3, 108, 0, 0, 0, []),
  (75, .aload_n 0, 1, 0, 0, 0, 0, []),
  (76, .bipush 111, 2, 0, 0, 0, 111, []),
  (78, .invokevirtual 35, 3, 40, 2, 5, 1, []),
  (81, .ifCond .eq 25, 3, 106, 0, 0, 0, []),
  (84, .aload_n 0, 1, 0, 0, 0, 0, []),
  (85, .bipush 111, 2, 0, 0, 0, 111, []),
  (87, .invokevirtual 35, 3, 40, 2, 5, 1, []),
  (90, .ifCond .eq 16, 3, 106, 0, 0, 0, []),
  (93, .aload_n 0, 1, 0, 0, 0, 0, []),
  (94, .bipush 108, 2, 0, 0, 0, 108, []),
  (96, .invokevirtual 35, 3, 40, 2, 5, 1, []),
  (99, .ifCond .eq 7, 3, 106, 0, 0, 0, []),
  (102, .iconst 2, 1, 0, 0, 0, 2, []),
  (103, .goto 4, 3, 107, 0, 0, 0, []),
  (106, .iconst (-1), 1, 0, 0, 0, (-1), []),
  (107, .ireturn, 1, 0, 0, 0, 0, []),
  (108, .aload_n 0, 1, 0, 0, 0, 0, []),
  (109, .bipush 108, 2, 0, 0, 0, 108, []),
  (111, .invokevirtual 35, 3, 40, 2, 5, 1, []),
  (114, .ifCond .eq 25, 3, 139, 0, 0, 0, []),
  (117, .aload_n 0, 1, 0, 0, 0, 0, []),
  (118, .bipush 111, 2, 0, 0, 0, 111, []),
  (120, .invokevirtual 35, 3, 40, 2, 5, 1, []),
  (123, .ifCond .eq 16, 3, 139, 0, 0, 0, []),
  (126, .aload_n 0, 1, 0, 0, 0, 0, []),
  (127, .bipush 103, 2, 0, 0, 0, 103, []),
  (129, .invokevirtual 35, 3, 40, 2, 5, 1, []),
  (132, .ifCond .eq 7, 3, 139, 0, 0, 0, []),
  (135, .iconst 3, 1, 0, 0, 0, 3, []),
  (136, .goto 4, 3, 140, 0, 0, 0, []),
  (139, .iconst (-1), 1, 0, 0, 0, (-1), []),
  (140, .ireturn, 1, 0, 0, 0, 0, [])]
def zc_X4_readNumber : List (Nat × List Bool) := [(4, [true, true, true, false])]
def zo_X4_readNumber : List z_Op := [(0, .iconst (-1), 1, 0, 0, 0, (-1), []),
  (1, .istore_n 1, 1, 1, 0, 0, 0, []),
  (2, .iconst 0, 1, 0, 0, 0, 0, []),
  (3, .istore_n 2, 1, 2, 0, 0, 0, []),
  (4, .iload_n 2, 1, 2, 0, 0, 0, []),
  (5, .iconst 2, 1, 0, 0, 0, 2, []),
  (6, .if_icmp .ge 70, 3, 76, 0, 0, 0, []),
  (9, .aload_n 0, 1, 0, 0, 0, 0, []),
  (10, .getfield 28, 3, 5, 2, 0, 0, []),
  (13, .aload_n 0, 1, 0, 0, 0, 0, []),
  (14, .getfield 19, 3, 5, 1, 0, 0, []),
  (17, .if_icmp .ge 59, 3, 76, 0, 0, 0, []),
  (20, .aload_n 0, 1, 0, 0, 0, 0, []),
  (21, .getfield 9, 3, 5, 0, 0, 0, []),
  (24, .aload_n 0, 1, 0, 0, 0, 0, []),
  (25, .getfield 28, 3, 5, 2, 0, 0, []),
  (28, .baload, 1, 0, 0, 0, 0, []),
  (29, .bipush 48, 2, 0, 0, 0, 48, []),
  (31, .isub, 1, 0, 0, 0, 0, []),
  (32, .istore_n 3, 1, 3, 0, 0, 0, []),
  (33, .iload_n 3, 1, 3, 0, 0, 0, []),
  (34, .ifCond .lt 9, 3, 43, 0, 0, 0, []),
  (37, .iload_n 3, 1, 3, 0, 0, 0, []),
  (38, .bipush 9, 2, 0, 0, 0, 9, []),
  (40, .if_icmp .le 5, 3, 45, 0, 0, 0, []),
  (43, .iload_n 1, 1, 1, 0, 0, 0, []),
  (44, .ireturn, 1, 0, 0, 0, 0, []),
  (45, .iload_n 2, 1, 2, 0, 0, 0, []),
  (46, .ifCond .ne 7, 3, 53, 0, 0, 0, []),
  (49, .iload_n 3, 1, 3, 0, 0, 0, []),
  (50, .goto 9, 3, 59, 0, 0, 0, []),
  (53, .bipush 10, 2, 0, 0, 0, 10, []),
  (55, .iload_n 1, 1, 1, 0, 0, 0, []),
  (56, .imul, 1, 0, 0, 0, 0, []),
  (57, .iload_n 3, 1, 3, 0, 0, 0, []),
  (58, .iadd, 1, 0, 0, 0, 0, []),
  (59, .istore_n 1, 1, 1, 0, 0, 0, []),
  (60, .aload_n 0, 1, 0, 0, 0, 0, []),
  (61, .dup, 1, 0, 0, 0, 0, []),
  (62, .getfield 28, 3, 5, 2, 0, 0, []),
  (65, .iconst 1, 1, 0, 0, 0, 1, []),
  (66, .iadd, 1, 0, 0, 0, 0, []),
  (67, .putfield 28, 3, 5, 2, 0, 0, []),
  (70, .iinc 2 1, 3, 2, 0, 0, 1, []),
  (73, .goto (-69), 3, 4, 0, 0, 0, []),
  (76, .iload_n 1, 1, 1, 0, 0, 0, []),
  (77, .ireturn, 1, 0, 0, 0, 0, [])]
def zc_X4_readAny : List (Nat × List Bool) := [(15, [true, true, true])]
def zo_X4_readAny : List z_Op := [(0, .aload_n 0, 1, 0, 0, 0, 0, []),
  (1, .iload_n 1, 1, 1, 0, 0, 0, []),
  (2, .invokevirtual 59, 3, 34, 2, 5, 1, []),
  (5, .ifCond .ne 5, 3, 10, 0, 0, 0, []),
  (8, .iconst 0, 1, 0, 0, 0, 0, []),
  (9, .ireturn, 1, 0, 0, 0, 0, []),
  (10, .aload_n 0, 1, 0, 0, 0, 0, []),
  (11, .getfield 19, 3, 5, 1, 0, 0, []),
  (14, .istore_n 2, 1, 2, 0, 0, 0, []),
  (15, .iload_n 2, 1, 2, 0, 0, 0, []),
  (16, .ifCond .le 37, 3, 53, 0, 0, 0, []),
  (19, .aload_n 0, 1, 0, 0, 0, 0, []),
  (20, .bipush 124, 2, 0, 0, 0, 124, []),
  (22, .invokevirtual 35, 3, 40, 2, 5, 1, []),
  (25, .ifCond .eq 28, 3, 53, 0, 0, 0, []),
  (28, .aload_n 0, 1, 0, 0, 0, 0, []),
  (29, .iload_n 1, 1, 1, 0, 0, 0, []),
  (30, .invokevirtual 59, 3, 34, 2, 5, 1, []),
  (33, .ifCond .ne 5, 3, 38, 0, 0, 0, []),
  (36, .iconst 0, 1, 0, 0, 0, 0, []),
  (37, .ireturn, 1, 0, 0, 0, 0, []),
  (38, .aload_n 0, 1, 0, 0, 0, 0, []),
  (39, .getfield 15, 3, 5, 3, 0, 0, []),
  (42, .bipush (-3), 2, 0, 0, 0, (-3), []),
  (44, .invokevirtual 62, 3, 22, 2, 4, 0, []),
  (47, .iinc 2 (-1), 3, 2, 0, 0, (-1), []),
  (50, .goto (-35), 3, 15, 0, 0, 0, []),
  (53, .iconst 1, 1, 0, 0, 0, 1, []),
  (54, .ireturn, 1, 0, 0, 0, 0, [])]
def zc_X4_readAll : List (Nat × List Bool) := [(15, [true, true, true])]
def zo_X4_readAll : List z_Op := [(0, .aload_n 0, 1, 0, 0, 0, 0, []),
  (1, .iload_n 1, 1, 1, 0, 0, 0, []),
  (2, .invokevirtual 65, 3, 35, 2, 5, 1, []),
  (5, .ifCond .ne 5, 3, 10, 0, 0, 0, []),
  (8, .iconst 0, 1, 0, 0, 0, 0, []),
  (9, .ireturn, 1, 0, 0, 0, 0, []),
  (10, .aload_n 0, 1, 0, 0, 0, 0, []),
  (11, .getfield 19, 3, 5, 1, 0, 0, []),
  (14, .istore_n 2, 1, 2, 0, 0, 0, []),
  (15, .iload_n 2, 1, 2, 0, 0, 0, []),
  (16, .ifCond .le 37, 3, 53, 0, 0, 0, []),
  (19, .aload_n 0, 1, 0, 0, 0, 0, []),
  (20, .bipush 38, 2, 0, 0, 0, 38, []),
  (22, .invokevirtual 35, 3, 40, 2, 5, 1, []),
  (25, .ifCond .eq 28, 3, 53, 0, 0, 0, []),
  (28, .aload_n 0, 1, 0, 0, 0, 0, []),
  (29, .iload_n 1, 1, 1, 0, 0, 0, []),
  (30, .invokevirtual 65, 3, 35, 2, 5, 1, []),
  (33, .ifCond .ne 5, 3, 38, 0, 0, 0, []),
  (36, .iconst 0, 1, 0, 0, 0, 0, []),
  (37, .ireturn, 1, 0, 0, 0, 0, []),
  (38, .aload_n 0, 1, 0, 0, 0, 0, []),
  (39, .getfield 15, 3, 5, 3, 0, 0, []),
  (42, .bipush (-2), 2, 0, 0, 0, (-2), []),
  (44, .invokevirtual 62, 3, 22, 2, 4, 0, []),
  (47, .iinc 2 (-1), 3, 2, 0, 0, (-1), []),
  (50, .goto (-35), 3, 15, 0, 0, 0, []),
  (53, .iconst 1, 1, 0, 0, 0, 1, []),
  (54, .ireturn, 1, 0, 0, 0, 0, [])]
def zc_X4_readPart : List (Nat × List Bool) := []
def zo_X4_readPart : List z_Op := [(0, .iload_n 1, 1, 1, 0, 0, 0, []),
  (1, .iconst 4, 1, 0, 0, 0, 4, []),
  (2, .if_icmp .ge 7, 3, 9, 0, 0, 0, []),
  (5, .iconst 1, 1, 0, 0, 0, 1, []),
  (6, .goto 4, 3, 10, 0, 0, 0, []),
  (9, .iconst 0, 1, 0, 0, 0, 0, []),
  (10, .istore_n 2, 1, 2, 0, 0, 0, []),
  (11, .iload_n 2, 1, 2, 0, 0, 0, []),
  (12, .ifCond .eq 34, 3, 46, 0, 0, 0, []),
  (15, .aload_n 0, 1, 0, 0, 0, 0, []),
  (16, .bipush 33, 2, 0, 0, 0, 33, []),
  (18, .invokevirtual 35, 3, 40, 2, 5, 1, []),
  (21, .ifCond .eq 25, 3, 46, 0, 0, 0, []),
  (24, .aload_n 0, 1, 0, 0, 0, 0, []),
  (25, .iload_n 1, 1, 1, 0, 0, 0, []),
  (26, .iconst 1, 1, 0, 0, 0, 1, []),
  (27, .iadd, 1, 0, 0, 0, 0, []),
  (28, .invokevirtual 65, 3, 35, 2, 5, 1, []),
  (31, .ifCond .ne 5, 3, 36, 0, 0, 0, []),
  (34, .iconst 0, 1, 0, 0, 0, 0, []),
  (35, .ireturn, 1, 0, 0, 0, 0, []),
  (36, .aload_n 0, 1, 0, 0, 0, 0, []),
  (37, .getfield 15, 3, 5, 3, 0, 0, []),
  (40, .iconst (-1), 1, 0, 0, 0, (-1), []),
  (41, .invokevirtual 62, 3, 22, 2, 4, 0, []),
  (44, .iconst 1, 1, 0, 0, 0, 1, []),
  (45, .ireturn, 1, 0, 0, 0, 0, []),
  (46, .iload_n 2, 1, 2, 0, 0, 0, []),
  (47, .ifCond .eq 37, 3, 84, 0, 0, 0, []),
  (50, .aload_n 0, 1, 0, 0, 0, 0, []),
  (51, .bipush 40, 2, 0, 0, 0, 40, []),
  (53, .invokevirtual 35, 3, 40, 2, 5, 1, []),
  (56, .ifCond .eq 28, 3, 84, 0, 0, 0, []),
  (59, .aload_n 0, 1, 0, 0, 0, 0, []),
  (60, .iload_n 1, 1, 1, 0, 0, 0, []),
  (61, .iconst 1, 1, 0, 0, 0, 1, []),
  (62, .iadd, 1, 0, 0, 0, 0, []),
  (63, .invokevirtual 52, 3, 33, 2, 5, 1, []),
  (66, .ifCond .eq 16, 3, 82, 0, 0, 0, []),
  (69, .aload_n 0, 1, 0, 0, 0, 0, []),
  (70, .bipush 41, 2, 0, 0, 0, 41, []),
  (72, .invokevirtual 35, 3, 40, 2, 5, 1, []),
  (75, .ifCond .eq 7, 3, 82, 0, 0, 0, []),
  (78, .iconst 1, 1, 0, 0, 0, 1, []),
  (79, .goto 4, 3, 83, 0, 0, 0, []),
  (82, .iconst 0, 1, 0, 0, 0, 0, []),
  (83, .ireturn, 1, 0, 0, 0, 0, []),
  (84, .aload_n 0, 1, 0, 0, 0, 0, []),
  (85, .invokevirtual 68, 3, 36, 1, 5, 1, []),
  (88, .ireturn, 1, 0, 0, 0, 0, [])]
def zc_X4_readTest : List (Nat × List Bool) := []
def zo_X4_readTest : List z_Op := [(0, .aload_n 0, 1, 0, 0, 0, 0, []),
  (1, .invokevirtual 71, 3, 39, 1, 5, 1, []),
  (4, .invokestatic 74, 3, 37, 1, 0, 1, []),
  (7, .istore_n 1, 1, 1, 0, 0, 0, []),
  (8, .iload_n 1, 1, 1, 0, 0, 0, []),
  (9, .ifCond .ge 5, 3, 14, 0, 0, 0, []),
  (12, .iconst 0, 1, 0, 0, 0, 0, []),
  (13, .ireturn, 1, 0, 0, 0, 0, []),
  (14, .aload_n 0, 1, 0, 0, 0, 0, []),
  (15, .dup, 1, 0, 0, 0, 0, []),
  (16, .getfield 28, 3, 5, 2, 0, 0, []),
  (19, .iconst 1, 1, 0, 0, 0, 1, []),
  (20, .iadd, 1, 0, 0, 0, 0, []),
  (21, .putfield 28, 3, 5, 2, 0, 0, []),
  (24, .aload_n 0, 1, 0, 0, 0, 0, []),
  (25, .invokevirtual 71, 3, 39, 1, 5, 1, []),
  (28, .invokestatic 78, 3, 38, 1, 0, 1, []),
  (31, .istore_n 2, 1, 2, 0, 0, 0, []),
  (32, .iload_n 2, 1, 2, 0, 0, 0, []),
  (33, .ifCond .ge 5, 3, 38, 0, 0, 0, []),
  (36, .iconst 0, 1, 0, 0, 0, 0, []),
  (37, .ireturn, 1, 0, 0, 0, 0, []),
  (38, .aload_n 0, 1, 0, 0, 0, 0, []),
  (39, .dup, 1, 0, 0, 0, 0, []),
  (40, .getfield 28, 3, 5, 2, 0, 0, []),
  (43, .iconst 1, 1, 0, 0, 0, 1, []),
  (44, .iadd, 1, 0, 0, 0, 0, []),
  (45, .putfield 28, 3, 5, 2, 0, 0, []),
  (48, .aload_n 0, 1, 0, 0, 0, 0, []),
  (49, .invokevirtual 43, 3, 32, 1, 5, 1, []),
  (52, .istore_n 3, 1, 3, 0, 0, 0, []),
  (53, .iload_n 3, 1, 3, 0, 0, 0, []),
  (54, .ifCond .ge 5, 3, 59, 0, 0, 0, []),
  (57, .iconst 0, 1, 0, 0, 0, 0, []),
  (58, .ireturn, 1, 0, 0, 0, 0, []),
  (59, .aload_n 0, 1, 0, 0, 0, 0, []),
  (60, .getfield 15, 3, 5, 3, 0, 0, []),
  (63, .iload_n 1, 1, 1, 0, 0, 0, []),
  (64, .iload_n 2, 1, 2, 0, 0, 0, []),
  (65, .iload_n 3, 1, 3, 0, 0, 0, []),
  (66, .invokevirtual 81, 3, 23, 4, 4, 0, []),
  (69, .iconst 1, 1, 0, 0, 0, 1, []),
  (70, .ireturn, 1, 0, 0, 0, 0, [])]
def zc_X4_letterOf : List (Nat × List Bool) := []
def zo_X4_letterOf : List z_Op := [(0, .iload_n 0, 1, 0, 0, 0, 0, []),
  (1, .lookupswitch 71 #[(98, 59), (104, 69), (107, 63), (112, 61), (118, 65), (119, 67)], 59, 72, 0, 0, 0, [((98), 60), ((104), 70), ((107), 64), ((112), 62), ((118), 66), ((119), 68)]),
  (60, .iconst 0, 1, 0, 0, 0, 0, []),
  (61, .ireturn, 1, 0, 0, 0, 0, []),
  (62, .iconst 1, 1, 0, 0, 0, 1, []),
  (63, .ireturn, 1, 0, 0, 0, 0, []),
  (64, .iconst 2, 1, 0, 0, 0, 2, []),
  (65, .ireturn, 1, 0, 0, 0, 0, []),
  (66, .iconst 3, 1, 0, 0, 0, 3, []),
  (67, .ireturn, 1, 0, 0, 0, 0, []),
  (68, .iconst 4, 1, 0, 0, 0, 4, []),
  (69, .ireturn, 1, 0, 0, 0, 0, []),
  (70, .iconst 5, 1, 0, 0, 0, 5, []),
  (71, .ireturn, 1, 0, 0, 0, 0, []),
  (72, .iconst (-1), 1, 0, 0, 0, (-1), []),
  (73, .ireturn, 1, 0, 0, 0, 0, [])]
def zc_X4_comparisonOf : List (Nat × List Bool) := []
def zo_X4_comparisonOf : List z_Op := [(0, .iload_n 0, 1, 0, 0, 0, 0, []),
  (1, .tableswitch 33 60 62 #[27, 29, 31], 27, 34, 0, 0, 0, [(60, 28), (61, 30), (62, 32)]),
  (28, .iconst 0, 1, 0, 0, 0, 0, []),
  (29, .ireturn, 1, 0, 0, 0, 0, []),
  (30, .iconst 1, 1, 0, 0, 0, 1, []),
  (31, .ireturn, 1, 0, 0, 0, 0, []),
  (32, .iconst 2, 1, 0, 0, 0, 2, []),
  (33, .ireturn, 1, 0, 0, 0, 0, []),
  (34, .iconst (-1), 1, 0, 0, 0, (-1), []),
  (35, .ireturn, 1, 0, 0, 0, 0, [])]
def zc_X4_sign : List (Nat × List Bool) := []
def zo_X4_sign : List z_Op := [(0, .aload_n 0, 1, 0, 0, 0, 0, []),
  (1, .getfield 28, 3, 5, 2, 0, 0, []),
  (4, .aload_n 0, 1, 0, 0, 0, 0, []),
  (5, .getfield 19, 3, 5, 1, 0, 0, []),
  (8, .if_icmp .ge 15, 3, 23, 0, 0, 0, []),
  (11, .aload_n 0, 1, 0, 0, 0, 0, []),
  (12, .getfield 9, 3, 5, 0, 0, 0, []),
  (15, .aload_n 0, 1, 0, 0, 0, 0, []),
  (16, .getfield 28, 3, 5, 2, 0, 0, []),
  (19, .baload, 1, 0, 0, 0, 0, []),
  (20, .goto 4, 3, 24, 0, 0, 0, []),
  (23, .iconst (-1), 1, 0, 0, 0, (-1), []),
  (24, .ireturn, 1, 0, 0, 0, 0, [])]
def zc_X4_skip : List (Nat × List Bool) := []
def zo_X4_skip : List z_Op := [(0, .aload_n 0, 1, 0, 0, 0, 0, []),
  (1, .invokevirtual 71, 3, 39, 1, 5, 1, []),
  (4, .iload_n 1, 1, 1, 0, 0, 0, []),
  (5, .if_icmp .eq 5, 3, 10, 0, 0, 0, []),
  (8, .iconst 0, 1, 0, 0, 0, 0, []),
  (9, .ireturn, 1, 0, 0, 0, 0, []),
  (10, .aload_n 0, 1, 0, 0, 0, 0, []),
  (11, .dup, 1, 0, 0, 0, 0, []),
  (12, .getfield 28, 3, 5, 2, 0, 0, []),
  (15, .iconst 1, 1, 0, 0, 0, 1, []),
  (16, .iadd, 1, 0, 0, 0, 0, []),
  (17, .putfield 28, 3, 5, 2, 0, 0, []),
  (20, .iconst 1, 1, 0, 0, 0, 1, []),
  (21, .ireturn, 1, 0, 0, 0, 0, [])]
def zc_X5_above : List (Nat × List Bool) := []
def zo_X5_above : List z_Op := [(0, .iload_n 0, 1, 0, 0, 0, 0, []),
  (1, .tableswitch 33 4 6 #[27, 29, 31], 27, 34, 0, 0, 0, [(4, 28), (5, 30), (6, 32)]),
  (28, .iconst 1, 1, 0, 0, 0, 1, []),
  (29, .ireturn, 1, 0, 0, 0, 0, []),
  (30, .iconst 2, 1, 0, 0, 0, 2, []),
  (31, .ireturn, 1, 0, 0, 0, 0, []),
  (32, .iconst 3, 1, 0, 0, 0, 3, []),
  (33, .ireturn, 1, 0, 0, 0, 0, []),
  (34, .iconst 0, 1, 0, 0, 0, 0, []),
  (35, .ireturn, 1, 0, 0, 0, 0, [])]
def zc_X5_isOrIsUnder : List (Nat × List Bool) := [(4, [false, true, true, true])]
def zo_X5_isOrIsUnder : List z_Op := [(0, .iload_n 0, 1, 0, 0, 0, 0, []),
  (1, .istore_n 2, 1, 2, 0, 0, 0, []),
  (2, .iconst 0, 1, 0, 0, 0, 0, []),
  (3, .istore_n 3, 1, 3, 0, 0, 0, []),
  (4, .iload_n 3, 1, 3, 0, 0, 0, []),
  (5, .bipush 6, 2, 0, 0, 0, 6, []),
  (7, .if_icmp .ge 19, 3, 26, 0, 0, 0, []),
  (10, .iload_n 2, 1, 2, 0, 0, 0, []),
  (11, .iload_n 1, 1, 1, 0, 0, 0, []),
  (12, .if_icmp .eq 14, 3, 26, 0, 0, 0, []),
  (15, .iload_n 2, 1, 2, 0, 0, 0, []),
  (16, .invokestatic 9, 3, 41, 1, 0, 1, []),
  (19, .istore_n 2, 1, 2, 0, 0, 0, []),
  (20, .iinc 3 1, 3, 3, 0, 0, 1, []),
  (23, .goto (-19), 3, 4, 0, 0, 0, []),
  (26, .iload_n 2, 1, 2, 0, 0, 0, []),
  (27, .iload_n 1, 1, 1, 0, 0, 0, []),
  (28, .if_icmp .ne 7, 3, 35, 0, 0, 0, []),
  (31, .iconst 1, 1, 0, 0, 0, 1, []),
  (32, .goto 4, 3, 36, 0, 0, 0, []),
  (35, .iconst 0, 1, 0, 0, 0, 0, []),
  (36, .ireturn, 1, 0, 0, 0, 0, [])]
def zc_X6_init : List (Nat × List Bool) := []
def zo_X6_init : List z_Op := [(0, .aload_n 0, 1, 0, 0, 0, 0, []),
  (1, .invokespecial 3, 3, 1000, 1, 0, 0, []),
  (4, .aload_n 0, 1, 0, 0, 0, 0, []),
  (5, .bipush 36, 2, 0, 0, 0, 36, []),
  (7, .newarray .int, 2, 1, 0, 0, 0, []),
  (9, .putfield 9, 3, 6, 0, 0, 0, []),
  (12, .aload_n 0, 1, 0, 0, 0, 0, []),
  (13, .bipush 6, 2, 0, 0, 0, 6, []),
  (15, .newarray .boolean, 2, 2, 0, 0, 0, []),
  (17, .putfield 15, 3, 6, 1, 0, 0, []),
  (20, .aload_n 0, 1, 0, 0, 0, 0, []),
  (21, .bipush 6, 2, 0, 0, 0, 6, []),
  (23, .newarray .int, 2, 1, 0, 0, 0, []),
  (25, .putfield 19, 3, 6, 2, 0, 0, []),
  (28, .aload_n 0, 1, 0, 0, 0, 0, []),
  (29, .bipush 6, 2, 0, 0, 0, 6, []),
  (31, .newarray .int, 2, 1, 0, 0, 0, []),
  (33, .putfield 22, 3, 6, 4, 0, 0, []),
  (36, .return_, 1, 0, 0, 0, 0, [])]
def zc_X6_foresee : List (Nat × List Bool) := [(11, [true, true, true, true, true, false]), (48, [true, true, true, true, true, true])]
def zo_X6_foresee : List z_Op := [(0, .aload_n 0, 1, 0, 0, 0, 0, []),
  (1, .aload_n 1, 1, 1, 0, 0, 0, []),
  (2, .getfield 25, 3, 7, 1, 0, 0, []),
  (5, .putfield 31, 3, 6, 3, 0, 0, []),
  (8, .iconst 0, 1, 0, 0, 0, 0, []),
  (9, .istore 4, 2, 4, 0, 0, 0, []),
  (11, .iload 4, 2, 4, 0, 0, 0, []),
  (13, .aload_n 0, 1, 0, 0, 0, 0, []),
  (14, .getfield 31, 3, 6, 3, 0, 0, []),
  (17, .if_icmp .ge 81, 3, 98, 0, 0, 0, []),
  (20, .aload_n 0, 1, 0, 0, 0, 0, []),
  (21, .getfield 15, 3, 6, 1, 0, 0, []),
  (24, .iload 4, 2, 4, 0, 0, 0, []),
  (26, .aload_n 1, 1, 1, 0, 0, 0, []),
  (27, .getfield 32, 3, 7, 0, 0, 0, []),
  (30, .iload 4, 2, 4, 0, 0, 0, []),
  (32, .aaload, 1, 0, 0, 0, 0, []),
  (33, .getfield 36, 3, 2, 5, 0, 0, []),
  (36, .ifCond .ne 7, 3, 43, 0, 0, 0, []),
  (39, .iconst 1, 1, 0, 0, 0, 1, []),
  (40, .goto 4, 3, 44, 0, 0, 0, []),
  (43, .iconst 0, 1, 0, 0, 0, 0, []),
  (44, .bastore, 1, 0, 0, 0, 0, []),
  (45, .iconst 0, 1, 0, 0, 0, 0, []),
  (46, .istore 5, 2, 5, 0, 0, 0, []),
  (48, .iload 5, 2, 5, 0, 0, 0, []),
  (50, .bipush 6, 2, 0, 0, 0, 6, []),
  (52, .if_icmp .ge 40, 3, 92, 0, 0, 0, []),
  (55, .aload_n 0, 1, 0, 0, 0, 0, []),
  (56, .getfield 9, 3, 6, 0, 0, 0, []),
  (59, .iload 4, 2, 4, 0, 0, 0, []),
  (61, .bipush 6, 2, 0, 0, 0, 6, []),
  (63, .imul, 1, 0, 0, 0, 0, []),
  (64, .iload 5, 2, 5, 0, 0, 0, []),
  (66, .iadd, 1, 0, 0, 0, 0, []),
  (67, .aload_n 2, 1, 2, 0, 0, 0, []),
  (68, .iload_n 3, 1, 3, 0, 0, 0, []),
  (69, .aload_n 1, 1, 1, 0, 0, 0, []),
  (70, .getfield 32, 3, 7, 0, 0, 0, []),
  (73, .iload 4, 2, 4, 0, 0, 0, []),
  (75, .aaload, 1, 0, 0, 0, 0, []),
  (76, .iload 5, 2, 5, 0, 0, 0, []),
  (78, .aload_n 1, 1, 1, 0, 0, 0, []),
  (79, .getfield 42, 3, 7, 2, 0, 0, []),
  (82, .invokevirtual 46, 3, 19, 5, 3, 1, []),
  (85, .iastore, 1, 0, 0, 0, 0, []),
  (86, .iinc 5 1, 3, 5, 0, 0, 1, []),
  (89, .goto (-41), 3, 48, 0, 0, 0, []),
  (92, .iinc 4 1, 3, 4, 0, 0, 1, []),
  (95, .goto (-84), 3, 11, 0, 0, 0, []),
  (98, .return_, 1, 0, 0, 0, 0, [])]
def zc_X6_moreByChange : List (Nat × List Bool) := []
def zo_X6_moreByChange : List z_Op := [(0, .aload_n 0, 1, 0, 0, 0, 0, []),
  (1, .aload_n 1, 1, 1, 0, 0, 0, []),
  (2, .aload_n 2, 1, 2, 0, 0, 0, []),
  (3, .getfield 52, 3, 2, 4, 0, 0, []),
  (6, .invokevirtual 55, 3, 46, 3, 6, 1, []),
  (9, .aload_n 0, 1, 0, 0, 0, 0, []),
  (10, .aload_n 2, 1, 2, 0, 0, 0, []),
  (11, .aload_n 1, 1, 1, 0, 0, 0, []),
  (12, .getfield 52, 3, 2, 4, 0, 0, []),
  (15, .invokevirtual 55, 3, 46, 3, 6, 1, []),
  (18, .iadd, 1, 0, 0, 0, 0, []),
  (19, .ireturn, 1, 0, 0, 0, 0, [])]
def zc_X6_moreByMove : List (Nat × List Bool) := []
def zo_X6_moreByMove : List z_Op := [(0, .aload_n 1, 1, 1, 0, 0, 0, []),
  (1, .getfield 59, 3, 2, 0, 0, 0, []),
  (4, .bipush 6, 2, 0, 0, 0, 6, []),
  (6, .imul, 1, 0, 0, 0, 0, []),
  (7, .istore_n 3, 1, 3, 0, 0, 0, []),
  (8, .aload_n 1, 1, 1, 0, 0, 0, []),
  (9, .getfield 36, 3, 2, 5, 0, 0, []),
  (12, .ifCond .eq 7, 3, 19, 0, 0, 0, []),
  (15, .iconst 0, 1, 0, 0, 0, 0, []),
  (16, .goto 23, 3, 39, 0, 0, 0, []),
  (19, .aload_n 0, 1, 0, 0, 0, 0, []),
  (20, .getfield 9, 3, 6, 0, 0, 0, []),
  (23, .iload_n 3, 1, 3, 0, 0, 0, []),
  (24, .iload_n 2, 1, 2, 0, 0, 0, []),
  (25, .iadd, 1, 0, 0, 0, 0, []),
  (26, .iaload, 1, 0, 0, 0, 0, []),
  (27, .aload_n 0, 1, 0, 0, 0, 0, []),
  (28, .getfield 9, 3, 6, 0, 0, 0, []),
  (31, .iload_n 3, 1, 3, 0, 0, 0, []),
  (32, .aload_n 1, 1, 1, 0, 0, 0, []),
  (33, .getfield 52, 3, 2, 4, 0, 0, []),
  (36, .iadd, 1, 0, 0, 0, 0, []),
  (37, .iaload, 1, 0, 0, 0, 0, []),
  (38, .isub, 1, 0, 0, 0, 0, []),
  (39, .ireturn, 1, 0, 0, 0, 0, [])]
def zc_X6_findBest : List (Nat × List Bool) := []
def zo_X6_findBest : List z_Op := [(0, .aload_n 0, 1, 0, 0, 0, 0, []),
  (1, .iconst (-1), 1, 0, 0, 0, (-1), []),
  (2, .putfield 62, 3, 6, 5, 0, 0, []),
  (5, .aload_n 0, 1, 0, 0, 0, 0, []),
  (6, .iconst 0, 1, 0, 0, 0, 0, []),
  (7, .putfield 65, 3, 6, 6, 0, 0, []),
  (10, .aload_n 0, 1, 0, 0, 0, 0, []),
  (11, .iconst 0, 1, 0, 0, 0, 0, []),
  (12, .iconst 0, 1, 0, 0, 0, 0, []),
  (13, .iconst 0, 1, 0, 0, 0, 0, []),
  (14, .iconst 0, 1, 0, 0, 0, 0, []),
  (15, .invokevirtual 68, 3, 48, 5, 6, 0, []),
  (18, .return_, 1, 0, 0, 0, 0, [])]
def zc_X6_tryFrom : List (Nat × List Bool) := [(19, [true, true, true, true, true, true, false, false])]
def zo_X6_tryFrom : List z_Op := [(0, .iload_n 1, 1, 1, 0, 0, 0, []),
  (1, .aload_n 0, 1, 0, 0, 0, 0, []),
  (2, .getfield 31, 3, 6, 3, 0, 0, []),
  (5, .if_icmp .lt 11, 3, 16, 0, 0, 0, []),
  (8, .aload_n 0, 1, 0, 0, 0, 0, []),
  (9, .iload_n 3, 1, 3, 0, 0, 0, []),
  (10, .iload 4, 2, 4, 0, 0, 0, []),
  (12, .invokevirtual 72, 3, 49, 3, 6, 0, []),
  (15, .return_, 1, 0, 0, 0, 0, []),
  (16, .iconst 0, 1, 0, 0, 0, 0, []),
  (17, .istore 5, 2, 5, 0, 0, 0, []),
  (19, .iload 5, 2, 5, 0, 0, 0, []),
  (21, .bipush 6, 2, 0, 0, 0, 6, []),
  (23, .if_icmp .ge 96, 3, 119, 0, 0, 0, []),
  (26, .iload_n 2, 1, 2, 0, 0, 0, []),
  (27, .iload 5, 2, 5, 0, 0, 0, []),
  (29, .ishr, 1, 0, 0, 0, 0, []),
  (30, .iconst 1, 1, 0, 0, 0, 1, []),
  (31, .iand, 1, 0, 0, 0, 0, []),
  (32, .ifCond .ne 81, 3, 113, 0, 0, 0, []),
  (35, .aload_n 0, 1, 0, 0, 0, 0, []),
  (36, .getfield 19, 3, 6, 2, 0, 0, []),
  (39, .iload_n 1, 1, 1, 0, 0, 0, []),
  (40, .iload 5, 2, 5, 0, 0, 0, []),
  (42, .iastore, 1, 0, 0, 0, 0, []),
  (43, .aload_n 0, 1, 0, 0, 0, 0, []),
  (44, .getfield 15, 3, 6, 1, 0, 0, []),
  (47, .iload_n 1, 1, 1, 0, 0, 0, []),
  (48, .baload, 1, 0, 0, 0, 0, []),
  (49, .ifCond .eq 18, 3, 67, 0, 0, 0, []),
  (52, .aload_n 0, 1, 0, 0, 0, 0, []),
  (53, .getfield 9, 3, 6, 0, 0, 0, []),
  (56, .iload_n 1, 1, 1, 0, 0, 0, []),
  (57, .bipush 6, 2, 0, 0, 0, 6, []),
  (59, .imul, 1, 0, 0, 0, 0, []),
  (60, .iload 5, 2, 5, 0, 0, 0, []),
  (62, .iadd, 1, 0, 0, 0, 0, []),
  (63, .iaload, 1, 0, 0, 0, 0, []),
  (64, .goto 4, 3, 68, 0, 0, 0, []),
  (67, .iconst 0, 1, 0, 0, 0, 0, []),
  (68, .istore 6, 2, 6, 0, 0, 0, []),
  (70, .aload_n 0, 1, 0, 0, 0, 0, []),
  (71, .getfield 15, 3, 6, 1, 0, 0, []),
  (74, .iload_n 1, 1, 1, 0, 0, 0, []),
  (75, .baload, 1, 0, 0, 0, 0, []),
  (76, .ifCond .eq 12, 3, 88, 0, 0, 0, []),
  (79, .iload 6, 2, 6, 0, 0, 0, []),
  (81, .ifCond .ne 7, 3, 88, 0, 0, 0, []),
  (84, .iconst 1, 1, 0, 0, 0, 1, []),
  (85, .goto 4, 3, 89, 0, 0, 0, []),
  (88, .iconst 0, 1, 0, 0, 0, 0, []),
  (89, .istore 7, 2, 7, 0, 0, 0, []),
  (91, .aload_n 0, 1, 0, 0, 0, 0, []),
  (92, .iload_n 1, 1, 1, 0, 0, 0, []),
  (93, .iconst 1, 1, 0, 0, 0, 1, []),
  (94, .iadd, 1, 0, 0, 0, 0, []),
  (95, .iload_n 2, 1, 2, 0, 0, 0, []),
  (96, .iconst 1, 1, 0, 0, 0, 1, []),
  (97, .iload 5, 2, 5, 0, 0, 0, []),
  (99, .ishl, 1, 0, 0, 0, 0, []),
  (100, .ior, 1, 0, 0, 0, 0, []),
  (101, .iload_n 3, 1, 3, 0, 0, 0, []),
  (102, .iload 7, 2, 7, 0, 0, 0, []),
  (104, .iadd, 1, 0, 0, 0, 0, []),
  (105, .iload 4, 2, 4, 0, 0, 0, []),
  (107, .iload 6, 2, 6, 0, 0, 0, []),
  (109, .iadd, 1, 0, 0, 0, 0, []),
  (110, .invokevirtual 68, 3, 48, 5, 6, 0, []),
  (113, .iinc 5 1, 3, 5, 0, 0, 1, []),
  (116, .goto (-97), 3, 19, 0, 0, 0, []),
  (119, .return_, 1, 0, 0, 0, 0, [])]
def zc_X6_keepIfBetter : List (Nat × List Bool) := []
def zo_X6_keepIfBetter : List z_Op := [(0, .iload_n 1, 1, 1, 0, 0, 0, []),
  (1, .aload_n 0, 1, 0, 0, 0, 0, []),
  (2, .getfield 62, 3, 6, 5, 0, 0, []),
  (5, .if_icmp .gt 19, 3, 24, 0, 0, 0, []),
  (8, .iload_n 1, 1, 1, 0, 0, 0, []),
  (9, .aload_n 0, 1, 0, 0, 0, 0, []),
  (10, .getfield 62, 3, 6, 5, 0, 0, []),
  (13, .if_icmp .ne 38, 3, 51, 0, 0, 0, []),
  (16, .iload_n 2, 1, 2, 0, 0, 0, []),
  (17, .aload_n 0, 1, 0, 0, 0, 0, []),
  (18, .getfield 65, 3, 6, 6, 0, 0, []),
  (21, .if_icmp .ge 30, 3, 51, 0, 0, 0, []),
  (24, .aload_n 0, 1, 0, 0, 0, 0, []),
  (25, .iload_n 1, 1, 1, 0, 0, 0, []),
  (26, .putfield 62, 3, 6, 5, 0, 0, []),
  (29, .aload_n 0, 1, 0, 0, 0, 0, []),
  (30, .iload_n 2, 1, 2, 0, 0, 0, []),
  (31, .putfield 65, 3, 6, 6, 0, 0, []),
  (34, .aload_n 0, 1, 0, 0, 0, 0, []),
  (35, .getfield 19, 3, 6, 2, 0, 0, []),
  (38, .iconst 0, 1, 0, 0, 0, 0, []),
  (39, .aload_n 0, 1, 0, 0, 0, 0, []),
  (40, .getfield 22, 3, 6, 4, 0, 0, []),
  (43, .iconst 0, 1, 0, 0, 0, 0, []),
  (44, .aload_n 0, 1, 0, 0, 0, 0, []),
  (45, .getfield 31, 3, 6, 3, 0, 0, []),
  (48, .invokestatic 76, 3, 1003, 5, 0, 0, []),
  (51, .return_, 1, 0, 0, 0, 0, [])]
def zc_X7_init : List (Nat × List Bool) := [(27, [true, false, true])]
def zo_X7_init : List z_Op := [(0, .aload_n 0, 1, 0, 0, 0, 0, []),
  (1, .invokespecial 3, 3, 1000, 1, 0, 0, []),
  (4, .aload_n 0, 1, 0, 0, 0, 0, []),
  (5, .bipush 6, 2, 0, 0, 0, 6, []),
  (7, .anewarray 9, 3, 2, 0, 0, 0, []),
  (10, .putfield 11, 3, 7, 0, 0, 0, []),
  (13, .aload_n 0, 1, 0, 0, 0, 0, []),
  (14, .new 17, 3, 9, 0, 0, 0, []),
  (17, .dup, 1, 0, 0, 0, 0, []),
  (18, .aload_n 1, 1, 1, 0, 0, 0, []),
  (19, .invokespecial 19, 3, 66, 2, 9, 0, []),
  (22, .putfield 22, 3, 7, 2, 0, 0, []),
  (25, .iconst 0, 1, 0, 0, 0, 0, []),
  (26, .istore_n 2, 1, 2, 0, 0, 0, []),
  (27, .iload_n 2, 1, 2, 0, 0, 0, []),
  (28, .bipush 6, 2, 0, 0, 0, 6, []),
  (30, .if_icmp .ge 23, 3, 53, 0, 0, 0, []),
  (33, .aload_n 0, 1, 0, 0, 0, 0, []),
  (34, .getfield 11, 3, 7, 0, 0, 0, []),
  (37, .iload_n 2, 1, 2, 0, 0, 0, []),
  (38, .new 9, 3, 2, 0, 0, 0, []),
  (41, .dup, 1, 0, 0, 0, 0, []),
  (42, .iload_n 2, 1, 2, 0, 0, 0, []),
  (43, .invokespecial 26, 3, 8, 2, 2, 0, []),
  (46, .aastore, 1, 0, 0, 0, 0, []),
  (47, .iinc 2 1, 3, 2, 0, 0, 1, []),
  (50, .goto (-23), 3, 27, 0, 0, 0, []),
  (53, .return_, 1, 0, 0, 0, 0, [])]
def zc_X7_copyFrom : List (Nat × List Bool) := [(21, [true, true, true])]
def zo_X7_copyFrom : List z_Op := [(0, .aload_n 0, 1, 0, 0, 0, 0, []),
  (1, .aload_n 1, 1, 1, 0, 0, 0, []),
  (2, .getfield 29, 3, 7, 1, 0, 0, []),
  (5, .putfield 29, 3, 7, 1, 0, 0, []),
  (8, .aload_n 0, 1, 0, 0, 0, 0, []),
  (9, .getfield 22, 3, 7, 2, 0, 0, []),
  (12, .aload_n 1, 1, 1, 0, 0, 0, []),
  (13, .getfield 22, 3, 7, 2, 0, 0, []),
  (16, .invokevirtual 33, 3, 67, 2, 9, 0, []),
  (19, .iconst 0, 1, 0, 0, 0, 0, []),
  (20, .istore_n 2, 1, 2, 0, 0, 0, []),
  (21, .iload_n 2, 1, 2, 0, 0, 0, []),
  (22, .aload_n 0, 1, 0, 0, 0, 0, []),
  (23, .getfield 29, 3, 7, 1, 0, 0, []),
  (26, .if_icmp .ge 24, 3, 50, 0, 0, 0, []),
  (29, .aload_n 0, 1, 0, 0, 0, 0, []),
  (30, .getfield 11, 3, 7, 0, 0, 0, []),
  (33, .iload_n 2, 1, 2, 0, 0, 0, []),
  (34, .aaload, 1, 0, 0, 0, 0, []),
  (35, .aload_n 1, 1, 1, 0, 0, 0, []),
  (36, .getfield 11, 3, 7, 0, 0, 0, []),
  (39, .iload_n 2, 1, 2, 0, 0, 0, []),
  (40, .aaload, 1, 0, 0, 0, 0, []),
  (41, .invokevirtual 37, 3, 10, 2, 2, 0, []),
  (44, .iinc 2 1, 3, 2, 0, 0, 1, []),
  (47, .goto (-26), 3, 21, 0, 0, 0, []),
  (50, .return_, 1, 0, 0, 0, 0, [])]
def zc_X7_whoIsAt : List (Nat × List Bool) := [(2, [true, true, true])]
def zo_X7_whoIsAt : List z_Op := [(0, .iconst 0, 1, 0, 0, 0, 0, []),
  (1, .istore_n 2, 1, 2, 0, 0, 0, []),
  (2, .iload_n 2, 1, 2, 0, 0, 0, []),
  (3, .aload_n 0, 1, 0, 0, 0, 0, []),
  (4, .getfield 29, 3, 7, 1, 0, 0, []),
  (7, .if_icmp .ge 24, 3, 31, 0, 0, 0, []),
  (10, .aload_n 0, 1, 0, 0, 0, 0, []),
  (11, .getfield 11, 3, 7, 0, 0, 0, []),
  (14, .iload_n 2, 1, 2, 0, 0, 0, []),
  (15, .aaload, 1, 0, 0, 0, 0, []),
  (16, .getfield 40, 3, 2, 4, 0, 0, []),
  (19, .iload_n 1, 1, 1, 0, 0, 0, []),
  (20, .if_icmp .ne 5, 3, 25, 0, 0, 0, []),
  (23, .iload_n 2, 1, 2, 0, 0, 0, []),
  (24, .ireturn, 1, 0, 0, 0, 0, []),
  (25, .iinc 2 1, 3, 2, 0, 0, 1, []),
  (28, .goto (-26), 3, 2, 0, 0, 0, []),
  (31, .bipush (-5), 2, 0, 0, 0, (-5), []),
  (33, .ireturn, 1, 0, 0, 0, 0, [])]
def zc_X7_freePlace : List (Nat × List Bool) := [(2, [true, true])]
def zo_X7_freePlace : List z_Op := [(0, .iconst 0, 1, 0, 0, 0, 0, []),
  (1, .istore_n 1, 1, 1, 0, 0, 0, []),
  (2, .iload_n 1, 1, 1, 0, 0, 0, []),
  (3, .iconst 5, 1, 0, 0, 0, 5, []),
  (4, .if_icmp .ge 17, 3, 21, 0, 0, 0, []),
  (7, .aload_n 0, 1, 0, 0, 0, 0, []),
  (8, .iload_n 1, 1, 1, 0, 0, 0, []),
  (9, .invokevirtual 43, 3, 52, 2, 7, 1, []),
  (12, .ifCond .lt 9, 3, 21, 0, 0, 0, []),
  (15, .iinc 1 1, 3, 1, 0, 0, 1, []),
  (18, .goto (-16), 3, 2, 0, 0, 0, []),
  (21, .iload_n 1, 1, 1, 0, 0, 0, []),
  (22, .ireturn, 1, 0, 0, 0, 0, [])]
def zc_X7_letHourGo : List (Nat × List Bool) := [(2, [true, true])]
def zo_X7_letHourGo : List z_Op := [(0, .iconst 0, 1, 0, 0, 0, 0, []),
  (1, .istore_n 1, 1, 1, 0, 0, 0, []),
  (2, .iload_n 1, 1, 1, 0, 0, 0, []),
  (3, .aload_n 0, 1, 0, 0, 0, 0, []),
  (4, .getfield 29, 3, 7, 1, 0, 0, []),
  (7, .if_icmp .ge 22, 3, 29, 0, 0, 0, []),
  (10, .aload_n 0, 1, 0, 0, 0, 0, []),
  (11, .getfield 11, 3, 7, 0, 0, 0, []),
  (14, .iload_n 1, 1, 1, 0, 0, 0, []),
  (15, .aaload, 1, 0, 0, 0, 0, []),
  (16, .aload_n 0, 1, 0, 0, 0, 0, []),
  (17, .getfield 22, 3, 7, 2, 0, 0, []),
  (20, .invokevirtual 47, 3, 15, 2, 2, 0, []),
  (23, .iinc 1 1, 3, 1, 0, 0, 1, []),
  (26, .goto (-24), 3, 2, 0, 0, 0, []),
  (29, .aload_n 0, 1, 0, 0, 0, 0, []),
  (30, .getfield 22, 3, 7, 2, 0, 0, []),
  (33, .invokevirtual 50, 3, 70, 1, 9, 0, []),
  (36, .return_, 1, 0, 0, 0, 0, [])]
def zc_X7_letHoursGo : List (Nat × List Bool) := [(2, [true, true, true])]
def zo_X7_letHoursGo : List z_Op := [(0, .iconst 0, 1, 0, 0, 0, 0, []),
  (1, .istore_n 2, 1, 2, 0, 0, 0, []),
  (2, .iload_n 2, 1, 2, 0, 0, 0, []),
  (3, .iload_n 1, 1, 1, 0, 0, 0, []),
  (4, .if_icmp .ge 13, 3, 17, 0, 0, 0, []),
  (7, .aload_n 0, 1, 0, 0, 0, 0, []),
  (8, .invokevirtual 52, 3, 54, 1, 7, 0, []),
  (11, .iinc 2 1, 3, 2, 0, 0, 1, []),
  (14, .goto (-12), 3, 2, 0, 0, 0, []),
  (17, .return_, 1, 0, 0, 0, 0, [])]
def zc_X7_follow : List (Nat × List Bool) := []
def zo_X7_follow : List z_Op := [(0, .iload_n 1, 1, 1, 0, 0, 0, []),
  (1, .ifCond .ne 10, 3, 11, 0, 0, 0, []),
  (4, .aload_n 0, 1, 0, 0, 0, 0, []),
  (5, .invokevirtual 52, 3, 54, 1, 7, 0, []),
  (8, .goto 59, 3, 67, 0, 0, 0, []),
  (11, .iload_n 1, 1, 1, 0, 0, 0, []),
  (12, .iconst 1, 1, 0, 0, 0, 1, []),
  (13, .if_icmp .ne 23, 3, 36, 0, 0, 0, []),
  (16, .aload_n 0, 1, 0, 0, 0, 0, []),
  (17, .getfield 22, 3, 7, 2, 0, 0, []),
  (20, .getfield 53, 3, 9, 1, 0, 0, []),
  (23, .ifCond .le 44, 3, 67, 0, 0, 0, []),
  (26, .aload_n 0, 1, 0, 0, 0, 0, []),
  (27, .getfield 22, 3, 7, 2, 0, 0, []),
  (30, .invokevirtual 56, 3, 69, 1, 9, 0, []),
  (33, .goto 34, 3, 67, 0, 0, 0, []),
  (36, .iload_n 2, 1, 2, 0, 0, 0, []),
  (37, .ifCond .lt 30, 3, 67, 0, 0, 0, []),
  (40, .iload_n 2, 1, 2, 0, 0, 0, []),
  (41, .aload_n 0, 1, 0, 0, 0, 0, []),
  (42, .getfield 29, 3, 7, 1, 0, 0, []),
  (45, .if_icmp .ge 22, 3, 67, 0, 0, 0, []),
  (48, .aload_n 0, 1, 0, 0, 0, 0, []),
  (49, .getfield 11, 3, 7, 0, 0, 0, []),
  (52, .iload_n 2, 1, 2, 0, 0, 0, []),
  (53, .aaload, 1, 0, 0, 0, 0, []),
  (54, .iload_n 1, 1, 1, 0, 0, 0, []),
  (55, .iconst 2, 1, 0, 0, 0, 2, []),
  (56, .if_icmp .ne 7, 3, 63, 0, 0, 0, []),
  (59, .iconst 1, 1, 0, 0, 0, 1, []),
  (60, .goto 4, 3, 64, 0, 0, 0, []),
  (63, .iconst 0, 1, 0, 0, 0, 0, []),
  (64, .putfield 59, 3, 2, 5, 0, 0, []),
  (67, .return_, 1, 0, 0, 0, 0, [])]
def zc_X7_wetOfThoseHere : List (Nat × List Bool) := [(4, [true, true, true])]
def zo_X7_wetOfThoseHere : List z_Op := [(0, .iconst 0, 1, 0, 0, 0, 0, []),
  (1, .istore_n 1, 1, 1, 0, 0, 0, []),
  (2, .iconst 0, 1, 0, 0, 0, 0, []),
  (3, .istore_n 2, 1, 2, 0, 0, 0, []),
  (4, .iload_n 2, 1, 2, 0, 0, 0, []),
  (5, .aload_n 0, 1, 0, 0, 0, 0, []),
  (6, .getfield 29, 3, 7, 1, 0, 0, []),
  (9, .if_icmp .ge 37, 3, 46, 0, 0, 0, []),
  (12, .iload_n 1, 1, 1, 0, 0, 0, []),
  (13, .aload_n 0, 1, 0, 0, 0, 0, []),
  (14, .getfield 11, 3, 7, 0, 0, 0, []),
  (17, .iload_n 2, 1, 2, 0, 0, 0, []),
  (18, .aaload, 1, 0, 0, 0, 0, []),
  (19, .getfield 59, 3, 2, 5, 0, 0, []),
  (22, .ifCond .eq 7, 3, 29, 0, 0, 0, []),
  (25, .iconst 0, 1, 0, 0, 0, 0, []),
  (26, .goto 12, 3, 38, 0, 0, 0, []),
  (29, .aload_n 0, 1, 0, 0, 0, 0, []),
  (30, .getfield 11, 3, 7, 0, 0, 0, []),
  (33, .iload_n 2, 1, 2, 0, 0, 0, []),
  (34, .aaload, 1, 0, 0, 0, 0, []),
  (35, .getfield 63, 3, 2, 3, 0, 0, []),
  (38, .iadd, 1, 0, 0, 0, 0, []),
  (39, .istore_n 1, 1, 1, 0, 0, 0, []),
  (40, .iinc 2 1, 3, 2, 0, 0, 1, []),
  (43, .goto (-39), 3, 4, 0, 0, 0, []),
  (46, .iload_n 1, 1, 1, 0, 0, 0, []),
  (47, .ireturn, 1, 0, 0, 0, 0, [])]
def zc_X7_cracksOfAll : List (Nat × List Bool) := [(4, [true, true, true])]
def zo_X7_cracksOfAll : List z_Op := [(0, .iconst 0, 1, 0, 0, 0, 0, []),
  (1, .istore_n 1, 1, 1, 0, 0, 0, []),
  (2, .iconst 0, 1, 0, 0, 0, 0, []),
  (3, .istore_n 2, 1, 2, 0, 0, 0, []),
  (4, .iload_n 2, 1, 2, 0, 0, 0, []),
  (5, .aload_n 0, 1, 0, 0, 0, 0, []),
  (6, .getfield 29, 3, 7, 1, 0, 0, []),
  (9, .if_icmp .ge 21, 3, 30, 0, 0, 0, []),
  (12, .iload_n 1, 1, 1, 0, 0, 0, []),
  (13, .aload_n 0, 1, 0, 0, 0, 0, []),
  (14, .getfield 11, 3, 7, 0, 0, 0, []),
  (17, .iload_n 2, 1, 2, 0, 0, 0, []),
  (18, .aaload, 1, 0, 0, 0, 0, []),
  (19, .getfield 66, 3, 2, 6, 0, 0, []),
  (22, .iadd, 1, 0, 0, 0, 0, []),
  (23, .istore_n 1, 1, 1, 0, 0, 0, []),
  (24, .iinc 2 1, 3, 2, 0, 0, 1, []),
  (27, .goto (-23), 3, 4, 0, 0, 0, []),
  (30, .iload_n 1, 1, 1, 0, 0, 0, []),
  (31, .ireturn, 1, 0, 0, 0, 0, [])]
def zc_X7_dryOfThoseHere : List (Nat × List Bool) := [(4, [true, true, true])]
def zo_X7_dryOfThoseHere : List z_Op := [(0, .iconst 0, 1, 0, 0, 0, 0, []),
  (1, .istore_n 1, 1, 1, 0, 0, 0, []),
  (2, .iconst 0, 1, 0, 0, 0, 0, []),
  (3, .istore_n 2, 1, 2, 0, 0, 0, []),
  (4, .iload_n 2, 1, 2, 0, 0, 0, []),
  (5, .aload_n 0, 1, 0, 0, 0, 0, []),
  (6, .getfield 29, 3, 7, 1, 0, 0, []),
  (9, .if_icmp .ge 41, 3, 50, 0, 0, 0, []),
  (12, .iload_n 1, 1, 1, 0, 0, 0, []),
  (13, .aload_n 0, 1, 0, 0, 0, 0, []),
  (14, .getfield 11, 3, 7, 0, 0, 0, []),
  (17, .iload_n 2, 1, 2, 0, 0, 0, []),
  (18, .aaload, 1, 0, 0, 0, 0, []),
  (19, .getfield 59, 3, 2, 5, 0, 0, []),
  (22, .ifCond .ne 19, 3, 41, 0, 0, 0, []),
  (25, .aload_n 0, 1, 0, 0, 0, 0, []),
  (26, .getfield 11, 3, 7, 0, 0, 0, []),
  (29, .iload_n 2, 1, 2, 0, 0, 0, []),
  (30, .aaload, 1, 0, 0, 0, 0, []),
  (31, .getfield 63, 3, 2, 3, 0, 0, []),
  (34, .ifCond .ne 7, 3, 41, 0, 0, 0, []),
  (37, .iconst 1, 1, 0, 0, 0, 1, []),
  (38, .goto 4, 3, 42, 0, 0, 0, []),
  (41, .iconst 0, 1, 0, 0, 0, 0, []),
  (42, .iadd, 1, 0, 0, 0, 0, []),
  (43, .istore_n 1, 1, 1, 0, 0, 0, []),
  (44, .iinc 2 1, 3, 2, 0, 0, 1, []),
  (47, .goto (-43), 3, 4, 0, 0, 0, []),
  (50, .iload_n 1, 1, 1, 0, 0, 0, []),
  (51, .ireturn, 1, 0, 0, 0, 0, [])]
def zc_X7_dryBits : List (Nat × List Bool) := [(4, [true, true, true])]
def zo_X7_dryBits : List z_Op := [(0, .iconst 0, 1, 0, 0, 0, 0, []),
  (1, .istore_n 1, 1, 1, 0, 0, 0, []),
  (2, .iconst 0, 1, 0, 0, 0, 0, []),
  (3, .istore_n 2, 1, 2, 0, 0, 0, []),
  (4, .iload_n 2, 1, 2, 0, 0, 0, []),
  (5, .aload_n 0, 1, 0, 0, 0, 0, []),
  (6, .getfield 29, 3, 7, 1, 0, 0, []),
  (9, .if_icmp .ge 31, 3, 40, 0, 0, 0, []),
  (12, .iload_n 1, 1, 1, 0, 0, 0, []),
  (13, .aload_n 0, 1, 0, 0, 0, 0, []),
  (14, .getfield 11, 3, 7, 0, 0, 0, []),
  (17, .iload_n 2, 1, 2, 0, 0, 0, []),
  (18, .aaload, 1, 0, 0, 0, 0, []),
  (19, .getfield 63, 3, 2, 3, 0, 0, []),
  (22, .ifCond .ne 9, 3, 31, 0, 0, 0, []),
  (25, .iconst 1, 1, 0, 0, 0, 1, []),
  (26, .iload_n 2, 1, 2, 0, 0, 0, []),
  (27, .ishl, 1, 0, 0, 0, 0, []),
  (28, .goto 4, 3, 32, 0, 0, 0, []),
  (31, .iconst 0, 1, 0, 0, 0, 0, []),
  (32, .ior, 1, 0, 0, 0, 0, []),
  (33, .istore_n 1, 1, 1, 0, 0, 0, []),
  (34, .iinc 2 1, 3, 2, 0, 0, 1, []),
  (37, .goto (-33), 3, 4, 0, 0, 0, []),
  (40, .iload_n 1, 1, 1, 0, 0, 0, []),
  (41, .ireturn, 1, 0, 0, 0, 0, [])]
def zc_X8_init : List (Nat × List Bool) := []
def zo_X8_init : List z_Op := [(0, .aload_n 0, 1, 0, 0, 0, 0, []),
  (1, .invokespecial 1, 3, 1000, 1, 0, 0, []),
  (4, .aload_n 0, 1, 0, 0, 0, 0, []),
  (5, .iload_n 1, 1, 1, 0, 0, 0, []),
  (6, .newarray .int, 2, 1, 0, 0, 0, []),
  (8, .putfield 7, 3, 8, 0, 0, 0, []),
  (11, .aload_n 0, 1, 0, 0, 0, 0, []),
  (12, .iload_n 1, 1, 1, 0, 0, 0, []),
  (13, .newarray .int, 2, 1, 0, 0, 0, []),
  (15, .putfield 13, 3, 8, 1, 0, 0, []),
  (18, .aload_n 0, 1, 0, 0, 0, 0, []),
  (19, .iload_n 1, 1, 1, 0, 0, 0, []),
  (20, .newarray .int, 2, 1, 0, 0, 0, []),
  (22, .putfield 16, 3, 8, 2, 0, 0, []),
  (25, .return_, 1, 0, 0, 0, 0, [])]
def zc_X8_isFull : List (Nat × List Bool) := []
def zo_X8_isFull : List z_Op := [(0, .aload_n 0, 1, 0, 0, 0, 0, []),
  (1, .getfield 19, 3, 8, 3, 0, 0, []),
  (4, .aload_n 0, 1, 0, 0, 0, 0, []),
  (5, .getfield 7, 3, 8, 0, 0, 0, []),
  (8, .arraylength, 1, 0, 0, 0, 0, []),
  (9, .if_icmp .lt 7, 3, 16, 0, 0, 0, []),
  (12, .iconst 1, 1, 0, 0, 0, 1, []),
  (13, .goto 4, 3, 17, 0, 0, 0, []),
  (16, .iconst 0, 1, 0, 0, 0, 0, []),
  (17, .ireturn, 1, 0, 0, 0, 0, [])]
def zc_X8_append : List (Nat × List Bool) := []
def zo_X8_append : List z_Op := [(0, .aload_n 0, 1, 0, 0, 0, 0, []),
  (1, .getfield 7, 3, 8, 0, 0, 0, []),
  (4, .aload_n 0, 1, 0, 0, 0, 0, []),
  (5, .getfield 19, 3, 8, 3, 0, 0, []),
  (8, .iload_n 1, 1, 1, 0, 0, 0, []),
  (9, .iastore, 1, 0, 0, 0, 0, []),
  (10, .aload_n 0, 1, 0, 0, 0, 0, []),
  (11, .getfield 13, 3, 8, 1, 0, 0, []),
  (14, .aload_n 0, 1, 0, 0, 0, 0, []),
  (15, .getfield 19, 3, 8, 3, 0, 0, []),
  (18, .iload_n 2, 1, 2, 0, 0, 0, []),
  (19, .iastore, 1, 0, 0, 0, 0, []),
  (20, .aload_n 0, 1, 0, 0, 0, 0, []),
  (21, .getfield 16, 3, 8, 2, 0, 0, []),
  (24, .aload_n 0, 1, 0, 0, 0, 0, []),
  (25, .getfield 19, 3, 8, 3, 0, 0, []),
  (28, .iload_n 3, 1, 3, 0, 0, 0, []),
  (29, .iastore, 1, 0, 0, 0, 0, []),
  (30, .aload_n 0, 1, 0, 0, 0, 0, []),
  (31, .dup, 1, 0, 0, 0, 0, []),
  (32, .getfield 19, 3, 8, 3, 0, 0, []),
  (35, .iconst 1, 1, 0, 0, 0, 1, []),
  (36, .iadd, 1, 0, 0, 0, 0, []),
  (37, .putfield 19, 3, 8, 3, 0, 0, []),
  (40, .aload_n 0, 1, 0, 0, 0, 0, []),
  (41, .getfield 19, 3, 8, 3, 0, 0, []),
  (44, .ireturn, 1, 0, 0, 0, 0, [])]
def zc_X8_copyFrom : List (Nat × List Bool) := []
def zo_X8_copyFrom : List z_Op := [(0, .aload_n 0, 1, 0, 0, 0, 0, []),
  (1, .aload_n 1, 1, 1, 0, 0, 0, []),
  (2, .getfield 19, 3, 8, 3, 0, 0, []),
  (5, .putfield 19, 3, 8, 3, 0, 0, []),
  (8, .aload_n 1, 1, 1, 0, 0, 0, []),
  (9, .getfield 7, 3, 8, 0, 0, 0, []),
  (12, .iconst 0, 1, 0, 0, 0, 0, []),
  (13, .aload_n 0, 1, 0, 0, 0, 0, []),
  (14, .getfield 7, 3, 8, 0, 0, 0, []),
  (17, .iconst 0, 1, 0, 0, 0, 0, []),
  (18, .aload_n 0, 1, 0, 0, 0, 0, []),
  (19, .getfield 19, 3, 8, 3, 0, 0, []),
  (22, .invokestatic 23, 3, 1003, 5, 0, 0, []),
  (25, .aload_n 1, 1, 1, 0, 0, 0, []),
  (26, .getfield 13, 3, 8, 1, 0, 0, []),
  (29, .iconst 0, 1, 0, 0, 0, 0, []),
  (30, .aload_n 0, 1, 0, 0, 0, 0, []),
  (31, .getfield 13, 3, 8, 1, 0, 0, []),
  (34, .iconst 0, 1, 0, 0, 0, 0, []),
  (35, .aload_n 0, 1, 0, 0, 0, 0, []),
  (36, .getfield 19, 3, 8, 3, 0, 0, []),
  (39, .invokestatic 23, 3, 1003, 5, 0, 0, []),
  (42, .aload_n 1, 1, 1, 0, 0, 0, []),
  (43, .getfield 16, 3, 8, 2, 0, 0, []),
  (46, .iconst 0, 1, 0, 0, 0, 0, []),
  (47, .aload_n 0, 1, 0, 0, 0, 0, []),
  (48, .getfield 16, 3, 8, 2, 0, 0, []),
  (51, .iconst 0, 1, 0, 0, 0, 0, []),
  (52, .aload_n 0, 1, 0, 0, 0, 0, []),
  (53, .getfield 19, 3, 8, 3, 0, 0, []),
  (56, .invokestatic 23, 3, 1003, 5, 0, 0, []),
  (59, .return_, 1, 0, 0, 0, 0, [])]
def zc_X8_mostThirdOf : List (Nat × List Bool) := [(4, [true, true, true, true])]
def zo_X8_mostThirdOf : List z_Op := [(0, .iconst (-1), 1, 0, 0, 0, (-1), []),
  (1, .istore_n 2, 1, 2, 0, 0, 0, []),
  (2, .iconst 0, 1, 0, 0, 0, 0, []),
  (3, .istore_n 3, 1, 3, 0, 0, 0, []),
  (4, .iload_n 3, 1, 3, 0, 0, 0, []),
  (5, .aload_n 0, 1, 0, 0, 0, 0, []),
  (6, .getfield 19, 3, 8, 3, 0, 0, []),
  (9, .if_icmp .ge 30, 3, 39, 0, 0, 0, []),
  (12, .aload_n 0, 1, 0, 0, 0, 0, []),
  (13, .getfield 7, 3, 8, 0, 0, 0, []),
  (16, .iload_n 3, 1, 3, 0, 0, 0, []),
  (17, .iaload, 1, 0, 0, 0, 0, []),
  (18, .iload_n 1, 1, 1, 0, 0, 0, []),
  (19, .if_icmp .ne 14, 3, 33, 0, 0, 0, []),
  (22, .iload_n 2, 1, 2, 0, 0, 0, []),
  (23, .aload_n 0, 1, 0, 0, 0, 0, []),
  (24, .getfield 16, 3, 8, 2, 0, 0, []),
  (27, .iload_n 3, 1, 3, 0, 0, 0, []),
  (28, .iaload, 1, 0, 0, 0, 0, []),
  (29, .invokestatic 29, 3, 1001, 2, 0, 0, []),
  (32, .istore_n 2, 1, 2, 0, 0, 0, []),
  (33, .iinc 3 1, 3, 3, 0, 0, 1, []),
  (36, .goto (-32), 3, 4, 0, 0, 0, []),
  (39, .iload_n 2, 1, 2, 0, 0, 0, []),
  (40, .ireturn, 1, 0, 0, 0, 0, [])]
def zc_X9_init : List (Nat × List Bool) := []
def zo_X9_init : List z_Op := [(0, .aload_n 0, 1, 0, 0, 0, 0, []),
  (1, .invokespecial 3, 3, 1000, 1, 0, 0, []),
  (4, .aload_n 0, 1, 0, 0, 0, 0, []),
  (5, .bipush 10, 2, 0, 0, 0, 10, []),
  (7, .putfield 9, 3, 9, 0, 0, 0, []),
  (10, .aload_n 0, 1, 0, 0, 0, 0, []),
  (11, .iconst 3, 1, 0, 0, 0, 3, []),
  (12, .putfield 15, 3, 9, 1, 0, 0, []),
  (15, .aload_n 0, 1, 0, 0, 0, 0, []),
  (16, .aload_n 1, 1, 1, 0, 0, 0, []),
  (17, .putfield 18, 3, 9, 3, 0, 0, []),
  (20, .return_, 1, 0, 0, 0, 0, [])]
def zc_X9_copyFrom : List (Nat × List Bool) := []
def zo_X9_copyFrom : List z_Op := [(0, .aload_n 0, 1, 0, 0, 0, 0, []),
  (1, .aload_n 1, 1, 1, 0, 0, 0, []),
  (2, .getfield 9, 3, 9, 0, 0, 0, []),
  (5, .putfield 9, 3, 9, 0, 0, 0, []),
  (8, .aload_n 0, 1, 0, 0, 0, 0, []),
  (9, .aload_n 1, 1, 1, 0, 0, 0, []),
  (10, .getfield 15, 3, 9, 1, 0, 0, []),
  (13, .putfield 15, 3, 9, 1, 0, 0, []),
  (16, .aload_n 0, 1, 0, 0, 0, 0, []),
  (17, .aload_n 1, 1, 1, 0, 0, 0, []),
  (18, .getfield 22, 3, 9, 2, 0, 0, []),
  (21, .putfield 22, 3, 9, 2, 0, 0, []),
  (24, .aload_n 0, 1, 0, 0, 0, 0, []),
  (25, .aload_n 1, 1, 1, 0, 0, 0, []),
  (26, .getfield 18, 3, 9, 3, 0, 0, []),
  (29, .putfield 18, 3, 9, 3, 0, 0, []),
  (32, .return_, 1, 0, 0, 0, 0, [])]
def zc_X9_warmAt : List (Nat × List Bool) := []
def zo_X9_warmAt : List z_Op := [(0, .iconst 0, 1, 0, 0, 0, 0, []),
  (1, .aload_n 0, 1, 0, 0, 0, 0, []),
  (2, .getfield 9, 3, 9, 0, 0, 0, []),
  (5, .iconst 3, 1, 0, 0, 0, 3, []),
  (6, .iload_n 1, 1, 1, 0, 0, 0, []),
  (7, .imul, 1, 0, 0, 0, 0, []),
  (8, .isub, 1, 0, 0, 0, 0, []),
  (9, .invokestatic 25, 3, 1001, 2, 0, 0, []),
  (12, .ireturn, 1, 0, 0, 0, 0, [])]
def zc_X9_burnLog : List (Nat × List Bool) := []
def zo_X9_burnLog : List z_Op := [(0, .aload_n 0, 1, 0, 0, 0, 0, []),
  (1, .dup, 1, 0, 0, 0, 0, []),
  (2, .getfield 15, 3, 9, 1, 0, 0, []),
  (5, .iconst 1, 1, 0, 0, 0, 1, []),
  (6, .isub, 1, 0, 0, 0, 0, []),
  (7, .putfield 15, 3, 9, 1, 0, 0, []),
  (10, .aload_n 0, 1, 0, 0, 0, 0, []),
  (11, .bipush 30, 2, 0, 0, 0, 30, []),
  (13, .aload_n 0, 1, 0, 0, 0, 0, []),
  (14, .getfield 9, 3, 9, 0, 0, 0, []),
  (17, .aload_n 0, 1, 0, 0, 0, 0, []),
  (18, .getfield 18, 3, 9, 3, 0, 0, []),
  (21, .getfield 31, 3, 4, 1, 0, 0, []),
  (24, .iadd, 1, 0, 0, 0, 0, []),
  (25, .invokestatic 36, 3, 1002, 2, 0, 0, []),
  (28, .putfield 9, 3, 9, 0, 0, 0, []),
  (31, .return_, 1, 0, 0, 0, 0, [])]
def zc_X9_letHourGo : List (Nat × List Bool) := []
def zo_X9_letHourGo : List z_Op := [(0, .aload_n 0, 1, 0, 0, 0, 0, []),
  (1, .iconst 0, 1, 0, 0, 0, 0, []),
  (2, .aload_n 0, 1, 0, 0, 0, 0, []),
  (3, .getfield 9, 3, 9, 0, 0, 0, []),
  (6, .aload_n 0, 1, 0, 0, 0, 0, []),
  (7, .getfield 18, 3, 9, 3, 0, 0, []),
  (10, .getfield 39, 3, 4, 0, 0, 0, []),
  (13, .isub, 1, 0, 0, 0, 0, []),
  (14, .invokestatic 25, 3, 1001, 2, 0, 0, []),
  (17, .putfield 9, 3, 9, 0, 0, 0, []),
  (20, .aload_n 0, 1, 0, 0, 0, 0, []),
  (21, .dup, 1, 0, 0, 0, 0, []),
  (22, .getfield 22, 3, 9, 2, 0, 0, []),
  (25, .iconst 1, 1, 0, 0, 0, 1, []),
  (26, .iadd, 1, 0, 0, 0, 0, []),
  (27, .putfield 22, 3, 9, 2, 0, 0, []),
  (30, .return_, 1, 0, 0, 0, 0, [])]
def zc_X10_init : List (Nat × List Bool) := []
def zo_X10_init : List z_Op := [(0, .aload_n 0, 1, 0, 0, 0, 0, []),
  (1, .invokespecial 3, 3, 1000, 1, 0, 0, []),
  (4, .aload_n 0, 1, 0, 0, 0, 0, []),
  (5, .iconst (-1), 1, 0, 0, 0, (-1), []),
  (6, .putfield 9, 3, 10, 0, 0, 0, []),
  (9, .aload_n 0, 1, 0, 0, 0, 0, []),
  (10, .bipush 60, 2, 0, 0, 0, 60, []),
  (12, .newarray .long, 2, 4, 0, 0, 0, []),
  (14, .putfield 15, 3, 10, 2, 0, 0, []),
  (17, .return_, 1, 0, 0, 0, 0, [])]
def zc_X10_become : List (Nat × List Bool) := []
def zo_X10_become : List z_Op := [(0, .aload_n 0, 1, 0, 0, 0, 0, []),
  (1, .iload_n 1, 1, 1, 0, 0, 0, []),
  (2, .putfield 9, 3, 10, 0, 0, 0, []),
  (5, .aload_n 0, 1, 0, 0, 0, 0, []),
  (6, .iload_n 2, 1, 2, 0, 0, 0, []),
  (7, .putfield 19, 3, 10, 1, 0, 0, []),
  (10, .aload_n 0, 1, 0, 0, 0, 0, []),
  (11, .getfield 15, 3, 10, 2, 0, 0, []),
  (14, .lconst 0, 1, 0, 0, 0, 0, []),
  (15, .invokestatic 22, 3, 229, 2, 0, 0, []),
  (18, .return_, 1, 0, 0, 0, 0, [])]
def zc_X10_holds : List (Nat × List Bool) := []
def zo_X10_holds : List z_Op := [(0, .iload_n 1, 1, 1, 0, 0, 0, []),
  (1, .ifCond .lt 29, 3, 30, 0, 0, 0, []),
  (4, .iload_n 2, 1, 2, 0, 0, 0, []),
  (5, .ifCond .lt 25, 3, 30, 0, 0, 0, []),
  (8, .iload_n 2, 1, 2, 0, 0, 0, []),
  (9, .aload_n 0, 1, 0, 0, 0, 0, []),
  (10, .getfield 19, 3, 10, 1, 0, 0, []),
  (13, .if_icmp .gt 17, 3, 30, 0, 0, 0, []),
  (16, .iload_n 1, 1, 1, 0, 0, 0, []),
  (17, .aload_n 0, 1, 0, 0, 0, 0, []),
  (18, .getfield 19, 3, 10, 1, 0, 0, []),
  (21, .iload_n 2, 1, 2, 0, 0, 0, []),
  (22, .isub, 1, 0, 0, 0, 0, []),
  (23, .if_icmp .gt 7, 3, 30, 0, 0, 0, []),
  (26, .iconst 1, 1, 0, 0, 0, 1, []),
  (27, .goto 4, 3, 31, 0, 0, 0, []),
  (30, .iconst 0, 1, 0, 0, 0, 0, []),
  (31, .ireturn, 1, 0, 0, 0, 0, [])]
def zc_X10_narrowed : List (Nat × List Bool) := []
def zo_X10_narrowed : List z_Op := [(0, .aload_n 0, 1, 0, 0, 0, 0, []),
  (1, .getfield 9, 3, 10, 0, 0, 0, []),
  (4, .tableswitch 48 0 3 #[32, 37, 42, 46], 32, 52, 0, 0, 0, [(0, 36), (1, 41), (2, 46), (3, 50)]),
  (36, .lload_n 1, 1, 1, 0, 0, 0, []),
  (37, .l2i, 1, 0, 0, 0, 0, []),
  (38, .i2b, 1, 0, 0, 0, 0, []),
  (39, .i2l, 1, 0, 0, 0, 0, []),
  (40, .lreturn, 1, 0, 0, 0, 0, []),
  (41, .lload_n 1, 1, 1, 0, 0, 0, []),
  (42, .l2i, 1, 0, 0, 0, 0, []),
  (43, .i2s, 1, 0, 0, 0, 0, []),
  (44, .i2l, 1, 0, 0, 0, 0, []),
  (45, .lreturn, 1, 0, 0, 0, 0, []),
  (46, .lload_n 1, 1, 1, 0, 0, 0, []),
  (47, .l2i, 1, 0, 0, 0, 0, []),
  (48, .i2l, 1, 0, 0, 0, 0, []),
  (49, .lreturn, 1, 0, 0, 0, 0, []),
  (50, .lload_n 1, 1, 1, 0, 0, 0, []),
  (51, .lreturn, 1, 0, 0, 0, 0, []),
  (52, .lload_n 1, 1, 1, 0, 0, 0, []),
  (53, .lconst 0, 1, 0, 0, 0, 0, []),
  (54, .lcmp, 1, 0, 0, 0, 0, []),
  (55, .ifCond .eq 7, 3, 62, 0, 0, 0, []),
  (58, .lconst 1, 1, 0, 0, 0, 0, []),
  (59, .goto 4, 3, 63, 0, 0, 0, []),
  (62, .lconst 0, 1, 0, 0, 0, 0, []),
  (63, .lreturn, 1, 0, 0, 0, 0, [])]
def zc_X11_init : List (Nat × List Bool) := [(190, [true, false, true]), (217, [true, false, true])]
def zo_X11_init : List z_Op := [(0, .aload_n 0, 1, 0, 0, 0, 0, []),
  (1, .invokespecial 3, 3, 1000, 1, 0, 0, []),
  (4, .aload_n 0, 1, 0, 0, 0, 0, []),
  (5, .new 9, 3, 8, 0, 0, 0, []),
  (8, .dup, 1, 0, 0, 0, 0, []),
  (9, .iconst 5, 1, 0, 0, 0, 5, []),
  (10, .invokespecial 13, 3, 61, 2, 8, 0, []),
  (13, .putfield 16, 3, 11, 1, 0, 0, []),
  (16, .aload_n 0, 1, 0, 0, 0, 0, []),
  (17, .new 9, 3, 8, 0, 0, 0, []),
  (20, .dup, 1, 0, 0, 0, 0, []),
  (21, .bipush 10, 2, 0, 0, 0, 10, []),
  (23, .invokespecial 13, 3, 61, 2, 8, 0, []),
  (26, .putfield 20, 3, 11, 2, 0, 0, []),
  (29, .aload_n 0, 1, 0, 0, 0, 0, []),
  (30, .new 9, 3, 8, 0, 0, 0, []),
  (33, .dup, 1, 0, 0, 0, 0, []),
  (34, .bipush 8, 2, 0, 0, 0, 8, []),
  (36, .invokespecial 13, 3, 61, 2, 8, 0, []),
  (39, .putfield 23, 3, 11, 3, 0, 0, []),
  (42, .aload_n 0, 1, 0, 0, 0, 0, []),
  (43, .new 9, 3, 8, 0, 0, 0, []),
  (46, .dup, 1, 0, 0, 0, 0, []),
  (47, .iconst 5, 1, 0, 0, 0, 5, []),
  (48, .invokespecial 13, 3, 61, 2, 8, 0, []),
  (51, .putfield 26, 3, 11, 6, 0, 0, []),
  (54, .aload_n 0, 1, 0, 0, 0, 0, []),
  (55, .new 9, 3, 8, 0, 0, 0, []),
  (58, .dup, 1, 0, 0, 0, 0, []),
  (59, .bipush 10, 2, 0, 0, 0, 10, []),
  (61, .invokespecial 13, 3, 61, 2, 8, 0, []),
  (64, .putfield 29, 3, 11, 7, 0, 0, []),
  (67, .aload_n 0, 1, 0, 0, 0, 0, []),
  (68, .new 9, 3, 8, 0, 0, 0, []),
  (71, .dup, 1, 0, 0, 0, 0, []),
  (72, .bipush 8, 2, 0, 0, 0, 8, []),
  (74, .invokespecial 13, 3, 61, 2, 8, 0, []),
  (77, .putfield 32, 3, 11, 8, 0, 0, []),
  (80, .aload_n 0, 1, 0, 0, 0, 0, []),
  (81, .bipush 6, 2, 0, 0, 0, 6, []),
  (83, .anewarray 35, 3, 4, 0, 0, 0, []),
  (86, .putfield 37, 3, 11, 10, 0, 0, []),
  (89, .aload_n 0, 1, 0, 0, 0, 0, []),
  (90, .bipush 6, 2, 0, 0, 0, 6, []),
  (92, .anewarray 41, 3, 10, 0, 0, 0, []),
  (95, .putfield 43, 3, 11, 12, 0, 0, []),
  (98, .aload_n 0, 1, 0, 0, 0, 0, []),
  (99, .new 47, 3, 1, 0, 0, 0, []),
  (102, .dup, 1, 0, 0, 0, 0, []),
  (103, .invokespecial 49, 3, 0, 1, 1, 0, []),
  (106, .putfield 50, 3, 11, 13, 0, 0, []),
  (109, .aload_n 0, 1, 0, 0, 0, 0, []),
  (110, .new 54, 3, 6, 0, 0, 0, []),
  (113, .dup, 1, 0, 0, 0, 0, []),
  (114, .invokespecial 56, 3, 43, 1, 6, 0, []),
  (117, .putfield 57, 3, 11, 16, 0, 0, []),
  (120, .new 35, 3, 4, 0, 0, 0, []),
  (123, .dup, 1, 0, 0, 0, 0, []),
  (124, .invokespecial 61, 3, 20, 1, 4, 0, []),
  (127, .astore_n 1, 1, 1, 0, 0, 0, []),
  (128, .aload_n 0, 1, 0, 0, 0, 0, []),
  (129, .new 62, 3, 7, 0, 0, 0, []),
  (132, .dup, 1, 0, 0, 0, 0, []),
  (133, .aload_n 1, 1, 1, 0, 0, 0, []),
  (134, .invokespecial 64, 3, 50, 2, 7, 0, []),
  (137, .putfield 67, 3, 11, 0, 0, 0, []),
  (140, .aload_n 0, 1, 0, 0, 0, 0, []),
  (141, .new 62, 3, 7, 0, 0, 0, []),
  (144, .dup, 1, 0, 0, 0, 0, []),
  (145, .aload_n 1, 1, 1, 0, 0, 0, []),
  (146, .invokespecial 64, 3, 50, 2, 7, 0, []),
  (149, .putfield 71, 3, 11, 5, 0, 0, []),
  (152, .aload_n 0, 1, 0, 0, 0, 0, []),
  (153, .new 62, 3, 7, 0, 0, 0, []),
  (156, .dup, 1, 0, 0, 0, 0, []),
  (157, .aload_n 1, 1, 1, 0, 0, 0, []),
  (158, .invokespecial 64, 3, 50, 2, 7, 0, []),
  (161, .putfield 74, 3, 11, 14, 0, 0, []),
  (164, .aload_n 0, 1, 0, 0, 0, 0, []),
  (165, .new 77, 3, 3, 0, 0, 0, []),
  (168, .dup, 1, 0, 0, 0, 0, []),
  (169, .aload_n 1, 1, 1, 0, 0, 0, []),
  (170, .invokespecial 79, 3, 16, 2, 3, 0, []),
  (173, .putfield 80, 3, 11, 15, 0, 0, []),
  (176, .aload_n 0, 1, 0, 0, 0, 0, []),
  (177, .new 84, 3, 5, 0, 0, 0, []),
  (180, .dup, 1, 0, 0, 0, 0, []),
  (181, .aload_n 1, 1, 1, 0, 0, 0, []),
  (182, .invokespecial 86, 3, 27, 2, 5, 0, []),
  (185, .putfield 87, 3, 11, 9, 0, 0, []),
  (188, .iconst 0, 1, 0, 0, 0, 0, []),
  (189, .istore_n 2, 1, 2, 0, 0, 0, []),
  (190, .iload_n 2, 1, 2, 0, 0, 0, []),
  (191, .bipush 6, 2, 0, 0, 0, 6, []),
  (193, .if_icmp .ge 22, 3, 215, 0, 0, 0, []),
  (196, .aload_n 0, 1, 0, 0, 0, 0, []),
  (197, .getfield 37, 3, 11, 10, 0, 0, []),
  (200, .iload_n 2, 1, 2, 0, 0, 0, []),
  (201, .new 35, 3, 4, 0, 0, 0, []),
  (204, .dup, 1, 0, 0, 0, 0, []),
  (205, .invokespecial 61, 3, 20, 1, 4, 0, []),
  (208, .aastore, 1, 0, 0, 0, 0, []),
  (209, .iinc 2 1, 3, 2, 0, 0, 1, []),
  (212, .goto (-22), 3, 190, 0, 0, 0, []),
  (215, .iconst 0, 1, 0, 0, 0, 0, []),
  (216, .istore_n 2, 1, 2, 0, 0, 0, []),
  (217, .iload_n 2, 1, 2, 0, 0, 0, []),
  (218, .bipush 6, 2, 0, 0, 0, 6, []),
  (220, .if_icmp .ge 22, 3, 242, 0, 0, 0, []),
  (223, .aload_n 0, 1, 0, 0, 0, 0, []),
  (224, .getfield 43, 3, 11, 12, 0, 0, []),
  (227, .iload_n 2, 1, 2, 0, 0, 0, []),
  (228, .new 41, 3, 10, 0, 0, 0, []),
  (231, .dup, 1, 0, 0, 0, 0, []),
  (232, .invokespecial 91, 3, 71, 1, 10, 0, []),
  (235, .aastore, 1, 0, 0, 0, 0, []),
  (236, .iinc 2 1, 3, 2, 0, 0, 1, []),
  (239, .goto (-22), 3, 217, 0, 0, 0, []),
  (242, .return_, 1, 0, 0, 0, 0, [])]
def zc_X11_pair : List (Nat × List Bool) := []
def zo_X11_pair : List z_Op := [(0, .iload_n 1, 1, 1, 0, 0, 0, []),
  (1, .bipush 6, 2, 0, 0, 0, 6, []),
  (3, .invokestatic 92, 3, 115, 2, 0, 1, []),
  (6, .ifCond .eq 5, 3, 11, 0, 0, 0, []),
  (9, .iconst (-1), 1, 0, 0, 0, (-1), []),
  (10, .ireturn, 1, 0, 0, 0, 0, []),
  (11, .iload_n 2, 1, 2, 0, 0, 0, []),
  (12, .bipush 9, 2, 0, 0, 0, 9, []),
  (14, .invokestatic 92, 3, 115, 2, 0, 1, []),
  (17, .ifCond .ne 12, 3, 29, 0, 0, 0, []),
  (20, .iload_n 3, 1, 3, 0, 0, 0, []),
  (21, .bipush 99, 2, 0, 0, 0, 99, []),
  (23, .invokestatic 92, 3, 115, 2, 0, 1, []),
  (26, .ifCond .eq 6, 3, 32, 0, 0, 0, []),
  (29, .bipush (-2), 2, 0, 0, 0, (-2), []),
  (31, .ireturn, 1, 0, 0, 0, 0, []),
  (32, .aload_n 0, 1, 0, 0, 0, 0, []),
  (33, .getfield 67, 3, 11, 0, 0, 0, []),
  (36, .getfield 96, 3, 7, 1, 0, 0, []),
  (39, .bipush 6, 2, 0, 0, 0, 6, []),
  (41, .if_icmp .lt 6, 3, 47, 0, 0, 0, []),
  (44, .bipush (-4), 2, 0, 0, 0, (-4), []),
  (46, .ireturn, 1, 0, 0, 0, 0, []),
  (47, .aload_n 0, 1, 0, 0, 0, 0, []),
  (48, .getfield 67, 3, 11, 0, 0, 0, []),
  (51, .getfield 100, 3, 7, 0, 0, 0, []),
  (54, .aload_n 0, 1, 0, 0, 0, 0, []),
  (55, .getfield 67, 3, 11, 0, 0, 0, []),
  (58, .getfield 96, 3, 7, 1, 0, 0, []),
  (61, .aaload, 1, 0, 0, 0, 0, []),
  (62, .iload_n 1, 1, 1, 0, 0, 0, []),
  (63, .iload_n 2, 1, 2, 0, 0, 0, []),
  (64, .iload_n 3, 1, 3, 0, 0, 0, []),
  (65, .aload_n 0, 1, 0, 0, 0, 0, []),
  (66, .getfield 67, 3, 11, 0, 0, 0, []),
  (69, .invokevirtual 104, 3, 53, 1, 7, 1, []),
  (72, .invokevirtual 108, 3, 9, 5, 2, 0, []),
  (75, .aload_n 0, 1, 0, 0, 0, 0, []),
  (76, .getfield 67, 3, 11, 0, 0, 0, []),
  (79, .dup, 1, 0, 0, 0, 0, []),
  (80, .getfield 96, 3, 7, 1, 0, 0, []),
  (83, .iconst 1, 1, 0, 0, 0, 1, []),
  (84, .iadd, 1, 0, 0, 0, 0, []),
  (85, .putfield 96, 3, 7, 1, 0, 0, []),
  (88, .aload_n 0, 1, 0, 0, 0, 0, []),
  (89, .getfield 67, 3, 11, 0, 0, 0, []),
  (92, .getfield 96, 3, 7, 1, 0, 0, []),
  (95, .iconst 1, 1, 0, 0, 0, 1, []),
  (96, .isub, 1, 0, 0, 0, 0, []),
  (97, .ireturn, 1, 0, 0, 0, 0, [])]
def zc_X11_of : List (Nat × List Bool) := []
def zo_X11_of : List z_Op := [(0, .aload_n 0, 1, 0, 0, 0, 0, []),
  (1, .iload_n 1, 1, 1, 0, 0, 0, []),
  (2, .invokevirtual 114, 3, 116, 2, 11, 1, []),
  (5, .ifCond .eq 5, 3, 10, 0, 0, 0, []),
  (8, .iconst (-1), 1, 0, 0, 0, (-1), []),
  (9, .ireturn, 1, 0, 0, 0, 0, []),
  (10, .aload_n 0, 1, 0, 0, 0, 0, []),
  (11, .getfield 67, 3, 11, 0, 0, 0, []),
  (14, .getfield 100, 3, 7, 0, 0, 0, []),
  (17, .iload_n 1, 1, 1, 0, 0, 0, []),
  (18, .aaload, 1, 0, 0, 0, 0, []),
  (19, .astore_n 3, 1, 3, 0, 0, 0, []),
  (20, .iload_n 2, 1, 2, 0, 0, 0, []),
  (21, .bipush 10, 2, 0, 0, 0, 10, []),
  (23, .if_icmp .lt 34, 3, 57, 0, 0, 0, []),
  (26, .iload_n 2, 1, 2, 0, 0, 0, []),
  (27, .bipush 10, 2, 0, 0, 0, 10, []),
  (29, .isub, 1, 0, 0, 0, 0, []),
  (30, .iconst 5, 1, 0, 0, 0, 5, []),
  (31, .invokestatic 92, 3, 115, 2, 0, 1, []),
  (34, .ifCond .eq 7, 3, 41, 0, 0, 0, []),
  (37, .iconst (-1), 1, 0, 0, 0, (-1), []),
  (38, .goto 18, 3, 56, 0, 0, 0, []),
  (41, .aload_n 3, 1, 3, 0, 0, 0, []),
  (42, .iload_n 2, 1, 2, 0, 0, 0, []),
  (43, .bipush 10, 2, 0, 0, 0, 10, []),
  (45, .isub, 1, 0, 0, 0, 0, []),
  (46, .aload_n 0, 1, 0, 0, 0, 0, []),
  (47, .getfield 67, 3, 11, 0, 0, 0, []),
  (50, .getfield 118, 3, 7, 2, 0, 0, []),
  (53, .invokevirtual 122, 3, 11, 3, 2, 1, []),
  (56, .ireturn, 1, 0, 0, 0, 0, []),
  (57, .iload_n 2, 1, 2, 0, 0, 0, []),
  (58, .tableswitch 100 0 6 #[42, 47, 52, 57, 62, 75, 80], 42, 158, 0, 0, 0, [(0, 100), (1, 105), (2, 110), (3, 115), (4, 120), (5, 133), (6, 138)]),
  (100, .aload_n 3, 1, 3, 0, 0, 0, []),
  (101, .getfield 126, 3, 2, 1, 0, 0, []),
  (104, .ireturn, 1, 0, 0, 0, 0, []),
  (105, .aload_n 3, 1, 3, 0, 0, 0, []),
  (106, .getfield 129, 3, 2, 2, 0, 0, []),
  (109, .ireturn, 1, 0, 0, 0, 0, []),
  (110, .aload_n 3, 1, 3, 0, 0, 0, []),
  (111, .getfield 132, 3, 2, 3, 0, 0, []),
  (114, .ireturn, 1, 0, 0, 0, 0, []),
  (115, .aload_n 3, 1, 3, 0, 0, 0, []),
  (116, .getfield 135, 3, 2, 4, 0, 0, []),
  (119, .ireturn, 1, 0, 0, 0, 0, []),
  (120, .aload_n 3, 1, 3, 0, 0, 0, []),
  (121, .getfield 138, 3, 2, 5, 0, 0, []),
  (124, .ifCond .eq 7, 3, 131, 0, 0, 0, []),
  (127, .iconst 1, 1, 0, 0, 0, 1, []),
  (128, .goto 4, 3, 132, 0, 0, 0, []),
  (131, .iconst 0, 1, 0, 0, 0, 0, []),
  (132, .ireturn, 1, 0, 0, 0, 0, []),
  (133, .aload_n 3, 1, 3, 0, 0, 0, []),
  (134, .getfield 142, 3, 2, 6, 0, 0, []),
  (137, .ireturn, 1, 0, 0, 0, 0, []),
  (138, .aload_n 3, 1, 3, 0, 0, 0, []),
  (139, .aload_n 0, 1, 0, 0, 0, 0, []),
  (140, .getfield 67, 3, 11, 0, 0, 0, []),
  (143, .getfield 118, 3, 7, 2, 0, 0, []),
  (146, .invokevirtual 145, 3, 14, 2, 2, 1, []),
  (149, .ifCond .eq 7, 3, 156, 0, 0, 0, []),
  (152, .iconst 1, 1, 0, 0, 0, 1, []),
  (153, .goto 4, 3, 157, 0, 0, 0, []),
  (156, .iconst 0, 1, 0, 0, 0, 0, []),
  (157, .ireturn, 1, 0, 0, 0, 0, []),
  (158, .iconst (-1), 1, 0, 0, 0, (-1), []),
  (159, .ireturn, 1, 0, 0, 0, 0, [])]
def zc_X11_wet : List (Nat × List Bool) := []
def zo_X11_wet : List z_Op := [(0, .aload_n 0, 1, 0, 0, 0, 0, []),
  (1, .iload_n 1, 1, 1, 0, 0, 0, []),
  (2, .invokevirtual 114, 3, 116, 2, 11, 1, []),
  (5, .ifCond .eq 5, 3, 10, 0, 0, 0, []),
  (8, .iconst (-1), 1, 0, 0, 0, (-1), []),
  (9, .ireturn, 1, 0, 0, 0, 0, []),
  (10, .iload_n 2, 1, 2, 0, 0, 0, []),
  (11, .bipush 99, 2, 0, 0, 0, 99, []),
  (13, .invokestatic 92, 3, 115, 2, 0, 1, []),
  (16, .ifCond .eq 6, 3, 22, 0, 0, 0, []),
  (19, .bipush (-2), 2, 0, 0, 0, (-2), []),
  (21, .ireturn, 1, 0, 0, 0, 0, []),
  (22, .aload_n 0, 1, 0, 0, 0, 0, []),
  (23, .getfield 67, 3, 11, 0, 0, 0, []),
  (26, .getfield 100, 3, 7, 0, 0, 0, []),
  (29, .iload_n 1, 1, 1, 0, 0, 0, []),
  (30, .aaload, 1, 0, 0, 0, 0, []),
  (31, .getfield 132, 3, 2, 3, 0, 0, []),
  (34, .istore_n 3, 1, 3, 0, 0, 0, []),
  (35, .aload_n 0, 1, 0, 0, 0, 0, []),
  (36, .getfield 67, 3, 11, 0, 0, 0, []),
  (39, .getfield 100, 3, 7, 0, 0, 0, []),
  (42, .iload_n 1, 1, 1, 0, 0, 0, []),
  (43, .aaload, 1, 0, 0, 0, 0, []),
  (44, .iload_n 2, 1, 2, 0, 0, 0, []),
  (45, .putfield 132, 3, 2, 3, 0, 0, []),
  (48, .iload_n 3, 1, 3, 0, 0, 0, []),
  (49, .ireturn, 1, 0, 0, 0, 0, [])]
def zc_X11_put : List (Nat × List Bool) := []
def zo_X11_put : List z_Op := [(0, .aload_n 0, 1, 0, 0, 0, 0, []),
  (1, .iload_n 1, 1, 1, 0, 0, 0, []),
  (2, .invokevirtual 114, 3, 116, 2, 11, 1, []),
  (5, .ifCond .ne 11, 3, 16, 0, 0, 0, []),
  (8, .iload_n 2, 1, 2, 0, 0, 0, []),
  (9, .iconst 5, 1, 0, 0, 0, 5, []),
  (10, .invokestatic 92, 3, 115, 2, 0, 1, []),
  (13, .ifCond .eq 5, 3, 18, 0, 0, 0, []),
  (16, .iconst (-1), 1, 0, 0, 0, (-1), []),
  (17, .ireturn, 1, 0, 0, 0, 0, []),
  (18, .aload_n 0, 1, 0, 0, 0, 0, []),
  (19, .getfield 67, 3, 11, 0, 0, 0, []),
  (22, .getfield 100, 3, 7, 0, 0, 0, []),
  (25, .iload_n 1, 1, 1, 0, 0, 0, []),
  (26, .aaload, 1, 0, 0, 0, 0, []),
  (27, .getfield 135, 3, 2, 4, 0, 0, []),
  (30, .istore_n 3, 1, 3, 0, 0, 0, []),
  (31, .aload_n 0, 1, 0, 0, 0, 0, []),
  (32, .getfield 67, 3, 11, 0, 0, 0, []),
  (35, .iload_n 2, 1, 2, 0, 0, 0, []),
  (36, .invokevirtual 149, 3, 52, 2, 7, 1, []),
  (39, .istore 4, 2, 4, 0, 0, 0, []),
  (41, .iload 4, 2, 4, 0, 0, 0, []),
  (43, .ifCond .lt 17, 3, 60, 0, 0, 0, []),
  (46, .aload_n 0, 1, 0, 0, 0, 0, []),
  (47, .getfield 67, 3, 11, 0, 0, 0, []),
  (50, .getfield 100, 3, 7, 0, 0, 0, []),
  (53, .iload 4, 2, 4, 0, 0, 0, []),
  (55, .aaload, 1, 0, 0, 0, 0, []),
  (56, .iload_n 3, 1, 3, 0, 0, 0, []),
  (57, .putfield 135, 3, 2, 4, 0, 0, []),
  (60, .aload_n 0, 1, 0, 0, 0, 0, []),
  (61, .getfield 67, 3, 11, 0, 0, 0, []),
  (64, .getfield 100, 3, 7, 0, 0, 0, []),
  (67, .iload_n 1, 1, 1, 0, 0, 0, []),
  (68, .aaload, 1, 0, 0, 0, 0, []),
  (69, .iload_n 2, 1, 2, 0, 0, 0, []),
  (70, .putfield 135, 3, 2, 4, 0, 0, []),
  (73, .iload_n 3, 1, 3, 0, 0, 0, []),
  (74, .ireturn, 1, 0, 0, 0, 0, [])]
def zc_X11_take : List (Nat × List Bool) := []
def zo_X11_take : List z_Op := [(0, .aload_n 0, 1, 0, 0, 0, 0, []),
  (1, .iload_n 1, 1, 1, 0, 0, 0, []),
  (2, .invokevirtual 114, 3, 116, 2, 11, 1, []),
  (5, .ifCond .eq 5, 3, 10, 0, 0, 0, []),
  (8, .iconst (-1), 1, 0, 0, 0, (-1), []),
  (9, .ireturn, 1, 0, 0, 0, 0, []),
  (10, .aload_n 0, 1, 0, 0, 0, 0, []),
  (11, .getfield 67, 3, 11, 0, 0, 0, []),
  (14, .getfield 100, 3, 7, 0, 0, 0, []),
  (17, .iload_n 1, 1, 1, 0, 0, 0, []),
  (18, .aaload, 1, 0, 0, 0, 0, []),
  (19, .getfield 138, 3, 2, 5, 0, 0, []),
  (22, .istore_n 3, 1, 3, 0, 0, 0, []),
  (23, .aload_n 0, 1, 0, 0, 0, 0, []),
  (24, .getfield 67, 3, 11, 0, 0, 0, []),
  (27, .getfield 100, 3, 7, 0, 0, 0, []),
  (30, .iload_n 1, 1, 1, 0, 0, 0, []),
  (31, .aaload, 1, 0, 0, 0, 0, []),
  (32, .iload_n 2, 1, 2, 0, 0, 0, []),
  (33, .putfield 138, 3, 2, 5, 0, 0, []),
  (36, .iload_n 3, 1, 3, 0, 0, 0, []),
  (37, .ifCond .eq 7, 3, 44, 0, 0, 0, []),
  (40, .iconst 1, 1, 0, 0, 0, 1, []),
  (41, .goto 4, 3, 45, 0, 0, 0, []),
  (44, .iconst 0, 1, 0, 0, 0, 0, []),
  (45, .ireturn, 1, 0, 0, 0, 0, [])]
def zc_X11_stoke : List (Nat × List Bool) := []
def zo_X11_stoke : List z_Op := [(0, .aload_n 0, 1, 0, 0, 0, 0, []),
  (1, .getfield 67, 3, 11, 0, 0, 0, []),
  (4, .getfield 118, 3, 7, 2, 0, 0, []),
  (7, .getfield 153, 3, 9, 1, 0, 0, []),
  (10, .ifCond .gt 6, 3, 16, 0, 0, 0, []),
  (13, .bipush (-3), 2, 0, 0, 0, (-3), []),
  (15, .ireturn, 1, 0, 0, 0, 0, []),
  (16, .aload_n 0, 1, 0, 0, 0, 0, []),
  (17, .getfield 67, 3, 11, 0, 0, 0, []),
  (20, .getfield 118, 3, 7, 2, 0, 0, []),
  (23, .invokevirtual 158, 3, 69, 1, 9, 0, []),
  (26, .aload_n 0, 1, 0, 0, 0, 0, []),
  (27, .getfield 67, 3, 11, 0, 0, 0, []),
  (30, .getfield 118, 3, 7, 2, 0, 0, []),
  (33, .getfield 161, 3, 9, 0, 0, 0, []),
  (36, .ireturn, 1, 0, 0, 0, 0, [])]
def zc_X11_set : List (Nat × List Bool) := []
def zo_X11_set : List z_Op := [(0, .iload_n 1, 1, 1, 0, 0, 0, []),
  (1, .iconst 1, 1, 0, 0, 0, 1, []),
  (2, .invokestatic 92, 3, 115, 2, 0, 1, []),
  (5, .ifCond .eq 5, 3, 10, 0, 0, 0, []),
  (8, .iconst (-1), 1, 0, 0, 0, (-1), []),
  (9, .ireturn, 1, 0, 0, 0, 0, []),
  (10, .iload_n 2, 1, 2, 0, 0, 0, []),
  (11, .iload_n 1, 1, 1, 0, 0, 0, []),
  (12, .ifCond .ne 8, 3, 20, 0, 0, 0, []),
  (15, .bipush 30, 2, 0, 0, 0, 30, []),
  (17, .goto 5, 3, 22, 0, 0, 0, []),
  (20, .bipush 9, 2, 0, 0, 0, 9, []),
  (22, .invokestatic 92, 3, 115, 2, 0, 1, []),
  (25, .ifCond .eq 6, 3, 31, 0, 0, 0, []),
  (28, .bipush (-2), 2, 0, 0, 0, (-2), []),
  (30, .ireturn, 1, 0, 0, 0, 0, []),
  (31, .aload_n 0, 1, 0, 0, 0, 0, []),
  (32, .getfield 67, 3, 11, 0, 0, 0, []),
  (35, .getfield 118, 3, 7, 2, 0, 0, []),
  (38, .astore_n 3, 1, 3, 0, 0, 0, []),
  (39, .iload_n 1, 1, 1, 0, 0, 0, []),
  (40, .ifCond .ne 10, 3, 50, 0, 0, 0, []),
  (43, .aload_n 3, 1, 3, 0, 0, 0, []),
  (44, .getfield 161, 3, 9, 0, 0, 0, []),
  (47, .goto 7, 3, 54, 0, 0, 0, []),
  (50, .aload_n 3, 1, 3, 0, 0, 0, []),
  (51, .getfield 153, 3, 9, 1, 0, 0, []),
  (54, .istore 4, 2, 4, 0, 0, 0, []),
  (56, .iload_n 1, 1, 1, 0, 0, 0, []),
  (57, .ifCond .ne 11, 3, 68, 0, 0, 0, []),
  (60, .aload_n 3, 1, 3, 0, 0, 0, []),
  (61, .iload_n 2, 1, 2, 0, 0, 0, []),
  (62, .putfield 161, 3, 9, 0, 0, 0, []),
  (65, .goto 8, 3, 73, 0, 0, 0, []),
  (68, .aload_n 3, 1, 3, 0, 0, 0, []),
  (69, .iload_n 2, 1, 2, 0, 0, 0, []),
  (70, .putfield 153, 3, 9, 1, 0, 0, []),
  (73, .iload 4, 2, 4, 0, 0, 0, []),
  (75, .ireturn, 1, 0, 0, 0, 0, [])]
def zc_X11_row : List (Nat × List Bool) := []
def zo_X11_row : List z_Op := [(0, .aload_n 0, 1, 0, 0, 0, 0, []),
  (1, .iload_n 1, 1, 1, 0, 0, 0, []),
  (2, .invokevirtual 114, 3, 116, 2, 11, 1, []),
  (5, .ifCond .ne 11, 3, 16, 0, 0, 0, []),
  (8, .iload_n 2, 1, 2, 0, 0, 0, []),
  (9, .iconst 3, 1, 0, 0, 0, 3, []),
  (10, .invokestatic 92, 3, 115, 2, 0, 1, []),
  (13, .ifCond .eq 5, 3, 18, 0, 0, 0, []),
  (16, .iconst (-1), 1, 0, 0, 0, (-1), []),
  (17, .ireturn, 1, 0, 0, 0, 0, []),
  (18, .iload_n 3, 1, 3, 0, 0, 0, []),
  (19, .bipush 9, 2, 0, 0, 0, 9, []),
  (21, .invokestatic 92, 3, 115, 2, 0, 1, []),
  (24, .ifCond .eq 6, 3, 30, 0, 0, 0, []),
  (27, .bipush (-2), 2, 0, 0, 0, (-2), []),
  (29, .ireturn, 1, 0, 0, 0, 0, []),
  (30, .aload_n 0, 1, 0, 0, 0, 0, []),
  (31, .getfield 67, 3, 11, 0, 0, 0, []),
  (34, .getfield 100, 3, 7, 0, 0, 0, []),
  (37, .iload_n 1, 1, 1, 0, 0, 0, []),
  (38, .aaload, 1, 0, 0, 0, 0, []),
  (39, .astore 4, 2, 4, 0, 0, 0, []),
  (41, .aload 4, 2, 4, 0, 0, 0, []),
  (43, .getfield 126, 3, 2, 1, 0, 0, []),
  (46, .bipush 6, 2, 0, 0, 0, 6, []),
  (48, .if_icmp .eq 6, 3, 54, 0, 0, 0, []),
  (51, .bipush (-3), 2, 0, 0, 0, (-3), []),
  (53, .ireturn, 1, 0, 0, 0, 0, []),
  (54, .aload 4, 2, 4, 0, 0, 0, []),
  (56, .getfield 164, 3, 2, 7, 0, 0, []),
  (59, .iload_n 2, 1, 2, 0, 0, 0, []),
  (60, .iaload, 1, 0, 0, 0, 0, []),
  (61, .istore 5, 2, 5, 0, 0, 0, []),
  (63, .aload 4, 2, 4, 0, 0, 0, []),
  (65, .getfield 164, 3, 2, 7, 0, 0, []),
  (68, .iload_n 2, 1, 2, 0, 0, 0, []),
  (69, .iload_n 3, 1, 3, 0, 0, 0, []),
  (70, .iastore, 1, 0, 0, 0, 0, []),
  (71, .iload 5, 2, 5, 0, 0, 0, []),
  (73, .ireturn, 1, 0, 0, 0, 0, [])]
def zc_X11_feed : List (Nat × List Bool) := []
def zo_X11_feed : List z_Op := [(0, .iload_n 1, 1, 1, 0, 0, 0, []),
  (1, .bipush 127, 2, 0, 0, 0, 127, []),
  (3, .invokestatic 92, 3, 115, 2, 0, 1, []),
  (6, .ifCond .eq 6, 3, 12, 0, 0, 0, []),
  (9, .bipush (-2), 2, 0, 0, 0, (-2), []),
  (11, .ireturn, 1, 0, 0, 0, 0, []),
  (12, .aload_n 0, 1, 0, 0, 0, 0, []),
  (13, .getfield 87, 3, 11, 9, 0, 0, []),
  (16, .getfield 168, 3, 5, 1, 0, 0, []),
  (19, .bipush 100, 2, 0, 0, 0, 100, []),
  (21, .if_icmp .lt 6, 3, 27, 0, 0, 0, []),
  (24, .bipush (-4), 2, 0, 0, 0, (-4), []),
  (26, .ireturn, 1, 0, 0, 0, 0, []),
  (27, .aload_n 0, 1, 0, 0, 0, 0, []),
  (28, .getfield 87, 3, 11, 9, 0, 0, []),
  (31, .iload_n 1, 1, 1, 0, 0, 0, []),
  (32, .invokevirtual 171, 3, 28, 2, 5, 1, []),
  (35, .ireturn, 1, 0, 0, 0, 0, [])]
def zc_X11_hut : List (Nat × List Bool) := []
def zo_X11_hut : List z_Op := [(0, .aload_n 0, 1, 0, 0, 0, 0, []),
  (1, .getfield 174, 3, 11, 11, 0, 0, []),
  (4, .bipush 6, 2, 0, 0, 0, 6, []),
  (6, .if_icmp .lt 6, 3, 12, 0, 0, 0, []),
  (9, .bipush (-4), 2, 0, 0, 0, (-4), []),
  (11, .ireturn, 1, 0, 0, 0, 0, []),
  (12, .aload_n 0, 1, 0, 0, 0, 0, []),
  (13, .getfield 37, 3, 11, 10, 0, 0, []),
  (16, .aload_n 0, 1, 0, 0, 0, 0, []),
  (17, .getfield 174, 3, 11, 11, 0, 0, []),
  (20, .aaload, 1, 0, 0, 0, 0, []),
  (21, .astore_n 1, 1, 1, 0, 0, 0, []),
  (22, .aload_n 0, 1, 0, 0, 0, 0, []),
  (23, .getfield 87, 3, 11, 9, 0, 0, []),
  (26, .aload_n 1, 1, 1, 0, 0, 0, []),
  (27, .invokevirtual 177, 3, 29, 2, 5, 1, []),
  (30, .istore_n 2, 1, 2, 0, 0, 0, []),
  (31, .aload_n 0, 1, 0, 0, 0, 0, []),
  (32, .getfield 87, 3, 11, 9, 0, 0, []),
  (35, .iconst 0, 1, 0, 0, 0, 0, []),
  (36, .putfield 168, 3, 5, 1, 0, 0, []),
  (39, .iload_n 2, 1, 2, 0, 0, 0, []),
  (40, .ifCond .lt 8, 3, 48, 0, 0, 0, []),
  (43, .bipush (-10), 2, 0, 0, 0, (-10), []),
  (45, .iload_n 2, 1, 2, 0, 0, 0, []),
  (46, .isub, 1, 0, 0, 0, 0, []),
  (47, .ireturn, 1, 0, 0, 0, 0, []),
  (48, .aload_n 0, 1, 0, 0, 0, 0, []),
  (49, .getfield 67, 3, 11, 0, 0, 0, []),
  (52, .getfield 118, 3, 7, 2, 0, 0, []),
  (55, .aload_n 1, 1, 1, 0, 0, 0, []),
  (56, .putfield 181, 3, 9, 3, 0, 0, []),
  (59, .aload_n 0, 1, 0, 0, 0, 0, []),
  (60, .dup, 1, 0, 0, 0, 0, []),
  (61, .getfield 174, 3, 11, 11, 0, 0, []),
  (64, .iconst 1, 1, 0, 0, 0, 1, []),
  (65, .iadd, 1, 0, 0, 0, 0, []),
  (66, .putfield 174, 3, 11, 11, 0, 0, []),
  (69, .aload_n 0, 1, 0, 0, 0, 0, []),
  (70, .getfield 174, 3, 11, 11, 0, 0, []),
  (73, .iconst 1, 1, 0, 0, 0, 1, []),
  (74, .isub, 1, 0, 0, 0, 0, []),
  (75, .ireturn, 1, 0, 0, 0, 0, [])]
def zc_X11_told : List (Nat × List Bool) := []
def zo_X11_told : List z_Op := [(0, .iload_n 1, 1, 1, 0, 0, 0, []),
  (1, .bipush 20, 2, 0, 0, 0, 20, []),
  (3, .if_icmp .lt 30, 3, 33, 0, 0, 0, []),
  (6, .iload_n 1, 1, 1, 0, 0, 0, []),
  (7, .bipush 20, 2, 0, 0, 0, 20, []),
  (9, .isub, 1, 0, 0, 0, 0, []),
  (10, .iconst 5, 1, 0, 0, 0, 5, []),
  (11, .invokestatic 92, 3, 115, 2, 0, 1, []),
  (14, .ifCond .eq 7, 3, 21, 0, 0, 0, []),
  (17, .iconst (-1), 1, 0, 0, 0, (-1), []),
  (18, .goto 14, 3, 32, 0, 0, 0, []),
  (21, .aload_n 0, 1, 0, 0, 0, 0, []),
  (22, .getfield 67, 3, 11, 0, 0, 0, []),
  (25, .iload_n 1, 1, 1, 0, 0, 0, []),
  (26, .bipush 20, 2, 0, 0, 0, 20, []),
  (28, .isub, 1, 0, 0, 0, 0, []),
  (29, .invokevirtual 149, 3, 52, 2, 7, 1, []),
  (32, .ireturn, 1, 0, 0, 0, 0, []),
  (33, .iload_n 1, 1, 1, 0, 0, 0, []),
  (34, .bipush 10, 2, 0, 0, 0, 10, []),
  (36, .if_icmp .lt 33, 3, 69, 0, 0, 0, []),
  (39, .iload_n 1, 1, 1, 0, 0, 0, []),
  (40, .bipush 10, 2, 0, 0, 0, 10, []),
  (42, .isub, 1, 0, 0, 0, 0, []),
  (43, .iconst 5, 1, 0, 0, 0, 5, []),
  (44, .invokestatic 92, 3, 115, 2, 0, 1, []),
  (47, .ifCond .eq 7, 3, 54, 0, 0, 0, []),
  (50, .iconst (-1), 1, 0, 0, 0, (-1), []),
  (51, .goto 17, 3, 68, 0, 0, 0, []),
  (54, .aload_n 0, 1, 0, 0, 0, 0, []),
  (55, .getfield 67, 3, 11, 0, 0, 0, []),
  (58, .getfield 118, 3, 7, 2, 0, 0, []),
  (61, .iload_n 1, 1, 1, 0, 0, 0, []),
  (62, .bipush 10, 2, 0, 0, 0, 10, []),
  (64, .isub, 1, 0, 0, 0, 0, []),
  (65, .invokevirtual 185, 3, 68, 2, 9, 1, []),
  (68, .ireturn, 1, 0, 0, 0, 0, []),
  (69, .iload_n 1, 1, 1, 0, 0, 0, []),
  (70, .tableswitch 131 0 7 #[46, 57, 68, 79, 93, 107, 115, 123], 46, 201, 0, 0, 0, [(0, 116), (1, 127), (2, 138), (3, 149), (4, 163), (5, 177), (6, 185), (7, 193)]),
  (116, .aload_n 0, 1, 0, 0, 0, 0, []),
  (117, .getfield 67, 3, 11, 0, 0, 0, []),
  (120, .getfield 118, 3, 7, 2, 0, 0, []),
  (123, .getfield 188, 3, 9, 2, 0, 0, []),
  (126, .ireturn, 1, 0, 0, 0, 0, []),
  (127, .aload_n 0, 1, 0, 0, 0, 0, []),
  (128, .getfield 67, 3, 11, 0, 0, 0, []),
  (131, .getfield 118, 3, 7, 2, 0, 0, []),
  (134, .getfield 161, 3, 9, 0, 0, 0, []),
  (137, .ireturn, 1, 0, 0, 0, 0, []),
  (138, .aload_n 0, 1, 0, 0, 0, 0, []),
  (139, .getfield 67, 3, 11, 0, 0, 0, []),
  (142, .getfield 118, 3, 7, 2, 0, 0, []),
  (145, .getfield 153, 3, 9, 1, 0, 0, []),
  (148, .ireturn, 1, 0, 0, 0, 0, []),
  (149, .aload_n 0, 1, 0, 0, 0, 0, []),
  (150, .getfield 67, 3, 11, 0, 0, 0, []),
  (153, .getfield 118, 3, 7, 2, 0, 0, []),
  (156, .getfield 181, 3, 9, 3, 0, 0, []),
  (159, .getfield 191, 3, 4, 0, 0, 0, []),
  (162, .ireturn, 1, 0, 0, 0, 0, []),
  (163, .aload_n 0, 1, 0, 0, 0, 0, []),
  (164, .getfield 67, 3, 11, 0, 0, 0, []),
  (167, .getfield 118, 3, 7, 2, 0, 0, []),
  (170, .getfield 181, 3, 9, 3, 0, 0, []),
  (173, .getfield 194, 3, 4, 1, 0, 0, []),
  (176, .ireturn, 1, 0, 0, 0, 0, []),
  (177, .aload_n 0, 1, 0, 0, 0, 0, []),
  (178, .getfield 67, 3, 11, 0, 0, 0, []),
  (181, .invokevirtual 197, 3, 57, 1, 7, 1, []),
  (184, .ireturn, 1, 0, 0, 0, 0, []),
  (185, .aload_n 0, 1, 0, 0, 0, 0, []),
  (186, .getfield 67, 3, 11, 0, 0, 0, []),
  (189, .invokevirtual 200, 3, 58, 1, 7, 1, []),
  (192, .ireturn, 1, 0, 0, 0, 0, []),
  (193, .aload_n 0, 1, 0, 0, 0, 0, []),
  (194, .getfield 67, 3, 11, 0, 0, 0, []),
  (197, .invokevirtual 203, 3, 60, 1, 7, 1, []),
  (200, .ireturn, 1, 0, 0, 0, 0, []),
  (201, .iconst (-1), 1, 0, 0, 0, (-1), []),
  (202, .ireturn, 1, 0, 0, 0, 0, [])]
def zc_X11_pass : List (Nat × List Bool) := []
def zo_X11_pass : List z_Op := [(0, .iload_n 1, 1, 1, 0, 0, 0, []),
  (1, .bipush 60, 2, 0, 0, 0, 60, []),
  (3, .invokestatic 92, 3, 115, 2, 0, 1, []),
  (6, .ifCond .eq 6, 3, 12, 0, 0, 0, []),
  (9, .bipush (-2), 2, 0, 0, 0, (-2), []),
  (11, .ireturn, 1, 0, 0, 0, 0, []),
  (12, .aload_n 0, 1, 0, 0, 0, 0, []),
  (13, .getfield 67, 3, 11, 0, 0, 0, []),
  (16, .getfield 118, 3, 7, 2, 0, 0, []),
  (19, .getfield 188, 3, 9, 2, 0, 0, []),
  (22, .iload_n 1, 1, 1, 0, 0, 0, []),
  (23, .iadd, 1, 0, 0, 0, 0, []),
  (24, .sipush 9999, 3, 0, 0, 0, 9999, []),
  (27, .if_icmp .le 6, 3, 33, 0, 0, 0, []),
  (30, .bipush (-3), 2, 0, 0, 0, (-3), []),
  (32, .ireturn, 1, 0, 0, 0, 0, []),
  (33, .aload_n 0, 1, 0, 0, 0, 0, []),
  (34, .getfield 67, 3, 11, 0, 0, 0, []),
  (37, .iload_n 1, 1, 1, 0, 0, 0, []),
  (38, .invokevirtual 206, 3, 55, 2, 7, 0, []),
  (41, .aload_n 0, 1, 0, 0, 0, 0, []),
  (42, .getfield 67, 3, 11, 0, 0, 0, []),
  (45, .getfield 118, 3, 7, 2, 0, 0, []),
  (48, .getfield 188, 3, 9, 2, 0, 0, []),
  (51, .ireturn, 1, 0, 0, 0, 0, [])]
def zc_X11_on : List (Nat × List Bool) := []
def zo_X11_on : List z_Op := [(0, .iload_n 2, 1, 2, 0, 0, 0, []),
  (1, .iconst 2, 1, 0, 0, 0, 2, []),
  (2, .invokestatic 92, 3, 115, 2, 0, 1, []),
  (5, .ifCond .ne 7, 3, 12, 0, 0, 0, []),
  (8, .iconst 1, 1, 0, 0, 0, 1, []),
  (9, .goto 4, 3, 13, 0, 0, 0, []),
  (12, .iconst 0, 1, 0, 0, 0, 0, []),
  (13, .istore_n 3, 1, 3, 0, 0, 0, []),
  (14, .iload_n 3, 1, 3, 0, 0, 0, []),
  (15, .ifCond .ne 22, 3, 37, 0, 0, 0, []),
  (18, .iload_n 2, 1, 2, 0, 0, 0, []),
  (19, .bipush 10, 2, 0, 0, 0, 10, []),
  (21, .if_icmp .lt 14, 3, 35, 0, 0, 0, []),
  (24, .aload_n 0, 1, 0, 0, 0, 0, []),
  (25, .iload_n 2, 1, 2, 0, 0, 0, []),
  (26, .bipush 10, 2, 0, 0, 0, 10, []),
  (28, .isub, 1, 0, 0, 0, 0, []),
  (29, .invokevirtual 114, 3, 116, 2, 11, 1, []),
  (32, .ifCond .eq 5, 3, 37, 0, 0, 0, []),
  (35, .iconst (-1), 1, 0, 0, 0, (-1), []),
  (36, .ireturn, 1, 0, 0, 0, 0, []),
  (37, .iload_n 1, 1, 1, 0, 0, 0, []),
  (38, .bipush 60, 2, 0, 0, 0, 60, []),
  (40, .invokestatic 92, 3, 115, 2, 0, 1, []),
  (43, .ifCond .eq 6, 3, 49, 0, 0, 0, []),
  (46, .bipush (-2), 2, 0, 0, 0, (-2), []),
  (48, .ireturn, 1, 0, 0, 0, 0, []),
  (49, .aload_n 0, 1, 0, 0, 0, 0, []),
  (50, .iload_n 1, 1, 1, 0, 0, 0, []),
  (51, .invokevirtual 209, 3, 117, 2, 11, 0, []),
  (54, .iload_n 2, 1, 2, 0, 0, 0, []),
  (55, .tableswitch 52 0 2 #[25, 33, 44], 25, 107, 0, 0, 0, [(0, 80), (1, 88), (2, 99)]),
  (80, .aload_n 0, 1, 0, 0, 0, 0, []),
  (81, .getfield 74, 3, 11, 14, 0, 0, []),
  (84, .invokevirtual 197, 3, 57, 1, 7, 1, []),
  (87, .ireturn, 1, 0, 0, 0, 0, []),
  (88, .aload_n 0, 1, 0, 0, 0, 0, []),
  (89, .getfield 74, 3, 11, 14, 0, 0, []),
  (92, .getfield 118, 3, 7, 2, 0, 0, []),
  (95, .getfield 161, 3, 9, 0, 0, 0, []),
  (98, .ireturn, 1, 0, 0, 0, 0, []),
  (99, .aload_n 0, 1, 0, 0, 0, 0, []),
  (100, .getfield 74, 3, 11, 14, 0, 0, []),
  (103, .invokevirtual 200, 3, 58, 1, 7, 1, []),
  (106, .ireturn, 1, 0, 0, 0, 0, []),
  (107, .aload_n 0, 1, 0, 0, 0, 0, []),
  (108, .getfield 74, 3, 11, 14, 0, 0, []),
  (111, .getfield 100, 3, 7, 0, 0, 0, []),
  (114, .iload_n 2, 1, 2, 0, 0, 0, []),
  (115, .bipush 10, 2, 0, 0, 0, 10, []),
  (117, .isub, 1, 0, 0, 0, 0, []),
  (118, .aaload, 1, 0, 0, 0, 0, []),
  (119, .getfield 132, 3, 2, 3, 0, 0, []),
  (122, .ireturn, 1, 0, 0, 0, 0, [])]
def zc_X11_done : List (Nat × List Bool) := [(35, [true, false, true])]
def zo_X11_done : List z_Op := [(0, .aload_n 0, 1, 0, 0, 0, 0, []),
  (1, .iload_n 1, 1, 1, 0, 0, 0, []),
  (2, .invokevirtual 114, 3, 116, 2, 11, 1, []),
  (5, .ifCond .eq 5, 3, 10, 0, 0, 0, []),
  (8, .iconst (-1), 1, 0, 0, 0, (-1), []),
  (9, .ireturn, 1, 0, 0, 0, 0, []),
  (10, .aload_n 0, 1, 0, 0, 0, 0, []),
  (11, .getfield 80, 3, 11, 15, 0, 0, []),
  (14, .aload_n 0, 1, 0, 0, 0, 0, []),
  (15, .getfield 67, 3, 11, 0, 0, 0, []),
  (18, .getfield 100, 3, 7, 0, 0, 0, []),
  (21, .iload_n 1, 1, 1, 0, 0, 0, []),
  (22, .aaload, 1, 0, 0, 0, 0, []),
  (23, .aload_n 0, 1, 0, 0, 0, 0, []),
  (24, .getfield 67, 3, 11, 0, 0, 0, []),
  (27, .getfield 118, 3, 7, 2, 0, 0, []),
  (30, .invokevirtual 212, 3, 17, 3, 3, 0, []),
  (33, .iconst 0, 1, 0, 0, 0, 0, []),
  (34, .istore_n 2, 1, 2, 0, 0, 0, []),
  (35, .iload_n 2, 1, 2, 0, 0, 0, []),
  (36, .bipush 60, 2, 0, 0, 0, 60, []),
  (38, .if_icmp .gt 31, 3, 69, 0, 0, 0, []),
  (41, .aload_n 0, 1, 0, 0, 0, 0, []),
  (42, .getfield 80, 3, 11, 15, 0, 0, []),
  (45, .getfield 216, 3, 3, 0, 0, 0, []),
  (48, .getfield 132, 3, 2, 3, 0, 0, []),
  (51, .ifCond .ne 5, 3, 56, 0, 0, 0, []),
  (54, .iload_n 2, 1, 2, 0, 0, 0, []),
  (55, .ireturn, 1, 0, 0, 0, 0, []),
  (56, .aload_n 0, 1, 0, 0, 0, 0, []),
  (57, .getfield 80, 3, 11, 15, 0, 0, []),
  (60, .invokevirtual 219, 3, 18, 1, 3, 0, []),
  (63, .iinc 2 1, 3, 2, 0, 0, 1, []),
  (66, .goto (-31), 3, 35, 0, 0, 0, []),
  (69, .bipush (-5), 2, 0, 0, 0, (-5), []),
  (71, .ireturn, 1, 0, 0, 0, 0, [])]
def zc_X11_night : List (Nat × List Bool) := []
def zo_X11_night : List z_Op := [(0, .iload_n 1, 1, 1, 0, 0, 0, []),
  (1, .bipush 12, 2, 0, 0, 0, 12, []),
  (3, .invokestatic 92, 3, 115, 2, 0, 1, []),
  (6, .ifCond .eq 6, 3, 12, 0, 0, 0, []),
  (9, .bipush (-2), 2, 0, 0, 0, (-2), []),
  (11, .ireturn, 1, 0, 0, 0, 0, []),
  (12, .aload_n 0, 1, 0, 0, 0, 0, []),
  (13, .iload_n 1, 1, 1, 0, 0, 0, []),
  (14, .invokevirtual 209, 3, 117, 2, 11, 0, []),
  (17, .aload_n 0, 1, 0, 0, 0, 0, []),
  (18, .getfield 74, 3, 11, 14, 0, 0, []),
  (21, .invokevirtual 222, 3, 59, 1, 7, 1, []),
  (24, .ireturn, 1, 0, 0, 0, 0, [])]
def zc_X11_placed : List (Nat × List Bool) := []
def zo_X11_placed : List z_Op := [(0, .iload_n 2, 1, 2, 0, 0, 0, []),
  (1, .iconst 1, 1, 0, 0, 0, 1, []),
  (2, .invokestatic 92, 3, 115, 2, 0, 1, []),
  (5, .ifCond .ne 7, 3, 12, 0, 0, 0, []),
  (8, .iconst 1, 1, 0, 0, 0, 1, []),
  (9, .goto 4, 3, 13, 0, 0, 0, []),
  (12, .iconst 0, 1, 0, 0, 0, 0, []),
  (13, .istore_n 3, 1, 3, 0, 0, 0, []),
  (14, .iload_n 3, 1, 3, 0, 0, 0, []),
  (15, .ifCond .ne 22, 3, 37, 0, 0, 0, []),
  (18, .iload_n 2, 1, 2, 0, 0, 0, []),
  (19, .bipush 10, 2, 0, 0, 0, 10, []),
  (21, .if_icmp .lt 14, 3, 35, 0, 0, 0, []),
  (24, .aload_n 0, 1, 0, 0, 0, 0, []),
  (25, .iload_n 2, 1, 2, 0, 0, 0, []),
  (26, .bipush 10, 2, 0, 0, 0, 10, []),
  (28, .isub, 1, 0, 0, 0, 0, []),
  (29, .invokevirtual 114, 3, 116, 2, 11, 1, []),
  (32, .ifCond .eq 5, 3, 37, 0, 0, 0, []),
  (35, .iconst (-1), 1, 0, 0, 0, (-1), []),
  (36, .ireturn, 1, 0, 0, 0, 0, []),
  (37, .iload_n 1, 1, 1, 0, 0, 0, []),
  (38, .iconst 1, 1, 0, 0, 0, 1, []),
  (39, .if_icmp .lt 9, 3, 48, 0, 0, 0, []),
  (42, .iload_n 1, 1, 1, 0, 0, 0, []),
  (43, .bipush 12, 2, 0, 0, 0, 12, []),
  (45, .if_icmp .le 6, 3, 51, 0, 0, 0, []),
  (48, .bipush (-2), 2, 0, 0, 0, (-2), []),
  (50, .ireturn, 1, 0, 0, 0, 0, []),
  (51, .aload_n 0, 1, 0, 0, 0, 0, []),
  (52, .getfield 57, 3, 11, 16, 0, 0, []),
  (55, .aload_n 0, 1, 0, 0, 0, 0, []),
  (56, .getfield 67, 3, 11, 0, 0, 0, []),
  (59, .aload_n 0, 1, 0, 0, 0, 0, []),
  (60, .getfield 80, 3, 11, 15, 0, 0, []),
  (63, .iload_n 1, 1, 1, 0, 0, 0, []),
  (64, .invokevirtual 225, 3, 44, 4, 6, 0, []),
  (67, .aload_n 0, 1, 0, 0, 0, 0, []),
  (68, .getfield 57, 3, 11, 16, 0, 0, []),
  (71, .invokevirtual 229, 3, 47, 1, 6, 0, []),
  (74, .iload_n 2, 1, 2, 0, 0, 0, []),
  (75, .lookupswitch 41 #[(0, 25), (1, 33)], 25, 116, 0, 0, 0, [((0), 100), ((1), 108)]),
  (100, .aload_n 0, 1, 0, 0, 0, 0, []),
  (101, .getfield 57, 3, 11, 16, 0, 0, []),
  (104, .getfield 232, 3, 6, 5, 0, 0, []),
  (107, .ireturn, 1, 0, 0, 0, 0, []),
  (108, .aload_n 0, 1, 0, 0, 0, 0, []),
  (109, .getfield 57, 3, 11, 16, 0, 0, []),
  (112, .getfield 235, 3, 6, 6, 0, 0, []),
  (115, .ireturn, 1, 0, 0, 0, 0, []),
  (116, .aload_n 0, 1, 0, 0, 0, 0, []),
  (117, .getfield 57, 3, 11, 16, 0, 0, []),
  (120, .getfield 238, 3, 6, 4, 0, 0, []),
  (123, .iload_n 2, 1, 2, 0, 0, 0, []),
  (124, .bipush 10, 2, 0, 0, 0, 10, []),
  (126, .isub, 1, 0, 0, 0, 0, []),
  (127, .iaload, 1, 0, 0, 0, 0, []),
  (128, .ireturn, 1, 0, 0, 0, 0, [])]
def zc_X11_change : List (Nat × List Bool) := [(24, [true, true, true, true, false, false]), (40, [true, true, true, true, true, false])]
def zo_X11_change : List z_Op := [(0, .aload_n 0, 1, 0, 0, 0, 0, []),
  (1, .getfield 57, 3, 11, 16, 0, 0, []),
  (4, .aload_n 0, 1, 0, 0, 0, 0, []),
  (5, .getfield 67, 3, 11, 0, 0, 0, []),
  (8, .aload_n 0, 1, 0, 0, 0, 0, []),
  (9, .getfield 80, 3, 11, 15, 0, 0, []),
  (12, .bipush 6, 2, 0, 0, 0, 6, []),
  (14, .invokevirtual 225, 3, 44, 4, 6, 0, []),
  (17, .iconst 0, 1, 0, 0, 0, 0, []),
  (18, .istore_n 1, 1, 1, 0, 0, 0, []),
  (19, .bipush (-5), 2, 0, 0, 0, (-5), []),
  (21, .istore_n 2, 1, 2, 0, 0, 0, []),
  (22, .iconst 0, 1, 0, 0, 0, 0, []),
  (23, .istore_n 3, 1, 3, 0, 0, 0, []),
  (24, .iload_n 3, 1, 3, 0, 0, 0, []),
  (25, .aload_n 0, 1, 0, 0, 0, 0, []),
  (26, .getfield 67, 3, 11, 0, 0, 0, []),
  (29, .getfield 96, 3, 7, 1, 0, 0, []),
  (32, .if_icmp .ge 77, 3, 109, 0, 0, 0, []),
  (35, .iload_n 3, 1, 3, 0, 0, 0, []),
  (36, .iconst 1, 1, 0, 0, 0, 1, []),
  (37, .iadd, 1, 0, 0, 0, 0, []),
  (38, .istore 4, 2, 4, 0, 0, 0, []),
  (40, .iload 4, 2, 4, 0, 0, 0, []),
  (42, .aload_n 0, 1, 0, 0, 0, 0, []),
  (43, .getfield 67, 3, 11, 0, 0, 0, []),
  (46, .getfield 96, 3, 7, 1, 0, 0, []),
  (49, .if_icmp .ge 54, 3, 103, 0, 0, 0, []),
  (52, .aload_n 0, 1, 0, 0, 0, 0, []),
  (53, .getfield 57, 3, 11, 16, 0, 0, []),
  (56, .aload_n 0, 1, 0, 0, 0, 0, []),
  (57, .getfield 67, 3, 11, 0, 0, 0, []),
  (60, .getfield 100, 3, 7, 0, 0, 0, []),
  (63, .iload_n 3, 1, 3, 0, 0, 0, []),
  (64, .aaload, 1, 0, 0, 0, 0, []),
  (65, .aload_n 0, 1, 0, 0, 0, 0, []),
  (66, .getfield 67, 3, 11, 0, 0, 0, []),
  (69, .getfield 100, 3, 7, 0, 0, 0, []),
  (72, .iload 4, 2, 4, 0, 0, 0, []),
  (74, .aaload, 1, 0, 0, 0, 0, []),
  (75, .invokevirtual 241, 3, 45, 3, 6, 1, []),
  (78, .istore 5, 2, 5, 0, 0, 0, []),
  (80, .iload 5, 2, 5, 0, 0, 0, []),
  (82, .iload_n 1, 1, 1, 0, 0, 0, []),
  (83, .if_icmp .ge 14, 3, 97, 0, 0, 0, []),
  (86, .iload 5, 2, 5, 0, 0, 0, []),
  (88, .istore_n 1, 1, 1, 0, 0, 0, []),
  (89, .bipush 10, 2, 0, 0, 0, 10, []),
  (91, .iload_n 3, 1, 3, 0, 0, 0, []),
  (92, .imul, 1, 0, 0, 0, 0, []),
  (93, .iload 4, 2, 4, 0, 0, 0, []),
  (95, .iadd, 1, 0, 0, 0, 0, []),
  (96, .istore_n 2, 1, 2, 0, 0, 0, []),
  (97, .iinc 4 1, 3, 4, 0, 0, 1, []),
  (100, .goto (-60), 3, 40, 0, 0, 0, []),
  (103, .iinc 3 1, 3, 3, 0, 0, 1, []),
  (106, .goto (-82), 3, 24, 0, 0, 0, []),
  (109, .iload_n 2, 1, 2, 0, 0, 0, []),
  (110, .ireturn, 1, 0, 0, 0, 0, [])]
def zc_X11_logs : List (Nat × List Bool) := [(37, [true, true, true, true, true, true, false, false])]
def zo_X11_logs : List z_Op := [(0, .iload_n 2, 1, 2, 0, 0, 0, []),
  (1, .iconst 1, 1, 0, 0, 0, 1, []),
  (2, .invokestatic 92, 3, 115, 2, 0, 1, []),
  (5, .ifCond .eq 5, 3, 10, 0, 0, 0, []),
  (8, .iconst (-1), 1, 0, 0, 0, (-1), []),
  (9, .ireturn, 1, 0, 0, 0, 0, []),
  (10, .iload_n 1, 1, 1, 0, 0, 0, []),
  (11, .iconst 1, 1, 0, 0, 0, 1, []),
  (12, .if_icmp .lt 9, 3, 21, 0, 0, 0, []),
  (15, .iload_n 1, 1, 1, 0, 0, 0, []),
  (16, .bipush 6, 2, 0, 0, 0, 6, []),
  (18, .if_icmp .le 6, 3, 24, 0, 0, 0, []),
  (21, .bipush (-2), 2, 0, 0, 0, (-2), []),
  (23, .ireturn, 1, 0, 0, 0, 0, []),
  (24, .iconst 0, 1, 0, 0, 0, 0, []),
  (25, .istore_n 3, 1, 3, 0, 0, 0, []),
  (26, .aload_n 0, 1, 0, 0, 0, 0, []),
  (27, .iload_n 1, 1, 1, 0, 0, 0, []),
  (28, .iconst 0, 1, 0, 0, 0, 0, []),
  (29, .invokevirtual 245, 3, 118, 3, 11, 1, []),
  (32, .istore 4, 2, 4, 0, 0, 0, []),
  (34, .iconst 1, 1, 0, 0, 0, 1, []),
  (35, .istore 5, 2, 5, 0, 0, 0, []),
  (37, .iload 5, 2, 5, 0, 0, 0, []),
  (39, .iconst 1, 1, 0, 0, 0, 1, []),
  (40, .iload_n 1, 1, 1, 0, 0, 0, []),
  (41, .ishl, 1, 0, 0, 0, 0, []),
  (42, .if_icmp .ge 70, 3, 112, 0, 0, 0, []),
  (45, .iload 5, 2, 5, 0, 0, 0, []),
  (47, .invokestatic 249, 3, 228, 1, 0, 1, []),
  (50, .istore 6, 2, 6, 0, 0, 0, []),
  (52, .iload 6, 2, 6, 0, 0, 0, []),
  (54, .aload_n 0, 1, 0, 0, 0, 0, []),
  (55, .getfield 67, 3, 11, 0, 0, 0, []),
  (58, .getfield 118, 3, 7, 2, 0, 0, []),
  (61, .getfield 153, 3, 9, 1, 0, 0, []),
  (64, .if_icmp .gt 42, 3, 106, 0, 0, 0, []),
  (67, .aload_n 0, 1, 0, 0, 0, 0, []),
  (68, .iload_n 1, 1, 1, 0, 0, 0, []),
  (69, .iload 5, 2, 5, 0, 0, 0, []),
  (71, .invokevirtual 245, 3, 118, 3, 11, 1, []),
  (74, .istore 7, 2, 7, 0, 0, 0, []),
  (76, .iload 7, 2, 7, 0, 0, 0, []),
  (78, .iload 4, 2, 4, 0, 0, 0, []),
  (80, .if_icmp .lt 19, 3, 99, 0, 0, 0, []),
  (83, .iload 7, 2, 7, 0, 0, 0, []),
  (85, .iload 4, 2, 4, 0, 0, 0, []),
  (87, .if_icmp .ne 19, 3, 106, 0, 0, 0, []),
  (90, .iload 6, 2, 6, 0, 0, 0, []),
  (92, .iload_n 3, 1, 3, 0, 0, 0, []),
  (93, .invokestatic 249, 3, 228, 1, 0, 1, []),
  (96, .if_icmp .ge 10, 3, 106, 0, 0, 0, []),
  (99, .iload 5, 2, 5, 0, 0, 0, []),
  (101, .istore_n 3, 1, 3, 0, 0, 0, []),
  (102, .iload 7, 2, 7, 0, 0, 0, []),
  (104, .istore 4, 2, 4, 0, 0, 0, []),
  (106, .iinc 5 1, 3, 5, 0, 0, 1, []),
  (109, .goto (-72), 3, 37, 0, 0, 0, []),
  (112, .iload_n 2, 1, 2, 0, 0, 0, []),
  (113, .ifCond .ne 7, 3, 120, 0, 0, 0, []),
  (116, .iload_n 3, 1, 3, 0, 0, 0, []),
  (117, .goto 5, 3, 122, 0, 0, 0, []),
  (120, .iload 4, 2, 4, 0, 0, 0, []),
  (122, .ireturn, 1, 0, 0, 0, 0, [])]
def zc_X11_see : List (Nat × List Bool) := []
def zo_X11_see : List z_Op := [(0, .iload_n 1, 1, 1, 0, 0, 0, []),
  (1, .iconst (-1), 1, 0, 0, 0, (-1), []),
  (2, .if_icmp .ne 13, 3, 15, 0, 0, 0, []),
  (5, .aload_n 0, 1, 0, 0, 0, 0, []),
  (6, .getfield 16, 3, 11, 1, 0, 0, []),
  (9, .iconst 0, 1, 0, 0, 0, 0, []),
  (10, .putfield 254, 3, 8, 3, 0, 0, []),
  (13, .iconst 0, 1, 0, 0, 0, 0, []),
  (14, .ireturn, 1, 0, 0, 0, 0, []),
  (15, .aload_n 0, 1, 0, 0, 0, 0, []),
  (16, .iload_n 1, 1, 1, 0, 0, 0, []),
  (17, .invokevirtual 114, 3, 116, 2, 11, 1, []),
  (20, .ifCond .eq 5, 3, 25, 0, 0, 0, []),
  (23, .iconst (-1), 1, 0, 0, 0, (-1), []),
  (24, .ireturn, 1, 0, 0, 0, 0, []),
  (25, .iload_n 2, 1, 2, 0, 0, 0, []),
  (26, .bipush 99, 2, 0, 0, 0, 99, []),
  (28, .invokestatic 92, 3, 115, 2, 0, 1, []),
  (31, .ifCond .ne 12, 3, 43, 0, 0, 0, []),
  (34, .iload_n 3, 1, 3, 0, 0, 0, []),
  (35, .bipush 20, 2, 0, 0, 0, 20, []),
  (37, .invokestatic 92, 3, 115, 2, 0, 1, []),
  (40, .ifCond .eq 6, 3, 46, 0, 0, 0, []),
  (43, .bipush (-2), 2, 0, 0, 0, (-2), []),
  (45, .ireturn, 1, 0, 0, 0, 0, []),
  (46, .aload_n 0, 1, 0, 0, 0, 0, []),
  (47, .getfield 16, 3, 11, 1, 0, 0, []),
  (50, .invokevirtual 255, 3, 62, 1, 8, 1, []),
  (53, .ifCond .eq 6, 3, 59, 0, 0, 0, []),
  (56, .bipush (-4), 2, 0, 0, 0, (-4), []),
  (58, .ireturn, 1, 0, 0, 0, 0, []),
  (59, .aload_n 0, 1, 0, 0, 0, 0, []),
  (60, .getfield 16, 3, 11, 1, 0, 0, []),
  (63, .iload_n 1, 1, 1, 0, 0, 0, []),
  (64, .iload_n 2, 1, 2, 0, 0, 0, []),
  (65, .iload_n 3, 1, 3, 0, 0, 0, []),
  (66, .invokevirtual 259, 3, 63, 4, 8, 1, []),
  (69, .ireturn, 1, 0, 0, 0, 0, [])]
def zc_X11_wets : List (Nat × List Bool) := [(28, [true, true, true, true, true, true])]
def zo_X11_wets : List z_Op := [(0, .aload_n 0, 1, 0, 0, 0, 0, []),
  (1, .iload_n 1, 1, 1, 0, 0, 0, []),
  (2, .invokevirtual 114, 3, 116, 2, 11, 1, []),
  (5, .ifCond .ne 11, 3, 16, 0, 0, 0, []),
  (8, .iload_n 2, 1, 2, 0, 0, 0, []),
  (9, .iconst 1, 1, 0, 0, 0, 1, []),
  (10, .invokestatic 92, 3, 115, 2, 0, 1, []),
  (13, .ifCond .eq 5, 3, 18, 0, 0, 0, []),
  (16, .iconst (-1), 1, 0, 0, 0, (-1), []),
  (17, .ireturn, 1, 0, 0, 0, 0, []),
  (18, .iconst 0, 1, 0, 0, 0, 0, []),
  (19, .istore_n 3, 1, 3, 0, 0, 0, []),
  (20, .bipush (-5), 2, 0, 0, 0, (-5), []),
  (22, .istore 4, 2, 4, 0, 0, 0, []),
  (24, .bipush 99, 2, 0, 0, 0, 99, []),
  (26, .istore 5, 2, 5, 0, 0, 0, []),
  (28, .iload 5, 2, 5, 0, 0, 0, []),
  (30, .ifCond .lt 58, 3, 88, 0, 0, 0, []),
  (33, .aload_n 0, 1, 0, 0, 0, 0, []),
  (34, .getfield 80, 3, 11, 15, 0, 0, []),
  (37, .aload_n 0, 1, 0, 0, 0, 0, []),
  (38, .getfield 67, 3, 11, 0, 0, 0, []),
  (41, .getfield 100, 3, 7, 0, 0, 0, []),
  (44, .iload_n 1, 1, 1, 0, 0, 0, []),
  (45, .aaload, 1, 0, 0, 0, 0, []),
  (46, .aload_n 0, 1, 0, 0, 0, 0, []),
  (47, .getfield 67, 3, 11, 0, 0, 0, []),
  (50, .getfield 118, 3, 7, 2, 0, 0, []),
  (53, .invokevirtual 212, 3, 17, 3, 3, 0, []),
  (56, .aload_n 0, 1, 0, 0, 0, 0, []),
  (57, .getfield 80, 3, 11, 15, 0, 0, []),
  (60, .getfield 216, 3, 3, 0, 0, 0, []),
  (63, .iload 5, 2, 5, 0, 0, 0, []),
  (65, .putfield 132, 3, 2, 3, 0, 0, []),
  (68, .aload_n 0, 1, 0, 0, 0, 0, []),
  (69, .invokevirtual 262, 3, 119, 1, 11, 1, []),
  (72, .ifCond .eq 10, 3, 82, 0, 0, 0, []),
  (75, .iinc 3 1, 3, 3, 0, 0, 1, []),
  (78, .iload 5, 2, 5, 0, 0, 0, []),
  (80, .istore 4, 2, 4, 0, 0, 0, []),
  (82, .iinc 5 (-1), 3, 5, 0, 0, (-1), []),
  (85, .goto (-57), 3, 28, 0, 0, 0, []),
  (88, .iload_n 2, 1, 2, 0, 0, 0, []),
  (89, .ifCond .ne 7, 3, 96, 0, 0, 0, []),
  (92, .iload_n 3, 1, 3, 0, 0, 0, []),
  (93, .goto 5, 3, 98, 0, 0, 0, []),
  (96, .iload 4, 2, 4, 0, 0, 0, []),
  (98, .ireturn, 1, 0, 0, 0, 0, [])]
def zc_X11_can : List (Nat × List Bool) := [(28, [true, true, true, true, true, true])]
def zo_X11_can : List z_Op := [(0, .aload_n 0, 1, 0, 0, 0, 0, []),
  (1, .iload_n 1, 1, 1, 0, 0, 0, []),
  (2, .invokevirtual 114, 3, 116, 2, 11, 1, []),
  (5, .ifCond .ne 11, 3, 16, 0, 0, 0, []),
  (8, .iload_n 2, 1, 2, 0, 0, 0, []),
  (9, .iconst 1, 1, 0, 0, 0, 1, []),
  (10, .invokestatic 92, 3, 115, 2, 0, 1, []),
  (13, .ifCond .eq 5, 3, 18, 0, 0, 0, []),
  (16, .iconst (-1), 1, 0, 0, 0, (-1), []),
  (17, .ireturn, 1, 0, 0, 0, 0, []),
  (18, .iconst 0, 1, 0, 0, 0, 0, []),
  (19, .istore_n 3, 1, 3, 0, 0, 0, []),
  (20, .bipush (-5), 2, 0, 0, 0, (-5), []),
  (22, .istore 4, 2, 4, 0, 0, 0, []),
  (24, .bipush 9, 2, 0, 0, 0, 9, []),
  (26, .istore 5, 2, 5, 0, 0, 0, []),
  (28, .iload 5, 2, 5, 0, 0, 0, []),
  (30, .ifCond .lt 58, 3, 88, 0, 0, 0, []),
  (33, .aload_n 0, 1, 0, 0, 0, 0, []),
  (34, .getfield 80, 3, 11, 15, 0, 0, []),
  (37, .aload_n 0, 1, 0, 0, 0, 0, []),
  (38, .getfield 67, 3, 11, 0, 0, 0, []),
  (41, .getfield 100, 3, 7, 0, 0, 0, []),
  (44, .iload_n 1, 1, 1, 0, 0, 0, []),
  (45, .aaload, 1, 0, 0, 0, 0, []),
  (46, .aload_n 0, 1, 0, 0, 0, 0, []),
  (47, .getfield 67, 3, 11, 0, 0, 0, []),
  (50, .getfield 118, 3, 7, 2, 0, 0, []),
  (53, .invokevirtual 212, 3, 17, 3, 3, 0, []),
  (56, .aload_n 0, 1, 0, 0, 0, 0, []),
  (57, .getfield 80, 3, 11, 15, 0, 0, []),
  (60, .getfield 216, 3, 3, 0, 0, 0, []),
  (63, .iload 5, 2, 5, 0, 0, 0, []),
  (65, .putfield 129, 3, 2, 2, 0, 0, []),
  (68, .aload_n 0, 1, 0, 0, 0, 0, []),
  (69, .invokevirtual 262, 3, 119, 1, 11, 1, []),
  (72, .ifCond .eq 10, 3, 82, 0, 0, 0, []),
  (75, .iinc 3 1, 3, 3, 0, 0, 1, []),
  (78, .iload 5, 2, 5, 0, 0, 0, []),
  (80, .istore 4, 2, 4, 0, 0, 0, []),
  (82, .iinc 5 (-1), 3, 5, 0, 0, (-1), []),
  (85, .goto (-57), 3, 28, 0, 0, 0, []),
  (88, .iload_n 2, 1, 2, 0, 0, 0, []),
  (89, .ifCond .ne 7, 3, 96, 0, 0, 0, []),
  (92, .iload_n 3, 1, 3, 0, 0, 0, []),
  (93, .goto 5, 3, 98, 0, 0, 0, []),
  (96, .iload 4, 2, 4, 0, 0, 0, []),
  (98, .ireturn, 1, 0, 0, 0, 0, [])]
def zc_X11_where : List (Nat × List Bool) := [(14, [true, true, true, true])]
def zo_X11_where : List z_Op := [(0, .aload_n 0, 1, 0, 0, 0, 0, []),
  (1, .iload_n 1, 1, 1, 0, 0, 0, []),
  (2, .invokevirtual 114, 3, 116, 2, 11, 1, []),
  (5, .ifCond .eq 5, 3, 10, 0, 0, 0, []),
  (8, .iconst (-1), 1, 0, 0, 0, (-1), []),
  (9, .ireturn, 1, 0, 0, 0, 0, []),
  (10, .iconst 0, 1, 0, 0, 0, 0, []),
  (11, .istore_n 2, 1, 2, 0, 0, 0, []),
  (12, .iconst 0, 1, 0, 0, 0, 0, []),
  (13, .istore_n 3, 1, 3, 0, 0, 0, []),
  (14, .iload_n 3, 1, 3, 0, 0, 0, []),
  (15, .bipush 6, 2, 0, 0, 0, 6, []),
  (17, .if_icmp .ge 24, 3, 41, 0, 0, 0, []),
  (20, .aload_n 0, 1, 0, 0, 0, 0, []),
  (21, .iload_n 1, 1, 1, 0, 0, 0, []),
  (22, .iload_n 3, 1, 3, 0, 0, 0, []),
  (23, .invokevirtual 265, 3, 120, 3, 11, 1, []),
  (26, .ifCond .eq 9, 3, 35, 0, 0, 0, []),
  (29, .iload_n 2, 1, 2, 0, 0, 0, []),
  (30, .iconst 1, 1, 0, 0, 0, 1, []),
  (31, .iload_n 3, 1, 3, 0, 0, 0, []),
  (32, .ishl, 1, 0, 0, 0, 0, []),
  (33, .ior, 1, 0, 0, 0, 0, []),
  (34, .istore_n 2, 1, 2, 0, 0, 0, []),
  (35, .iinc 3 1, 3, 3, 0, 0, 1, []),
  (38, .goto (-24), 3, 14, 0, 0, 0, []),
  (41, .iload_n 2, 1, 2, 0, 0, 0, []),
  (42, .ireturn, 1, 0, 0, 0, 0, [])]
def zc_X11_odds : List (Nat × List Bool) := [(61, [true, false, true, true, true, true, true, false, false])]
def zo_X11_odds : List z_Op := [(0, .iload_n 1, 1, 1, 0, 0, 0, []),
  (1, .bipush 60, 2, 0, 0, 0, 60, []),
  (3, .invokestatic 92, 3, 115, 2, 0, 1, []),
  (6, .ifCond .ne 31, 3, 37, 0, 0, 0, []),
  (9, .iload_n 2, 1, 2, 0, 0, 0, []),
  (10, .sipush 999, 3, 0, 0, 0, 999, []),
  (13, .invokestatic 92, 3, 115, 2, 0, 1, []),
  (16, .ifCond .ne 21, 3, 37, 0, 0, 0, []),
  (19, .iload_n 3, 1, 3, 0, 0, 0, []),
  (20, .iconst 1, 1, 0, 0, 0, 1, []),
  (21, .invokestatic 92, 3, 115, 2, 0, 1, []),
  (24, .ifCond .ne 13, 3, 37, 0, 0, 0, []),
  (27, .aload_n 0, 1, 0, 0, 0, 0, []),
  (28, .getfield 67, 3, 11, 0, 0, 0, []),
  (31, .getfield 96, 3, 7, 1, 0, 0, []),
  (34, .ifCond .gt 7, 3, 41, 0, 0, 0, []),
  (37, .ldc2_w 268, 3, 9223372036854775808, 0, 0, 0, []),
  (40, .lreturn, 1, 0, 0, 0, 0, []),
  (41, .aload_n 0, 1, 0, 0, 0, 0, []),
  (42, .iload_n 1, 1, 1, 0, 0, 0, []),
  (43, .invokevirtual 209, 3, 117, 2, 11, 0, []),
  (46, .aload_n 0, 1, 0, 0, 0, 0, []),
  (47, .getfield 74, 3, 11, 14, 0, 0, []),
  (50, .invokevirtual 197, 3, 57, 1, 7, 1, []),
  (53, .istore 4, 2, 4, 0, 0, 0, []),
  (55, .iconst 0, 1, 0, 0, 0, 0, []),
  (56, .istore 5, 2, 5, 0, 0, 0, []),
  (58, .iconst 0, 1, 0, 0, 0, 0, []),
  (59, .istore 6, 2, 6, 0, 0, 0, []),
  (61, .iload 6, 2, 6, 0, 0, 0, []),
  (63, .aload_n 0, 1, 0, 0, 0, 0, []),
  (64, .getfield 74, 3, 11, 14, 0, 0, []),
  (67, .getfield 96, 3, 7, 1, 0, 0, []),
  (70, .if_icmp .ge 53, 3, 123, 0, 0, 0, []),
  (73, .aload_n 0, 1, 0, 0, 0, 0, []),
  (74, .getfield 74, 3, 11, 14, 0, 0, []),
  (77, .getfield 100, 3, 7, 0, 0, 0, []),
  (80, .iload 6, 2, 6, 0, 0, 0, []),
  (82, .aaload, 1, 0, 0, 0, 0, []),
  (83, .astore 7, 2, 7, 0, 0, 0, []),
  (85, .aload 7, 2, 7, 0, 0, 0, []),
  (87, .getfield 138, 3, 2, 5, 0, 0, []),
  (90, .ifCond .eq 8, 3, 98, 0, 0, 0, []),
  (93, .iload 4, 2, 4, 0, 0, 0, []),
  (95, .goto 11, 3, 106, 0, 0, 0, []),
  (98, .iload 4, 2, 4, 0, 0, 0, []),
  (100, .aload 7, 2, 7, 0, 0, 0, []),
  (102, .getfield 132, 3, 2, 3, 0, 0, []),
  (105, .isub, 1, 0, 0, 0, 0, []),
  (106, .istore 8, 2, 8, 0, 0, 0, []),
  (108, .iload 8, 2, 8, 0, 0, 0, []),
  (110, .iload_n 2, 1, 2, 0, 0, 0, []),
  (111, .if_icmp .gt 6, 3, 117, 0, 0, 0, []),
  (114, .iinc 5 1, 3, 5, 0, 0, 1, []),
  (117, .iinc 6 1, 3, 6, 0, 0, 1, []),
  (120, .goto (-59), 3, 61, 0, 0, 0, []),
  (123, .iload 5, 2, 5, 0, 0, 0, []),
  (125, .aload_n 0, 1, 0, 0, 0, 0, []),
  (126, .getfield 67, 3, 11, 0, 0, 0, []),
  (129, .getfield 96, 3, 7, 1, 0, 0, []),
  (132, .iload_n 3, 1, 3, 0, 0, 0, []),
  (133, .invokestatic 270, 3, 121, 3, 0, 2, []),
  (136, .lreturn, 1, 0, 0, 0, 0, [])]
def zc_X11_mean : List (Nat × List Bool) := [(41, [true, false, true, true, true])]
def zo_X11_mean : List z_Op := [(0, .iload_n 1, 1, 1, 0, 0, 0, []),
  (1, .bipush 60, 2, 0, 0, 0, 60, []),
  (3, .invokestatic 92, 3, 115, 2, 0, 1, []),
  (6, .ifCond .ne 21, 3, 27, 0, 0, 0, []),
  (9, .iload_n 2, 1, 2, 0, 0, 0, []),
  (10, .iconst 1, 1, 0, 0, 0, 1, []),
  (11, .invokestatic 92, 3, 115, 2, 0, 1, []),
  (14, .ifCond .ne 13, 3, 27, 0, 0, 0, []),
  (17, .aload_n 0, 1, 0, 0, 0, 0, []),
  (18, .getfield 67, 3, 11, 0, 0, 0, []),
  (21, .getfield 96, 3, 7, 1, 0, 0, []),
  (24, .ifCond .gt 7, 3, 31, 0, 0, 0, []),
  (27, .ldc2_w 268, 3, 9223372036854775808, 0, 0, 0, []),
  (30, .lreturn, 1, 0, 0, 0, 0, []),
  (31, .aload_n 0, 1, 0, 0, 0, 0, []),
  (32, .iload_n 1, 1, 1, 0, 0, 0, []),
  (33, .invokevirtual 209, 3, 117, 2, 11, 0, []),
  (36, .iconst 0, 1, 0, 0, 0, 0, []),
  (37, .istore_n 3, 1, 3, 0, 0, 0, []),
  (38, .iconst 0, 1, 0, 0, 0, 0, []),
  (39, .istore 4, 2, 4, 0, 0, 0, []),
  (41, .iload 4, 2, 4, 0, 0, 0, []),
  (43, .aload_n 0, 1, 0, 0, 0, 0, []),
  (44, .getfield 74, 3, 11, 14, 0, 0, []),
  (47, .getfield 96, 3, 7, 1, 0, 0, []),
  (50, .if_icmp .ge 25, 3, 75, 0, 0, 0, []),
  (53, .iload_n 3, 1, 3, 0, 0, 0, []),
  (54, .aload_n 0, 1, 0, 0, 0, 0, []),
  (55, .getfield 74, 3, 11, 14, 0, 0, []),
  (58, .getfield 100, 3, 7, 0, 0, 0, []),
  (61, .iload 4, 2, 4, 0, 0, 0, []),
  (63, .aaload, 1, 0, 0, 0, 0, []),
  (64, .getfield 132, 3, 2, 3, 0, 0, []),
  (67, .iadd, 1, 0, 0, 0, 0, []),
  (68, .istore_n 3, 1, 3, 0, 0, 0, []),
  (69, .iinc 4 1, 3, 4, 0, 0, 1, []),
  (72, .goto (-31), 3, 41, 0, 0, 0, []),
  (75, .iload_n 3, 1, 3, 0, 0, 0, []),
  (76, .aload_n 0, 1, 0, 0, 0, 0, []),
  (77, .getfield 67, 3, 11, 0, 0, 0, []),
  (80, .getfield 96, 3, 7, 1, 0, 0, []),
  (83, .iload_n 2, 1, 2, 0, 0, 0, []),
  (84, .invokestatic 270, 3, 121, 3, 0, 2, []),
  (87, .lreturn, 1, 0, 0, 0, 0, [])]
def zc_X11_rota : List (Nat × List Bool) := []
def zo_X11_rota : List z_Op := [(0, .iload_n 1, 1, 1, 0, 0, 0, []),
  (1, .iconst (-1), 1, 0, 0, 0, (-1), []),
  (2, .if_icmp .ne 13, 3, 15, 0, 0, 0, []),
  (5, .aload_n 0, 1, 0, 0, 0, 0, []),
  (6, .getfield 20, 3, 11, 2, 0, 0, []),
  (9, .iconst 0, 1, 0, 0, 0, 0, []),
  (10, .putfield 254, 3, 8, 3, 0, 0, []),
  (13, .iconst 0, 1, 0, 0, 0, 0, []),
  (14, .ireturn, 1, 0, 0, 0, 0, []),
  (15, .iload_n 1, 1, 1, 0, 0, 0, []),
  (16, .iconst 3, 1, 0, 0, 0, 3, []),
  (17, .invokestatic 92, 3, 115, 2, 0, 1, []),
  (20, .ifCond .eq 5, 3, 25, 0, 0, 0, []),
  (23, .iconst (-1), 1, 0, 0, 0, (-1), []),
  (24, .ireturn, 1, 0, 0, 0, 0, []),
  (25, .iload_n 1, 1, 1, 0, 0, 0, []),
  (26, .iconst 2, 1, 0, 0, 0, 2, []),
  (27, .if_icmp .eq 8, 3, 35, 0, 0, 0, []),
  (30, .iload_n 1, 1, 1, 0, 0, 0, []),
  (31, .iconst 3, 1, 0, 0, 0, 3, []),
  (32, .if_icmp .ne 7, 3, 39, 0, 0, 0, []),
  (35, .iconst 1, 1, 0, 0, 0, 1, []),
  (36, .goto 4, 3, 40, 0, 0, 0, []),
  (39, .iconst 0, 1, 0, 0, 0, 0, []),
  (40, .istore_n 3, 1, 3, 0, 0, 0, []),
  (41, .iload_n 3, 1, 3, 0, 0, 0, []),
  (42, .ifCond .eq 13, 3, 55, 0, 0, 0, []),
  (45, .aload_n 0, 1, 0, 0, 0, 0, []),
  (46, .iload_n 2, 1, 2, 0, 0, 0, []),
  (47, .invokevirtual 114, 3, 116, 2, 11, 1, []),
  (50, .ifCond .eq 5, 3, 55, 0, 0, 0, []),
  (53, .iconst (-1), 1, 0, 0, 0, (-1), []),
  (54, .ireturn, 1, 0, 0, 0, 0, []),
  (55, .aload_n 0, 1, 0, 0, 0, 0, []),
  (56, .getfield 20, 3, 11, 2, 0, 0, []),
  (59, .invokevirtual 255, 3, 62, 1, 8, 1, []),
  (62, .ifCond .eq 6, 3, 68, 0, 0, 0, []),
  (65, .bipush (-4), 2, 0, 0, 0, (-4), []),
  (67, .ireturn, 1, 0, 0, 0, 0, []),
  (68, .aload_n 0, 1, 0, 0, 0, 0, []),
  (69, .getfield 20, 3, 11, 2, 0, 0, []),
  (72, .iload_n 1, 1, 1, 0, 0, 0, []),
  (73, .iload_n 3, 1, 3, 0, 0, 0, []),
  (74, .ifCond .eq 7, 3, 81, 0, 0, 0, []),
  (77, .iload_n 2, 1, 2, 0, 0, 0, []),
  (78, .goto 4, 3, 82, 0, 0, 0, []),
  (81, .iconst 0, 1, 0, 0, 0, 0, []),
  (82, .iconst 0, 1, 0, 0, 0, 0, []),
  (83, .invokevirtual 259, 3, 63, 4, 8, 1, []),
  (86, .ireturn, 1, 0, 0, 0, 0, [])]
def zc_X11_ends : List (Nat × List Bool) := [(23, [true, true, true])]
def zo_X11_ends : List z_Op := [(0, .iload_n 1, 1, 1, 0, 0, 0, []),
  (1, .iconst 1, 1, 0, 0, 0, 1, []),
  (2, .invokestatic 92, 3, 115, 2, 0, 1, []),
  (5, .ifCond .eq 5, 3, 10, 0, 0, 0, []),
  (8, .iconst (-1), 1, 0, 0, 0, (-1), []),
  (9, .ireturn, 1, 0, 0, 0, 0, []),
  (10, .aload_n 0, 1, 0, 0, 0, 0, []),
  (11, .getfield 74, 3, 11, 14, 0, 0, []),
  (14, .aload_n 0, 1, 0, 0, 0, 0, []),
  (15, .getfield 67, 3, 11, 0, 0, 0, []),
  (18, .invokevirtual 274, 3, 51, 2, 7, 0, []),
  (21, .iconst 0, 1, 0, 0, 0, 0, []),
  (22, .istore_n 2, 1, 2, 0, 0, 0, []),
  (23, .iload_n 2, 1, 2, 0, 0, 0, []),
  (24, .aload_n 0, 1, 0, 0, 0, 0, []),
  (25, .getfield 20, 3, 11, 2, 0, 0, []),
  (28, .getfield 254, 3, 8, 3, 0, 0, []),
  (31, .if_icmp .ge 34, 3, 65, 0, 0, 0, []),
  (34, .aload_n 0, 1, 0, 0, 0, 0, []),
  (35, .getfield 74, 3, 11, 14, 0, 0, []),
  (38, .aload_n 0, 1, 0, 0, 0, 0, []),
  (39, .getfield 20, 3, 11, 2, 0, 0, []),
  (42, .getfield 278, 3, 8, 0, 0, 0, []),
  (45, .iload_n 2, 1, 2, 0, 0, 0, []),
  (46, .iaload, 1, 0, 0, 0, 0, []),
  (47, .aload_n 0, 1, 0, 0, 0, 0, []),
  (48, .getfield 20, 3, 11, 2, 0, 0, []),
  (51, .getfield 281, 3, 8, 1, 0, 0, []),
  (54, .iload_n 2, 1, 2, 0, 0, 0, []),
  (55, .iaload, 1, 0, 0, 0, 0, []),
  (56, .invokevirtual 284, 3, 56, 3, 7, 0, []),
  (59, .iinc 2 1, 3, 2, 0, 0, 1, []),
  (62, .goto (-39), 3, 23, 0, 0, 0, []),
  (65, .iload_n 1, 1, 1, 0, 0, 0, []),
  (66, .ifCond .ne 13, 3, 79, 0, 0, 0, []),
  (69, .aload_n 0, 1, 0, 0, 0, 0, []),
  (70, .getfield 74, 3, 11, 14, 0, 0, []),
  (73, .invokevirtual 197, 3, 57, 1, 7, 1, []),
  (76, .goto 10, 3, 86, 0, 0, 0, []),
  (79, .aload_n 0, 1, 0, 0, 0, 0, []),
  (80, .getfield 74, 3, 11, 14, 0, 0, []),
  (83, .invokevirtual 200, 3, 58, 1, 7, 1, []),
  (86, .ireturn, 1, 0, 0, 0, 0, [])]
def zc_X11_book : List (Nat × List Bool) := []
def zo_X11_book : List z_Op := [(0, .iload_n 1, 1, 1, 0, 0, 0, []),
  (1, .iconst (-1), 1, 0, 0, 0, (-1), []),
  (2, .if_icmp .ne 13, 3, 15, 0, 0, 0, []),
  (5, .aload_n 0, 1, 0, 0, 0, 0, []),
  (6, .getfield 23, 3, 11, 3, 0, 0, []),
  (9, .iconst 0, 1, 0, 0, 0, 0, []),
  (10, .putfield 254, 3, 8, 3, 0, 0, []),
  (13, .iconst 0, 1, 0, 0, 0, 0, []),
  (14, .ireturn, 1, 0, 0, 0, 0, []),
  (15, .aload_n 0, 1, 0, 0, 0, 0, []),
  (16, .iload_n 1, 1, 1, 0, 0, 0, []),
  (17, .invokevirtual 114, 3, 116, 2, 11, 1, []),
  (20, .ifCond .eq 5, 3, 25, 0, 0, 0, []),
  (23, .iconst (-1), 1, 0, 0, 0, (-1), []),
  (24, .ireturn, 1, 0, 0, 0, 0, []),
  (25, .iload_n 2, 1, 2, 0, 0, 0, []),
  (26, .bipush 99, 2, 0, 0, 0, 99, []),
  (28, .invokestatic 92, 3, 115, 2, 0, 1, []),
  (31, .ifCond .eq 6, 3, 37, 0, 0, 0, []),
  (34, .bipush (-2), 2, 0, 0, 0, (-2), []),
  (36, .ireturn, 1, 0, 0, 0, 0, []),
  (37, .aload_n 0, 1, 0, 0, 0, 0, []),
  (38, .getfield 23, 3, 11, 3, 0, 0, []),
  (41, .invokevirtual 255, 3, 62, 1, 8, 1, []),
  (44, .ifCond .eq 6, 3, 50, 0, 0, 0, []),
  (47, .bipush (-4), 2, 0, 0, 0, (-4), []),
  (49, .ireturn, 1, 0, 0, 0, 0, []),
  (50, .aload_n 0, 1, 0, 0, 0, 0, []),
  (51, .getfield 23, 3, 11, 3, 0, 0, []),
  (54, .iload_n 1, 1, 1, 0, 0, 0, []),
  (55, .iload_n 2, 1, 2, 0, 0, 0, []),
  (56, .iconst 0, 1, 0, 0, 0, 0, []),
  (57, .invokevirtual 259, 3, 63, 4, 8, 1, []),
  (60, .ireturn, 1, 0, 0, 0, 0, [])]
def zc_X11_looked : List (Nat × List Bool) := [(2, [true, true])]
def zo_X11_looked : List z_Op := [(0, .iconst 0, 1, 0, 0, 0, 0, []),
  (1, .istore_n 1, 1, 1, 0, 0, 0, []),
  (2, .iload_n 1, 1, 1, 0, 0, 0, []),
  (3, .aload_n 0, 1, 0, 0, 0, 0, []),
  (4, .getfield 23, 3, 11, 3, 0, 0, []),
  (7, .getfield 254, 3, 8, 3, 0, 0, []),
  (10, .if_icmp .ge 43, 3, 53, 0, 0, 0, []),
  (13, .aload_n 0, 1, 0, 0, 0, 0, []),
  (14, .getfield 67, 3, 11, 0, 0, 0, []),
  (17, .getfield 100, 3, 7, 0, 0, 0, []),
  (20, .aload_n 0, 1, 0, 0, 0, 0, []),
  (21, .getfield 23, 3, 11, 3, 0, 0, []),
  (24, .getfield 278, 3, 8, 0, 0, 0, []),
  (27, .iload_n 1, 1, 1, 0, 0, 0, []),
  (28, .iaload, 1, 0, 0, 0, 0, []),
  (29, .aaload, 1, 0, 0, 0, 0, []),
  (30, .getfield 132, 3, 2, 3, 0, 0, []),
  (33, .aload_n 0, 1, 0, 0, 0, 0, []),
  (34, .getfield 23, 3, 11, 3, 0, 0, []),
  (37, .getfield 281, 3, 8, 1, 0, 0, []),
  (40, .iload_n 1, 1, 1, 0, 0, 0, []),
  (41, .iaload, 1, 0, 0, 0, 0, []),
  (42, .if_icmp .eq 5, 3, 47, 0, 0, 0, []),
  (45, .iload_n 1, 1, 1, 0, 0, 0, []),
  (46, .ireturn, 1, 0, 0, 0, 0, []),
  (47, .iinc 1 1, 3, 1, 0, 0, 1, []),
  (50, .goto (-48), 3, 2, 0, 0, 0, []),
  (53, .bipush (-5), 2, 0, 0, 0, (-5), []),
  (55, .ireturn, 1, 0, 0, 0, 0, [])]
def zc_X11_judge : List (Nat × List Bool) := [(38, [true, false, true, true, true])]
def zo_X11_judge : List z_Op := [(0, .iload_n 1, 1, 1, 0, 0, 0, []),
  (1, .iconst 5, 1, 0, 0, 0, 5, []),
  (2, .invokestatic 92, 3, 115, 2, 0, 1, []),
  (5, .ifCond .eq 5, 3, 10, 0, 0, 0, []),
  (8, .iconst (-1), 1, 0, 0, 0, (-1), []),
  (9, .ireturn, 1, 0, 0, 0, 0, []),
  (10, .aload_n 0, 1, 0, 0, 0, 0, []),
  (11, .getfield 43, 3, 11, 12, 0, 0, []),
  (14, .iload_n 1, 1, 1, 0, 0, 0, []),
  (15, .aaload, 1, 0, 0, 0, 0, []),
  (16, .astore_n 3, 1, 3, 0, 0, 0, []),
  (17, .aload_n 3, 1, 3, 0, 0, 0, []),
  (18, .getfield 288, 3, 10, 0, 0, 0, []),
  (21, .iconst (-1), 1, 0, 0, 0, (-1), []),
  (22, .if_icmp .eq 13, 3, 35, 0, 0, 0, []),
  (25, .aload_n 3, 1, 3, 0, 0, 0, []),
  (26, .getfield 288, 3, 10, 0, 0, 0, []),
  (29, .ifCond .eq 6, 3, 35, 0, 0, 0, []),
  (32, .bipush (-12), 2, 0, 0, 0, (-12), []),
  (34, .ireturn, 1, 0, 0, 0, 0, []),
  (35, .iconst 0, 1, 0, 0, 0, 0, []),
  (36, .istore 4, 2, 4, 0, 0, 0, []),
  (38, .iload 4, 2, 4, 0, 0, 0, []),
  (40, .aload_n 0, 1, 0, 0, 0, 0, []),
  (41, .getfield 67, 3, 11, 0, 0, 0, []),
  (44, .getfield 96, 3, 7, 1, 0, 0, []),
  (47, .if_icmp .ge 68, 3, 115, 0, 0, 0, []),
  (50, .aload_n 3, 1, 3, 0, 0, 0, []),
  (51, .getfield 288, 3, 10, 0, 0, 0, []),
  (54, .iconst (-1), 1, 0, 0, 0, (-1), []),
  (55, .if_icmp .eq 18, 3, 73, 0, 0, 0, []),
  (58, .iload_n 2, 1, 2, 0, 0, 0, []),
  (59, .ifCond .lt 14, 3, 73, 0, 0, 0, []),
  (62, .iload 4, 2, 4, 0, 0, 0, []),
  (64, .aload_n 3, 1, 3, 0, 0, 0, []),
  (65, .getfield 291, 3, 10, 1, 0, 0, []),
  (68, .iload_n 2, 1, 2, 0, 0, 0, []),
  (69, .isub, 1, 0, 0, 0, 0, []),
  (70, .if_icmp .lt 9, 3, 79, 0, 0, 0, []),
  (73, .bipush 100, 2, 0, 0, 0, 100, []),
  (75, .iload 4, 2, 4, 0, 0, 0, []),
  (77, .iadd, 1, 0, 0, 0, 0, []),
  (78, .ireturn, 1, 0, 0, 0, 0, []),
  (79, .aload_n 3, 1, 3, 0, 0, 0, []),
  (80, .getfield 292, 3, 10, 2, 0, 0, []),
  (83, .iload_n 2, 1, 2, 0, 0, 0, []),
  (84, .iload 4, 2, 4, 0, 0, 0, []),
  (86, .iadd, 1, 0, 0, 0, 0, []),
  (87, .laload, 1, 0, 0, 0, 0, []),
  (88, .aload_n 0, 1, 0, 0, 0, 0, []),
  (89, .getfield 67, 3, 11, 0, 0, 0, []),
  (92, .getfield 100, 3, 7, 0, 0, 0, []),
  (95, .iload 4, 2, 4, 0, 0, 0, []),
  (97, .aaload, 1, 0, 0, 0, 0, []),
  (98, .getfield 132, 3, 2, 3, 0, 0, []),
  (101, .i2l, 1, 0, 0, 0, 0, []),
  (102, .lcmp, 1, 0, 0, 0, 0, []),
  (103, .ifCond .eq 6, 3, 109, 0, 0, 0, []),
  (106, .iload 4, 2, 4, 0, 0, 0, []),
  (108, .ireturn, 1, 0, 0, 0, 0, []),
  (109, .iinc 4 1, 3, 4, 0, 0, 1, []),
  (112, .goto (-74), 3, 38, 0, 0, 0, []),
  (115, .bipush (-5), 2, 0, 0, 0, (-5), []),
  (117, .ireturn, 1, 0, 0, 0, 0, [])]
def zc_X11_image : List (Nat × List Bool) := []
def zo_X11_image : List z_Op := [(0, .aload_n 0, 1, 0, 0, 0, 0, []),
  (1, .iconst 1, 1, 0, 0, 0, 1, []),
  (2, .putfield 296, 3, 11, 4, 0, 0, []),
  (5, .aload_n 0, 1, 0, 0, 0, 0, []),
  (6, .getfield 71, 3, 11, 5, 0, 0, []),
  (9, .aload_n 0, 1, 0, 0, 0, 0, []),
  (10, .getfield 67, 3, 11, 0, 0, 0, []),
  (13, .invokevirtual 274, 3, 51, 2, 7, 0, []),
  (16, .aload_n 0, 1, 0, 0, 0, 0, []),
  (17, .getfield 26, 3, 11, 6, 0, 0, []),
  (20, .aload_n 0, 1, 0, 0, 0, 0, []),
  (21, .getfield 16, 3, 11, 1, 0, 0, []),
  (24, .invokevirtual 299, 3, 64, 2, 8, 0, []),
  (27, .aload_n 0, 1, 0, 0, 0, 0, []),
  (28, .getfield 29, 3, 11, 7, 0, 0, []),
  (31, .aload_n 0, 1, 0, 0, 0, 0, []),
  (32, .getfield 20, 3, 11, 2, 0, 0, []),
  (35, .invokevirtual 299, 3, 64, 2, 8, 0, []),
  (38, .aload_n 0, 1, 0, 0, 0, 0, []),
  (39, .getfield 32, 3, 11, 8, 0, 0, []),
  (42, .aload_n 0, 1, 0, 0, 0, 0, []),
  (43, .getfield 23, 3, 11, 3, 0, 0, []),
  (46, .invokevirtual 299, 3, 64, 2, 8, 0, []),
  (49, .aload_n 0, 1, 0, 0, 0, 0, []),
  (50, .getfield 67, 3, 11, 0, 0, 0, []),
  (53, .getfield 96, 3, 7, 1, 0, 0, []),
  (56, .ireturn, 1, 0, 0, 0, 0, [])]
def zc_X11_undo : List (Nat × List Bool) := []
def zo_X11_undo : List z_Op := [(0, .aload_n 0, 1, 0, 0, 0, 0, []),
  (1, .getfield 296, 3, 11, 4, 0, 0, []),
  (4, .ifCond .ne 6, 3, 10, 0, 0, 0, []),
  (7, .bipush (-3), 2, 0, 0, 0, (-3), []),
  (9, .ireturn, 1, 0, 0, 0, 0, []),
  (10, .aload_n 0, 1, 0, 0, 0, 0, []),
  (11, .getfield 67, 3, 11, 0, 0, 0, []),
  (14, .aload_n 0, 1, 0, 0, 0, 0, []),
  (15, .getfield 71, 3, 11, 5, 0, 0, []),
  (18, .invokevirtual 274, 3, 51, 2, 7, 0, []),
  (21, .aload_n 0, 1, 0, 0, 0, 0, []),
  (22, .getfield 16, 3, 11, 1, 0, 0, []),
  (25, .aload_n 0, 1, 0, 0, 0, 0, []),
  (26, .getfield 26, 3, 11, 6, 0, 0, []),
  (29, .invokevirtual 299, 3, 64, 2, 8, 0, []),
  (32, .aload_n 0, 1, 0, 0, 0, 0, []),
  (33, .getfield 20, 3, 11, 2, 0, 0, []),
  (36, .aload_n 0, 1, 0, 0, 0, 0, []),
  (37, .getfield 29, 3, 11, 7, 0, 0, []),
  (40, .invokevirtual 299, 3, 64, 2, 8, 0, []),
  (43, .aload_n 0, 1, 0, 0, 0, 0, []),
  (44, .getfield 23, 3, 11, 3, 0, 0, []),
  (47, .aload_n 0, 1, 0, 0, 0, 0, []),
  (48, .getfield 32, 3, 11, 8, 0, 0, []),
  (51, .invokevirtual 299, 3, 64, 2, 8, 0, []),
  (54, .aload_n 0, 1, 0, 0, 0, 0, []),
  (55, .getfield 67, 3, 11, 0, 0, 0, []),
  (58, .getfield 96, 3, 7, 1, 0, 0, []),
  (61, .ireturn, 1, 0, 0, 0, 0, [])]
def zc_X11_act : List (Nat × List Bool) := []
def zo_X11_act : List z_Op := [(0, .aload_n 0, 1, 0, 0, 0, 0, []),
  (1, .getfield 50, 3, 11, 13, 0, 0, []),
  (4, .invokevirtual 302, 3, 1, 1, 1, 0, []),
  (7, .aload_n 0, 1, 0, 0, 0, 0, []),
  (8, .iload_n 1, 1, 1, 0, 0, 0, []),
  (9, .invokevirtual 114, 3, 116, 2, 11, 1, []),
  (12, .ifCond .eq 7, 3, 19, 0, 0, 0, []),
  (15, .iconst 0, 1, 0, 0, 0, 0, []),
  (16, .goto 21, 3, 37, 0, 0, 0, []),
  (19, .aload_n 0, 1, 0, 0, 0, 0, []),
  (20, .getfield 50, 3, 11, 13, 0, 0, []),
  (23, .aload_n 0, 1, 0, 0, 0, 0, []),
  (24, .getfield 67, 3, 11, 0, 0, 0, []),
  (27, .getfield 100, 3, 7, 0, 0, 0, []),
  (30, .iload_n 1, 1, 1, 0, 0, 0, []),
  (31, .aaload, 1, 0, 0, 0, 0, []),
  (32, .iload_n 2, 1, 2, 0, 0, 0, []),
  (33, .iload_n 3, 1, 3, 0, 0, 0, []),
  (34, .invokevirtual 305, 3, 3, 4, 1, 1, []),
  (37, .ireturn, 1, 0, 0, 0, 0, [])]
def zc_X11_trace : List (Nat × List Bool) := []
def zo_X11_trace : List z_Op := [(0, .iload_n 1, 1, 1, 0, 0, 0, []),
  (1, .ifCond .lt 14, 3, 15, 0, 0, 0, []),
  (4, .iload_n 1, 1, 1, 0, 0, 0, []),
  (5, .aload_n 0, 1, 0, 0, 0, 0, []),
  (6, .getfield 50, 3, 11, 13, 0, 0, []),
  (9, .invokevirtual 309, 3, 2, 1, 1, 1, []),
  (12, .if_icmp .lt 7, 3, 19, 0, 0, 0, []),
  (15, .iconst (-1), 1, 0, 0, 0, (-1), []),
  (16, .goto 12, 3, 28, 0, 0, 0, []),
  (19, .aload_n 0, 1, 0, 0, 0, 0, []),
  (20, .getfield 50, 3, 11, 13, 0, 0, []),
  (23, .getfield 312, 3, 1, 0, 0, 0, []),
  (26, .iload_n 1, 1, 1, 0, 0, 0, []),
  (27, .iaload, 1, 0, 0, 0, 0, []),
  (28, .ireturn, 1, 0, 0, 0, 0, [])]
def zc_X11_taken : List (Nat × List Bool) := []
def zo_X11_taken : List z_Op := [(0, .iload_n 2, 1, 2, 0, 0, 0, []),
  (1, .bipush 6, 2, 0, 0, 0, 6, []),
  (3, .invokestatic 92, 3, 115, 2, 0, 1, []),
  (6, .ifCond .eq 6, 3, 12, 0, 0, 0, []),
  (9, .bipush (-2), 2, 0, 0, 0, (-2), []),
  (11, .ireturn, 1, 0, 0, 0, 0, []),
  (12, .aload_n 0, 1, 0, 0, 0, 0, []),
  (13, .iload_n 1, 1, 1, 0, 0, 0, []),
  (14, .invokevirtual 114, 3, 116, 2, 11, 1, []),
  (17, .ifCond .eq 6, 3, 23, 0, 0, 0, []),
  (20, .bipush (-11), 2, 0, 0, 0, (-11), []),
  (22, .ireturn, 1, 0, 0, 0, 0, []),
  (23, .aload_n 0, 1, 0, 0, 0, 0, []),
  (24, .getfield 67, 3, 11, 0, 0, 0, []),
  (27, .getfield 100, 3, 7, 0, 0, 0, []),
  (30, .iload_n 1, 1, 1, 0, 0, 0, []),
  (31, .aaload, 1, 0, 0, 0, 0, []),
  (32, .getfield 126, 3, 2, 1, 0, 0, []),
  (35, .istore_n 3, 1, 3, 0, 0, 0, []),
  (36, .iload_n 3, 1, 3, 0, 0, 0, []),
  (37, .iload_n 2, 1, 2, 0, 0, 0, []),
  (38, .invokestatic 315, 3, 42, 2, 0, 1, []),
  (41, .ifCond .eq 7, 3, 48, 0, 0, 0, []),
  (44, .iload_n 3, 1, 3, 0, 0, 0, []),
  (45, .goto 5, 3, 50, 0, 0, 0, []),
  (48, .bipush (-12), 2, 0, 0, 0, (-12), []),
  (50, .ireturn, 1, 0, 0, 0, 0, [])]
def zc_X11_count : List (Nat × List Bool) := []
def zo_X11_count : List z_Op := [(0, .iload_n 1, 1, 1, 0, 0, 0, []),
  (1, .tableswitch 96 0 6 #[43, 51, 56, 64, 72, 80, 88], 43, 97, 0, 0, 0, [(0, 44), (1, 52), (2, 57), (3, 65), (4, 73), (5, 81), (6, 89)]),
  (44, .aload_n 0, 1, 0, 0, 0, 0, []),
  (45, .getfield 67, 3, 11, 0, 0, 0, []),
  (48, .getfield 96, 3, 7, 1, 0, 0, []),
  (51, .ireturn, 1, 0, 0, 0, 0, []),
  (52, .aload_n 0, 1, 0, 0, 0, 0, []),
  (53, .getfield 174, 3, 11, 11, 0, 0, []),
  (56, .ireturn, 1, 0, 0, 0, 0, []),
  (57, .aload_n 0, 1, 0, 0, 0, 0, []),
  (58, .getfield 16, 3, 11, 1, 0, 0, []),
  (61, .getfield 254, 3, 8, 3, 0, 0, []),
  (64, .ireturn, 1, 0, 0, 0, 0, []),
  (65, .aload_n 0, 1, 0, 0, 0, 0, []),
  (66, .getfield 20, 3, 11, 2, 0, 0, []),
  (69, .getfield 254, 3, 8, 3, 0, 0, []),
  (72, .ireturn, 1, 0, 0, 0, 0, []),
  (73, .aload_n 0, 1, 0, 0, 0, 0, []),
  (74, .getfield 23, 3, 11, 3, 0, 0, []),
  (77, .getfield 254, 3, 8, 3, 0, 0, []),
  (80, .ireturn, 1, 0, 0, 0, 0, []),
  (81, .aload_n 0, 1, 0, 0, 0, 0, []),
  (82, .getfield 87, 3, 11, 9, 0, 0, []),
  (85, .getfield 168, 3, 5, 1, 0, 0, []),
  (88, .ireturn, 1, 0, 0, 0, 0, []),
  (89, .aload_n 0, 1, 0, 0, 0, 0, []),
  (90, .getfield 50, 3, 11, 13, 0, 0, []),
  (93, .getfield 320, 3, 1, 1, 0, 0, []),
  (96, .ireturn, 1, 0, 0, 0, 0, []),
  (97, .bipush (-2), 2, 0, 0, 0, (-2), []),
  (99, .ireturn, 1, 0, 0, 0, 0, [])]
def zc_X11_tape : List (Nat × List Bool) := []
def zo_X11_tape : List z_Op := [(0, .iload_n 1, 1, 1, 0, 0, 0, []),
  (1, .iconst 5, 1, 0, 0, 0, 5, []),
  (2, .invokestatic 92, 3, 115, 2, 0, 1, []),
  (5, .ifCond .eq 5, 3, 10, 0, 0, 0, []),
  (8, .iconst (-1), 1, 0, 0, 0, (-1), []),
  (9, .ireturn, 1, 0, 0, 0, 0, []),
  (10, .iload_n 2, 1, 2, 0, 0, 0, []),
  (11, .iconst (-1), 1, 0, 0, 0, (-1), []),
  (12, .if_icmp .ne 16, 3, 28, 0, 0, 0, []),
  (15, .aload_n 0, 1, 0, 0, 0, 0, []),
  (16, .getfield 43, 3, 11, 12, 0, 0, []),
  (19, .iload_n 1, 1, 1, 0, 0, 0, []),
  (20, .aaload, 1, 0, 0, 0, 0, []),
  (21, .iconst (-1), 1, 0, 0, 0, (-1), []),
  (22, .iconst 0, 1, 0, 0, 0, 0, []),
  (23, .invokevirtual 323, 3, 72, 3, 10, 0, []),
  (26, .iconst 1, 1, 0, 0, 0, 1, []),
  (27, .ireturn, 1, 0, 0, 0, 0, []),
  (28, .iload_n 2, 1, 2, 0, 0, 0, []),
  (29, .iconst 4, 1, 0, 0, 0, 4, []),
  (30, .invokestatic 92, 3, 115, 2, 0, 1, []),
  (33, .ifCond .ne 9, 3, 42, 0, 0, 0, []),
  (36, .iload_n 3, 1, 3, 0, 0, 0, []),
  (37, .bipush 60, 2, 0, 0, 0, 60, []),
  (39, .if_icmp .le 6, 3, 45, 0, 0, 0, []),
  (42, .bipush (-2), 2, 0, 0, 0, (-2), []),
  (44, .ireturn, 1, 0, 0, 0, 0, []),
  (45, .iload_n 3, 1, 3, 0, 0, 0, []),
  (46, .ifCond .ge 6, 3, 52, 0, 0, 0, []),
  (49, .bipush (-14), 2, 0, 0, 0, (-14), []),
  (51, .ireturn, 1, 0, 0, 0, 0, []),
  (52, .aload_n 0, 1, 0, 0, 0, 0, []),
  (53, .getfield 43, 3, 11, 12, 0, 0, []),
  (56, .iload_n 1, 1, 1, 0, 0, 0, []),
  (57, .aaload, 1, 0, 0, 0, 0, []),
  (58, .iload_n 2, 1, 2, 0, 0, 0, []),
  (59, .iload_n 3, 1, 3, 0, 0, 0, []),
  (60, .invokevirtual 323, 3, 72, 3, 10, 0, []),
  (63, .iconst 1, 1, 0, 0, 0, 1, []),
  (64, .ireturn, 1, 0, 0, 0, 0, [])]
def zc_X11_item : List (Nat × List Bool) := []
def zo_X11_item : List z_Op := [(0, .iload_n 1, 1, 1, 0, 0, 0, []),
  (1, .iconst 5, 1, 0, 0, 0, 5, []),
  (2, .invokestatic 92, 3, 115, 2, 0, 1, []),
  (5, .ifCond .eq 5, 3, 10, 0, 0, 0, []),
  (8, .iconst (-1), 1, 0, 0, 0, (-1), []),
  (9, .ireturn, 1, 0, 0, 0, 0, []),
  (10, .aload_n 0, 1, 0, 0, 0, 0, []),
  (11, .getfield 43, 3, 11, 12, 0, 0, []),
  (14, .iload_n 1, 1, 1, 0, 0, 0, []),
  (15, .aaload, 1, 0, 0, 0, 0, []),
  (16, .astore 5, 2, 5, 0, 0, 0, []),
  (18, .aload 5, 2, 5, 0, 0, 0, []),
  (20, .getfield 288, 3, 10, 0, 0, 0, []),
  (23, .iconst (-1), 1, 0, 0, 0, (-1), []),
  (24, .if_icmp .ne 6, 3, 30, 0, 0, 0, []),
  (27, .bipush (-11), 2, 0, 0, 0, (-11), []),
  (29, .ireturn, 1, 0, 0, 0, 0, []),
  (30, .iload_n 2, 1, 2, 0, 0, 0, []),
  (31, .ifCond .lt 12, 3, 43, 0, 0, 0, []),
  (34, .iload_n 2, 1, 2, 0, 0, 0, []),
  (35, .aload 5, 2, 5, 0, 0, 0, []),
  (37, .getfield 291, 3, 10, 1, 0, 0, []),
  (40, .if_icmp .lt 6, 3, 46, 0, 0, 0, []),
  (43, .bipush (-13), 2, 0, 0, 0, (-13), []),
  (45, .ireturn, 1, 0, 0, 0, 0, []),
  (46, .aload 5, 2, 5, 0, 0, 0, []),
  (48, .getfield 292, 3, 10, 2, 0, 0, []),
  (51, .iload_n 2, 1, 2, 0, 0, 0, []),
  (52, .aload 5, 2, 5, 0, 0, 0, []),
  (54, .lload_n 3, 1, 3, 0, 0, 0, []),
  (55, .invokevirtual 325, 3, 74, 2, 10, 2, []),
  (58, .lastore, 1, 0, 0, 0, 0, []),
  (59, .iconst 1, 1, 0, 0, 0, 1, []),
  (60, .ireturn, 1, 0, 0, 0, 0, [])]
def zc_X11_read : List (Nat × List Bool) := []
def zo_X11_read : List z_Op := [(0, .iload_n 1, 1, 1, 0, 0, 0, []),
  (1, .iconst 5, 1, 0, 0, 0, 5, []),
  (2, .invokestatic 92, 3, 115, 2, 0, 1, []),
  (5, .ifCond .eq 7, 3, 12, 0, 0, 0, []),
  (8, .ldc2_w 268, 3, 9223372036854775808, 0, 0, 0, []),
  (11, .lreturn, 1, 0, 0, 0, 0, []),
  (12, .aload_n 0, 1, 0, 0, 0, 0, []),
  (13, .getfield 43, 3, 11, 12, 0, 0, []),
  (16, .iload_n 1, 1, 1, 0, 0, 0, []),
  (17, .aaload, 1, 0, 0, 0, 0, []),
  (18, .astore_n 3, 1, 3, 0, 0, 0, []),
  (19, .iload_n 2, 1, 2, 0, 0, 0, []),
  (20, .ifCond .lt 11, 3, 31, 0, 0, 0, []),
  (23, .iload_n 2, 1, 2, 0, 0, 0, []),
  (24, .aload_n 3, 1, 3, 0, 0, 0, []),
  (25, .getfield 291, 3, 10, 1, 0, 0, []),
  (28, .if_icmp .lt 9, 3, 37, 0, 0, 0, []),
  (31, .ldc2_w 268, 3, 9223372036854775808, 0, 0, 0, []),
  (34, .goto 9, 3, 43, 0, 0, 0, []),
  (37, .aload_n 3, 1, 3, 0, 0, 0, []),
  (38, .getfield 292, 3, 10, 2, 0, 0, []),
  (41, .iload_n 2, 1, 2, 0, 0, 0, []),
  (42, .laload, 1, 0, 0, 0, 0, []),
  (43, .lreturn, 1, 0, 0, 0, 0, [])]
def zc_X11_shift : List (Nat × List Bool) := []
def zo_X11_shift : List z_Op := [(0, .iload_n 1, 1, 1, 0, 0, 0, []),
  (1, .iconst 5, 1, 0, 0, 0, 5, []),
  (2, .invokestatic 92, 3, 115, 2, 0, 1, []),
  (5, .ifCond .ne 11, 3, 16, 0, 0, 0, []),
  (8, .iload_n 3, 1, 3, 0, 0, 0, []),
  (9, .iconst 5, 1, 0, 0, 0, 5, []),
  (10, .invokestatic 92, 3, 115, 2, 0, 1, []),
  (13, .ifCond .eq 5, 3, 18, 0, 0, 0, []),
  (16, .iconst (-1), 1, 0, 0, 0, (-1), []),
  (17, .ireturn, 1, 0, 0, 0, 0, []),
  (18, .aload_n 0, 1, 0, 0, 0, 0, []),
  (19, .getfield 43, 3, 11, 12, 0, 0, []),
  (22, .iload_n 1, 1, 1, 0, 0, 0, []),
  (23, .aaload, 1, 0, 0, 0, 0, []),
  (24, .astore 6, 2, 6, 0, 0, 0, []),
  (26, .aload_n 0, 1, 0, 0, 0, 0, []),
  (27, .getfield 43, 3, 11, 12, 0, 0, []),
  (30, .iload_n 3, 1, 3, 0, 0, 0, []),
  (31, .aaload, 1, 0, 0, 0, 0, []),
  (32, .astore 7, 2, 7, 0, 0, 0, []),
  (34, .aload 6, 2, 6, 0, 0, 0, []),
  (36, .getfield 288, 3, 10, 0, 0, 0, []),
  (39, .iconst (-1), 1, 0, 0, 0, (-1), []),
  (40, .if_icmp .eq 12, 3, 52, 0, 0, 0, []),
  (43, .aload 7, 2, 7, 0, 0, 0, []),
  (45, .getfield 288, 3, 10, 0, 0, 0, []),
  (48, .iconst (-1), 1, 0, 0, 0, (-1), []),
  (49, .if_icmp .ne 6, 3, 55, 0, 0, 0, []),
  (52, .bipush (-11), 2, 0, 0, 0, (-11), []),
  (54, .ireturn, 1, 0, 0, 0, 0, []),
  (55, .aload 6, 2, 6, 0, 0, 0, []),
  (57, .getfield 288, 3, 10, 0, 0, 0, []),
  (60, .aload 7, 2, 7, 0, 0, 0, []),
  (62, .getfield 288, 3, 10, 0, 0, 0, []),
  (65, .if_icmp .eq 6, 3, 71, 0, 0, 0, []),
  (68, .bipush (-12), 2, 0, 0, 0, (-12), []),
  (70, .ireturn, 1, 0, 0, 0, 0, []),
  (71, .aload 6, 2, 6, 0, 0, 0, []),
  (73, .iload_n 2, 1, 2, 0, 0, 0, []),
  (74, .iload 5, 2, 5, 0, 0, 0, []),
  (76, .invokevirtual 329, 3, 73, 3, 10, 1, []),
  (79, .ifCond .eq 15, 3, 94, 0, 0, 0, []),
  (82, .aload 7, 2, 7, 0, 0, 0, []),
  (84, .iload 4, 2, 4, 0, 0, 0, []),
  (86, .iload 5, 2, 5, 0, 0, 0, []),
  (88, .invokevirtual 329, 3, 73, 3, 10, 1, []),
  (91, .ifCond .ne 6, 3, 97, 0, 0, 0, []),
  (94, .bipush (-13), 2, 0, 0, 0, (-13), []),
  (96, .ireturn, 1, 0, 0, 0, 0, []),
  (97, .aload 6, 2, 6, 0, 0, 0, []),
  (99, .getfield 292, 3, 10, 2, 0, 0, []),
  (102, .iload_n 2, 1, 2, 0, 0, 0, []),
  (103, .aload 7, 2, 7, 0, 0, 0, []),
  (105, .getfield 292, 3, 10, 2, 0, 0, []),
  (108, .iload 4, 2, 4, 0, 0, 0, []),
  (110, .iload 5, 2, 5, 0, 0, 0, []),
  (112, .invokestatic 332, 3, 1003, 5, 0, 0, []),
  (115, .iload 5, 2, 5, 0, 0, 0, []),
  (117, .ireturn, 1, 0, 0, 0, 0, [])]
def zc_X11_outside : List (Nat × List Bool) := []
def zo_X11_outside : List z_Op := [(0, .iload_n 0, 1, 0, 0, 0, 0, []),
  (1, .ifCond .lt 8, 3, 9, 0, 0, 0, []),
  (4, .iload_n 0, 1, 0, 0, 0, 0, []),
  (5, .iload_n 1, 1, 1, 0, 0, 0, []),
  (6, .if_icmp .le 7, 3, 13, 0, 0, 0, []),
  (9, .iconst 1, 1, 0, 0, 0, 1, []),
  (10, .goto 4, 3, 14, 0, 0, 0, []),
  (13, .iconst 0, 1, 0, 0, 0, 0, []),
  (14, .ireturn, 1, 0, 0, 0, 0, [])]
def zc_X11_noPair : List (Nat × List Bool) := []
def zo_X11_noPair : List z_Op := [(0, .iload_n 1, 1, 1, 0, 0, 0, []),
  (1, .ifCond .lt 14, 3, 15, 0, 0, 0, []),
  (4, .iload_n 1, 1, 1, 0, 0, 0, []),
  (5, .aload_n 0, 1, 0, 0, 0, 0, []),
  (6, .getfield 67, 3, 11, 0, 0, 0, []),
  (9, .getfield 96, 3, 7, 1, 0, 0, []),
  (12, .if_icmp .lt 7, 3, 19, 0, 0, 0, []),
  (15, .iconst 1, 1, 0, 0, 0, 1, []),
  (16, .goto 4, 3, 20, 0, 0, 0, []),
  (19, .iconst 0, 1, 0, 0, 0, 0, []),
  (20, .ireturn, 1, 0, 0, 0, 0, [])]
def zc_X11_tryHours : List (Nat × List Bool) := []
def zo_X11_tryHours : List z_Op := [(0, .aload_n 0, 1, 0, 0, 0, 0, []),
  (1, .getfield 74, 3, 11, 14, 0, 0, []),
  (4, .aload_n 0, 1, 0, 0, 0, 0, []),
  (5, .getfield 67, 3, 11, 0, 0, 0, []),
  (8, .invokevirtual 274, 3, 51, 2, 7, 0, []),
  (11, .aload_n 0, 1, 0, 0, 0, 0, []),
  (12, .getfield 74, 3, 11, 14, 0, 0, []),
  (15, .iload_n 1, 1, 1, 0, 0, 0, []),
  (16, .invokevirtual 206, 3, 55, 2, 7, 0, []),
  (19, .return_, 1, 0, 0, 0, 0, [])]
def zc_X11_wetByLogs : List (Nat × List Bool) := [(13, [true, true, true, true])]
def zo_X11_wetByLogs : List z_Op := [(0, .aload_n 0, 1, 0, 0, 0, 0, []),
  (1, .getfield 74, 3, 11, 14, 0, 0, []),
  (4, .aload_n 0, 1, 0, 0, 0, 0, []),
  (5, .getfield 67, 3, 11, 0, 0, 0, []),
  (8, .invokevirtual 274, 3, 51, 2, 7, 0, []),
  (11, .iconst 0, 1, 0, 0, 0, 0, []),
  (12, .istore_n 3, 1, 3, 0, 0, 0, []),
  (13, .iload_n 3, 1, 3, 0, 0, 0, []),
  (14, .iload_n 1, 1, 1, 0, 0, 0, []),
  (15, .if_icmp .ge 34, 3, 49, 0, 0, 0, []),
  (18, .iload_n 2, 1, 2, 0, 0, 0, []),
  (19, .iload_n 3, 1, 3, 0, 0, 0, []),
  (20, .ishr, 1, 0, 0, 0, 0, []),
  (21, .iconst 1, 1, 0, 0, 0, 1, []),
  (22, .iand, 1, 0, 0, 0, 0, []),
  (23, .ifCond .eq 13, 3, 36, 0, 0, 0, []),
  (26, .aload_n 0, 1, 0, 0, 0, 0, []),
  (27, .getfield 74, 3, 11, 14, 0, 0, []),
  (30, .getfield 118, 3, 7, 2, 0, 0, []),
  (33, .invokevirtual 158, 3, 69, 1, 9, 0, []),
  (36, .aload_n 0, 1, 0, 0, 0, 0, []),
  (37, .getfield 74, 3, 11, 14, 0, 0, []),
  (40, .invokevirtual 338, 3, 54, 1, 7, 0, []),
  (43, .iinc 3 1, 3, 3, 0, 0, 1, []),
  (46, .goto (-33), 3, 13, 0, 0, 0, []),
  (49, .aload_n 0, 1, 0, 0, 0, 0, []),
  (50, .getfield 74, 3, 11, 14, 0, 0, []),
  (53, .invokevirtual 197, 3, 57, 1, 7, 1, []),
  (56, .ireturn, 1, 0, 0, 0, 0, [])]
def zc_X11_courseIsAsSeen : List (Nat × List Bool) := [(22, [true, true, true, true, false, false]), (30, [true, true, true, true, true, false])]
def zo_X11_courseIsAsSeen : List z_Op := [(0, .aload_n 0, 1, 0, 0, 0, 0, []),
  (1, .getfield 80, 3, 11, 15, 0, 0, []),
  (4, .getfield 216, 3, 3, 0, 0, 0, []),
  (7, .getfield 339, 3, 2, 0, 0, 0, []),
  (10, .istore_n 1, 1, 1, 0, 0, 0, []),
  (11, .aload_n 0, 1, 0, 0, 0, 0, []),
  (12, .getfield 16, 3, 11, 1, 0, 0, []),
  (15, .iload_n 1, 1, 1, 0, 0, 0, []),
  (16, .invokevirtual 342, 3, 65, 2, 8, 1, []),
  (19, .istore_n 2, 1, 2, 0, 0, 0, []),
  (20, .iconst 0, 1, 0, 0, 0, 0, []),
  (21, .istore_n 3, 1, 3, 0, 0, 0, []),
  (22, .iload_n 3, 1, 3, 0, 0, 0, []),
  (23, .iload_n 2, 1, 2, 0, 0, 0, []),
  (24, .if_icmp .gt 102, 3, 126, 0, 0, 0, []),
  (27, .iconst 0, 1, 0, 0, 0, 0, []),
  (28, .istore 4, 2, 4, 0, 0, 0, []),
  (30, .iload 4, 2, 4, 0, 0, 0, []),
  (32, .aload_n 0, 1, 0, 0, 0, 0, []),
  (33, .getfield 16, 3, 11, 1, 0, 0, []),
  (36, .getfield 254, 3, 8, 3, 0, 0, []),
  (39, .if_icmp .ge 74, 3, 113, 0, 0, 0, []),
  (42, .aload_n 0, 1, 0, 0, 0, 0, []),
  (43, .getfield 16, 3, 11, 1, 0, 0, []),
  (46, .getfield 278, 3, 8, 0, 0, 0, []),
  (49, .iload 4, 2, 4, 0, 0, 0, []),
  (51, .iaload, 1, 0, 0, 0, 0, []),
  (52, .iload_n 1, 1, 1, 0, 0, 0, []),
  (53, .if_icmp .ne 21, 3, 74, 0, 0, 0, []),
  (56, .aload_n 0, 1, 0, 0, 0, 0, []),
  (57, .getfield 16, 3, 11, 1, 0, 0, []),
  (60, .getfield 345, 3, 8, 2, 0, 0, []),
  (63, .iload 4, 2, 4, 0, 0, 0, []),
  (65, .iaload, 1, 0, 0, 0, 0, []),
  (66, .iload_n 3, 1, 3, 0, 0, 0, []),
  (67, .if_icmp .ne 7, 3, 74, 0, 0, 0, []),
  (70, .iconst 1, 1, 0, 0, 0, 1, []),
  (71, .goto 4, 3, 75, 0, 0, 0, []),
  (74, .iconst 0, 1, 0, 0, 0, 0, []),
  (75, .istore 5, 2, 5, 0, 0, 0, []),
  (77, .iload 5, 2, 5, 0, 0, 0, []),
  (79, .ifCond .eq 28, 3, 107, 0, 0, 0, []),
  (82, .aload_n 0, 1, 0, 0, 0, 0, []),
  (83, .getfield 16, 3, 11, 1, 0, 0, []),
  (86, .getfield 281, 3, 8, 1, 0, 0, []),
  (89, .iload 4, 2, 4, 0, 0, 0, []),
  (91, .iaload, 1, 0, 0, 0, 0, []),
  (92, .aload_n 0, 1, 0, 0, 0, 0, []),
  (93, .getfield 80, 3, 11, 15, 0, 0, []),
  (96, .getfield 216, 3, 3, 0, 0, 0, []),
  (99, .getfield 132, 3, 2, 3, 0, 0, []),
  (102, .if_icmp .eq 5, 3, 107, 0, 0, 0, []),
  (105, .iconst 0, 1, 0, 0, 0, 0, []),
  (106, .ireturn, 1, 0, 0, 0, 0, []),
  (107, .iinc 4 1, 3, 4, 0, 0, 1, []),
  (110, .goto (-80), 3, 30, 0, 0, 0, []),
  (113, .aload_n 0, 1, 0, 0, 0, 0, []),
  (114, .getfield 80, 3, 11, 15, 0, 0, []),
  (117, .invokevirtual 219, 3, 18, 1, 3, 0, []),
  (120, .iinc 3 1, 3, 3, 0, 0, 1, []),
  (123, .goto (-101), 3, 22, 0, 0, 0, []),
  (126, .iconst 1, 1, 0, 0, 0, 1, []),
  (127, .ireturn, 1, 0, 0, 0, 0, [])]
def zc_X11_allIsAsSeenWith : List (Nat × List Bool) := [(26, [true, true, true, true, true, true, false, false])]
def zo_X11_allIsAsSeenWith : List z_Op := [(0, .aload_n 0, 1, 0, 0, 0, 0, []),
  (1, .getfield 67, 3, 11, 0, 0, 0, []),
  (4, .getfield 100, 3, 7, 0, 0, 0, []),
  (7, .iload_n 1, 1, 1, 0, 0, 0, []),
  (8, .aaload, 1, 0, 0, 0, 0, []),
  (9, .getfield 135, 3, 2, 4, 0, 0, []),
  (12, .istore_n 3, 1, 3, 0, 0, 0, []),
  (13, .aload_n 0, 1, 0, 0, 0, 0, []),
  (14, .getfield 67, 3, 11, 0, 0, 0, []),
  (17, .iload_n 2, 1, 2, 0, 0, 0, []),
  (18, .invokevirtual 149, 3, 52, 2, 7, 1, []),
  (21, .istore 4, 2, 4, 0, 0, 0, []),
  (23, .iconst 0, 1, 0, 0, 0, 0, []),
  (24, .istore 5, 2, 5, 0, 0, 0, []),
  (26, .iload 5, 2, 5, 0, 0, 0, []),
  (28, .aload_n 0, 1, 0, 0, 0, 0, []),
  (29, .getfield 16, 3, 11, 1, 0, 0, []),
  (32, .getfield 254, 3, 8, 3, 0, 0, []),
  (35, .if_icmp .ge 107, 3, 142, 0, 0, 0, []),
  (38, .aload_n 0, 1, 0, 0, 0, 0, []),
  (39, .getfield 67, 3, 11, 0, 0, 0, []),
  (42, .getfield 100, 3, 7, 0, 0, 0, []),
  (45, .aload_n 0, 1, 0, 0, 0, 0, []),
  (46, .getfield 16, 3, 11, 1, 0, 0, []),
  (49, .getfield 278, 3, 8, 0, 0, 0, []),
  (52, .iload 5, 2, 5, 0, 0, 0, []),
  (54, .iaload, 1, 0, 0, 0, 0, []),
  (55, .aaload, 1, 0, 0, 0, 0, []),
  (56, .astore 6, 2, 6, 0, 0, 0, []),
  (58, .aload 6, 2, 6, 0, 0, 0, []),
  (60, .getfield 135, 3, 2, 4, 0, 0, []),
  (63, .istore 7, 2, 7, 0, 0, 0, []),
  (65, .aload 6, 2, 6, 0, 0, 0, []),
  (67, .getfield 339, 3, 2, 0, 0, 0, []),
  (70, .iload_n 1, 1, 1, 0, 0, 0, []),
  (71, .if_icmp .ne 9, 3, 80, 0, 0, 0, []),
  (74, .iload_n 2, 1, 2, 0, 0, 0, []),
  (75, .istore 7, 2, 7, 0, 0, 0, []),
  (77, .goto 16, 3, 93, 0, 0, 0, []),
  (80, .aload 6, 2, 6, 0, 0, 0, []),
  (82, .getfield 339, 3, 2, 0, 0, 0, []),
  (85, .iload 4, 2, 4, 0, 0, 0, []),
  (87, .if_icmp .ne 6, 3, 93, 0, 0, 0, []),
  (90, .iload_n 3, 1, 3, 0, 0, 0, []),
  (91, .istore 7, 2, 7, 0, 0, 0, []),
  (93, .aload_n 0, 1, 0, 0, 0, 0, []),
  (94, .getfield 80, 3, 11, 15, 0, 0, []),
  (97, .aload_n 0, 1, 0, 0, 0, 0, []),
  (98, .getfield 16, 3, 11, 1, 0, 0, []),
  (101, .getfield 345, 3, 8, 2, 0, 0, []),
  (104, .iload 5, 2, 5, 0, 0, 0, []),
  (106, .iaload, 1, 0, 0, 0, 0, []),
  (107, .aload 6, 2, 6, 0, 0, 0, []),
  (109, .iload 7, 2, 7, 0, 0, 0, []),
  (111, .aload_n 0, 1, 0, 0, 0, 0, []),
  (112, .getfield 67, 3, 11, 0, 0, 0, []),
  (115, .getfield 118, 3, 7, 2, 0, 0, []),
  (118, .invokevirtual 348, 3, 19, 5, 3, 1, []),
  (121, .aload_n 0, 1, 0, 0, 0, 0, []),
  (122, .getfield 16, 3, 11, 1, 0, 0, []),
  (125, .getfield 281, 3, 8, 1, 0, 0, []),
  (128, .iload 5, 2, 5, 0, 0, 0, []),
  (130, .iaload, 1, 0, 0, 0, 0, []),
  (131, .if_icmp .eq 5, 3, 136, 0, 0, 0, []),
  (134, .iconst 0, 1, 0, 0, 0, 0, []),
  (135, .ireturn, 1, 0, 0, 0, 0, []),
  (136, .iinc 5 1, 3, 5, 0, 0, 1, []),
  (139, .goto (-113), 3, 26, 0, 0, 0, []),
  (142, .iconst 1, 1, 0, 0, 0, 1, []),
  (143, .ireturn, 1, 0, 0, 0, 0, [])]
def zc_X11_partOfFraction : List (Nat × List Bool) := []
def zo_X11_partOfFraction : List z_Op := [(0, .iload_n 0, 1, 0, 0, 0, 0, []),
  (1, .iload_n 1, 1, 1, 0, 0, 0, []),
  (2, .invokestatic 352, 3, 122, 2, 0, 1, []),
  (5, .istore_n 3, 1, 3, 0, 0, 0, []),
  (6, .iload_n 3, 1, 3, 0, 0, 0, []),
  (7, .ifCond .gt 7, 3, 14, 0, 0, 0, []),
  (10, .ldc2_w 268, 3, 9223372036854775808, 0, 0, 0, []),
  (13, .lreturn, 1, 0, 0, 0, 0, []),
  (14, .iload_n 2, 1, 2, 0, 0, 0, []),
  (15, .ifCond .ne 10, 3, 25, 0, 0, 0, []),
  (18, .iload_n 0, 1, 0, 0, 0, 0, []),
  (19, .iload_n 3, 1, 3, 0, 0, 0, []),
  (20, .idiv, 1, 0, 0, 0, 0, []),
  (21, .i2l, 1, 0, 0, 0, 0, []),
  (22, .goto 7, 3, 29, 0, 0, 0, []),
  (25, .iload_n 1, 1, 1, 0, 0, 0, []),
  (26, .iload_n 3, 1, 3, 0, 0, 0, []),
  (27, .idiv, 1, 0, 0, 0, 0, []),
  (28, .i2l, 1, 0, 0, 0, 0, []),
  (29, .lreturn, 1, 0, 0, 0, 0, [])]
def zc_X11_commonDivisor : List (Nat × List Bool) := [(7, [false, false, true, true, true, false])]
def zo_X11_commonDivisor : List z_Op := [(0, .iload_n 1, 1, 1, 0, 0, 0, []),
  (1, .istore_n 2, 1, 2, 0, 0, 0, []),
  (2, .iload_n 0, 1, 0, 0, 0, 0, []),
  (3, .istore_n 3, 1, 3, 0, 0, 0, []),
  (4, .iconst 0, 1, 0, 0, 0, 0, []),
  (5, .istore 4, 2, 4, 0, 0, 0, []),
  (7, .iload 4, 2, 4, 0, 0, 0, []),
  (9, .bipush 64, 2, 0, 0, 0, 64, []),
  (11, .if_icmp .ge 23, 3, 34, 0, 0, 0, []),
  (14, .iload_n 3, 1, 3, 0, 0, 0, []),
  (15, .ifCond .le 19, 3, 34, 0, 0, 0, []),
  (18, .iload_n 2, 1, 2, 0, 0, 0, []),
  (19, .iload_n 3, 1, 3, 0, 0, 0, []),
  (20, .irem, 1, 0, 0, 0, 0, []),
  (21, .istore 5, 2, 5, 0, 0, 0, []),
  (23, .iload_n 3, 1, 3, 0, 0, 0, []),
  (24, .istore_n 2, 1, 2, 0, 0, 0, []),
  (25, .iload 5, 2, 5, 0, 0, 0, []),
  (27, .istore_n 3, 1, 3, 0, 0, 0, []),
  (28, .iinc 4 1, 3, 4, 0, 0, 1, []),
  (31, .goto (-24), 3, 7, 0, 0, 0, []),
  (34, .iload_n 2, 1, 2, 0, 0, 0, []),
  (35, .ireturn, 1, 0, 0, 0, 0, [])]
def zc_X12_init : List (Nat × List Bool) := []
def zo_X12_init : List z_Op := [(0, .aload_n 0, 1, 0, 0, 0, 0, []),
  (1, .invokespecial 1, 3, 1000, 1, 0, 0, []),
  (4, .aload_n 0, 1, 0, 0, 0, 0, []),
  (5, .iconst 0, 1, 0, 0, 0, 0, []),
  (6, .putfield 7, 3, 12, 0, 0, 0, []),
  (9, .aload_n 0, 1, 0, 0, 0, 0, []),
  (10, .iconst 0, 1, 0, 0, 0, 0, []),
  (11, .putfield 13, 3, 12, 1, 0, 0, []),
  (14, .aload_n 0, 1, 0, 0, 0, 0, []),
  (15, .bipush 10, 2, 0, 0, 0, 10, []),
  (17, .putfield 16, 3, 12, 2, 0, 0, []),
  (20, .aload_n 0, 1, 0, 0, 0, 0, []),
  (21, .iconst 3, 1, 0, 0, 0, 3, []),
  (22, .putfield 19, 3, 12, 3, 0, 0, []),
  (25, .aload_n 0, 1, 0, 0, 0, 0, []),
  (26, .iconst 0, 1, 0, 0, 0, 0, []),
  (27, .putfield 22, 3, 12, 4, 0, 0, []),
  (30, .aload_n 0, 1, 0, 0, 0, 0, []),
  (31, .bipush 6, 2, 0, 0, 0, 6, []),
  (33, .newarray .int, 2, 1, 0, 0, 0, []),
  (35, .putfield 25, 3, 12, 5, 0, 0, []),
  (38, .aload_n 0, 1, 0, 0, 0, 0, []),
  (39, .bipush 6, 2, 0, 0, 0, 6, []),
  (41, .newarray .int, 2, 1, 0, 0, 0, []),
  (43, .putfield 29, 3, 12, 6, 0, 0, []),
  (46, .aload_n 0, 1, 0, 0, 0, 0, []),
  (47, .bipush 6, 2, 0, 0, 0, 6, []),
  (49, .newarray .int, 2, 1, 0, 0, 0, []),
  (51, .putfield 32, 3, 12, 7, 0, 0, []),
  (54, .aload_n 0, 1, 0, 0, 0, 0, []),
  (55, .bipush 6, 2, 0, 0, 0, 6, []),
  (57, .newarray .int, 2, 1, 0, 0, 0, []),
  (59, .putfield 35, 3, 12, 8, 0, 0, []),
  (62, .aload_n 0, 1, 0, 0, 0, 0, []),
  (63, .bipush 6, 2, 0, 0, 0, 6, []),
  (65, .newarray .int, 2, 1, 0, 0, 0, []),
  (67, .putfield 38, 3, 12, 9, 0, 0, []),
  (70, .aload_n 0, 1, 0, 0, 0, 0, []),
  (71, .bipush 24, 2, 0, 0, 0, 24, []),
  (73, .newarray .int, 2, 1, 0, 0, 0, []),
  (75, .putfield 41, 3, 12, 10, 0, 0, []),
  (78, .aload_n 0, 1, 0, 0, 0, 0, []),
  (79, .iconst 0, 1, 0, 0, 0, 0, []),
  (80, .putfield 44, 3, 12, 11, 0, 0, []),
  (83, .aload_n 0, 1, 0, 0, 0, 0, []),
  (84, .iconst (-1), 1, 0, 0, 0, (-1), []),
  (85, .putfield 47, 3, 12, 12, 0, 0, []),
  (88, .aload_n 0, 1, 0, 0, 0, 0, []),
  (89, .iconst 0, 1, 0, 0, 0, 0, []),
  (90, .putfield 50, 3, 12, 13, 0, 0, []),
  (93, .aload_n 0, 1, 0, 0, 0, 0, []),
  (94, .iconst 0, 1, 0, 0, 0, 0, []),
  (95, .putfield 53, 3, 12, 14, 0, 0, []),
  (98, .aload_n 0, 1, 0, 0, 0, 0, []),
  (99, .iconst 0, 1, 0, 0, 0, 0, []),
  (100, .putfield 56, 3, 12, 15, 0, 0, []),
  (103, .aload_n 0, 1, 0, 0, 0, 0, []),
  (104, .bipush 100, 2, 0, 0, 0, 100, []),
  (106, .newarray .int, 2, 1, 0, 0, 0, []),
  (108, .putfield 59, 3, 12, 16, 0, 0, []),
  (111, .aload_n 0, 1, 0, 0, 0, 0, []),
  (112, .bipush 6, 2, 0, 0, 0, 6, []),
  (114, .newarray .int, 2, 1, 0, 0, 0, []),
  (116, .putfield 62, 3, 12, 17, 0, 0, []),
  (119, .aload_n 0, 1, 0, 0, 0, 0, []),
  (120, .bipush 60, 2, 0, 0, 0, 60, []),
  (122, .newarray .int, 2, 1, 0, 0, 0, []),
  (124, .putfield 65, 3, 12, 18, 0, 0, []),
  (127, .aload_n 0, 1, 0, 0, 0, 0, []),
  (128, .bipush 60, 2, 0, 0, 0, 60, []),
  (130, .newarray .int, 2, 1, 0, 0, 0, []),
  (132, .putfield 68, 3, 12, 19, 0, 0, []),
  (135, .aload_n 0, 1, 0, 0, 0, 0, []),
  (136, .bipush 60, 2, 0, 0, 0, 60, []),
  (138, .newarray .int, 2, 1, 0, 0, 0, []),
  (140, .putfield 71, 3, 12, 20, 0, 0, []),
  (143, .aload_n 0, 1, 0, 0, 0, 0, []),
  (144, .bipush 60, 2, 0, 0, 0, 60, []),
  (146, .newarray .int, 2, 1, 0, 0, 0, []),
  (148, .putfield 74, 3, 12, 21, 0, 0, []),
  (151, .aload_n 0, 1, 0, 0, 0, 0, []),
  (152, .sipush 600, 3, 0, 0, 0, 600, []),
  (155, .newarray .int, 2, 1, 0, 0, 0, []),
  (157, .putfield 77, 3, 12, 22, 0, 0, []),
  (160, .aload_n 0, 1, 0, 0, 0, 0, []),
  (161, .bipush 101, 2, 0, 0, 0, 101, []),
  (163, .newarray .int, 2, 1, 0, 0, 0, []),
  (165, .putfield 80, 3, 12, 23, 0, 0, []),
  (168, .aload_n 0, 1, 0, 0, 0, 0, []),
  (169, .iconst 0, 1, 0, 0, 0, 0, []),
  (170, .putfield 83, 3, 12, 24, 0, 0, []),
  (173, .aload_n 0, 1, 0, 0, 0, 0, []),
  (174, .iconst 0, 1, 0, 0, 0, 0, []),
  (175, .putfield 86, 3, 12, 25, 0, 0, []),
  (178, .aload_n 0, 1, 0, 0, 0, 0, []),
  (179, .iconst 0, 1, 0, 0, 0, 0, []),
  (180, .putfield 89, 3, 12, 26, 0, 0, []),
  (183, .aload_n 0, 1, 0, 0, 0, 0, []),
  (184, .bipush 14, 2, 0, 0, 0, 14, []),
  (186, .newarray .int, 2, 1, 0, 0, 0, []),
  (188, .dup, 1, 0, 0, 0, 0, []),
  (189, .iconst 0, 1, 0, 0, 0, 0, []),
  (190, .bipush 100, 2, 0, 0, 0, 100, []),
  (192, .iastore, 1, 0, 0, 0, 0, []),
  (193, .dup, 1, 0, 0, 0, 0, []),
  (194, .iconst 1, 1, 0, 0, 0, 1, []),
  (195, .bipush 114, 2, 0, 0, 0, 114, []),
  (197, .iastore, 1, 0, 0, 0, 0, []),
  (198, .dup, 1, 0, 0, 0, 0, []),
  (199, .iconst 2, 1, 0, 0, 0, 2, []),
  (200, .bipush 121, 2, 0, 0, 0, 121, []),
  (202, .iastore, 1, 0, 0, 0, 0, []),
  (203, .dup, 1, 0, 0, 0, 0, []),
  (204, .iconst 3, 1, 0, 0, 0, 3, []),
  (205, .bipush 100, 2, 0, 0, 0, 100, []),
  (207, .iastore, 1, 0, 0, 0, 0, []),
  (208, .dup, 1, 0, 0, 0, 0, []),
  (209, .iconst 4, 1, 0, 0, 0, 4, []),
  (210, .bipush 97, 2, 0, 0, 0, 97, []),
  (212, .iastore, 1, 0, 0, 0, 0, []),
  (213, .dup, 1, 0, 0, 0, 0, []),
  (214, .iconst 5, 1, 0, 0, 0, 5, []),
  (215, .bipush 109, 2, 0, 0, 0, 109, []),
  (217, .iastore, 1, 0, 0, 0, 0, []),
  (218, .dup, 1, 0, 0, 0, 0, []),
  (219, .bipush 6, 2, 0, 0, 0, 6, []),
  (221, .bipush 112, 2, 0, 0, 0, 112, []),
  (223, .iastore, 1, 0, 0, 0, 0, []),
  (224, .dup, 1, 0, 0, 0, 0, []),
  (225, .bipush 7, 2, 0, 0, 0, 7, []),
  (227, .bipush 99, 2, 0, 0, 0, 99, []),
  (229, .iastore, 1, 0, 0, 0, 0, []),
  (230, .dup, 1, 0, 0, 0, 0, []),
  (231, .bipush 8, 2, 0, 0, 0, 8, []),
  (233, .bipush 111, 2, 0, 0, 0, 111, []),
  (235, .iastore, 1, 0, 0, 0, 0, []),
  (236, .dup, 1, 0, 0, 0, 0, []),
  (237, .bipush 9, 2, 0, 0, 0, 9, []),
  (239, .bipush 111, 2, 0, 0, 0, 111, []),
  (241, .iastore, 1, 0, 0, 0, 0, []),
  (242, .dup, 1, 0, 0, 0, 0, []),
  (243, .bipush 10, 2, 0, 0, 0, 10, []),
  (245, .bipush 108, 2, 0, 0, 0, 108, []),
  (247, .iastore, 1, 0, 0, 0, 0, []),
  (248, .dup, 1, 0, 0, 0, 0, []),
  (249, .bipush 11, 2, 0, 0, 0, 11, []),
  (251, .bipush 108, 2, 0, 0, 0, 108, []),
  (253, .iastore, 1, 0, 0, 0, 0, []),
  (254, .dup, 1, 0, 0, 0, 0, []),
  (255, .bipush 12, 2, 0, 0, 0, 12, []),
  (257, .bipush 111, 2, 0, 0, 0, 111, []),
  (259, .iastore, 1, 0, 0, 0, 0, []),
  (260, .dup, 1, 0, 0, 0, 0, []),
  (261, .bipush 13, 2, 0, 0, 0, 13, []),
  (263, .bipush 103, 2, 0, 0, 0, 103, []),
  (265, .iastore, 1, 0, 0, 0, 0, []),
  (266, .putfield 92, 3, 12, 27, 0, 0, []),
  (269, .aload_n 0, 1, 0, 0, 0, 0, []),
  (270, .bipush 100, 2, 0, 0, 0, 100, []),
  (272, .newarray .boolean, 2, 2, 0, 0, 0, []),
  (274, .putfield 95, 3, 12, 28, 0, 0, []),
  (277, .aload_n 0, 1, 0, 0, 0, 0, []),
  (278, .sipush 9999, 3, 0, 0, 0, 9999, []),
  (281, .putfield 99, 3, 12, 29, 0, 0, []),
  (284, .aload_n 0, 1, 0, 0, 0, 0, []),
  (285, .iconst 0, 1, 0, 0, 0, 0, []),
  (286, .putfield 102, 3, 12, 30, 0, 0, []),
  (289, .aload_n 0, 1, 0, 0, 0, 0, []),
  (290, .iconst 0, 1, 0, 0, 0, 0, []),
  (291, .putfield 105, 3, 12, 31, 0, 0, []),
  (294, .aload_n 0, 1, 0, 0, 0, 0, []),
  (295, .iconst 0, 1, 0, 0, 0, 0, []),
  (296, .putfield 108, 3, 12, 32, 0, 0, []),
  (299, .aload_n 0, 1, 0, 0, 0, 0, []),
  (300, .iconst 0, 1, 0, 0, 0, 0, []),
  (301, .putfield 111, 3, 12, 33, 0, 0, []),
  (304, .aload_n 0, 1, 0, 0, 0, 0, []),
  (305, .bipush 6, 2, 0, 0, 0, 6, []),
  (307, .newarray .int, 2, 1, 0, 0, 0, []),
  (309, .putfield 114, 3, 12, 34, 0, 0, []),
  (312, .aload_n 0, 1, 0, 0, 0, 0, []),
  (313, .bipush 6, 2, 0, 0, 0, 6, []),
  (315, .newarray .int, 2, 1, 0, 0, 0, []),
  (317, .putfield 117, 3, 12, 35, 0, 0, []),
  (320, .aload_n 0, 1, 0, 0, 0, 0, []),
  (321, .bipush 6, 2, 0, 0, 0, 6, []),
  (323, .newarray .int, 2, 1, 0, 0, 0, []),
  (325, .putfield 120, 3, 12, 36, 0, 0, []),
  (328, .aload_n 0, 1, 0, 0, 0, 0, []),
  (329, .bipush 36, 2, 0, 0, 0, 36, []),
  (331, .newarray .int, 2, 1, 0, 0, 0, []),
  (333, .putfield 123, 3, 12, 37, 0, 0, []),
  (336, .aload_n 0, 1, 0, 0, 0, 0, []),
  (337, .bipush 6, 2, 0, 0, 0, 6, []),
  (339, .newarray .int, 2, 1, 0, 0, 0, []),
  (341, .putfield 126, 3, 12, 38, 0, 0, []),
  (344, .aload_n 0, 1, 0, 0, 0, 0, []),
  (345, .bipush 6, 2, 0, 0, 0, 6, []),
  (347, .newarray .int, 2, 1, 0, 0, 0, []),
  (349, .putfield 129, 3, 12, 39, 0, 0, []),
  (352, .aload_n 0, 1, 0, 0, 0, 0, []),
  (353, .iconst 0, 1, 0, 0, 0, 0, []),
  (354, .putfield 132, 3, 12, 40, 0, 0, []),
  (357, .aload_n 0, 1, 0, 0, 0, 0, []),
  (358, .iconst 0, 1, 0, 0, 0, 0, []),
  (359, .putfield 135, 3, 12, 41, 0, 0, []),
  (362, .aload_n 0, 1, 0, 0, 0, 0, []),
  (363, .iconst 0, 1, 0, 0, 0, 0, []),
  (364, .putfield 138, 3, 12, 42, 0, 0, []),
  (367, .aload_n 0, 1, 0, 0, 0, 0, []),
  (368, .iconst 5, 1, 0, 0, 0, 5, []),
  (369, .newarray .int, 2, 1, 0, 0, 0, []),
  (371, .putfield 141, 3, 12, 43, 0, 0, []),
  (374, .aload_n 0, 1, 0, 0, 0, 0, []),
  (375, .iconst 5, 1, 0, 0, 0, 5, []),
  (376, .newarray .int, 2, 1, 0, 0, 0, []),
  (378, .putfield 144, 3, 12, 44, 0, 0, []),
  (381, .aload_n 0, 1, 0, 0, 0, 0, []),
  (382, .iconst 5, 1, 0, 0, 0, 5, []),
  (383, .newarray .int, 2, 1, 0, 0, 0, []),
  (385, .putfield 147, 3, 12, 45, 0, 0, []),
  (388, .aload_n 0, 1, 0, 0, 0, 0, []),
  (389, .bipush 6, 2, 0, 0, 0, 6, []),
  (391, .newarray .int, 2, 1, 0, 0, 0, []),
  (393, .putfield 150, 3, 12, 46, 0, 0, []),
  (396, .aload_n 0, 1, 0, 0, 0, 0, []),
  (397, .iconst 0, 1, 0, 0, 0, 0, []),
  (398, .putfield 153, 3, 12, 47, 0, 0, []),
  (401, .aload_n 0, 1, 0, 0, 0, 0, []),
  (402, .iconst 0, 1, 0, 0, 0, 0, []),
  (403, .putfield 156, 3, 12, 48, 0, 0, []),
  (406, .aload_n 0, 1, 0, 0, 0, 0, []),
  (407, .bipush 10, 2, 0, 0, 0, 10, []),
  (409, .newarray .int, 2, 1, 0, 0, 0, []),
  (411, .putfield 159, 3, 12, 49, 0, 0, []),
  (414, .aload_n 0, 1, 0, 0, 0, 0, []),
  (415, .bipush 10, 2, 0, 0, 0, 10, []),
  (417, .newarray .int, 2, 1, 0, 0, 0, []),
  (419, .putfield 162, 3, 12, 50, 0, 0, []),
  (422, .aload_n 0, 1, 0, 0, 0, 0, []),
  (423, .bipush 8, 2, 0, 0, 0, 8, []),
  (425, .newarray .int, 2, 1, 0, 0, 0, []),
  (427, .putfield 165, 3, 12, 51, 0, 0, []),
  (430, .aload_n 0, 1, 0, 0, 0, 0, []),
  (431, .bipush 8, 2, 0, 0, 0, 8, []),
  (433, .newarray .int, 2, 1, 0, 0, 0, []),
  (435, .putfield 168, 3, 12, 52, 0, 0, []),
  (438, .aload_n 0, 1, 0, 0, 0, 0, []),
  (439, .iconst 0, 1, 0, 0, 0, 0, []),
  (440, .putfield 171, 3, 12, 53, 0, 0, []),
  (443, .aload_n 0, 1, 0, 0, 0, 0, []),
  (444, .iconst (-1), 1, 0, 0, 0, (-1), []),
  (445, .putfield 175, 3, 12, 54, 0, 0, []),
  (448, .aload_n 0, 1, 0, 0, 0, 0, []),
  (449, .iconst 0, 1, 0, 0, 0, 0, []),
  (450, .putfield 178, 3, 12, 55, 0, 0, []),
  (453, .aload_n 0, 1, 0, 0, 0, 0, []),
  (454, .iconst 0, 1, 0, 0, 0, 0, []),
  (455, .putfield 181, 3, 12, 56, 0, 0, []),
  (458, .aload_n 0, 1, 0, 0, 0, 0, []),
  (459, .iconst 0, 1, 0, 0, 0, 0, []),
  (460, .putfield 184, 3, 12, 57, 0, 0, []),
  (463, .aload_n 0, 1, 0, 0, 0, 0, []),
  (464, .iconst 0, 1, 0, 0, 0, 0, []),
  (465, .putfield 187, 3, 12, 58, 0, 0, []),
  (468, .aload_n 0, 1, 0, 0, 0, 0, []),
  (469, .iconst 0, 1, 0, 0, 0, 0, []),
  (470, .putfield 190, 3, 12, 59, 0, 0, []),
  (473, .aload_n 0, 1, 0, 0, 0, 0, []),
  (474, .iconst 0, 1, 0, 0, 0, 0, []),
  (475, .putfield 193, 3, 12, 60, 0, 0, []),
  (478, .aload_n 0, 1, 0, 0, 0, 0, []),
  (479, .iconst 0, 1, 0, 0, 0, 0, []),
  (480, .putfield 196, 3, 12, 61, 0, 0, []),
  (483, .aload_n 0, 1, 0, 0, 0, 0, []),
  (484, .iconst 0, 1, 0, 0, 0, 0, []),
  (485, .putfield 199, 3, 12, 62, 0, 0, []),
  (488, .aload_n 0, 1, 0, 0, 0, 0, []),
  (489, .bipush 6, 2, 0, 0, 0, 6, []),
  (491, .newarray .int, 2, 1, 0, 0, 0, []),
  (493, .putfield 202, 3, 12, 63, 0, 0, []),
  (496, .aload_n 0, 1, 0, 0, 0, 0, []),
  (497, .bipush 6, 2, 0, 0, 0, 6, []),
  (499, .newarray .int, 2, 1, 0, 0, 0, []),
  (501, .putfield 205, 3, 12, 64, 0, 0, []),
  (504, .aload_n 0, 1, 0, 0, 0, 0, []),
  (505, .bipush 6, 2, 0, 0, 0, 6, []),
  (507, .newarray .int, 2, 1, 0, 0, 0, []),
  (509, .putfield 208, 3, 12, 65, 0, 0, []),
  (512, .aload_n 0, 1, 0, 0, 0, 0, []),
  (513, .bipush 6, 2, 0, 0, 0, 6, []),
  (515, .newarray .int, 2, 1, 0, 0, 0, []),
  (517, .putfield 211, 3, 12, 66, 0, 0, []),
  (520, .aload_n 0, 1, 0, 0, 0, 0, []),
  (521, .bipush 6, 2, 0, 0, 0, 6, []),
  (523, .newarray .int, 2, 1, 0, 0, 0, []),
  (525, .putfield 214, 3, 12, 67, 0, 0, []),
  (528, .aload_n 0, 1, 0, 0, 0, 0, []),
  (529, .bipush 24, 2, 0, 0, 0, 24, []),
  (531, .newarray .int, 2, 1, 0, 0, 0, []),
  (533, .putfield 217, 3, 12, 68, 0, 0, []),
  (536, .aload_n 0, 1, 0, 0, 0, 0, []),
  (537, .iconst 5, 1, 0, 0, 0, 5, []),
  (538, .newarray .int, 2, 1, 0, 0, 0, []),
  (540, .putfield 220, 3, 12, 69, 0, 0, []),
  (543, .aload_n 0, 1, 0, 0, 0, 0, []),
  (544, .iconst 5, 1, 0, 0, 0, 5, []),
  (545, .newarray .int, 2, 1, 0, 0, 0, []),
  (547, .putfield 223, 3, 12, 70, 0, 0, []),
  (550, .aload_n 0, 1, 0, 0, 0, 0, []),
  (551, .iconst 5, 1, 0, 0, 0, 5, []),
  (552, .newarray .int, 2, 1, 0, 0, 0, []),
  (554, .putfield 226, 3, 12, 71, 0, 0, []),
  (557, .aload_n 0, 1, 0, 0, 0, 0, []),
  (558, .bipush 10, 2, 0, 0, 0, 10, []),
  (560, .newarray .int, 2, 1, 0, 0, 0, []),
  (562, .putfield 229, 3, 12, 72, 0, 0, []),
  (565, .aload_n 0, 1, 0, 0, 0, 0, []),
  (566, .bipush 10, 2, 0, 0, 0, 10, []),
  (568, .newarray .int, 2, 1, 0, 0, 0, []),
  (570, .putfield 232, 3, 12, 73, 0, 0, []),
  (573, .aload_n 0, 1, 0, 0, 0, 0, []),
  (574, .bipush 8, 2, 0, 0, 0, 8, []),
  (576, .newarray .int, 2, 1, 0, 0, 0, []),
  (578, .putfield 235, 3, 12, 74, 0, 0, []),
  (581, .aload_n 0, 1, 0, 0, 0, 0, []),
  (582, .bipush 8, 2, 0, 0, 0, 8, []),
  (584, .newarray .int, 2, 1, 0, 0, 0, []),
  (586, .putfield 238, 3, 12, 75, 0, 0, []),
  (589, .aload_n 0, 1, 0, 0, 0, 0, []),
  (590, .iconst 0, 1, 0, 0, 0, 0, []),
  (591, .putfield 241, 3, 12, 76, 0, 0, []),
  (594, .aload_n 0, 1, 0, 0, 0, 0, []),
  (595, .bipush 20, 2, 0, 0, 0, 20, []),
  (597, .newarray .int, 2, 1, 0, 0, 0, []),
  (599, .putfield 244, 3, 12, 77, 0, 0, []),
  (602, .aload_n 0, 1, 0, 0, 0, 0, []),
  (603, .bipush 6, 2, 0, 0, 0, 6, []),
  (605, .newarray .int, 2, 1, 0, 0, 0, []),
  (607, .dup, 1, 0, 0, 0, 0, []),
  (608, .iconst 0, 1, 0, 0, 0, 0, []),
  (609, .iconst (-1), 1, 0, 0, 0, (-1), []),
  (610, .iastore, 1, 0, 0, 0, 0, []),
  (611, .dup, 1, 0, 0, 0, 0, []),
  (612, .iconst 1, 1, 0, 0, 0, 1, []),
  (613, .iconst (-1), 1, 0, 0, 0, (-1), []),
  (614, .iastore, 1, 0, 0, 0, 0, []),
  (615, .dup, 1, 0, 0, 0, 0, []),
  (616, .iconst 2, 1, 0, 0, 0, 2, []),
  (617, .iconst (-1), 1, 0, 0, 0, (-1), []),
  (618, .iastore, 1, 0, 0, 0, 0, []),
  (619, .dup, 1, 0, 0, 0, 0, []),
  (620, .iconst 3, 1, 0, 0, 0, 3, []),
  (621, .iconst (-1), 1, 0, 0, 0, (-1), []),
  (622, .iastore, 1, 0, 0, 0, 0, []),
  (623, .dup, 1, 0, 0, 0, 0, []),
  (624, .iconst 4, 1, 0, 0, 0, 4, []),
  (625, .iconst (-1), 1, 0, 0, 0, (-1), []),
  (626, .iastore, 1, 0, 0, 0, 0, []),
  (627, .dup, 1, 0, 0, 0, 0, []),
  (628, .iconst 5, 1, 0, 0, 0, 5, []),
  (629, .iconst (-1), 1, 0, 0, 0, (-1), []),
  (630, .iastore, 1, 0, 0, 0, 0, []),
  (631, .putfield 247, 3, 12, 78, 0, 0, []),
  (634, .aload_n 0, 1, 0, 0, 0, 0, []),
  (635, .bipush 6, 2, 0, 0, 0, 6, []),
  (637, .newarray .int, 2, 1, 0, 0, 0, []),
  (639, .putfield 250, 3, 12, 79, 0, 0, []),
  (642, .aload_n 0, 1, 0, 0, 0, 0, []),
  (643, .sipush 360, 3, 0, 0, 0, 360, []),
  (646, .newarray .long, 2, 4, 0, 0, 0, []),
  (648, .putfield 253, 3, 12, 80, 0, 0, []),
  (651, .aload_n 0, 1, 0, 0, 0, 0, []),
  (652, .bipush 60, 2, 0, 0, 0, 60, []),
  (654, .newarray .long, 2, 4, 0, 0, 0, []),
  (656, .putfield 257, 3, 12, 81, 0, 0, []),
  (659, .return_, 1, 0, 0, 0, 0, [])]
def zc_X12_in : List (Nat × List Bool) := []
def zo_X12_in : List z_Op := [(0, .iload_n 1, 1, 1, 0, 0, 0, []),
  (1, .iload_n 2, 1, 2, 0, 0, 0, []),
  (2, .if_icmp .lt 12, 3, 14, 0, 0, 0, []),
  (5, .iload_n 1, 1, 1, 0, 0, 0, []),
  (6, .iload_n 3, 1, 3, 0, 0, 0, []),
  (7, .if_icmp .gt 7, 3, 14, 0, 0, 0, []),
  (10, .iconst 1, 1, 0, 0, 0, 1, []),
  (11, .goto 4, 3, 15, 0, 0, 0, []),
  (14, .iconst 0, 1, 0, 0, 0, 0, []),
  (15, .ireturn, 1, 0, 0, 0, 0, [])]
def zc_X12_has : List (Nat × List Bool) := []
def zo_X12_has : List z_Op := [(0, .iload_n 1, 1, 1, 0, 0, 0, []),
  (1, .iload_n 2, 1, 2, 0, 0, 0, []),
  (2, .ishr, 1, 0, 0, 0, 0, []),
  (3, .iconst 1, 1, 0, 0, 0, 1, []),
  (4, .iand, 1, 0, 0, 0, 0, []),
  (5, .iconst 1, 1, 0, 0, 0, 1, []),
  (6, .if_icmp .ne 7, 3, 13, 0, 0, 0, []),
  (9, .iconst 1, 1, 0, 0, 0, 1, []),
  (10, .goto 4, 3, 14, 0, 0, 0, []),
  (13, .iconst 0, 1, 0, 0, 0, 0, []),
  (14, .ireturn, 1, 0, 0, 0, 0, [])]
def zc_X12_least : List (Nat × List Bool) := []
def zo_X12_least : List z_Op := [(0, .iload_n 1, 1, 1, 0, 0, 0, []),
  (1, .iload_n 2, 1, 2, 0, 0, 0, []),
  (2, .if_icmp .ge 7, 3, 9, 0, 0, 0, []),
  (5, .iload_n 1, 1, 1, 0, 0, 0, []),
  (6, .goto 4, 3, 10, 0, 0, 0, []),
  (9, .iload_n 2, 1, 2, 0, 0, 0, []),
  (10, .ireturn, 1, 0, 0, 0, 0, [])]
def zc_X12_atLeast0 : List (Nat × List Bool) := []
def zo_X12_atLeast0 : List z_Op := [(0, .iload_n 1, 1, 1, 0, 0, 0, []),
  (1, .ifCond .ge 7, 3, 8, 0, 0, 0, []),
  (4, .iconst 0, 1, 0, 0, 0, 0, []),
  (5, .goto 4, 3, 9, 0, 0, 0, []),
  (8, .iload_n 1, 1, 1, 0, 0, 0, []),
  (9, .ireturn, 1, 0, 0, 0, 0, [])]
def zc_X12_bits : List (Nat × List Bool) := [(4, [true, true, true, true])]
def zo_X12_bits : List z_Op := [(0, .iconst 0, 1, 0, 0, 0, 0, []),
  (1, .istore_n 2, 1, 2, 0, 0, 0, []),
  (2, .iconst 0, 1, 0, 0, 0, 0, []),
  (3, .istore_n 3, 1, 3, 0, 0, 0, []),
  (4, .iload_n 3, 1, 3, 0, 0, 0, []),
  (5, .bipush 6, 2, 0, 0, 0, 6, []),
  (7, .if_icmp .ge 26, 3, 33, 0, 0, 0, []),
  (10, .iload_n 2, 1, 2, 0, 0, 0, []),
  (11, .aload_n 0, 1, 0, 0, 0, 0, []),
  (12, .iload_n 1, 1, 1, 0, 0, 0, []),
  (13, .iload_n 3, 1, 3, 0, 0, 0, []),
  (14, .invokevirtual 260, 3, 125, 3, 12, 1, []),
  (17, .ifCond .eq 7, 3, 24, 0, 0, 0, []),
  (20, .iconst 1, 1, 0, 0, 0, 1, []),
  (21, .goto 4, 3, 25, 0, 0, 0, []),
  (24, .iconst 0, 1, 0, 0, 0, 0, []),
  (25, .iadd, 1, 0, 0, 0, 0, []),
  (26, .istore_n 2, 1, 2, 0, 0, 0, []),
  (27, .iinc 3 1, 3, 3, 0, 0, 1, []),
  (30, .goto (-26), 3, 4, 0, 0, 0, []),
  (33, .iload_n 2, 1, 2, 0, 0, 0, []),
  (34, .ireturn, 1, 0, 0, 0, 0, [])]
def zc_X12_isPair : List (Nat × List Bool) := []
def zo_X12_isPair : List z_Op := [(0, .aload_n 0, 1, 0, 0, 0, 0, []),
  (1, .iload_n 1, 1, 1, 0, 0, 0, []),
  (2, .iconst 0, 1, 0, 0, 0, 0, []),
  (3, .aload_n 0, 1, 0, 0, 0, 0, []),
  (4, .getfield 7, 3, 12, 0, 0, 0, []),
  (7, .iconst 1, 1, 0, 0, 0, 1, []),
  (8, .isub, 1, 0, 0, 0, 0, []),
  (9, .invokevirtual 264, 3, 124, 4, 12, 1, []),
  (12, .ireturn, 1, 0, 0, 0, 0, [])]
def zc_X12_isPlace : List (Nat × List Bool) := []
def zo_X12_isPlace : List z_Op := [(0, .aload_n 0, 1, 0, 0, 0, 0, []),
  (1, .iload_n 1, 1, 1, 0, 0, 0, []),
  (2, .iconst 0, 1, 0, 0, 0, 0, []),
  (3, .iconst 5, 1, 0, 0, 0, 5, []),
  (4, .invokevirtual 264, 3, 124, 4, 12, 1, []),
  (7, .ireturn, 1, 0, 0, 0, 0, [])]
def zc_X12_isWet : List (Nat × List Bool) := []
def zo_X12_isWet : List z_Op := [(0, .aload_n 0, 1, 0, 0, 0, 0, []),
  (1, .iload_n 1, 1, 1, 0, 0, 0, []),
  (2, .iconst 0, 1, 0, 0, 0, 0, []),
  (3, .bipush 99, 2, 0, 0, 0, 99, []),
  (5, .invokevirtual 264, 3, 124, 4, 12, 1, []),
  (8, .ireturn, 1, 0, 0, 0, 0, [])]
def zc_X12_isHours : List (Nat × List Bool) := []
def zo_X12_isHours : List z_Op := [(0, .aload_n 0, 1, 0, 0, 0, 0, []),
  (1, .iload_n 1, 1, 1, 0, 0, 0, []),
  (2, .iconst 0, 1, 0, 0, 0, 0, []),
  (3, .bipush 60, 2, 0, 0, 0, 60, []),
  (5, .invokevirtual 264, 3, 124, 4, 12, 1, []),
  (8, .ireturn, 1, 0, 0, 0, 0, [])]
def zc_X12_whoIs : List (Nat × List Bool) := [(2, [true, true, true])]
def zo_X12_whoIs : List z_Op := [(0, .iconst 0, 1, 0, 0, 0, 0, []),
  (1, .istore_n 2, 1, 2, 0, 0, 0, []),
  (2, .iload_n 2, 1, 2, 0, 0, 0, []),
  (3, .aload_n 0, 1, 0, 0, 0, 0, []),
  (4, .getfield 7, 3, 12, 0, 0, 0, []),
  (7, .if_icmp .ge 21, 3, 28, 0, 0, 0, []),
  (10, .aload_n 0, 1, 0, 0, 0, 0, []),
  (11, .getfield 35, 3, 12, 8, 0, 0, []),
  (14, .iload_n 2, 1, 2, 0, 0, 0, []),
  (15, .iaload, 1, 0, 0, 0, 0, []),
  (16, .iload_n 1, 1, 1, 0, 0, 0, []),
  (17, .if_icmp .ne 5, 3, 22, 0, 0, 0, []),
  (20, .iload_n 2, 1, 2, 0, 0, 0, []),
  (21, .ireturn, 1, 0, 0, 0, 0, []),
  (22, .iinc 2 1, 3, 2, 0, 0, 1, []),
  (25, .goto (-23), 3, 2, 0, 0, 0, []),
  (28, .bipush (-5), 2, 0, 0, 0, (-5), []),
  (30, .ireturn, 1, 0, 0, 0, 0, [])]
def zc_X12_pair : List (Nat × List Bool) := [(50, [true, true, true, true, true, false]), (136, [true, false, false, false, false, true])]
def zo_X12_pair : List z_Op := [(0, .aload_n 0, 1, 0, 0, 0, 0, []),
  (1, .iload_n 1, 1, 1, 0, 0, 0, []),
  (2, .iconst 0, 1, 0, 0, 0, 0, []),
  (3, .bipush 6, 2, 0, 0, 0, 6, []),
  (5, .invokevirtual 264, 3, 124, 4, 12, 1, []),
  (8, .ifCond .ne 5, 3, 13, 0, 0, 0, []),
  (11, .iconst (-1), 1, 0, 0, 0, (-1), []),
  (12, .ireturn, 1, 0, 0, 0, 0, []),
  (13, .aload_n 0, 1, 0, 0, 0, 0, []),
  (14, .iload_n 2, 1, 2, 0, 0, 0, []),
  (15, .iconst 0, 1, 0, 0, 0, 0, []),
  (16, .bipush 9, 2, 0, 0, 0, 9, []),
  (18, .invokevirtual 264, 3, 124, 4, 12, 1, []),
  (21, .ifCond .eq 11, 3, 32, 0, 0, 0, []),
  (24, .aload_n 0, 1, 0, 0, 0, 0, []),
  (25, .iload_n 3, 1, 3, 0, 0, 0, []),
  (26, .invokevirtual 268, 3, 131, 2, 12, 1, []),
  (29, .ifCond .ne 6, 3, 35, 0, 0, 0, []),
  (32, .bipush (-2), 2, 0, 0, 0, (-2), []),
  (34, .ireturn, 1, 0, 0, 0, 0, []),
  (35, .aload_n 0, 1, 0, 0, 0, 0, []),
  (36, .getfield 7, 3, 12, 0, 0, 0, []),
  (39, .bipush 6, 2, 0, 0, 0, 6, []),
  (41, .if_icmp .ne 6, 3, 47, 0, 0, 0, []),
  (44, .bipush (-4), 2, 0, 0, 0, (-4), []),
  (46, .ireturn, 1, 0, 0, 0, 0, []),
  (47, .iconst 0, 1, 0, 0, 0, 0, []),
  (48, .istore 4, 2, 4, 0, 0, 0, []),
  (50, .aload_n 0, 1, 0, 0, 0, 0, []),
  (51, .iload 4, 2, 4, 0, 0, 0, []),
  (53, .invokevirtual 272, 3, 133, 2, 12, 1, []),
  (56, .ifCond .lt 9, 3, 65, 0, 0, 0, []),
  (59, .iinc 4 1, 3, 4, 0, 0, 1, []),
  (62, .goto (-12), 3, 50, 0, 0, 0, []),
  (65, .aload_n 0, 1, 0, 0, 0, 0, []),
  (66, .getfield 25, 3, 12, 5, 0, 0, []),
  (69, .aload_n 0, 1, 0, 0, 0, 0, []),
  (70, .getfield 7, 3, 12, 0, 0, 0, []),
  (73, .iload_n 1, 1, 1, 0, 0, 0, []),
  (74, .iastore, 1, 0, 0, 0, 0, []),
  (75, .aload_n 0, 1, 0, 0, 0, 0, []),
  (76, .getfield 29, 3, 12, 6, 0, 0, []),
  (79, .aload_n 0, 1, 0, 0, 0, 0, []),
  (80, .getfield 7, 3, 12, 0, 0, 0, []),
  (83, .iload_n 2, 1, 2, 0, 0, 0, []),
  (84, .iastore, 1, 0, 0, 0, 0, []),
  (85, .aload_n 0, 1, 0, 0, 0, 0, []),
  (86, .getfield 32, 3, 12, 7, 0, 0, []),
  (89, .aload_n 0, 1, 0, 0, 0, 0, []),
  (90, .getfield 7, 3, 12, 0, 0, 0, []),
  (93, .iload_n 3, 1, 3, 0, 0, 0, []),
  (94, .iastore, 1, 0, 0, 0, 0, []),
  (95, .aload_n 0, 1, 0, 0, 0, 0, []),
  (96, .getfield 35, 3, 12, 8, 0, 0, []),
  (99, .aload_n 0, 1, 0, 0, 0, 0, []),
  (100, .getfield 7, 3, 12, 0, 0, 0, []),
  (103, .iload 4, 2, 4, 0, 0, 0, []),
  (105, .iastore, 1, 0, 0, 0, 0, []),
  (106, .aload_n 0, 1, 0, 0, 0, 0, []),
  (107, .getfield 38, 3, 12, 9, 0, 0, []),
  (110, .aload_n 0, 1, 0, 0, 0, 0, []),
  (111, .getfield 7, 3, 12, 0, 0, 0, []),
  (114, .iconst 0, 1, 0, 0, 0, 0, []),
  (115, .iastore, 1, 0, 0, 0, 0, []),
  (116, .aload_n 0, 1, 0, 0, 0, 0, []),
  (117, .dup, 1, 0, 0, 0, 0, []),
  (118, .getfield 13, 3, 12, 1, 0, 0, []),
  (121, .iconst 1, 1, 0, 0, 0, 1, []),
  (122, .aload_n 0, 1, 0, 0, 0, 0, []),
  (123, .getfield 7, 3, 12, 0, 0, 0, []),
  (126, .ishl, 1, 0, 0, 0, 0, []),
  (127, .iconst (-1), 1, 0, 0, 0, (-1), []),
  (128, .ixor, 1, 0, 0, 0, 0, []),
  (129, .iand, 1, 0, 0, 0, 0, []),
  (130, .putfield 13, 3, 12, 1, 0, 0, []),
  (133, .iconst 0, 1, 0, 0, 0, 0, []),
  (134, .istore 5, 2, 5, 0, 0, 0, []),
  (136, .iload 5, 2, 5, 0, 0, 0, []),
  (138, .iconst 4, 1, 0, 0, 0, 4, []),
  (139, .if_icmp .ge 24, 3, 163, 0, 0, 0, []),
  (142, .aload_n 0, 1, 0, 0, 0, 0, []),
  (143, .getfield 41, 3, 12, 10, 0, 0, []),
  (146, .iconst 4, 1, 0, 0, 0, 4, []),
  (147, .aload_n 0, 1, 0, 0, 0, 0, []),
  (148, .getfield 7, 3, 12, 0, 0, 0, []),
  (151, .imul, 1, 0, 0, 0, 0, []),
  (152, .iload 5, 2, 5, 0, 0, 0, []),
  (154, .iadd, 1, 0, 0, 0, 0, []),
  (155, .iconst 0, 1, 0, 0, 0, 0, []),
  (156, .iastore, 1, 0, 0, 0, 0, []),
  (157, .iinc 5 1, 3, 5, 0, 0, 1, []),
  (160, .goto (-24), 3, 136, 0, 0, 0, []),
  (163, .aload_n 0, 1, 0, 0, 0, 0, []),
  (164, .dup, 1, 0, 0, 0, 0, []),
  (165, .getfield 7, 3, 12, 0, 0, 0, []),
  (168, .iconst 1, 1, 0, 0, 0, 1, []),
  (169, .iadd, 1, 0, 0, 0, 0, []),
  (170, .putfield 7, 3, 12, 0, 0, 0, []),
  (173, .aload_n 0, 1, 0, 0, 0, 0, []),
  (174, .getfield 7, 3, 12, 0, 0, 0, []),
  (177, .iconst 1, 1, 0, 0, 0, 1, []),
  (178, .isub, 1, 0, 0, 0, 0, []),
  (179, .ireturn, 1, 0, 0, 0, 0, [])]
def zc_X12_wet : List (Nat × List Bool) := []
def zo_X12_wet : List z_Op := [(0, .aload_n 0, 1, 0, 0, 0, 0, []),
  (1, .iload_n 1, 1, 1, 0, 0, 0, []),
  (2, .invokevirtual 276, 3, 129, 2, 12, 1, []),
  (5, .ifCond .ne 5, 3, 10, 0, 0, 0, []),
  (8, .iconst (-1), 1, 0, 0, 0, (-1), []),
  (9, .ireturn, 1, 0, 0, 0, 0, []),
  (10, .aload_n 0, 1, 0, 0, 0, 0, []),
  (11, .iload_n 2, 1, 2, 0, 0, 0, []),
  (12, .invokevirtual 268, 3, 131, 2, 12, 1, []),
  (15, .ifCond .ne 6, 3, 21, 0, 0, 0, []),
  (18, .bipush (-2), 2, 0, 0, 0, (-2), []),
  (20, .ireturn, 1, 0, 0, 0, 0, []),
  (21, .aload_n 0, 1, 0, 0, 0, 0, []),
  (22, .getfield 32, 3, 12, 7, 0, 0, []),
  (25, .iload_n 1, 1, 1, 0, 0, 0, []),
  (26, .iaload, 1, 0, 0, 0, 0, []),
  (27, .istore_n 3, 1, 3, 0, 0, 0, []),
  (28, .aload_n 0, 1, 0, 0, 0, 0, []),
  (29, .getfield 32, 3, 12, 7, 0, 0, []),
  (32, .iload_n 1, 1, 1, 0, 0, 0, []),
  (33, .iload_n 2, 1, 2, 0, 0, 0, []),
  (34, .iastore, 1, 0, 0, 0, 0, []),
  (35, .iload_n 3, 1, 3, 0, 0, 0, []),
  (36, .ireturn, 1, 0, 0, 0, 0, [])]
def zc_X12_comesTo : List (Nat × List Bool) := []
def zo_X12_comesTo : List z_Op := [(0, .aload_n 0, 1, 0, 0, 0, 0, []),
  (1, .iload_n 2, 1, 2, 0, 0, 0, []),
  (2, .invokevirtual 272, 3, 133, 2, 12, 1, []),
  (5, .istore_n 3, 1, 3, 0, 0, 0, []),
  (6, .iload_n 3, 1, 3, 0, 0, 0, []),
  (7, .ifCond .lt 15, 3, 22, 0, 0, 0, []),
  (10, .aload_n 0, 1, 0, 0, 0, 0, []),
  (11, .getfield 35, 3, 12, 8, 0, 0, []),
  (14, .iload_n 3, 1, 3, 0, 0, 0, []),
  (15, .aload_n 0, 1, 0, 0, 0, 0, []),
  (16, .getfield 35, 3, 12, 8, 0, 0, []),
  (19, .iload_n 1, 1, 1, 0, 0, 0, []),
  (20, .iaload, 1, 0, 0, 0, 0, []),
  (21, .iastore, 1, 0, 0, 0, 0, []),
  (22, .aload_n 0, 1, 0, 0, 0, 0, []),
  (23, .getfield 35, 3, 12, 8, 0, 0, []),
  (26, .iload_n 1, 1, 1, 0, 0, 0, []),
  (27, .iload_n 2, 1, 2, 0, 0, 0, []),
  (28, .iastore, 1, 0, 0, 0, 0, []),
  (29, .return_, 1, 0, 0, 0, 0, [])]
def zc_X12_put : List (Nat × List Bool) := []
def zo_X12_put : List z_Op := [(0, .aload_n 0, 1, 0, 0, 0, 0, []),
  (1, .iload_n 1, 1, 1, 0, 0, 0, []),
  (2, .invokevirtual 276, 3, 129, 2, 12, 1, []),
  (5, .ifCond .eq 11, 3, 16, 0, 0, 0, []),
  (8, .aload_n 0, 1, 0, 0, 0, 0, []),
  (9, .iload_n 2, 1, 2, 0, 0, 0, []),
  (10, .invokevirtual 279, 3, 130, 2, 12, 1, []),
  (13, .ifCond .ne 5, 3, 18, 0, 0, 0, []),
  (16, .iconst (-1), 1, 0, 0, 0, (-1), []),
  (17, .ireturn, 1, 0, 0, 0, 0, []),
  (18, .aload_n 0, 1, 0, 0, 0, 0, []),
  (19, .getfield 35, 3, 12, 8, 0, 0, []),
  (22, .iload_n 1, 1, 1, 0, 0, 0, []),
  (23, .iaload, 1, 0, 0, 0, 0, []),
  (24, .istore_n 3, 1, 3, 0, 0, 0, []),
  (25, .aload_n 0, 1, 0, 0, 0, 0, []),
  (26, .iload_n 1, 1, 1, 0, 0, 0, []),
  (27, .iload_n 2, 1, 2, 0, 0, 0, []),
  (28, .invokevirtual 282, 3, 136, 3, 12, 0, []),
  (31, .iload_n 3, 1, 3, 0, 0, 0, []),
  (32, .ireturn, 1, 0, 0, 0, 0, [])]
def zc_X12_goes : List (Nat × List Bool) := []
def zo_X12_goes : List z_Op := [(0, .aload_n 0, 1, 0, 0, 0, 0, []),
  (1, .iload_n 2, 1, 2, 0, 0, 0, []),
  (2, .ifCond .eq 14, 3, 16, 0, 0, 0, []),
  (5, .aload_n 0, 1, 0, 0, 0, 0, []),
  (6, .getfield 13, 3, 12, 1, 0, 0, []),
  (9, .iconst 1, 1, 0, 0, 0, 1, []),
  (10, .iload_n 1, 1, 1, 0, 0, 0, []),
  (11, .ishl, 1, 0, 0, 0, 0, []),
  (12, .ior, 1, 0, 0, 0, 0, []),
  (13, .goto 13, 3, 26, 0, 0, 0, []),
  (16, .aload_n 0, 1, 0, 0, 0, 0, []),
  (17, .getfield 13, 3, 12, 1, 0, 0, []),
  (20, .iconst 1, 1, 0, 0, 0, 1, []),
  (21, .iload_n 1, 1, 1, 0, 0, 0, []),
  (22, .ishl, 1, 0, 0, 0, 0, []),
  (23, .iconst (-1), 1, 0, 0, 0, (-1), []),
  (24, .ixor, 1, 0, 0, 0, 0, []),
  (25, .iand, 1, 0, 0, 0, 0, []),
  (26, .putfield 13, 3, 12, 1, 0, 0, []),
  (29, .return_, 1, 0, 0, 0, 0, [])]
def zc_X12_take : List (Nat × List Bool) := []
def zo_X12_take : List z_Op := [(0, .aload_n 0, 1, 0, 0, 0, 0, []),
  (1, .iload_n 1, 1, 1, 0, 0, 0, []),
  (2, .invokevirtual 276, 3, 129, 2, 12, 1, []),
  (5, .ifCond .ne 5, 3, 10, 0, 0, 0, []),
  (8, .iconst (-1), 1, 0, 0, 0, (-1), []),
  (9, .ireturn, 1, 0, 0, 0, 0, []),
  (10, .aload_n 0, 1, 0, 0, 0, 0, []),
  (11, .aload_n 0, 1, 0, 0, 0, 0, []),
  (12, .getfield 13, 3, 12, 1, 0, 0, []),
  (15, .iload_n 1, 1, 1, 0, 0, 0, []),
  (16, .invokevirtual 260, 3, 125, 3, 12, 1, []),
  (19, .ifCond .eq 7, 3, 26, 0, 0, 0, []),
  (22, .iconst 1, 1, 0, 0, 0, 1, []),
  (23, .goto 4, 3, 27, 0, 0, 0, []),
  (26, .iconst 0, 1, 0, 0, 0, 0, []),
  (27, .istore_n 3, 1, 3, 0, 0, 0, []),
  (28, .aload_n 0, 1, 0, 0, 0, 0, []),
  (29, .iload_n 1, 1, 1, 0, 0, 0, []),
  (30, .iload_n 2, 1, 2, 0, 0, 0, []),
  (31, .invokevirtual 286, 3, 138, 3, 12, 0, []),
  (34, .iload_n 3, 1, 3, 0, 0, 0, []),
  (35, .ireturn, 1, 0, 0, 0, 0, [])]
def zc_X12_set : List (Nat × List Bool) := []
def zo_X12_set : List z_Op := [(0, .aload_n 0, 1, 0, 0, 0, 0, []),
  (1, .iload_n 1, 1, 1, 0, 0, 0, []),
  (2, .iconst 0, 1, 0, 0, 0, 0, []),
  (3, .iconst 1, 1, 0, 0, 0, 1, []),
  (4, .invokevirtual 264, 3, 124, 4, 12, 1, []),
  (7, .ifCond .ne 5, 3, 12, 0, 0, 0, []),
  (10, .iconst (-1), 1, 0, 0, 0, (-1), []),
  (11, .ireturn, 1, 0, 0, 0, 0, []),
  (12, .aload_n 0, 1, 0, 0, 0, 0, []),
  (13, .iload_n 2, 1, 2, 0, 0, 0, []),
  (14, .iconst 0, 1, 0, 0, 0, 0, []),
  (15, .iload_n 1, 1, 1, 0, 0, 0, []),
  (16, .ifCond .ne 8, 3, 24, 0, 0, 0, []),
  (19, .bipush 30, 2, 0, 0, 0, 30, []),
  (21, .goto 5, 3, 26, 0, 0, 0, []),
  (24, .bipush 9, 2, 0, 0, 0, 9, []),
  (26, .invokevirtual 264, 3, 124, 4, 12, 1, []),
  (29, .ifCond .ne 6, 3, 35, 0, 0, 0, []),
  (32, .bipush (-2), 2, 0, 0, 0, (-2), []),
  (34, .ireturn, 1, 0, 0, 0, 0, []),
  (35, .iload_n 1, 1, 1, 0, 0, 0, []),
  (36, .ifCond .ne 10, 3, 46, 0, 0, 0, []),
  (39, .aload_n 0, 1, 0, 0, 0, 0, []),
  (40, .getfield 16, 3, 12, 2, 0, 0, []),
  (43, .goto 7, 3, 50, 0, 0, 0, []),
  (46, .aload_n 0, 1, 0, 0, 0, 0, []),
  (47, .getfield 19, 3, 12, 3, 0, 0, []),
  (50, .istore_n 3, 1, 3, 0, 0, 0, []),
  (51, .iload_n 1, 1, 1, 0, 0, 0, []),
  (52, .ifCond .ne 11, 3, 63, 0, 0, 0, []),
  (55, .aload_n 0, 1, 0, 0, 0, 0, []),
  (56, .iload_n 2, 1, 2, 0, 0, 0, []),
  (57, .putfield 16, 3, 12, 2, 0, 0, []),
  (60, .goto 8, 3, 68, 0, 0, 0, []),
  (63, .aload_n 0, 1, 0, 0, 0, 0, []),
  (64, .iload_n 2, 1, 2, 0, 0, 0, []),
  (65, .putfield 19, 3, 12, 3, 0, 0, []),
  (68, .iload_n 3, 1, 3, 0, 0, 0, []),
  (69, .ireturn, 1, 0, 0, 0, 0, [])]
def zc_X12_row : List (Nat × List Bool) := []
def zo_X12_row : List z_Op := [(0, .aload_n 0, 1, 0, 0, 0, 0, []),
  (1, .iload_n 1, 1, 1, 0, 0, 0, []),
  (2, .invokevirtual 276, 3, 129, 2, 12, 1, []),
  (5, .ifCond .eq 13, 3, 18, 0, 0, 0, []),
  (8, .aload_n 0, 1, 0, 0, 0, 0, []),
  (9, .iload_n 2, 1, 2, 0, 0, 0, []),
  (10, .iconst 0, 1, 0, 0, 0, 0, []),
  (11, .iconst 3, 1, 0, 0, 0, 3, []),
  (12, .invokevirtual 264, 3, 124, 4, 12, 1, []),
  (15, .ifCond .ne 5, 3, 20, 0, 0, 0, []),
  (18, .iconst (-1), 1, 0, 0, 0, (-1), []),
  (19, .ireturn, 1, 0, 0, 0, 0, []),
  (20, .aload_n 0, 1, 0, 0, 0, 0, []),
  (21, .iload_n 3, 1, 3, 0, 0, 0, []),
  (22, .iconst 0, 1, 0, 0, 0, 0, []),
  (23, .bipush 9, 2, 0, 0, 0, 9, []),
  (25, .invokevirtual 264, 3, 124, 4, 12, 1, []),
  (28, .ifCond .ne 6, 3, 34, 0, 0, 0, []),
  (31, .bipush (-2), 2, 0, 0, 0, (-2), []),
  (33, .ireturn, 1, 0, 0, 0, 0, []),
  (34, .aload_n 0, 1, 0, 0, 0, 0, []),
  (35, .getfield 25, 3, 12, 5, 0, 0, []),
  (38, .iload_n 1, 1, 1, 0, 0, 0, []),
  (39, .iaload, 1, 0, 0, 0, 0, []),
  (40, .bipush 6, 2, 0, 0, 0, 6, []),
  (42, .if_icmp .eq 6, 3, 48, 0, 0, 0, []),
  (45, .bipush (-3), 2, 0, 0, 0, (-3), []),
  (47, .ireturn, 1, 0, 0, 0, 0, []),
  (48, .aload_n 0, 1, 0, 0, 0, 0, []),
  (49, .getfield 41, 3, 12, 10, 0, 0, []),
  (52, .iconst 4, 1, 0, 0, 0, 4, []),
  (53, .iload_n 1, 1, 1, 0, 0, 0, []),
  (54, .imul, 1, 0, 0, 0, 0, []),
  (55, .iload_n 2, 1, 2, 0, 0, 0, []),
  (56, .iadd, 1, 0, 0, 0, 0, []),
  (57, .iaload, 1, 0, 0, 0, 0, []),
  (58, .istore 4, 2, 4, 0, 0, 0, []),
  (60, .aload_n 0, 1, 0, 0, 0, 0, []),
  (61, .getfield 41, 3, 12, 10, 0, 0, []),
  (64, .iconst 4, 1, 0, 0, 0, 4, []),
  (65, .iload_n 1, 1, 1, 0, 0, 0, []),
  (66, .imul, 1, 0, 0, 0, 0, []),
  (67, .iload_n 2, 1, 2, 0, 0, 0, []),
  (68, .iadd, 1, 0, 0, 0, 0, []),
  (69, .iload_n 3, 1, 3, 0, 0, 0, []),
  (70, .iastore, 1, 0, 0, 0, 0, []),
  (71, .iload 4, 2, 4, 0, 0, 0, []),
  (73, .ireturn, 1, 0, 0, 0, 0, [])]
def zc_X12_feed : List (Nat × List Bool) := []
def zo_X12_feed : List z_Op := [(0, .aload_n 0, 1, 0, 0, 0, 0, []),
  (1, .iload_n 1, 1, 1, 0, 0, 0, []),
  (2, .iconst 0, 1, 0, 0, 0, 0, []),
  (3, .bipush 127, 2, 0, 0, 0, 127, []),
  (5, .invokevirtual 264, 3, 124, 4, 12, 1, []),
  (8, .ifCond .ne 6, 3, 14, 0, 0, 0, []),
  (11, .bipush (-2), 2, 0, 0, 0, (-2), []),
  (13, .ireturn, 1, 0, 0, 0, 0, []),
  (14, .aload_n 0, 1, 0, 0, 0, 0, []),
  (15, .getfield 50, 3, 12, 13, 0, 0, []),
  (18, .bipush 100, 2, 0, 0, 0, 100, []),
  (20, .if_icmp .ne 6, 3, 26, 0, 0, 0, []),
  (23, .bipush (-4), 2, 0, 0, 0, (-4), []),
  (25, .ireturn, 1, 0, 0, 0, 0, []),
  (26, .aload_n 0, 1, 0, 0, 0, 0, []),
  (27, .getfield 59, 3, 12, 16, 0, 0, []),
  (30, .aload_n 0, 1, 0, 0, 0, 0, []),
  (31, .getfield 50, 3, 12, 13, 0, 0, []),
  (34, .iload_n 1, 1, 1, 0, 0, 0, []),
  (35, .iastore, 1, 0, 0, 0, 0, []),
  (36, .aload_n 0, 1, 0, 0, 0, 0, []),
  (37, .dup, 1, 0, 0, 0, 0, []),
  (38, .getfield 50, 3, 12, 13, 0, 0, []),
  (41, .iconst 1, 1, 0, 0, 0, 1, []),
  (42, .iadd, 1, 0, 0, 0, 0, []),
  (43, .putfield 50, 3, 12, 13, 0, 0, []),
  (46, .aload_n 0, 1, 0, 0, 0, 0, []),
  (47, .getfield 50, 3, 12, 13, 0, 0, []),
  (50, .ireturn, 1, 0, 0, 0, 0, [])]
def zc_X12_next : List (Nat × List Bool) := []
def zo_X12_next : List z_Op := [(0, .aload_n 0, 1, 0, 0, 0, 0, []),
  (1, .getfield 53, 3, 12, 14, 0, 0, []),
  (4, .aload_n 0, 1, 0, 0, 0, 0, []),
  (5, .getfield 50, 3, 12, 13, 0, 0, []),
  (8, .if_icmp .ge 15, 3, 23, 0, 0, 0, []),
  (11, .aload_n 0, 1, 0, 0, 0, 0, []),
  (12, .getfield 59, 3, 12, 16, 0, 0, []),
  (15, .aload_n 0, 1, 0, 0, 0, 0, []),
  (16, .getfield 53, 3, 12, 14, 0, 0, []),
  (19, .iaload, 1, 0, 0, 0, 0, []),
  (20, .goto 4, 3, 24, 0, 0, 0, []),
  (23, .iconst (-1), 1, 0, 0, 0, (-1), []),
  (24, .ireturn, 1, 0, 0, 0, 0, [])]
def zc_X12_second : List (Nat × List Bool) := []
def zo_X12_second : List z_Op := [(0, .aload_n 0, 1, 0, 0, 0, 0, []),
  (1, .getfield 53, 3, 12, 14, 0, 0, []),
  (4, .iconst 1, 1, 0, 0, 0, 1, []),
  (5, .iadd, 1, 0, 0, 0, 0, []),
  (6, .aload_n 0, 1, 0, 0, 0, 0, []),
  (7, .getfield 50, 3, 12, 13, 0, 0, []),
  (10, .if_icmp .ge 17, 3, 27, 0, 0, 0, []),
  (13, .aload_n 0, 1, 0, 0, 0, 0, []),
  (14, .getfield 59, 3, 12, 16, 0, 0, []),
  (17, .aload_n 0, 1, 0, 0, 0, 0, []),
  (18, .getfield 53, 3, 12, 14, 0, 0, []),
  (21, .iconst 1, 1, 0, 0, 0, 1, []),
  (22, .iadd, 1, 0, 0, 0, 0, []),
  (23, .iaload, 1, 0, 0, 0, 0, []),
  (24, .goto 4, 3, 28, 0, 0, 0, []),
  (27, .iconst (-1), 1, 0, 0, 0, (-1), []),
  (28, .ireturn, 1, 0, 0, 0, 0, [])]
def zc_X12_takes : List (Nat × List Bool) := []
def zo_X12_takes : List z_Op := [(0, .aload_n 0, 1, 0, 0, 0, 0, []),
  (1, .invokevirtual 290, 3, 143, 1, 12, 1, []),
  (4, .iload_n 1, 1, 1, 0, 0, 0, []),
  (5, .if_icmp .eq 5, 3, 10, 0, 0, 0, []),
  (8, .iconst 0, 1, 0, 0, 0, 0, []),
  (9, .ireturn, 1, 0, 0, 0, 0, []),
  (10, .aload_n 0, 1, 0, 0, 0, 0, []),
  (11, .dup, 1, 0, 0, 0, 0, []),
  (12, .getfield 53, 3, 12, 14, 0, 0, []),
  (15, .iconst 1, 1, 0, 0, 0, 1, []),
  (16, .iadd, 1, 0, 0, 0, 0, []),
  (17, .putfield 53, 3, 12, 14, 0, 0, []),
  (20, .iconst 1, 1, 0, 0, 0, 1, []),
  (21, .ireturn, 1, 0, 0, 0, 0, [])]
def zc_X12_takesWord : List (Nat × List Bool) := [(2, [true, true, true, true])]
def zo_X12_takesWord : List z_Op := [(0, .iconst 0, 1, 0, 0, 0, 0, []),
  (1, .istore_n 3, 1, 3, 0, 0, 0, []),
  (2, .iload_n 3, 1, 3, 0, 0, 0, []),
  (3, .iload_n 2, 1, 2, 0, 0, 0, []),
  (4, .if_icmp .ge 26, 3, 30, 0, 0, 0, []),
  (7, .aload_n 0, 1, 0, 0, 0, 0, []),
  (8, .aload_n 0, 1, 0, 0, 0, 0, []),
  (9, .getfield 92, 3, 12, 27, 0, 0, []),
  (12, .iload_n 1, 1, 1, 0, 0, 0, []),
  (13, .iload_n 3, 1, 3, 0, 0, 0, []),
  (14, .iadd, 1, 0, 0, 0, 0, []),
  (15, .iaload, 1, 0, 0, 0, 0, []),
  (16, .invokevirtual 294, 3, 145, 2, 12, 1, []),
  (19, .ifCond .ne 5, 3, 24, 0, 0, 0, []),
  (22, .iconst 0, 1, 0, 0, 0, 0, []),
  (23, .ireturn, 1, 0, 0, 0, 0, []),
  (24, .iinc 3 1, 3, 3, 0, 0, 1, []),
  (27, .goto (-25), 3, 2, 0, 0, 0, []),
  (30, .aload_n 0, 1, 0, 0, 0, 0, []),
  (31, .bipush 32, 2, 0, 0, 0, 32, []),
  (33, .invokevirtual 294, 3, 145, 2, 12, 1, []),
  (36, .ireturn, 1, 0, 0, 0, 0, [])]
def zc_X12_isDigit : List (Nat × List Bool) := []
def zo_X12_isDigit : List z_Op := [(0, .aload_n 0, 1, 0, 0, 0, 0, []),
  (1, .aload_n 0, 1, 0, 0, 0, 0, []),
  (2, .invokevirtual 290, 3, 143, 1, 12, 1, []),
  (5, .bipush 48, 2, 0, 0, 0, 48, []),
  (7, .bipush 57, 2, 0, 0, 0, 57, []),
  (9, .invokevirtual 264, 3, 124, 4, 12, 1, []),
  (12, .ireturn, 1, 0, 0, 0, 0, [])]
def zc_X12_takesNumber : List (Nat × List Bool) := [(16, [true, true])]
def zo_X12_takesNumber : List z_Op := [(0, .aload_n 0, 1, 0, 0, 0, 0, []),
  (1, .invokevirtual 297, 3, 147, 1, 12, 1, []),
  (4, .ifCond .ne 5, 3, 9, 0, 0, 0, []),
  (7, .iconst 0, 1, 0, 0, 0, 0, []),
  (8, .ireturn, 1, 0, 0, 0, 0, []),
  (9, .aload_n 0, 1, 0, 0, 0, 0, []),
  (10, .iconst 0, 1, 0, 0, 0, 0, []),
  (11, .putfield 56, 3, 12, 15, 0, 0, []),
  (14, .iconst 0, 1, 0, 0, 0, 0, []),
  (15, .istore_n 1, 1, 1, 0, 0, 0, []),
  (16, .iload_n 1, 1, 1, 0, 0, 0, []),
  (17, .iconst 2, 1, 0, 0, 0, 2, []),
  (18, .if_icmp .ge 45, 3, 63, 0, 0, 0, []),
  (21, .aload_n 0, 1, 0, 0, 0, 0, []),
  (22, .invokevirtual 297, 3, 147, 1, 12, 1, []),
  (25, .ifCond .eq 38, 3, 63, 0, 0, 0, []),
  (28, .aload_n 0, 1, 0, 0, 0, 0, []),
  (29, .bipush 10, 2, 0, 0, 0, 10, []),
  (31, .aload_n 0, 1, 0, 0, 0, 0, []),
  (32, .getfield 56, 3, 12, 15, 0, 0, []),
  (35, .imul, 1, 0, 0, 0, 0, []),
  (36, .aload_n 0, 1, 0, 0, 0, 0, []),
  (37, .invokevirtual 290, 3, 143, 1, 12, 1, []),
  (40, .iadd, 1, 0, 0, 0, 0, []),
  (41, .bipush 48, 2, 0, 0, 0, 48, []),
  (43, .isub, 1, 0, 0, 0, 0, []),
  (44, .putfield 56, 3, 12, 15, 0, 0, []),
  (47, .aload_n 0, 1, 0, 0, 0, 0, []),
  (48, .dup, 1, 0, 0, 0, 0, []),
  (49, .getfield 53, 3, 12, 14, 0, 0, []),
  (52, .iconst 1, 1, 0, 0, 0, 1, []),
  (53, .iadd, 1, 0, 0, 0, 0, []),
  (54, .putfield 53, 3, 12, 14, 0, 0, []),
  (57, .iinc 1 1, 3, 1, 0, 0, 1, []),
  (60, .goto (-44), 3, 16, 0, 0, 0, []),
  (63, .iconst 1, 1, 0, 0, 0, 1, []),
  (64, .ireturn, 1, 0, 0, 0, 0, [])]
def zc_X12_emits : List (Nat × List Bool) := []
def zo_X12_emits : List z_Op := [(0, .aload_n 0, 1, 0, 0, 0, 0, []),
  (1, .getfield 77, 3, 12, 22, 0, 0, []),
  (4, .aload_n 0, 1, 0, 0, 0, 0, []),
  (5, .getfield 83, 3, 12, 24, 0, 0, []),
  (8, .iload_n 1, 1, 1, 0, 0, 0, []),
  (9, .iastore, 1, 0, 0, 0, 0, []),
  (10, .aload_n 0, 1, 0, 0, 0, 0, []),
  (11, .dup, 1, 0, 0, 0, 0, []),
  (12, .getfield 83, 3, 12, 24, 0, 0, []),
  (15, .iconst 1, 1, 0, 0, 0, 1, []),
  (16, .iadd, 1, 0, 0, 0, 0, []),
  (17, .putfield 83, 3, 12, 24, 0, 0, []),
  (20, .return_, 1, 0, 0, 0, 0, [])]
def zc_X12_whole : List (Nat × List Bool) := [(0, [true])]
def zo_X12_whole : List z_Op := [(0, .aload_n 0, 1, 0, 0, 0, 0, []),
  (1, .getfield 86, 3, 12, 25, 0, 0, []),
  (4, .ifCond .le 48, 3, 52, 0, 0, 0, []),
  (7, .aload_n 0, 1, 0, 0, 0, 0, []),
  (8, .getfield 80, 3, 12, 23, 0, 0, []),
  (11, .aload_n 0, 1, 0, 0, 0, 0, []),
  (12, .getfield 86, 3, 12, 25, 0, 0, []),
  (15, .iconst 1, 1, 0, 0, 0, 1, []),
  (16, .isub, 1, 0, 0, 0, 0, []),
  (17, .iaload, 1, 0, 0, 0, 0, []),
  (18, .bipush 33, 2, 0, 0, 0, 33, []),
  (20, .if_icmp .ne 32, 3, 52, 0, 0, 0, []),
  (23, .aload_n 0, 1, 0, 0, 0, 0, []),
  (24, .bipush (-33), 2, 0, 0, 0, (-33), []),
  (26, .invokevirtual 301, 3, 149, 2, 12, 0, []),
  (29, .aload_n 0, 1, 0, 0, 0, 0, []),
  (30, .dup, 1, 0, 0, 0, 0, []),
  (31, .getfield 86, 3, 12, 25, 0, 0, []),
  (34, .iconst 1, 1, 0, 0, 0, 1, []),
  (35, .isub, 1, 0, 0, 0, 0, []),
  (36, .putfield 86, 3, 12, 25, 0, 0, []),
  (39, .aload_n 0, 1, 0, 0, 0, 0, []),
  (40, .dup, 1, 0, 0, 0, 0, []),
  (41, .getfield 89, 3, 12, 26, 0, 0, []),
  (44, .iconst 1, 1, 0, 0, 0, 1, []),
  (45, .isub, 1, 0, 0, 0, 0, []),
  (46, .putfield 89, 3, 12, 26, 0, 0, []),
  (49, .goto (-49), 3, 0, 0, 0, 0, []),
  (52, .return_, 1, 0, 0, 0, 0, [])]
def zc_X12_settle : List (Nat × List Bool) := [(0, [true, true])]
def zo_X12_settle : List z_Op := [(0, .aload_n 0, 1, 0, 0, 0, 0, []),
  (1, .getfield 86, 3, 12, 25, 0, 0, []),
  (4, .ifCond .le 68, 3, 72, 0, 0, 0, []),
  (7, .aload_n 0, 1, 0, 0, 0, 0, []),
  (8, .getfield 80, 3, 12, 23, 0, 0, []),
  (11, .aload_n 0, 1, 0, 0, 0, 0, []),
  (12, .getfield 86, 3, 12, 25, 0, 0, []),
  (15, .iconst 1, 1, 0, 0, 0, 1, []),
  (16, .isub, 1, 0, 0, 0, 0, []),
  (17, .iaload, 1, 0, 0, 0, 0, []),
  (18, .bipush 38, 2, 0, 0, 0, 38, []),
  (20, .if_icmp .eq 25, 3, 45, 0, 0, 0, []),
  (23, .aload_n 0, 1, 0, 0, 0, 0, []),
  (24, .getfield 80, 3, 12, 23, 0, 0, []),
  (27, .aload_n 0, 1, 0, 0, 0, 0, []),
  (28, .getfield 86, 3, 12, 25, 0, 0, []),
  (31, .iconst 1, 1, 0, 0, 0, 1, []),
  (32, .isub, 1, 0, 0, 0, 0, []),
  (33, .iaload, 1, 0, 0, 0, 0, []),
  (34, .bipush 124, 2, 0, 0, 0, 124, []),
  (36, .if_icmp .ne 36, 3, 72, 0, 0, 0, []),
  (39, .iload_n 1, 1, 1, 0, 0, 0, []),
  (40, .bipush 38, 2, 0, 0, 0, 38, []),
  (42, .if_icmp .eq 30, 3, 72, 0, 0, 0, []),
  (45, .aload_n 0, 1, 0, 0, 0, 0, []),
  (46, .dup, 1, 0, 0, 0, 0, []),
  (47, .getfield 86, 3, 12, 25, 0, 0, []),
  (50, .iconst 1, 1, 0, 0, 0, 1, []),
  (51, .isub, 1, 0, 0, 0, 0, []),
  (52, .putfield 86, 3, 12, 25, 0, 0, []),
  (55, .aload_n 0, 1, 0, 0, 0, 0, []),
  (56, .aload_n 0, 1, 0, 0, 0, 0, []),
  (57, .getfield 80, 3, 12, 23, 0, 0, []),
  (60, .aload_n 0, 1, 0, 0, 0, 0, []),
  (61, .getfield 86, 3, 12, 25, 0, 0, []),
  (64, .iaload, 1, 0, 0, 0, 0, []),
  (65, .ineg, 1, 0, 0, 0, 0, []),
  (66, .invokevirtual 301, 3, 149, 2, 12, 0, []),
  (69, .goto (-69), 3, 0, 0, 0, 0, []),
  (72, .return_, 1, 0, 0, 0, 0, [])]
def zc_X12_place : List (Nat × List Bool) := []
def zo_X12_place : List z_Op := [(0, .iload_n 1, 1, 1, 0, 0, 0, []),
  (1, .lookupswitch 71 #[(98, 59), (104, 69), (107, 63), (112, 61), (118, 65), (119, 67)], 59, 72, 0, 0, 0, [((98), 60), ((104), 70), ((107), 64), ((112), 62), ((118), 66), ((119), 68)]),
  (60, .iconst 0, 1, 0, 0, 0, 0, []),
  (61, .ireturn, 1, 0, 0, 0, 0, []),
  (62, .iconst 1, 1, 0, 0, 0, 1, []),
  (63, .ireturn, 1, 0, 0, 0, 0, []),
  (64, .iconst 2, 1, 0, 0, 0, 2, []),
  (65, .ireturn, 1, 0, 0, 0, 0, []),
  (66, .iconst 3, 1, 0, 0, 0, 3, []),
  (67, .ireturn, 1, 0, 0, 0, 0, []),
  (68, .iconst 4, 1, 0, 0, 0, 4, []),
  (69, .ireturn, 1, 0, 0, 0, 0, []),
  (70, .iconst 5, 1, 0, 0, 0, 5, []),
  (71, .ireturn, 1, 0, 0, 0, 0, []),
  (72, .iconst (-1), 1, 0, 0, 0, (-1), []),
  (73, .ireturn, 1, 0, 0, 0, 0, [])]
def zc_X12_takesTest : List (Nat × List Bool) := []
def zo_X12_takesTest : List z_Op := [(0, .aload_n 0, 1, 0, 0, 0, 0, []),
  (1, .aload_n 0, 1, 0, 0, 0, 0, []),
  (2, .invokevirtual 290, 3, 143, 1, 12, 1, []),
  (5, .invokevirtual 305, 3, 152, 2, 12, 1, []),
  (8, .istore_n 1, 1, 1, 0, 0, 0, []),
  (9, .iload_n 1, 1, 1, 0, 0, 0, []),
  (10, .ifCond .ge 5, 3, 15, 0, 0, 0, []),
  (13, .iconst 0, 1, 0, 0, 0, 0, []),
  (14, .ireturn, 1, 0, 0, 0, 0, []),
  (15, .aload_n 0, 1, 0, 0, 0, 0, []),
  (16, .dup, 1, 0, 0, 0, 0, []),
  (17, .getfield 53, 3, 12, 14, 0, 0, []),
  (20, .iconst 1, 1, 0, 0, 0, 1, []),
  (21, .iadd, 1, 0, 0, 0, 0, []),
  (22, .putfield 53, 3, 12, 14, 0, 0, []),
  (25, .aload_n 0, 1, 0, 0, 0, 0, []),
  (26, .invokevirtual 290, 3, 143, 1, 12, 1, []),
  (29, .istore_n 2, 1, 2, 0, 0, 0, []),
  (30, .aload_n 0, 1, 0, 0, 0, 0, []),
  (31, .iload_n 2, 1, 2, 0, 0, 0, []),
  (32, .bipush 60, 2, 0, 0, 0, 60, []),
  (34, .bipush 62, 2, 0, 0, 0, 62, []),
  (36, .invokevirtual 264, 3, 124, 4, 12, 1, []),
  (39, .ifCond .ne 5, 3, 44, 0, 0, 0, []),
  (42, .iconst 0, 1, 0, 0, 0, 0, []),
  (43, .ireturn, 1, 0, 0, 0, 0, []),
  (44, .aload_n 0, 1, 0, 0, 0, 0, []),
  (45, .dup, 1, 0, 0, 0, 0, []),
  (46, .getfield 53, 3, 12, 14, 0, 0, []),
  (49, .iconst 1, 1, 0, 0, 0, 1, []),
  (50, .iadd, 1, 0, 0, 0, 0, []),
  (51, .putfield 53, 3, 12, 14, 0, 0, []),
  (54, .aload_n 0, 1, 0, 0, 0, 0, []),
  (55, .invokevirtual 308, 3, 148, 1, 12, 1, []),
  (58, .ifCond .ne 5, 3, 63, 0, 0, 0, []),
  (61, .iconst 0, 1, 0, 0, 0, 0, []),
  (62, .ireturn, 1, 0, 0, 0, 0, []),
  (63, .aload_n 0, 1, 0, 0, 0, 0, []),
  (64, .sipush 1000, 3, 0, 0, 0, 1000, []),
  (67, .iload_n 1, 1, 1, 0, 0, 0, []),
  (68, .imul, 1, 0, 0, 0, 0, []),
  (69, .bipush 100, 2, 0, 0, 0, 100, []),
  (71, .iload_n 2, 1, 2, 0, 0, 0, []),
  (72, .bipush 60, 2, 0, 0, 0, 60, []),
  (74, .isub, 1, 0, 0, 0, 0, []),
  (75, .imul, 1, 0, 0, 0, 0, []),
  (76, .iadd, 1, 0, 0, 0, 0, []),
  (77, .aload_n 0, 1, 0, 0, 0, 0, []),
  (78, .getfield 56, 3, 12, 15, 0, 0, []),
  (81, .iadd, 1, 0, 0, 0, 0, []),
  (82, .invokevirtual 301, 3, 149, 2, 12, 0, []),
  (85, .aload_n 0, 1, 0, 0, 0, 0, []),
  (86, .invokevirtual 311, 3, 150, 1, 12, 0, []),
  (89, .iconst 1, 1, 0, 0, 0, 1, []),
  (90, .ireturn, 1, 0, 0, 0, 0, [])]
def zc_X12_takesE : List (Nat × List Bool) := [(22, [true, true, true, false])]
def zo_X12_takesE : List z_Op := [(0, .aload_n 0, 1, 0, 0, 0, 0, []),
  (1, .iconst 0, 1, 0, 0, 0, 0, []),
  (2, .putfield 86, 3, 12, 25, 0, 0, []),
  (5, .aload_n 0, 1, 0, 0, 0, 0, []),
  (6, .iconst 0, 1, 0, 0, 0, 0, []),
  (7, .putfield 89, 3, 12, 26, 0, 0, []),
  (10, .aload_n 0, 1, 0, 0, 0, 0, []),
  (11, .getfield 71, 3, 12, 20, 0, 0, []),
  (14, .iload_n 1, 1, 1, 0, 0, 0, []),
  (15, .aload_n 0, 1, 0, 0, 0, 0, []),
  (16, .getfield 83, 3, 12, 24, 0, 0, []),
  (19, .iastore, 1, 0, 0, 0, 0, []),
  (20, .iconst 1, 1, 0, 0, 0, 1, []),
  (21, .istore_n 2, 1, 2, 0, 0, 0, []),
  (22, .aload_n 0, 1, 0, 0, 0, 0, []),
  (23, .invokevirtual 290, 3, 143, 1, 12, 1, []),
  (26, .istore_n 3, 1, 3, 0, 0, 0, []),
  (27, .iload_n 2, 1, 2, 0, 0, 0, []),
  (28, .ifCond .eq 82, 3, 110, 0, 0, 0, []),
  (31, .iload_n 3, 1, 3, 0, 0, 0, []),
  (32, .bipush 33, 2, 0, 0, 0, 33, []),
  (34, .if_icmp .eq 9, 3, 43, 0, 0, 0, []),
  (37, .iload_n 3, 1, 3, 0, 0, 0, []),
  (38, .bipush 40, 2, 0, 0, 0, 40, []),
  (40, .if_icmp .ne 56, 3, 96, 0, 0, 0, []),
  (43, .aload_n 0, 1, 0, 0, 0, 0, []),
  (44, .getfield 89, 3, 12, 26, 0, 0, []),
  (47, .iconst 4, 1, 0, 0, 0, 4, []),
  (48, .if_icmp .ne 5, 3, 53, 0, 0, 0, []),
  (51, .iconst 0, 1, 0, 0, 0, 0, []),
  (52, .ireturn, 1, 0, 0, 0, 0, []),
  (53, .aload_n 0, 1, 0, 0, 0, 0, []),
  (54, .dup, 1, 0, 0, 0, 0, []),
  (55, .getfield 89, 3, 12, 26, 0, 0, []),
  (58, .iconst 1, 1, 0, 0, 0, 1, []),
  (59, .iadd, 1, 0, 0, 0, 0, []),
  (60, .putfield 89, 3, 12, 26, 0, 0, []),
  (63, .aload_n 0, 1, 0, 0, 0, 0, []),
  (64, .getfield 80, 3, 12, 23, 0, 0, []),
  (67, .aload_n 0, 1, 0, 0, 0, 0, []),
  (68, .getfield 86, 3, 12, 25, 0, 0, []),
  (71, .iload_n 3, 1, 3, 0, 0, 0, []),
  (72, .iastore, 1, 0, 0, 0, 0, []),
  (73, .aload_n 0, 1, 0, 0, 0, 0, []),
  (74, .dup, 1, 0, 0, 0, 0, []),
  (75, .getfield 86, 3, 12, 25, 0, 0, []),
  (78, .iconst 1, 1, 0, 0, 0, 1, []),
  (79, .iadd, 1, 0, 0, 0, 0, []),
  (80, .putfield 86, 3, 12, 25, 0, 0, []),
  (83, .aload_n 0, 1, 0, 0, 0, 0, []),
  (84, .dup, 1, 0, 0, 0, 0, []),
  (85, .getfield 53, 3, 12, 14, 0, 0, []),
  (88, .iconst 1, 1, 0, 0, 0, 1, []),
  (89, .iadd, 1, 0, 0, 0, 0, []),
  (90, .putfield 53, 3, 12, 14, 0, 0, []),
  (93, .goto (-71), 3, 22, 0, 0, 0, []),
  (96, .aload_n 0, 1, 0, 0, 0, 0, []),
  (97, .invokevirtual 314, 3, 153, 1, 12, 1, []),
  (100, .ifCond .eq 8, 3, 108, 0, 0, 0, []),
  (103, .iconst 0, 1, 0, 0, 0, 0, []),
  (104, .istore_n 2, 1, 2, 0, 0, 0, []),
  (105, .goto (-83), 3, 22, 0, 0, 0, []),
  (108, .iconst 0, 1, 0, 0, 0, 0, []),
  (109, .ireturn, 1, 0, 0, 0, 0, []),
  (110, .iload_n 3, 1, 3, 0, 0, 0, []),
  (111, .bipush 38, 2, 0, 0, 0, 38, []),
  (113, .if_icmp .eq 9, 3, 122, 0, 0, 0, []),
  (116, .iload_n 3, 1, 3, 0, 0, 0, []),
  (117, .bipush 124, 2, 0, 0, 0, 124, []),
  (119, .if_icmp .ne 43, 3, 162, 0, 0, 0, []),
  (122, .aload_n 0, 1, 0, 0, 0, 0, []),
  (123, .iload_n 3, 1, 3, 0, 0, 0, []),
  (124, .invokevirtual 317, 3, 151, 2, 12, 0, []),
  (127, .aload_n 0, 1, 0, 0, 0, 0, []),
  (128, .getfield 80, 3, 12, 23, 0, 0, []),
  (131, .aload_n 0, 1, 0, 0, 0, 0, []),
  (132, .getfield 86, 3, 12, 25, 0, 0, []),
  (135, .iload_n 3, 1, 3, 0, 0, 0, []),
  (136, .iastore, 1, 0, 0, 0, 0, []),
  (137, .aload_n 0, 1, 0, 0, 0, 0, []),
  (138, .dup, 1, 0, 0, 0, 0, []),
  (139, .getfield 86, 3, 12, 25, 0, 0, []),
  (142, .iconst 1, 1, 0, 0, 0, 1, []),
  (143, .iadd, 1, 0, 0, 0, 0, []),
  (144, .putfield 86, 3, 12, 25, 0, 0, []),
  (147, .iconst 1, 1, 0, 0, 0, 1, []),
  (148, .istore_n 2, 1, 2, 0, 0, 0, []),
  (149, .aload_n 0, 1, 0, 0, 0, 0, []),
  (150, .dup, 1, 0, 0, 0, 0, []),
  (151, .getfield 53, 3, 12, 14, 0, 0, []),
  (154, .iconst 1, 1, 0, 0, 0, 1, []),
  (155, .iadd, 1, 0, 0, 0, 0, []),
  (156, .putfield 53, 3, 12, 14, 0, 0, []),
  (159, .goto (-137), 3, 22, 0, 0, 0, []),
  (162, .aload_n 0, 1, 0, 0, 0, 0, []),
  (163, .bipush 124, 2, 0, 0, 0, 124, []),
  (165, .invokevirtual 317, 3, 151, 2, 12, 0, []),
  (168, .aload_n 0, 1, 0, 0, 0, 0, []),
  (169, .getfield 74, 3, 12, 21, 0, 0, []),
  (172, .iload_n 1, 1, 1, 0, 0, 0, []),
  (173, .aload_n 0, 1, 0, 0, 0, 0, []),
  (174, .getfield 83, 3, 12, 24, 0, 0, []),
  (177, .iastore, 1, 0, 0, 0, 0, []),
  (178, .aload_n 0, 1, 0, 0, 0, 0, []),
  (179, .getfield 86, 3, 12, 25, 0, 0, []),
  (182, .ifCond .ne 5, 3, 187, 0, 0, 0, []),
  (185, .iconst 1, 1, 0, 0, 0, 1, []),
  (186, .ireturn, 1, 0, 0, 0, 0, []),
  (187, .iload_n 3, 1, 3, 0, 0, 0, []),
  (188, .bipush 41, 2, 0, 0, 0, 41, []),
  (190, .if_icmp .eq 5, 3, 195, 0, 0, 0, []),
  (193, .iconst 0, 1, 0, 0, 0, 0, []),
  (194, .ireturn, 1, 0, 0, 0, 0, []),
  (195, .aload_n 0, 1, 0, 0, 0, 0, []),
  (196, .dup, 1, 0, 0, 0, 0, []),
  (197, .getfield 86, 3, 12, 25, 0, 0, []),
  (200, .iconst 1, 1, 0, 0, 0, 1, []),
  (201, .isub, 1, 0, 0, 0, 0, []),
  (202, .putfield 86, 3, 12, 25, 0, 0, []),
  (205, .aload_n 0, 1, 0, 0, 0, 0, []),
  (206, .dup, 1, 0, 0, 0, 0, []),
  (207, .getfield 89, 3, 12, 26, 0, 0, []),
  (210, .iconst 1, 1, 0, 0, 0, 1, []),
  (211, .isub, 1, 0, 0, 0, 0, []),
  (212, .putfield 89, 3, 12, 26, 0, 0, []),
  (215, .aload_n 0, 1, 0, 0, 0, 0, []),
  (216, .dup, 1, 0, 0, 0, 0, []),
  (217, .getfield 53, 3, 12, 14, 0, 0, []),
  (220, .iconst 1, 1, 0, 0, 0, 1, []),
  (221, .iadd, 1, 0, 0, 0, 0, []),
  (222, .putfield 53, 3, 12, 14, 0, 0, []),
  (225, .aload_n 0, 1, 0, 0, 0, 0, []),
  (226, .invokevirtual 311, 3, 150, 1, 12, 0, []),
  (229, .goto (-207), 3, 22, 0, 0, 0, [])]
def zc_X12_takesHead : List (Nat × List Bool) := []
def zo_X12_takesHead : List z_Op := [(0, .aload_n 0, 1, 0, 0, 0, 0, []),
  (1, .invokevirtual 290, 3, 143, 1, 12, 1, []),
  (4, .lookupswitch 58 #[(99, 28), (108, 43)], 28, 62, 0, 0, 0, [((99), 32), ((108), 47)]),
  (32, .aload_n 0, 1, 0, 0, 0, 0, []),
  (33, .getfield 65, 3, 12, 18, 0, 0, []),
  (36, .iload_n 1, 1, 1, 0, 0, 0, []),
  (37, .iconst 2, 1, 0, 0, 0, 2, []),
  (38, .iastore, 1, 0, 0, 0, 0, []),
  (39, .aload_n 0, 1, 0, 0, 0, 0, []),
  (40, .bipush 7, 2, 0, 0, 0, 7, []),
  (42, .iconst 4, 1, 0, 0, 0, 4, []),
  (43, .invokevirtual 320, 3, 146, 3, 12, 1, []),
  (46, .ireturn, 1, 0, 0, 0, 0, []),
  (47, .aload_n 0, 1, 0, 0, 0, 0, []),
  (48, .getfield 65, 3, 12, 18, 0, 0, []),
  (51, .iload_n 1, 1, 1, 0, 0, 0, []),
  (52, .iconst 3, 1, 0, 0, 0, 3, []),
  (53, .iastore, 1, 0, 0, 0, 0, []),
  (54, .aload_n 0, 1, 0, 0, 0, 0, []),
  (55, .bipush 11, 2, 0, 0, 0, 11, []),
  (57, .iconst 3, 1, 0, 0, 0, 3, []),
  (58, .invokevirtual 320, 3, 146, 3, 12, 1, []),
  (61, .ireturn, 1, 0, 0, 0, 0, []),
  (62, .aload_n 0, 1, 0, 0, 0, 0, []),
  (63, .getfield 65, 3, 12, 18, 0, 0, []),
  (66, .iload_n 1, 1, 1, 0, 0, 0, []),
  (67, .aload_n 0, 1, 0, 0, 0, 0, []),
  (68, .invokevirtual 323, 3, 144, 1, 12, 1, []),
  (71, .bipush 97, 2, 0, 0, 0, 97, []),
  (73, .if_icmp .ne 7, 3, 80, 0, 0, 0, []),
  (76, .iconst 1, 1, 0, 0, 0, 1, []),
  (77, .goto 4, 3, 81, 0, 0, 0, []),
  (80, .iconst 0, 1, 0, 0, 0, 0, []),
  (81, .iastore, 1, 0, 0, 0, 0, []),
  (82, .aload_n 0, 1, 0, 0, 0, 0, []),
  (83, .getfield 65, 3, 12, 18, 0, 0, []),
  (86, .iload_n 1, 1, 1, 0, 0, 0, []),
  (87, .iaload, 1, 0, 0, 0, 0, []),
  (88, .iconst 1, 1, 0, 0, 0, 1, []),
  (89, .if_icmp .ne 12, 3, 101, 0, 0, 0, []),
  (92, .aload_n 0, 1, 0, 0, 0, 0, []),
  (93, .iconst 3, 1, 0, 0, 0, 3, []),
  (94, .iconst 4, 1, 0, 0, 0, 4, []),
  (95, .invokevirtual 320, 3, 146, 3, 12, 1, []),
  (98, .goto 9, 3, 107, 0, 0, 0, []),
  (101, .aload_n 0, 1, 0, 0, 0, 0, []),
  (102, .iconst 0, 1, 0, 0, 0, 0, []),
  (103, .iconst 3, 1, 0, 0, 0, 3, []),
  (104, .invokevirtual 320, 3, 146, 3, 12, 1, []),
  (107, .ireturn, 1, 0, 0, 0, 0, [])]
def zc_X12_takesClause : List (Nat × List Bool) := []
def zo_X12_takesClause : List z_Op := [(0, .aload_n 0, 1, 0, 0, 0, 0, []),
  (1, .iload_n 1, 1, 1, 0, 0, 0, []),
  (2, .invokevirtual 326, 3, 155, 2, 12, 1, []),
  (5, .ifCond .eq 10, 3, 15, 0, 0, 0, []),
  (8, .aload_n 0, 1, 0, 0, 0, 0, []),
  (9, .invokevirtual 308, 3, 148, 1, 12, 1, []),
  (12, .ifCond .ne 5, 3, 17, 0, 0, 0, []),
  (15, .iconst 0, 1, 0, 0, 0, 0, []),
  (16, .ireturn, 1, 0, 0, 0, 0, []),
  (17, .aload_n 0, 1, 0, 0, 0, 0, []),
  (18, .getfield 68, 3, 12, 19, 0, 0, []),
  (21, .iload_n 1, 1, 1, 0, 0, 0, []),
  (22, .aload_n 0, 1, 0, 0, 0, 0, []),
  (23, .getfield 56, 3, 12, 15, 0, 0, []),
  (26, .iastore, 1, 0, 0, 0, 0, []),
  (27, .aload_n 0, 1, 0, 0, 0, 0, []),
  (28, .getfield 65, 3, 12, 18, 0, 0, []),
  (31, .iload_n 1, 1, 1, 0, 0, 0, []),
  (32, .iaload, 1, 0, 0, 0, 0, []),
  (33, .iconst 2, 1, 0, 0, 0, 2, []),
  (34, .if_icmp .ge 20, 3, 54, 0, 0, 0, []),
  (37, .aload_n 0, 1, 0, 0, 0, 0, []),
  (38, .bipush 32, 2, 0, 0, 0, 32, []),
  (40, .invokevirtual 294, 3, 145, 2, 12, 1, []),
  (43, .ifCond .eq 15, 3, 58, 0, 0, 0, []),
  (46, .aload_n 0, 1, 0, 0, 0, 0, []),
  (47, .iload_n 1, 1, 1, 0, 0, 0, []),
  (48, .invokevirtual 329, 3, 154, 2, 12, 1, []),
  (51, .ifCond .eq 7, 3, 58, 0, 0, 0, []),
  (54, .iconst 1, 1, 0, 0, 0, 1, []),
  (55, .goto 4, 3, 59, 0, 0, 0, []),
  (58, .iconst 0, 1, 0, 0, 0, 0, []),
  (59, .ireturn, 1, 0, 0, 0, 0, [])]
def zc_X12_goesText : List (Nat × List Bool) := [(15, [true, true, true])]
def zo_X12_goesText : List z_Op := [(0, .aload_n 0, 1, 0, 0, 0, 0, []),
  (1, .iconst 0, 1, 0, 0, 0, 0, []),
  (2, .putfield 53, 3, 12, 14, 0, 0, []),
  (5, .aload_n 0, 1, 0, 0, 0, 0, []),
  (6, .bipush 100, 2, 0, 0, 0, 100, []),
  (8, .iload_n 1, 1, 1, 0, 0, 0, []),
  (9, .imul, 1, 0, 0, 0, 0, []),
  (10, .putfield 83, 3, 12, 24, 0, 0, []),
  (13, .iconst 0, 1, 0, 0, 0, 0, []),
  (14, .istore_n 2, 1, 2, 0, 0, 0, []),
  (15, .aload_n 0, 1, 0, 0, 0, 0, []),
  (16, .bipush 10, 2, 0, 0, 0, 10, []),
  (18, .iload_n 1, 1, 1, 0, 0, 0, []),
  (19, .imul, 1, 0, 0, 0, 0, []),
  (20, .iload_n 2, 1, 2, 0, 0, 0, []),
  (21, .iadd, 1, 0, 0, 0, 0, []),
  (22, .invokevirtual 332, 3, 156, 2, 12, 1, []),
  (25, .ifCond .ne 5, 3, 30, 0, 0, 0, []),
  (28, .iconst 0, 1, 0, 0, 0, 0, []),
  (29, .ireturn, 1, 0, 0, 0, 0, []),
  (30, .iinc 2 1, 3, 2, 0, 0, 1, []),
  (33, .aload_n 0, 1, 0, 0, 0, 0, []),
  (34, .getfield 62, 3, 12, 17, 0, 0, []),
  (37, .iload_n 1, 1, 1, 0, 0, 0, []),
  (38, .iload_n 2, 1, 2, 0, 0, 0, []),
  (39, .iastore, 1, 0, 0, 0, 0, []),
  (40, .aload_n 0, 1, 0, 0, 0, 0, []),
  (41, .getfield 53, 3, 12, 14, 0, 0, []),
  (44, .aload_n 0, 1, 0, 0, 0, 0, []),
  (45, .getfield 50, 3, 12, 13, 0, 0, []),
  (48, .if_icmp .ne 5, 3, 53, 0, 0, 0, []),
  (51, .iconst 1, 1, 0, 0, 0, 1, []),
  (52, .ireturn, 1, 0, 0, 0, 0, []),
  (53, .iload_n 2, 1, 2, 0, 0, 0, []),
  (54, .bipush 10, 2, 0, 0, 0, 10, []),
  (56, .if_icmp .eq 12, 3, 68, 0, 0, 0, []),
  (59, .aload_n 0, 1, 0, 0, 0, 0, []),
  (60, .bipush 59, 2, 0, 0, 0, 59, []),
  (62, .invokevirtual 294, 3, 145, 2, 12, 1, []),
  (65, .ifCond .ne (-50), 3, 15, 0, 0, 0, []),
  (68, .iconst 0, 1, 0, 0, 0, 0, []),
  (69, .ireturn, 1, 0, 0, 0, 0, [])]
def zc_X12_hut : List (Nat × List Bool) := []
def zo_X12_hut : List z_Op := [(0, .aload_n 0, 1, 0, 0, 0, 0, []),
  (1, .getfield 44, 3, 12, 11, 0, 0, []),
  (4, .bipush 6, 2, 0, 0, 0, 6, []),
  (6, .if_icmp .ne 6, 3, 12, 0, 0, 0, []),
  (9, .bipush (-4), 2, 0, 0, 0, (-4), []),
  (11, .ireturn, 1, 0, 0, 0, 0, []),
  (12, .aload_n 0, 1, 0, 0, 0, 0, []),
  (13, .aload_n 0, 1, 0, 0, 0, 0, []),
  (14, .getfield 44, 3, 12, 11, 0, 0, []),
  (17, .invokevirtual 335, 3, 157, 2, 12, 1, []),
  (20, .istore_n 1, 1, 1, 0, 0, 0, []),
  (21, .aload_n 0, 1, 0, 0, 0, 0, []),
  (22, .iconst 0, 1, 0, 0, 0, 0, []),
  (23, .putfield 50, 3, 12, 13, 0, 0, []),
  (26, .iload_n 1, 1, 1, 0, 0, 0, []),
  (27, .ifCond .ne 11, 3, 38, 0, 0, 0, []),
  (30, .bipush (-10), 2, 0, 0, 0, (-10), []),
  (32, .aload_n 0, 1, 0, 0, 0, 0, []),
  (33, .getfield 53, 3, 12, 14, 0, 0, []),
  (36, .isub, 1, 0, 0, 0, 0, []),
  (37, .ireturn, 1, 0, 0, 0, 0, []),
  (38, .aload_n 0, 1, 0, 0, 0, 0, []),
  (39, .aload_n 0, 1, 0, 0, 0, 0, []),
  (40, .getfield 44, 3, 12, 11, 0, 0, []),
  (43, .putfield 47, 3, 12, 12, 0, 0, []),
  (46, .aload_n 0, 1, 0, 0, 0, 0, []),
  (47, .dup, 1, 0, 0, 0, 0, []),
  (48, .getfield 44, 3, 12, 11, 0, 0, []),
  (51, .iconst 1, 1, 0, 0, 0, 1, []),
  (52, .iadd, 1, 0, 0, 0, 0, []),
  (53, .putfield 44, 3, 12, 11, 0, 0, []),
  (56, .aload_n 0, 1, 0, 0, 0, 0, []),
  (57, .getfield 47, 3, 12, 12, 0, 0, []),
  (60, .ireturn, 1, 0, 0, 0, 0, [])]
def zc_X12_begin : List (Nat × List Bool) := []
def zo_X12_begin : List z_Op := [(0, .aload_n 0, 1, 0, 0, 0, 0, []),
  (1, .getfield 47, 3, 12, 12, 0, 0, []),
  (4, .ifCond .ge 7, 3, 11, 0, 0, 0, []),
  (7, .iconst 0, 1, 0, 0, 0, 0, []),
  (8, .goto 10, 3, 18, 0, 0, 0, []),
  (11, .bipush 10, 2, 0, 0, 0, 10, []),
  (13, .aload_n 0, 1, 0, 0, 0, 0, []),
  (14, .getfield 47, 3, 12, 12, 0, 0, []),
  (17, .imul, 1, 0, 0, 0, 0, []),
  (18, .ireturn, 1, 0, 0, 0, 0, [])]
def zc_X12_behind : List (Nat × List Bool) := []
def zo_X12_behind : List z_Op := [(0, .aload_n 0, 1, 0, 0, 0, 0, []),
  (1, .getfield 47, 3, 12, 12, 0, 0, []),
  (4, .ifCond .ge 7, 3, 11, 0, 0, 0, []),
  (7, .iconst 0, 1, 0, 0, 0, 0, []),
  (8, .goto 20, 3, 28, 0, 0, 0, []),
  (11, .bipush 10, 2, 0, 0, 0, 10, []),
  (13, .aload_n 0, 1, 0, 0, 0, 0, []),
  (14, .getfield 47, 3, 12, 12, 0, 0, []),
  (17, .imul, 1, 0, 0, 0, 0, []),
  (18, .aload_n 0, 1, 0, 0, 0, 0, []),
  (19, .getfield 62, 3, 12, 17, 0, 0, []),
  (22, .aload_n 0, 1, 0, 0, 0, 0, []),
  (23, .getfield 47, 3, 12, 12, 0, 0, []),
  (26, .iaload, 1, 0, 0, 0, 0, []),
  (27, .iadd, 1, 0, 0, 0, 0, []),
  (28, .ireturn, 1, 0, 0, 0, 0, [])]
def zc_X12_lastOf : List (Nat × List Bool) := [(8, [true, true, false, true, true])]
def zo_X12_lastOf : List z_Op := [(0, .iload_n 2, 1, 2, 0, 0, 0, []),
  (1, .istore_n 3, 1, 3, 0, 0, 0, []),
  (2, .aload_n 0, 1, 0, 0, 0, 0, []),
  (3, .invokevirtual 338, 3, 159, 1, 12, 1, []),
  (6, .istore 4, 2, 4, 0, 0, 0, []),
  (8, .iload 4, 2, 4, 0, 0, 0, []),
  (10, .aload_n 0, 1, 0, 0, 0, 0, []),
  (11, .invokevirtual 341, 3, 160, 1, 12, 1, []),
  (14, .if_icmp .ge 32, 3, 46, 0, 0, 0, []),
  (17, .aload_n 0, 1, 0, 0, 0, 0, []),
  (18, .getfield 65, 3, 12, 18, 0, 0, []),
  (21, .iload 4, 2, 4, 0, 0, 0, []),
  (23, .iaload, 1, 0, 0, 0, 0, []),
  (24, .iload_n 1, 1, 1, 0, 0, 0, []),
  (25, .if_icmp .ne 13, 3, 38, 0, 0, 0, []),
  (28, .aload_n 0, 1, 0, 0, 0, 0, []),
  (29, .getfield 68, 3, 12, 19, 0, 0, []),
  (32, .iload 4, 2, 4, 0, 0, 0, []),
  (34, .iaload, 1, 0, 0, 0, 0, []),
  (35, .goto 4, 3, 39, 0, 0, 0, []),
  (38, .iload_n 3, 1, 3, 0, 0, 0, []),
  (39, .istore_n 3, 1, 3, 0, 0, 0, []),
  (40, .iinc 4 1, 3, 4, 0, 0, 1, []),
  (43, .goto (-35), 3, 8, 0, 0, 0, []),
  (46, .iload_n 3, 1, 3, 0, 0, 0, []),
  (47, .ireturn, 1, 0, 0, 0, 0, [])]
def zc_X12_factOf : List (Nat × List Bool) := []
def zo_X12_factOf : List z_Op := [(0, .iload_n 1, 1, 1, 0, 0, 0, []),
  (1, .tableswitch 63 0 4 #[35, 37, 39, 46, 53], 35, 64, 0, 0, 0, [(0, 36), (1, 38), (2, 40), (3, 47), (4, 54)]),
  (36, .iload_n 2, 1, 2, 0, 0, 0, []),
  (37, .ireturn, 1, 0, 0, 0, 0, []),
  (38, .iload_n 3, 1, 3, 0, 0, 0, []),
  (39, .ireturn, 1, 0, 0, 0, 0, []),
  (40, .aload_n 0, 1, 0, 0, 0, 0, []),
  (41, .getfield 25, 3, 12, 5, 0, 0, []),
  (44, .iload_n 2, 1, 2, 0, 0, 0, []),
  (45, .iaload, 1, 0, 0, 0, 0, []),
  (46, .ireturn, 1, 0, 0, 0, 0, []),
  (47, .aload_n 0, 1, 0, 0, 0, 0, []),
  (48, .getfield 29, 3, 12, 6, 0, 0, []),
  (51, .iload_n 2, 1, 2, 0, 0, 0, []),
  (52, .iaload, 1, 0, 0, 0, 0, []),
  (53, .ireturn, 1, 0, 0, 0, 0, []),
  (54, .aload_n 0, 1, 0, 0, 0, 0, []),
  (55, .getfield 32, 3, 12, 7, 0, 0, []),
  (58, .iload_n 2, 1, 2, 0, 0, 0, []),
  (59, .iaload, 1, 0, 0, 0, 0, []),
  (60, .bipush 10, 2, 0, 0, 0, 10, []),
  (62, .idiv, 1, 0, 0, 0, 0, []),
  (63, .ireturn, 1, 0, 0, 0, 0, []),
  (64, .aload_n 0, 1, 0, 0, 0, 0, []),
  (65, .getfield 22, 3, 12, 4, 0, 0, []),
  (68, .bipush 10, 2, 0, 0, 0, 10, []),
  (70, .irem, 1, 0, 0, 0, 0, []),
  (71, .ireturn, 1, 0, 0, 0, 0, [])]
def zc_X12_holds : List (Nat × List Bool) := [(11, [true, true, true, true, true, true, false, false, false])]
def zo_X12_holds : List z_Op := [(0, .iconst 0, 1, 0, 0, 0, 0, []),
  (1, .istore 4, 2, 4, 0, 0, 0, []),
  (3, .aload_n 0, 1, 0, 0, 0, 0, []),
  (4, .getfield 71, 3, 12, 20, 0, 0, []),
  (7, .iload_n 1, 1, 1, 0, 0, 0, []),
  (8, .iaload, 1, 0, 0, 0, 0, []),
  (9, .istore 5, 2, 5, 0, 0, 0, []),
  (11, .iload 5, 2, 5, 0, 0, 0, []),
  (13, .aload_n 0, 1, 0, 0, 0, 0, []),
  (14, .getfield 74, 3, 12, 21, 0, 0, []),
  (17, .iload_n 1, 1, 1, 0, 0, 0, []),
  (18, .iaload, 1, 0, 0, 0, 0, []),
  (19, .if_icmp .ge 234, 3, 253, 0, 0, 0, []),
  (22, .aload_n 0, 1, 0, 0, 0, 0, []),
  (23, .getfield 77, 3, 12, 22, 0, 0, []),
  (26, .iload 5, 2, 5, 0, 0, 0, []),
  (28, .iaload, 1, 0, 0, 0, 0, []),
  (29, .istore 6, 2, 6, 0, 0, 0, []),
  (31, .iload 6, 2, 6, 0, 0, 0, []),
  (33, .bipush (-33), 2, 0, 0, 0, (-33), []),
  (35, .if_icmp .ne 32, 3, 67, 0, 0, 0, []),
  (38, .aload_n 0, 1, 0, 0, 0, 0, []),
  (39, .getfield 95, 3, 12, 28, 0, 0, []),
  (42, .iload 4, 2, 4, 0, 0, 0, []),
  (44, .iconst 1, 1, 0, 0, 0, 1, []),
  (45, .isub, 1, 0, 0, 0, 0, []),
  (46, .aload_n 0, 1, 0, 0, 0, 0, []),
  (47, .getfield 95, 3, 12, 28, 0, 0, []),
  (50, .iload 4, 2, 4, 0, 0, 0, []),
  (52, .iconst 1, 1, 0, 0, 0, 1, []),
  (53, .isub, 1, 0, 0, 0, 0, []),
  (54, .baload, 1, 0, 0, 0, 0, []),
  (55, .ifCond .ne 7, 3, 62, 0, 0, 0, []),
  (58, .iconst 1, 1, 0, 0, 0, 1, []),
  (59, .goto 4, 3, 63, 0, 0, 0, []),
  (62, .iconst 0, 1, 0, 0, 0, 0, []),
  (63, .bastore, 1, 0, 0, 0, 0, []),
  (64, .goto 183, 3, 247, 0, 0, 0, []),
  (67, .iload 6, 2, 6, 0, 0, 0, []),
  (69, .ifCond .ge 82, 3, 151, 0, 0, 0, []),
  (72, .iinc 4 (-1), 3, 4, 0, 0, (-1), []),
  (75, .aload_n 0, 1, 0, 0, 0, 0, []),
  (76, .getfield 95, 3, 12, 28, 0, 0, []),
  (79, .iload 4, 2, 4, 0, 0, 0, []),
  (81, .iconst 1, 1, 0, 0, 0, 1, []),
  (82, .isub, 1, 0, 0, 0, 0, []),
  (83, .iload 6, 2, 6, 0, 0, 0, []),
  (85, .bipush (-38), 2, 0, 0, 0, (-38), []),
  (87, .if_icmp .ne 33, 3, 120, 0, 0, 0, []),
  (90, .aload_n 0, 1, 0, 0, 0, 0, []),
  (91, .getfield 95, 3, 12, 28, 0, 0, []),
  (94, .iload 4, 2, 4, 0, 0, 0, []),
  (96, .iconst 1, 1, 0, 0, 0, 1, []),
  (97, .isub, 1, 0, 0, 0, 0, []),
  (98, .baload, 1, 0, 0, 0, 0, []),
  (99, .ifCond .eq 17, 3, 116, 0, 0, 0, []),
  (102, .aload_n 0, 1, 0, 0, 0, 0, []),
  (103, .getfield 95, 3, 12, 28, 0, 0, []),
  (106, .iload 4, 2, 4, 0, 0, 0, []),
  (108, .baload, 1, 0, 0, 0, 0, []),
  (109, .ifCond .eq 7, 3, 116, 0, 0, 0, []),
  (112, .iconst 1, 1, 0, 0, 0, 1, []),
  (113, .goto 34, 3, 147, 0, 0, 0, []),
  (116, .iconst 0, 1, 0, 0, 0, 0, []),
  (117, .goto 30, 3, 147, 0, 0, 0, []),
  (120, .aload_n 0, 1, 0, 0, 0, 0, []),
  (121, .getfield 95, 3, 12, 28, 0, 0, []),
  (124, .iload 4, 2, 4, 0, 0, 0, []),
  (126, .iconst 1, 1, 0, 0, 0, 1, []),
  (127, .isub, 1, 0, 0, 0, 0, []),
  (128, .baload, 1, 0, 0, 0, 0, []),
  (129, .ifCond .ne 13, 3, 142, 0, 0, 0, []),
  (132, .aload_n 0, 1, 0, 0, 0, 0, []),
  (133, .getfield 95, 3, 12, 28, 0, 0, []),
  (136, .iload 4, 2, 4, 0, 0, 0, []),
  (138, .baload, 1, 0, 0, 0, 0, []),
  (139, .ifCond .eq 7, 3, 146, 0, 0, 0, []),
  (142, .iconst 1, 1, 0, 0, 0, 1, []),
  (143, .goto 4, 3, 147, 0, 0, 0, []),
  (146, .iconst 0, 1, 0, 0, 0, 0, []),
  (147, .bastore, 1, 0, 0, 0, 0, []),
  (148, .goto 99, 3, 247, 0, 0, 0, []),
  (151, .aload_n 0, 1, 0, 0, 0, 0, []),
  (152, .iload 6, 2, 6, 0, 0, 0, []),
  (154, .sipush 1000, 3, 0, 0, 0, 1000, []),
  (157, .idiv, 1, 0, 0, 0, 0, []),
  (158, .iload_n 2, 1, 2, 0, 0, 0, []),
  (159, .iload_n 3, 1, 3, 0, 0, 0, []),
  (160, .invokevirtual 344, 3, 162, 4, 12, 1, []),
  (163, .istore 7, 2, 7, 0, 0, 0, []),
  (165, .iload 6, 2, 6, 0, 0, 0, []),
  (167, .bipush 100, 2, 0, 0, 0, 100, []),
  (169, .idiv, 1, 0, 0, 0, 0, []),
  (170, .bipush 10, 2, 0, 0, 0, 10, []),
  (172, .irem, 1, 0, 0, 0, 0, []),
  (173, .istore 8, 2, 8, 0, 0, 0, []),
  (175, .aload_n 0, 1, 0, 0, 0, 0, []),
  (176, .getfield 95, 3, 12, 28, 0, 0, []),
  (179, .iload 4, 2, 4, 0, 0, 0, []),
  (181, .iload 8, 2, 8, 0, 0, 0, []),
  (183, .ifCond .ne 21, 3, 204, 0, 0, 0, []),
  (186, .iload 7, 2, 7, 0, 0, 0, []),
  (188, .iload 6, 2, 6, 0, 0, 0, []),
  (190, .bipush 100, 2, 0, 0, 0, 100, []),
  (192, .irem, 1, 0, 0, 0, 0, []),
  (193, .if_icmp .ge 7, 3, 200, 0, 0, 0, []),
  (196, .iconst 1, 1, 0, 0, 0, 1, []),
  (197, .goto 46, 3, 243, 0, 0, 0, []),
  (200, .iconst 0, 1, 0, 0, 0, 0, []),
  (201, .goto 42, 3, 243, 0, 0, 0, []),
  (204, .iload 8, 2, 8, 0, 0, 0, []),
  (206, .iconst 1, 1, 0, 0, 0, 1, []),
  (207, .if_icmp .ne 21, 3, 228, 0, 0, 0, []),
  (210, .iload 7, 2, 7, 0, 0, 0, []),
  (212, .iload 6, 2, 6, 0, 0, 0, []),
  (214, .bipush 100, 2, 0, 0, 0, 100, []),
  (216, .irem, 1, 0, 0, 0, 0, []),
  (217, .if_icmp .ne 7, 3, 224, 0, 0, 0, []),
  (220, .iconst 1, 1, 0, 0, 0, 1, []),
  (221, .goto 22, 3, 243, 0, 0, 0, []),
  (224, .iconst 0, 1, 0, 0, 0, 0, []),
  (225, .goto 18, 3, 243, 0, 0, 0, []),
  (228, .iload 7, 2, 7, 0, 0, 0, []),
  (230, .iload 6, 2, 6, 0, 0, 0, []),
  (232, .bipush 100, 2, 0, 0, 0, 100, []),
  (234, .irem, 1, 0, 0, 0, 0, []),
  (235, .if_icmp .le 7, 3, 242, 0, 0, 0, []),
  (238, .iconst 1, 1, 0, 0, 0, 1, []),
  (239, .goto 4, 3, 243, 0, 0, 0, []),
  (242, .iconst 0, 1, 0, 0, 0, 0, []),
  (243, .bastore, 1, 0, 0, 0, 0, []),
  (244, .iinc 4 1, 3, 4, 0, 0, 1, []),
  (247, .iinc 5 1, 3, 5, 0, 0, 1, []),
  (250, .goto (-239), 3, 11, 0, 0, 0, []),
  (253, .aload_n 0, 1, 0, 0, 0, 0, []),
  (254, .getfield 95, 3, 12, 28, 0, 0, []),
  (257, .iconst 0, 1, 0, 0, 0, 0, []),
  (258, .baload, 1, 0, 0, 0, 0, []),
  (259, .ireturn, 1, 0, 0, 0, 0, [])]
def zc_X12_warm : List (Nat × List Bool) := []
def zo_X12_warm : List z_Op := [(0, .aload_n 0, 1, 0, 0, 0, 0, []),
  (1, .aload_n 0, 1, 0, 0, 0, 0, []),
  (2, .getfield 16, 3, 12, 2, 0, 0, []),
  (5, .iconst 3, 1, 0, 0, 0, 3, []),
  (6, .iload_n 1, 1, 1, 0, 0, 0, []),
  (7, .imul, 1, 0, 0, 0, 0, []),
  (8, .isub, 1, 0, 0, 0, 0, []),
  (9, .invokevirtual 348, 3, 127, 2, 12, 1, []),
  (12, .ireturn, 1, 0, 0, 0, 0, [])]
def zc_X12_sum : List (Nat × List Bool) := [(12, [true, true, true, true, true])]
def zo_X12_sum : List z_Op := [(0, .aload_n 0, 1, 0, 0, 0, 0, []),
  (1, .iload_n 2, 1, 2, 0, 0, 0, []),
  (2, .invokevirtual 351, 3, 164, 2, 12, 1, []),
  (5, .istore_n 3, 1, 3, 0, 0, 0, []),
  (6, .aload_n 0, 1, 0, 0, 0, 0, []),
  (7, .invokevirtual 338, 3, 159, 1, 12, 1, []),
  (10, .istore 4, 2, 4, 0, 0, 0, []),
  (12, .iload 4, 2, 4, 0, 0, 0, []),
  (14, .aload_n 0, 1, 0, 0, 0, 0, []),
  (15, .invokevirtual 341, 3, 160, 1, 12, 1, []),
  (18, .if_icmp .ge 65, 3, 83, 0, 0, 0, []),
  (21, .aload_n 0, 1, 0, 0, 0, 0, []),
  (22, .getfield 65, 3, 12, 18, 0, 0, []),
  (25, .iload 4, 2, 4, 0, 0, 0, []),
  (27, .iaload, 1, 0, 0, 0, 0, []),
  (28, .iconst 1, 1, 0, 0, 0, 1, []),
  (29, .if_icmp .gt 48, 3, 77, 0, 0, 0, []),
  (32, .aload_n 0, 1, 0, 0, 0, 0, []),
  (33, .iload 4, 2, 4, 0, 0, 0, []),
  (35, .iload_n 1, 1, 1, 0, 0, 0, []),
  (36, .iload_n 2, 1, 2, 0, 0, 0, []),
  (37, .invokevirtual 354, 3, 163, 4, 12, 1, []),
  (40, .ifCond .ne 6, 3, 46, 0, 0, 0, []),
  (43, .goto 34, 3, 77, 0, 0, 0, []),
  (46, .iload_n 3, 1, 3, 0, 0, 0, []),
  (47, .aload_n 0, 1, 0, 0, 0, 0, []),
  (48, .getfield 65, 3, 12, 18, 0, 0, []),
  (51, .iload 4, 2, 4, 0, 0, 0, []),
  (53, .iaload, 1, 0, 0, 0, 0, []),
  (54, .ifCond .ne 13, 3, 67, 0, 0, 0, []),
  (57, .aload_n 0, 1, 0, 0, 0, 0, []),
  (58, .getfield 68, 3, 12, 19, 0, 0, []),
  (61, .iload 4, 2, 4, 0, 0, 0, []),
  (63, .iaload, 1, 0, 0, 0, 0, []),
  (64, .goto 11, 3, 75, 0, 0, 0, []),
  (67, .aload_n 0, 1, 0, 0, 0, 0, []),
  (68, .getfield 68, 3, 12, 19, 0, 0, []),
  (71, .iload 4, 2, 4, 0, 0, 0, []),
  (73, .iaload, 1, 0, 0, 0, 0, []),
  (74, .ineg, 1, 0, 0, 0, 0, []),
  (75, .iadd, 1, 0, 0, 0, 0, []),
  (76, .istore_n 3, 1, 3, 0, 0, 0, []),
  (77, .iinc 4 1, 3, 4, 0, 0, 1, []),
  (80, .goto (-68), 3, 12, 0, 0, 0, []),
  (83, .iload_n 3, 1, 3, 0, 0, 0, []),
  (84, .ireturn, 1, 0, 0, 0, 0, [])]
def zc_X12_plainDries : List (Nat × List Bool) := []
def zo_X12_plainDries : List z_Op := [(0, .aload_n 0, 1, 0, 0, 0, 0, []),
  (1, .iload_n 1, 1, 1, 0, 0, 0, []),
  (2, .iload_n 2, 1, 2, 0, 0, 0, []),
  (3, .invokevirtual 357, 3, 165, 3, 12, 1, []),
  (6, .istore_n 3, 1, 3, 0, 0, 0, []),
  (7, .aload_n 0, 1, 0, 0, 0, 0, []),
  (8, .iload_n 2, 1, 2, 0, 0, 0, []),
  (9, .invokevirtual 351, 3, 164, 2, 12, 1, []),
  (12, .bipush 8, 2, 0, 0, 0, 8, []),
  (14, .if_icmp .le 9, 3, 23, 0, 0, 0, []),
  (17, .iload_n 3, 1, 3, 0, 0, 0, []),
  (18, .iconst 2, 1, 0, 0, 0, 2, []),
  (19, .idiv, 1, 0, 0, 0, 0, []),
  (20, .goto 4, 3, 24, 0, 0, 0, []),
  (23, .iload_n 3, 1, 3, 0, 0, 0, []),
  (24, .istore 4, 2, 4, 0, 0, 0, []),
  (26, .aload_n 0, 1, 0, 0, 0, 0, []),
  (27, .getfield 32, 3, 12, 7, 0, 0, []),
  (30, .iload_n 1, 1, 1, 0, 0, 0, []),
  (31, .iaload, 1, 0, 0, 0, 0, []),
  (32, .bipush 50, 2, 0, 0, 0, 50, []),
  (34, .if_icmp .lt 14, 3, 48, 0, 0, 0, []),
  (37, .iload_n 3, 1, 3, 0, 0, 0, []),
  (38, .aload_n 0, 1, 0, 0, 0, 0, []),
  (39, .getfield 29, 3, 12, 6, 0, 0, []),
  (42, .iload_n 1, 1, 1, 0, 0, 0, []),
  (43, .iaload, 1, 0, 0, 0, 0, []),
  (44, .iadd, 1, 0, 0, 0, 0, []),
  (45, .goto 4, 3, 49, 0, 0, 0, []),
  (48, .iload_n 3, 1, 3, 0, 0, 0, []),
  (49, .istore 5, 2, 5, 0, 0, 0, []),
  (51, .aload_n 0, 1, 0, 0, 0, 0, []),
  (52, .getfield 25, 3, 12, 5, 0, 0, []),
  (55, .iload_n 1, 1, 1, 0, 0, 0, []),
  (56, .iaload, 1, 0, 0, 0, 0, []),
  (57, .tableswitch 110 1 6 #[39, 42, 46, 49, 68, 91], 39, 167, 0, 0, 0, [(1, 96), (2, 99), (3, 103), (4, 106), (5, 125), (6, 148)]),
  (96, .iload 4, 2, 4, 0, 0, 0, []),
  (98, .ireturn, 1, 0, 0, 0, 0, []),
  (99, .iload_n 3, 1, 3, 0, 0, 0, []),
  (100, .iconst 2, 1, 0, 0, 0, 2, []),
  (101, .idiv, 1, 0, 0, 0, 0, []),
  (102, .ireturn, 1, 0, 0, 0, 0, []),
  (103, .iload 5, 2, 5, 0, 0, 0, []),
  (105, .ireturn, 1, 0, 0, 0, 0, []),
  (106, .aload_n 0, 1, 0, 0, 0, 0, []),
  (107, .getfield 22, 3, 12, 4, 0, 0, []),
  (110, .iconst 4, 1, 0, 0, 0, 4, []),
  (111, .irem, 1, 0, 0, 0, 0, []),
  (112, .ifCond .ne 10, 3, 122, 0, 0, 0, []),
  (115, .iload 4, 2, 4, 0, 0, 0, []),
  (117, .iconst 2, 1, 0, 0, 0, 2, []),
  (118, .iadd, 1, 0, 0, 0, 0, []),
  (119, .goto 5, 3, 124, 0, 0, 0, []),
  (122, .iload 4, 2, 4, 0, 0, 0, []),
  (124, .ireturn, 1, 0, 0, 0, 0, []),
  (125, .aload_n 0, 1, 0, 0, 0, 0, []),
  (126, .getfield 32, 3, 12, 7, 0, 0, []),
  (129, .iload_n 1, 1, 1, 0, 0, 0, []),
  (130, .iaload, 1, 0, 0, 0, 0, []),
  (131, .aload_n 0, 1, 0, 0, 0, 0, []),
  (132, .getfield 29, 3, 12, 6, 0, 0, []),
  (135, .iload_n 1, 1, 1, 0, 0, 0, []),
  (136, .iaload, 1, 0, 0, 0, 0, []),
  (137, .if_icmp .ge 7, 3, 144, 0, 0, 0, []),
  (140, .iconst 0, 1, 0, 0, 0, 0, []),
  (141, .goto 6, 3, 147, 0, 0, 0, []),
  (144, .iload_n 3, 1, 3, 0, 0, 0, []),
  (145, .iconst 2, 1, 0, 0, 0, 2, []),
  (146, .idiv, 1, 0, 0, 0, 0, []),
  (147, .ireturn, 1, 0, 0, 0, 0, []),
  (148, .iload 5, 2, 5, 0, 0, 0, []),
  (150, .aload_n 0, 1, 0, 0, 0, 0, []),
  (151, .getfield 41, 3, 12, 10, 0, 0, []),
  (154, .iconst 4, 1, 0, 0, 0, 4, []),
  (155, .iload_n 1, 1, 1, 0, 0, 0, []),
  (156, .imul, 1, 0, 0, 0, 0, []),
  (157, .aload_n 0, 1, 0, 0, 0, 0, []),
  (158, .getfield 22, 3, 12, 4, 0, 0, []),
  (161, .iconst 4, 1, 0, 0, 0, 4, []),
  (162, .irem, 1, 0, 0, 0, 0, []),
  (163, .iadd, 1, 0, 0, 0, 0, []),
  (164, .iaload, 1, 0, 0, 0, 0, []),
  (165, .iadd, 1, 0, 0, 0, 0, []),
  (166, .ireturn, 1, 0, 0, 0, 0, []),
  (167, .iload_n 3, 1, 3, 0, 0, 0, []),
  (168, .ireturn, 1, 0, 0, 0, 0, [])]
def zc_X12_dries : List (Nat × List Bool) := []
def zo_X12_dries : List z_Op := [(0, .aload_n 0, 1, 0, 0, 0, 0, []),
  (1, .aload_n 0, 1, 0, 0, 0, 0, []),
  (2, .iload_n 1, 1, 1, 0, 0, 0, []),
  (3, .iload_n 2, 1, 2, 0, 0, 0, []),
  (4, .invokevirtual 361, 3, 166, 3, 12, 1, []),
  (7, .invokevirtual 348, 3, 127, 2, 12, 1, []),
  (10, .ireturn, 1, 0, 0, 0, 0, [])]
def zc_X12_spoils : List (Nat × List Bool) := []
def zo_X12_spoils : List z_Op := [(0, .aload_n 0, 1, 0, 0, 0, 0, []),
  (1, .getfield 25, 3, 12, 5, 0, 0, []),
  (4, .iload_n 1, 1, 1, 0, 0, 0, []),
  (5, .iaload, 1, 0, 0, 0, 0, []),
  (6, .iconst 1, 1, 0, 0, 0, 1, []),
  (7, .if_icmp .ne 24, 3, 31, 0, 0, 0, []),
  (10, .aload_n 0, 1, 0, 0, 0, 0, []),
  (11, .aload_n 0, 1, 0, 0, 0, 0, []),
  (12, .getfield 35, 3, 12, 8, 0, 0, []),
  (15, .iload_n 1, 1, 1, 0, 0, 0, []),
  (16, .iaload, 1, 0, 0, 0, 0, []),
  (17, .invokevirtual 351, 3, 164, 2, 12, 1, []),
  (20, .bipush 8, 2, 0, 0, 0, 8, []),
  (22, .if_icmp .le 7, 3, 29, 0, 0, 0, []),
  (25, .iconst 1, 1, 0, 0, 0, 1, []),
  (26, .goto 4, 3, 30, 0, 0, 0, []),
  (29, .iconst 0, 1, 0, 0, 0, 0, []),
  (30, .ireturn, 1, 0, 0, 0, 0, []),
  (31, .aload_n 0, 1, 0, 0, 0, 0, []),
  (32, .getfield 25, 3, 12, 5, 0, 0, []),
  (35, .iload_n 1, 1, 1, 0, 0, 0, []),
  (36, .iaload, 1, 0, 0, 0, 0, []),
  (37, .iconst 4, 1, 0, 0, 0, 4, []),
  (38, .if_icmp .ne 29, 3, 67, 0, 0, 0, []),
  (41, .aload_n 0, 1, 0, 0, 0, 0, []),
  (42, .aload_n 0, 1, 0, 0, 0, 0, []),
  (43, .getfield 35, 3, 12, 8, 0, 0, []),
  (46, .iload_n 1, 1, 1, 0, 0, 0, []),
  (47, .iaload, 1, 0, 0, 0, 0, []),
  (48, .invokevirtual 351, 3, 164, 2, 12, 1, []),
  (51, .bipush 8, 2, 0, 0, 0, 8, []),
  (53, .aload_n 0, 1, 0, 0, 0, 0, []),
  (54, .getfield 29, 3, 12, 6, 0, 0, []),
  (57, .iload_n 1, 1, 1, 0, 0, 0, []),
  (58, .iaload, 1, 0, 0, 0, 0, []),
  (59, .iadd, 1, 0, 0, 0, 0, []),
  (60, .if_icmp .le 7, 3, 67, 0, 0, 0, []),
  (63, .iconst 1, 1, 0, 0, 0, 1, []),
  (64, .goto 4, 3, 68, 0, 0, 0, []),
  (67, .iconst 0, 1, 0, 0, 0, 0, []),
  (68, .ireturn, 1, 0, 0, 0, 0, [])]
def zc_X12_of : List (Nat × List Bool) := []
def zo_X12_of : List z_Op := [(0, .aload_n 0, 1, 0, 0, 0, 0, []),
  (1, .iload_n 1, 1, 1, 0, 0, 0, []),
  (2, .invokevirtual 276, 3, 129, 2, 12, 1, []),
  (5, .ifCond .ne 5, 3, 10, 0, 0, 0, []),
  (8, .iconst (-1), 1, 0, 0, 0, (-1), []),
  (9, .ireturn, 1, 0, 0, 0, 0, []),
  (10, .aload_n 0, 1, 0, 0, 0, 0, []),
  (11, .iload_n 2, 1, 2, 0, 0, 0, []),
  (12, .bipush 10, 2, 0, 0, 0, 10, []),
  (14, .bipush 15, 2, 0, 0, 0, 15, []),
  (16, .invokevirtual 264, 3, 124, 4, 12, 1, []),
  (19, .ifCond .eq 13, 3, 32, 0, 0, 0, []),
  (22, .aload_n 0, 1, 0, 0, 0, 0, []),
  (23, .iload_n 1, 1, 1, 0, 0, 0, []),
  (24, .iload_n 2, 1, 2, 0, 0, 0, []),
  (25, .bipush 10, 2, 0, 0, 0, 10, []),
  (27, .isub, 1, 0, 0, 0, 0, []),
  (28, .invokevirtual 364, 3, 167, 3, 12, 1, []),
  (31, .ireturn, 1, 0, 0, 0, 0, []),
  (32, .iload_n 2, 1, 2, 0, 0, 0, []),
  (33, .tableswitch 110 0 6 #[43, 50, 57, 64, 71, 89, 96], 43, 143, 0, 0, 0, [(0, 76), (1, 83), (2, 90), (3, 97), (4, 104), (5, 122), (6, 129)]),
  (76, .aload_n 0, 1, 0, 0, 0, 0, []),
  (77, .getfield 25, 3, 12, 5, 0, 0, []),
  (80, .iload_n 1, 1, 1, 0, 0, 0, []),
  (81, .iaload, 1, 0, 0, 0, 0, []),
  (82, .ireturn, 1, 0, 0, 0, 0, []),
  (83, .aload_n 0, 1, 0, 0, 0, 0, []),
  (84, .getfield 29, 3, 12, 6, 0, 0, []),
  (87, .iload_n 1, 1, 1, 0, 0, 0, []),
  (88, .iaload, 1, 0, 0, 0, 0, []),
  (89, .ireturn, 1, 0, 0, 0, 0, []),
  (90, .aload_n 0, 1, 0, 0, 0, 0, []),
  (91, .getfield 32, 3, 12, 7, 0, 0, []),
  (94, .iload_n 1, 1, 1, 0, 0, 0, []),
  (95, .iaload, 1, 0, 0, 0, 0, []),
  (96, .ireturn, 1, 0, 0, 0, 0, []),
  (97, .aload_n 0, 1, 0, 0, 0, 0, []),
  (98, .getfield 35, 3, 12, 8, 0, 0, []),
  (101, .iload_n 1, 1, 1, 0, 0, 0, []),
  (102, .iaload, 1, 0, 0, 0, 0, []),
  (103, .ireturn, 1, 0, 0, 0, 0, []),
  (104, .aload_n 0, 1, 0, 0, 0, 0, []),
  (105, .aload_n 0, 1, 0, 0, 0, 0, []),
  (106, .getfield 13, 3, 12, 1, 0, 0, []),
  (109, .iload_n 1, 1, 1, 0, 0, 0, []),
  (110, .invokevirtual 260, 3, 125, 3, 12, 1, []),
  (113, .ifCond .eq 7, 3, 120, 0, 0, 0, []),
  (116, .iconst 1, 1, 0, 0, 0, 1, []),
  (117, .goto 4, 3, 121, 0, 0, 0, []),
  (120, .iconst 0, 1, 0, 0, 0, 0, []),
  (121, .ireturn, 1, 0, 0, 0, 0, []),
  (122, .aload_n 0, 1, 0, 0, 0, 0, []),
  (123, .getfield 38, 3, 12, 9, 0, 0, []),
  (126, .iload_n 1, 1, 1, 0, 0, 0, []),
  (127, .iaload, 1, 0, 0, 0, 0, []),
  (128, .ireturn, 1, 0, 0, 0, 0, []),
  (129, .aload_n 0, 1, 0, 0, 0, 0, []),
  (130, .iload_n 1, 1, 1, 0, 0, 0, []),
  (131, .invokevirtual 367, 3, 168, 2, 12, 1, []),
  (134, .ifCond .eq 7, 3, 141, 0, 0, 0, []),
  (137, .iconst 1, 1, 0, 0, 0, 1, []),
  (138, .goto 4, 3, 142, 0, 0, 0, []),
  (141, .iconst 0, 1, 0, 0, 0, 0, []),
  (142, .ireturn, 1, 0, 0, 0, 0, []),
  (143, .iconst (-1), 1, 0, 0, 0, (-1), []),
  (144, .ireturn, 1, 0, 0, 0, 0, [])]
def zc_X12_wetHere : List (Nat × List Bool) := [(4, [true, true, true])]
def zo_X12_wetHere : List z_Op := [(0, .iconst 0, 1, 0, 0, 0, 0, []),
  (1, .istore_n 1, 1, 1, 0, 0, 0, []),
  (2, .iconst 0, 1, 0, 0, 0, 0, []),
  (3, .istore_n 2, 1, 2, 0, 0, 0, []),
  (4, .iload_n 2, 1, 2, 0, 0, 0, []),
  (5, .aload_n 0, 1, 0, 0, 0, 0, []),
  (6, .getfield 7, 3, 12, 0, 0, 0, []),
  (9, .if_icmp .ge 34, 3, 43, 0, 0, 0, []),
  (12, .iload_n 1, 1, 1, 0, 0, 0, []),
  (13, .aload_n 0, 1, 0, 0, 0, 0, []),
  (14, .aload_n 0, 1, 0, 0, 0, 0, []),
  (15, .getfield 13, 3, 12, 1, 0, 0, []),
  (18, .iload_n 2, 1, 2, 0, 0, 0, []),
  (19, .invokevirtual 260, 3, 125, 3, 12, 1, []),
  (22, .ifCond .eq 7, 3, 29, 0, 0, 0, []),
  (25, .iconst 0, 1, 0, 0, 0, 0, []),
  (26, .goto 9, 3, 35, 0, 0, 0, []),
  (29, .aload_n 0, 1, 0, 0, 0, 0, []),
  (30, .getfield 32, 3, 12, 7, 0, 0, []),
  (33, .iload_n 2, 1, 2, 0, 0, 0, []),
  (34, .iaload, 1, 0, 0, 0, 0, []),
  (35, .iadd, 1, 0, 0, 0, 0, []),
  (36, .istore_n 1, 1, 1, 0, 0, 0, []),
  (37, .iinc 2 1, 3, 2, 0, 0, 1, []),
  (40, .goto (-36), 3, 4, 0, 0, 0, []),
  (43, .iload_n 1, 1, 1, 0, 0, 0, []),
  (44, .ireturn, 1, 0, 0, 0, 0, [])]
def zc_X12_wetAll : List (Nat × List Bool) := [(4, [true, true, true])]
def zo_X12_wetAll : List z_Op := [(0, .iconst 0, 1, 0, 0, 0, 0, []),
  (1, .istore_n 1, 1, 1, 0, 0, 0, []),
  (2, .iconst 0, 1, 0, 0, 0, 0, []),
  (3, .istore_n 2, 1, 2, 0, 0, 0, []),
  (4, .iload_n 2, 1, 2, 0, 0, 0, []),
  (5, .aload_n 0, 1, 0, 0, 0, 0, []),
  (6, .getfield 7, 3, 12, 0, 0, 0, []),
  (9, .if_icmp .ge 18, 3, 27, 0, 0, 0, []),
  (12, .iload_n 1, 1, 1, 0, 0, 0, []),
  (13, .aload_n 0, 1, 0, 0, 0, 0, []),
  (14, .getfield 32, 3, 12, 7, 0, 0, []),
  (17, .iload_n 2, 1, 2, 0, 0, 0, []),
  (18, .iaload, 1, 0, 0, 0, 0, []),
  (19, .iadd, 1, 0, 0, 0, 0, []),
  (20, .istore_n 1, 1, 1, 0, 0, 0, []),
  (21, .iinc 2 1, 3, 2, 0, 0, 1, []),
  (24, .goto (-20), 3, 4, 0, 0, 0, []),
  (27, .iload_n 1, 1, 1, 0, 0, 0, []),
  (28, .ireturn, 1, 0, 0, 0, 0, [])]
def zc_X12_allCracks : List (Nat × List Bool) := [(4, [true, true, true])]
def zo_X12_allCracks : List z_Op := [(0, .iconst 0, 1, 0, 0, 0, 0, []),
  (1, .istore_n 1, 1, 1, 0, 0, 0, []),
  (2, .iconst 0, 1, 0, 0, 0, 0, []),
  (3, .istore_n 2, 1, 2, 0, 0, 0, []),
  (4, .iload_n 2, 1, 2, 0, 0, 0, []),
  (5, .aload_n 0, 1, 0, 0, 0, 0, []),
  (6, .getfield 7, 3, 12, 0, 0, 0, []),
  (9, .if_icmp .ge 18, 3, 27, 0, 0, 0, []),
  (12, .iload_n 1, 1, 1, 0, 0, 0, []),
  (13, .aload_n 0, 1, 0, 0, 0, 0, []),
  (14, .getfield 38, 3, 12, 9, 0, 0, []),
  (17, .iload_n 2, 1, 2, 0, 0, 0, []),
  (18, .iaload, 1, 0, 0, 0, 0, []),
  (19, .iadd, 1, 0, 0, 0, 0, []),
  (20, .istore_n 1, 1, 1, 0, 0, 0, []),
  (21, .iinc 2 1, 3, 2, 0, 0, 1, []),
  (24, .goto (-20), 3, 4, 0, 0, 0, []),
  (27, .iload_n 1, 1, 1, 0, 0, 0, []),
  (28, .ireturn, 1, 0, 0, 0, 0, [])]
def zc_X12_drySet : List (Nat × List Bool) := [(4, [true, true, true])]
def zo_X12_drySet : List z_Op := [(0, .iconst 0, 1, 0, 0, 0, 0, []),
  (1, .istore_n 1, 1, 1, 0, 0, 0, []),
  (2, .iconst 0, 1, 0, 0, 0, 0, []),
  (3, .istore_n 2, 1, 2, 0, 0, 0, []),
  (4, .iload_n 2, 1, 2, 0, 0, 0, []),
  (5, .aload_n 0, 1, 0, 0, 0, 0, []),
  (6, .getfield 7, 3, 12, 0, 0, 0, []),
  (9, .if_icmp .ge 28, 3, 37, 0, 0, 0, []),
  (12, .iload_n 1, 1, 1, 0, 0, 0, []),
  (13, .aload_n 0, 1, 0, 0, 0, 0, []),
  (14, .getfield 32, 3, 12, 7, 0, 0, []),
  (17, .iload_n 2, 1, 2, 0, 0, 0, []),
  (18, .iaload, 1, 0, 0, 0, 0, []),
  (19, .ifCond .ne 9, 3, 28, 0, 0, 0, []),
  (22, .iconst 1, 1, 0, 0, 0, 1, []),
  (23, .iload_n 2, 1, 2, 0, 0, 0, []),
  (24, .ishl, 1, 0, 0, 0, 0, []),
  (25, .goto 4, 3, 29, 0, 0, 0, []),
  (28, .iconst 0, 1, 0, 0, 0, 0, []),
  (29, .ior, 1, 0, 0, 0, 0, []),
  (30, .istore_n 1, 1, 1, 0, 0, 0, []),
  (31, .iinc 2 1, 3, 2, 0, 0, 1, []),
  (34, .goto (-30), 3, 4, 0, 0, 0, []),
  (37, .iload_n 1, 1, 1, 0, 0, 0, []),
  (38, .ireturn, 1, 0, 0, 0, 0, [])]
def zc_X12_told : List (Nat × List Bool) := []
def zo_X12_told : List z_Op := [(0, .aload_n 0, 1, 0, 0, 0, 0, []),
  (1, .iload_n 1, 1, 1, 0, 0, 0, []),
  (2, .bipush 10, 2, 0, 0, 0, 10, []),
  (4, .bipush 15, 2, 0, 0, 0, 15, []),
  (6, .invokevirtual 264, 3, 124, 4, 12, 1, []),
  (9, .ifCond .eq 12, 3, 21, 0, 0, 0, []),
  (12, .aload_n 0, 1, 0, 0, 0, 0, []),
  (13, .iload_n 1, 1, 1, 0, 0, 0, []),
  (14, .bipush 10, 2, 0, 0, 0, 10, []),
  (16, .isub, 1, 0, 0, 0, 0, []),
  (17, .invokevirtual 351, 3, 164, 2, 12, 1, []),
  (20, .ireturn, 1, 0, 0, 0, 0, []),
  (21, .aload_n 0, 1, 0, 0, 0, 0, []),
  (22, .iload_n 1, 1, 1, 0, 0, 0, []),
  (23, .bipush 20, 2, 0, 0, 0, 20, []),
  (25, .bipush 25, 2, 0, 0, 0, 25, []),
  (27, .invokevirtual 264, 3, 124, 4, 12, 1, []),
  (30, .ifCond .eq 12, 3, 42, 0, 0, 0, []),
  (33, .aload_n 0, 1, 0, 0, 0, 0, []),
  (34, .iload_n 1, 1, 1, 0, 0, 0, []),
  (35, .bipush 20, 2, 0, 0, 0, 20, []),
  (37, .isub, 1, 0, 0, 0, 0, []),
  (38, .invokevirtual 272, 3, 133, 2, 12, 1, []),
  (41, .ireturn, 1, 0, 0, 0, 0, []),
  (42, .iload_n 1, 1, 1, 0, 0, 0, []),
  (43, .tableswitch 90 0 7 #[45, 50, 55, 60, 67, 75, 80, 85], 45, 133, 0, 0, 0, [(0, 88), (1, 93), (2, 98), (3, 103), (4, 110), (5, 118), (6, 123), (7, 128)]),
  (88, .aload_n 0, 1, 0, 0, 0, 0, []),
  (89, .getfield 22, 3, 12, 4, 0, 0, []),
  (92, .ireturn, 1, 0, 0, 0, 0, []),
  (93, .aload_n 0, 1, 0, 0, 0, 0, []),
  (94, .getfield 16, 3, 12, 2, 0, 0, []),
  (97, .ireturn, 1, 0, 0, 0, 0, []),
  (98, .aload_n 0, 1, 0, 0, 0, 0, []),
  (99, .getfield 19, 3, 12, 3, 0, 0, []),
  (102, .ireturn, 1, 0, 0, 0, 0, []),
  (103, .aload_n 0, 1, 0, 0, 0, 0, []),
  (104, .iconst 2, 1, 0, 0, 0, 2, []),
  (105, .iconst 1, 1, 0, 0, 0, 1, []),
  (106, .invokevirtual 370, 3, 161, 3, 12, 1, []),
  (109, .ireturn, 1, 0, 0, 0, 0, []),
  (110, .aload_n 0, 1, 0, 0, 0, 0, []),
  (111, .iconst 3, 1, 0, 0, 0, 3, []),
  (112, .bipush 6, 2, 0, 0, 0, 6, []),
  (114, .invokevirtual 370, 3, 161, 3, 12, 1, []),
  (117, .ireturn, 1, 0, 0, 0, 0, []),
  (118, .aload_n 0, 1, 0, 0, 0, 0, []),
  (119, .invokevirtual 373, 3, 170, 1, 12, 1, []),
  (122, .ireturn, 1, 0, 0, 0, 0, []),
  (123, .aload_n 0, 1, 0, 0, 0, 0, []),
  (124, .invokevirtual 376, 3, 172, 1, 12, 1, []),
  (127, .ireturn, 1, 0, 0, 0, 0, []),
  (128, .aload_n 0, 1, 0, 0, 0, 0, []),
  (129, .invokevirtual 379, 3, 173, 1, 12, 1, []),
  (132, .ireturn, 1, 0, 0, 0, 0, []),
  (133, .iconst (-1), 1, 0, 0, 0, (-1), []),
  (134, .ireturn, 1, 0, 0, 0, 0, [])]
def zc_X12_goHour : List (Nat × List Bool) := [(2, [true, true, false])]
def zo_X12_goHour : List z_Op := [(0, .iconst 0, 1, 0, 0, 0, 0, []),
  (1, .istore_n 1, 1, 1, 0, 0, 0, []),
  (2, .iload_n 1, 1, 1, 0, 0, 0, []),
  (3, .aload_n 0, 1, 0, 0, 0, 0, []),
  (4, .getfield 7, 3, 12, 0, 0, 0, []),
  (7, .if_icmp .ge 93, 3, 100, 0, 0, 0, []),
  (10, .aload_n 0, 1, 0, 0, 0, 0, []),
  (11, .aload_n 0, 1, 0, 0, 0, 0, []),
  (12, .getfield 13, 3, 12, 1, 0, 0, []),
  (15, .iload_n 1, 1, 1, 0, 0, 0, []),
  (16, .invokevirtual 260, 3, 125, 3, 12, 1, []),
  (19, .ifCond .eq 6, 3, 25, 0, 0, 0, []),
  (22, .goto 72, 3, 94, 0, 0, 0, []),
  (25, .aload_n 0, 1, 0, 0, 0, 0, []),
  (26, .iload_n 1, 1, 1, 0, 0, 0, []),
  (27, .aload_n 0, 1, 0, 0, 0, 0, []),
  (28, .getfield 35, 3, 12, 8, 0, 0, []),
  (31, .iload_n 1, 1, 1, 0, 0, 0, []),
  (32, .iaload, 1, 0, 0, 0, 0, []),
  (33, .invokevirtual 364, 3, 167, 3, 12, 1, []),
  (36, .istore_n 2, 1, 2, 0, 0, 0, []),
  (37, .aload_n 0, 1, 0, 0, 0, 0, []),
  (38, .getfield 38, 3, 12, 9, 0, 0, []),
  (41, .iload_n 1, 1, 1, 0, 0, 0, []),
  (42, .aload_n 0, 1, 0, 0, 0, 0, []),
  (43, .iload_n 1, 1, 1, 0, 0, 0, []),
  (44, .invokevirtual 367, 3, 168, 2, 12, 1, []),
  (47, .ifCond .eq 22, 3, 69, 0, 0, 0, []),
  (50, .aload_n 0, 1, 0, 0, 0, 0, []),
  (51, .aload_n 0, 1, 0, 0, 0, 0, []),
  (52, .getfield 38, 3, 12, 9, 0, 0, []),
  (55, .iload_n 1, 1, 1, 0, 0, 0, []),
  (56, .iaload, 1, 0, 0, 0, 0, []),
  (57, .iconst 1, 1, 0, 0, 0, 1, []),
  (58, .iadd, 1, 0, 0, 0, 0, []),
  (59, .aload_n 0, 1, 0, 0, 0, 0, []),
  (60, .getfield 99, 3, 12, 29, 0, 0, []),
  (63, .invokevirtual 382, 3, 126, 3, 12, 1, []),
  (66, .goto 9, 3, 75, 0, 0, 0, []),
  (69, .aload_n 0, 1, 0, 0, 0, 0, []),
  (70, .getfield 38, 3, 12, 9, 0, 0, []),
  (73, .iload_n 1, 1, 1, 0, 0, 0, []),
  (74, .iaload, 1, 0, 0, 0, 0, []),
  (75, .iastore, 1, 0, 0, 0, 0, []),
  (76, .aload_n 0, 1, 0, 0, 0, 0, []),
  (77, .getfield 32, 3, 12, 7, 0, 0, []),
  (80, .iload_n 1, 1, 1, 0, 0, 0, []),
  (81, .aload_n 0, 1, 0, 0, 0, 0, []),
  (82, .aload_n 0, 1, 0, 0, 0, 0, []),
  (83, .getfield 32, 3, 12, 7, 0, 0, []),
  (86, .iload_n 1, 1, 1, 0, 0, 0, []),
  (87, .iaload, 1, 0, 0, 0, 0, []),
  (88, .iload_n 2, 1, 2, 0, 0, 0, []),
  (89, .isub, 1, 0, 0, 0, 0, []),
  (90, .invokevirtual 348, 3, 127, 2, 12, 1, []),
  (93, .iastore, 1, 0, 0, 0, 0, []),
  (94, .iinc 1 1, 3, 1, 0, 0, 1, []),
  (97, .goto (-95), 3, 2, 0, 0, 0, []),
  (100, .aload_n 0, 1, 0, 0, 0, 0, []),
  (101, .aload_n 0, 1, 0, 0, 0, 0, []),
  (102, .aload_n 0, 1, 0, 0, 0, 0, []),
  (103, .getfield 16, 3, 12, 2, 0, 0, []),
  (106, .aload_n 0, 1, 0, 0, 0, 0, []),
  (107, .iconst 2, 1, 0, 0, 0, 2, []),
  (108, .iconst 1, 1, 0, 0, 0, 1, []),
  (109, .invokevirtual 370, 3, 161, 3, 12, 1, []),
  (112, .isub, 1, 0, 0, 0, 0, []),
  (113, .invokevirtual 348, 3, 127, 2, 12, 1, []),
  (116, .putfield 16, 3, 12, 2, 0, 0, []),
  (119, .aload_n 0, 1, 0, 0, 0, 0, []),
  (120, .dup, 1, 0, 0, 0, 0, []),
  (121, .getfield 22, 3, 12, 4, 0, 0, []),
  (124, .iconst 1, 1, 0, 0, 0, 1, []),
  (125, .iadd, 1, 0, 0, 0, 0, []),
  (126, .putfield 22, 3, 12, 4, 0, 0, []),
  (129, .return_, 1, 0, 0, 0, 0, [])]
def zc_X12_goHours : List (Nat × List Bool) := [(2, [true, true, true])]
def zo_X12_goHours : List z_Op := [(0, .iconst 0, 1, 0, 0, 0, 0, []),
  (1, .istore_n 2, 1, 2, 0, 0, 0, []),
  (2, .iload_n 2, 1, 2, 0, 0, 0, []),
  (3, .iload_n 1, 1, 1, 0, 0, 0, []),
  (4, .if_icmp .ge 13, 3, 17, 0, 0, 0, []),
  (7, .aload_n 0, 1, 0, 0, 0, 0, []),
  (8, .invokevirtual 385, 3, 175, 1, 12, 0, []),
  (11, .iinc 2 1, 3, 2, 0, 0, 1, []),
  (14, .goto (-12), 3, 2, 0, 0, 0, []),
  (17, .return_, 1, 0, 0, 0, 0, [])]
def zc_X12_stokes : List (Nat × List Bool) := []
def zo_X12_stokes : List z_Op := [(0, .aload_n 0, 1, 0, 0, 0, 0, []),
  (1, .dup, 1, 0, 0, 0, 0, []),
  (2, .getfield 19, 3, 12, 3, 0, 0, []),
  (5, .iconst 1, 1, 0, 0, 0, 1, []),
  (6, .isub, 1, 0, 0, 0, 0, []),
  (7, .putfield 19, 3, 12, 3, 0, 0, []),
  (10, .aload_n 0, 1, 0, 0, 0, 0, []),
  (11, .aload_n 0, 1, 0, 0, 0, 0, []),
  (12, .bipush 30, 2, 0, 0, 0, 30, []),
  (14, .aload_n 0, 1, 0, 0, 0, 0, []),
  (15, .getfield 16, 3, 12, 2, 0, 0, []),
  (18, .aload_n 0, 1, 0, 0, 0, 0, []),
  (19, .iconst 3, 1, 0, 0, 0, 3, []),
  (20, .bipush 6, 2, 0, 0, 0, 6, []),
  (22, .invokevirtual 370, 3, 161, 3, 12, 1, []),
  (25, .iadd, 1, 0, 0, 0, 0, []),
  (26, .invokevirtual 382, 3, 126, 3, 12, 1, []),
  (29, .putfield 16, 3, 12, 2, 0, 0, []),
  (32, .return_, 1, 0, 0, 0, 0, [])]
def zc_X12_stoke : List (Nat × List Bool) := []
def zo_X12_stoke : List z_Op := [(0, .aload_n 0, 1, 0, 0, 0, 0, []),
  (1, .getfield 19, 3, 12, 3, 0, 0, []),
  (4, .ifCond .ne 6, 3, 10, 0, 0, 0, []),
  (7, .bipush (-3), 2, 0, 0, 0, (-3), []),
  (9, .ireturn, 1, 0, 0, 0, 0, []),
  (10, .aload_n 0, 1, 0, 0, 0, 0, []),
  (11, .invokevirtual 388, 3, 177, 1, 12, 0, []),
  (14, .aload_n 0, 1, 0, 0, 0, 0, []),
  (15, .getfield 16, 3, 12, 2, 0, 0, []),
  (18, .ireturn, 1, 0, 0, 0, 0, [])]
def zc_X12_pass : List (Nat × List Bool) := []
def zo_X12_pass : List z_Op := [(0, .aload_n 0, 1, 0, 0, 0, 0, []),
  (1, .iload_n 1, 1, 1, 0, 0, 0, []),
  (2, .invokevirtual 391, 3, 132, 2, 12, 1, []),
  (5, .ifCond .ne 6, 3, 11, 0, 0, 0, []),
  (8, .bipush (-2), 2, 0, 0, 0, (-2), []),
  (10, .ireturn, 1, 0, 0, 0, 0, []),
  (11, .aload_n 0, 1, 0, 0, 0, 0, []),
  (12, .getfield 22, 3, 12, 4, 0, 0, []),
  (15, .iload_n 1, 1, 1, 0, 0, 0, []),
  (16, .iadd, 1, 0, 0, 0, 0, []),
  (17, .sipush 9999, 3, 0, 0, 0, 9999, []),
  (20, .if_icmp .le 6, 3, 26, 0, 0, 0, []),
  (23, .bipush (-3), 2, 0, 0, 0, (-3), []),
  (25, .ireturn, 1, 0, 0, 0, 0, []),
  (26, .aload_n 0, 1, 0, 0, 0, 0, []),
  (27, .iload_n 1, 1, 1, 0, 0, 0, []),
  (28, .invokevirtual 394, 3, 176, 2, 12, 0, []),
  (31, .aload_n 0, 1, 0, 0, 0, 0, []),
  (32, .getfield 22, 3, 12, 4, 0, 0, []),
  (35, .ireturn, 1, 0, 0, 0, 0, [])]
def zc_X12_save : List (Nat × List Bool) := [(41, [true, true])]
def zo_X12_save : List z_Op := [(0, .aload_n 0, 1, 0, 0, 0, 0, []),
  (1, .ldc_w 397, 3, 0, 0, 0, 2000000000, []),
  (4, .putfield 99, 3, 12, 29, 0, 0, []),
  (7, .aload_n 0, 1, 0, 0, 0, 0, []),
  (8, .aload_n 0, 1, 0, 0, 0, 0, []),
  (9, .getfield 13, 3, 12, 1, 0, 0, []),
  (12, .putfield 102, 3, 12, 30, 0, 0, []),
  (15, .aload_n 0, 1, 0, 0, 0, 0, []),
  (16, .aload_n 0, 1, 0, 0, 0, 0, []),
  (17, .getfield 16, 3, 12, 2, 0, 0, []),
  (20, .putfield 105, 3, 12, 31, 0, 0, []),
  (23, .aload_n 0, 1, 0, 0, 0, 0, []),
  (24, .aload_n 0, 1, 0, 0, 0, 0, []),
  (25, .getfield 19, 3, 12, 3, 0, 0, []),
  (28, .putfield 108, 3, 12, 32, 0, 0, []),
  (31, .aload_n 0, 1, 0, 0, 0, 0, []),
  (32, .aload_n 0, 1, 0, 0, 0, 0, []),
  (33, .getfield 22, 3, 12, 4, 0, 0, []),
  (36, .putfield 111, 3, 12, 33, 0, 0, []),
  (39, .iconst 0, 1, 0, 0, 0, 0, []),
  (40, .istore_n 1, 1, 1, 0, 0, 0, []),
  (41, .iload_n 1, 1, 1, 0, 0, 0, []),
  (42, .bipush 6, 2, 0, 0, 0, 6, []),
  (44, .if_icmp .ge 45, 3, 89, 0, 0, 0, []),
  (47, .aload_n 0, 1, 0, 0, 0, 0, []),
  (48, .getfield 114, 3, 12, 34, 0, 0, []),
  (51, .iload_n 1, 1, 1, 0, 0, 0, []),
  (52, .aload_n 0, 1, 0, 0, 0, 0, []),
  (53, .getfield 32, 3, 12, 7, 0, 0, []),
  (56, .iload_n 1, 1, 1, 0, 0, 0, []),
  (57, .iaload, 1, 0, 0, 0, 0, []),
  (58, .iastore, 1, 0, 0, 0, 0, []),
  (59, .aload_n 0, 1, 0, 0, 0, 0, []),
  (60, .getfield 117, 3, 12, 35, 0, 0, []),
  (63, .iload_n 1, 1, 1, 0, 0, 0, []),
  (64, .aload_n 0, 1, 0, 0, 0, 0, []),
  (65, .getfield 35, 3, 12, 8, 0, 0, []),
  (68, .iload_n 1, 1, 1, 0, 0, 0, []),
  (69, .iaload, 1, 0, 0, 0, 0, []),
  (70, .iastore, 1, 0, 0, 0, 0, []),
  (71, .aload_n 0, 1, 0, 0, 0, 0, []),
  (72, .getfield 120, 3, 12, 36, 0, 0, []),
  (75, .iload_n 1, 1, 1, 0, 0, 0, []),
  (76, .aload_n 0, 1, 0, 0, 0, 0, []),
  (77, .getfield 38, 3, 12, 9, 0, 0, []),
  (80, .iload_n 1, 1, 1, 0, 0, 0, []),
  (81, .iaload, 1, 0, 0, 0, 0, []),
  (82, .iastore, 1, 0, 0, 0, 0, []),
  (83, .iinc 1 1, 3, 1, 0, 0, 1, []),
  (86, .goto (-45), 3, 41, 0, 0, 0, []),
  (89, .return_, 1, 0, 0, 0, 0, [])]
def zc_X12_putBack : List (Nat × List Bool) := [(41, [true, true])]
def zo_X12_putBack : List z_Op := [(0, .aload_n 0, 1, 0, 0, 0, 0, []),
  (1, .sipush 9999, 3, 0, 0, 0, 9999, []),
  (4, .putfield 99, 3, 12, 29, 0, 0, []),
  (7, .aload_n 0, 1, 0, 0, 0, 0, []),
  (8, .aload_n 0, 1, 0, 0, 0, 0, []),
  (9, .getfield 102, 3, 12, 30, 0, 0, []),
  (12, .putfield 13, 3, 12, 1, 0, 0, []),
  (15, .aload_n 0, 1, 0, 0, 0, 0, []),
  (16, .aload_n 0, 1, 0, 0, 0, 0, []),
  (17, .getfield 105, 3, 12, 31, 0, 0, []),
  (20, .putfield 16, 3, 12, 2, 0, 0, []),
  (23, .aload_n 0, 1, 0, 0, 0, 0, []),
  (24, .aload_n 0, 1, 0, 0, 0, 0, []),
  (25, .getfield 108, 3, 12, 32, 0, 0, []),
  (28, .putfield 19, 3, 12, 3, 0, 0, []),
  (31, .aload_n 0, 1, 0, 0, 0, 0, []),
  (32, .aload_n 0, 1, 0, 0, 0, 0, []),
  (33, .getfield 111, 3, 12, 33, 0, 0, []),
  (36, .putfield 22, 3, 12, 4, 0, 0, []),
  (39, .iconst 0, 1, 0, 0, 0, 0, []),
  (40, .istore_n 1, 1, 1, 0, 0, 0, []),
  (41, .iload_n 1, 1, 1, 0, 0, 0, []),
  (42, .bipush 6, 2, 0, 0, 0, 6, []),
  (44, .if_icmp .ge 45, 3, 89, 0, 0, 0, []),
  (47, .aload_n 0, 1, 0, 0, 0, 0, []),
  (48, .getfield 32, 3, 12, 7, 0, 0, []),
  (51, .iload_n 1, 1, 1, 0, 0, 0, []),
  (52, .aload_n 0, 1, 0, 0, 0, 0, []),
  (53, .getfield 114, 3, 12, 34, 0, 0, []),
  (56, .iload_n 1, 1, 1, 0, 0, 0, []),
  (57, .iaload, 1, 0, 0, 0, 0, []),
  (58, .iastore, 1, 0, 0, 0, 0, []),
  (59, .aload_n 0, 1, 0, 0, 0, 0, []),
  (60, .getfield 35, 3, 12, 8, 0, 0, []),
  (63, .iload_n 1, 1, 1, 0, 0, 0, []),
  (64, .aload_n 0, 1, 0, 0, 0, 0, []),
  (65, .getfield 117, 3, 12, 35, 0, 0, []),
  (68, .iload_n 1, 1, 1, 0, 0, 0, []),
  (69, .iaload, 1, 0, 0, 0, 0, []),
  (70, .iastore, 1, 0, 0, 0, 0, []),
  (71, .aload_n 0, 1, 0, 0, 0, 0, []),
  (72, .getfield 38, 3, 12, 9, 0, 0, []),
  (75, .iload_n 1, 1, 1, 0, 0, 0, []),
  (76, .aload_n 0, 1, 0, 0, 0, 0, []),
  (77, .getfield 120, 3, 12, 36, 0, 0, []),
  (80, .iload_n 1, 1, 1, 0, 0, 0, []),
  (81, .iaload, 1, 0, 0, 0, 0, []),
  (82, .iastore, 1, 0, 0, 0, 0, []),
  (83, .iinc 1 1, 3, 1, 0, 0, 1, []),
  (86, .goto (-45), 3, 41, 0, 0, 0, []),
  (89, .return_, 1, 0, 0, 0, 0, [])]
def zc_X12_on : List (Nat × List Bool) := []
def zo_X12_on : List z_Op := [(0, .aload_n 0, 1, 0, 0, 0, 0, []),
  (1, .iload_n 2, 1, 2, 0, 0, 0, []),
  (2, .iconst 0, 1, 0, 0, 0, 0, []),
  (3, .iconst 2, 1, 0, 0, 0, 2, []),
  (4, .invokevirtual 264, 3, 124, 4, 12, 1, []),
  (7, .ifCond .ne 22, 3, 29, 0, 0, 0, []),
  (10, .aload_n 0, 1, 0, 0, 0, 0, []),
  (11, .iload_n 2, 1, 2, 0, 0, 0, []),
  (12, .bipush 10, 2, 0, 0, 0, 10, []),
  (14, .bipush 9, 2, 0, 0, 0, 9, []),
  (16, .aload_n 0, 1, 0, 0, 0, 0, []),
  (17, .getfield 7, 3, 12, 0, 0, 0, []),
  (20, .iadd, 1, 0, 0, 0, 0, []),
  (21, .invokevirtual 264, 3, 124, 4, 12, 1, []),
  (24, .ifCond .ne 5, 3, 29, 0, 0, 0, []),
  (27, .iconst (-1), 1, 0, 0, 0, (-1), []),
  (28, .ireturn, 1, 0, 0, 0, 0, []),
  (29, .aload_n 0, 1, 0, 0, 0, 0, []),
  (30, .iload_n 1, 1, 1, 0, 0, 0, []),
  (31, .invokevirtual 391, 3, 132, 2, 12, 1, []),
  (34, .ifCond .ne 6, 3, 40, 0, 0, 0, []),
  (37, .bipush (-2), 2, 0, 0, 0, (-2), []),
  (39, .ireturn, 1, 0, 0, 0, 0, []),
  (40, .aload_n 0, 1, 0, 0, 0, 0, []),
  (41, .invokevirtual 398, 3, 180, 1, 12, 0, []),
  (44, .aload_n 0, 1, 0, 0, 0, 0, []),
  (45, .iload_n 1, 1, 1, 0, 0, 0, []),
  (46, .invokevirtual 394, 3, 176, 2, 12, 0, []),
  (49, .iload_n 2, 1, 2, 0, 0, 0, []),
  (50, .ifCond .ne 10, 3, 60, 0, 0, 0, []),
  (53, .aload_n 0, 1, 0, 0, 0, 0, []),
  (54, .invokevirtual 373, 3, 170, 1, 12, 1, []),
  (57, .goto 36, 3, 93, 0, 0, 0, []),
  (60, .iload_n 2, 1, 2, 0, 0, 0, []),
  (61, .iconst 1, 1, 0, 0, 0, 1, []),
  (62, .if_icmp .ne 10, 3, 72, 0, 0, 0, []),
  (65, .aload_n 0, 1, 0, 0, 0, 0, []),
  (66, .getfield 16, 3, 12, 2, 0, 0, []),
  (69, .goto 24, 3, 93, 0, 0, 0, []),
  (72, .iload_n 2, 1, 2, 0, 0, 0, []),
  (73, .iconst 2, 1, 0, 0, 0, 2, []),
  (74, .if_icmp .ne 10, 3, 84, 0, 0, 0, []),
  (77, .aload_n 0, 1, 0, 0, 0, 0, []),
  (78, .invokevirtual 376, 3, 172, 1, 12, 1, []),
  (81, .goto 12, 3, 93, 0, 0, 0, []),
  (84, .aload_n 0, 1, 0, 0, 0, 0, []),
  (85, .getfield 32, 3, 12, 7, 0, 0, []),
  (88, .iload_n 2, 1, 2, 0, 0, 0, []),
  (89, .bipush 10, 2, 0, 0, 0, 10, []),
  (91, .isub, 1, 0, 0, 0, 0, []),
  (92, .iaload, 1, 0, 0, 0, 0, []),
  (93, .istore_n 3, 1, 3, 0, 0, 0, []),
  (94, .aload_n 0, 1, 0, 0, 0, 0, []),
  (95, .invokevirtual 401, 3, 181, 1, 12, 0, []),
  (98, .iload_n 3, 1, 3, 0, 0, 0, []),
  (99, .ireturn, 1, 0, 0, 0, 0, [])]
def zc_X12_done : List (Nat × List Bool) := [(16, [true, true, true])]
def zo_X12_done : List z_Op := [(0, .aload_n 0, 1, 0, 0, 0, 0, []),
  (1, .iload_n 1, 1, 1, 0, 0, 0, []),
  (2, .invokevirtual 276, 3, 129, 2, 12, 1, []),
  (5, .ifCond .ne 5, 3, 10, 0, 0, 0, []),
  (8, .iconst (-1), 1, 0, 0, 0, (-1), []),
  (9, .ireturn, 1, 0, 0, 0, 0, []),
  (10, .aload_n 0, 1, 0, 0, 0, 0, []),
  (11, .invokevirtual 398, 3, 180, 1, 12, 0, []),
  (14, .iconst 0, 1, 0, 0, 0, 0, []),
  (15, .istore_n 2, 1, 2, 0, 0, 0, []),
  (16, .iload_n 2, 1, 2, 0, 0, 0, []),
  (17, .bipush 61, 2, 0, 0, 0, 61, []),
  (19, .if_icmp .ge 22, 3, 41, 0, 0, 0, []),
  (22, .aload_n 0, 1, 0, 0, 0, 0, []),
  (23, .getfield 32, 3, 12, 7, 0, 0, []),
  (26, .iload_n 1, 1, 1, 0, 0, 0, []),
  (27, .iaload, 1, 0, 0, 0, 0, []),
  (28, .ifCond .le 13, 3, 41, 0, 0, 0, []),
  (31, .aload_n 0, 1, 0, 0, 0, 0, []),
  (32, .invokevirtual 385, 3, 175, 1, 12, 0, []),
  (35, .iinc 2 1, 3, 2, 0, 0, 1, []),
  (38, .goto (-22), 3, 16, 0, 0, 0, []),
  (41, .aload_n 0, 1, 0, 0, 0, 0, []),
  (42, .invokevirtual 401, 3, 181, 1, 12, 0, []),
  (45, .iload_n 2, 1, 2, 0, 0, 0, []),
  (46, .bipush 61, 2, 0, 0, 0, 61, []),
  (48, .if_icmp .ge 7, 3, 55, 0, 0, 0, []),
  (51, .iload_n 2, 1, 2, 0, 0, 0, []),
  (52, .goto 5, 3, 57, 0, 0, 0, []),
  (55, .bipush (-5), 2, 0, 0, 0, (-5), []),
  (57, .ireturn, 1, 0, 0, 0, 0, [])]
def zc_X12_night : List (Nat × List Bool) := []
def zo_X12_night : List z_Op := [(0, .aload_n 0, 1, 0, 0, 0, 0, []),
  (1, .iload_n 1, 1, 1, 0, 0, 0, []),
  (2, .iconst 0, 1, 0, 0, 0, 0, []),
  (3, .bipush 12, 2, 0, 0, 0, 12, []),
  (5, .invokevirtual 264, 3, 124, 4, 12, 1, []),
  (8, .ifCond .ne 6, 3, 14, 0, 0, 0, []),
  (11, .bipush (-2), 2, 0, 0, 0, (-2), []),
  (13, .ireturn, 1, 0, 0, 0, 0, []),
  (14, .aload_n 0, 1, 0, 0, 0, 0, []),
  (15, .invokevirtual 398, 3, 180, 1, 12, 0, []),
  (18, .aload_n 0, 1, 0, 0, 0, 0, []),
  (19, .iload_n 1, 1, 1, 0, 0, 0, []),
  (20, .invokevirtual 394, 3, 176, 2, 12, 0, []),
  (23, .aload_n 0, 1, 0, 0, 0, 0, []),
  (24, .aload_n 0, 1, 0, 0, 0, 0, []),
  (25, .invokevirtual 379, 3, 173, 1, 12, 1, []),
  (28, .aload_n 0, 1, 0, 0, 0, 0, []),
  (29, .getfield 13, 3, 12, 1, 0, 0, []),
  (32, .iconst (-1), 1, 0, 0, 0, (-1), []),
  (33, .ixor, 1, 0, 0, 0, 0, []),
  (34, .iand, 1, 0, 0, 0, 0, []),
  (35, .invokevirtual 404, 3, 128, 2, 12, 1, []),
  (38, .istore_n 2, 1, 2, 0, 0, 0, []),
  (39, .aload_n 0, 1, 0, 0, 0, 0, []),
  (40, .invokevirtual 401, 3, 181, 1, 12, 0, []),
  (43, .iload_n 2, 1, 2, 0, 0, 0, []),
  (44, .ireturn, 1, 0, 0, 0, 0, [])]
def zc_X12_layWets : List (Nat × List Bool) := [(2, [true, true, true, false]), (14, [true, true, true, true]), (42, [true, true, true, true])]
def zo_X12_layWets : List z_Op := [(0, .iconst 0, 1, 0, 0, 0, 0, []),
  (1, .istore_n 2, 1, 2, 0, 0, 0, []),
  (2, .iload_n 2, 1, 2, 0, 0, 0, []),
  (3, .bipush 6, 2, 0, 0, 0, 6, []),
  (5, .if_icmp .ge 78, 3, 83, 0, 0, 0, []),
  (8, .aload_n 0, 1, 0, 0, 0, 0, []),
  (9, .invokevirtual 398, 3, 180, 1, 12, 0, []),
  (12, .iconst 0, 1, 0, 0, 0, 0, []),
  (13, .istore_n 3, 1, 3, 0, 0, 0, []),
  (14, .iload_n 3, 1, 3, 0, 0, 0, []),
  (15, .aload_n 0, 1, 0, 0, 0, 0, []),
  (16, .getfield 7, 3, 12, 0, 0, 0, []),
  (19, .if_icmp .ge 16, 3, 35, 0, 0, 0, []),
  (22, .aload_n 0, 1, 0, 0, 0, 0, []),
  (23, .getfield 35, 3, 12, 8, 0, 0, []),
  (26, .iload_n 3, 1, 3, 0, 0, 0, []),
  (27, .iload_n 2, 1, 2, 0, 0, 0, []),
  (28, .iastore, 1, 0, 0, 0, 0, []),
  (29, .iinc 3 1, 3, 3, 0, 0, 1, []),
  (32, .goto (-18), 3, 14, 0, 0, 0, []),
  (35, .aload_n 0, 1, 0, 0, 0, 0, []),
  (36, .iload_n 1, 1, 1, 0, 0, 0, []),
  (37, .invokevirtual 394, 3, 176, 2, 12, 0, []),
  (40, .iconst 0, 1, 0, 0, 0, 0, []),
  (41, .istore_n 3, 1, 3, 0, 0, 0, []),
  (42, .iload_n 3, 1, 3, 0, 0, 0, []),
  (43, .aload_n 0, 1, 0, 0, 0, 0, []),
  (44, .getfield 7, 3, 12, 0, 0, 0, []),
  (47, .if_icmp .ge 26, 3, 73, 0, 0, 0, []),
  (50, .aload_n 0, 1, 0, 0, 0, 0, []),
  (51, .getfield 123, 3, 12, 37, 0, 0, []),
  (54, .bipush 6, 2, 0, 0, 0, 6, []),
  (56, .iload_n 3, 1, 3, 0, 0, 0, []),
  (57, .imul, 1, 0, 0, 0, 0, []),
  (58, .iload_n 2, 1, 2, 0, 0, 0, []),
  (59, .iadd, 1, 0, 0, 0, 0, []),
  (60, .aload_n 0, 1, 0, 0, 0, 0, []),
  (61, .getfield 32, 3, 12, 7, 0, 0, []),
  (64, .iload_n 3, 1, 3, 0, 0, 0, []),
  (65, .iaload, 1, 0, 0, 0, 0, []),
  (66, .iastore, 1, 0, 0, 0, 0, []),
  (67, .iinc 3 1, 3, 3, 0, 0, 1, []),
  (70, .goto (-28), 3, 42, 0, 0, 0, []),
  (73, .aload_n 0, 1, 0, 0, 0, 0, []),
  (74, .invokevirtual 401, 3, 181, 1, 12, 0, []),
  (77, .iinc 2 1, 3, 2, 0, 0, 1, []),
  (80, .goto (-78), 3, 2, 0, 0, 0, []),
  (83, .return_, 1, 0, 0, 0, 0, [])]
def zc_X12_layPlaces : List (Nat × List Bool) := [(12, [true, false, true, true, true])]
def zo_X12_layPlaces : List z_Op := [(0, .iload_n 1, 1, 1, 0, 0, 0, []),
  (1, .istore_n 2, 1, 2, 0, 0, 0, []),
  (2, .iconst 0, 1, 0, 0, 0, 0, []),
  (3, .istore_n 3, 1, 3, 0, 0, 0, []),
  (4, .aload_n 0, 1, 0, 0, 0, 0, []),
  (5, .getfield 7, 3, 12, 0, 0, 0, []),
  (8, .iconst 1, 1, 0, 0, 0, 1, []),
  (9, .isub, 1, 0, 0, 0, 0, []),
  (10, .istore 4, 2, 4, 0, 0, 0, []),
  (12, .iload 4, 2, 4, 0, 0, 0, []),
  (14, .ifCond .lt 54, 3, 68, 0, 0, 0, []),
  (17, .aload_n 0, 1, 0, 0, 0, 0, []),
  (18, .getfield 126, 3, 12, 38, 0, 0, []),
  (21, .iload 4, 2, 4, 0, 0, 0, []),
  (23, .iload_n 2, 1, 2, 0, 0, 0, []),
  (24, .bipush 6, 2, 0, 0, 0, 6, []),
  (26, .irem, 1, 0, 0, 0, 0, []),
  (27, .iastore, 1, 0, 0, 0, 0, []),
  (28, .iload_n 2, 1, 2, 0, 0, 0, []),
  (29, .bipush 6, 2, 0, 0, 0, 6, []),
  (31, .idiv, 1, 0, 0, 0, 0, []),
  (32, .istore_n 2, 1, 2, 0, 0, 0, []),
  (33, .aload_n 0, 1, 0, 0, 0, 0, []),
  (34, .iload_n 3, 1, 3, 0, 0, 0, []),
  (35, .aload_n 0, 1, 0, 0, 0, 0, []),
  (36, .getfield 126, 3, 12, 38, 0, 0, []),
  (39, .iload 4, 2, 4, 0, 0, 0, []),
  (41, .iaload, 1, 0, 0, 0, 0, []),
  (42, .invokevirtual 260, 3, 125, 3, 12, 1, []),
  (45, .ifCond .eq 5, 3, 50, 0, 0, 0, []),
  (48, .iconst 0, 1, 0, 0, 0, 0, []),
  (49, .ireturn, 1, 0, 0, 0, 0, []),
  (50, .iload_n 3, 1, 3, 0, 0, 0, []),
  (51, .iconst 1, 1, 0, 0, 0, 1, []),
  (52, .aload_n 0, 1, 0, 0, 0, 0, []),
  (53, .getfield 126, 3, 12, 38, 0, 0, []),
  (56, .iload 4, 2, 4, 0, 0, 0, []),
  (58, .iaload, 1, 0, 0, 0, 0, []),
  (59, .ishl, 1, 0, 0, 0, 0, []),
  (60, .ior, 1, 0, 0, 0, 0, []),
  (61, .istore_n 3, 1, 3, 0, 0, 0, []),
  (62, .iinc 4 (-1), 3, 4, 0, 0, (-1), []),
  (65, .goto (-53), 3, 12, 0, 0, 0, []),
  (68, .iconst 1, 1, 0, 0, 0, 1, []),
  (69, .ireturn, 1, 0, 0, 0, 0, [])]
def zc_X12_layBest : List (Nat × List Bool) := [(9, [true, false, true, true, false, false, false, false]), (43, [true, false, true, true, true, false, false, false]), (70, [true, false, true, true, true, true, true, true]), (206, [true, false, true, true, true, false, false, true])]
def zo_X12_layBest : List z_Op := [(0, .aload_n 0, 1, 0, 0, 0, 0, []),
  (1, .iload_n 1, 1, 1, 0, 0, 0, []),
  (2, .invokevirtual 407, 3, 185, 2, 12, 0, []),
  (5, .iconst 1, 1, 0, 0, 0, 1, []),
  (6, .istore_n 2, 1, 2, 0, 0, 0, []),
  (7, .iconst 0, 1, 0, 0, 0, 0, []),
  (8, .istore_n 3, 1, 3, 0, 0, 0, []),
  (9, .iload_n 3, 1, 3, 0, 0, 0, []),
  (10, .aload_n 0, 1, 0, 0, 0, 0, []),
  (11, .getfield 7, 3, 12, 0, 0, 0, []),
  (14, .if_icmp .ge 14, 3, 28, 0, 0, 0, []),
  (17, .iload_n 2, 1, 2, 0, 0, 0, []),
  (18, .bipush 6, 2, 0, 0, 0, 6, []),
  (20, .imul, 1, 0, 0, 0, 0, []),
  (21, .istore_n 2, 1, 2, 0, 0, 0, []),
  (22, .iinc 3 1, 3, 3, 0, 0, 1, []),
  (25, .goto (-16), 3, 9, 0, 0, 0, []),
  (28, .iconst 0, 1, 0, 0, 0, 0, []),
  (29, .istore_n 3, 1, 3, 0, 0, 0, []),
  (30, .aload_n 0, 1, 0, 0, 0, 0, []),
  (31, .iconst 0, 1, 0, 0, 0, 0, []),
  (32, .putfield 132, 3, 12, 40, 0, 0, []),
  (35, .aload_n 0, 1, 0, 0, 0, 0, []),
  (36, .iconst 0, 1, 0, 0, 0, 0, []),
  (37, .putfield 135, 3, 12, 41, 0, 0, []),
  (40, .iconst 0, 1, 0, 0, 0, 0, []),
  (41, .istore 4, 2, 4, 0, 0, 0, []),
  (43, .iload 4, 2, 4, 0, 0, 0, []),
  (45, .iload_n 2, 1, 2, 0, 0, 0, []),
  (46, .if_icmp .ge 193, 3, 239, 0, 0, 0, []),
  (49, .aload_n 0, 1, 0, 0, 0, 0, []),
  (50, .iload 4, 2, 4, 0, 0, 0, []),
  (52, .invokevirtual 410, 3, 186, 2, 12, 1, []),
  (55, .ifCond .ne 6, 3, 61, 0, 0, 0, []),
  (58, .goto 175, 3, 233, 0, 0, 0, []),
  (61, .iconst 0, 1, 0, 0, 0, 0, []),
  (62, .istore 5, 2, 5, 0, 0, 0, []),
  (64, .iconst 0, 1, 0, 0, 0, 0, []),
  (65, .istore 6, 2, 6, 0, 0, 0, []),
  (67, .iconst 0, 1, 0, 0, 0, 0, []),
  (68, .istore 7, 2, 7, 0, 0, 0, []),
  (70, .iload 7, 2, 7, 0, 0, 0, []),
  (72, .aload_n 0, 1, 0, 0, 0, 0, []),
  (73, .getfield 7, 3, 12, 0, 0, 0, []),
  (76, .if_icmp .ge 79, 3, 155, 0, 0, 0, []),
  (79, .aload_n 0, 1, 0, 0, 0, 0, []),
  (80, .aload_n 0, 1, 0, 0, 0, 0, []),
  (81, .getfield 13, 3, 12, 1, 0, 0, []),
  (84, .iload 7, 2, 7, 0, 0, 0, []),
  (86, .invokevirtual 260, 3, 125, 3, 12, 1, []),
  (89, .ifCond .eq 6, 3, 95, 0, 0, 0, []),
  (92, .goto 57, 3, 149, 0, 0, 0, []),
  (95, .iload 5, 2, 5, 0, 0, 0, []),
  (97, .aload_n 0, 1, 0, 0, 0, 0, []),
  (98, .getfield 123, 3, 12, 37, 0, 0, []),
  (101, .bipush 6, 2, 0, 0, 0, 6, []),
  (103, .iload 7, 2, 7, 0, 0, 0, []),
  (105, .imul, 1, 0, 0, 0, 0, []),
  (106, .aload_n 0, 1, 0, 0, 0, 0, []),
  (107, .getfield 126, 3, 12, 38, 0, 0, []),
  (110, .iload 7, 2, 7, 0, 0, 0, []),
  (112, .iaload, 1, 0, 0, 0, 0, []),
  (113, .iadd, 1, 0, 0, 0, 0, []),
  (114, .iaload, 1, 0, 0, 0, 0, []),
  (115, .ifCond .ne 7, 3, 122, 0, 0, 0, []),
  (118, .iconst 1, 1, 0, 0, 0, 1, []),
  (119, .goto 4, 3, 123, 0, 0, 0, []),
  (122, .iconst 0, 1, 0, 0, 0, 0, []),
  (123, .iadd, 1, 0, 0, 0, 0, []),
  (124, .istore 5, 2, 5, 0, 0, 0, []),
  (126, .iload 6, 2, 6, 0, 0, 0, []),
  (128, .aload_n 0, 1, 0, 0, 0, 0, []),
  (129, .getfield 123, 3, 12, 37, 0, 0, []),
  (132, .bipush 6, 2, 0, 0, 0, 6, []),
  (134, .iload 7, 2, 7, 0, 0, 0, []),
  (136, .imul, 1, 0, 0, 0, 0, []),
  (137, .aload_n 0, 1, 0, 0, 0, 0, []),
  (138, .getfield 126, 3, 12, 38, 0, 0, []),
  (141, .iload 7, 2, 7, 0, 0, 0, []),
  (143, .iaload, 1, 0, 0, 0, 0, []),
  (144, .iadd, 1, 0, 0, 0, 0, []),
  (145, .iaload, 1, 0, 0, 0, 0, []),
  (146, .iadd, 1, 0, 0, 0, 0, []),
  (147, .istore 6, 2, 6, 0, 0, 0, []),
  (149, .iinc 7 1, 3, 7, 0, 0, 1, []),
  (152, .goto (-82), 3, 70, 0, 0, 0, []),
  (155, .iload_n 3, 1, 3, 0, 0, 0, []),
  (156, .ifCond .eq 33, 3, 189, 0, 0, 0, []),
  (159, .iload 5, 2, 5, 0, 0, 0, []),
  (161, .aload_n 0, 1, 0, 0, 0, 0, []),
  (162, .getfield 132, 3, 12, 40, 0, 0, []),
  (165, .if_icmp .lt 68, 3, 233, 0, 0, 0, []),
  (168, .iload 5, 2, 5, 0, 0, 0, []),
  (170, .aload_n 0, 1, 0, 0, 0, 0, []),
  (171, .getfield 132, 3, 12, 40, 0, 0, []),
  (174, .if_icmp .ne 15, 3, 189, 0, 0, 0, []),
  (177, .iload 6, 2, 6, 0, 0, 0, []),
  (179, .aload_n 0, 1, 0, 0, 0, 0, []),
  (180, .getfield 135, 3, 12, 41, 0, 0, []),
  (183, .if_icmp .lt 6, 3, 189, 0, 0, 0, []),
  (186, .goto 47, 3, 233, 0, 0, 0, []),
  (189, .iconst 1, 1, 0, 0, 0, 1, []),
  (190, .istore_n 3, 1, 3, 0, 0, 0, []),
  (191, .aload_n 0, 1, 0, 0, 0, 0, []),
  (192, .iload 5, 2, 5, 0, 0, 0, []),
  (194, .putfield 132, 3, 12, 40, 0, 0, []),
  (197, .aload_n 0, 1, 0, 0, 0, 0, []),
  (198, .iload 6, 2, 6, 0, 0, 0, []),
  (200, .putfield 135, 3, 12, 41, 0, 0, []),
  (203, .iconst 0, 1, 0, 0, 0, 0, []),
  (204, .istore 7, 2, 7, 0, 0, 0, []),
  (206, .iload 7, 2, 7, 0, 0, 0, []),
  (208, .bipush 6, 2, 0, 0, 0, 6, []),
  (210, .if_icmp .ge 23, 3, 233, 0, 0, 0, []),
  (213, .aload_n 0, 1, 0, 0, 0, 0, []),
  (214, .getfield 129, 3, 12, 39, 0, 0, []),
  (217, .iload 7, 2, 7, 0, 0, 0, []),
  (219, .aload_n 0, 1, 0, 0, 0, 0, []),
  (220, .getfield 126, 3, 12, 38, 0, 0, []),
  (223, .iload 7, 2, 7, 0, 0, 0, []),
  (225, .iaload, 1, 0, 0, 0, 0, []),
  (226, .iastore, 1, 0, 0, 0, 0, []),
  (227, .iinc 7 1, 3, 7, 0, 0, 1, []),
  (230, .goto (-24), 3, 206, 0, 0, 0, []),
  (233, .iinc 4 1, 3, 4, 0, 0, 1, []),
  (236, .goto (-193), 3, 43, 0, 0, 0, []),
  (239, .return_, 1, 0, 0, 0, 0, [])]
def zc_X12_placed : List (Nat × List Bool) := []
def zo_X12_placed : List z_Op := [(0, .aload_n 0, 1, 0, 0, 0, 0, []),
  (1, .iload_n 2, 1, 2, 0, 0, 0, []),
  (2, .iconst 0, 1, 0, 0, 0, 0, []),
  (3, .iconst 1, 1, 0, 0, 0, 1, []),
  (4, .invokevirtual 264, 3, 124, 4, 12, 1, []),
  (7, .ifCond .ne 22, 3, 29, 0, 0, 0, []),
  (10, .aload_n 0, 1, 0, 0, 0, 0, []),
  (11, .iload_n 2, 1, 2, 0, 0, 0, []),
  (12, .bipush 10, 2, 0, 0, 0, 10, []),
  (14, .bipush 9, 2, 0, 0, 0, 9, []),
  (16, .aload_n 0, 1, 0, 0, 0, 0, []),
  (17, .getfield 7, 3, 12, 0, 0, 0, []),
  (20, .iadd, 1, 0, 0, 0, 0, []),
  (21, .invokevirtual 264, 3, 124, 4, 12, 1, []),
  (24, .ifCond .ne 5, 3, 29, 0, 0, 0, []),
  (27, .iconst (-1), 1, 0, 0, 0, (-1), []),
  (28, .ireturn, 1, 0, 0, 0, 0, []),
  (29, .aload_n 0, 1, 0, 0, 0, 0, []),
  (30, .iload_n 1, 1, 1, 0, 0, 0, []),
  (31, .iconst 1, 1, 0, 0, 0, 1, []),
  (32, .bipush 12, 2, 0, 0, 0, 12, []),
  (34, .invokevirtual 264, 3, 124, 4, 12, 1, []),
  (37, .ifCond .ne 6, 3, 43, 0, 0, 0, []),
  (40, .bipush (-2), 2, 0, 0, 0, (-2), []),
  (42, .ireturn, 1, 0, 0, 0, 0, []),
  (43, .aload_n 0, 1, 0, 0, 0, 0, []),
  (44, .iload_n 1, 1, 1, 0, 0, 0, []),
  (45, .invokevirtual 413, 3, 187, 2, 12, 0, []),
  (48, .iload_n 2, 1, 2, 0, 0, 0, []),
  (49, .ifCond .ne 10, 3, 59, 0, 0, 0, []),
  (52, .aload_n 0, 1, 0, 0, 0, 0, []),
  (53, .getfield 132, 3, 12, 40, 0, 0, []),
  (56, .goto 24, 3, 80, 0, 0, 0, []),
  (59, .iload_n 2, 1, 2, 0, 0, 0, []),
  (60, .iconst 1, 1, 0, 0, 0, 1, []),
  (61, .if_icmp .ne 10, 3, 71, 0, 0, 0, []),
  (64, .aload_n 0, 1, 0, 0, 0, 0, []),
  (65, .getfield 135, 3, 12, 41, 0, 0, []),
  (68, .goto 12, 3, 80, 0, 0, 0, []),
  (71, .aload_n 0, 1, 0, 0, 0, 0, []),
  (72, .getfield 129, 3, 12, 39, 0, 0, []),
  (75, .iload_n 2, 1, 2, 0, 0, 0, []),
  (76, .bipush 10, 2, 0, 0, 0, 10, []),
  (78, .isub, 1, 0, 0, 0, 0, []),
  (79, .iaload, 1, 0, 0, 0, 0, []),
  (80, .ireturn, 1, 0, 0, 0, 0, [])]
def zc_X12_wetBy : List (Nat × List Bool) := [(5, [true, true, true, true, true, false])]
def zo_X12_wetBy : List z_Op := [(0, .iconst 0, 1, 0, 0, 0, 0, []),
  (1, .istore_n 3, 1, 3, 0, 0, 0, []),
  (2, .iconst 0, 1, 0, 0, 0, 0, []),
  (3, .istore 4, 2, 4, 0, 0, 0, []),
  (5, .iload 4, 2, 4, 0, 0, 0, []),
  (7, .aload_n 0, 1, 0, 0, 0, 0, []),
  (8, .getfield 7, 3, 12, 0, 0, 0, []),
  (11, .if_icmp .ge 81, 3, 92, 0, 0, 0, []),
  (14, .iload 4, 2, 4, 0, 0, 0, []),
  (16, .iload_n 1, 1, 1, 0, 0, 0, []),
  (17, .if_icmp .ne 12, 3, 29, 0, 0, 0, []),
  (20, .aload_n 0, 1, 0, 0, 0, 0, []),
  (21, .getfield 35, 3, 12, 8, 0, 0, []),
  (24, .iload_n 2, 1, 2, 0, 0, 0, []),
  (25, .iaload, 1, 0, 0, 0, 0, []),
  (26, .goto 25, 3, 51, 0, 0, 0, []),
  (29, .iload 4, 2, 4, 0, 0, 0, []),
  (31, .iload_n 2, 1, 2, 0, 0, 0, []),
  (32, .if_icmp .ne 12, 3, 44, 0, 0, 0, []),
  (35, .aload_n 0, 1, 0, 0, 0, 0, []),
  (36, .getfield 35, 3, 12, 8, 0, 0, []),
  (39, .iload_n 1, 1, 1, 0, 0, 0, []),
  (40, .iaload, 1, 0, 0, 0, 0, []),
  (41, .goto 10, 3, 51, 0, 0, 0, []),
  (44, .aload_n 0, 1, 0, 0, 0, 0, []),
  (45, .getfield 35, 3, 12, 8, 0, 0, []),
  (48, .iload 4, 2, 4, 0, 0, 0, []),
  (50, .iaload, 1, 0, 0, 0, 0, []),
  (51, .istore 5, 2, 5, 0, 0, 0, []),
  (53, .iload_n 3, 1, 3, 0, 0, 0, []),
  (54, .aload_n 0, 1, 0, 0, 0, 0, []),
  (55, .aload_n 0, 1, 0, 0, 0, 0, []),
  (56, .getfield 13, 3, 12, 1, 0, 0, []),
  (59, .iload 4, 2, 4, 0, 0, 0, []),
  (61, .invokevirtual 260, 3, 125, 3, 12, 1, []),
  (64, .ifCond .eq 7, 3, 71, 0, 0, 0, []),
  (67, .iconst 0, 1, 0, 0, 0, 0, []),
  (68, .goto 16, 3, 84, 0, 0, 0, []),
  (71, .aload_n 0, 1, 0, 0, 0, 0, []),
  (72, .getfield 123, 3, 12, 37, 0, 0, []),
  (75, .bipush 6, 2, 0, 0, 0, 6, []),
  (77, .iload 4, 2, 4, 0, 0, 0, []),
  (79, .imul, 1, 0, 0, 0, 0, []),
  (80, .iload 5, 2, 5, 0, 0, 0, []),
  (82, .iadd, 1, 0, 0, 0, 0, []),
  (83, .iaload, 1, 0, 0, 0, 0, []),
  (84, .iadd, 1, 0, 0, 0, 0, []),
  (85, .istore_n 3, 1, 3, 0, 0, 0, []),
  (86, .iinc 4 1, 3, 4, 0, 0, 1, []),
  (89, .goto (-84), 3, 5, 0, 0, 0, []),
  (92, .iload_n 3, 1, 3, 0, 0, 0, []),
  (93, .ireturn, 1, 0, 0, 0, 0, [])]
def zc_X12_change : List (Nat × List Bool) := [(18, [true, true, true, true, false, false]), (31, [true, true, true, true, true, false])]
def zo_X12_change : List z_Op := [(0, .aload_n 0, 1, 0, 0, 0, 0, []),
  (1, .bipush 6, 2, 0, 0, 0, 6, []),
  (3, .invokevirtual 407, 3, 185, 2, 12, 0, []),
  (6, .bipush (-5), 2, 0, 0, 0, (-5), []),
  (8, .istore_n 1, 1, 1, 0, 0, 0, []),
  (9, .aload_n 0, 1, 0, 0, 0, 0, []),
  (10, .iconst (-1), 1, 0, 0, 0, (-1), []),
  (11, .iconst (-1), 1, 0, 0, 0, (-1), []),
  (12, .invokevirtual 416, 3, 189, 3, 12, 1, []),
  (15, .istore_n 2, 1, 2, 0, 0, 0, []),
  (16, .iconst 0, 1, 0, 0, 0, 0, []),
  (17, .istore_n 3, 1, 3, 0, 0, 0, []),
  (18, .iload_n 3, 1, 3, 0, 0, 0, []),
  (19, .aload_n 0, 1, 0, 0, 0, 0, []),
  (20, .getfield 7, 3, 12, 0, 0, 0, []),
  (23, .if_icmp .ge 58, 3, 81, 0, 0, 0, []),
  (26, .iload_n 3, 1, 3, 0, 0, 0, []),
  (27, .iconst 1, 1, 0, 0, 0, 1, []),
  (28, .iadd, 1, 0, 0, 0, 0, []),
  (29, .istore 4, 2, 4, 0, 0, 0, []),
  (31, .iload 4, 2, 4, 0, 0, 0, []),
  (33, .aload_n 0, 1, 0, 0, 0, 0, []),
  (34, .getfield 7, 3, 12, 0, 0, 0, []),
  (37, .if_icmp .ge 38, 3, 75, 0, 0, 0, []),
  (40, .aload_n 0, 1, 0, 0, 0, 0, []),
  (41, .iload_n 3, 1, 3, 0, 0, 0, []),
  (42, .iload 4, 2, 4, 0, 0, 0, []),
  (44, .invokevirtual 416, 3, 189, 3, 12, 1, []),
  (47, .istore 5, 2, 5, 0, 0, 0, []),
  (49, .iload 5, 2, 5, 0, 0, 0, []),
  (51, .iload_n 2, 1, 2, 0, 0, 0, []),
  (52, .if_icmp .lt 6, 3, 58, 0, 0, 0, []),
  (55, .goto 14, 3, 69, 0, 0, 0, []),
  (58, .bipush 10, 2, 0, 0, 0, 10, []),
  (60, .iload_n 3, 1, 3, 0, 0, 0, []),
  (61, .imul, 1, 0, 0, 0, 0, []),
  (62, .iload 4, 2, 4, 0, 0, 0, []),
  (64, .iadd, 1, 0, 0, 0, 0, []),
  (65, .istore_n 1, 1, 1, 0, 0, 0, []),
  (66, .iload 5, 2, 5, 0, 0, 0, []),
  (68, .istore_n 2, 1, 2, 0, 0, 0, []),
  (69, .iinc 4 1, 3, 4, 0, 0, 1, []),
  (72, .goto (-41), 3, 31, 0, 0, 0, []),
  (75, .iinc 3 1, 3, 3, 0, 0, 1, []),
  (78, .goto (-60), 3, 18, 0, 0, 0, []),
  (81, .iload_n 1, 1, 1, 0, 0, 0, []),
  (82, .ireturn, 1, 0, 0, 0, 0, [])]
def zc_X12_wetStoked : List (Nat × List Bool) := [(6, [true, true, true, true])]
def zo_X12_wetStoked : List z_Op := [(0, .aload_n 0, 1, 0, 0, 0, 0, []),
  (1, .invokevirtual 398, 3, 180, 1, 12, 0, []),
  (4, .iconst 0, 1, 0, 0, 0, 0, []),
  (5, .istore_n 3, 1, 3, 0, 0, 0, []),
  (6, .iload_n 3, 1, 3, 0, 0, 0, []),
  (7, .iload_n 2, 1, 2, 0, 0, 0, []),
  (8, .if_icmp .ge 26, 3, 34, 0, 0, 0, []),
  (11, .aload_n 0, 1, 0, 0, 0, 0, []),
  (12, .iload_n 1, 1, 1, 0, 0, 0, []),
  (13, .iload_n 3, 1, 3, 0, 0, 0, []),
  (14, .invokevirtual 260, 3, 125, 3, 12, 1, []),
  (17, .ifCond .eq 7, 3, 24, 0, 0, 0, []),
  (20, .aload_n 0, 1, 0, 0, 0, 0, []),
  (21, .invokevirtual 388, 3, 177, 1, 12, 0, []),
  (24, .aload_n 0, 1, 0, 0, 0, 0, []),
  (25, .invokevirtual 385, 3, 175, 1, 12, 0, []),
  (28, .iinc 3 1, 3, 3, 0, 0, 1, []),
  (31, .goto (-25), 3, 6, 0, 0, 0, []),
  (34, .aload_n 0, 1, 0, 0, 0, 0, []),
  (35, .invokevirtual 373, 3, 170, 1, 12, 1, []),
  (38, .istore_n 3, 1, 3, 0, 0, 0, []),
  (39, .aload_n 0, 1, 0, 0, 0, 0, []),
  (40, .invokevirtual 401, 3, 181, 1, 12, 0, []),
  (43, .iload_n 3, 1, 3, 0, 0, 0, []),
  (44, .ireturn, 1, 0, 0, 0, 0, [])]
def zc_X12_logs : List (Nat × List Bool) := [(36, [true, true, true, true, true, true, false])]
def zo_X12_logs : List z_Op := [(0, .aload_n 0, 1, 0, 0, 0, 0, []),
  (1, .iload_n 2, 1, 2, 0, 0, 0, []),
  (2, .iconst 0, 1, 0, 0, 0, 0, []),
  (3, .iconst 1, 1, 0, 0, 0, 1, []),
  (4, .invokevirtual 264, 3, 124, 4, 12, 1, []),
  (7, .ifCond .ne 5, 3, 12, 0, 0, 0, []),
  (10, .iconst (-1), 1, 0, 0, 0, (-1), []),
  (11, .ireturn, 1, 0, 0, 0, 0, []),
  (12, .aload_n 0, 1, 0, 0, 0, 0, []),
  (13, .iload_n 1, 1, 1, 0, 0, 0, []),
  (14, .iconst 1, 1, 0, 0, 0, 1, []),
  (15, .bipush 6, 2, 0, 0, 0, 6, []),
  (17, .invokevirtual 264, 3, 124, 4, 12, 1, []),
  (20, .ifCond .ne 6, 3, 26, 0, 0, 0, []),
  (23, .bipush (-2), 2, 0, 0, 0, (-2), []),
  (25, .ireturn, 1, 0, 0, 0, 0, []),
  (26, .iconst 0, 1, 0, 0, 0, 0, []),
  (27, .istore_n 3, 1, 3, 0, 0, 0, []),
  (28, .ldc_w 397, 3, 0, 0, 0, 2000000000, []),
  (31, .istore 4, 2, 4, 0, 0, 0, []),
  (33, .iconst 0, 1, 0, 0, 0, 0, []),
  (34, .istore 5, 2, 5, 0, 0, 0, []),
  (36, .iload 5, 2, 5, 0, 0, 0, []),
  (38, .iconst 1, 1, 0, 0, 0, 1, []),
  (39, .iload_n 1, 1, 1, 0, 0, 0, []),
  (40, .ishl, 1, 0, 0, 0, 0, []),
  (41, .if_icmp .ge 72, 3, 113, 0, 0, 0, []),
  (44, .aload_n 0, 1, 0, 0, 0, 0, []),
  (45, .iload 5, 2, 5, 0, 0, 0, []),
  (47, .invokevirtual 404, 3, 128, 2, 12, 1, []),
  (50, .aload_n 0, 1, 0, 0, 0, 0, []),
  (51, .getfield 19, 3, 12, 3, 0, 0, []),
  (54, .if_icmp .le 6, 3, 60, 0, 0, 0, []),
  (57, .goto 50, 3, 107, 0, 0, 0, []),
  (60, .aload_n 0, 1, 0, 0, 0, 0, []),
  (61, .iload 5, 2, 5, 0, 0, 0, []),
  (63, .iload_n 1, 1, 1, 0, 0, 0, []),
  (64, .invokevirtual 419, 3, 191, 3, 12, 1, []),
  (67, .istore 6, 2, 6, 0, 0, 0, []),
  (69, .iload 6, 2, 6, 0, 0, 0, []),
  (71, .iload 4, 2, 4, 0, 0, 0, []),
  (73, .if_icmp .gt 34, 3, 107, 0, 0, 0, []),
  (76, .iload 6, 2, 6, 0, 0, 0, []),
  (78, .iload 4, 2, 4, 0, 0, 0, []),
  (80, .if_icmp .ne 20, 3, 100, 0, 0, 0, []),
  (83, .aload_n 0, 1, 0, 0, 0, 0, []),
  (84, .iload 5, 2, 5, 0, 0, 0, []),
  (86, .invokevirtual 404, 3, 128, 2, 12, 1, []),
  (89, .aload_n 0, 1, 0, 0, 0, 0, []),
  (90, .iload_n 3, 1, 3, 0, 0, 0, []),
  (91, .invokevirtual 404, 3, 128, 2, 12, 1, []),
  (94, .if_icmp .lt 6, 3, 100, 0, 0, 0, []),
  (97, .goto 10, 3, 107, 0, 0, 0, []),
  (100, .iload 5, 2, 5, 0, 0, 0, []),
  (102, .istore_n 3, 1, 3, 0, 0, 0, []),
  (103, .iload 6, 2, 6, 0, 0, 0, []),
  (105, .istore 4, 2, 4, 0, 0, 0, []),
  (107, .iinc 5 1, 3, 5, 0, 0, 1, []),
  (110, .goto (-74), 3, 36, 0, 0, 0, []),
  (113, .iload_n 2, 1, 2, 0, 0, 0, []),
  (114, .ifCond .ne 7, 3, 121, 0, 0, 0, []),
  (117, .iload_n 3, 1, 3, 0, 0, 0, []),
  (118, .goto 5, 3, 123, 0, 0, 0, []),
  (121, .iload 4, 2, 4, 0, 0, 0, []),
  (123, .ireturn, 1, 0, 0, 0, 0, [])]
def zc_X12_see : List (Nat × List Bool) := []
def zo_X12_see : List z_Op := [(0, .iload_n 1, 1, 1, 0, 0, 0, []),
  (1, .iconst (-1), 1, 0, 0, 0, (-1), []),
  (2, .if_icmp .ne 10, 3, 12, 0, 0, 0, []),
  (5, .aload_n 0, 1, 0, 0, 0, 0, []),
  (6, .iconst 0, 1, 0, 0, 0, 0, []),
  (7, .putfield 138, 3, 12, 42, 0, 0, []),
  (10, .iconst 0, 1, 0, 0, 0, 0, []),
  (11, .ireturn, 1, 0, 0, 0, 0, []),
  (12, .aload_n 0, 1, 0, 0, 0, 0, []),
  (13, .iload_n 1, 1, 1, 0, 0, 0, []),
  (14, .invokevirtual 276, 3, 129, 2, 12, 1, []),
  (17, .ifCond .ne 5, 3, 22, 0, 0, 0, []),
  (20, .iconst (-1), 1, 0, 0, 0, (-1), []),
  (21, .ireturn, 1, 0, 0, 0, 0, []),
  (22, .aload_n 0, 1, 0, 0, 0, 0, []),
  (23, .iload_n 2, 1, 2, 0, 0, 0, []),
  (24, .invokevirtual 268, 3, 131, 2, 12, 1, []),
  (27, .ifCond .eq 14, 3, 41, 0, 0, 0, []),
  (30, .aload_n 0, 1, 0, 0, 0, 0, []),
  (31, .iload_n 3, 1, 3, 0, 0, 0, []),
  (32, .iconst 0, 1, 0, 0, 0, 0, []),
  (33, .bipush 20, 2, 0, 0, 0, 20, []),
  (35, .invokevirtual 264, 3, 124, 4, 12, 1, []),
  (38, .ifCond .ne 6, 3, 44, 0, 0, 0, []),
  (41, .bipush (-2), 2, 0, 0, 0, (-2), []),
  (43, .ireturn, 1, 0, 0, 0, 0, []),
  (44, .aload_n 0, 1, 0, 0, 0, 0, []),
  (45, .getfield 138, 3, 12, 42, 0, 0, []),
  (48, .iconst 5, 1, 0, 0, 0, 5, []),
  (49, .if_icmp .ne 6, 3, 55, 0, 0, 0, []),
  (52, .bipush (-4), 2, 0, 0, 0, (-4), []),
  (54, .ireturn, 1, 0, 0, 0, 0, []),
  (55, .aload_n 0, 1, 0, 0, 0, 0, []),
  (56, .getfield 141, 3, 12, 43, 0, 0, []),
  (59, .aload_n 0, 1, 0, 0, 0, 0, []),
  (60, .getfield 138, 3, 12, 42, 0, 0, []),
  (63, .iload_n 1, 1, 1, 0, 0, 0, []),
  (64, .iastore, 1, 0, 0, 0, 0, []),
  (65, .aload_n 0, 1, 0, 0, 0, 0, []),
  (66, .getfield 144, 3, 12, 44, 0, 0, []),
  (69, .aload_n 0, 1, 0, 0, 0, 0, []),
  (70, .getfield 138, 3, 12, 42, 0, 0, []),
  (73, .iload_n 2, 1, 2, 0, 0, 0, []),
  (74, .iastore, 1, 0, 0, 0, 0, []),
  (75, .aload_n 0, 1, 0, 0, 0, 0, []),
  (76, .getfield 147, 3, 12, 45, 0, 0, []),
  (79, .aload_n 0, 1, 0, 0, 0, 0, []),
  (80, .getfield 138, 3, 12, 42, 0, 0, []),
  (83, .iload_n 3, 1, 3, 0, 0, 0, []),
  (84, .iastore, 1, 0, 0, 0, 0, []),
  (85, .aload_n 0, 1, 0, 0, 0, 0, []),
  (86, .dup, 1, 0, 0, 0, 0, []),
  (87, .getfield 138, 3, 12, 42, 0, 0, []),
  (90, .iconst 1, 1, 0, 0, 0, 1, []),
  (91, .iadd, 1, 0, 0, 0, 0, []),
  (92, .putfield 138, 3, 12, 42, 0, 0, []),
  (95, .aload_n 0, 1, 0, 0, 0, 0, []),
  (96, .getfield 138, 3, 12, 42, 0, 0, []),
  (99, .ireturn, 1, 0, 0, 0, 0, [])]
def zc_X12_isSeen : List (Nat × List Bool) := [(4, [true, true, true, true])]
def zo_X12_isSeen : List z_Op := [(0, .iconst 1, 1, 0, 0, 0, 1, []),
  (1, .istore_n 2, 1, 2, 0, 0, 0, []),
  (2, .iconst 0, 1, 0, 0, 0, 0, []),
  (3, .istore_n 3, 1, 3, 0, 0, 0, []),
  (4, .iload_n 3, 1, 3, 0, 0, 0, []),
  (5, .aload_n 0, 1, 0, 0, 0, 0, []),
  (6, .getfield 138, 3, 12, 42, 0, 0, []),
  (9, .if_icmp .ge 74, 3, 83, 0, 0, 0, []),
  (12, .iload_n 2, 1, 2, 0, 0, 0, []),
  (13, .ifCond .eq 70, 3, 83, 0, 0, 0, []),
  (16, .iload_n 1, 1, 1, 0, 0, 0, []),
  (17, .ifCond .lt 16, 3, 33, 0, 0, 0, []),
  (20, .aload_n 0, 1, 0, 0, 0, 0, []),
  (21, .getfield 141, 3, 12, 43, 0, 0, []),
  (24, .iload_n 3, 1, 3, 0, 0, 0, []),
  (25, .iaload, 1, 0, 0, 0, 0, []),
  (26, .iload_n 1, 1, 1, 0, 0, 0, []),
  (27, .if_icmp .eq 6, 3, 33, 0, 0, 0, []),
  (30, .goto 47, 3, 77, 0, 0, 0, []),
  (33, .aload_n 0, 1, 0, 0, 0, 0, []),
  (34, .invokevirtual 398, 3, 180, 1, 12, 0, []),
  (37, .aload_n 0, 1, 0, 0, 0, 0, []),
  (38, .aload_n 0, 1, 0, 0, 0, 0, []),
  (39, .getfield 147, 3, 12, 45, 0, 0, []),
  (42, .iload_n 3, 1, 3, 0, 0, 0, []),
  (43, .iaload, 1, 0, 0, 0, 0, []),
  (44, .invokevirtual 394, 3, 176, 2, 12, 0, []),
  (47, .aload_n 0, 1, 0, 0, 0, 0, []),
  (48, .getfield 32, 3, 12, 7, 0, 0, []),
  (51, .aload_n 0, 1, 0, 0, 0, 0, []),
  (52, .getfield 141, 3, 12, 43, 0, 0, []),
  (55, .iload_n 3, 1, 3, 0, 0, 0, []),
  (56, .iaload, 1, 0, 0, 0, 0, []),
  (57, .iaload, 1, 0, 0, 0, 0, []),
  (58, .aload_n 0, 1, 0, 0, 0, 0, []),
  (59, .getfield 144, 3, 12, 44, 0, 0, []),
  (62, .iload_n 3, 1, 3, 0, 0, 0, []),
  (63, .iaload, 1, 0, 0, 0, 0, []),
  (64, .if_icmp .ne 7, 3, 71, 0, 0, 0, []),
  (67, .iconst 1, 1, 0, 0, 0, 1, []),
  (68, .goto 4, 3, 72, 0, 0, 0, []),
  (71, .iconst 0, 1, 0, 0, 0, 0, []),
  (72, .istore_n 2, 1, 2, 0, 0, 0, []),
  (73, .aload_n 0, 1, 0, 0, 0, 0, []),
  (74, .invokevirtual 401, 3, 181, 1, 12, 0, []),
  (77, .iinc 3 1, 3, 3, 0, 0, 1, []),
  (80, .goto (-76), 3, 4, 0, 0, 0, []),
  (83, .iload_n 2, 1, 2, 0, 0, 0, []),
  (84, .ireturn, 1, 0, 0, 0, 0, [])]
def zc_X12_wets : List (Nat × List Bool) := [(38, [true, true, true, true, true, true, true])]
def zo_X12_wets : List z_Op := [(0, .aload_n 0, 1, 0, 0, 0, 0, []),
  (1, .iload_n 1, 1, 1, 0, 0, 0, []),
  (2, .invokevirtual 276, 3, 129, 2, 12, 1, []),
  (5, .ifCond .eq 13, 3, 18, 0, 0, 0, []),
  (8, .aload_n 0, 1, 0, 0, 0, 0, []),
  (9, .iload_n 2, 1, 2, 0, 0, 0, []),
  (10, .iconst 0, 1, 0, 0, 0, 0, []),
  (11, .iconst 1, 1, 0, 0, 0, 1, []),
  (12, .invokevirtual 264, 3, 124, 4, 12, 1, []),
  (15, .ifCond .ne 5, 3, 20, 0, 0, 0, []),
  (18, .iconst (-1), 1, 0, 0, 0, (-1), []),
  (19, .ireturn, 1, 0, 0, 0, 0, []),
  (20, .aload_n 0, 1, 0, 0, 0, 0, []),
  (21, .getfield 32, 3, 12, 7, 0, 0, []),
  (24, .iload_n 1, 1, 1, 0, 0, 0, []),
  (25, .iaload, 1, 0, 0, 0, 0, []),
  (26, .istore_n 3, 1, 3, 0, 0, 0, []),
  (27, .iconst 0, 1, 0, 0, 0, 0, []),
  (28, .istore 4, 2, 4, 0, 0, 0, []),
  (30, .bipush (-5), 2, 0, 0, 0, (-5), []),
  (32, .istore 5, 2, 5, 0, 0, 0, []),
  (34, .bipush 99, 2, 0, 0, 0, 99, []),
  (36, .istore 6, 2, 6, 0, 0, 0, []),
  (38, .iload 6, 2, 6, 0, 0, 0, []),
  (40, .ifCond .lt 35, 3, 75, 0, 0, 0, []),
  (43, .aload_n 0, 1, 0, 0, 0, 0, []),
  (44, .getfield 32, 3, 12, 7, 0, 0, []),
  (47, .iload_n 1, 1, 1, 0, 0, 0, []),
  (48, .iload 6, 2, 6, 0, 0, 0, []),
  (50, .iastore, 1, 0, 0, 0, 0, []),
  (51, .aload_n 0, 1, 0, 0, 0, 0, []),
  (52, .iload_n 1, 1, 1, 0, 0, 0, []),
  (53, .invokevirtual 422, 3, 194, 2, 12, 1, []),
  (56, .ifCond .ne 6, 3, 62, 0, 0, 0, []),
  (59, .goto 10, 3, 69, 0, 0, 0, []),
  (62, .iinc 4 1, 3, 4, 0, 0, 1, []),
  (65, .iload 6, 2, 6, 0, 0, 0, []),
  (67, .istore 5, 2, 5, 0, 0, 0, []),
  (69, .iinc 6 (-1), 3, 6, 0, 0, (-1), []),
  (72, .goto (-34), 3, 38, 0, 0, 0, []),
  (75, .aload_n 0, 1, 0, 0, 0, 0, []),
  (76, .getfield 32, 3, 12, 7, 0, 0, []),
  (79, .iload_n 1, 1, 1, 0, 0, 0, []),
  (80, .iload_n 3, 1, 3, 0, 0, 0, []),
  (81, .iastore, 1, 0, 0, 0, 0, []),
  (82, .iload_n 2, 1, 2, 0, 0, 0, []),
  (83, .ifCond .ne 8, 3, 91, 0, 0, 0, []),
  (86, .iload 4, 2, 4, 0, 0, 0, []),
  (88, .goto 5, 3, 93, 0, 0, 0, []),
  (91, .iload 5, 2, 5, 0, 0, 0, []),
  (93, .ireturn, 1, 0, 0, 0, 0, [])]
def zc_X12_can : List (Nat × List Bool) := [(38, [true, true, true, true, true, true, true])]
def zo_X12_can : List z_Op := [(0, .aload_n 0, 1, 0, 0, 0, 0, []),
  (1, .iload_n 1, 1, 1, 0, 0, 0, []),
  (2, .invokevirtual 276, 3, 129, 2, 12, 1, []),
  (5, .ifCond .eq 13, 3, 18, 0, 0, 0, []),
  (8, .aload_n 0, 1, 0, 0, 0, 0, []),
  (9, .iload_n 2, 1, 2, 0, 0, 0, []),
  (10, .iconst 0, 1, 0, 0, 0, 0, []),
  (11, .iconst 1, 1, 0, 0, 0, 1, []),
  (12, .invokevirtual 264, 3, 124, 4, 12, 1, []),
  (15, .ifCond .ne 5, 3, 20, 0, 0, 0, []),
  (18, .iconst (-1), 1, 0, 0, 0, (-1), []),
  (19, .ireturn, 1, 0, 0, 0, 0, []),
  (20, .aload_n 0, 1, 0, 0, 0, 0, []),
  (21, .getfield 29, 3, 12, 6, 0, 0, []),
  (24, .iload_n 1, 1, 1, 0, 0, 0, []),
  (25, .iaload, 1, 0, 0, 0, 0, []),
  (26, .istore_n 3, 1, 3, 0, 0, 0, []),
  (27, .iconst 0, 1, 0, 0, 0, 0, []),
  (28, .istore 4, 2, 4, 0, 0, 0, []),
  (30, .bipush (-5), 2, 0, 0, 0, (-5), []),
  (32, .istore 5, 2, 5, 0, 0, 0, []),
  (34, .bipush 9, 2, 0, 0, 0, 9, []),
  (36, .istore 6, 2, 6, 0, 0, 0, []),
  (38, .iload 6, 2, 6, 0, 0, 0, []),
  (40, .ifCond .lt 35, 3, 75, 0, 0, 0, []),
  (43, .aload_n 0, 1, 0, 0, 0, 0, []),
  (44, .getfield 29, 3, 12, 6, 0, 0, []),
  (47, .iload_n 1, 1, 1, 0, 0, 0, []),
  (48, .iload 6, 2, 6, 0, 0, 0, []),
  (50, .iastore, 1, 0, 0, 0, 0, []),
  (51, .aload_n 0, 1, 0, 0, 0, 0, []),
  (52, .iload_n 1, 1, 1, 0, 0, 0, []),
  (53, .invokevirtual 422, 3, 194, 2, 12, 1, []),
  (56, .ifCond .ne 6, 3, 62, 0, 0, 0, []),
  (59, .goto 10, 3, 69, 0, 0, 0, []),
  (62, .iinc 4 1, 3, 4, 0, 0, 1, []),
  (65, .iload 6, 2, 6, 0, 0, 0, []),
  (67, .istore 5, 2, 5, 0, 0, 0, []),
  (69, .iinc 6 (-1), 3, 6, 0, 0, (-1), []),
  (72, .goto (-34), 3, 38, 0, 0, 0, []),
  (75, .aload_n 0, 1, 0, 0, 0, 0, []),
  (76, .getfield 29, 3, 12, 6, 0, 0, []),
  (79, .iload_n 1, 1, 1, 0, 0, 0, []),
  (80, .iload_n 3, 1, 3, 0, 0, 0, []),
  (81, .iastore, 1, 0, 0, 0, 0, []),
  (82, .iload_n 2, 1, 2, 0, 0, 0, []),
  (83, .ifCond .ne 8, 3, 91, 0, 0, 0, []),
  (86, .iload 4, 2, 4, 0, 0, 0, []),
  (88, .goto 5, 3, 93, 0, 0, 0, []),
  (91, .iload 5, 2, 5, 0, 0, 0, []),
  (93, .ireturn, 1, 0, 0, 0, 0, [])]
def zc_X12_where : List (Nat × List Bool) := [(12, [true, true, true, false, false]), (40, [true, true, true, true, false]), (73, [true, true, true, true, true])]
def zo_X12_where : List z_Op := [(0, .aload_n 0, 1, 0, 0, 0, 0, []),
  (1, .iload_n 1, 1, 1, 0, 0, 0, []),
  (2, .invokevirtual 276, 3, 129, 2, 12, 1, []),
  (5, .ifCond .ne 5, 3, 10, 0, 0, 0, []),
  (8, .iconst (-1), 1, 0, 0, 0, (-1), []),
  (9, .ireturn, 1, 0, 0, 0, 0, []),
  (10, .iconst 0, 1, 0, 0, 0, 0, []),
  (11, .istore_n 2, 1, 2, 0, 0, 0, []),
  (12, .iload_n 2, 1, 2, 0, 0, 0, []),
  (13, .bipush 6, 2, 0, 0, 0, 6, []),
  (15, .if_icmp .ge 21, 3, 36, 0, 0, 0, []),
  (18, .aload_n 0, 1, 0, 0, 0, 0, []),
  (19, .getfield 150, 3, 12, 46, 0, 0, []),
  (22, .iload_n 2, 1, 2, 0, 0, 0, []),
  (23, .aload_n 0, 1, 0, 0, 0, 0, []),
  (24, .getfield 35, 3, 12, 8, 0, 0, []),
  (27, .iload_n 2, 1, 2, 0, 0, 0, []),
  (28, .iaload, 1, 0, 0, 0, 0, []),
  (29, .iastore, 1, 0, 0, 0, 0, []),
  (30, .iinc 2 1, 3, 2, 0, 0, 1, []),
  (33, .goto (-21), 3, 12, 0, 0, 0, []),
  (36, .iconst 0, 1, 0, 0, 0, 0, []),
  (37, .istore_n 2, 1, 2, 0, 0, 0, []),
  (38, .iconst 0, 1, 0, 0, 0, 0, []),
  (39, .istore_n 3, 1, 3, 0, 0, 0, []),
  (40, .iload_n 3, 1, 3, 0, 0, 0, []),
  (41, .bipush 6, 2, 0, 0, 0, 6, []),
  (43, .if_icmp .ge 63, 3, 106, 0, 0, 0, []),
  (46, .aload_n 0, 1, 0, 0, 0, 0, []),
  (47, .iload_n 1, 1, 1, 0, 0, 0, []),
  (48, .iload_n 3, 1, 3, 0, 0, 0, []),
  (49, .invokevirtual 282, 3, 136, 3, 12, 0, []),
  (52, .iload_n 2, 1, 2, 0, 0, 0, []),
  (53, .aload_n 0, 1, 0, 0, 0, 0, []),
  (54, .iconst (-1), 1, 0, 0, 0, (-1), []),
  (55, .invokevirtual 422, 3, 194, 2, 12, 1, []),
  (58, .ifCond .eq 9, 3, 67, 0, 0, 0, []),
  (61, .iconst 1, 1, 0, 0, 0, 1, []),
  (62, .iload_n 3, 1, 3, 0, 0, 0, []),
  (63, .ishl, 1, 0, 0, 0, 0, []),
  (64, .goto 4, 3, 68, 0, 0, 0, []),
  (67, .iconst 0, 1, 0, 0, 0, 0, []),
  (68, .ior, 1, 0, 0, 0, 0, []),
  (69, .istore_n 2, 1, 2, 0, 0, 0, []),
  (70, .iconst 0, 1, 0, 0, 0, 0, []),
  (71, .istore 4, 2, 4, 0, 0, 0, []),
  (73, .iload 4, 2, 4, 0, 0, 0, []),
  (75, .bipush 6, 2, 0, 0, 0, 6, []),
  (77, .if_icmp .ge 23, 3, 100, 0, 0, 0, []),
  (80, .aload_n 0, 1, 0, 0, 0, 0, []),
  (81, .getfield 35, 3, 12, 8, 0, 0, []),
  (84, .iload 4, 2, 4, 0, 0, 0, []),
  (86, .aload_n 0, 1, 0, 0, 0, 0, []),
  (87, .getfield 150, 3, 12, 46, 0, 0, []),
  (90, .iload 4, 2, 4, 0, 0, 0, []),
  (92, .iaload, 1, 0, 0, 0, 0, []),
  (93, .iastore, 1, 0, 0, 0, 0, []),
  (94, .iinc 4 1, 3, 4, 0, 0, 1, []),
  (97, .goto (-24), 3, 73, 0, 0, 0, []),
  (100, .iinc 3 1, 3, 3, 0, 0, 1, []),
  (103, .goto (-63), 3, 40, 0, 0, 0, []),
  (106, .iload_n 2, 1, 2, 0, 0, 0, []),
  (107, .ireturn, 1, 0, 0, 0, 0, [])]
def zc_X12_divisor : List (Nat × List Bool) := [(5, [false, false, false, true, true, false])]
def zo_X12_divisor : List z_Op := [(0, .iload_n 1, 1, 1, 0, 0, 0, []),
  (1, .istore_n 3, 1, 3, 0, 0, 0, []),
  (2, .iload_n 2, 1, 2, 0, 0, 0, []),
  (3, .istore 4, 2, 4, 0, 0, 0, []),
  (5, .iload 4, 2, 4, 0, 0, 0, []),
  (7, .ifCond .eq 19, 3, 26, 0, 0, 0, []),
  (10, .iload_n 3, 1, 3, 0, 0, 0, []),
  (11, .iload 4, 2, 4, 0, 0, 0, []),
  (13, .irem, 1, 0, 0, 0, 0, []),
  (14, .istore 5, 2, 5, 0, 0, 0, []),
  (16, .iload 4, 2, 4, 0, 0, 0, []),
  (18, .istore_n 3, 1, 3, 0, 0, 0, []),
  (19, .iload 5, 2, 5, 0, 0, 0, []),
  (21, .istore 4, 2, 4, 0, 0, 0, []),
  (23, .goto (-18), 3, 5, 0, 0, 0, []),
  (26, .iload_n 3, 1, 3, 0, 0, 0, []),
  (27, .ireturn, 1, 0, 0, 0, 0, [])]
def zc_X12_lowest : List (Nat × List Bool) := []
def zo_X12_lowest : List z_Op := [(0, .aload_n 0, 1, 0, 0, 0, 0, []),
  (1, .iload_n 1, 1, 1, 0, 0, 0, []),
  (2, .iload_n 2, 1, 2, 0, 0, 0, []),
  (3, .invokevirtual 425, 3, 198, 3, 12, 1, []),
  (6, .istore 4, 2, 4, 0, 0, 0, []),
  (8, .iload_n 3, 1, 3, 0, 0, 0, []),
  (9, .ifCond .ne 11, 3, 20, 0, 0, 0, []),
  (12, .iload_n 1, 1, 1, 0, 0, 0, []),
  (13, .iload 4, 2, 4, 0, 0, 0, []),
  (15, .idiv, 1, 0, 0, 0, 0, []),
  (16, .i2l, 1, 0, 0, 0, 0, []),
  (17, .goto 8, 3, 25, 0, 0, 0, []),
  (20, .iload_n 2, 1, 2, 0, 0, 0, []),
  (21, .iload 4, 2, 4, 0, 0, 0, []),
  (23, .idiv, 1, 0, 0, 0, 0, []),
  (24, .i2l, 1, 0, 0, 0, 0, []),
  (25, .lreturn, 1, 0, 0, 0, 0, [])]
def zc_X12_odds : List (Nat × List Bool) := [(47, [true, true, true, true, true, true])]
def zo_X12_odds : List z_Op := [(0, .aload_n 0, 1, 0, 0, 0, 0, []),
  (1, .iload_n 1, 1, 1, 0, 0, 0, []),
  (2, .invokevirtual 391, 3, 132, 2, 12, 1, []),
  (5, .ifCond .eq 32, 3, 37, 0, 0, 0, []),
  (8, .aload_n 0, 1, 0, 0, 0, 0, []),
  (9, .iload_n 2, 1, 2, 0, 0, 0, []),
  (10, .iconst 0, 1, 0, 0, 0, 0, []),
  (11, .sipush 999, 3, 0, 0, 0, 999, []),
  (14, .invokevirtual 264, 3, 124, 4, 12, 1, []),
  (17, .ifCond .eq 20, 3, 37, 0, 0, 0, []),
  (20, .aload_n 0, 1, 0, 0, 0, 0, []),
  (21, .iload_n 3, 1, 3, 0, 0, 0, []),
  (22, .iconst 0, 1, 0, 0, 0, 0, []),
  (23, .iconst 1, 1, 0, 0, 0, 1, []),
  (24, .invokevirtual 264, 3, 124, 4, 12, 1, []),
  (27, .ifCond .eq 10, 3, 37, 0, 0, 0, []),
  (30, .aload_n 0, 1, 0, 0, 0, 0, []),
  (31, .getfield 7, 3, 12, 0, 0, 0, []),
  (34, .ifCond .ne 7, 3, 41, 0, 0, 0, []),
  (37, .ldc2_w 428, 3, 9223372036854775808, 0, 0, 0, []),
  (40, .lreturn, 1, 0, 0, 0, 0, []),
  (41, .iconst 0, 1, 0, 0, 0, 0, []),
  (42, .istore 4, 2, 4, 0, 0, 0, []),
  (44, .iconst 0, 1, 0, 0, 0, 0, []),
  (45, .istore 5, 2, 5, 0, 0, 0, []),
  (47, .iload 5, 2, 5, 0, 0, 0, []),
  (49, .aload_n 0, 1, 0, 0, 0, 0, []),
  (50, .getfield 7, 3, 12, 0, 0, 0, []),
  (53, .if_icmp .ge 47, 3, 100, 0, 0, 0, []),
  (56, .aload_n 0, 1, 0, 0, 0, 0, []),
  (57, .invokevirtual 398, 3, 180, 1, 12, 0, []),
  (60, .aload_n 0, 1, 0, 0, 0, 0, []),
  (61, .iload 5, 2, 5, 0, 0, 0, []),
  (63, .iconst 1, 1, 0, 0, 0, 1, []),
  (64, .invokevirtual 286, 3, 138, 3, 12, 0, []),
  (67, .aload_n 0, 1, 0, 0, 0, 0, []),
  (68, .iload_n 1, 1, 1, 0, 0, 0, []),
  (69, .invokevirtual 394, 3, 176, 2, 12, 0, []),
  (72, .iload 4, 2, 4, 0, 0, 0, []),
  (74, .aload_n 0, 1, 0, 0, 0, 0, []),
  (75, .invokevirtual 373, 3, 170, 1, 12, 1, []),
  (78, .iload_n 2, 1, 2, 0, 0, 0, []),
  (79, .if_icmp .gt 7, 3, 86, 0, 0, 0, []),
  (82, .iconst 1, 1, 0, 0, 0, 1, []),
  (83, .goto 4, 3, 87, 0, 0, 0, []),
  (86, .iconst 0, 1, 0, 0, 0, 0, []),
  (87, .iadd, 1, 0, 0, 0, 0, []),
  (88, .istore 4, 2, 4, 0, 0, 0, []),
  (90, .aload_n 0, 1, 0, 0, 0, 0, []),
  (91, .invokevirtual 401, 3, 181, 1, 12, 0, []),
  (94, .iinc 5 1, 3, 5, 0, 0, 1, []),
  (97, .goto (-50), 3, 47, 0, 0, 0, []),
  (100, .aload_n 0, 1, 0, 0, 0, 0, []),
  (101, .iload 4, 2, 4, 0, 0, 0, []),
  (103, .aload_n 0, 1, 0, 0, 0, 0, []),
  (104, .getfield 7, 3, 12, 0, 0, 0, []),
  (107, .iload_n 3, 1, 3, 0, 0, 0, []),
  (108, .invokevirtual 430, 3, 199, 4, 12, 2, []),
  (111, .lreturn, 1, 0, 0, 0, 0, [])]
def zc_X12_mean : List (Nat × List Bool) := []
def zo_X12_mean : List z_Op := [(0, .aload_n 0, 1, 0, 0, 0, 0, []),
  (1, .iload_n 1, 1, 1, 0, 0, 0, []),
  (2, .invokevirtual 391, 3, 132, 2, 12, 1, []),
  (5, .ifCond .eq 20, 3, 25, 0, 0, 0, []),
  (8, .aload_n 0, 1, 0, 0, 0, 0, []),
  (9, .iload_n 2, 1, 2, 0, 0, 0, []),
  (10, .iconst 0, 1, 0, 0, 0, 0, []),
  (11, .iconst 1, 1, 0, 0, 0, 1, []),
  (12, .invokevirtual 264, 3, 124, 4, 12, 1, []),
  (15, .ifCond .eq 10, 3, 25, 0, 0, 0, []),
  (18, .aload_n 0, 1, 0, 0, 0, 0, []),
  (19, .getfield 7, 3, 12, 0, 0, 0, []),
  (22, .ifCond .ne 7, 3, 29, 0, 0, 0, []),
  (25, .ldc2_w 428, 3, 9223372036854775808, 0, 0, 0, []),
  (28, .lreturn, 1, 0, 0, 0, 0, []),
  (29, .aload_n 0, 1, 0, 0, 0, 0, []),
  (30, .invokevirtual 398, 3, 180, 1, 12, 0, []),
  (33, .aload_n 0, 1, 0, 0, 0, 0, []),
  (34, .iload_n 1, 1, 1, 0, 0, 0, []),
  (35, .invokevirtual 394, 3, 176, 2, 12, 0, []),
  (38, .aload_n 0, 1, 0, 0, 0, 0, []),
  (39, .invokevirtual 434, 3, 171, 1, 12, 1, []),
  (42, .istore_n 3, 1, 3, 0, 0, 0, []),
  (43, .aload_n 0, 1, 0, 0, 0, 0, []),
  (44, .invokevirtual 401, 3, 181, 1, 12, 0, []),
  (47, .aload_n 0, 1, 0, 0, 0, 0, []),
  (48, .iload_n 3, 1, 3, 0, 0, 0, []),
  (49, .aload_n 0, 1, 0, 0, 0, 0, []),
  (50, .getfield 7, 3, 12, 0, 0, 0, []),
  (53, .iload_n 2, 1, 2, 0, 0, 0, []),
  (54, .invokevirtual 430, 3, 199, 4, 12, 2, []),
  (57, .lreturn, 1, 0, 0, 0, 0, [])]
def zc_X12_rota : List (Nat × List Bool) := []
def zo_X12_rota : List z_Op := [(0, .iload_n 1, 1, 1, 0, 0, 0, []),
  (1, .iconst (-1), 1, 0, 0, 0, (-1), []),
  (2, .if_icmp .ne 10, 3, 12, 0, 0, 0, []),
  (5, .aload_n 0, 1, 0, 0, 0, 0, []),
  (6, .iconst 0, 1, 0, 0, 0, 0, []),
  (7, .putfield 153, 3, 12, 47, 0, 0, []),
  (10, .iconst 0, 1, 0, 0, 0, 0, []),
  (11, .ireturn, 1, 0, 0, 0, 0, []),
  (12, .aload_n 0, 1, 0, 0, 0, 0, []),
  (13, .iload_n 1, 1, 1, 0, 0, 0, []),
  (14, .iconst 0, 1, 0, 0, 0, 0, []),
  (15, .iconst 3, 1, 0, 0, 0, 3, []),
  (16, .invokevirtual 264, 3, 124, 4, 12, 1, []),
  (19, .ifCond .eq 16, 3, 35, 0, 0, 0, []),
  (22, .iload_n 1, 1, 1, 0, 0, 0, []),
  (23, .iconst 1, 1, 0, 0, 0, 1, []),
  (24, .if_icmp .le 13, 3, 37, 0, 0, 0, []),
  (27, .aload_n 0, 1, 0, 0, 0, 0, []),
  (28, .iload_n 2, 1, 2, 0, 0, 0, []),
  (29, .invokevirtual 276, 3, 129, 2, 12, 1, []),
  (32, .ifCond .ne 5, 3, 37, 0, 0, 0, []),
  (35, .iconst (-1), 1, 0, 0, 0, (-1), []),
  (36, .ireturn, 1, 0, 0, 0, 0, []),
  (37, .aload_n 0, 1, 0, 0, 0, 0, []),
  (38, .getfield 153, 3, 12, 47, 0, 0, []),
  (41, .bipush 10, 2, 0, 0, 0, 10, []),
  (43, .if_icmp .ne 6, 3, 49, 0, 0, 0, []),
  (46, .bipush (-4), 2, 0, 0, 0, (-4), []),
  (48, .ireturn, 1, 0, 0, 0, 0, []),
  (49, .aload_n 0, 1, 0, 0, 0, 0, []),
  (50, .getfield 159, 3, 12, 49, 0, 0, []),
  (53, .aload_n 0, 1, 0, 0, 0, 0, []),
  (54, .getfield 153, 3, 12, 47, 0, 0, []),
  (57, .iload_n 1, 1, 1, 0, 0, 0, []),
  (58, .iastore, 1, 0, 0, 0, 0, []),
  (59, .aload_n 0, 1, 0, 0, 0, 0, []),
  (60, .getfield 162, 3, 12, 50, 0, 0, []),
  (63, .aload_n 0, 1, 0, 0, 0, 0, []),
  (64, .getfield 153, 3, 12, 47, 0, 0, []),
  (67, .iload_n 1, 1, 1, 0, 0, 0, []),
  (68, .iconst 1, 1, 0, 0, 0, 1, []),
  (69, .if_icmp .le 7, 3, 76, 0, 0, 0, []),
  (72, .iload_n 2, 1, 2, 0, 0, 0, []),
  (73, .goto 4, 3, 77, 0, 0, 0, []),
  (76, .iconst 0, 1, 0, 0, 0, 0, []),
  (77, .iastore, 1, 0, 0, 0, 0, []),
  (78, .aload_n 0, 1, 0, 0, 0, 0, []),
  (79, .dup, 1, 0, 0, 0, 0, []),
  (80, .getfield 153, 3, 12, 47, 0, 0, []),
  (83, .iconst 1, 1, 0, 0, 0, 1, []),
  (84, .iadd, 1, 0, 0, 0, 0, []),
  (85, .putfield 153, 3, 12, 47, 0, 0, []),
  (88, .aload_n 0, 1, 0, 0, 0, 0, []),
  (89, .getfield 153, 3, 12, 47, 0, 0, []),
  (92, .ireturn, 1, 0, 0, 0, 0, [])]
def zc_X12_goRota : List (Nat × List Bool) := []
def zo_X12_goRota : List z_Op := [(0, .iload_n 1, 1, 1, 0, 0, 0, []),
  (1, .ifCond .ne 7, 3, 8, 0, 0, 0, []),
  (4, .aload_n 0, 1, 0, 0, 0, 0, []),
  (5, .invokevirtual 385, 3, 175, 1, 12, 0, []),
  (8, .iload_n 1, 1, 1, 0, 0, 0, []),
  (9, .iconst 1, 1, 0, 0, 0, 1, []),
  (10, .if_icmp .ne 14, 3, 24, 0, 0, 0, []),
  (13, .aload_n 0, 1, 0, 0, 0, 0, []),
  (14, .getfield 19, 3, 12, 3, 0, 0, []),
  (17, .ifCond .le 7, 3, 24, 0, 0, 0, []),
  (20, .aload_n 0, 1, 0, 0, 0, 0, []),
  (21, .invokevirtual 388, 3, 177, 1, 12, 0, []),
  (24, .iload_n 1, 1, 1, 0, 0, 0, []),
  (25, .iconst 1, 1, 0, 0, 0, 1, []),
  (26, .if_icmp .le 18, 3, 44, 0, 0, 0, []),
  (29, .aload_n 0, 1, 0, 0, 0, 0, []),
  (30, .iload_n 2, 1, 2, 0, 0, 0, []),
  (31, .iload_n 1, 1, 1, 0, 0, 0, []),
  (32, .iconst 2, 1, 0, 0, 0, 2, []),
  (33, .if_icmp .ne 7, 3, 40, 0, 0, 0, []),
  (36, .iconst 1, 1, 0, 0, 0, 1, []),
  (37, .goto 4, 3, 41, 0, 0, 0, []),
  (40, .iconst 0, 1, 0, 0, 0, 0, []),
  (41, .invokevirtual 286, 3, 138, 3, 12, 0, []),
  (44, .return_, 1, 0, 0, 0, 0, [])]
def zc_X12_ends : List (Nat × List Bool) := [(18, [true, true, true])]
def zo_X12_ends : List z_Op := [(0, .aload_n 0, 1, 0, 0, 0, 0, []),
  (1, .iload_n 1, 1, 1, 0, 0, 0, []),
  (2, .iconst 0, 1, 0, 0, 0, 0, []),
  (3, .iconst 1, 1, 0, 0, 0, 1, []),
  (4, .invokevirtual 264, 3, 124, 4, 12, 1, []),
  (7, .ifCond .ne 5, 3, 12, 0, 0, 0, []),
  (10, .iconst (-1), 1, 0, 0, 0, (-1), []),
  (11, .ireturn, 1, 0, 0, 0, 0, []),
  (12, .aload_n 0, 1, 0, 0, 0, 0, []),
  (13, .invokevirtual 398, 3, 180, 1, 12, 0, []),
  (16, .iconst 0, 1, 0, 0, 0, 0, []),
  (17, .istore_n 2, 1, 2, 0, 0, 0, []),
  (18, .iload_n 2, 1, 2, 0, 0, 0, []),
  (19, .aload_n 0, 1, 0, 0, 0, 0, []),
  (20, .getfield 153, 3, 12, 47, 0, 0, []),
  (23, .if_icmp .ge 25, 3, 48, 0, 0, 0, []),
  (26, .aload_n 0, 1, 0, 0, 0, 0, []),
  (27, .aload_n 0, 1, 0, 0, 0, 0, []),
  (28, .getfield 159, 3, 12, 49, 0, 0, []),
  (31, .iload_n 2, 1, 2, 0, 0, 0, []),
  (32, .iaload, 1, 0, 0, 0, 0, []),
  (33, .aload_n 0, 1, 0, 0, 0, 0, []),
  (34, .getfield 162, 3, 12, 50, 0, 0, []),
  (37, .iload_n 2, 1, 2, 0, 0, 0, []),
  (38, .iaload, 1, 0, 0, 0, 0, []),
  (39, .invokevirtual 437, 3, 203, 3, 12, 0, []),
  (42, .iinc 2 1, 3, 2, 0, 0, 1, []),
  (45, .goto (-27), 3, 18, 0, 0, 0, []),
  (48, .iload_n 1, 1, 1, 0, 0, 0, []),
  (49, .ifCond .ne 10, 3, 59, 0, 0, 0, []),
  (52, .aload_n 0, 1, 0, 0, 0, 0, []),
  (53, .invokevirtual 373, 3, 170, 1, 12, 1, []),
  (56, .goto 7, 3, 63, 0, 0, 0, []),
  (59, .aload_n 0, 1, 0, 0, 0, 0, []),
  (60, .invokevirtual 376, 3, 172, 1, 12, 1, []),
  (63, .istore_n 2, 1, 2, 0, 0, 0, []),
  (64, .aload_n 0, 1, 0, 0, 0, 0, []),
  (65, .invokevirtual 401, 3, 181, 1, 12, 0, []),
  (68, .iload_n 2, 1, 2, 0, 0, 0, []),
  (69, .ireturn, 1, 0, 0, 0, 0, [])]
def zc_X12_book : List (Nat × List Bool) := []
def zo_X12_book : List z_Op := [(0, .iload_n 1, 1, 1, 0, 0, 0, []),
  (1, .iconst (-1), 1, 0, 0, 0, (-1), []),
  (2, .if_icmp .ne 10, 3, 12, 0, 0, 0, []),
  (5, .aload_n 0, 1, 0, 0, 0, 0, []),
  (6, .iconst 0, 1, 0, 0, 0, 0, []),
  (7, .putfield 156, 3, 12, 48, 0, 0, []),
  (10, .iconst 0, 1, 0, 0, 0, 0, []),
  (11, .ireturn, 1, 0, 0, 0, 0, []),
  (12, .aload_n 0, 1, 0, 0, 0, 0, []),
  (13, .iload_n 1, 1, 1, 0, 0, 0, []),
  (14, .invokevirtual 276, 3, 129, 2, 12, 1, []),
  (17, .ifCond .ne 5, 3, 22, 0, 0, 0, []),
  (20, .iconst (-1), 1, 0, 0, 0, (-1), []),
  (21, .ireturn, 1, 0, 0, 0, 0, []),
  (22, .aload_n 0, 1, 0, 0, 0, 0, []),
  (23, .iload_n 2, 1, 2, 0, 0, 0, []),
  (24, .invokevirtual 268, 3, 131, 2, 12, 1, []),
  (27, .ifCond .ne 6, 3, 33, 0, 0, 0, []),
  (30, .bipush (-2), 2, 0, 0, 0, (-2), []),
  (32, .ireturn, 1, 0, 0, 0, 0, []),
  (33, .aload_n 0, 1, 0, 0, 0, 0, []),
  (34, .getfield 156, 3, 12, 48, 0, 0, []),
  (37, .bipush 8, 2, 0, 0, 0, 8, []),
  (39, .if_icmp .ne 6, 3, 45, 0, 0, 0, []),
  (42, .bipush (-4), 2, 0, 0, 0, (-4), []),
  (44, .ireturn, 1, 0, 0, 0, 0, []),
  (45, .aload_n 0, 1, 0, 0, 0, 0, []),
  (46, .getfield 165, 3, 12, 51, 0, 0, []),
  (49, .aload_n 0, 1, 0, 0, 0, 0, []),
  (50, .getfield 156, 3, 12, 48, 0, 0, []),
  (53, .iload_n 1, 1, 1, 0, 0, 0, []),
  (54, .iastore, 1, 0, 0, 0, 0, []),
  (55, .aload_n 0, 1, 0, 0, 0, 0, []),
  (56, .getfield 168, 3, 12, 52, 0, 0, []),
  (59, .aload_n 0, 1, 0, 0, 0, 0, []),
  (60, .getfield 156, 3, 12, 48, 0, 0, []),
  (63, .iload_n 2, 1, 2, 0, 0, 0, []),
  (64, .iastore, 1, 0, 0, 0, 0, []),
  (65, .aload_n 0, 1, 0, 0, 0, 0, []),
  (66, .dup, 1, 0, 0, 0, 0, []),
  (67, .getfield 156, 3, 12, 48, 0, 0, []),
  (70, .iconst 1, 1, 0, 0, 0, 1, []),
  (71, .iadd, 1, 0, 0, 0, 0, []),
  (72, .putfield 156, 3, 12, 48, 0, 0, []),
  (75, .aload_n 0, 1, 0, 0, 0, 0, []),
  (76, .getfield 156, 3, 12, 48, 0, 0, []),
  (79, .ireturn, 1, 0, 0, 0, 0, [])]
def zc_X12_looked : List (Nat × List Bool) := [(2, [true, true])]
def zo_X12_looked : List z_Op := [(0, .iconst 0, 1, 0, 0, 0, 0, []),
  (1, .istore_n 1, 1, 1, 0, 0, 0, []),
  (2, .iload_n 1, 1, 1, 0, 0, 0, []),
  (3, .aload_n 0, 1, 0, 0, 0, 0, []),
  (4, .getfield 156, 3, 12, 48, 0, 0, []),
  (7, .if_icmp .ge 31, 3, 38, 0, 0, 0, []),
  (10, .aload_n 0, 1, 0, 0, 0, 0, []),
  (11, .getfield 32, 3, 12, 7, 0, 0, []),
  (14, .aload_n 0, 1, 0, 0, 0, 0, []),
  (15, .getfield 165, 3, 12, 51, 0, 0, []),
  (18, .iload_n 1, 1, 1, 0, 0, 0, []),
  (19, .iaload, 1, 0, 0, 0, 0, []),
  (20, .iaload, 1, 0, 0, 0, 0, []),
  (21, .aload_n 0, 1, 0, 0, 0, 0, []),
  (22, .getfield 168, 3, 12, 52, 0, 0, []),
  (25, .iload_n 1, 1, 1, 0, 0, 0, []),
  (26, .iaload, 1, 0, 0, 0, 0, []),
  (27, .if_icmp .eq 5, 3, 32, 0, 0, 0, []),
  (30, .iload_n 1, 1, 1, 0, 0, 0, []),
  (31, .ireturn, 1, 0, 0, 0, 0, []),
  (32, .iinc 1 1, 3, 1, 0, 0, 1, []),
  (35, .goto (-33), 3, 2, 0, 0, 0, []),
  (38, .bipush (-5), 2, 0, 0, 0, (-5), []),
  (40, .ireturn, 1, 0, 0, 0, 0, [])]
def zc_X12_judge : List (Nat × List Bool) := [(24, [true, true, true, true])]
def zo_X12_judge : List z_Op := [(0, .aload_n 0, 1, 0, 0, 0, 0, []),
  (1, .iload_n 1, 1, 1, 0, 0, 0, []),
  (2, .invokevirtual 440, 3, 222, 2, 12, 1, []),
  (5, .ifCond .ne 5, 3, 10, 0, 0, 0, []),
  (8, .iconst (-1), 1, 0, 0, 0, (-1), []),
  (9, .ireturn, 1, 0, 0, 0, 0, []),
  (10, .aload_n 0, 1, 0, 0, 0, 0, []),
  (11, .getfield 247, 3, 12, 78, 0, 0, []),
  (14, .iload_n 1, 1, 1, 0, 0, 0, []),
  (15, .iaload, 1, 0, 0, 0, 0, []),
  (16, .ifCond .le 6, 3, 22, 0, 0, 0, []),
  (19, .bipush (-12), 2, 0, 0, 0, (-12), []),
  (21, .ireturn, 1, 0, 0, 0, 0, []),
  (22, .iconst 0, 1, 0, 0, 0, 0, []),
  (23, .istore_n 3, 1, 3, 0, 0, 0, []),
  (24, .iload_n 3, 1, 3, 0, 0, 0, []),
  (25, .aload_n 0, 1, 0, 0, 0, 0, []),
  (26, .getfield 7, 3, 12, 0, 0, 0, []),
  (29, .if_icmp .ge 67, 3, 96, 0, 0, 0, []),
  (32, .aload_n 0, 1, 0, 0, 0, 0, []),
  (33, .getfield 247, 3, 12, 78, 0, 0, []),
  (36, .iload_n 1, 1, 1, 0, 0, 0, []),
  (37, .iaload, 1, 0, 0, 0, 0, []),
  (38, .ifCond .lt 21, 3, 59, 0, 0, 0, []),
  (41, .iload_n 2, 1, 2, 0, 0, 0, []),
  (42, .ifCond .lt 17, 3, 59, 0, 0, 0, []),
  (45, .iload_n 2, 1, 2, 0, 0, 0, []),
  (46, .aload_n 0, 1, 0, 0, 0, 0, []),
  (47, .getfield 250, 3, 12, 79, 0, 0, []),
  (50, .iload_n 1, 1, 1, 0, 0, 0, []),
  (51, .iaload, 1, 0, 0, 0, 0, []),
  (52, .iload_n 3, 1, 3, 0, 0, 0, []),
  (53, .isub, 1, 0, 0, 0, 0, []),
  (54, .iconst 1, 1, 0, 0, 0, 1, []),
  (55, .isub, 1, 0, 0, 0, 0, []),
  (56, .if_icmp .le 8, 3, 64, 0, 0, 0, []),
  (59, .bipush 100, 2, 0, 0, 0, 100, []),
  (61, .iload_n 3, 1, 3, 0, 0, 0, []),
  (62, .iadd, 1, 0, 0, 0, 0, []),
  (63, .ireturn, 1, 0, 0, 0, 0, []),
  (64, .aload_n 0, 1, 0, 0, 0, 0, []),
  (65, .getfield 253, 3, 12, 80, 0, 0, []),
  (68, .bipush 60, 2, 0, 0, 0, 60, []),
  (70, .iload_n 1, 1, 1, 0, 0, 0, []),
  (71, .imul, 1, 0, 0, 0, 0, []),
  (72, .iload_n 2, 1, 2, 0, 0, 0, []),
  (73, .iadd, 1, 0, 0, 0, 0, []),
  (74, .iload_n 3, 1, 3, 0, 0, 0, []),
  (75, .iadd, 1, 0, 0, 0, 0, []),
  (76, .laload, 1, 0, 0, 0, 0, []),
  (77, .aload_n 0, 1, 0, 0, 0, 0, []),
  (78, .getfield 32, 3, 12, 7, 0, 0, []),
  (81, .iload_n 3, 1, 3, 0, 0, 0, []),
  (82, .iaload, 1, 0, 0, 0, 0, []),
  (83, .i2l, 1, 0, 0, 0, 0, []),
  (84, .lcmp, 1, 0, 0, 0, 0, []),
  (85, .ifCond .eq 5, 3, 90, 0, 0, 0, []),
  (88, .iload_n 3, 1, 3, 0, 0, 0, []),
  (89, .ireturn, 1, 0, 0, 0, 0, []),
  (90, .iinc 3 1, 3, 3, 0, 0, 1, []),
  (93, .goto (-69), 3, 24, 0, 0, 0, []),
  (96, .bipush (-5), 2, 0, 0, 0, (-5), []),
  (98, .ireturn, 1, 0, 0, 0, 0, [])]
def zc_X12_image : List (Nat × List Bool) := [(79, [true, true]), (153, [true, true]), (179, [true, true]), (228, [true, true]), (266, [true, true])]
def zo_X12_image : List z_Op := [(0, .aload_n 0, 1, 0, 0, 0, 0, []),
  (1, .iconst 1, 1, 0, 0, 0, 1, []),
  (2, .putfield 171, 3, 12, 53, 0, 0, []),
  (5, .aload_n 0, 1, 0, 0, 0, 0, []),
  (6, .aload_n 0, 1, 0, 0, 0, 0, []),
  (7, .getfield 47, 3, 12, 12, 0, 0, []),
  (10, .putfield 175, 3, 12, 54, 0, 0, []),
  (13, .aload_n 0, 1, 0, 0, 0, 0, []),
  (14, .aload_n 0, 1, 0, 0, 0, 0, []),
  (15, .getfield 7, 3, 12, 0, 0, 0, []),
  (18, .putfield 178, 3, 12, 55, 0, 0, []),
  (21, .aload_n 0, 1, 0, 0, 0, 0, []),
  (22, .aload_n 0, 1, 0, 0, 0, 0, []),
  (23, .getfield 13, 3, 12, 1, 0, 0, []),
  (26, .putfield 181, 3, 12, 56, 0, 0, []),
  (29, .aload_n 0, 1, 0, 0, 0, 0, []),
  (30, .aload_n 0, 1, 0, 0, 0, 0, []),
  (31, .getfield 16, 3, 12, 2, 0, 0, []),
  (34, .putfield 184, 3, 12, 57, 0, 0, []),
  (37, .aload_n 0, 1, 0, 0, 0, 0, []),
  (38, .aload_n 0, 1, 0, 0, 0, 0, []),
  (39, .getfield 19, 3, 12, 3, 0, 0, []),
  (42, .putfield 187, 3, 12, 58, 0, 0, []),
  (45, .aload_n 0, 1, 0, 0, 0, 0, []),
  (46, .aload_n 0, 1, 0, 0, 0, 0, []),
  (47, .getfield 22, 3, 12, 4, 0, 0, []),
  (50, .putfield 190, 3, 12, 59, 0, 0, []),
  (53, .aload_n 0, 1, 0, 0, 0, 0, []),
  (54, .aload_n 0, 1, 0, 0, 0, 0, []),
  (55, .getfield 138, 3, 12, 42, 0, 0, []),
  (58, .putfield 193, 3, 12, 60, 0, 0, []),
  (61, .aload_n 0, 1, 0, 0, 0, 0, []),
  (62, .aload_n 0, 1, 0, 0, 0, 0, []),
  (63, .getfield 153, 3, 12, 47, 0, 0, []),
  (66, .putfield 196, 3, 12, 61, 0, 0, []),
  (69, .aload_n 0, 1, 0, 0, 0, 0, []),
  (70, .aload_n 0, 1, 0, 0, 0, 0, []),
  (71, .getfield 156, 3, 12, 48, 0, 0, []),
  (74, .putfield 199, 3, 12, 62, 0, 0, []),
  (77, .iconst 0, 1, 0, 0, 0, 0, []),
  (78, .istore_n 1, 1, 1, 0, 0, 0, []),
  (79, .iload_n 1, 1, 1, 0, 0, 0, []),
  (80, .bipush 6, 2, 0, 0, 0, 6, []),
  (82, .if_icmp .ge 69, 3, 151, 0, 0, 0, []),
  (85, .aload_n 0, 1, 0, 0, 0, 0, []),
  (86, .getfield 202, 3, 12, 63, 0, 0, []),
  (89, .iload_n 1, 1, 1, 0, 0, 0, []),
  (90, .aload_n 0, 1, 0, 0, 0, 0, []),
  (91, .getfield 25, 3, 12, 5, 0, 0, []),
  (94, .iload_n 1, 1, 1, 0, 0, 0, []),
  (95, .iaload, 1, 0, 0, 0, 0, []),
  (96, .iastore, 1, 0, 0, 0, 0, []),
  (97, .aload_n 0, 1, 0, 0, 0, 0, []),
  (98, .getfield 205, 3, 12, 64, 0, 0, []),
  (101, .iload_n 1, 1, 1, 0, 0, 0, []),
  (102, .aload_n 0, 1, 0, 0, 0, 0, []),
  (103, .getfield 29, 3, 12, 6, 0, 0, []),
  (106, .iload_n 1, 1, 1, 0, 0, 0, []),
  (107, .iaload, 1, 0, 0, 0, 0, []),
  (108, .iastore, 1, 0, 0, 0, 0, []),
  (109, .aload_n 0, 1, 0, 0, 0, 0, []),
  (110, .getfield 208, 3, 12, 65, 0, 0, []),
  (113, .iload_n 1, 1, 1, 0, 0, 0, []),
  (114, .aload_n 0, 1, 0, 0, 0, 0, []),
  (115, .getfield 32, 3, 12, 7, 0, 0, []),
  (118, .iload_n 1, 1, 1, 0, 0, 0, []),
  (119, .iaload, 1, 0, 0, 0, 0, []),
  (120, .iastore, 1, 0, 0, 0, 0, []),
  (121, .aload_n 0, 1, 0, 0, 0, 0, []),
  (122, .getfield 211, 3, 12, 66, 0, 0, []),
  (125, .iload_n 1, 1, 1, 0, 0, 0, []),
  (126, .aload_n 0, 1, 0, 0, 0, 0, []),
  (127, .getfield 35, 3, 12, 8, 0, 0, []),
  (130, .iload_n 1, 1, 1, 0, 0, 0, []),
  (131, .iaload, 1, 0, 0, 0, 0, []),
  (132, .iastore, 1, 0, 0, 0, 0, []),
  (133, .aload_n 0, 1, 0, 0, 0, 0, []),
  (134, .getfield 214, 3, 12, 67, 0, 0, []),
  (137, .iload_n 1, 1, 1, 0, 0, 0, []),
  (138, .aload_n 0, 1, 0, 0, 0, 0, []),
  (139, .getfield 38, 3, 12, 9, 0, 0, []),
  (142, .iload_n 1, 1, 1, 0, 0, 0, []),
  (143, .iaload, 1, 0, 0, 0, 0, []),
  (144, .iastore, 1, 0, 0, 0, 0, []),
  (145, .iinc 1 1, 3, 1, 0, 0, 1, []),
  (148, .goto (-69), 3, 79, 0, 0, 0, []),
  (151, .iconst 0, 1, 0, 0, 0, 0, []),
  (152, .istore_n 1, 1, 1, 0, 0, 0, []),
  (153, .iload_n 1, 1, 1, 0, 0, 0, []),
  (154, .bipush 24, 2, 0, 0, 0, 24, []),
  (156, .if_icmp .ge 21, 3, 177, 0, 0, 0, []),
  (159, .aload_n 0, 1, 0, 0, 0, 0, []),
  (160, .getfield 217, 3, 12, 68, 0, 0, []),
  (163, .iload_n 1, 1, 1, 0, 0, 0, []),
  (164, .aload_n 0, 1, 0, 0, 0, 0, []),
  (165, .getfield 41, 3, 12, 10, 0, 0, []),
  (168, .iload_n 1, 1, 1, 0, 0, 0, []),
  (169, .iaload, 1, 0, 0, 0, 0, []),
  (170, .iastore, 1, 0, 0, 0, 0, []),
  (171, .iinc 1 1, 3, 1, 0, 0, 1, []),
  (174, .goto (-21), 3, 153, 0, 0, 0, []),
  (177, .iconst 0, 1, 0, 0, 0, 0, []),
  (178, .istore_n 1, 1, 1, 0, 0, 0, []),
  (179, .iload_n 1, 1, 1, 0, 0, 0, []),
  (180, .iconst 5, 1, 0, 0, 0, 5, []),
  (181, .if_icmp .ge 45, 3, 226, 0, 0, 0, []),
  (184, .aload_n 0, 1, 0, 0, 0, 0, []),
  (185, .getfield 220, 3, 12, 69, 0, 0, []),
  (188, .iload_n 1, 1, 1, 0, 0, 0, []),
  (189, .aload_n 0, 1, 0, 0, 0, 0, []),
  (190, .getfield 141, 3, 12, 43, 0, 0, []),
  (193, .iload_n 1, 1, 1, 0, 0, 0, []),
  (194, .iaload, 1, 0, 0, 0, 0, []),
  (195, .iastore, 1, 0, 0, 0, 0, []),
  (196, .aload_n 0, 1, 0, 0, 0, 0, []),
  (197, .getfield 223, 3, 12, 70, 0, 0, []),
  (200, .iload_n 1, 1, 1, 0, 0, 0, []),
  (201, .aload_n 0, 1, 0, 0, 0, 0, []),
  (202, .getfield 144, 3, 12, 44, 0, 0, []),
  (205, .iload_n 1, 1, 1, 0, 0, 0, []),
  (206, .iaload, 1, 0, 0, 0, 0, []),
  (207, .iastore, 1, 0, 0, 0, 0, []),
  (208, .aload_n 0, 1, 0, 0, 0, 0, []),
  (209, .getfield 226, 3, 12, 71, 0, 0, []),
  (212, .iload_n 1, 1, 1, 0, 0, 0, []),
  (213, .aload_n 0, 1, 0, 0, 0, 0, []),
  (214, .getfield 147, 3, 12, 45, 0, 0, []),
  (217, .iload_n 1, 1, 1, 0, 0, 0, []),
  (218, .iaload, 1, 0, 0, 0, 0, []),
  (219, .iastore, 1, 0, 0, 0, 0, []),
  (220, .iinc 1 1, 3, 1, 0, 0, 1, []),
  (223, .goto (-44), 3, 179, 0, 0, 0, []),
  (226, .iconst 0, 1, 0, 0, 0, 0, []),
  (227, .istore_n 1, 1, 1, 0, 0, 0, []),
  (228, .iload_n 1, 1, 1, 0, 0, 0, []),
  (229, .bipush 10, 2, 0, 0, 0, 10, []),
  (231, .if_icmp .ge 33, 3, 264, 0, 0, 0, []),
  (234, .aload_n 0, 1, 0, 0, 0, 0, []),
  (235, .getfield 229, 3, 12, 72, 0, 0, []),
  (238, .iload_n 1, 1, 1, 0, 0, 0, []),
  (239, .aload_n 0, 1, 0, 0, 0, 0, []),
  (240, .getfield 159, 3, 12, 49, 0, 0, []),
  (243, .iload_n 1, 1, 1, 0, 0, 0, []),
  (244, .iaload, 1, 0, 0, 0, 0, []),
  (245, .iastore, 1, 0, 0, 0, 0, []),
  (246, .aload_n 0, 1, 0, 0, 0, 0, []),
  (247, .getfield 232, 3, 12, 73, 0, 0, []),
  (250, .iload_n 1, 1, 1, 0, 0, 0, []),
  (251, .aload_n 0, 1, 0, 0, 0, 0, []),
  (252, .getfield 162, 3, 12, 50, 0, 0, []),
  (255, .iload_n 1, 1, 1, 0, 0, 0, []),
  (256, .iaload, 1, 0, 0, 0, 0, []),
  (257, .iastore, 1, 0, 0, 0, 0, []),
  (258, .iinc 1 1, 3, 1, 0, 0, 1, []),
  (261, .goto (-33), 3, 228, 0, 0, 0, []),
  (264, .iconst 0, 1, 0, 0, 0, 0, []),
  (265, .istore_n 1, 1, 1, 0, 0, 0, []),
  (266, .iload_n 1, 1, 1, 0, 0, 0, []),
  (267, .bipush 8, 2, 0, 0, 0, 8, []),
  (269, .if_icmp .ge 33, 3, 302, 0, 0, 0, []),
  (272, .aload_n 0, 1, 0, 0, 0, 0, []),
  (273, .getfield 235, 3, 12, 74, 0, 0, []),
  (276, .iload_n 1, 1, 1, 0, 0, 0, []),
  (277, .aload_n 0, 1, 0, 0, 0, 0, []),
  (278, .getfield 165, 3, 12, 51, 0, 0, []),
  (281, .iload_n 1, 1, 1, 0, 0, 0, []),
  (282, .iaload, 1, 0, 0, 0, 0, []),
  (283, .iastore, 1, 0, 0, 0, 0, []),
  (284, .aload_n 0, 1, 0, 0, 0, 0, []),
  (285, .getfield 238, 3, 12, 75, 0, 0, []),
  (288, .iload_n 1, 1, 1, 0, 0, 0, []),
  (289, .aload_n 0, 1, 0, 0, 0, 0, []),
  (290, .getfield 168, 3, 12, 52, 0, 0, []),
  (293, .iload_n 1, 1, 1, 0, 0, 0, []),
  (294, .iaload, 1, 0, 0, 0, 0, []),
  (295, .iastore, 1, 0, 0, 0, 0, []),
  (296, .iinc 1 1, 3, 1, 0, 0, 1, []),
  (299, .goto (-33), 3, 266, 0, 0, 0, []),
  (302, .aload_n 0, 1, 0, 0, 0, 0, []),
  (303, .getfield 7, 3, 12, 0, 0, 0, []),
  (306, .ireturn, 1, 0, 0, 0, 0, [])]
def zc_X12_undo : List (Nat × List Bool) := [(84, [true, true]), (158, [true, true]), (184, [true, true]), (233, [true, true]), (271, [true, true])]
def zo_X12_undo : List z_Op := [(0, .aload_n 0, 1, 0, 0, 0, 0, []),
  (1, .getfield 171, 3, 12, 53, 0, 0, []),
  (4, .ifCond .ne 6, 3, 10, 0, 0, 0, []),
  (7, .bipush (-3), 2, 0, 0, 0, (-3), []),
  (9, .ireturn, 1, 0, 0, 0, 0, []),
  (10, .aload_n 0, 1, 0, 0, 0, 0, []),
  (11, .aload_n 0, 1, 0, 0, 0, 0, []),
  (12, .getfield 175, 3, 12, 54, 0, 0, []),
  (15, .putfield 47, 3, 12, 12, 0, 0, []),
  (18, .aload_n 0, 1, 0, 0, 0, 0, []),
  (19, .aload_n 0, 1, 0, 0, 0, 0, []),
  (20, .getfield 178, 3, 12, 55, 0, 0, []),
  (23, .putfield 7, 3, 12, 0, 0, 0, []),
  (26, .aload_n 0, 1, 0, 0, 0, 0, []),
  (27, .aload_n 0, 1, 0, 0, 0, 0, []),
  (28, .getfield 181, 3, 12, 56, 0, 0, []),
  (31, .putfield 13, 3, 12, 1, 0, 0, []),
  (34, .aload_n 0, 1, 0, 0, 0, 0, []),
  (35, .aload_n 0, 1, 0, 0, 0, 0, []),
  (36, .getfield 184, 3, 12, 57, 0, 0, []),
  (39, .putfield 16, 3, 12, 2, 0, 0, []),
  (42, .aload_n 0, 1, 0, 0, 0, 0, []),
  (43, .aload_n 0, 1, 0, 0, 0, 0, []),
  (44, .getfield 187, 3, 12, 58, 0, 0, []),
  (47, .putfield 19, 3, 12, 3, 0, 0, []),
  (50, .aload_n 0, 1, 0, 0, 0, 0, []),
  (51, .aload_n 0, 1, 0, 0, 0, 0, []),
  (52, .getfield 190, 3, 12, 59, 0, 0, []),
  (55, .putfield 22, 3, 12, 4, 0, 0, []),
  (58, .aload_n 0, 1, 0, 0, 0, 0, []),
  (59, .aload_n 0, 1, 0, 0, 0, 0, []),
  (60, .getfield 193, 3, 12, 60, 0, 0, []),
  (63, .putfield 138, 3, 12, 42, 0, 0, []),
  (66, .aload_n 0, 1, 0, 0, 0, 0, []),
  (67, .aload_n 0, 1, 0, 0, 0, 0, []),
  (68, .getfield 196, 3, 12, 61, 0, 0, []),
  (71, .putfield 153, 3, 12, 47, 0, 0, []),
  (74, .aload_n 0, 1, 0, 0, 0, 0, []),
  (75, .aload_n 0, 1, 0, 0, 0, 0, []),
  (76, .getfield 199, 3, 12, 62, 0, 0, []),
  (79, .putfield 156, 3, 12, 48, 0, 0, []),
  (82, .iconst 0, 1, 0, 0, 0, 0, []),
  (83, .istore_n 1, 1, 1, 0, 0, 0, []),
  (84, .iload_n 1, 1, 1, 0, 0, 0, []),
  (85, .bipush 6, 2, 0, 0, 0, 6, []),
  (87, .if_icmp .ge 69, 3, 156, 0, 0, 0, []),
  (90, .aload_n 0, 1, 0, 0, 0, 0, []),
  (91, .getfield 25, 3, 12, 5, 0, 0, []),
  (94, .iload_n 1, 1, 1, 0, 0, 0, []),
  (95, .aload_n 0, 1, 0, 0, 0, 0, []),
  (96, .getfield 202, 3, 12, 63, 0, 0, []),
  (99, .iload_n 1, 1, 1, 0, 0, 0, []),
  (100, .iaload, 1, 0, 0, 0, 0, []),
  (101, .iastore, 1, 0, 0, 0, 0, []),
  (102, .aload_n 0, 1, 0, 0, 0, 0, []),
  (103, .getfield 29, 3, 12, 6, 0, 0, []),
  (106, .iload_n 1, 1, 1, 0, 0, 0, []),
  (107, .aload_n 0, 1, 0, 0, 0, 0, []),
  (108, .getfield 205, 3, 12, 64, 0, 0, []),
  (111, .iload_n 1, 1, 1, 0, 0, 0, []),
  (112, .iaload, 1, 0, 0, 0, 0, []),
  (113, .iastore, 1, 0, 0, 0, 0, []),
  (114, .aload_n 0, 1, 0, 0, 0, 0, []),
  (115, .getfield 32, 3, 12, 7, 0, 0, []),
  (118, .iload_n 1, 1, 1, 0, 0, 0, []),
  (119, .aload_n 0, 1, 0, 0, 0, 0, []),
  (120, .getfield 208, 3, 12, 65, 0, 0, []),
  (123, .iload_n 1, 1, 1, 0, 0, 0, []),
  (124, .iaload, 1, 0, 0, 0, 0, []),
  (125, .iastore, 1, 0, 0, 0, 0, []),
  (126, .aload_n 0, 1, 0, 0, 0, 0, []),
  (127, .getfield 35, 3, 12, 8, 0, 0, []),
  (130, .iload_n 1, 1, 1, 0, 0, 0, []),
  (131, .aload_n 0, 1, 0, 0, 0, 0, []),
  (132, .getfield 211, 3, 12, 66, 0, 0, []),
  (135, .iload_n 1, 1, 1, 0, 0, 0, []),
  (136, .iaload, 1, 0, 0, 0, 0, []),
  (137, .iastore, 1, 0, 0, 0, 0, []),
  (138, .aload_n 0, 1, 0, 0, 0, 0, []),
  (139, .getfield 38, 3, 12, 9, 0, 0, []),
  (142, .iload_n 1, 1, 1, 0, 0, 0, []),
  (143, .aload_n 0, 1, 0, 0, 0, 0, []),
  (144, .getfield 214, 3, 12, 67, 0, 0, []),
  (147, .iload_n 1, 1, 1, 0, 0, 0, []),
  (148, .iaload, 1, 0, 0, 0, 0, []),
  (149, .iastore, 1, 0, 0, 0, 0, []),
  (150, .iinc 1 1, 3, 1, 0, 0, 1, []),
  (153, .goto (-69), 3, 84, 0, 0, 0, []),
  (156, .iconst 0, 1, 0, 0, 0, 0, []),
  (157, .istore_n 1, 1, 1, 0, 0, 0, []),
  (158, .iload_n 1, 1, 1, 0, 0, 0, []),
  (159, .bipush 24, 2, 0, 0, 0, 24, []),
  (161, .if_icmp .ge 21, 3, 182, 0, 0, 0, []),
  (164, .aload_n 0, 1, 0, 0, 0, 0, []),
  (165, .getfield 41, 3, 12, 10, 0, 0, []),
  (168, .iload_n 1, 1, 1, 0, 0, 0, []),
  (169, .aload_n 0, 1, 0, 0, 0, 0, []),
  (170, .getfield 217, 3, 12, 68, 0, 0, []),
  (173, .iload_n 1, 1, 1, 0, 0, 0, []),
  (174, .iaload, 1, 0, 0, 0, 0, []),
  (175, .iastore, 1, 0, 0, 0, 0, []),
  (176, .iinc 1 1, 3, 1, 0, 0, 1, []),
  (179, .goto (-21), 3, 158, 0, 0, 0, []),
  (182, .iconst 0, 1, 0, 0, 0, 0, []),
  (183, .istore_n 1, 1, 1, 0, 0, 0, []),
  (184, .iload_n 1, 1, 1, 0, 0, 0, []),
  (185, .iconst 5, 1, 0, 0, 0, 5, []),
  (186, .if_icmp .ge 45, 3, 231, 0, 0, 0, []),
  (189, .aload_n 0, 1, 0, 0, 0, 0, []),
  (190, .getfield 141, 3, 12, 43, 0, 0, []),
  (193, .iload_n 1, 1, 1, 0, 0, 0, []),
  (194, .aload_n 0, 1, 0, 0, 0, 0, []),
  (195, .getfield 220, 3, 12, 69, 0, 0, []),
  (198, .iload_n 1, 1, 1, 0, 0, 0, []),
  (199, .iaload, 1, 0, 0, 0, 0, []),
  (200, .iastore, 1, 0, 0, 0, 0, []),
  (201, .aload_n 0, 1, 0, 0, 0, 0, []),
  (202, .getfield 144, 3, 12, 44, 0, 0, []),
  (205, .iload_n 1, 1, 1, 0, 0, 0, []),
  (206, .aload_n 0, 1, 0, 0, 0, 0, []),
  (207, .getfield 223, 3, 12, 70, 0, 0, []),
  (210, .iload_n 1, 1, 1, 0, 0, 0, []),
  (211, .iaload, 1, 0, 0, 0, 0, []),
  (212, .iastore, 1, 0, 0, 0, 0, []),
  (213, .aload_n 0, 1, 0, 0, 0, 0, []),
  (214, .getfield 147, 3, 12, 45, 0, 0, []),
  (217, .iload_n 1, 1, 1, 0, 0, 0, []),
  (218, .aload_n 0, 1, 0, 0, 0, 0, []),
  (219, .getfield 226, 3, 12, 71, 0, 0, []),
  (222, .iload_n 1, 1, 1, 0, 0, 0, []),
  (223, .iaload, 1, 0, 0, 0, 0, []),
  (224, .iastore, 1, 0, 0, 0, 0, []),
  (225, .iinc 1 1, 3, 1, 0, 0, 1, []),
  (228, .goto (-44), 3, 184, 0, 0, 0, []),
  (231, .iconst 0, 1, 0, 0, 0, 0, []),
  (232, .istore_n 1, 1, 1, 0, 0, 0, []),
  (233, .iload_n 1, 1, 1, 0, 0, 0, []),
  (234, .bipush 10, 2, 0, 0, 0, 10, []),
  (236, .if_icmp .ge 33, 3, 269, 0, 0, 0, []),
  (239, .aload_n 0, 1, 0, 0, 0, 0, []),
  (240, .getfield 159, 3, 12, 49, 0, 0, []),
  (243, .iload_n 1, 1, 1, 0, 0, 0, []),
  (244, .aload_n 0, 1, 0, 0, 0, 0, []),
  (245, .getfield 229, 3, 12, 72, 0, 0, []),
  (248, .iload_n 1, 1, 1, 0, 0, 0, []),
  (249, .iaload, 1, 0, 0, 0, 0, []),
  (250, .iastore, 1, 0, 0, 0, 0, []),
  (251, .aload_n 0, 1, 0, 0, 0, 0, []),
  (252, .getfield 162, 3, 12, 50, 0, 0, []),
  (255, .iload_n 1, 1, 1, 0, 0, 0, []),
  (256, .aload_n 0, 1, 0, 0, 0, 0, []),
  (257, .getfield 232, 3, 12, 73, 0, 0, []),
  (260, .iload_n 1, 1, 1, 0, 0, 0, []),
  (261, .iaload, 1, 0, 0, 0, 0, []),
  (262, .iastore, 1, 0, 0, 0, 0, []),
  (263, .iinc 1 1, 3, 1, 0, 0, 1, []),
  (266, .goto (-33), 3, 233, 0, 0, 0, []),
  (269, .iconst 0, 1, 0, 0, 0, 0, []),
  (270, .istore_n 1, 1, 1, 0, 0, 0, []),
  (271, .iload_n 1, 1, 1, 0, 0, 0, []),
  (272, .bipush 8, 2, 0, 0, 0, 8, []),
  (274, .if_icmp .ge 33, 3, 307, 0, 0, 0, []),
  (277, .aload_n 0, 1, 0, 0, 0, 0, []),
  (278, .getfield 165, 3, 12, 51, 0, 0, []),
  (281, .iload_n 1, 1, 1, 0, 0, 0, []),
  (282, .aload_n 0, 1, 0, 0, 0, 0, []),
  (283, .getfield 235, 3, 12, 74, 0, 0, []),
  (286, .iload_n 1, 1, 1, 0, 0, 0, []),
  (287, .iaload, 1, 0, 0, 0, 0, []),
  (288, .iastore, 1, 0, 0, 0, 0, []),
  (289, .aload_n 0, 1, 0, 0, 0, 0, []),
  (290, .getfield 168, 3, 12, 52, 0, 0, []),
  (293, .iload_n 1, 1, 1, 0, 0, 0, []),
  (294, .aload_n 0, 1, 0, 0, 0, 0, []),
  (295, .getfield 238, 3, 12, 75, 0, 0, []),
  (298, .iload_n 1, 1, 1, 0, 0, 0, []),
  (299, .iaload, 1, 0, 0, 0, 0, []),
  (300, .iastore, 1, 0, 0, 0, 0, []),
  (301, .iinc 1 1, 3, 1, 0, 0, 1, []),
  (304, .goto (-33), 3, 271, 0, 0, 0, []),
  (307, .aload_n 0, 1, 0, 0, 0, 0, []),
  (308, .getfield 7, 3, 12, 0, 0, 0, []),
  (311, .ireturn, 1, 0, 0, 0, 0, [])]
def zc_X12_body : List (Nat × List Bool) := []
def zo_X12_body : List z_Op := [(0, .aload_n 0, 1, 0, 0, 0, 0, []),
  (1, .getfield 241, 3, 12, 76, 0, 0, []),
  (4, .bipush 20, 2, 0, 0, 0, 20, []),
  (6, .if_icmp .ge 13, 3, 19, 0, 0, 0, []),
  (9, .aload_n 0, 1, 0, 0, 0, 0, []),
  (10, .getfield 244, 3, 12, 77, 0, 0, []),
  (13, .aload_n 0, 1, 0, 0, 0, 0, []),
  (14, .getfield 241, 3, 12, 76, 0, 0, []),
  (17, .iload_n 1, 1, 1, 0, 0, 0, []),
  (18, .iastore, 1, 0, 0, 0, 0, []),
  (19, .aload_n 0, 1, 0, 0, 0, 0, []),
  (20, .dup, 1, 0, 0, 0, 0, []),
  (21, .getfield 241, 3, 12, 76, 0, 0, []),
  (24, .iconst 1, 1, 0, 0, 0, 1, []),
  (25, .iadd, 1, 0, 0, 0, 0, []),
  (26, .putfield 241, 3, 12, 76, 0, 0, []),
  (29, .return_, 1, 0, 0, 0, 0, [])]
def zc_X12_pairDrips : List (Nat × List Bool) := []
def zo_X12_pairDrips : List z_Op := [(0, .aload_n 0, 1, 0, 0, 0, 0, []),
  (1, .bipush 10, 2, 0, 0, 0, 10, []),
  (3, .invokevirtual 443, 3, 210, 2, 12, 0, []),
  (6, .iload_n 2, 1, 2, 0, 0, 0, []),
  (7, .iload_n 1, 1, 1, 0, 0, 0, []),
  (8, .iadd, 1, 0, 0, 0, 0, []),
  (9, .ireturn, 1, 0, 0, 0, 0, [])]
def zc_X12_dripsAct : List (Nat × List Bool) := []
def zo_X12_dripsAct : List z_Op := [(0, .aload_n 0, 1, 0, 0, 0, 0, []),
  (1, .getfield 25, 3, 12, 5, 0, 0, []),
  (4, .iload_n 1, 1, 1, 0, 0, 0, []),
  (5, .iaload, 1, 0, 0, 0, 0, []),
  (6, .tableswitch 83 2 6 #[34, 83, 49, 34, 63], 34, 89, 0, 0, 0, [(2, 40), (3, 89), (4, 55), (5, 40), (6, 69)]),
  (40, .aload_n 0, 1, 0, 0, 0, 0, []),
  (41, .bipush 30, 2, 0, 0, 0, 30, []),
  (43, .invokevirtual 443, 3, 210, 2, 12, 0, []),
  (46, .aload_n 0, 1, 0, 0, 0, 0, []),
  (47, .iload_n 1, 1, 1, 0, 0, 0, []),
  (48, .iload_n 2, 1, 2, 0, 0, 0, []),
  (49, .iconst 3, 1, 0, 0, 0, 3, []),
  (50, .imul, 1, 0, 0, 0, 0, []),
  (51, .invokevirtual 446, 3, 211, 3, 12, 1, []),
  (54, .ireturn, 1, 0, 0, 0, 0, []),
  (55, .aload_n 0, 1, 0, 0, 0, 0, []),
  (56, .bipush 50, 2, 0, 0, 0, 50, []),
  (58, .invokevirtual 443, 3, 210, 2, 12, 0, []),
  (61, .aload_n 0, 1, 0, 0, 0, 0, []),
  (62, .iload_n 1, 1, 1, 0, 0, 0, []),
  (63, .iload_n 2, 1, 2, 0, 0, 0, []),
  (64, .invokevirtual 446, 3, 211, 3, 12, 1, []),
  (67, .ineg, 1, 0, 0, 0, 0, []),
  (68, .ireturn, 1, 0, 0, 0, 0, []),
  (69, .aload_n 0, 1, 0, 0, 0, 0, []),
  (70, .bipush 71, 2, 0, 0, 0, 71, []),
  (72, .invokevirtual 443, 3, 210, 2, 12, 0, []),
  (75, .aload_n 0, 1, 0, 0, 0, 0, []),
  (76, .iload_n 1, 1, 1, 0, 0, 0, []),
  (77, .iload_n 2, 1, 2, 0, 0, 0, []),
  (78, .invokevirtual 446, 3, 211, 3, 12, 1, []),
  (81, .aload_n 0, 1, 0, 0, 0, 0, []),
  (82, .getfield 29, 3, 12, 6, 0, 0, []),
  (85, .iload_n 1, 1, 1, 0, 0, 0, []),
  (86, .iaload, 1, 0, 0, 0, 0, []),
  (87, .ixor, 1, 0, 0, 0, 0, []),
  (88, .ireturn, 1, 0, 0, 0, 0, []),
  (89, .aload_n 0, 1, 0, 0, 0, 0, []),
  (90, .iload_n 1, 1, 1, 0, 0, 0, []),
  (91, .iload_n 2, 1, 2, 0, 0, 0, []),
  (92, .invokevirtual 446, 3, 211, 3, 12, 1, []),
  (95, .ireturn, 1, 0, 0, 0, 0, [])]
def zc_X12_pairSteams : List (Nat × List Bool) := []
def zo_X12_pairSteams : List z_Op := [(0, .aload_n 0, 1, 0, 0, 0, 0, []),
  (1, .bipush 11, 2, 0, 0, 0, 11, []),
  (3, .invokevirtual 443, 3, 210, 2, 12, 0, []),
  (6, .aload_n 0, 1, 0, 0, 0, 0, []),
  (7, .iload_n 1, 1, 1, 0, 0, 0, []),
  (8, .iload_n 2, 1, 2, 0, 0, 0, []),
  (9, .invokevirtual 449, 3, 212, 3, 12, 1, []),
  (12, .aload_n 0, 1, 0, 0, 0, 0, []),
  (13, .getfield 29, 3, 12, 6, 0, 0, []),
  (16, .iload_n 1, 1, 1, 0, 0, 0, []),
  (17, .iaload, 1, 0, 0, 0, 0, []),
  (18, .isub, 1, 0, 0, 0, 0, []),
  (19, .ireturn, 1, 0, 0, 0, 0, [])]
def zc_X12_leatherSteams : List (Nat × List Bool) := []
def zo_X12_leatherSteams : List z_Op := [(0, .aload_n 0, 1, 0, 0, 0, 0, []),
  (1, .bipush 20, 2, 0, 0, 0, 20, []),
  (3, .invokevirtual 443, 3, 210, 2, 12, 0, []),
  (6, .aload_n 0, 1, 0, 0, 0, 0, []),
  (7, .iload_n 1, 1, 1, 0, 0, 0, []),
  (8, .iload_n 2, 1, 2, 0, 0, 0, []),
  (9, .invokevirtual 452, 3, 213, 3, 12, 1, []),
  (12, .bipush 6, 2, 0, 0, 0, 6, []),
  (14, .ixor, 1, 0, 0, 0, 0, []),
  (15, .ireturn, 1, 0, 0, 0, 0, [])]
def zc_X12_steamsAct : List (Nat × List Bool) := []
def zo_X12_steamsAct : List z_Op := [(0, .aload_n 0, 1, 0, 0, 0, 0, []),
  (1, .getfield 25, 3, 12, 5, 0, 0, []),
  (4, .iload_n 1, 1, 1, 0, 0, 0, []),
  (5, .iaload, 1, 0, 0, 0, 0, []),
  (6, .lookupswitch 78 #[(1, 34), (4, 41), (6, 56)], 34, 84, 0, 0, 0, [((1), 40), ((4), 47), ((6), 62)]),
  (40, .aload_n 0, 1, 0, 0, 0, 0, []),
  (41, .iload_n 1, 1, 1, 0, 0, 0, []),
  (42, .iload_n 2, 1, 2, 0, 0, 0, []),
  (43, .invokevirtual 455, 3, 214, 3, 12, 1, []),
  (46, .ireturn, 1, 0, 0, 0, 0, []),
  (47, .aload_n 0, 1, 0, 0, 0, 0, []),
  (48, .bipush 51, 2, 0, 0, 0, 51, []),
  (50, .invokevirtual 443, 3, 210, 2, 12, 0, []),
  (53, .aload_n 0, 1, 0, 0, 0, 0, []),
  (54, .iload_n 1, 1, 1, 0, 0, 0, []),
  (55, .iload_n 2, 1, 2, 0, 0, 0, []),
  (56, .iconst 1, 1, 0, 0, 0, 1, []),
  (57, .iadd, 1, 0, 0, 0, 0, []),
  (58, .invokevirtual 455, 3, 214, 3, 12, 1, []),
  (61, .ireturn, 1, 0, 0, 0, 0, []),
  (62, .aload_n 0, 1, 0, 0, 0, 0, []),
  (63, .bipush 70, 2, 0, 0, 0, 70, []),
  (65, .invokevirtual 443, 3, 210, 2, 12, 0, []),
  (68, .aload_n 0, 1, 0, 0, 0, 0, []),
  (69, .iload_n 1, 1, 1, 0, 0, 0, []),
  (70, .iload_n 2, 1, 2, 0, 0, 0, []),
  (71, .invokevirtual 452, 3, 213, 3, 12, 1, []),
  (74, .istore_n 3, 1, 3, 0, 0, 0, []),
  (75, .iload_n 3, 1, 3, 0, 0, 0, []),
  (76, .aload_n 0, 1, 0, 0, 0, 0, []),
  (77, .iload_n 1, 1, 1, 0, 0, 0, []),
  (78, .iconst 2, 1, 0, 0, 0, 2, []),
  (79, .invokevirtual 446, 3, 211, 3, 12, 1, []),
  (82, .iadd, 1, 0, 0, 0, 0, []),
  (83, .ireturn, 1, 0, 0, 0, 0, []),
  (84, .aload_n 0, 1, 0, 0, 0, 0, []),
  (85, .iload_n 1, 1, 1, 0, 0, 0, []),
  (86, .iload_n 2, 1, 2, 0, 0, 0, []),
  (87, .invokevirtual 452, 3, 213, 3, 12, 1, []),
  (90, .ireturn, 1, 0, 0, 0, 0, [])]
def zc_X12_pairTells : List (Nat × List Bool) := []
def zo_X12_pairTells : List z_Op := [(0, .aload_n 0, 1, 0, 0, 0, 0, []),
  (1, .bipush 12, 2, 0, 0, 0, 12, []),
  (3, .invokevirtual 443, 3, 210, 2, 12, 0, []),
  (6, .aload_n 0, 1, 0, 0, 0, 0, []),
  (7, .iload_n 1, 1, 1, 0, 0, 0, []),
  (8, .iload_n 2, 1, 2, 0, 0, 0, []),
  (9, .invokevirtual 458, 3, 215, 3, 12, 1, []),
  (12, .iconst 2, 1, 0, 0, 0, 2, []),
  (13, .imul, 1, 0, 0, 0, 0, []),
  (14, .ireturn, 1, 0, 0, 0, 0, [])]
def zc_X12_tellsAct : List (Nat × List Bool) := []
def zo_X12_tellsAct : List z_Op := [(0, .aload_n 0, 1, 0, 0, 0, 0, []),
  (1, .getfield 25, 3, 12, 5, 0, 0, []),
  (4, .iload_n 1, 1, 1, 0, 0, 0, []),
  (5, .iaload, 1, 0, 0, 0, 0, []),
  (6, .tableswitch 67 3 6 #[30, 67, 52, 30], 30, 73, 0, 0, 0, [(3, 36), (4, 73), (5, 58), (6, 36)]),
  (36, .aload_n 0, 1, 0, 0, 0, 0, []),
  (37, .bipush 40, 2, 0, 0, 0, 40, []),
  (39, .invokevirtual 443, 3, 210, 2, 12, 0, []),
  (42, .aload_n 0, 1, 0, 0, 0, 0, []),
  (43, .iload_n 1, 1, 1, 0, 0, 0, []),
  (44, .iload_n 2, 1, 2, 0, 0, 0, []),
  (45, .invokevirtual 461, 3, 216, 3, 12, 1, []),
  (48, .istore_n 3, 1, 3, 0, 0, 0, []),
  (49, .iload_n 3, 1, 3, 0, 0, 0, []),
  (50, .aload_n 0, 1, 0, 0, 0, 0, []),
  (51, .iload_n 1, 1, 1, 0, 0, 0, []),
  (52, .iconst 1, 1, 0, 0, 0, 1, []),
  (53, .invokevirtual 458, 3, 215, 3, 12, 1, []),
  (56, .iadd, 1, 0, 0, 0, 0, []),
  (57, .ireturn, 1, 0, 0, 0, 0, []),
  (58, .aload_n 0, 1, 0, 0, 0, 0, []),
  (59, .bipush 60, 2, 0, 0, 0, 60, []),
  (61, .invokevirtual 443, 3, 210, 2, 12, 0, []),
  (64, .aload_n 0, 1, 0, 0, 0, 0, []),
  (65, .iload_n 1, 1, 1, 0, 0, 0, []),
  (66, .iload_n 2, 1, 2, 0, 0, 0, []),
  (67, .iload_n 1, 1, 1, 0, 0, 0, []),
  (68, .isub, 1, 0, 0, 0, 0, []),
  (69, .invokevirtual 461, 3, 216, 3, 12, 1, []),
  (72, .ireturn, 1, 0, 0, 0, 0, []),
  (73, .aload_n 0, 1, 0, 0, 0, 0, []),
  (74, .iload_n 1, 1, 1, 0, 0, 0, []),
  (75, .iload_n 2, 1, 2, 0, 0, 0, []),
  (76, .invokevirtual 461, 3, 216, 3, 12, 1, []),
  (79, .ireturn, 1, 0, 0, 0, 0, [])]
def zc_X12_act : List (Nat × List Bool) := []
def zo_X12_act : List z_Op := [(0, .aload_n 0, 1, 0, 0, 0, 0, []),
  (1, .iconst 0, 1, 0, 0, 0, 0, []),
  (2, .putfield 241, 3, 12, 76, 0, 0, []),
  (5, .aload_n 0, 1, 0, 0, 0, 0, []),
  (6, .iload_n 1, 1, 1, 0, 0, 0, []),
  (7, .invokevirtual 276, 3, 129, 2, 12, 1, []),
  (10, .ifCond .eq 13, 3, 23, 0, 0, 0, []),
  (13, .aload_n 0, 1, 0, 0, 0, 0, []),
  (14, .iload_n 2, 1, 2, 0, 0, 0, []),
  (15, .iconst 0, 1, 0, 0, 0, 0, []),
  (16, .iconst 2, 1, 0, 0, 0, 2, []),
  (17, .invokevirtual 264, 3, 124, 4, 12, 1, []),
  (20, .ifCond .ne 5, 3, 25, 0, 0, 0, []),
  (23, .iconst 0, 1, 0, 0, 0, 0, []),
  (24, .ireturn, 1, 0, 0, 0, 0, []),
  (25, .iload_n 2, 1, 2, 0, 0, 0, []),
  (26, .ifCond .ne 12, 3, 38, 0, 0, 0, []),
  (29, .aload_n 0, 1, 0, 0, 0, 0, []),
  (30, .iload_n 1, 1, 1, 0, 0, 0, []),
  (31, .iload_n 3, 1, 3, 0, 0, 0, []),
  (32, .invokevirtual 449, 3, 212, 3, 12, 1, []),
  (35, .goto 23, 3, 58, 0, 0, 0, []),
  (38, .iload_n 2, 1, 2, 0, 0, 0, []),
  (39, .iconst 1, 1, 0, 0, 0, 1, []),
  (40, .if_icmp .ne 12, 3, 52, 0, 0, 0, []),
  (43, .aload_n 0, 1, 0, 0, 0, 0, []),
  (44, .iload_n 1, 1, 1, 0, 0, 0, []),
  (45, .iload_n 3, 1, 3, 0, 0, 0, []),
  (46, .invokevirtual 458, 3, 215, 3, 12, 1, []),
  (49, .goto 9, 3, 58, 0, 0, 0, []),
  (52, .aload_n 0, 1, 0, 0, 0, 0, []),
  (53, .iload_n 1, 1, 1, 0, 0, 0, []),
  (54, .iload_n 3, 1, 3, 0, 0, 0, []),
  (55, .invokevirtual 464, 3, 217, 3, 12, 1, []),
  (58, .ireturn, 1, 0, 0, 0, 0, [])]
def zc_X12_trace : List (Nat × List Bool) := []
def zo_X12_trace : List z_Op := [(0, .aload_n 0, 1, 0, 0, 0, 0, []),
  (1, .iload_n 1, 1, 1, 0, 0, 0, []),
  (2, .iconst 0, 1, 0, 0, 0, 0, []),
  (3, .bipush 19, 2, 0, 0, 0, 19, []),
  (5, .invokevirtual 264, 3, 124, 4, 12, 1, []),
  (8, .ifCond .eq 20, 3, 28, 0, 0, 0, []),
  (11, .iload_n 1, 1, 1, 0, 0, 0, []),
  (12, .aload_n 0, 1, 0, 0, 0, 0, []),
  (13, .getfield 241, 3, 12, 76, 0, 0, []),
  (16, .if_icmp .ge 12, 3, 28, 0, 0, 0, []),
  (19, .aload_n 0, 1, 0, 0, 0, 0, []),
  (20, .getfield 244, 3, 12, 77, 0, 0, []),
  (23, .iload_n 1, 1, 1, 0, 0, 0, []),
  (24, .iaload, 1, 0, 0, 0, 0, []),
  (25, .goto 4, 3, 29, 0, 0, 0, []),
  (28, .iconst (-1), 1, 0, 0, 0, (-1), []),
  (29, .ireturn, 1, 0, 0, 0, 0, [])]
def zc_X12_taken : List (Nat × List Bool) := []
def zo_X12_taken : List z_Op := [(0, .aload_n 0, 1, 0, 0, 0, 0, []),
  (1, .iload_n 2, 1, 2, 0, 0, 0, []),
  (2, .iconst 0, 1, 0, 0, 0, 0, []),
  (3, .bipush 6, 2, 0, 0, 0, 6, []),
  (5, .invokevirtual 264, 3, 124, 4, 12, 1, []),
  (8, .ifCond .ne 6, 3, 14, 0, 0, 0, []),
  (11, .bipush (-2), 2, 0, 0, 0, (-2), []),
  (13, .ireturn, 1, 0, 0, 0, 0, []),
  (14, .aload_n 0, 1, 0, 0, 0, 0, []),
  (15, .iload_n 1, 1, 1, 0, 0, 0, []),
  (16, .invokevirtual 276, 3, 129, 2, 12, 1, []),
  (19, .ifCond .ne 6, 3, 25, 0, 0, 0, []),
  (22, .bipush (-11), 2, 0, 0, 0, (-11), []),
  (24, .ireturn, 1, 0, 0, 0, 0, []),
  (25, .aload_n 0, 1, 0, 0, 0, 0, []),
  (26, .getfield 25, 3, 12, 5, 0, 0, []),
  (29, .iload_n 1, 1, 1, 0, 0, 0, []),
  (30, .iaload, 1, 0, 0, 0, 0, []),
  (31, .istore_n 3, 1, 3, 0, 0, 0, []),
  (32, .iload_n 2, 1, 2, 0, 0, 0, []),
  (33, .ifCond .eq 39, 3, 72, 0, 0, 0, []),
  (36, .iload_n 3, 1, 3, 0, 0, 0, []),
  (37, .iload_n 2, 1, 2, 0, 0, 0, []),
  (38, .if_icmp .eq 34, 3, 72, 0, 0, 0, []),
  (41, .iload_n 2, 1, 2, 0, 0, 0, []),
  (42, .iconst 1, 1, 0, 0, 0, 1, []),
  (43, .if_icmp .ne 8, 3, 51, 0, 0, 0, []),
  (46, .iload_n 3, 1, 3, 0, 0, 0, []),
  (47, .iconst 4, 1, 0, 0, 0, 4, []),
  (48, .if_icmp .eq 24, 3, 72, 0, 0, 0, []),
  (51, .iload_n 2, 1, 2, 0, 0, 0, []),
  (52, .iconst 2, 1, 0, 0, 0, 2, []),
  (53, .if_icmp .ne 8, 3, 61, 0, 0, 0, []),
  (56, .iload_n 3, 1, 3, 0, 0, 0, []),
  (57, .iconst 5, 1, 0, 0, 0, 5, []),
  (58, .if_icmp .eq 14, 3, 72, 0, 0, 0, []),
  (61, .iload_n 2, 1, 2, 0, 0, 0, []),
  (62, .iconst 3, 1, 0, 0, 0, 3, []),
  (63, .if_icmp .ne 13, 3, 76, 0, 0, 0, []),
  (66, .iload_n 3, 1, 3, 0, 0, 0, []),
  (67, .bipush 6, 2, 0, 0, 0, 6, []),
  (69, .if_icmp .ne 7, 3, 76, 0, 0, 0, []),
  (72, .iload_n 3, 1, 3, 0, 0, 0, []),
  (73, .goto 5, 3, 78, 0, 0, 0, []),
  (76, .bipush (-12), 2, 0, 0, 0, (-12), []),
  (78, .ireturn, 1, 0, 0, 0, 0, [])]
def zc_X12_count : List (Nat × List Bool) := []
def zo_X12_count : List z_Op := [(0, .iload_n 1, 1, 1, 0, 0, 0, []),
  (1, .tableswitch 78 0 6 #[43, 48, 53, 58, 63, 68, 73], 43, 79, 0, 0, 0, [(0, 44), (1, 49), (2, 54), (3, 59), (4, 64), (5, 69), (6, 74)]),
  (44, .aload_n 0, 1, 0, 0, 0, 0, []),
  (45, .getfield 7, 3, 12, 0, 0, 0, []),
  (48, .ireturn, 1, 0, 0, 0, 0, []),
  (49, .aload_n 0, 1, 0, 0, 0, 0, []),
  (50, .getfield 44, 3, 12, 11, 0, 0, []),
  (53, .ireturn, 1, 0, 0, 0, 0, []),
  (54, .aload_n 0, 1, 0, 0, 0, 0, []),
  (55, .getfield 138, 3, 12, 42, 0, 0, []),
  (58, .ireturn, 1, 0, 0, 0, 0, []),
  (59, .aload_n 0, 1, 0, 0, 0, 0, []),
  (60, .getfield 153, 3, 12, 47, 0, 0, []),
  (63, .ireturn, 1, 0, 0, 0, 0, []),
  (64, .aload_n 0, 1, 0, 0, 0, 0, []),
  (65, .getfield 156, 3, 12, 48, 0, 0, []),
  (68, .ireturn, 1, 0, 0, 0, 0, []),
  (69, .aload_n 0, 1, 0, 0, 0, 0, []),
  (70, .getfield 50, 3, 12, 13, 0, 0, []),
  (73, .ireturn, 1, 0, 0, 0, 0, []),
  (74, .aload_n 0, 1, 0, 0, 0, 0, []),
  (75, .getfield 241, 3, 12, 76, 0, 0, []),
  (78, .ireturn, 1, 0, 0, 0, 0, []),
  (79, .bipush (-2), 2, 0, 0, 0, (-2), []),
  (81, .ireturn, 1, 0, 0, 0, 0, [])]
def zc_X12_isTape : List (Nat × List Bool) := []
def zo_X12_isTape : List z_Op := [(0, .aload_n 0, 1, 0, 0, 0, 0, []),
  (1, .iload_n 1, 1, 1, 0, 0, 0, []),
  (2, .iconst 0, 1, 0, 0, 0, 0, []),
  (3, .iconst 5, 1, 0, 0, 0, 5, []),
  (4, .invokevirtual 264, 3, 124, 4, 12, 1, []),
  (7, .ireturn, 1, 0, 0, 0, 0, [])]
def zc_X12_tape : List (Nat × List Bool) := [(69, [true, true, false, false, true])]
def zo_X12_tape : List z_Op := [(0, .aload_n 0, 1, 0, 0, 0, 0, []),
  (1, .iload_n 1, 1, 1, 0, 0, 0, []),
  (2, .invokevirtual 440, 3, 222, 2, 12, 1, []),
  (5, .ifCond .ne 5, 3, 10, 0, 0, 0, []),
  (8, .iconst (-1), 1, 0, 0, 0, (-1), []),
  (9, .ireturn, 1, 0, 0, 0, 0, []),
  (10, .aload_n 0, 1, 0, 0, 0, 0, []),
  (11, .iload_n 2, 1, 2, 0, 0, 0, []),
  (12, .iconst (-1), 1, 0, 0, 0, (-1), []),
  (13, .iconst 4, 1, 0, 0, 0, 4, []),
  (14, .invokevirtual 264, 3, 124, 4, 12, 1, []),
  (17, .ifCond .eq 13, 3, 30, 0, 0, 0, []),
  (20, .iload_n 2, 1, 2, 0, 0, 0, []),
  (21, .ifCond .lt 12, 3, 33, 0, 0, 0, []),
  (24, .iload_n 3, 1, 3, 0, 0, 0, []),
  (25, .bipush 60, 2, 0, 0, 0, 60, []),
  (27, .if_icmp .le 6, 3, 33, 0, 0, 0, []),
  (30, .bipush (-2), 2, 0, 0, 0, (-2), []),
  (32, .ireturn, 1, 0, 0, 0, 0, []),
  (33, .iload_n 2, 1, 2, 0, 0, 0, []),
  (34, .ifCond .lt 10, 3, 44, 0, 0, 0, []),
  (37, .iload_n 3, 1, 3, 0, 0, 0, []),
  (38, .ifCond .ge 6, 3, 44, 0, 0, 0, []),
  (41, .bipush (-14), 2, 0, 0, 0, (-14), []),
  (43, .ireturn, 1, 0, 0, 0, 0, []),
  (44, .aload_n 0, 1, 0, 0, 0, 0, []),
  (45, .getfield 247, 3, 12, 78, 0, 0, []),
  (48, .iload_n 1, 1, 1, 0, 0, 0, []),
  (49, .iload_n 2, 1, 2, 0, 0, 0, []),
  (50, .iastore, 1, 0, 0, 0, 0, []),
  (51, .aload_n 0, 1, 0, 0, 0, 0, []),
  (52, .getfield 250, 3, 12, 79, 0, 0, []),
  (55, .iload_n 1, 1, 1, 0, 0, 0, []),
  (56, .iload_n 2, 1, 2, 0, 0, 0, []),
  (57, .ifCond .ge 7, 3, 64, 0, 0, 0, []),
  (60, .iconst 0, 1, 0, 0, 0, 0, []),
  (61, .goto 4, 3, 65, 0, 0, 0, []),
  (64, .iload_n 3, 1, 3, 0, 0, 0, []),
  (65, .iastore, 1, 0, 0, 0, 0, []),
  (66, .iconst 0, 1, 0, 0, 0, 0, []),
  (67, .istore 4, 2, 4, 0, 0, 0, []),
  (69, .iload 4, 2, 4, 0, 0, 0, []),
  (71, .bipush 60, 2, 0, 0, 0, 60, []),
  (73, .if_icmp .ge 22, 3, 95, 0, 0, 0, []),
  (76, .aload_n 0, 1, 0, 0, 0, 0, []),
  (77, .getfield 253, 3, 12, 80, 0, 0, []),
  (80, .bipush 60, 2, 0, 0, 0, 60, []),
  (82, .iload_n 1, 1, 1, 0, 0, 0, []),
  (83, .imul, 1, 0, 0, 0, 0, []),
  (84, .iload 4, 2, 4, 0, 0, 0, []),
  (86, .iadd, 1, 0, 0, 0, 0, []),
  (87, .lconst 0, 1, 0, 0, 0, 0, []),
  (88, .lastore, 1, 0, 0, 0, 0, []),
  (89, .iinc 4 1, 3, 4, 0, 0, 1, []),
  (92, .goto (-23), 3, 69, 0, 0, 0, []),
  (95, .iconst 1, 1, 0, 0, 0, 1, []),
  (96, .ireturn, 1, 0, 0, 0, 0, [])]
def zc_X12_narrow : List (Nat × List Bool) := []
def zo_X12_narrow : List z_Op := [(0, .iload_n 1, 1, 1, 0, 0, 0, []),
  (1, .ifCond .ne 10, 3, 11, 0, 0, 0, []),
  (4, .lload_n 2, 1, 2, 0, 0, 0, []),
  (5, .l2i, 1, 0, 0, 0, 0, []),
  (6, .i2b, 1, 0, 0, 0, 0, []),
  (7, .i2l, 1, 0, 0, 0, 0, []),
  (8, .goto 46, 3, 54, 0, 0, 0, []),
  (11, .iload_n 1, 1, 1, 0, 0, 0, []),
  (12, .iconst 1, 1, 0, 0, 0, 1, []),
  (13, .if_icmp .ne 10, 3, 23, 0, 0, 0, []),
  (16, .lload_n 2, 1, 2, 0, 0, 0, []),
  (17, .l2i, 1, 0, 0, 0, 0, []),
  (18, .i2s, 1, 0, 0, 0, 0, []),
  (19, .i2l, 1, 0, 0, 0, 0, []),
  (20, .goto 34, 3, 54, 0, 0, 0, []),
  (23, .iload_n 1, 1, 1, 0, 0, 0, []),
  (24, .iconst 2, 1, 0, 0, 0, 2, []),
  (25, .if_icmp .ne 9, 3, 34, 0, 0, 0, []),
  (28, .lload_n 2, 1, 2, 0, 0, 0, []),
  (29, .l2i, 1, 0, 0, 0, 0, []),
  (30, .i2l, 1, 0, 0, 0, 0, []),
  (31, .goto 23, 3, 54, 0, 0, 0, []),
  (34, .iload_n 1, 1, 1, 0, 0, 0, []),
  (35, .iconst 4, 1, 0, 0, 0, 4, []),
  (36, .if_icmp .ne 17, 3, 53, 0, 0, 0, []),
  (39, .lload_n 2, 1, 2, 0, 0, 0, []),
  (40, .lconst 0, 1, 0, 0, 0, 0, []),
  (41, .lcmp, 1, 0, 0, 0, 0, []),
  (42, .ifCond .eq 7, 3, 49, 0, 0, 0, []),
  (45, .lconst 1, 1, 0, 0, 0, 0, []),
  (46, .goto 8, 3, 54, 0, 0, 0, []),
  (49, .lconst 0, 1, 0, 0, 0, 0, []),
  (50, .goto 4, 3, 54, 0, 0, 0, []),
  (53, .lload_n 2, 1, 2, 0, 0, 0, []),
  (54, .lreturn, 1, 0, 0, 0, 0, [])]
def zc_X12_item : List (Nat × List Bool) := []
def zo_X12_item : List z_Op := [(0, .aload_n 0, 1, 0, 0, 0, 0, []),
  (1, .iload_n 1, 1, 1, 0, 0, 0, []),
  (2, .invokevirtual 440, 3, 222, 2, 12, 1, []),
  (5, .ifCond .ne 5, 3, 10, 0, 0, 0, []),
  (8, .iconst (-1), 1, 0, 0, 0, (-1), []),
  (9, .ireturn, 1, 0, 0, 0, 0, []),
  (10, .aload_n 0, 1, 0, 0, 0, 0, []),
  (11, .getfield 247, 3, 12, 78, 0, 0, []),
  (14, .iload_n 1, 1, 1, 0, 0, 0, []),
  (15, .iaload, 1, 0, 0, 0, 0, []),
  (16, .ifCond .ge 6, 3, 22, 0, 0, 0, []),
  (19, .bipush (-11), 2, 0, 0, 0, (-11), []),
  (21, .ireturn, 1, 0, 0, 0, 0, []),
  (22, .aload_n 0, 1, 0, 0, 0, 0, []),
  (23, .iload_n 2, 1, 2, 0, 0, 0, []),
  (24, .iconst 0, 1, 0, 0, 0, 0, []),
  (25, .aload_n 0, 1, 0, 0, 0, 0, []),
  (26, .getfield 250, 3, 12, 79, 0, 0, []),
  (29, .iload_n 1, 1, 1, 0, 0, 0, []),
  (30, .iaload, 1, 0, 0, 0, 0, []),
  (31, .iconst 1, 1, 0, 0, 0, 1, []),
  (32, .isub, 1, 0, 0, 0, 0, []),
  (33, .invokevirtual 264, 3, 124, 4, 12, 1, []),
  (36, .ifCond .ne 6, 3, 42, 0, 0, 0, []),
  (39, .bipush (-13), 2, 0, 0, 0, (-13), []),
  (41, .ireturn, 1, 0, 0, 0, 0, []),
  (42, .aload_n 0, 1, 0, 0, 0, 0, []),
  (43, .getfield 253, 3, 12, 80, 0, 0, []),
  (46, .bipush 60, 2, 0, 0, 0, 60, []),
  (48, .iload_n 1, 1, 1, 0, 0, 0, []),
  (49, .imul, 1, 0, 0, 0, 0, []),
  (50, .iload_n 2, 1, 2, 0, 0, 0, []),
  (51, .iadd, 1, 0, 0, 0, 0, []),
  (52, .aload_n 0, 1, 0, 0, 0, 0, []),
  (53, .aload_n 0, 1, 0, 0, 0, 0, []),
  (54, .getfield 247, 3, 12, 78, 0, 0, []),
  (57, .iload_n 1, 1, 1, 0, 0, 0, []),
  (58, .iaload, 1, 0, 0, 0, 0, []),
  (59, .lload_n 3, 1, 3, 0, 0, 0, []),
  (60, .invokevirtual 467, 3, 224, 3, 12, 2, []),
  (63, .lastore, 1, 0, 0, 0, 0, []),
  (64, .iconst 1, 1, 0, 0, 0, 1, []),
  (65, .ireturn, 1, 0, 0, 0, 0, [])]
def zc_X12_read : List (Nat × List Bool) := []
def zo_X12_read : List z_Op := [(0, .aload_n 0, 1, 0, 0, 0, 0, []),
  (1, .iload_n 1, 1, 1, 0, 0, 0, []),
  (2, .invokevirtual 440, 3, 222, 2, 12, 1, []),
  (5, .ifCond .eq 29, 3, 34, 0, 0, 0, []),
  (8, .aload_n 0, 1, 0, 0, 0, 0, []),
  (9, .getfield 247, 3, 12, 78, 0, 0, []),
  (12, .iload_n 1, 1, 1, 0, 0, 0, []),
  (13, .iaload, 1, 0, 0, 0, 0, []),
  (14, .ifCond .lt 20, 3, 34, 0, 0, 0, []),
  (17, .aload_n 0, 1, 0, 0, 0, 0, []),
  (18, .iload_n 2, 1, 2, 0, 0, 0, []),
  (19, .iconst 0, 1, 0, 0, 0, 0, []),
  (20, .aload_n 0, 1, 0, 0, 0, 0, []),
  (21, .getfield 250, 3, 12, 79, 0, 0, []),
  (24, .iload_n 1, 1, 1, 0, 0, 0, []),
  (25, .iaload, 1, 0, 0, 0, 0, []),
  (26, .iconst 1, 1, 0, 0, 0, 1, []),
  (27, .isub, 1, 0, 0, 0, 0, []),
  (28, .invokevirtual 264, 3, 124, 4, 12, 1, []),
  (31, .ifCond .ne 9, 3, 40, 0, 0, 0, []),
  (34, .ldc2_w 428, 3, 9223372036854775808, 0, 0, 0, []),
  (37, .goto 14, 3, 51, 0, 0, 0, []),
  (40, .aload_n 0, 1, 0, 0, 0, 0, []),
  (41, .getfield 253, 3, 12, 80, 0, 0, []),
  (44, .bipush 60, 2, 0, 0, 0, 60, []),
  (46, .iload_n 1, 1, 1, 0, 0, 0, []),
  (47, .imul, 1, 0, 0, 0, 0, []),
  (48, .iload_n 2, 1, 2, 0, 0, 0, []),
  (49, .iadd, 1, 0, 0, 0, 0, []),
  (50, .laload, 1, 0, 0, 0, 0, []),
  (51, .lreturn, 1, 0, 0, 0, 0, [])]
def zc_X12_shift : List (Nat × List Bool) := [(104, [true, true, true, true, true, true, true]), (141, [true, false, false, true, true, true, true])]
def zo_X12_shift : List z_Op := [(0, .aload_n 0, 1, 0, 0, 0, 0, []),
  (1, .iload_n 1, 1, 1, 0, 0, 0, []),
  (2, .invokevirtual 440, 3, 222, 2, 12, 1, []),
  (5, .ifCond .eq 11, 3, 16, 0, 0, 0, []),
  (8, .aload_n 0, 1, 0, 0, 0, 0, []),
  (9, .iload_n 3, 1, 3, 0, 0, 0, []),
  (10, .invokevirtual 440, 3, 222, 2, 12, 1, []),
  (13, .ifCond .ne 5, 3, 18, 0, 0, 0, []),
  (16, .iconst (-1), 1, 0, 0, 0, (-1), []),
  (17, .ireturn, 1, 0, 0, 0, 0, []),
  (18, .aload_n 0, 1, 0, 0, 0, 0, []),
  (19, .getfield 247, 3, 12, 78, 0, 0, []),
  (22, .iload_n 1, 1, 1, 0, 0, 0, []),
  (23, .iaload, 1, 0, 0, 0, 0, []),
  (24, .ifCond .lt 12, 3, 36, 0, 0, 0, []),
  (27, .aload_n 0, 1, 0, 0, 0, 0, []),
  (28, .getfield 247, 3, 12, 78, 0, 0, []),
  (31, .iload_n 3, 1, 3, 0, 0, 0, []),
  (32, .iaload, 1, 0, 0, 0, 0, []),
  (33, .ifCond .ge 6, 3, 39, 0, 0, 0, []),
  (36, .bipush (-11), 2, 0, 0, 0, (-11), []),
  (38, .ireturn, 1, 0, 0, 0, 0, []),
  (39, .aload_n 0, 1, 0, 0, 0, 0, []),
  (40, .getfield 247, 3, 12, 78, 0, 0, []),
  (43, .iload_n 1, 1, 1, 0, 0, 0, []),
  (44, .iaload, 1, 0, 0, 0, 0, []),
  (45, .aload_n 0, 1, 0, 0, 0, 0, []),
  (46, .getfield 247, 3, 12, 78, 0, 0, []),
  (49, .iload_n 3, 1, 3, 0, 0, 0, []),
  (50, .iaload, 1, 0, 0, 0, 0, []),
  (51, .if_icmp .eq 6, 3, 57, 0, 0, 0, []),
  (54, .bipush (-12), 2, 0, 0, 0, (-12), []),
  (56, .ireturn, 1, 0, 0, 0, 0, []),
  (57, .iload 5, 2, 5, 0, 0, 0, []),
  (59, .ifCond .lt 39, 3, 98, 0, 0, 0, []),
  (62, .iload_n 2, 1, 2, 0, 0, 0, []),
  (63, .ifCond .lt 35, 3, 98, 0, 0, 0, []),
  (66, .iload 4, 2, 4, 0, 0, 0, []),
  (68, .ifCond .lt 30, 3, 98, 0, 0, 0, []),
  (71, .iload_n 2, 1, 2, 0, 0, 0, []),
  (72, .aload_n 0, 1, 0, 0, 0, 0, []),
  (73, .getfield 250, 3, 12, 79, 0, 0, []),
  (76, .iload_n 1, 1, 1, 0, 0, 0, []),
  (77, .iaload, 1, 0, 0, 0, 0, []),
  (78, .iload 5, 2, 5, 0, 0, 0, []),
  (80, .isub, 1, 0, 0, 0, 0, []),
  (81, .if_icmp .gt 17, 3, 98, 0, 0, 0, []),
  (84, .iload 4, 2, 4, 0, 0, 0, []),
  (86, .aload_n 0, 1, 0, 0, 0, 0, []),
  (87, .getfield 250, 3, 12, 79, 0, 0, []),
  (90, .iload_n 3, 1, 3, 0, 0, 0, []),
  (91, .iaload, 1, 0, 0, 0, 0, []),
  (92, .iload 5, 2, 5, 0, 0, 0, []),
  (94, .isub, 1, 0, 0, 0, 0, []),
  (95, .if_icmp .le 6, 3, 101, 0, 0, 0, []),
  (98, .bipush (-13), 2, 0, 0, 0, (-13), []),
  (100, .ireturn, 1, 0, 0, 0, 0, []),
  (101, .iconst 0, 1, 0, 0, 0, 0, []),
  (102, .istore 6, 2, 6, 0, 0, 0, []),
  (104, .iload 6, 2, 6, 0, 0, 0, []),
  (106, .iload 5, 2, 5, 0, 0, 0, []),
  (108, .if_icmp .ge 30, 3, 138, 0, 0, 0, []),
  (111, .aload_n 0, 1, 0, 0, 0, 0, []),
  (112, .getfield 257, 3, 12, 81, 0, 0, []),
  (115, .iload 6, 2, 6, 0, 0, 0, []),
  (117, .aload_n 0, 1, 0, 0, 0, 0, []),
  (118, .getfield 253, 3, 12, 80, 0, 0, []),
  (121, .bipush 60, 2, 0, 0, 0, 60, []),
  (123, .iload_n 1, 1, 1, 0, 0, 0, []),
  (124, .imul, 1, 0, 0, 0, 0, []),
  (125, .iload_n 2, 1, 2, 0, 0, 0, []),
  (126, .iadd, 1, 0, 0, 0, 0, []),
  (127, .iload 6, 2, 6, 0, 0, 0, []),
  (129, .iadd, 1, 0, 0, 0, 0, []),
  (130, .laload, 1, 0, 0, 0, 0, []),
  (131, .lastore, 1, 0, 0, 0, 0, []),
  (132, .iinc 6 1, 3, 6, 0, 0, 1, []),
  (135, .goto (-31), 3, 104, 0, 0, 0, []),
  (138, .iconst 0, 1, 0, 0, 0, 0, []),
  (139, .istore 6, 2, 6, 0, 0, 0, []),
  (141, .iload 6, 2, 6, 0, 0, 0, []),
  (143, .iload 5, 2, 5, 0, 0, 0, []),
  (145, .if_icmp .ge 31, 3, 176, 0, 0, 0, []),
  (148, .aload_n 0, 1, 0, 0, 0, 0, []),
  (149, .getfield 253, 3, 12, 80, 0, 0, []),
  (152, .bipush 60, 2, 0, 0, 0, 60, []),
  (154, .iload_n 3, 1, 3, 0, 0, 0, []),
  (155, .imul, 1, 0, 0, 0, 0, []),
  (156, .iload 4, 2, 4, 0, 0, 0, []),
  (158, .iadd, 1, 0, 0, 0, 0, []),
  (159, .iload 6, 2, 6, 0, 0, 0, []),
  (161, .iadd, 1, 0, 0, 0, 0, []),
  (162, .aload_n 0, 1, 0, 0, 0, 0, []),
  (163, .getfield 257, 3, 12, 81, 0, 0, []),
  (166, .iload 6, 2, 6, 0, 0, 0, []),
  (168, .laload, 1, 0, 0, 0, 0, []),
  (169, .lastore, 1, 0, 0, 0, 0, []),
  (170, .iinc 6 1, 3, 6, 0, 0, 1, []),
  (173, .goto (-32), 3, 141, 0, 0, 0, []),
  (176, .iload 5, 2, 5, 0, 0, 0, []),
  (178, .ireturn, 1, 0, 0, 0, 0, [])]
def zc_J6_bitCount_0f7a4 : List (Nat × List Bool) := []
def zo_J6_bitCount_0f7a4 : List z_Op := [(0, .iload_n 0, 1, 0, 0, 0, 0, []),
  (1, .iload_n 0, 1, 0, 0, 0, 0, []),
  (2, .iconst 1, 1, 0, 0, 0, 1, []),
  (3, .iushr, 1, 0, 0, 0, 0, []),
  (4, .ldc_w 265, 3, 0, 0, 0, 1431655765, []),
  (7, .iand, 1, 0, 0, 0, 0, []),
  (8, .isub, 1, 0, 0, 0, 0, []),
  (9, .istore_n 0, 1, 0, 0, 0, 0, []),
  (10, .iload_n 0, 1, 0, 0, 0, 0, []),
  (11, .ldc_w 266, 3, 0, 0, 0, 858993459, []),
  (14, .iand, 1, 0, 0, 0, 0, []),
  (15, .iload_n 0, 1, 0, 0, 0, 0, []),
  (16, .iconst 2, 1, 0, 0, 0, 2, []),
  (17, .iushr, 1, 0, 0, 0, 0, []),
  (18, .ldc_w 266, 3, 0, 0, 0, 858993459, []),
  (21, .iand, 1, 0, 0, 0, 0, []),
  (22, .iadd, 1, 0, 0, 0, 0, []),
  (23, .istore_n 0, 1, 0, 0, 0, 0, []),
  (24, .iload_n 0, 1, 0, 0, 0, 0, []),
  (25, .iload_n 0, 1, 0, 0, 0, 0, []),
  (26, .iconst 4, 1, 0, 0, 0, 4, []),
  (27, .iushr, 1, 0, 0, 0, 0, []),
  (28, .iadd, 1, 0, 0, 0, 0, []),
  (29, .ldc_w 267, 3, 0, 0, 0, 252645135, []),
  (32, .iand, 1, 0, 0, 0, 0, []),
  (33, .istore_n 0, 1, 0, 0, 0, 0, []),
  (34, .iload_n 0, 1, 0, 0, 0, 0, []),
  (35, .iload_n 0, 1, 0, 0, 0, 0, []),
  (36, .bipush 8, 2, 0, 0, 0, 8, []),
  (38, .iushr, 1, 0, 0, 0, 0, []),
  (39, .iadd, 1, 0, 0, 0, 0, []),
  (40, .istore_n 0, 1, 0, 0, 0, 0, []),
  (41, .iload_n 0, 1, 0, 0, 0, 0, []),
  (42, .iload_n 0, 1, 0, 0, 0, 0, []),
  (43, .bipush 16, 2, 0, 0, 0, 16, []),
  (45, .iushr, 1, 0, 0, 0, 0, []),
  (46, .iadd, 1, 0, 0, 0, 0, []),
  (47, .istore_n 0, 1, 0, 0, 0, 0, []),
  (48, .iload_n 0, 1, 0, 0, 0, 0, []),
  (49, .bipush 63, 2, 0, 0, 0, 63, []),
  (51, .iand, 1, 0, 0, 0, 0, []),
  (52, .ireturn, 1, 0, 0, 0, 0, [])]
def zc_J7_fill_d0a16 : List (Nat × List Bool) := [(6, [true, true, false, true, true])]
def zo_J7_fill_d0a16 : List z_Op := [(0, .iconst 0, 1, 0, 0, 0, 0, []),
  (1, .istore_n 3, 1, 3, 0, 0, 0, []),
  (2, .aload_n 0, 1, 0, 0, 0, 0, []),
  (3, .arraylength, 1, 0, 0, 0, 0, []),
  (4, .istore 4, 2, 4, 0, 0, 0, []),
  (6, .iload_n 3, 1, 3, 0, 0, 0, []),
  (7, .iload 4, 2, 4, 0, 0, 0, []),
  (9, .if_icmp .ge 13, 3, 22, 0, 0, 0, []),
  (12, .aload_n 0, 1, 0, 0, 0, 0, []),
  (13, .iload_n 3, 1, 3, 0, 0, 0, []),
  (14, .lload_n 1, 1, 1, 0, 0, 0, []),
  (15, .lastore, 1, 0, 0, 0, 0, []),
  (16, .iinc 3 1, 3, 3, 0, 0, 1, []),
  (19, .goto (-13), 3, 6, 0, 0, 0, []),
  (22, .return_, 1, 0, 0, 0, 0, [])]
def zc_J7_fill_53178 : List (Nat × List Bool) := [(5, [true, true, true, true])]
def zo_J7_fill_53178 : List z_Op := [(0, .iconst 0, 1, 0, 0, 0, 0, []),
  (1, .istore_n 2, 1, 2, 0, 0, 0, []),
  (2, .aload_n 0, 1, 0, 0, 0, 0, []),
  (3, .arraylength, 1, 0, 0, 0, 0, []),
  (4, .istore_n 3, 1, 3, 0, 0, 0, []),
  (5, .iload_n 2, 1, 2, 0, 0, 0, []),
  (6, .iload_n 3, 1, 3, 0, 0, 0, []),
  (7, .if_icmp .ge 13, 3, 20, 0, 0, 0, []),
  (10, .aload_n 0, 1, 0, 0, 0, 0, []),
  (11, .iload_n 2, 1, 2, 0, 0, 0, []),
  (12, .iload_n 1, 1, 1, 0, 0, 0, []),
  (13, .iastore, 1, 0, 0, 0, 0, []),
  (14, .iinc 2 1, 3, 2, 0, 0, 1, []),
  (17, .goto (-12), 3, 5, 0, 0, 0, []),
  (20, .return_, 1, 0, 0, 0, 0, [])]
def zc_L_law : List (Nat × List Bool) := [(18, [true, true, true, true])]
def zo_L_law : List z_Op := [(0, .new 7, 3, 11, 0, 0, 0, []),
  (3, .dup, 1, 0, 0, 0, 0, []),
  (4, .invokespecial 9, 3, 75, 1, 11, 0, []),
  (7, .astore_n 1, 1, 1, 0, 0, 0, []),
  (8, .new 10, 3, 12, 0, 0, 0, []),
  (11, .dup, 1, 0, 0, 0, 0, []),
  (12, .invokespecial 12, 3, 123, 1, 12, 0, []),
  (15, .astore_n 2, 1, 2, 0, 0, 0, []),
  (16, .iconst 0, 1, 0, 0, 0, 0, []),
  (17, .istore_n 3, 1, 3, 0, 0, 0, []),
  (18, .iload_n 3, 1, 3, 0, 0, 0, []),
  (19, .aload_n 0, 1, 0, 0, 0, 0, []),
  (20, .arraylength, 1, 0, 0, 0, 0, []),
  (21, .bipush 6, 2, 0, 0, 0, 6, []),
  (23, .isub, 1, 0, 0, 0, 0, []),
  (24, .if_icmp .gt 1412, 3, 1436, 0, 0, 0, []),
  (27, .aload_n 0, 1, 0, 0, 0, 0, []),
  (28, .iload_n 3, 1, 3, 0, 0, 0, []),
  (29, .iaload, 1, 0, 0, 0, 0, []),
  (30, .bipush 63, 2, 0, 0, 0, 63, []),
  (32, .iand, 1, 0, 0, 0, 0, []),
  (33, .tableswitch 1397 0 38 #[171, 214, 247, 280, 313, 362, 375, 408, 451, 474, 487, 510, 533, 566, 589, 612, 645, 658, 691, 734, 767, 800, 823, 867, 901, 934, 957, 990, 1003, 1036, 1049, 1062, 1105, 1128, 1161, 1184, 1227, 1300, 1334], 171, 1430, 0, 0, 0, [(0, 204), (1, 247), (2, 280), (3, 313), (4, 346), (5, 395), (6, 408), (7, 441), (8, 484), (9, 507), (10, 520), (11, 543), (12, 566), (13, 599), (14, 622), (15, 645), (16, 678), (17, 691), (18, 724), (19, 767), (20, 800), (21, 833), (22, 856), (23, 900), (24, 934), (25, 967), (26, 990), (27, 1023), (28, 1036), (29, 1069), (30, 1082), (31, 1095), (32, 1138), (33, 1161), (34, 1194), (35, 1217), (36, 1260), (37, 1333), (38, 1367)]),
  (204, .aload_n 1, 1, 1, 0, 0, 0, []),
  (205, .aload_n 0, 1, 0, 0, 0, 0, []),
  (206, .iload_n 3, 1, 3, 0, 0, 0, []),
  (207, .iconst 1, 1, 0, 0, 0, 1, []),
  (208, .iadd, 1, 0, 0, 0, 0, []),
  (209, .iaload, 1, 0, 0, 0, 0, []),
  (210, .aload_n 0, 1, 0, 0, 0, 0, []),
  (211, .iload_n 3, 1, 3, 0, 0, 0, []),
  (212, .iconst 2, 1, 0, 0, 0, 2, []),
  (213, .iadd, 1, 0, 0, 0, 0, []),
  (214, .iaload, 1, 0, 0, 0, 0, []),
  (215, .aload_n 0, 1, 0, 0, 0, 0, []),
  (216, .iload_n 3, 1, 3, 0, 0, 0, []),
  (217, .iconst 3, 1, 0, 0, 0, 3, []),
  (218, .iadd, 1, 0, 0, 0, 0, []),
  (219, .iaload, 1, 0, 0, 0, 0, []),
  (220, .invokevirtual 13, 3, 76, 4, 11, 1, []),
  (223, .aload_n 2, 1, 2, 0, 0, 0, []),
  (224, .aload_n 0, 1, 0, 0, 0, 0, []),
  (225, .iload_n 3, 1, 3, 0, 0, 0, []),
  (226, .iconst 1, 1, 0, 0, 0, 1, []),
  (227, .iadd, 1, 0, 0, 0, 0, []),
  (228, .iaload, 1, 0, 0, 0, 0, []),
  (229, .aload_n 0, 1, 0, 0, 0, 0, []),
  (230, .iload_n 3, 1, 3, 0, 0, 0, []),
  (231, .iconst 2, 1, 0, 0, 0, 2, []),
  (232, .iadd, 1, 0, 0, 0, 0, []),
  (233, .iaload, 1, 0, 0, 0, 0, []),
  (234, .aload_n 0, 1, 0, 0, 0, 0, []),
  (235, .iload_n 3, 1, 3, 0, 0, 0, []),
  (236, .iconst 3, 1, 0, 0, 0, 3, []),
  (237, .iadd, 1, 0, 0, 0, 0, []),
  (238, .iaload, 1, 0, 0, 0, 0, []),
  (239, .invokevirtual 17, 3, 134, 4, 12, 1, []),
  (242, .if_icmp .eq 1188, 3, 1430, 0, 0, 0, []),
  (245, .iconst 0, 1, 0, 0, 0, 0, []),
  (246, .ireturn, 1, 0, 0, 0, 0, []),
  (247, .aload_n 1, 1, 1, 0, 0, 0, []),
  (248, .aload_n 0, 1, 0, 0, 0, 0, []),
  (249, .iload_n 3, 1, 3, 0, 0, 0, []),
  (250, .iconst 1, 1, 0, 0, 0, 1, []),
  (251, .iadd, 1, 0, 0, 0, 0, []),
  (252, .iaload, 1, 0, 0, 0, 0, []),
  (253, .aload_n 0, 1, 0, 0, 0, 0, []),
  (254, .iload_n 3, 1, 3, 0, 0, 0, []),
  (255, .iconst 2, 1, 0, 0, 0, 2, []),
  (256, .iadd, 1, 0, 0, 0, 0, []),
  (257, .iaload, 1, 0, 0, 0, 0, []),
  (258, .invokevirtual 18, 3, 77, 3, 11, 1, []),
  (261, .aload_n 2, 1, 2, 0, 0, 0, []),
  (262, .aload_n 0, 1, 0, 0, 0, 0, []),
  (263, .iload_n 3, 1, 3, 0, 0, 0, []),
  (264, .iconst 1, 1, 0, 0, 0, 1, []),
  (265, .iadd, 1, 0, 0, 0, 0, []),
  (266, .iaload, 1, 0, 0, 0, 0, []),
  (267, .aload_n 0, 1, 0, 0, 0, 0, []),
  (268, .iload_n 3, 1, 3, 0, 0, 0, []),
  (269, .iconst 2, 1, 0, 0, 0, 2, []),
  (270, .iadd, 1, 0, 0, 0, 0, []),
  (271, .iaload, 1, 0, 0, 0, 0, []),
  (272, .invokevirtual 22, 3, 169, 3, 12, 1, []),
  (275, .if_icmp .eq 1155, 3, 1430, 0, 0, 0, []),
  (278, .iconst 0, 1, 0, 0, 0, 0, []),
  (279, .ireturn, 1, 0, 0, 0, 0, []),
  (280, .aload_n 1, 1, 1, 0, 0, 0, []),
  (281, .aload_n 0, 1, 0, 0, 0, 0, []),
  (282, .iload_n 3, 1, 3, 0, 0, 0, []),
  (283, .iconst 1, 1, 0, 0, 0, 1, []),
  (284, .iadd, 1, 0, 0, 0, 0, []),
  (285, .iaload, 1, 0, 0, 0, 0, []),
  (286, .aload_n 0, 1, 0, 0, 0, 0, []),
  (287, .iload_n 3, 1, 3, 0, 0, 0, []),
  (288, .iconst 2, 1, 0, 0, 0, 2, []),
  (289, .iadd, 1, 0, 0, 0, 0, []),
  (290, .iaload, 1, 0, 0, 0, 0, []),
  (291, .invokevirtual 23, 3, 78, 3, 11, 1, []),
  (294, .aload_n 2, 1, 2, 0, 0, 0, []),
  (295, .aload_n 0, 1, 0, 0, 0, 0, []),
  (296, .iload_n 3, 1, 3, 0, 0, 0, []),
  (297, .iconst 1, 1, 0, 0, 0, 1, []),
  (298, .iadd, 1, 0, 0, 0, 0, []),
  (299, .iaload, 1, 0, 0, 0, 0, []),
  (300, .aload_n 0, 1, 0, 0, 0, 0, []),
  (301, .iload_n 3, 1, 3, 0, 0, 0, []),
  (302, .iconst 2, 1, 0, 0, 0, 2, []),
  (303, .iadd, 1, 0, 0, 0, 0, []),
  (304, .iaload, 1, 0, 0, 0, 0, []),
  (305, .invokevirtual 26, 3, 135, 3, 12, 1, []),
  (308, .if_icmp .eq 1122, 3, 1430, 0, 0, 0, []),
  (311, .iconst 0, 1, 0, 0, 0, 0, []),
  (312, .ireturn, 1, 0, 0, 0, 0, []),
  (313, .aload_n 1, 1, 1, 0, 0, 0, []),
  (314, .aload_n 0, 1, 0, 0, 0, 0, []),
  (315, .iload_n 3, 1, 3, 0, 0, 0, []),
  (316, .iconst 1, 1, 0, 0, 0, 1, []),
  (317, .iadd, 1, 0, 0, 0, 0, []),
  (318, .iaload, 1, 0, 0, 0, 0, []),
  (319, .aload_n 0, 1, 0, 0, 0, 0, []),
  (320, .iload_n 3, 1, 3, 0, 0, 0, []),
  (321, .iconst 2, 1, 0, 0, 0, 2, []),
  (322, .iadd, 1, 0, 0, 0, 0, []),
  (323, .iaload, 1, 0, 0, 0, 0, []),
  (324, .invokevirtual 27, 3, 79, 3, 11, 1, []),
  (327, .aload_n 2, 1, 2, 0, 0, 0, []),
  (328, .aload_n 0, 1, 0, 0, 0, 0, []),
  (329, .iload_n 3, 1, 3, 0, 0, 0, []),
  (330, .iconst 1, 1, 0, 0, 0, 1, []),
  (331, .iadd, 1, 0, 0, 0, 0, []),
  (332, .iaload, 1, 0, 0, 0, 0, []),
  (333, .aload_n 0, 1, 0, 0, 0, 0, []),
  (334, .iload_n 3, 1, 3, 0, 0, 0, []),
  (335, .iconst 2, 1, 0, 0, 0, 2, []),
  (336, .iadd, 1, 0, 0, 0, 0, []),
  (337, .iaload, 1, 0, 0, 0, 0, []),
  (338, .invokevirtual 30, 3, 137, 3, 12, 1, []),
  (341, .if_icmp .eq 1089, 3, 1430, 0, 0, 0, []),
  (344, .iconst 0, 1, 0, 0, 0, 0, []),
  (345, .ireturn, 1, 0, 0, 0, 0, []),
  (346, .aload_n 1, 1, 1, 0, 0, 0, []),
  (347, .aload_n 0, 1, 0, 0, 0, 0, []),
  (348, .iload_n 3, 1, 3, 0, 0, 0, []),
  (349, .iconst 1, 1, 0, 0, 0, 1, []),
  (350, .iadd, 1, 0, 0, 0, 0, []),
  (351, .iaload, 1, 0, 0, 0, 0, []),
  (352, .aload_n 0, 1, 0, 0, 0, 0, []),
  (353, .iload_n 3, 1, 3, 0, 0, 0, []),
  (354, .iconst 2, 1, 0, 0, 0, 2, []),
  (355, .iadd, 1, 0, 0, 0, 0, []),
  (356, .iaload, 1, 0, 0, 0, 0, []),
  (357, .ifCond .eq 7, 3, 364, 0, 0, 0, []),
  (360, .iconst 1, 1, 0, 0, 0, 1, []),
  (361, .goto 4, 3, 365, 0, 0, 0, []),
  (364, .iconst 0, 1, 0, 0, 0, 0, []),
  (365, .invokevirtual 31, 3, 80, 3, 11, 1, []),
  (368, .aload_n 2, 1, 2, 0, 0, 0, []),
  (369, .aload_n 0, 1, 0, 0, 0, 0, []),
  (370, .iload_n 3, 1, 3, 0, 0, 0, []),
  (371, .iconst 1, 1, 0, 0, 0, 1, []),
  (372, .iadd, 1, 0, 0, 0, 0, []),
  (373, .iaload, 1, 0, 0, 0, 0, []),
  (374, .aload_n 0, 1, 0, 0, 0, 0, []),
  (375, .iload_n 3, 1, 3, 0, 0, 0, []),
  (376, .iconst 2, 1, 0, 0, 0, 2, []),
  (377, .iadd, 1, 0, 0, 0, 0, []),
  (378, .iaload, 1, 0, 0, 0, 0, []),
  (379, .ifCond .eq 7, 3, 386, 0, 0, 0, []),
  (382, .iconst 1, 1, 0, 0, 0, 1, []),
  (383, .goto 4, 3, 387, 0, 0, 0, []),
  (386, .iconst 0, 1, 0, 0, 0, 0, []),
  (387, .invokevirtual 35, 3, 139, 3, 12, 1, []),
  (390, .if_icmp .eq 1040, 3, 1430, 0, 0, 0, []),
  (393, .iconst 0, 1, 0, 0, 0, 0, []),
  (394, .ireturn, 1, 0, 0, 0, 0, []),
  (395, .aload_n 1, 1, 1, 0, 0, 0, []),
  (396, .invokevirtual 36, 3, 81, 1, 11, 1, []),
  (399, .aload_n 2, 1, 2, 0, 0, 0, []),
  (400, .invokevirtual 40, 3, 178, 1, 12, 1, []),
  (403, .if_icmp .eq 1027, 3, 1430, 0, 0, 0, []),
  (406, .iconst 0, 1, 0, 0, 0, 0, []),
  (407, .ireturn, 1, 0, 0, 0, 0, []),
  (408, .aload_n 1, 1, 1, 0, 0, 0, []),
  (409, .aload_n 0, 1, 0, 0, 0, 0, []),
  (410, .iload_n 3, 1, 3, 0, 0, 0, []),
  (411, .iconst 1, 1, 0, 0, 0, 1, []),
  (412, .iadd, 1, 0, 0, 0, 0, []),
  (413, .iaload, 1, 0, 0, 0, 0, []),
  (414, .aload_n 0, 1, 0, 0, 0, 0, []),
  (415, .iload_n 3, 1, 3, 0, 0, 0, []),
  (416, .iconst 2, 1, 0, 0, 0, 2, []),
  (417, .iadd, 1, 0, 0, 0, 0, []),
  (418, .iaload, 1, 0, 0, 0, 0, []),
  (419, .invokevirtual 41, 3, 82, 3, 11, 1, []),
  (422, .aload_n 2, 1, 2, 0, 0, 0, []),
  (423, .aload_n 0, 1, 0, 0, 0, 0, []),
  (424, .iload_n 3, 1, 3, 0, 0, 0, []),
  (425, .iconst 1, 1, 0, 0, 0, 1, []),
  (426, .iadd, 1, 0, 0, 0, 0, []),
  (427, .iaload, 1, 0, 0, 0, 0, []),
  (428, .aload_n 0, 1, 0, 0, 0, 0, []),
  (429, .iload_n 3, 1, 3, 0, 0, 0, []),
  (430, .iconst 2, 1, 0, 0, 0, 2, []),
  (431, .iadd, 1, 0, 0, 0, 0, []),
  (432, .iaload, 1, 0, 0, 0, 0, []),
  (433, .invokevirtual 44, 3, 140, 3, 12, 1, []),
  (436, .if_icmp .eq 994, 3, 1430, 0, 0, 0, []),
  (439, .iconst 0, 1, 0, 0, 0, 0, []),
  (440, .ireturn, 1, 0, 0, 0, 0, []),
  (441, .aload_n 1, 1, 1, 0, 0, 0, []),
  (442, .aload_n 0, 1, 0, 0, 0, 0, []),
  (443, .iload_n 3, 1, 3, 0, 0, 0, []),
  (444, .iconst 1, 1, 0, 0, 0, 1, []),
  (445, .iadd, 1, 0, 0, 0, 0, []),
  (446, .iaload, 1, 0, 0, 0, 0, []),
  (447, .aload_n 0, 1, 0, 0, 0, 0, []),
  (448, .iload_n 3, 1, 3, 0, 0, 0, []),
  (449, .iconst 2, 1, 0, 0, 0, 2, []),
  (450, .iadd, 1, 0, 0, 0, 0, []),
  (451, .iaload, 1, 0, 0, 0, 0, []),
  (452, .aload_n 0, 1, 0, 0, 0, 0, []),
  (453, .iload_n 3, 1, 3, 0, 0, 0, []),
  (454, .iconst 3, 1, 0, 0, 0, 3, []),
  (455, .iadd, 1, 0, 0, 0, 0, []),
  (456, .iaload, 1, 0, 0, 0, 0, []),
  (457, .invokevirtual 45, 3, 83, 4, 11, 1, []),
  (460, .aload_n 2, 1, 2, 0, 0, 0, []),
  (461, .aload_n 0, 1, 0, 0, 0, 0, []),
  (462, .iload_n 3, 1, 3, 0, 0, 0, []),
  (463, .iconst 1, 1, 0, 0, 0, 1, []),
  (464, .iadd, 1, 0, 0, 0, 0, []),
  (465, .iaload, 1, 0, 0, 0, 0, []),
  (466, .aload_n 0, 1, 0, 0, 0, 0, []),
  (467, .iload_n 3, 1, 3, 0, 0, 0, []),
  (468, .iconst 2, 1, 0, 0, 0, 2, []),
  (469, .iadd, 1, 0, 0, 0, 0, []),
  (470, .iaload, 1, 0, 0, 0, 0, []),
  (471, .aload_n 0, 1, 0, 0, 0, 0, []),
  (472, .iload_n 3, 1, 3, 0, 0, 0, []),
  (473, .iconst 3, 1, 0, 0, 0, 3, []),
  (474, .iadd, 1, 0, 0, 0, 0, []),
  (475, .iaload, 1, 0, 0, 0, 0, []),
  (476, .invokevirtual 48, 3, 141, 4, 12, 1, []),
  (479, .if_icmp .eq 951, 3, 1430, 0, 0, 0, []),
  (482, .iconst 0, 1, 0, 0, 0, 0, []),
  (483, .ireturn, 1, 0, 0, 0, 0, []),
  (484, .aload_n 1, 1, 1, 0, 0, 0, []),
  (485, .aload_n 0, 1, 0, 0, 0, 0, []),
  (486, .iload_n 3, 1, 3, 0, 0, 0, []),
  (487, .iconst 1, 1, 0, 0, 0, 1, []),
  (488, .iadd, 1, 0, 0, 0, 0, []),
  (489, .iaload, 1, 0, 0, 0, 0, []),
  (490, .invokevirtual 49, 3, 84, 2, 11, 1, []),
  (493, .aload_n 2, 1, 2, 0, 0, 0, []),
  (494, .aload_n 0, 1, 0, 0, 0, 0, []),
  (495, .iload_n 3, 1, 3, 0, 0, 0, []),
  (496, .iconst 1, 1, 0, 0, 0, 1, []),
  (497, .iadd, 1, 0, 0, 0, 0, []),
  (498, .iaload, 1, 0, 0, 0, 0, []),
  (499, .invokevirtual 53, 3, 142, 2, 12, 1, []),
  (502, .if_icmp .eq 928, 3, 1430, 0, 0, 0, []),
  (505, .iconst 0, 1, 0, 0, 0, 0, []),
  (506, .ireturn, 1, 0, 0, 0, 0, []),
  (507, .aload_n 1, 1, 1, 0, 0, 0, []),
  (508, .invokevirtual 54, 3, 85, 1, 11, 1, []),
  (511, .aload_n 2, 1, 2, 0, 0, 0, []),
  (512, .invokevirtual 57, 3, 158, 1, 12, 1, []),
  (515, .if_icmp .eq 915, 3, 1430, 0, 0, 0, []),
  (518, .iconst 0, 1, 0, 0, 0, 0, []),
  (519, .ireturn, 1, 0, 0, 0, 0, []),
  (520, .aload_n 1, 1, 1, 0, 0, 0, []),
  (521, .aload_n 0, 1, 0, 0, 0, 0, []),
  (522, .iload_n 3, 1, 3, 0, 0, 0, []),
  (523, .iconst 1, 1, 0, 0, 0, 1, []),
  (524, .iadd, 1, 0, 0, 0, 0, []),
  (525, .iaload, 1, 0, 0, 0, 0, []),
  (526, .invokevirtual 58, 3, 86, 2, 11, 1, []),
  (529, .aload_n 2, 1, 2, 0, 0, 0, []),
  (530, .aload_n 0, 1, 0, 0, 0, 0, []),
  (531, .iload_n 3, 1, 3, 0, 0, 0, []),
  (532, .iconst 1, 1, 0, 0, 0, 1, []),
  (533, .iadd, 1, 0, 0, 0, 0, []),
  (534, .iaload, 1, 0, 0, 0, 0, []),
  (535, .invokevirtual 61, 3, 174, 2, 12, 1, []),
  (538, .if_icmp .eq 892, 3, 1430, 0, 0, 0, []),
  (541, .iconst 0, 1, 0, 0, 0, 0, []),
  (542, .ireturn, 1, 0, 0, 0, 0, []),
  (543, .aload_n 1, 1, 1, 0, 0, 0, []),
  (544, .aload_n 0, 1, 0, 0, 0, 0, []),
  (545, .iload_n 3, 1, 3, 0, 0, 0, []),
  (546, .iconst 1, 1, 0, 0, 0, 1, []),
  (547, .iadd, 1, 0, 0, 0, 0, []),
  (548, .iaload, 1, 0, 0, 0, 0, []),
  (549, .invokevirtual 62, 3, 87, 2, 11, 1, []),
  (552, .aload_n 2, 1, 2, 0, 0, 0, []),
  (553, .aload_n 0, 1, 0, 0, 0, 0, []),
  (554, .iload_n 3, 1, 3, 0, 0, 0, []),
  (555, .iconst 1, 1, 0, 0, 0, 1, []),
  (556, .iadd, 1, 0, 0, 0, 0, []),
  (557, .iaload, 1, 0, 0, 0, 0, []),
  (558, .invokevirtual 65, 3, 179, 2, 12, 1, []),
  (561, .if_icmp .eq 869, 3, 1430, 0, 0, 0, []),
  (564, .iconst 0, 1, 0, 0, 0, 0, []),
  (565, .ireturn, 1, 0, 0, 0, 0, []),
  (566, .aload_n 1, 1, 1, 0, 0, 0, []),
  (567, .aload_n 0, 1, 0, 0, 0, 0, []),
  (568, .iload_n 3, 1, 3, 0, 0, 0, []),
  (569, .iconst 1, 1, 0, 0, 0, 1, []),
  (570, .iadd, 1, 0, 0, 0, 0, []),
  (571, .iaload, 1, 0, 0, 0, 0, []),
  (572, .aload_n 0, 1, 0, 0, 0, 0, []),
  (573, .iload_n 3, 1, 3, 0, 0, 0, []),
  (574, .iconst 2, 1, 0, 0, 0, 2, []),
  (575, .iadd, 1, 0, 0, 0, 0, []),
  (576, .iaload, 1, 0, 0, 0, 0, []),
  (577, .invokevirtual 66, 3, 88, 3, 11, 1, []),
  (580, .aload_n 2, 1, 2, 0, 0, 0, []),
  (581, .aload_n 0, 1, 0, 0, 0, 0, []),
  (582, .iload_n 3, 1, 3, 0, 0, 0, []),
  (583, .iconst 1, 1, 0, 0, 0, 1, []),
  (584, .iadd, 1, 0, 0, 0, 0, []),
  (585, .iaload, 1, 0, 0, 0, 0, []),
  (586, .aload_n 0, 1, 0, 0, 0, 0, []),
  (587, .iload_n 3, 1, 3, 0, 0, 0, []),
  (588, .iconst 2, 1, 0, 0, 0, 2, []),
  (589, .iadd, 1, 0, 0, 0, 0, []),
  (590, .iaload, 1, 0, 0, 0, 0, []),
  (591, .invokevirtual 69, 3, 182, 3, 12, 1, []),
  (594, .if_icmp .eq 836, 3, 1430, 0, 0, 0, []),
  (597, .iconst 0, 1, 0, 0, 0, 0, []),
  (598, .ireturn, 1, 0, 0, 0, 0, []),
  (599, .aload_n 1, 1, 1, 0, 0, 0, []),
  (600, .aload_n 0, 1, 0, 0, 0, 0, []),
  (601, .iload_n 3, 1, 3, 0, 0, 0, []),
  (602, .iconst 1, 1, 0, 0, 0, 1, []),
  (603, .iadd, 1, 0, 0, 0, 0, []),
  (604, .iaload, 1, 0, 0, 0, 0, []),
  (605, .invokevirtual 70, 3, 89, 2, 11, 1, []),
  (608, .aload_n 2, 1, 2, 0, 0, 0, []),
  (609, .aload_n 0, 1, 0, 0, 0, 0, []),
  (610, .iload_n 3, 1, 3, 0, 0, 0, []),
  (611, .iconst 1, 1, 0, 0, 0, 1, []),
  (612, .iadd, 1, 0, 0, 0, 0, []),
  (613, .iaload, 1, 0, 0, 0, 0, []),
  (614, .invokevirtual 73, 3, 183, 2, 12, 1, []),
  (617, .if_icmp .eq 813, 3, 1430, 0, 0, 0, []),
  (620, .iconst 0, 1, 0, 0, 0, 0, []),
  (621, .ireturn, 1, 0, 0, 0, 0, []),
  (622, .aload_n 1, 1, 1, 0, 0, 0, []),
  (623, .aload_n 0, 1, 0, 0, 0, 0, []),
  (624, .iload_n 3, 1, 3, 0, 0, 0, []),
  (625, .iconst 1, 1, 0, 0, 0, 1, []),
  (626, .iadd, 1, 0, 0, 0, 0, []),
  (627, .iaload, 1, 0, 0, 0, 0, []),
  (628, .invokevirtual 74, 3, 90, 2, 11, 1, []),
  (631, .aload_n 2, 1, 2, 0, 0, 0, []),
  (632, .aload_n 0, 1, 0, 0, 0, 0, []),
  (633, .iload_n 3, 1, 3, 0, 0, 0, []),
  (634, .iconst 1, 1, 0, 0, 0, 1, []),
  (635, .iadd, 1, 0, 0, 0, 0, []),
  (636, .iaload, 1, 0, 0, 0, 0, []),
  (637, .invokevirtual 77, 3, 184, 2, 12, 1, []),
  (640, .if_icmp .eq 790, 3, 1430, 0, 0, 0, []),
  (643, .iconst 0, 1, 0, 0, 0, 0, []),
  (644, .ireturn, 1, 0, 0, 0, 0, []),
  (645, .aload_n 1, 1, 1, 0, 0, 0, []),
  (646, .aload_n 0, 1, 0, 0, 0, 0, []),
  (647, .iload_n 3, 1, 3, 0, 0, 0, []),
  (648, .iconst 1, 1, 0, 0, 0, 1, []),
  (649, .iadd, 1, 0, 0, 0, 0, []),
  (650, .iaload, 1, 0, 0, 0, 0, []),
  (651, .aload_n 0, 1, 0, 0, 0, 0, []),
  (652, .iload_n 3, 1, 3, 0, 0, 0, []),
  (653, .iconst 2, 1, 0, 0, 0, 2, []),
  (654, .iadd, 1, 0, 0, 0, 0, []),
  (655, .iaload, 1, 0, 0, 0, 0, []),
  (656, .invokevirtual 78, 3, 91, 3, 11, 1, []),
  (659, .aload_n 2, 1, 2, 0, 0, 0, []),
  (660, .aload_n 0, 1, 0, 0, 0, 0, []),
  (661, .iload_n 3, 1, 3, 0, 0, 0, []),
  (662, .iconst 1, 1, 0, 0, 0, 1, []),
  (663, .iadd, 1, 0, 0, 0, 0, []),
  (664, .iaload, 1, 0, 0, 0, 0, []),
  (665, .aload_n 0, 1, 0, 0, 0, 0, []),
  (666, .iload_n 3, 1, 3, 0, 0, 0, []),
  (667, .iconst 2, 1, 0, 0, 0, 2, []),
  (668, .iadd, 1, 0, 0, 0, 0, []),
  (669, .iaload, 1, 0, 0, 0, 0, []),
  (670, .invokevirtual 81, 3, 188, 3, 12, 1, []),
  (673, .if_icmp .eq 757, 3, 1430, 0, 0, 0, []),
  (676, .iconst 0, 1, 0, 0, 0, 0, []),
  (677, .ireturn, 1, 0, 0, 0, 0, []),
  (678, .aload_n 1, 1, 1, 0, 0, 0, []),
  (679, .invokevirtual 82, 3, 92, 1, 11, 1, []),
  (682, .aload_n 2, 1, 2, 0, 0, 0, []),
  (683, .invokevirtual 85, 3, 190, 1, 12, 1, []),
  (686, .if_icmp .eq 744, 3, 1430, 0, 0, 0, []),
  (689, .iconst 0, 1, 0, 0, 0, 0, []),
  (690, .ireturn, 1, 0, 0, 0, 0, []),
  (691, .aload_n 1, 1, 1, 0, 0, 0, []),
  (692, .aload_n 0, 1, 0, 0, 0, 0, []),
  (693, .iload_n 3, 1, 3, 0, 0, 0, []),
  (694, .iconst 1, 1, 0, 0, 0, 1, []),
  (695, .iadd, 1, 0, 0, 0, 0, []),
  (696, .iaload, 1, 0, 0, 0, 0, []),
  (697, .aload_n 0, 1, 0, 0, 0, 0, []),
  (698, .iload_n 3, 1, 3, 0, 0, 0, []),
  (699, .iconst 2, 1, 0, 0, 0, 2, []),
  (700, .iadd, 1, 0, 0, 0, 0, []),
  (701, .iaload, 1, 0, 0, 0, 0, []),
  (702, .invokevirtual 86, 3, 93, 3, 11, 1, []),
  (705, .aload_n 2, 1, 2, 0, 0, 0, []),
  (706, .aload_n 0, 1, 0, 0, 0, 0, []),
  (707, .iload_n 3, 1, 3, 0, 0, 0, []),
  (708, .iconst 1, 1, 0, 0, 0, 1, []),
  (709, .iadd, 1, 0, 0, 0, 0, []),
  (710, .iaload, 1, 0, 0, 0, 0, []),
  (711, .aload_n 0, 1, 0, 0, 0, 0, []),
  (712, .iload_n 3, 1, 3, 0, 0, 0, []),
  (713, .iconst 2, 1, 0, 0, 0, 2, []),
  (714, .iadd, 1, 0, 0, 0, 0, []),
  (715, .iaload, 1, 0, 0, 0, 0, []),
  (716, .invokevirtual 89, 3, 192, 3, 12, 1, []),
  (719, .if_icmp .eq 711, 3, 1430, 0, 0, 0, []),
  (722, .iconst 0, 1, 0, 0, 0, 0, []),
  (723, .ireturn, 1, 0, 0, 0, 0, []),
  (724, .aload_n 1, 1, 1, 0, 0, 0, []),
  (725, .aload_n 0, 1, 0, 0, 0, 0, []),
  (726, .iload_n 3, 1, 3, 0, 0, 0, []),
  (727, .iconst 1, 1, 0, 0, 0, 1, []),
  (728, .iadd, 1, 0, 0, 0, 0, []),
  (729, .iaload, 1, 0, 0, 0, 0, []),
  (730, .aload_n 0, 1, 0, 0, 0, 0, []),
  (731, .iload_n 3, 1, 3, 0, 0, 0, []),
  (732, .iconst 2, 1, 0, 0, 0, 2, []),
  (733, .iadd, 1, 0, 0, 0, 0, []),
  (734, .iaload, 1, 0, 0, 0, 0, []),
  (735, .aload_n 0, 1, 0, 0, 0, 0, []),
  (736, .iload_n 3, 1, 3, 0, 0, 0, []),
  (737, .iconst 3, 1, 0, 0, 0, 3, []),
  (738, .iadd, 1, 0, 0, 0, 0, []),
  (739, .iaload, 1, 0, 0, 0, 0, []),
  (740, .invokevirtual 90, 3, 94, 4, 11, 1, []),
  (743, .aload_n 2, 1, 2, 0, 0, 0, []),
  (744, .aload_n 0, 1, 0, 0, 0, 0, []),
  (745, .iload_n 3, 1, 3, 0, 0, 0, []),
  (746, .iconst 1, 1, 0, 0, 0, 1, []),
  (747, .iadd, 1, 0, 0, 0, 0, []),
  (748, .iaload, 1, 0, 0, 0, 0, []),
  (749, .aload_n 0, 1, 0, 0, 0, 0, []),
  (750, .iload_n 3, 1, 3, 0, 0, 0, []),
  (751, .iconst 2, 1, 0, 0, 0, 2, []),
  (752, .iadd, 1, 0, 0, 0, 0, []),
  (753, .iaload, 1, 0, 0, 0, 0, []),
  (754, .aload_n 0, 1, 0, 0, 0, 0, []),
  (755, .iload_n 3, 1, 3, 0, 0, 0, []),
  (756, .iconst 3, 1, 0, 0, 0, 3, []),
  (757, .iadd, 1, 0, 0, 0, 0, []),
  (758, .iaload, 1, 0, 0, 0, 0, []),
  (759, .invokevirtual 93, 3, 193, 4, 12, 1, []),
  (762, .if_icmp .eq 668, 3, 1430, 0, 0, 0, []),
  (765, .iconst 0, 1, 0, 0, 0, 0, []),
  (766, .ireturn, 1, 0, 0, 0, 0, []),
  (767, .aload_n 1, 1, 1, 0, 0, 0, []),
  (768, .aload_n 0, 1, 0, 0, 0, 0, []),
  (769, .iload_n 3, 1, 3, 0, 0, 0, []),
  (770, .iconst 1, 1, 0, 0, 0, 1, []),
  (771, .iadd, 1, 0, 0, 0, 0, []),
  (772, .iaload, 1, 0, 0, 0, 0, []),
  (773, .aload_n 0, 1, 0, 0, 0, 0, []),
  (774, .iload_n 3, 1, 3, 0, 0, 0, []),
  (775, .iconst 2, 1, 0, 0, 0, 2, []),
  (776, .iadd, 1, 0, 0, 0, 0, []),
  (777, .iaload, 1, 0, 0, 0, 0, []),
  (778, .invokevirtual 94, 3, 95, 3, 11, 1, []),
  (781, .aload_n 2, 1, 2, 0, 0, 0, []),
  (782, .aload_n 0, 1, 0, 0, 0, 0, []),
  (783, .iload_n 3, 1, 3, 0, 0, 0, []),
  (784, .iconst 1, 1, 0, 0, 0, 1, []),
  (785, .iadd, 1, 0, 0, 0, 0, []),
  (786, .iaload, 1, 0, 0, 0, 0, []),
  (787, .aload_n 0, 1, 0, 0, 0, 0, []),
  (788, .iload_n 3, 1, 3, 0, 0, 0, []),
  (789, .iconst 2, 1, 0, 0, 0, 2, []),
  (790, .iadd, 1, 0, 0, 0, 0, []),
  (791, .iaload, 1, 0, 0, 0, 0, []),
  (792, .invokevirtual 97, 3, 195, 3, 12, 1, []),
  (795, .if_icmp .eq 635, 3, 1430, 0, 0, 0, []),
  (798, .iconst 0, 1, 0, 0, 0, 0, []),
  (799, .ireturn, 1, 0, 0, 0, 0, []),
  (800, .aload_n 1, 1, 1, 0, 0, 0, []),
  (801, .aload_n 0, 1, 0, 0, 0, 0, []),
  (802, .iload_n 3, 1, 3, 0, 0, 0, []),
  (803, .iconst 1, 1, 0, 0, 0, 1, []),
  (804, .iadd, 1, 0, 0, 0, 0, []),
  (805, .iaload, 1, 0, 0, 0, 0, []),
  (806, .aload_n 0, 1, 0, 0, 0, 0, []),
  (807, .iload_n 3, 1, 3, 0, 0, 0, []),
  (808, .iconst 2, 1, 0, 0, 0, 2, []),
  (809, .iadd, 1, 0, 0, 0, 0, []),
  (810, .iaload, 1, 0, 0, 0, 0, []),
  (811, .invokevirtual 98, 3, 96, 3, 11, 1, []),
  (814, .aload_n 2, 1, 2, 0, 0, 0, []),
  (815, .aload_n 0, 1, 0, 0, 0, 0, []),
  (816, .iload_n 3, 1, 3, 0, 0, 0, []),
  (817, .iconst 1, 1, 0, 0, 0, 1, []),
  (818, .iadd, 1, 0, 0, 0, 0, []),
  (819, .iaload, 1, 0, 0, 0, 0, []),
  (820, .aload_n 0, 1, 0, 0, 0, 0, []),
  (821, .iload_n 3, 1, 3, 0, 0, 0, []),
  (822, .iconst 2, 1, 0, 0, 0, 2, []),
  (823, .iadd, 1, 0, 0, 0, 0, []),
  (824, .iaload, 1, 0, 0, 0, 0, []),
  (825, .invokevirtual 101, 3, 196, 3, 12, 1, []),
  (828, .if_icmp .eq 602, 3, 1430, 0, 0, 0, []),
  (831, .iconst 0, 1, 0, 0, 0, 0, []),
  (832, .ireturn, 1, 0, 0, 0, 0, []),
  (833, .aload_n 1, 1, 1, 0, 0, 0, []),
  (834, .aload_n 0, 1, 0, 0, 0, 0, []),
  (835, .iload_n 3, 1, 3, 0, 0, 0, []),
  (836, .iconst 1, 1, 0, 0, 0, 1, []),
  (837, .iadd, 1, 0, 0, 0, 0, []),
  (838, .iaload, 1, 0, 0, 0, 0, []),
  (839, .invokevirtual 102, 3, 97, 2, 11, 1, []),
  (842, .aload_n 2, 1, 2, 0, 0, 0, []),
  (843, .aload_n 0, 1, 0, 0, 0, 0, []),
  (844, .iload_n 3, 1, 3, 0, 0, 0, []),
  (845, .iconst 1, 1, 0, 0, 0, 1, []),
  (846, .iadd, 1, 0, 0, 0, 0, []),
  (847, .iaload, 1, 0, 0, 0, 0, []),
  (848, .invokevirtual 105, 3, 197, 2, 12, 1, []),
  (851, .if_icmp .eq 579, 3, 1430, 0, 0, 0, []),
  (854, .iconst 0, 1, 0, 0, 0, 0, []),
  (855, .ireturn, 1, 0, 0, 0, 0, []),
  (856, .aload_n 1, 1, 1, 0, 0, 0, []),
  (857, .aload_n 0, 1, 0, 0, 0, 0, []),
  (858, .iload_n 3, 1, 3, 0, 0, 0, []),
  (859, .iconst 1, 1, 0, 0, 0, 1, []),
  (860, .iadd, 1, 0, 0, 0, 0, []),
  (861, .iaload, 1, 0, 0, 0, 0, []),
  (862, .aload_n 0, 1, 0, 0, 0, 0, []),
  (863, .iload_n 3, 1, 3, 0, 0, 0, []),
  (864, .iconst 2, 1, 0, 0, 0, 2, []),
  (865, .iadd, 1, 0, 0, 0, 0, []),
  (866, .iaload, 1, 0, 0, 0, 0, []),
  (867, .aload_n 0, 1, 0, 0, 0, 0, []),
  (868, .iload_n 3, 1, 3, 0, 0, 0, []),
  (869, .iconst 3, 1, 0, 0, 0, 3, []),
  (870, .iadd, 1, 0, 0, 0, 0, []),
  (871, .iaload, 1, 0, 0, 0, 0, []),
  (872, .invokevirtual 106, 3, 98, 4, 11, 2, []),
  (875, .aload_n 2, 1, 2, 0, 0, 0, []),
  (876, .aload_n 0, 1, 0, 0, 0, 0, []),
  (877, .iload_n 3, 1, 3, 0, 0, 0, []),
  (878, .iconst 1, 1, 0, 0, 0, 1, []),
  (879, .iadd, 1, 0, 0, 0, 0, []),
  (880, .iaload, 1, 0, 0, 0, 0, []),
  (881, .aload_n 0, 1, 0, 0, 0, 0, []),
  (882, .iload_n 3, 1, 3, 0, 0, 0, []),
  (883, .iconst 2, 1, 0, 0, 0, 2, []),
  (884, .iadd, 1, 0, 0, 0, 0, []),
  (885, .iaload, 1, 0, 0, 0, 0, []),
  (886, .aload_n 0, 1, 0, 0, 0, 0, []),
  (887, .iload_n 3, 1, 3, 0, 0, 0, []),
  (888, .iconst 3, 1, 0, 0, 0, 3, []),
  (889, .iadd, 1, 0, 0, 0, 0, []),
  (890, .iaload, 1, 0, 0, 0, 0, []),
  (891, .invokevirtual 110, 3, 200, 4, 12, 2, []),
  (894, .lcmp, 1, 0, 0, 0, 0, []),
  (895, .ifCond .eq 535, 3, 1430, 0, 0, 0, []),
  (898, .iconst 0, 1, 0, 0, 0, 0, []),
  (899, .ireturn, 1, 0, 0, 0, 0, []),
  (900, .aload_n 1, 1, 1, 0, 0, 0, []),
  (901, .aload_n 0, 1, 0, 0, 0, 0, []),
  (902, .iload_n 3, 1, 3, 0, 0, 0, []),
  (903, .iconst 1, 1, 0, 0, 0, 1, []),
  (904, .iadd, 1, 0, 0, 0, 0, []),
  (905, .iaload, 1, 0, 0, 0, 0, []),
  (906, .aload_n 0, 1, 0, 0, 0, 0, []),
  (907, .iload_n 3, 1, 3, 0, 0, 0, []),
  (908, .iconst 2, 1, 0, 0, 0, 2, []),
  (909, .iadd, 1, 0, 0, 0, 0, []),
  (910, .iaload, 1, 0, 0, 0, 0, []),
  (911, .invokevirtual 111, 3, 99, 3, 11, 2, []),
  (914, .aload_n 2, 1, 2, 0, 0, 0, []),
  (915, .aload_n 0, 1, 0, 0, 0, 0, []),
  (916, .iload_n 3, 1, 3, 0, 0, 0, []),
  (917, .iconst 1, 1, 0, 0, 0, 1, []),
  (918, .iadd, 1, 0, 0, 0, 0, []),
  (919, .iaload, 1, 0, 0, 0, 0, []),
  (920, .aload_n 0, 1, 0, 0, 0, 0, []),
  (921, .iload_n 3, 1, 3, 0, 0, 0, []),
  (922, .iconst 2, 1, 0, 0, 0, 2, []),
  (923, .iadd, 1, 0, 0, 0, 0, []),
  (924, .iaload, 1, 0, 0, 0, 0, []),
  (925, .invokevirtual 115, 3, 201, 3, 12, 2, []),
  (928, .lcmp, 1, 0, 0, 0, 0, []),
  (929, .ifCond .eq 501, 3, 1430, 0, 0, 0, []),
  (932, .iconst 0, 1, 0, 0, 0, 0, []),
  (933, .ireturn, 1, 0, 0, 0, 0, []),
  (934, .aload_n 1, 1, 1, 0, 0, 0, []),
  (935, .aload_n 0, 1, 0, 0, 0, 0, []),
  (936, .iload_n 3, 1, 3, 0, 0, 0, []),
  (937, .iconst 1, 1, 0, 0, 0, 1, []),
  (938, .iadd, 1, 0, 0, 0, 0, []),
  (939, .iaload, 1, 0, 0, 0, 0, []),
  (940, .aload_n 0, 1, 0, 0, 0, 0, []),
  (941, .iload_n 3, 1, 3, 0, 0, 0, []),
  (942, .iconst 2, 1, 0, 0, 0, 2, []),
  (943, .iadd, 1, 0, 0, 0, 0, []),
  (944, .iaload, 1, 0, 0, 0, 0, []),
  (945, .invokevirtual 116, 3, 100, 3, 11, 1, []),
  (948, .aload_n 2, 1, 2, 0, 0, 0, []),
  (949, .aload_n 0, 1, 0, 0, 0, 0, []),
  (950, .iload_n 3, 1, 3, 0, 0, 0, []),
  (951, .iconst 1, 1, 0, 0, 0, 1, []),
  (952, .iadd, 1, 0, 0, 0, 0, []),
  (953, .iaload, 1, 0, 0, 0, 0, []),
  (954, .aload_n 0, 1, 0, 0, 0, 0, []),
  (955, .iload_n 3, 1, 3, 0, 0, 0, []),
  (956, .iconst 2, 1, 0, 0, 0, 2, []),
  (957, .iadd, 1, 0, 0, 0, 0, []),
  (958, .iaload, 1, 0, 0, 0, 0, []),
  (959, .invokevirtual 119, 3, 202, 3, 12, 1, []),
  (962, .if_icmp .eq 468, 3, 1430, 0, 0, 0, []),
  (965, .iconst 0, 1, 0, 0, 0, 0, []),
  (966, .ireturn, 1, 0, 0, 0, 0, []),
  (967, .aload_n 1, 1, 1, 0, 0, 0, []),
  (968, .aload_n 0, 1, 0, 0, 0, 0, []),
  (969, .iload_n 3, 1, 3, 0, 0, 0, []),
  (970, .iconst 1, 1, 0, 0, 0, 1, []),
  (971, .iadd, 1, 0, 0, 0, 0, []),
  (972, .iaload, 1, 0, 0, 0, 0, []),
  (973, .invokevirtual 120, 3, 101, 2, 11, 1, []),
  (976, .aload_n 2, 1, 2, 0, 0, 0, []),
  (977, .aload_n 0, 1, 0, 0, 0, 0, []),
  (978, .iload_n 3, 1, 3, 0, 0, 0, []),
  (979, .iconst 1, 1, 0, 0, 0, 1, []),
  (980, .iadd, 1, 0, 0, 0, 0, []),
  (981, .iaload, 1, 0, 0, 0, 0, []),
  (982, .invokevirtual 123, 3, 204, 2, 12, 1, []),
  (985, .if_icmp .eq 445, 3, 1430, 0, 0, 0, []),
  (988, .iconst 0, 1, 0, 0, 0, 0, []),
  (989, .ireturn, 1, 0, 0, 0, 0, []),
  (990, .aload_n 1, 1, 1, 0, 0, 0, []),
  (991, .aload_n 0, 1, 0, 0, 0, 0, []),
  (992, .iload_n 3, 1, 3, 0, 0, 0, []),
  (993, .iconst 1, 1, 0, 0, 0, 1, []),
  (994, .iadd, 1, 0, 0, 0, 0, []),
  (995, .iaload, 1, 0, 0, 0, 0, []),
  (996, .aload_n 0, 1, 0, 0, 0, 0, []),
  (997, .iload_n 3, 1, 3, 0, 0, 0, []),
  (998, .iconst 2, 1, 0, 0, 0, 2, []),
  (999, .iadd, 1, 0, 0, 0, 0, []),
  (1000, .iaload, 1, 0, 0, 0, 0, []),
  (1001, .invokevirtual 124, 3, 102, 3, 11, 1, []),
  (1004, .aload_n 2, 1, 2, 0, 0, 0, []),
  (1005, .aload_n 0, 1, 0, 0, 0, 0, []),
  (1006, .iload_n 3, 1, 3, 0, 0, 0, []),
  (1007, .iconst 1, 1, 0, 0, 0, 1, []),
  (1008, .iadd, 1, 0, 0, 0, 0, []),
  (1009, .iaload, 1, 0, 0, 0, 0, []),
  (1010, .aload_n 0, 1, 0, 0, 0, 0, []),
  (1011, .iload_n 3, 1, 3, 0, 0, 0, []),
  (1012, .iconst 2, 1, 0, 0, 0, 2, []),
  (1013, .iadd, 1, 0, 0, 0, 0, []),
  (1014, .iaload, 1, 0, 0, 0, 0, []),
  (1015, .invokevirtual 127, 3, 205, 3, 12, 1, []),
  (1018, .if_icmp .eq 412, 3, 1430, 0, 0, 0, []),
  (1021, .iconst 0, 1, 0, 0, 0, 0, []),
  (1022, .ireturn, 1, 0, 0, 0, 0, []),
  (1023, .aload_n 1, 1, 1, 0, 0, 0, []),
  (1024, .invokevirtual 128, 3, 103, 1, 11, 1, []),
  (1027, .aload_n 2, 1, 2, 0, 0, 0, []),
  (1028, .invokevirtual 131, 3, 206, 1, 12, 1, []),
  (1031, .if_icmp .eq 399, 3, 1430, 0, 0, 0, []),
  (1034, .iconst 0, 1, 0, 0, 0, 0, []),
  (1035, .ireturn, 1, 0, 0, 0, 0, []),
  (1036, .aload_n 1, 1, 1, 0, 0, 0, []),
  (1037, .aload_n 0, 1, 0, 0, 0, 0, []),
  (1038, .iload_n 3, 1, 3, 0, 0, 0, []),
  (1039, .iconst 1, 1, 0, 0, 0, 1, []),
  (1040, .iadd, 1, 0, 0, 0, 0, []),
  (1041, .iaload, 1, 0, 0, 0, 0, []),
  (1042, .aload_n 0, 1, 0, 0, 0, 0, []),
  (1043, .iload_n 3, 1, 3, 0, 0, 0, []),
  (1044, .iconst 2, 1, 0, 0, 0, 2, []),
  (1045, .iadd, 1, 0, 0, 0, 0, []),
  (1046, .iaload, 1, 0, 0, 0, 0, []),
  (1047, .invokevirtual 132, 3, 104, 3, 11, 1, []),
  (1050, .aload_n 2, 1, 2, 0, 0, 0, []),
  (1051, .aload_n 0, 1, 0, 0, 0, 0, []),
  (1052, .iload_n 3, 1, 3, 0, 0, 0, []),
  (1053, .iconst 1, 1, 0, 0, 0, 1, []),
  (1054, .iadd, 1, 0, 0, 0, 0, []),
  (1055, .iaload, 1, 0, 0, 0, 0, []),
  (1056, .aload_n 0, 1, 0, 0, 0, 0, []),
  (1057, .iload_n 3, 1, 3, 0, 0, 0, []),
  (1058, .iconst 2, 1, 0, 0, 0, 2, []),
  (1059, .iadd, 1, 0, 0, 0, 0, []),
  (1060, .iaload, 1, 0, 0, 0, 0, []),
  (1061, .invokevirtual 135, 3, 207, 3, 12, 1, []),
  (1064, .if_icmp .eq 366, 3, 1430, 0, 0, 0, []),
  (1067, .iconst 0, 1, 0, 0, 0, 0, []),
  (1068, .ireturn, 1, 0, 0, 0, 0, []),
  (1069, .aload_n 1, 1, 1, 0, 0, 0, []),
  (1070, .invokevirtual 136, 3, 105, 1, 11, 1, []),
  (1073, .aload_n 2, 1, 2, 0, 0, 0, []),
  (1074, .invokevirtual 139, 3, 208, 1, 12, 1, []),
  (1077, .if_icmp .eq 353, 3, 1430, 0, 0, 0, []),
  (1080, .iconst 0, 1, 0, 0, 0, 0, []),
  (1081, .ireturn, 1, 0, 0, 0, 0, []),
  (1082, .aload_n 1, 1, 1, 0, 0, 0, []),
  (1083, .invokevirtual 140, 3, 106, 1, 11, 1, []),
  (1086, .aload_n 2, 1, 2, 0, 0, 0, []),
  (1087, .invokevirtual 143, 3, 209, 1, 12, 1, []),
  (1090, .if_icmp .eq 340, 3, 1430, 0, 0, 0, []),
  (1093, .iconst 0, 1, 0, 0, 0, 0, []),
  (1094, .ireturn, 1, 0, 0, 0, 0, []),
  (1095, .aload_n 1, 1, 1, 0, 0, 0, []),
  (1096, .aload_n 0, 1, 0, 0, 0, 0, []),
  (1097, .iload_n 3, 1, 3, 0, 0, 0, []),
  (1098, .iconst 1, 1, 0, 0, 0, 1, []),
  (1099, .iadd, 1, 0, 0, 0, 0, []),
  (1100, .iaload, 1, 0, 0, 0, 0, []),
  (1101, .aload_n 0, 1, 0, 0, 0, 0, []),
  (1102, .iload_n 3, 1, 3, 0, 0, 0, []),
  (1103, .iconst 2, 1, 0, 0, 0, 2, []),
  (1104, .iadd, 1, 0, 0, 0, 0, []),
  (1105, .iaload, 1, 0, 0, 0, 0, []),
  (1106, .aload_n 0, 1, 0, 0, 0, 0, []),
  (1107, .iload_n 3, 1, 3, 0, 0, 0, []),
  (1108, .iconst 3, 1, 0, 0, 0, 3, []),
  (1109, .iadd, 1, 0, 0, 0, 0, []),
  (1110, .iaload, 1, 0, 0, 0, 0, []),
  (1111, .invokevirtual 144, 3, 107, 4, 11, 1, []),
  (1114, .aload_n 2, 1, 2, 0, 0, 0, []),
  (1115, .aload_n 0, 1, 0, 0, 0, 0, []),
  (1116, .iload_n 3, 1, 3, 0, 0, 0, []),
  (1117, .iconst 1, 1, 0, 0, 0, 1, []),
  (1118, .iadd, 1, 0, 0, 0, 0, []),
  (1119, .iaload, 1, 0, 0, 0, 0, []),
  (1120, .aload_n 0, 1, 0, 0, 0, 0, []),
  (1121, .iload_n 3, 1, 3, 0, 0, 0, []),
  (1122, .iconst 2, 1, 0, 0, 0, 2, []),
  (1123, .iadd, 1, 0, 0, 0, 0, []),
  (1124, .iaload, 1, 0, 0, 0, 0, []),
  (1125, .aload_n 0, 1, 0, 0, 0, 0, []),
  (1126, .iload_n 3, 1, 3, 0, 0, 0, []),
  (1127, .iconst 3, 1, 0, 0, 0, 3, []),
  (1128, .iadd, 1, 0, 0, 0, 0, []),
  (1129, .iaload, 1, 0, 0, 0, 0, []),
  (1130, .invokevirtual 147, 3, 218, 4, 12, 1, []),
  (1133, .if_icmp .eq 297, 3, 1430, 0, 0, 0, []),
  (1136, .iconst 0, 1, 0, 0, 0, 0, []),
  (1137, .ireturn, 1, 0, 0, 0, 0, []),
  (1138, .aload_n 1, 1, 1, 0, 0, 0, []),
  (1139, .aload_n 0, 1, 0, 0, 0, 0, []),
  (1140, .iload_n 3, 1, 3, 0, 0, 0, []),
  (1141, .iconst 1, 1, 0, 0, 0, 1, []),
  (1142, .iadd, 1, 0, 0, 0, 0, []),
  (1143, .iaload, 1, 0, 0, 0, 0, []),
  (1144, .invokevirtual 148, 3, 108, 2, 11, 1, []),
  (1147, .aload_n 2, 1, 2, 0, 0, 0, []),
  (1148, .aload_n 0, 1, 0, 0, 0, 0, []),
  (1149, .iload_n 3, 1, 3, 0, 0, 0, []),
  (1150, .iconst 1, 1, 0, 0, 0, 1, []),
  (1151, .iadd, 1, 0, 0, 0, 0, []),
  (1152, .iaload, 1, 0, 0, 0, 0, []),
  (1153, .invokevirtual 151, 3, 219, 2, 12, 1, []),
  (1156, .if_icmp .eq 274, 3, 1430, 0, 0, 0, []),
  (1159, .iconst 0, 1, 0, 0, 0, 0, []),
  (1160, .ireturn, 1, 0, 0, 0, 0, []),
  (1161, .aload_n 1, 1, 1, 0, 0, 0, []),
  (1162, .aload_n 0, 1, 0, 0, 0, 0, []),
  (1163, .iload_n 3, 1, 3, 0, 0, 0, []),
  (1164, .iconst 1, 1, 0, 0, 0, 1, []),
  (1165, .iadd, 1, 0, 0, 0, 0, []),
  (1166, .iaload, 1, 0, 0, 0, 0, []),
  (1167, .aload_n 0, 1, 0, 0, 0, 0, []),
  (1168, .iload_n 3, 1, 3, 0, 0, 0, []),
  (1169, .iconst 2, 1, 0, 0, 0, 2, []),
  (1170, .iadd, 1, 0, 0, 0, 0, []),
  (1171, .iaload, 1, 0, 0, 0, 0, []),
  (1172, .invokevirtual 152, 3, 109, 3, 11, 1, []),
  (1175, .aload_n 2, 1, 2, 0, 0, 0, []),
  (1176, .aload_n 0, 1, 0, 0, 0, 0, []),
  (1177, .iload_n 3, 1, 3, 0, 0, 0, []),
  (1178, .iconst 1, 1, 0, 0, 0, 1, []),
  (1179, .iadd, 1, 0, 0, 0, 0, []),
  (1180, .iaload, 1, 0, 0, 0, 0, []),
  (1181, .aload_n 0, 1, 0, 0, 0, 0, []),
  (1182, .iload_n 3, 1, 3, 0, 0, 0, []),
  (1183, .iconst 2, 1, 0, 0, 0, 2, []),
  (1184, .iadd, 1, 0, 0, 0, 0, []),
  (1185, .iaload, 1, 0, 0, 0, 0, []),
  (1186, .invokevirtual 155, 3, 220, 3, 12, 1, []),
  (1189, .if_icmp .eq 241, 3, 1430, 0, 0, 0, []),
  (1192, .iconst 0, 1, 0, 0, 0, 0, []),
  (1193, .ireturn, 1, 0, 0, 0, 0, []),
  (1194, .aload_n 1, 1, 1, 0, 0, 0, []),
  (1195, .aload_n 0, 1, 0, 0, 0, 0, []),
  (1196, .iload_n 3, 1, 3, 0, 0, 0, []),
  (1197, .iconst 1, 1, 0, 0, 0, 1, []),
  (1198, .iadd, 1, 0, 0, 0, 0, []),
  (1199, .iaload, 1, 0, 0, 0, 0, []),
  (1200, .invokevirtual 156, 3, 110, 2, 11, 1, []),
  (1203, .aload_n 2, 1, 2, 0, 0, 0, []),
  (1204, .aload_n 0, 1, 0, 0, 0, 0, []),
  (1205, .iload_n 3, 1, 3, 0, 0, 0, []),
  (1206, .iconst 1, 1, 0, 0, 0, 1, []),
  (1207, .iadd, 1, 0, 0, 0, 0, []),
  (1208, .iaload, 1, 0, 0, 0, 0, []),
  (1209, .invokevirtual 159, 3, 221, 2, 12, 1, []),
  (1212, .if_icmp .eq 218, 3, 1430, 0, 0, 0, []),
  (1215, .iconst 0, 1, 0, 0, 0, 0, []),
  (1216, .ireturn, 1, 0, 0, 0, 0, []),
  (1217, .aload_n 1, 1, 1, 0, 0, 0, []),
  (1218, .aload_n 0, 1, 0, 0, 0, 0, []),
  (1219, .iload_n 3, 1, 3, 0, 0, 0, []),
  (1220, .iconst 1, 1, 0, 0, 0, 1, []),
  (1221, .iadd, 1, 0, 0, 0, 0, []),
  (1222, .iaload, 1, 0, 0, 0, 0, []),
  (1223, .aload_n 0, 1, 0, 0, 0, 0, []),
  (1224, .iload_n 3, 1, 3, 0, 0, 0, []),
  (1225, .iconst 2, 1, 0, 0, 0, 2, []),
  (1226, .iadd, 1, 0, 0, 0, 0, []),
  (1227, .iaload, 1, 0, 0, 0, 0, []),
  (1228, .aload_n 0, 1, 0, 0, 0, 0, []),
  (1229, .iload_n 3, 1, 3, 0, 0, 0, []),
  (1230, .iconst 3, 1, 0, 0, 0, 3, []),
  (1231, .iadd, 1, 0, 0, 0, 0, []),
  (1232, .iaload, 1, 0, 0, 0, 0, []),
  (1233, .invokevirtual 160, 3, 111, 4, 11, 1, []),
  (1236, .aload_n 2, 1, 2, 0, 0, 0, []),
  (1237, .aload_n 0, 1, 0, 0, 0, 0, []),
  (1238, .iload_n 3, 1, 3, 0, 0, 0, []),
  (1239, .iconst 1, 1, 0, 0, 0, 1, []),
  (1240, .iadd, 1, 0, 0, 0, 0, []),
  (1241, .iaload, 1, 0, 0, 0, 0, []),
  (1242, .aload_n 0, 1, 0, 0, 0, 0, []),
  (1243, .iload_n 3, 1, 3, 0, 0, 0, []),
  (1244, .iconst 2, 1, 0, 0, 0, 2, []),
  (1245, .iadd, 1, 0, 0, 0, 0, []),
  (1246, .iaload, 1, 0, 0, 0, 0, []),
  (1247, .aload_n 0, 1, 0, 0, 0, 0, []),
  (1248, .iload_n 3, 1, 3, 0, 0, 0, []),
  (1249, .iconst 3, 1, 0, 0, 0, 3, []),
  (1250, .iadd, 1, 0, 0, 0, 0, []),
  (1251, .iaload, 1, 0, 0, 0, 0, []),
  (1252, .invokevirtual 163, 3, 223, 4, 12, 1, []),
  (1255, .if_icmp .eq 175, 3, 1430, 0, 0, 0, []),
  (1258, .iconst 0, 1, 0, 0, 0, 0, []),
  (1259, .ireturn, 1, 0, 0, 0, 0, []),
  (1260, .aload_n 1, 1, 1, 0, 0, 0, []),
  (1261, .aload_n 0, 1, 0, 0, 0, 0, []),
  (1262, .iload_n 3, 1, 3, 0, 0, 0, []),
  (1263, .iconst 1, 1, 0, 0, 0, 1, []),
  (1264, .iadd, 1, 0, 0, 0, 0, []),
  (1265, .iaload, 1, 0, 0, 0, 0, []),
  (1266, .aload_n 0, 1, 0, 0, 0, 0, []),
  (1267, .iload_n 3, 1, 3, 0, 0, 0, []),
  (1268, .iconst 2, 1, 0, 0, 0, 2, []),
  (1269, .iadd, 1, 0, 0, 0, 0, []),
  (1270, .iaload, 1, 0, 0, 0, 0, []),
  (1271, .aload_n 0, 1, 0, 0, 0, 0, []),
  (1272, .iload_n 3, 1, 3, 0, 0, 0, []),
  (1273, .iconst 3, 1, 0, 0, 0, 3, []),
  (1274, .iadd, 1, 0, 0, 0, 0, []),
  (1275, .iaload, 1, 0, 0, 0, 0, []),
  (1276, .i2l, 1, 0, 0, 0, 0, []),
  (1277, .bipush 32, 2, 0, 0, 0, 32, []),
  (1279, .lshl, 1, 0, 0, 0, 0, []),
  (1280, .aload_n 0, 1, 0, 0, 0, 0, []),
  (1281, .iload_n 3, 1, 3, 0, 0, 0, []),
  (1282, .iconst 4, 1, 0, 0, 0, 4, []),
  (1283, .iadd, 1, 0, 0, 0, 0, []),
  (1284, .iaload, 1, 0, 0, 0, 0, []),
  (1285, .i2l, 1, 0, 0, 0, 0, []),
  (1286, .ldc2_w 164, 3, 4294967295, 0, 0, 0, []),
  (1289, .land, 1, 0, 0, 0, 0, []),
  (1290, .lor, 1, 0, 0, 0, 0, []),
  (1291, .invokevirtual 166, 3, 112, 4, 11, 1, []),
  (1294, .aload_n 2, 1, 2, 0, 0, 0, []),
  (1295, .aload_n 0, 1, 0, 0, 0, 0, []),
  (1296, .iload_n 3, 1, 3, 0, 0, 0, []),
  (1297, .iconst 1, 1, 0, 0, 0, 1, []),
  (1298, .iadd, 1, 0, 0, 0, 0, []),
  (1299, .iaload, 1, 0, 0, 0, 0, []),
  (1300, .aload_n 0, 1, 0, 0, 0, 0, []),
  (1301, .iload_n 3, 1, 3, 0, 0, 0, []),
  (1302, .iconst 2, 1, 0, 0, 0, 2, []),
  (1303, .iadd, 1, 0, 0, 0, 0, []),
  (1304, .iaload, 1, 0, 0, 0, 0, []),
  (1305, .aload_n 0, 1, 0, 0, 0, 0, []),
  (1306, .iload_n 3, 1, 3, 0, 0, 0, []),
  (1307, .iconst 3, 1, 0, 0, 0, 3, []),
  (1308, .iadd, 1, 0, 0, 0, 0, []),
  (1309, .iaload, 1, 0, 0, 0, 0, []),
  (1310, .i2l, 1, 0, 0, 0, 0, []),
  (1311, .bipush 32, 2, 0, 0, 0, 32, []),
  (1313, .lshl, 1, 0, 0, 0, 0, []),
  (1314, .aload_n 0, 1, 0, 0, 0, 0, []),
  (1315, .iload_n 3, 1, 3, 0, 0, 0, []),
  (1316, .iconst 4, 1, 0, 0, 0, 4, []),
  (1317, .iadd, 1, 0, 0, 0, 0, []),
  (1318, .iaload, 1, 0, 0, 0, 0, []),
  (1319, .i2l, 1, 0, 0, 0, 0, []),
  (1320, .ldc2_w 164, 3, 4294967295, 0, 0, 0, []),
  (1323, .land, 1, 0, 0, 0, 0, []),
  (1324, .lor, 1, 0, 0, 0, 0, []),
  (1325, .invokevirtual 170, 3, 225, 4, 12, 1, []),
  (1328, .if_icmp .eq 102, 3, 1430, 0, 0, 0, []),
  (1331, .iconst 0, 1, 0, 0, 0, 0, []),
  (1332, .ireturn, 1, 0, 0, 0, 0, []),
  (1333, .aload_n 1, 1, 1, 0, 0, 0, []),
  (1334, .aload_n 0, 1, 0, 0, 0, 0, []),
  (1335, .iload_n 3, 1, 3, 0, 0, 0, []),
  (1336, .iconst 1, 1, 0, 0, 0, 1, []),
  (1337, .iadd, 1, 0, 0, 0, 0, []),
  (1338, .iaload, 1, 0, 0, 0, 0, []),
  (1339, .aload_n 0, 1, 0, 0, 0, 0, []),
  (1340, .iload_n 3, 1, 3, 0, 0, 0, []),
  (1341, .iconst 2, 1, 0, 0, 0, 2, []),
  (1342, .iadd, 1, 0, 0, 0, 0, []),
  (1343, .iaload, 1, 0, 0, 0, 0, []),
  (1344, .invokevirtual 171, 3, 113, 3, 11, 2, []),
  (1347, .aload_n 2, 1, 2, 0, 0, 0, []),
  (1348, .aload_n 0, 1, 0, 0, 0, 0, []),
  (1349, .iload_n 3, 1, 3, 0, 0, 0, []),
  (1350, .iconst 1, 1, 0, 0, 0, 1, []),
  (1351, .iadd, 1, 0, 0, 0, 0, []),
  (1352, .iaload, 1, 0, 0, 0, 0, []),
  (1353, .aload_n 0, 1, 0, 0, 0, 0, []),
  (1354, .iload_n 3, 1, 3, 0, 0, 0, []),
  (1355, .iconst 2, 1, 0, 0, 0, 2, []),
  (1356, .iadd, 1, 0, 0, 0, 0, []),
  (1357, .iaload, 1, 0, 0, 0, 0, []),
  (1358, .invokevirtual 174, 3, 226, 3, 12, 2, []),
  (1361, .lcmp, 1, 0, 0, 0, 0, []),
  (1362, .ifCond .eq 68, 3, 1430, 0, 0, 0, []),
  (1365, .iconst 0, 1, 0, 0, 0, 0, []),
  (1366, .ireturn, 1, 0, 0, 0, 0, []),
  (1367, .aload_n 1, 1, 1, 0, 0, 0, []),
  (1368, .aload_n 0, 1, 0, 0, 0, 0, []),
  (1369, .iload_n 3, 1, 3, 0, 0, 0, []),
  (1370, .iconst 1, 1, 0, 0, 0, 1, []),
  (1371, .iadd, 1, 0, 0, 0, 0, []),
  (1372, .iaload, 1, 0, 0, 0, 0, []),
  (1373, .aload_n 0, 1, 0, 0, 0, 0, []),
  (1374, .iload_n 3, 1, 3, 0, 0, 0, []),
  (1375, .iconst 2, 1, 0, 0, 0, 2, []),
  (1376, .iadd, 1, 0, 0, 0, 0, []),
  (1377, .iaload, 1, 0, 0, 0, 0, []),
  (1378, .aload_n 0, 1, 0, 0, 0, 0, []),
  (1379, .iload_n 3, 1, 3, 0, 0, 0, []),
  (1380, .iconst 3, 1, 0, 0, 0, 3, []),
  (1381, .iadd, 1, 0, 0, 0, 0, []),
  (1382, .iaload, 1, 0, 0, 0, 0, []),
  (1383, .aload_n 0, 1, 0, 0, 0, 0, []),
  (1384, .iload_n 3, 1, 3, 0, 0, 0, []),
  (1385, .iconst 4, 1, 0, 0, 0, 4, []),
  (1386, .iadd, 1, 0, 0, 0, 0, []),
  (1387, .iaload, 1, 0, 0, 0, 0, []),
  (1388, .aload_n 0, 1, 0, 0, 0, 0, []),
  (1389, .iload_n 3, 1, 3, 0, 0, 0, []),
  (1390, .iconst 5, 1, 0, 0, 0, 5, []),
  (1391, .iadd, 1, 0, 0, 0, 0, []),
  (1392, .iaload, 1, 0, 0, 0, 0, []),
  (1393, .invokevirtual 175, 3, 114, 6, 11, 1, []),
  (1396, .aload_n 2, 1, 2, 0, 0, 0, []),
  (1397, .aload_n 0, 1, 0, 0, 0, 0, []),
  (1398, .iload_n 3, 1, 3, 0, 0, 0, []),
  (1399, .iconst 1, 1, 0, 0, 0, 1, []),
  (1400, .iadd, 1, 0, 0, 0, 0, []),
  (1401, .iaload, 1, 0, 0, 0, 0, []),
  (1402, .aload_n 0, 1, 0, 0, 0, 0, []),
  (1403, .iload_n 3, 1, 3, 0, 0, 0, []),
  (1404, .iconst 2, 1, 0, 0, 0, 2, []),
  (1405, .iadd, 1, 0, 0, 0, 0, []),
  (1406, .iaload, 1, 0, 0, 0, 0, []),
  (1407, .aload_n 0, 1, 0, 0, 0, 0, []),
  (1408, .iload_n 3, 1, 3, 0, 0, 0, []),
  (1409, .iconst 3, 1, 0, 0, 0, 3, []),
  (1410, .iadd, 1, 0, 0, 0, 0, []),
  (1411, .iaload, 1, 0, 0, 0, 0, []),
  (1412, .aload_n 0, 1, 0, 0, 0, 0, []),
  (1413, .iload_n 3, 1, 3, 0, 0, 0, []),
  (1414, .iconst 4, 1, 0, 0, 0, 4, []),
  (1415, .iadd, 1, 0, 0, 0, 0, []),
  (1416, .iaload, 1, 0, 0, 0, 0, []),
  (1417, .aload_n 0, 1, 0, 0, 0, 0, []),
  (1418, .iload_n 3, 1, 3, 0, 0, 0, []),
  (1419, .iconst 5, 1, 0, 0, 0, 5, []),
  (1420, .iadd, 1, 0, 0, 0, 0, []),
  (1421, .iaload, 1, 0, 0, 0, 0, []),
  (1422, .invokevirtual 179, 3, 227, 6, 12, 1, []),
  (1425, .if_icmp .eq 5, 3, 1430, 0, 0, 0, []),
  (1428, .iconst 0, 1, 0, 0, 0, 0, []),
  (1429, .ireturn, 1, 0, 0, 0, 0, []),
  (1430, .iinc 3 6, 3, 3, 0, 0, 6, []),
  (1433, .goto (-1415), 3, 18, 0, 0, 0, []),
  (1436, .iconst 1, 1, 0, 0, 0, 1, []),
  (1437, .ireturn, 1, 0, 0, 0, 0, [])]
def zm_0 : List z_Mt := [(yX0_init, cX0_init, 1, none, false, zo_X0_init, zc_X0_init, 1, 1),
  (yX0_forget, cX0_forget, 1, none, false, zo_X0_forget, zc_X0_forget, 1, 1),
  (yX0_kept, cX0_kept, 1, (some .int), false, zo_X0_kept, zc_X0_kept, 1, 1),
  (yX0_run, cX0_run, 4, (some .int), false, zo_X0_run, zc_X0_run, 1, 4),
  (yX0_note, cX0_note, 2, none, false, zo_X0_note, zc_X0_note, 1, 2),
  (yX0_drips, cX0_drips, 3, (some .int), false, zo_X0_drips, zc_X0_drips, 1, 3),
  (yX0_steams, cX0_steams, 3, (some .int), false, zo_X0_steams, zc_X0_steams, 1, 3),
  (yX0_tells, cX0_tells, 3, (some .int), false, zo_X0_tells, zc_X0_tells, 1, 3),
  (yX1_init, cX1_init, 2, none, false, zo_X1_init, zc_X1_init, 2, 2),
  (yX1_become, cX1_become, 5, none, false, zo_X1_become, zc_X1_become, 2, 5),
  (yX1_copyFrom, cX1_copyFrom, 2, none, false, zo_X1_copyFrom, zc_X1_copyFrom, 2, 2),
  (yX1_driesAt, cX1_driesAt, 4, (some .int), false, zo_X1_driesAt, zc_X1_driesAt, 2, 3),
  (yX1_asLeather, cX1_asLeather, 3, (some .int), false, zo_X1_asLeather, zc_X1_asLeather, 0, 3),
  (yX1_asStuffed, cX1_asStuffed, 2, (some .int), false, zo_X1_asStuffed, zc_X1_asStuffed, 2, 2),
  (yX1_spoils, cX1_spoils, 3, (some .boolean), true, zo_X1_spoils, zc_X1_spoils, 2, 2),
  (yX1_letHourGo, cX1_letHourGo, 2, none, false, zo_X1_letHourGo, zc_X1_letHourGo, 2, 2),
  (yX2_init, cX2_init, 2, none, false, zo_X2_init, zc_X2_init, 3, 2),
  (yX2_begin, cX2_begin, 3, none, false, zo_X2_begin, zc_X2_begin, 3, 3),
  (yX2_letHourGo, cX2_letHourGo, 1, none, false, zo_X2_letHourGo, zc_X2_letHourGo, 3, 1),
  (yX2_wetBehind, cX2_wetBehind, 6, (some .int), false, zo_X2_wetBehind, zc_X2_wetBehind, 3, 5)]
def zm_1 : List z_Mt := [(yX3_init, cX3_init, 1, none, false, zo_X3_init, zc_X3_init, 4, 1),
  (yX3_clear, cX3_clear, 1, none, false, zo_X3_clear, zc_X3_clear, 4, 1),
  (yX3_append, cX3_append, 2, none, false, zo_X3_append, zc_X3_append, 4, 2),
  (yX3_appendTest, cX3_appendTest, 4, none, false, zo_X3_appendTest, zc_X3_appendTest, 4, 4),
  (yX3_appendEnd, cX3_appendEnd, 2, none, false, zo_X3_appendEnd, zc_X3_appendEnd, 4, 2),
  (yX3_extraFor, cX3_extraFor, 10, (some .int), false, zo_X3_extraFor, zc_X3_extraFor, 4, 4),
  (yX3_isTrue, cX3_isTrue, 6, (some .boolean), true, zo_X3_isTrue, zc_X3_isTrue, 4, 2),
  (yX4_init, cX4_init, 2, none, false, zo_X4_init, zc_X4_init, 5, 2),
  (yX4_append, cX4_append, 2, (some .int), false, zo_X4_append, zc_X4_append, 5, 2),
  (yX4_faultReadingInto, cX4_faultReadingInto, 3, (some .int), false, zo_X4_faultReadingInto, zc_X4_faultReadingInto, 5, 2),
  (yX4_readClause, cX4_readClause, 3, (some .boolean), true, zo_X4_readClause, zc_X4_readClause, 5, 1),
  (yX4_readWord, cX4_readWord, 1, (some .int), false, zo_X4_readWord, zc_X4_readWord, 5, 1),
  (yX4_readNumber, cX4_readNumber, 4, (some .int), false, zo_X4_readNumber, zc_X4_readNumber, 5, 1),
  (yX4_readAny, cX4_readAny, 3, (some .boolean), true, zo_X4_readAny, zc_X4_readAny, 5, 2),
  (yX4_readAll, cX4_readAll, 3, (some .boolean), true, zo_X4_readAll, zc_X4_readAll, 5, 2),
  (yX4_readPart, cX4_readPart, 3, (some .boolean), true, zo_X4_readPart, zc_X4_readPart, 5, 2),
  (yX4_readTest, cX4_readTest, 4, (some .boolean), true, zo_X4_readTest, zc_X4_readTest, 5, 1),
  (yX4_letterOf, cX4_letterOf, 1, (some .int), false, zo_X4_letterOf, zc_X4_letterOf, 0, 1),
  (yX4_comparisonOf, cX4_comparisonOf, 1, (some .int), false, zo_X4_comparisonOf, zc_X4_comparisonOf, 0, 1),
  (yX4_sign, cX4_sign, 1, (some .int), false, zo_X4_sign, zc_X4_sign, 5, 1)]
def zm_2 : List z_Mt := [(yX4_skip, cX4_skip, 2, (some .boolean), true, zo_X4_skip, zc_X4_skip, 5, 2),
  (yX5_above, cX5_above, 1, (some .int), false, zo_X5_above, zc_X5_above, 0, 1),
  (yX5_isOrIsUnder, cX5_isOrIsUnder, 4, (some .boolean), true, zo_X5_isOrIsUnder, zc_X5_isOrIsUnder, 0, 2),
  (yX6_init, cX6_init, 1, none, false, zo_X6_init, zc_X6_init, 6, 1),
  (yX6_foresee, cX6_foresee, 6, none, false, zo_X6_foresee, zc_X6_foresee, 6, 4),
  (yX6_moreByChange, cX6_moreByChange, 3, (some .int), false, zo_X6_moreByChange, zc_X6_moreByChange, 6, 3),
  (yX6_moreByMove, cX6_moreByMove, 4, (some .int), false, zo_X6_moreByMove, zc_X6_moreByMove, 6, 3),
  (yX6_findBest, cX6_findBest, 1, none, false, zo_X6_findBest, zc_X6_findBest, 6, 1),
  (yX6_tryFrom, cX6_tryFrom, 8, none, false, zo_X6_tryFrom, zc_X6_tryFrom, 6, 5),
  (yX6_keepIfBetter, cX6_keepIfBetter, 3, none, false, zo_X6_keepIfBetter, zc_X6_keepIfBetter, 6, 3),
  (yX7_init, cX7_init, 3, none, false, zo_X7_init, zc_X7_init, 7, 2),
  (yX7_copyFrom, cX7_copyFrom, 3, none, false, zo_X7_copyFrom, zc_X7_copyFrom, 7, 2),
  (yX7_whoIsAt, cX7_whoIsAt, 3, (some .int), false, zo_X7_whoIsAt, zc_X7_whoIsAt, 7, 2),
  (yX7_freePlace, cX7_freePlace, 2, (some .int), false, zo_X7_freePlace, zc_X7_freePlace, 7, 1),
  (yX7_letHourGo, cX7_letHourGo, 2, none, false, zo_X7_letHourGo, zc_X7_letHourGo, 7, 1),
  (yX7_letHoursGo, cX7_letHoursGo, 3, none, false, zo_X7_letHoursGo, zc_X7_letHoursGo, 7, 2),
  (yX7_follow, cX7_follow, 3, none, false, zo_X7_follow, zc_X7_follow, 7, 3),
  (yX7_wetOfThoseHere, cX7_wetOfThoseHere, 3, (some .int), false, zo_X7_wetOfThoseHere, zc_X7_wetOfThoseHere, 7, 1),
  (yX7_cracksOfAll, cX7_cracksOfAll, 3, (some .int), false, zo_X7_cracksOfAll, zc_X7_cracksOfAll, 7, 1),
  (yX7_dryOfThoseHere, cX7_dryOfThoseHere, 3, (some .int), false, zo_X7_dryOfThoseHere, zc_X7_dryOfThoseHere, 7, 1)]
def zm_3 : List z_Mt := [(yX7_dryBits, cX7_dryBits, 3, (some .int), false, zo_X7_dryBits, zc_X7_dryBits, 7, 1),
  (yX8_init, cX8_init, 2, none, false, zo_X8_init, zc_X8_init, 8, 2),
  (yX8_isFull, cX8_isFull, 1, (some .boolean), true, zo_X8_isFull, zc_X8_isFull, 8, 1),
  (yX8_append, cX8_append, 4, (some .int), false, zo_X8_append, zc_X8_append, 8, 4),
  (yX8_copyFrom, cX8_copyFrom, 2, none, false, zo_X8_copyFrom, zc_X8_copyFrom, 8, 2),
  (yX8_mostThirdOf, cX8_mostThirdOf, 4, (some .int), false, zo_X8_mostThirdOf, zc_X8_mostThirdOf, 8, 2),
  (yX9_init, cX9_init, 2, none, false, zo_X9_init, zc_X9_init, 9, 2),
  (yX9_copyFrom, cX9_copyFrom, 2, none, false, zo_X9_copyFrom, zc_X9_copyFrom, 9, 2),
  (yX9_warmAt, cX9_warmAt, 2, (some .int), false, zo_X9_warmAt, zc_X9_warmAt, 9, 2),
  (yX9_burnLog, cX9_burnLog, 1, none, false, zo_X9_burnLog, zc_X9_burnLog, 9, 1),
  (yX9_letHourGo, cX9_letHourGo, 1, none, false, zo_X9_letHourGo, zc_X9_letHourGo, 9, 1),
  (yX10_init, cX10_init, 1, none, false, zo_X10_init, zc_X10_init, 10, 1),
  (yX10_become, cX10_become, 3, none, false, zo_X10_become, zc_X10_become, 10, 3),
  (yX10_holds, cX10_holds, 3, (some .boolean), true, zo_X10_holds, zc_X10_holds, 10, 3),
  (yX10_narrowed, cX10_narrowed, 3, (some .long), false, zo_X10_narrowed, zc_X10_narrowed, 10, 2),
  (yX11_init, cX11_init, 3, none, false, zo_X11_init, zc_X11_init, 11, 1),
  (yX11_pair, cX11_pair, 4, (some .int), false, zo_X11_pair, zc_X11_pair, 11, 4),
  (yX11_of, cX11_of, 4, (some .int), false, zo_X11_of, zc_X11_of, 11, 3),
  (yX11_wet, cX11_wet, 4, (some .int), false, zo_X11_wet, zc_X11_wet, 11, 3),
  (yX11_put, cX11_put, 5, (some .int), false, zo_X11_put, zc_X11_put, 11, 3)]
def zm_4 : List z_Mt := [(yX11_take, cX11_take, 4, (some .int), false, zo_X11_take, zc_X11_take, 11, 3),
  (yX11_stoke, cX11_stoke, 1, (some .int), false, zo_X11_stoke, zc_X11_stoke, 11, 1),
  (yX11_set, cX11_set, 5, (some .int), false, zo_X11_set, zc_X11_set, 11, 3),
  (yX11_row, cX11_row, 6, (some .int), false, zo_X11_row, zc_X11_row, 11, 4),
  (yX11_feed, cX11_feed, 2, (some .int), false, zo_X11_feed, zc_X11_feed, 11, 2),
  (yX11_hut, cX11_hut, 3, (some .int), false, zo_X11_hut, zc_X11_hut, 11, 1),
  (yX11_told, cX11_told, 2, (some .int), false, zo_X11_told, zc_X11_told, 11, 2),
  (yX11_pass, cX11_pass, 2, (some .int), false, zo_X11_pass, zc_X11_pass, 11, 2),
  (yX11_on, cX11_on, 4, (some .int), false, zo_X11_on, zc_X11_on, 11, 3),
  (yX11_done, cX11_done, 3, (some .int), false, zo_X11_done, zc_X11_done, 11, 2),
  (yX11_night, cX11_night, 2, (some .int), false, zo_X11_night, zc_X11_night, 11, 2),
  (yX11_placed, cX11_placed, 4, (some .int), false, zo_X11_placed, zc_X11_placed, 11, 3),
  (yX11_change, cX11_change, 6, (some .int), false, zo_X11_change, zc_X11_change, 11, 1),
  (yX11_logs, cX11_logs, 8, (some .int), false, zo_X11_logs, zc_X11_logs, 11, 3),
  (yX11_see, cX11_see, 4, (some .int), false, zo_X11_see, zc_X11_see, 11, 4),
  (yX11_wets, cX11_wets, 6, (some .int), false, zo_X11_wets, zc_X11_wets, 11, 3),
  (yX11_can, cX11_can, 6, (some .int), false, zo_X11_can, zc_X11_can, 11, 3),
  (yX11_where, cX11_where, 4, (some .int), false, zo_X11_where, zc_X11_where, 11, 2),
  (yX11_odds, cX11_odds, 9, (some .long), false, zo_X11_odds, zc_X11_odds, 11, 4),
  (yX11_mean, cX11_mean, 5, (some .long), false, zo_X11_mean, zc_X11_mean, 11, 3)]
def zm_5 : List z_Mt := [(yX11_rota, cX11_rota, 4, (some .int), false, zo_X11_rota, zc_X11_rota, 11, 3),
  (yX11_ends, cX11_ends, 3, (some .int), false, zo_X11_ends, zc_X11_ends, 11, 2),
  (yX11_book, cX11_book, 3, (some .int), false, zo_X11_book, zc_X11_book, 11, 3),
  (yX11_looked, cX11_looked, 2, (some .int), false, zo_X11_looked, zc_X11_looked, 11, 1),
  (yX11_judge, cX11_judge, 5, (some .int), false, zo_X11_judge, zc_X11_judge, 11, 3),
  (yX11_image, cX11_image, 1, (some .int), false, zo_X11_image, zc_X11_image, 11, 1),
  (yX11_undo, cX11_undo, 1, (some .int), false, zo_X11_undo, zc_X11_undo, 11, 1),
  (yX11_act, cX11_act, 4, (some .int), false, zo_X11_act, zc_X11_act, 11, 4),
  (yX11_trace, cX11_trace, 2, (some .int), false, zo_X11_trace, zc_X11_trace, 11, 2),
  (yX11_taken, cX11_taken, 4, (some .int), false, zo_X11_taken, zc_X11_taken, 11, 3),
  (yX11_count, cX11_count, 2, (some .int), false, zo_X11_count, zc_X11_count, 11, 2),
  (yX11_tape, cX11_tape, 4, (some .int), false, zo_X11_tape, zc_X11_tape, 11, 4),
  (yX11_item, cX11_item, 6, (some .int), false, zo_X11_item, zc_X11_item, 11, 4),
  (yX11_read, cX11_read, 4, (some .long), false, zo_X11_read, zc_X11_read, 11, 3),
  (yX11_shift, cX11_shift, 8, (some .int), false, zo_X11_shift, zc_X11_shift, 11, 6),
  (yX11_outside, cX11_outside, 2, (some .boolean), true, zo_X11_outside, zc_X11_outside, 0, 2),
  (yX11_noPair, cX11_noPair, 2, (some .boolean), true, zo_X11_noPair, zc_X11_noPair, 11, 2),
  (yX11_tryHours, cX11_tryHours, 2, none, false, zo_X11_tryHours, zc_X11_tryHours, 11, 2),
  (yX11_wetByLogs, cX11_wetByLogs, 4, (some .int), false, zo_X11_wetByLogs, zc_X11_wetByLogs, 11, 3),
  (yX11_courseIsAsSeen, cX11_courseIsAsSeen, 6, (some .boolean), true, zo_X11_courseIsAsSeen, zc_X11_courseIsAsSeen, 11, 1)]
def zm_6 : List z_Mt := [(yX11_allIsAsSeenWith, cX11_allIsAsSeenWith, 8, (some .boolean), true, zo_X11_allIsAsSeenWith, zc_X11_allIsAsSeenWith, 11, 3),
  (yX11_partOfFraction, cX11_partOfFraction, 4, (some .long), false, zo_X11_partOfFraction, zc_X11_partOfFraction, 0, 3),
  (yX11_commonDivisor, cX11_commonDivisor, 6, (some .int), false, zo_X11_commonDivisor, zc_X11_commonDivisor, 0, 2),
  (yX12_init, cX12_init, 1, none, false, zo_X12_init, zc_X12_init, 12, 1),
  (yX12_in, cX12_in, 4, (some .boolean), true, zo_X12_in, zc_X12_in, 12, 4),
  (yX12_has, cX12_has, 3, (some .boolean), true, zo_X12_has, zc_X12_has, 12, 3),
  (yX12_least, cX12_least, 3, (some .int), false, zo_X12_least, zc_X12_least, 12, 3),
  (yX12_atLeast0, cX12_atLeast0, 2, (some .int), false, zo_X12_atLeast0, zc_X12_atLeast0, 12, 2),
  (yX12_bits, cX12_bits, 4, (some .int), false, zo_X12_bits, zc_X12_bits, 12, 2),
  (yX12_isPair, cX12_isPair, 2, (some .boolean), true, zo_X12_isPair, zc_X12_isPair, 12, 2),
  (yX12_isPlace, cX12_isPlace, 2, (some .boolean), true, zo_X12_isPlace, zc_X12_isPlace, 12, 2),
  (yX12_isWet, cX12_isWet, 2, (some .boolean), true, zo_X12_isWet, zc_X12_isWet, 12, 2),
  (yX12_isHours, cX12_isHours, 2, (some .boolean), true, zo_X12_isHours, zc_X12_isHours, 12, 2),
  (yX12_whoIs, cX12_whoIs, 3, (some .int), false, zo_X12_whoIs, zc_X12_whoIs, 12, 2),
  (yX12_pair, cX12_pair, 6, (some .int), false, zo_X12_pair, zc_X12_pair, 12, 4),
  (yX12_wet, cX12_wet, 4, (some .int), false, zo_X12_wet, zc_X12_wet, 12, 3),
  (yX12_comesTo, cX12_comesTo, 4, none, false, zo_X12_comesTo, zc_X12_comesTo, 12, 3),
  (yX12_put, cX12_put, 4, (some .int), false, zo_X12_put, zc_X12_put, 12, 3),
  (yX12_goes, cX12_goes, 3, none, false, zo_X12_goes, zc_X12_goes, 12, 3),
  (yX12_take, cX12_take, 4, (some .int), false, zo_X12_take, zc_X12_take, 12, 3)]
def zm_7 : List z_Mt := [(yX12_set, cX12_set, 4, (some .int), false, zo_X12_set, zc_X12_set, 12, 3),
  (yX12_row, cX12_row, 5, (some .int), false, zo_X12_row, zc_X12_row, 12, 4),
  (yX12_feed, cX12_feed, 2, (some .int), false, zo_X12_feed, zc_X12_feed, 12, 2),
  (yX12_next, cX12_next, 1, (some .int), false, zo_X12_next, zc_X12_next, 12, 1),
  (yX12_second, cX12_second, 1, (some .int), false, zo_X12_second, zc_X12_second, 12, 1),
  (yX12_takes, cX12_takes, 2, (some .boolean), true, zo_X12_takes, zc_X12_takes, 12, 2),
  (yX12_takesWord, cX12_takesWord, 4, (some .boolean), true, zo_X12_takesWord, zc_X12_takesWord, 12, 3),
  (yX12_isDigit, cX12_isDigit, 1, (some .boolean), true, zo_X12_isDigit, zc_X12_isDigit, 12, 1),
  (yX12_takesNumber, cX12_takesNumber, 2, (some .boolean), true, zo_X12_takesNumber, zc_X12_takesNumber, 12, 1),
  (yX12_emits, cX12_emits, 2, none, false, zo_X12_emits, zc_X12_emits, 12, 2),
  (yX12_whole, cX12_whole, 1, none, false, zo_X12_whole, zc_X12_whole, 12, 1),
  (yX12_settle, cX12_settle, 2, none, false, zo_X12_settle, zc_X12_settle, 12, 2),
  (yX12_place, cX12_place, 2, (some .int), false, zo_X12_place, zc_X12_place, 12, 2),
  (yX12_takesTest, cX12_takesTest, 3, (some .boolean), true, zo_X12_takesTest, zc_X12_takesTest, 12, 1),
  (yX12_takesE, cX12_takesE, 4, (some .boolean), true, zo_X12_takesE, zc_X12_takesE, 12, 2),
  (yX12_takesHead, cX12_takesHead, 2, (some .boolean), true, zo_X12_takesHead, zc_X12_takesHead, 12, 2),
  (yX12_takesClause, cX12_takesClause, 2, (some .boolean), true, zo_X12_takesClause, zc_X12_takesClause, 12, 2),
  (yX12_goesText, cX12_goesText, 3, (some .boolean), true, zo_X12_goesText, zc_X12_goesText, 12, 2),
  (yX12_hut, cX12_hut, 2, (some .int), false, zo_X12_hut, zc_X12_hut, 12, 1),
  (yX12_begin, cX12_begin, 1, (some .int), false, zo_X12_begin, zc_X12_begin, 12, 1)]
def zm_8 : List z_Mt := [(yX12_behind, cX12_behind, 1, (some .int), false, zo_X12_behind, zc_X12_behind, 12, 1),
  (yX12_lastOf, cX12_lastOf, 5, (some .int), false, zo_X12_lastOf, zc_X12_lastOf, 12, 3),
  (yX12_factOf, cX12_factOf, 4, (some .int), false, zo_X12_factOf, zc_X12_factOf, 12, 4),
  (yX12_holds, cX12_holds, 9, (some .boolean), true, zo_X12_holds, zc_X12_holds, 12, 4),
  (yX12_warm, cX12_warm, 2, (some .int), false, zo_X12_warm, zc_X12_warm, 12, 2),
  (yX12_sum, cX12_sum, 5, (some .int), false, zo_X12_sum, zc_X12_sum, 12, 3),
  (yX12_plainDries, cX12_plainDries, 6, (some .int), false, zo_X12_plainDries, zc_X12_plainDries, 12, 3),
  (yX12_dries, cX12_dries, 3, (some .int), false, zo_X12_dries, zc_X12_dries, 12, 3),
  (yX12_spoils, cX12_spoils, 2, (some .boolean), true, zo_X12_spoils, zc_X12_spoils, 12, 2),
  (yX12_of, cX12_of, 3, (some .int), false, zo_X12_of, zc_X12_of, 12, 3),
  (yX12_wetHere, cX12_wetHere, 3, (some .int), false, zo_X12_wetHere, zc_X12_wetHere, 12, 1),
  (yX12_wetAll, cX12_wetAll, 3, (some .int), false, zo_X12_wetAll, zc_X12_wetAll, 12, 1),
  (yX12_allCracks, cX12_allCracks, 3, (some .int), false, zo_X12_allCracks, zc_X12_allCracks, 12, 1),
  (yX12_drySet, cX12_drySet, 3, (some .int), false, zo_X12_drySet, zc_X12_drySet, 12, 1),
  (yX12_told, cX12_told, 2, (some .int), false, zo_X12_told, zc_X12_told, 12, 2),
  (yX12_goHour, cX12_goHour, 3, none, false, zo_X12_goHour, zc_X12_goHour, 12, 1),
  (yX12_goHours, cX12_goHours, 3, none, false, zo_X12_goHours, zc_X12_goHours, 12, 2),
  (yX12_stokes, cX12_stokes, 1, none, false, zo_X12_stokes, zc_X12_stokes, 12, 1),
  (yX12_stoke, cX12_stoke, 1, (some .int), false, zo_X12_stoke, zc_X12_stoke, 12, 1),
  (yX12_pass, cX12_pass, 2, (some .int), false, zo_X12_pass, zc_X12_pass, 12, 2)]
def zm_9 : List z_Mt := [(yX12_save, cX12_save, 2, none, false, zo_X12_save, zc_X12_save, 12, 1),
  (yX12_putBack, cX12_putBack, 2, none, false, zo_X12_putBack, zc_X12_putBack, 12, 1),
  (yX12_on, cX12_on, 4, (some .int), false, zo_X12_on, zc_X12_on, 12, 3),
  (yX12_done, cX12_done, 3, (some .int), false, zo_X12_done, zc_X12_done, 12, 2),
  (yX12_night, cX12_night, 3, (some .int), false, zo_X12_night, zc_X12_night, 12, 2),
  (yX12_layWets, cX12_layWets, 4, none, false, zo_X12_layWets, zc_X12_layWets, 12, 2),
  (yX12_layPlaces, cX12_layPlaces, 5, (some .boolean), true, zo_X12_layPlaces, zc_X12_layPlaces, 12, 2),
  (yX12_layBest, cX12_layBest, 8, none, false, zo_X12_layBest, zc_X12_layBest, 12, 2),
  (yX12_placed, cX12_placed, 3, (some .int), false, zo_X12_placed, zc_X12_placed, 12, 3),
  (yX12_wetBy, cX12_wetBy, 6, (some .int), false, zo_X12_wetBy, zc_X12_wetBy, 12, 3),
  (yX12_change, cX12_change, 6, (some .int), false, zo_X12_change, zc_X12_change, 12, 1),
  (yX12_wetStoked, cX12_wetStoked, 4, (some .int), false, zo_X12_wetStoked, zc_X12_wetStoked, 12, 3),
  (yX12_logs, cX12_logs, 7, (some .int), false, zo_X12_logs, zc_X12_logs, 12, 3),
  (yX12_see, cX12_see, 4, (some .int), false, zo_X12_see, zc_X12_see, 12, 4),
  (yX12_isSeen, cX12_isSeen, 4, (some .boolean), true, zo_X12_isSeen, zc_X12_isSeen, 12, 2),
  (yX12_wets, cX12_wets, 7, (some .int), false, zo_X12_wets, zc_X12_wets, 12, 3),
  (yX12_can, cX12_can, 7, (some .int), false, zo_X12_can, zc_X12_can, 12, 3),
  (yX12_where, cX12_where, 5, (some .int), false, zo_X12_where, zc_X12_where, 12, 2),
  (yX12_divisor, cX12_divisor, 6, (some .int), false, zo_X12_divisor, zc_X12_divisor, 12, 3),
  (yX12_lowest, cX12_lowest, 5, (some .long), false, zo_X12_lowest, zc_X12_lowest, 12, 4)]
def zm_10 : List z_Mt := [(yX12_odds, cX12_odds, 6, (some .long), false, zo_X12_odds, zc_X12_odds, 12, 4),
  (yX12_mean, cX12_mean, 4, (some .long), false, zo_X12_mean, zc_X12_mean, 12, 3),
  (yX12_rota, cX12_rota, 3, (some .int), false, zo_X12_rota, zc_X12_rota, 12, 3),
  (yX12_goRota, cX12_goRota, 3, none, false, zo_X12_goRota, zc_X12_goRota, 12, 3),
  (yX12_ends, cX12_ends, 3, (some .int), false, zo_X12_ends, zc_X12_ends, 12, 2),
  (yX12_book, cX12_book, 3, (some .int), false, zo_X12_book, zc_X12_book, 12, 3),
  (yX12_looked, cX12_looked, 2, (some .int), false, zo_X12_looked, zc_X12_looked, 12, 1),
  (yX12_judge, cX12_judge, 4, (some .int), false, zo_X12_judge, zc_X12_judge, 12, 3),
  (yX12_image, cX12_image, 2, (some .int), false, zo_X12_image, zc_X12_image, 12, 1),
  (yX12_undo, cX12_undo, 2, (some .int), false, zo_X12_undo, zc_X12_undo, 12, 1),
  (yX12_body, cX12_body, 2, none, false, zo_X12_body, zc_X12_body, 12, 2),
  (yX12_pairDrips, cX12_pairDrips, 3, (some .int), false, zo_X12_pairDrips, zc_X12_pairDrips, 12, 3),
  (yX12_dripsAct, cX12_dripsAct, 3, (some .int), false, zo_X12_dripsAct, zc_X12_dripsAct, 12, 3),
  (yX12_pairSteams, cX12_pairSteams, 3, (some .int), false, zo_X12_pairSteams, zc_X12_pairSteams, 12, 3),
  (yX12_leatherSteams, cX12_leatherSteams, 3, (some .int), false, zo_X12_leatherSteams, zc_X12_leatherSteams, 12, 3),
  (yX12_steamsAct, cX12_steamsAct, 4, (some .int), false, zo_X12_steamsAct, zc_X12_steamsAct, 12, 3),
  (yX12_pairTells, cX12_pairTells, 3, (some .int), false, zo_X12_pairTells, zc_X12_pairTells, 12, 3),
  (yX12_tellsAct, cX12_tellsAct, 4, (some .int), false, zo_X12_tellsAct, zc_X12_tellsAct, 12, 3),
  (yX12_act, cX12_act, 4, (some .int), false, zo_X12_act, zc_X12_act, 12, 4),
  (yX12_trace, cX12_trace, 2, (some .int), false, zo_X12_trace, zc_X12_trace, 12, 2)]
def zm_11 : List z_Mt := [(yX12_taken, cX12_taken, 4, (some .int), false, zo_X12_taken, zc_X12_taken, 12, 3),
  (yX12_count, cX12_count, 2, (some .int), false, zo_X12_count, zc_X12_count, 12, 2),
  (yX12_isTape, cX12_isTape, 2, (some .boolean), true, zo_X12_isTape, zc_X12_isTape, 12, 2),
  (yX12_tape, cX12_tape, 5, (some .int), false, zo_X12_tape, zc_X12_tape, 12, 4),
  (yX12_narrow, cX12_narrow, 4, (some .long), false, zo_X12_narrow, zc_X12_narrow, 12, 3),
  (yX12_item, cX12_item, 5, (some .int), false, zo_X12_item, zc_X12_item, 12, 4),
  (yX12_read, cX12_read, 3, (some .long), false, zo_X12_read, zc_X12_read, 12, 3),
  (yX12_shift, cX12_shift, 7, (some .int), false, zo_X12_shift, zc_X12_shift, 12, 6),
  (yJ6_bitCount_0f7a4, cJ6_bitCount_0f7a4, 1, (some .int), false, zo_J6_bitCount_0f7a4, zc_J6_bitCount_0f7a4, 0, 1),
  (yJ7_fill_d0a16, cJ7_fill_d0a16, 5, none, false, zo_J7_fill_d0a16, zc_J7_fill_d0a16, 0, 2),
  (yJ7_fill_53178, cJ7_fill_53178, 4, none, false, zo_J7_fill_53178, zc_J7_fill_53178, 0, 2)]
def z_mt : List z_Mt := zm_0 ++ (zm_1 ++ (zm_2 ++ (zm_3 ++ (zm_4 ++ (zm_5 ++ (zm_6 ++ (zm_7 ++ (zm_8 ++ (zm_9 ++ (zm_10 ++ (zm_11)))))))))))
end
section
def z_on (o : Nat) : String := ["", RX0, RX1, RX2, RX3, RX4, RX6, RX7, RX8, RX9, RX10, RX11, RX12, RX5, RJ6, RJ7, RL, RJ9].getD o ""
def z_nF (t : Nat) : Nat := (z_kT.getD t []).length
def z_cn (t : Nat) : String := (vwCl.getD (t - 1) (RX5, TX5, 0)).1
def z_tf (t : Nat) : u_T := (vwCl.getD (t - 1) (RX5, TX5, 0)).2.1
def z_sub (k : Nat) : List Cond := match k with
  | 0 => k2_sels lw_privs
  | 1 => tables_1_1
  | 2 => tables_1_2
  | 3 => tables_1_3
  | 4 => tables_1_4
  | 5 => tables_1_5
  | 6 => tables_1_6
  | _ => tables_1_7
def z_pk (ps : List (Nat × Nat)) : List Cond := ps.filterMap (fun q => (z_sub q.1)[q.2]?)
theorem z_sub_in {k : Nat} {w : Cond} (h : w ∈ z_sub k) : w ∈ lw_tbl := by
  unfold lw_tbl tables_1
  simp only [List.mem_append]
  unfold z_sub at h
  split at h <;> simp [h]
theorem z_pk_in {ps : List (Nat × Nat)} {w : Cond} (h : w ∈ z_pk ps) : w ∈ lw_tbl := by
  obtain ⟨q, -, hq⟩ := List.mem_filterMap.mp h
  exact z_sub_in (k := q.1) (List.mem_of_getElem? hq)
theorem z_chk {α : Type} {l : List α} {f : α → Cond} {ps : List (Nat × Nat)} (h : l.map f = z_pk ps) (g : (l.map f).all goodWord = true) : ∀ q ∈ l, f q ∈ lw_tbl ∧ goodWord (f q) = true := fun q hq => ⟨z_pk_in (h ▸ List.mem_map_of_mem hq), List.all_eq_true.mp g _ (List.mem_map_of_mem hq)⟩
def z_flw (q : Nat × (Nat × (Nat × (Nat × Bool)))) : Cond := Cond.fieldLink (z_on q.1) q.2.1 (z_cn q.2.2.1) (z_tf q.2.2.1 q.2.2.2.1).2.1 (z_tf q.2.2.1 q.2.2.2.1).2.2.1
def z_fl_0 : List (Nat × (Nat × (Nat × (Nat × Bool)))) := [(1, 9, 1, 0, true), (1, 20, 1, 2, false), (1, 24, 1, 1, false), (1, 34, 2, 1, false), (1, 55, 2, 2, false), (1, 58, 2, 0, false), (2, 9, 2, 7, true), (2, 15, 2, 0, false), (2, 19, 2, 1, false), (2, 22, 2, 2, false), (2, 25, 2, 3, false), (2, 28, 2, 4, false), (2, 31, 2, 5, false), (2, 35, 2, 6, false), (2, 56, 9, 3, false), (2, 60, 9, 2, false), (3, 12, 3, 0, true), (3, 23, 3, 1, true), (3, 43, 2, 4, false), (3, 47, 2, 3, false), (4, 9, 4, 0, false), (4, 15, 4, 1, false), (4, 18, 4, 3, true), (4, 22, 4, 5, true), (4, 25, 4, 6, true), (4, 28, 4, 2, false), (4, 31, 4, 4, false), (4, 38, 2, 0, false), (4, 43, 2, 1, false), (4, 46, 2, 2, false), (4, 49, 2, 3, false), (5, 9, 5, 0, true), (5, 15, 5, 3, false), (5, 19, 5, 1, false), (5, 28, 5, 2, false), (5, 46, 4, 0, false), (5, 49, 4, 1, false), (6, 9, 6, 0, true), (6, 15, 6, 1, true), (6, 19, 6, 2, true)]
theorem z_fl_0_ok : z_fl_0.map z_flw = z_pk [(1, 115), (1, 119), (1, 117), (1, 73), (1, 78), (1, 69), (1, 96), (1, 66), (1, 71), (1, 75), (1, 79), (1, 84), (1, 89), (1, 93), (1, 215), (1, 212), (2, 13), (2, 15), (1, 88), (1, 81), (1, 164), (1, 168), (1, 173), (1, 175), (1, 176), (1, 172), (1, 174), (1, 68), (1, 74), (1, 77), (1, 82), (2, 27), (2, 31), (2, 28), (2, 30), (1, 165), (1, 170), (1, 133), (1, 134), (1, 135)] := rfl
theorem z_fl_0_gd : (z_fl_0.map z_flw).all goodWord = true := by decide +kernel
def z_fl_1 : List (Nat × (Nat × (Nat × (Nat × Bool)))) := [(6, 22, 6, 4, true), (6, 25, 7, 1, false), (6, 31, 6, 3, false), (6, 32, 7, 0, true), (6, 36, 2, 5, false), (6, 42, 7, 2, true), (6, 52, 2, 4, false), (6, 59, 2, 0, false), (6, 62, 6, 5, false), (6, 65, 6, 6, false), (7, 11, 7, 0, true), (7, 22, 7, 2, true), (7, 29, 7, 1, false), (7, 40, 2, 4, false), (7, 53, 9, 1, false), (7, 59, 2, 5, false), (7, 63, 2, 3, false), (7, 66, 2, 6, false), (8, 7, 8, 0, true), (8, 13, 8, 1, true), (8, 16, 8, 2, true), (8, 19, 8, 3, false), (9, 9, 9, 0, false), (9, 15, 9, 1, false), (9, 18, 9, 3, false), (9, 22, 9, 2, false), (9, 31, 4, 1, false), (9, 39, 4, 0, false), (10, 9, 10, 0, false), (10, 15, 10, 2, true), (10, 19, 10, 1, false), (11, 16, 11, 1, true), (11, 20, 11, 2, true), (11, 23, 11, 3, true), (11, 26, 11, 6, true), (11, 29, 11, 7, true), (11, 32, 11, 8, true), (11, 37, 11, 10, true), (11, 43, 11, 12, true), (11, 50, 11, 13, true)]
theorem z_fl_1_ok : z_fl_1.map z_flw = z_pk [(1, 137), (1, 231), (1, 136), (1, 228), (1, 90), (1, 234), (1, 85), (1, 67), (1, 139), (1, 141), (1, 227), (1, 233), (1, 230), (1, 86), (1, 210), (1, 92), (1, 83), (1, 95), (1, 32), (1, 34), (1, 36), (1, 38), (1, 206), (1, 208), (1, 214), (1, 211), (1, 169), (1, 166), (2, 47), (2, 51), (2, 49), (2, 62), (2, 63), (2, 64), (2, 67), (2, 68), (2, 69), (2, 71), (2, 73), (2, 74)] := rfl
theorem z_fl_1_gd : (z_fl_1.map z_flw).all goodWord = true := by decide +kernel
def z_fl_2 : List (Nat × (Nat × (Nat × (Nat × Bool)))) := [(11, 57, 11, 16, true), (11, 67, 11, 0, true), (11, 71, 11, 5, true), (11, 74, 11, 14, true), (11, 80, 11, 15, true), (11, 87, 11, 9, true), (11, 96, 7, 1, false), (11, 100, 7, 0, true), (11, 118, 7, 2, true), (11, 126, 2, 1, false), (11, 129, 2, 2, false), (11, 132, 2, 3, false), (11, 135, 2, 4, false), (11, 138, 2, 5, false), (11, 142, 2, 6, false), (11, 153, 9, 1, false), (11, 161, 9, 0, false), (11, 164, 2, 7, true), (11, 168, 5, 1, false), (11, 174, 11, 11, false), (11, 181, 9, 3, false), (11, 188, 9, 2, false), (11, 191, 4, 0, false), (11, 194, 4, 1, false), (11, 216, 3, 0, true), (11, 232, 6, 5, false), (11, 235, 6, 6, false), (11, 238, 6, 4, true), (11, 254, 8, 3, false), (11, 278, 8, 0, true), (11, 281, 8, 1, true), (11, 288, 10, 0, false), (11, 291, 10, 1, false), (11, 292, 10, 2, true), (11, 296, 11, 4, false), (11, 312, 1, 0, true), (11, 320, 1, 1, false), (11, 339, 2, 0, false), (11, 345, 8, 2, true), (12, 7, 12, 0, false)]
theorem z_fl_2_ok : z_fl_2.map z_flw = z_pk [(2, 77), (2, 61), (2, 66), (2, 75), (2, 76), (2, 70), (1, 232), (1, 229), (1, 235), (1, 72), (1, 76), (1, 80), (1, 87), (1, 91), (1, 94), (1, 209), (1, 207), (1, 97), (2, 29), (2, 72), (1, 216), (1, 213), (1, 167), (1, 171), (2, 14), (1, 140), (1, 142), (1, 138), (1, 39), (1, 33), (1, 35), (2, 48), (2, 50), (2, 52), (2, 65), (1, 116), (1, 118), (1, 70), (1, 37), (4, 121)] := rfl
theorem z_fl_2_gd : (z_fl_2.map z_flw).all goodWord = true := by decide +kernel
def z_fl_3 : List (Nat × (Nat × (Nat × (Nat × Bool)))) := [(12, 13, 12, 1, false), (12, 16, 12, 2, false), (12, 19, 12, 3, false), (12, 22, 12, 4, false), (12, 25, 12, 5, true), (12, 29, 12, 6, true), (12, 32, 12, 7, true), (12, 35, 12, 8, true), (12, 38, 12, 9, true), (12, 41, 12, 10, true), (12, 44, 12, 11, false), (12, 47, 12, 12, false), (12, 50, 12, 13, false), (12, 53, 12, 14, false), (12, 56, 12, 15, false), (12, 59, 12, 16, true), (12, 62, 12, 17, true), (12, 65, 12, 18, true), (12, 68, 12, 19, true), (12, 71, 12, 20, true), (12, 74, 12, 21, true), (12, 77, 12, 22, true), (12, 80, 12, 23, true), (12, 83, 12, 24, false), (12, 86, 12, 25, false), (12, 89, 12, 26, false), (12, 92, 12, 27, true), (12, 95, 12, 28, true), (12, 99, 12, 29, false), (12, 102, 12, 30, false), (12, 105, 12, 31, false), (12, 108, 12, 32, false), (12, 111, 12, 33, false), (12, 114, 12, 34, true), (12, 117, 12, 35, true), (12, 120, 12, 36, true), (12, 123, 12, 37, true), (12, 126, 12, 38, true), (12, 129, 12, 39, true), (12, 132, 12, 40, false)]
theorem z_fl_3_ok : z_fl_3.map z_flw = z_pk [(4, 122), (4, 123), (4, 124), (4, 125), (4, 126), (4, 127), (4, 128), (4, 129), (4, 130), (4, 131), (4, 132), (4, 133), (4, 134), (4, 135), (4, 136), (4, 137), (4, 138), (4, 139), (4, 140), (4, 141), (4, 142), (4, 143), (4, 144), (4, 145), (4, 146), (4, 147), (4, 148), (4, 149), (4, 150), (4, 151), (4, 152), (4, 153), (4, 154), (4, 155), (4, 156), (4, 157), (4, 158), (4, 159), (4, 160), (4, 161)] := rfl
theorem z_fl_3_gd : (z_fl_3.map z_flw).all goodWord = true := by decide +kernel
def z_fl_4 : List (Nat × (Nat × (Nat × (Nat × Bool)))) := [(12, 135, 12, 41, false), (12, 138, 12, 42, false), (12, 141, 12, 43, true), (12, 144, 12, 44, true), (12, 147, 12, 45, true), (12, 150, 12, 46, true), (12, 153, 12, 47, false), (12, 156, 12, 48, false), (12, 159, 12, 49, true), (12, 162, 12, 50, true), (12, 165, 12, 51, true), (12, 168, 12, 52, true), (12, 171, 12, 53, false), (12, 175, 12, 54, false), (12, 178, 12, 55, false), (12, 181, 12, 56, false), (12, 184, 12, 57, false), (12, 187, 12, 58, false), (12, 190, 12, 59, false), (12, 193, 12, 60, false), (12, 196, 12, 61, false), (12, 199, 12, 62, false), (12, 202, 12, 63, true), (12, 205, 12, 64, true), (12, 208, 12, 65, true), (12, 211, 12, 66, true), (12, 214, 12, 67, true), (12, 217, 12, 68, true), (12, 220, 12, 69, true), (12, 223, 12, 70, true), (12, 226, 12, 71, true), (12, 229, 12, 72, true), (12, 232, 12, 73, true), (12, 235, 12, 74, true), (12, 238, 12, 75, true), (12, 241, 12, 76, false), (12, 244, 12, 77, true), (12, 247, 12, 78, true), (12, 250, 12, 79, true), (12, 253, 12, 80, true)]
theorem z_fl_4_ok : z_fl_4.map z_flw = z_pk [(4, 162), (4, 163), (4, 164), (4, 165), (4, 166), (4, 167), (4, 168), (4, 169), (4, 170), (4, 171), (4, 172), (4, 173), (4, 174), (4, 175), (4, 176), (4, 177), (4, 178), (4, 179), (4, 180), (4, 181), (4, 182), (4, 183), (4, 184), (4, 185), (4, 186), (4, 187), (4, 188), (4, 189), (4, 190), (4, 191), (4, 192), (4, 193), (4, 194), (4, 195), (4, 196), (4, 197), (4, 198), (4, 199), (4, 200), (4, 201)] := rfl
theorem z_fl_4_gd : (z_fl_4.map z_flw).all goodWord = true := by decide +kernel
def z_fl_5 : List (Nat × (Nat × (Nat × (Nat × Bool)))) := [(12, 257, 12, 81, true)]
theorem z_fl_5_ok : z_fl_5.map z_flw = z_pk [(4, 202)] := rfl
theorem z_fl_5_gd : (z_fl_5.map z_flw).all goodWord = true := by decide +kernel
def z_fl : List (Nat × (Nat × (Nat × (Nat × Bool)))) := z_fl_0 ++ (z_fl_1 ++ (z_fl_2 ++ (z_fl_3 ++ (z_fl_4 ++ (z_fl_5)))))
theorem z_fl_0_in : ∀ q ∈ z_fl_0, z_flw q ∈ lw_tbl ∧ goodWord (z_flw q) = true := z_chk z_fl_0_ok z_fl_0_gd
theorem z_fl_1_in : ∀ q ∈ z_fl_1, z_flw q ∈ lw_tbl ∧ goodWord (z_flw q) = true := z_chk z_fl_1_ok z_fl_1_gd
theorem z_fl_2_in : ∀ q ∈ z_fl_2, z_flw q ∈ lw_tbl ∧ goodWord (z_flw q) = true := z_chk z_fl_2_ok z_fl_2_gd
theorem z_fl_3_in : ∀ q ∈ z_fl_3, z_flw q ∈ lw_tbl ∧ goodWord (z_flw q) = true := z_chk z_fl_3_ok z_fl_3_gd
theorem z_fl_4_in : ∀ q ∈ z_fl_4, z_flw q ∈ lw_tbl ∧ goodWord (z_flw q) = true := z_chk z_fl_4_ok z_fl_4_gd
theorem z_fl_5_in : ∀ q ∈ z_fl_5, z_flw q ∈ lw_tbl ∧ goodWord (z_flw q) = true := z_chk z_fl_5_ok z_fl_5_gd
theorem z_fl_in : ∀ q ∈ z_fl, z_flw q ∈ lw_tbl ∧ goodWord (z_flw q) = true := List.forall_mem_append.mpr ⟨z_fl_0_in, List.forall_mem_append.mpr ⟨z_fl_1_in, List.forall_mem_append.mpr ⟨z_fl_2_in, List.forall_mem_append.mpr ⟨z_fl_3_in, List.forall_mem_append.mpr ⟨z_fl_4_in, z_fl_5_in⟩⟩⟩⟩⟩
def z_flb (q : Nat × (Nat × (Nat × (Nat × Bool)))) : Bool := match vwCl[q.2.2.1 - 1]? with | some (_, T, N) => Nat.blt q.2.2.2.1 N && (((T q.2.2.2.1).2.2.2 == q.2.2.2.2) && (Nat.blt 0 q.2.2.1 && Nat.ble q.2.2.1 12)) | none => false
theorem z_fl_b : z_fl.all z_flb = true := by decide +kernel
/-- calls: own class, index, method, arguments, receiver, kind of answer, 0 virtual 1 static 2 special -/
def z_ml7 : Type := Nat × (Nat × (Nat × (Nat × (Nat × (Nat × Nat)))))
def z_yn (j : Nat) : MethodName := (z_mt.getD j (yX0_init, cX0_init, 0, none, false, [], [], 0, 0)).1
def z_mlw (q : Nat × (Nat × (Nat × (Nat × (Nat × (Nat × Nat)))))) : Cond := Cond.methodLink (z_on q.1) q.2.1 (z_yn q.2.2.1)
def z_ml_0 : List (Nat × (Nat × (Nat × (Nat × (Nat × (Nat × Nat)))))) := [(1, 17, 8, 2, 2, 0, 2), (1, 37, 5, 3, 1, 1, 0), (1, 40, 6, 3, 1, 1, 0), (1, 43, 7, 3, 1, 1, 0), (1, 46, 4, 2, 1, 0, 0), (1, 49, 41, 1, 0, 1, 1), (2, 38, 230, 2, 0, 0, 1), (2, 50, 68, 2, 9, 1, 0), (2, 63, 25, 4, 4, 1, 0), (2, 69, 12, 3, 0, 1, 1), (2, 79, 13, 2, 2, 1, 0), (2, 82, 14, 2, 2, 1, 0), (2, 86, 11, 3, 2, 1, 0), (3, 9, 8, 2, 2, 0, 2), (3, 20, 66, 2, 9, 0, 2), (3, 27, 10, 2, 2, 0, 0), (3, 31, 67, 2, 9, 0, 0), (3, 34, 15, 2, 2, 0, 0), (3, 37, 70, 1, 9, 0, 0), (3, 39, 17, 3, 3, 0, 0), (4, 34, 22, 2, 4, 0, 0), (4, 52, 26, 2, 4, 1, 0), (5, 23, 21, 1, 4, 0, 0), (5, 31, 30, 1, 5, 1, 0), (5, 35, 40, 2, 5, 1, 0), (5, 39, 31, 1, 5, 1, 0), (5, 43, 32, 1, 5, 1, 0), (5, 52, 33, 2, 5, 1, 0), (5, 55, 24, 2, 4, 0, 0), (5, 59, 34, 2, 5, 1, 0), (5, 62, 22, 2, 4, 0, 0), (5, 65, 35, 2, 5, 1, 0), (5, 68, 36, 1, 5, 1, 0), (5, 71, 39, 1, 5, 1, 0), (5, 74, 37, 1, 0, 1, 1), (5, 78, 38, 1, 0, 1, 1), (5, 81, 23, 4, 4, 0, 0), (6, 46, 19, 5, 3, 1, 0), (6, 55, 46, 3, 6, 1, 0), (6, 68, 48, 5, 6, 0, 0)]
theorem z_ml_0_ok : z_ml_0.map z_mlw = z_pk [(1, 62), (4, 43), (4, 54), (4, 58), (4, 47), (4, 51), (2, 132), (2, 147), (2, 154), (2, 162), (2, 166), (3, 74), (3, 75), (2, 10), (2, 12), (3, 111), (3, 112), (3, 117), (3, 118), (3, 139), (3, 36), (2, 158), (2, 222), (2, 226), (2, 234), (2, 230), (3, 2), (3, 6), (3, 37), (3, 10), (3, 18), (3, 14), (3, 22), (2, 238), (3, 26), (3, 29), (3, 32), (3, 135), (3, 161), (3, 144)] := rfl
theorem z_ml_0_gd : (z_ml_0.map z_mlw).all goodWord = true := by decide +kernel
def z_ml_1 : List (Nat × (Nat × (Nat × (Nat × (Nat × (Nat × Nat)))))) := [(6, 72, 49, 3, 6, 0, 0), (7, 19, 66, 2, 9, 0, 2), (7, 26, 8, 2, 2, 0, 2), (7, 33, 67, 2, 9, 0, 0), (7, 37, 10, 2, 2, 0, 0), (7, 43, 52, 2, 7, 1, 0), (7, 47, 15, 2, 2, 0, 0), (7, 50, 70, 1, 9, 0, 0), (7, 52, 54, 1, 7, 0, 0), (7, 56, 69, 1, 9, 0, 0), (10, 22, 229, 2, 0, 0, 1), (11, 13, 61, 2, 8, 0, 2), (11, 64, 50, 2, 7, 0, 2), (11, 79, 16, 2, 3, 0, 2), (11, 86, 27, 2, 5, 0, 2), (11, 92, 115, 2, 0, 1, 1), (11, 104, 53, 1, 7, 1, 0), (11, 108, 9, 5, 2, 0, 0), (11, 114, 116, 2, 11, 1, 0), (11, 122, 11, 3, 2, 1, 0), (11, 145, 14, 2, 2, 1, 0), (11, 149, 52, 2, 7, 1, 0), (11, 158, 69, 1, 9, 0, 0), (11, 171, 28, 2, 5, 1, 0), (11, 177, 29, 2, 5, 1, 0), (11, 185, 68, 2, 9, 1, 0), (11, 197, 57, 1, 7, 1, 0), (11, 200, 58, 1, 7, 1, 0), (11, 203, 60, 1, 7, 1, 0), (11, 206, 55, 2, 7, 0, 0), (11, 209, 117, 2, 11, 0, 0), (11, 212, 17, 3, 3, 0, 0), (11, 219, 18, 1, 3, 0, 0), (11, 222, 59, 1, 7, 1, 0), (11, 225, 44, 4, 6, 0, 0), (11, 229, 47, 1, 6, 0, 0), (11, 241, 45, 3, 6, 1, 0), (11, 245, 118, 3, 11, 1, 0), (11, 249, 228, 1, 0, 1, 1), (11, 255, 62, 1, 8, 1, 0)]
theorem z_ml_1_ok : z_ml_1.map z_mlw = z_pk [(3, 148), (1, 202), (1, 226), (3, 92), (3, 96), (2, 124), (3, 70), (3, 76), (3, 66), (4, 5), (4, 91), (1, 28), (1, 194), (2, 5), (2, 23), (2, 117), (2, 120), (2, 128), (2, 139), (2, 143), (2, 170), (2, 182), (2, 191), (2, 210), (2, 218), (3, 45), (3, 46), (3, 50), (3, 54), (3, 62), (3, 84), (3, 107), (3, 113), (3, 123), (3, 131), (3, 140), (3, 157), (3, 169), (3, 174), (3, 184)] := rfl
theorem z_ml_1_gd : (z_ml_1.map z_mlw).all goodWord = true := by decide +kernel
def z_ml_2 : List (Nat × (Nat × (Nat × (Nat × (Nat × (Nat × Nat)))))) := [(11, 259, 63, 4, 8, 1, 0), (11, 262, 119, 1, 11, 1, 0), (11, 265, 120, 3, 11, 1, 0), (11, 270, 121, 3, 0, 2, 1), (11, 274, 51, 2, 7, 0, 0), (11, 284, 56, 3, 7, 0, 0), (11, 299, 64, 2, 8, 0, 0), (11, 302, 1, 1, 1, 0, 0), (11, 305, 3, 4, 1, 1, 0), (11, 309, 2, 1, 1, 1, 0), (11, 315, 42, 2, 0, 1, 1), (11, 323, 72, 3, 10, 0, 0), (11, 325, 74, 2, 10, 2, 0), (11, 329, 73, 3, 10, 1, 0), (11, 338, 54, 1, 7, 0, 0), (11, 342, 65, 2, 8, 1, 0), (11, 348, 19, 5, 3, 1, 0), (11, 352, 122, 2, 0, 1, 1), (12, 260, 125, 3, 12, 1, 0), (12, 264, 124, 4, 12, 1, 0), (12, 268, 131, 2, 12, 1, 0), (12, 272, 133, 2, 12, 1, 0), (12, 276, 129, 2, 12, 1, 0), (12, 279, 130, 2, 12, 1, 0), (12, 282, 136, 3, 12, 0, 0), (12, 286, 138, 3, 12, 0, 0), (12, 290, 143, 1, 12, 1, 0), (12, 294, 145, 2, 12, 1, 0), (12, 297, 147, 1, 12, 1, 0), (12, 301, 149, 2, 12, 0, 0), (12, 305, 152, 2, 12, 1, 0), (12, 308, 148, 1, 12, 1, 0), (12, 311, 150, 1, 12, 0, 0), (12, 314, 153, 1, 12, 1, 0), (12, 317, 151, 2, 12, 0, 0), (12, 320, 146, 3, 12, 1, 0), (12, 323, 144, 1, 12, 1, 0), (12, 326, 155, 2, 12, 1, 0), (12, 329, 154, 2, 12, 1, 0), (12, 332, 156, 2, 12, 1, 0)]
theorem z_ml_2_ok : z_ml_2.map z_mlw = z_pk [(3, 188), (3, 196), (3, 213), (3, 223), (3, 88), (4, 1), (4, 22), (4, 35), (4, 39), (4, 66), (4, 75), (4, 87), (4, 98), (4, 110), (3, 173), (3, 200), (3, 217), (3, 226), (5, 168), (5, 132), (5, 136), (5, 140), (5, 148), (5, 156), (5, 160), (5, 172), (5, 204), (5, 212), (5, 224), (6, 0), (5, 236), (5, 220), (6, 4), (5, 232), (6, 8), (5, 208), (5, 216), (5, 200), (5, 228), (5, 196)] := rfl
theorem z_ml_2_gd : (z_ml_2.map z_mlw).all goodWord = true := by decide +kernel
def z_ml_3 : List (Nat × (Nat × (Nat × (Nat × (Nat × (Nat × Nat)))))) := [(12, 335, 157, 2, 12, 1, 0), (12, 338, 159, 1, 12, 1, 0), (12, 341, 160, 1, 12, 1, 0), (12, 344, 162, 4, 12, 1, 0), (12, 348, 127, 2, 12, 1, 0), (12, 351, 164, 2, 12, 1, 0), (12, 354, 163, 4, 12, 1, 0), (12, 357, 165, 3, 12, 1, 0), (12, 361, 166, 3, 12, 1, 0), (12, 364, 167, 3, 12, 1, 0), (12, 367, 168, 2, 12, 1, 0), (12, 370, 161, 3, 12, 1, 0), (12, 373, 170, 1, 12, 1, 0), (12, 376, 172, 1, 12, 1, 0), (12, 379, 173, 1, 12, 1, 0), (12, 382, 126, 3, 12, 1, 0), (12, 385, 175, 1, 12, 0, 0), (12, 388, 177, 1, 12, 0, 0), (12, 391, 132, 2, 12, 1, 0), (12, 394, 176, 2, 12, 0, 0), (12, 398, 180, 1, 12, 0, 0), (12, 401, 181, 1, 12, 0, 0), (12, 404, 128, 2, 12, 1, 0), (12, 407, 185, 2, 12, 0, 0), (12, 410, 186, 2, 12, 1, 0), (12, 413, 187, 2, 12, 0, 0), (12, 416, 189, 3, 12, 1, 0), (12, 419, 191, 3, 12, 1, 0), (12, 422, 194, 2, 12, 1, 0), (12, 425, 198, 3, 12, 1, 0), (12, 430, 199, 4, 12, 2, 0), (12, 434, 171, 1, 12, 1, 0), (12, 437, 203, 3, 12, 0, 0), (12, 440, 222, 2, 12, 1, 0), (12, 443, 210, 2, 12, 0, 0), (12, 446, 211, 3, 12, 1, 0), (12, 449, 212, 3, 12, 1, 0), (12, 452, 213, 3, 12, 1, 0), (12, 455, 214, 3, 12, 1, 0), (12, 458, 215, 3, 12, 1, 0)]
theorem z_ml_3_ok : z_ml_3.map z_mlw = z_pk [(5, 192), (6, 36), (6, 40), (6, 48), (6, 32), (6, 28), (6, 44), (6, 24), (6, 20), (6, 16), (6, 52), (6, 60), (6, 64), (6, 68), (6, 72), (6, 84), (6, 100), (6, 80), (6, 92), (6, 96), (6, 108), (6, 113), (6, 125), (6, 137), (6, 141), (6, 133), (6, 149), (6, 157), (6, 169), (6, 190), (6, 186), (6, 198), (6, 210), (6, 226), (7, 6), (7, 10), (7, 2), (7, 22), (7, 18), (7, 14)] := rfl
theorem z_ml_3_gd : (z_ml_3.map z_mlw).all goodWord = true := by decide +kernel
def z_ml_4 : List (Nat × (Nat × (Nat × (Nat × (Nat × (Nat × Nat)))))) := [(12, 461, 216, 3, 12, 1, 0), (12, 464, 217, 3, 12, 1, 0), (12, 467, 224, 3, 12, 2, 0), (13, 9, 41, 1, 0, 1, 1), (16, 9, 75, 1, 11, 0, 2), (16, 12, 123, 1, 12, 0, 2), (16, 13, 76, 4, 11, 1, 0), (16, 17, 134, 4, 12, 1, 0), (16, 18, 77, 3, 11, 1, 0), (16, 22, 169, 3, 12, 1, 0), (16, 23, 78, 3, 11, 1, 0), (16, 26, 135, 3, 12, 1, 0), (16, 27, 79, 3, 11, 1, 0), (16, 30, 137, 3, 12, 1, 0), (16, 31, 80, 3, 11, 1, 0), (16, 35, 139, 3, 12, 1, 0), (16, 36, 81, 1, 11, 1, 0), (16, 40, 178, 1, 12, 1, 0), (16, 41, 82, 3, 11, 1, 0), (16, 44, 140, 3, 12, 1, 0), (16, 45, 83, 4, 11, 1, 0), (16, 48, 141, 4, 12, 1, 0), (16, 49, 84, 2, 11, 1, 0), (16, 53, 142, 2, 12, 1, 0), (16, 54, 85, 1, 11, 1, 0), (16, 57, 158, 1, 12, 1, 0), (16, 58, 86, 2, 11, 1, 0), (16, 61, 174, 2, 12, 1, 0), (16, 62, 87, 2, 11, 1, 0), (16, 65, 179, 2, 12, 1, 0), (16, 66, 88, 3, 11, 1, 0), (16, 69, 182, 3, 12, 1, 0), (16, 70, 89, 2, 11, 1, 0), (16, 73, 183, 2, 12, 1, 0), (16, 74, 90, 2, 11, 1, 0), (16, 77, 184, 2, 12, 1, 0), (16, 78, 91, 3, 11, 1, 0), (16, 81, 188, 3, 12, 1, 0), (16, 82, 92, 1, 11, 1, 0), (16, 85, 190, 1, 12, 1, 0)]
theorem z_ml_4_ok : z_ml_4.map z_mlw = z_pk [(7, 30), (7, 26), (7, 54), (4, 78), (1, 20), (4, 117), (2, 113), (5, 128), (2, 135), (6, 12), (2, 174), (5, 144), (2, 178), (5, 152), (2, 183), (5, 164), (2, 187), (6, 76), (2, 198), (5, 176), (2, 202), (5, 180), (2, 206), (5, 184), (2, 214), (5, 188), (3, 41), (6, 56), (3, 58), (6, 88), (3, 80), (6, 104), (3, 103), (6, 117), (3, 119), (6, 121), (3, 127), (6, 129), (3, 153), (6, 145)] := rfl
theorem z_ml_4_gd : (z_ml_4.map z_mlw).all goodWord = true := by decide +kernel
def z_ml_5 : List (Nat × (Nat × (Nat × (Nat × (Nat × (Nat × Nat)))))) := [(16, 86, 93, 3, 11, 1, 0), (16, 89, 192, 3, 12, 1, 0), (16, 90, 94, 4, 11, 1, 0), (16, 93, 193, 4, 12, 1, 0), (16, 94, 95, 3, 11, 1, 0), (16, 97, 195, 3, 12, 1, 0), (16, 98, 96, 3, 11, 1, 0), (16, 101, 196, 3, 12, 1, 0), (16, 102, 97, 2, 11, 1, 0), (16, 105, 197, 2, 12, 1, 0), (16, 106, 98, 4, 11, 2, 0), (16, 110, 200, 4, 12, 2, 0), (16, 111, 99, 3, 11, 2, 0), (16, 115, 201, 3, 12, 2, 0), (16, 116, 100, 3, 11, 1, 0), (16, 119, 202, 3, 12, 1, 0), (16, 120, 101, 2, 11, 1, 0), (16, 123, 204, 2, 12, 1, 0), (16, 124, 102, 3, 11, 1, 0), (16, 127, 205, 3, 12, 1, 0), (16, 128, 103, 1, 11, 1, 0), (16, 131, 206, 1, 12, 1, 0), (16, 132, 104, 3, 11, 1, 0), (16, 135, 207, 3, 12, 1, 0), (16, 136, 105, 1, 11, 1, 0), (16, 139, 208, 1, 12, 1, 0), (16, 140, 106, 1, 11, 1, 0), (16, 143, 209, 1, 12, 1, 0), (16, 144, 107, 4, 11, 1, 0), (16, 147, 218, 4, 12, 1, 0), (16, 148, 108, 2, 11, 1, 0), (16, 151, 219, 2, 12, 1, 0), (16, 152, 109, 3, 11, 1, 0), (16, 155, 220, 3, 12, 1, 0), (16, 156, 110, 2, 11, 1, 0), (16, 159, 221, 2, 12, 1, 0), (16, 160, 111, 4, 11, 1, 0), (16, 163, 223, 4, 12, 1, 0), (16, 166, 112, 4, 11, 1, 0), (16, 170, 225, 4, 12, 1, 0)]
theorem z_ml_5_ok : z_ml_5.map z_mlw = z_pk [(3, 165), (6, 153), (3, 180), (6, 161), (3, 192), (6, 165), (3, 205), (6, 173), (3, 209), (6, 177), (3, 218), (6, 181), (3, 229), (6, 194), (3, 233), (6, 202), (3, 237), (6, 206), (4, 6), (6, 214), (4, 10), (6, 218), (4, 14), (6, 222), (4, 18), (6, 230), (4, 27), (6, 234), (4, 31), (6, 238), (4, 62), (7, 34), (4, 71), (7, 38), (4, 79), (7, 42), (4, 83), (7, 46), (4, 94), (7, 50)] := rfl
theorem z_ml_5_gd : (z_ml_5.map z_mlw).all goodWord = true := by decide +kernel
def z_ml_6 : List (Nat × (Nat × (Nat × (Nat × (Nat × (Nat × Nat)))))) := [(16, 171, 113, 3, 11, 2, 0), (16, 174, 226, 3, 12, 2, 0), (16, 175, 114, 6, 11, 1, 0), (16, 179, 227, 6, 12, 1, 0)]
theorem z_ml_6_ok : z_ml_6.map z_mlw = z_pk [(4, 102), (7, 58), (4, 106), (7, 62)] := rfl
theorem z_ml_6_gd : (z_ml_6.map z_mlw).all goodWord = true := by decide +kernel
def z_ml : List (Nat × (Nat × (Nat × (Nat × (Nat × (Nat × Nat)))))) := z_ml_0 ++ (z_ml_1 ++ (z_ml_2 ++ (z_ml_3 ++ (z_ml_4 ++ (z_ml_5 ++ (z_ml_6))))))
theorem z_ml_0_in : ∀ q ∈ z_ml_0, z_mlw q ∈ lw_tbl ∧ goodWord (z_mlw q) = true := z_chk z_ml_0_ok z_ml_0_gd
theorem z_ml_1_in : ∀ q ∈ z_ml_1, z_mlw q ∈ lw_tbl ∧ goodWord (z_mlw q) = true := z_chk z_ml_1_ok z_ml_1_gd
theorem z_ml_2_in : ∀ q ∈ z_ml_2, z_mlw q ∈ lw_tbl ∧ goodWord (z_mlw q) = true := z_chk z_ml_2_ok z_ml_2_gd
theorem z_ml_3_in : ∀ q ∈ z_ml_3, z_mlw q ∈ lw_tbl ∧ goodWord (z_mlw q) = true := z_chk z_ml_3_ok z_ml_3_gd
theorem z_ml_4_in : ∀ q ∈ z_ml_4, z_mlw q ∈ lw_tbl ∧ goodWord (z_mlw q) = true := z_chk z_ml_4_ok z_ml_4_gd
theorem z_ml_5_in : ∀ q ∈ z_ml_5, z_mlw q ∈ lw_tbl ∧ goodWord (z_mlw q) = true := z_chk z_ml_5_ok z_ml_5_gd
theorem z_ml_6_in : ∀ q ∈ z_ml_6, z_mlw q ∈ lw_tbl ∧ goodWord (z_mlw q) = true := z_chk z_ml_6_ok z_ml_6_gd
theorem z_ml_in : ∀ q ∈ z_ml, z_mlw q ∈ lw_tbl ∧ goodWord (z_mlw q) = true := List.forall_mem_append.mpr ⟨z_ml_0_in, List.forall_mem_append.mpr ⟨z_ml_1_in, List.forall_mem_append.mpr ⟨z_ml_2_in, List.forall_mem_append.mpr ⟨z_ml_3_in, List.forall_mem_append.mpr ⟨z_ml_4_in, List.forall_mem_append.mpr ⟨z_ml_5_in, z_ml_6_in⟩⟩⟩⟩⟩⟩
def z_nst : List (Nat × (Nat × (Nat × (Nat × (Nat × (Nat × Nat)))))) := [(11, 49, 0, 1, 1, 0, 3), (11, 56, 43, 1, 6, 0, 3), (11, 61, 20, 1, 4, 0, 3), (11, 91, 71, 1, 10, 0, 3)]
def z_al : List Nat := [2, 4, 10]
def z_bn (a : Nat) : MethodName := match a with | 1000 => objectInit | 1001 => Lib.Math.max.name | 1002 => Lib.Math.min.name | _ => arraycopyName
def z_blw (q : Nat × (Nat × Nat)) : Cond := Cond.methodLink (z_on q.1) q.2.1 (z_bn q.2.2)
def z_bl_0 : List (Nat × (Nat × Nat)) := [(1, 3, 1000), (1, 28, 1002), (2, 3, 1000), (2, 44, 1003), (2, 73, 1001), (3, 1, 1000), (4, 3, 1000), (5, 3, 1000), (6, 3, 1000), (6, 76, 1003), (7, 3, 1000), (8, 1, 1000), (8, 23, 1003), (8, 29, 1001), (9, 3, 1000), (9, 25, 1001), (9, 36, 1002), (10, 3, 1000), (11, 3, 1000), (11, 332, 1003), (12, 1, 1000)]
theorem z_bl_0_ok : z_bl_0.map z_blw = z_pk [(1, 59), (4, 70), (1, 65), (3, 100), (2, 165), (2, 8), (1, 163), (2, 26), (1, 132), (3, 152), (1, 197), (1, 31), (4, 26), (3, 204), (1, 205), (2, 151), (2, 195), (2, 46), (1, 23), (4, 114), (4, 120)] := rfl
theorem z_bl_0_gd : (z_bl_0.map z_blw).all goodWord = true := by decide +kernel
def z_bl : List (Nat × (Nat × Nat)) := z_bl_0
theorem z_bl_0_in : ∀ q ∈ z_bl_0, z_blw q ∈ lw_tbl ∧ goodWord (z_blw q) = true := z_chk z_bl_0_ok z_bl_0_gd
theorem z_bl_in : ∀ q ∈ z_bl, z_blw q ∈ lw_tbl ∧ goodWord (z_blw q) = true := z_bl_0_in
theorem z_bw_0 : Cond.instanceMethod objectInit ∈ lw_tbl ∧ goodWord (Cond.instanceMethod objectInit) = true := ⟨z_sub_in (k := 1) (List.mem_of_getElem? (i := 24) (by decide +kernel)), by decide +kernel⟩
theorem z_bw_1 : Cond.code objectInit ⟨#[0xb1]⟩ 1 none ∈ lw_tbl ∧ goodWord (Cond.code objectInit ⟨#[0xb1]⟩ 1 none) = true := ⟨z_sub_in (k := 1) (List.mem_of_getElem? (i := 25) (by decide +kernel)), by decide +kernel⟩
theorem z_bw_2 : Cond.static Lib.Math.max.name ∈ lw_tbl ∧ goodWord (Cond.static Lib.Math.max.name) = true := ⟨z_sub_in (k := 2) (List.mem_of_getElem? (i := 152) (by decide +kernel)), by decide +kernel⟩
theorem z_bw_3 : Cond.static Lib.Math.min.name ∈ lw_tbl ∧ goodWord (Cond.static Lib.Math.min.name) = true := ⟨z_sub_in (k := 2) (List.mem_of_getElem? (i := 196) (by decide +kernel)), by decide +kernel⟩
theorem z_bw_4 : Cond.code Lib.Math.max.name Lib.Math.max.code 2 (some .int) ∈ lw_tbl ∧ goodWord (Cond.code Lib.Math.max.name Lib.Math.max.code 2 (some .int)) = true := ⟨z_sub_in (k := 2) (List.mem_of_getElem? (i := 153) (by decide +kernel)), by decide +kernel⟩
theorem z_bw_5 : Cond.code Lib.Math.min.name Lib.Math.min.code 2 (some .int) ∈ lw_tbl ∧ goodWord (Cond.code Lib.Math.min.name Lib.Math.min.code 2 (some .int)) = true := ⟨z_sub_in (k := 2) (List.mem_of_getElem? (i := 197) (by decide +kernel)), by decide +kernel⟩
theorem z_bw_6 : Cond.initialized "java/lang/Math" ∈ lw_tbl ∧ goodWord (Cond.initialized "java/lang/Math") = true := ⟨z_sub_in (k := 1) (List.mem_of_getElem? (i := 14) (by decide +kernel)), by decide +kernel⟩
theorem z_bw_7 : Cond.initialized "java/lang/System" ∈ lw_tbl ∧ goodWord (Cond.initialized "java/lang/System") = true := ⟨z_sub_in (k := 1) (List.mem_of_getElem? (i := 15) (by decide +kernel)), by decide +kernel⟩
theorem z_bw_8 : Cond.native arraycopyName ∈ lw_tbl ∧ goodWord (Cond.native arraycopyName) = true := ⟨z_sub_in (k := 3) (List.mem_of_getElem? (i := 102) (by decide +kernel)), by decide +kernel⟩
theorem z_bw_9 : Cond.static arraycopyName ∈ lw_tbl ∧ goodWord (Cond.static arraycopyName) = true := ⟨z_sub_in (k := 3) (List.mem_of_getElem? (i := 101) (by decide +kernel)), by decide +kernel⟩
def z_cdw (j : Nat) : Cond := match z_mt[j]? with | some q => Cond.code q.1 q.2.1 q.2.2.1 q.2.2.2.1 | none => Cond.initialized ""
def z_cd_0 : List Nat := [0, 1, 2, 3, 4, 5, 6, 7, 8, 9, 10, 11, 12, 13, 14, 15, 16, 17, 18, 19, 20, 21, 22, 23, 24, 25, 26, 27, 28, 29, 30, 31, 32, 33, 34, 35, 36, 37, 38, 39]
theorem z_cd_0_ok : z_cd_0.map z_cdw = z_pk [(1, 58), (4, 38), (4, 69), (4, 42), (4, 50), (4, 46), (4, 57), (4, 61), (1, 64), (2, 131), (3, 99), (2, 146), (2, 164), (2, 169), (2, 173), (3, 73), (2, 7), (3, 110), (3, 116), (3, 138), (1, 162), (2, 225), (3, 21), (3, 35), (3, 40), (2, 157), (2, 161), (2, 25), (2, 213), (2, 221), (2, 229), (2, 233), (3, 5), (3, 9), (3, 13), (3, 17), (3, 25), (3, 28), (3, 31), (3, 1)] := rfl
theorem z_cd_0_gd : (z_cd_0.map z_cdw).all goodWord = true := by decide +kernel
theorem z_cd_0_in : ∀ q ∈ z_cd_0, z_cdw q ∈ lw_tbl ∧ goodWord (z_cdw q) = true := z_chk z_cd_0_ok z_cd_0_gd
def z_cd_1 : List Nat := [40, 41, 42, 43, 44, 45, 46, 47, 48, 49, 50, 51, 52, 53, 54, 55, 56, 57, 58, 59, 60, 61, 62, 63, 64, 65, 66, 67, 68, 69, 70, 71, 72, 73, 74, 75, 76, 77, 78, 79]
theorem z_cd_1_ok : z_cd_1.map z_cdw = z_pk [(2, 237), (4, 53), (4, 77), (1, 131), (3, 134), (3, 160), (3, 164), (3, 143), (3, 147), (3, 151), (1, 196), (3, 91), (2, 127), (2, 123), (3, 69), (3, 65), (4, 4), (3, 49), (3, 53), (3, 126), (3, 57), (1, 30), (3, 187), (3, 191), (4, 25), (3, 203), (1, 204), (3, 95), (2, 150), (2, 194), (3, 79), (2, 45), (4, 90), (4, 113), (4, 101), (1, 22), (2, 116), (2, 138), (2, 177), (2, 181)] := rfl
theorem z_cd_1_gd : (z_cd_1.map z_cdw).all goodWord = true := by decide +kernel
theorem z_cd_1_in : ∀ q ∈ z_cd_1, z_cdw q ∈ lw_tbl ∧ goodWord (z_cdw q) = true := z_chk z_cd_1_ok z_cd_1_gd
def z_cd_2 : List Nat := [80, 81, 82, 83, 84, 85, 86, 87, 88, 89, 90, 91, 92, 93, 94, 95, 96, 97, 98, 99, 100, 101, 102, 103, 104, 105, 106, 107, 108, 109, 110, 111, 112, 113, 114, 115, 116, 117, 118, 119]
theorem z_cd_2_ok : z_cd_2.map z_cdw = z_pk [(2, 186), (2, 190), (2, 201), (2, 205), (2, 209), (2, 217), (3, 44), (3, 61), (3, 83), (3, 106), (3, 122), (3, 130), (3, 156), (3, 168), (3, 183), (3, 195), (3, 208), (3, 212), (3, 221), (3, 232), (3, 236), (4, 0), (4, 9), (4, 13), (4, 17), (4, 21), (4, 30), (4, 34), (4, 65), (4, 74), (4, 82), (4, 86), (4, 97), (4, 105), (4, 109), (2, 119), (2, 142), (3, 87), (3, 172), (3, 199)] := rfl
theorem z_cd_2_gd : (z_cd_2.map z_cdw).all goodWord = true := by decide +kernel
theorem z_cd_2_in : ∀ q ∈ z_cd_2, z_cdw q ∈ lw_tbl ∧ goodWord (z_cdw q) = true := z_chk z_cd_2_ok z_cd_2_gd
def z_cd_3 : List Nat := [120, 121, 122, 123, 124, 125, 126, 127, 128, 129, 130, 131, 132, 133, 134, 135, 136, 137, 138, 139, 140, 141, 142, 143, 144, 145, 146, 147, 148, 149, 150, 151, 152, 153, 154, 155, 156, 157, 158, 159]
theorem z_cd_3_ok : z_cd_3.map z_cdw = z_pk [(3, 216), (3, 225), (3, 228), (4, 119), (5, 135), (5, 171), (6, 87), (6, 35), (6, 128), (5, 151), (5, 159), (5, 139), (6, 95), (5, 143), (5, 131), (5, 147), (5, 163), (5, 155), (5, 175), (5, 167), (5, 179), (5, 183), (5, 187), (5, 207), (5, 219), (5, 215), (5, 211), (5, 227), (5, 223), (6, 3), (6, 7), (6, 11), (5, 239), (5, 235), (5, 231), (5, 203), (5, 199), (5, 195), (5, 191), (6, 39)] := rfl
theorem z_cd_3_gd : (z_cd_3.map z_cdw).all goodWord = true := by decide +kernel
theorem z_cd_3_in : ∀ q ∈ z_cd_3, z_cdw q ∈ lw_tbl ∧ goodWord (z_cdw q) = true := z_chk z_cd_3_ok z_cd_3_gd
def z_cd_4 : List Nat := [160, 161, 162, 163, 164, 165, 166, 167, 168, 169, 170, 171, 172, 173, 174, 175, 176, 177, 178, 179, 180, 181, 182, 183, 184, 185, 186, 187, 188, 189, 190, 191, 192, 193, 194, 195, 196, 197, 198, 199]
theorem z_cd_4_ok : z_cd_4.map z_cdw = z_pk [(6, 43), (6, 63), (6, 51), (6, 47), (6, 31), (6, 27), (6, 23), (6, 19), (6, 55), (6, 15), (6, 67), (6, 201), (6, 71), (6, 75), (6, 59), (6, 103), (6, 99), (6, 83), (6, 79), (6, 91), (6, 111), (6, 116), (6, 107), (6, 120), (6, 124), (6, 140), (6, 144), (6, 136), (6, 132), (6, 152), (6, 148), (6, 160), (6, 156), (6, 164), (6, 172), (6, 168), (6, 176), (6, 180), (6, 193), (6, 189)] := rfl
theorem z_cd_4_gd : (z_cd_4.map z_cdw).all goodWord = true := by decide +kernel
theorem z_cd_4_in : ∀ q ∈ z_cd_4, z_cdw q ∈ lw_tbl ∧ goodWord (z_cdw q) = true := z_chk z_cd_4_ok z_cd_4_gd
def z_cd_5 : List Nat := [200, 201, 202, 203, 204, 205, 206, 207, 208, 209, 210, 211, 212, 213, 214, 215, 216, 217, 218, 219, 220, 221, 222, 223, 224, 225, 226, 227, 228, 229, 230]
theorem z_cd_5_ok : z_cd_5.map z_cdw = z_pk [(6, 184), (6, 197), (6, 205), (6, 213), (6, 209), (6, 217), (6, 221), (6, 225), (6, 233), (6, 237), (7, 9), (7, 13), (7, 5), (7, 25), (7, 21), (7, 17), (7, 33), (7, 29), (7, 1), (7, 37), (7, 41), (7, 45), (6, 229), (7, 49), (7, 57), (7, 53), (7, 61), (7, 65), (3, 176), (4, 93), (2, 134)] := rfl
theorem z_cd_5_gd : (z_cd_5.map z_cdw).all goodWord = true := by decide +kernel
theorem z_cd_5_in : ∀ q ∈ z_cd_5, z_cdw q ∈ lw_tbl ∧ goodWord (z_cdw q) = true := z_chk z_cd_5_ok z_cd_5_gd
def z_cd : List Nat := z_cd_0 ++ (z_cd_1 ++ (z_cd_2 ++ (z_cd_3 ++ (z_cd_4 ++ (z_cd_5)))))
theorem z_cd_in : ∀ q ∈ z_cd, z_cdw q ∈ lw_tbl ∧ goodWord (z_cdw q) = true := List.forall_mem_append.mpr ⟨z_cd_0_in, List.forall_mem_append.mpr ⟨z_cd_1_in, List.forall_mem_append.mpr ⟨z_cd_2_in, List.forall_mem_append.mpr ⟨z_cd_3_in, List.forall_mem_append.mpr ⟨z_cd_4_in, z_cd_5_in⟩⟩⟩⟩⟩
def z_imw (j : Nat) : Cond := Cond.instanceMethod (z_yn j)
def z_im_0 : List Nat := [0, 1, 2, 3, 4, 5, 6, 7, 8, 9, 10, 11, 13, 14, 15, 16, 17, 18, 19, 20, 21, 22, 23, 24, 25, 26, 27, 28, 29, 30, 31, 32, 33, 34, 35, 36, 39, 40, 43, 44]
theorem z_im_0_ok : z_im_0.map z_imw = z_pk [(1, 57), (4, 36), (4, 67), (4, 40), (4, 49), (4, 45), (4, 56), (4, 60), (1, 63), (2, 129), (3, 97), (2, 144), (2, 168), (2, 171), (3, 71), (2, 6), (3, 108), (3, 114), (3, 136), (1, 161), (2, 223), (3, 19), (3, 33), (3, 38), (2, 155), (2, 160), (2, 24), (2, 211), (2, 219), (2, 228), (2, 232), (3, 4), (3, 8), (3, 12), (3, 16), (3, 24), (3, 0), (2, 236), (1, 130), (3, 132)] := rfl
theorem z_im_0_gd : (z_im_0.map z_imw).all goodWord = true := by decide +kernel
theorem z_im_0_in : ∀ q ∈ z_im_0, z_imw q ∈ lw_tbl ∧ goodWord (z_imw q) = true := z_chk z_im_0_ok z_im_0_gd
def z_im_1 : List Nat := [45, 46, 47, 48, 49, 50, 51, 52, 53, 54, 55, 56, 57, 58, 59, 60, 61, 62, 63, 64, 65, 66, 67, 68, 69, 70, 71, 72, 73, 74, 75, 76, 77, 78, 79, 80, 81, 82, 83, 84]
theorem z_im_1_ok : z_im_1.map z_imw = z_pk [(3, 158), (3, 163), (3, 141), (3, 146), (3, 150), (1, 195), (3, 89), (2, 125), (2, 121), (3, 67), (3, 63), (4, 2), (3, 47), (3, 51), (3, 124), (3, 55), (1, 29), (3, 185), (3, 189), (4, 23), (3, 201), (1, 203), (3, 93), (2, 148), (2, 192), (3, 77), (2, 44), (4, 88), (4, 111), (4, 99), (1, 21), (2, 114), (2, 136), (2, 175), (2, 179), (2, 184), (2, 188), (2, 199), (2, 203), (2, 207)] := rfl
theorem z_im_1_gd : (z_im_1.map z_imw).all goodWord = true := by decide +kernel
theorem z_im_1_in : ∀ q ∈ z_im_1, z_imw q ∈ lw_tbl ∧ goodWord (z_imw q) = true := z_chk z_im_1_ok z_im_1_gd
def z_im_2 : List Nat := [85, 86, 87, 88, 89, 90, 91, 92, 93, 94, 95, 96, 97, 98, 99, 100, 101, 102, 103, 104, 105, 106, 107, 108, 109, 110, 111, 112, 113, 114, 116, 117, 118, 119, 120, 123, 124, 125, 126, 127]
theorem z_im_2_ok : z_im_2.map z_imw = z_pk [(2, 215), (3, 42), (3, 59), (3, 81), (3, 104), (3, 120), (3, 128), (3, 154), (3, 166), (3, 181), (3, 193), (3, 206), (3, 210), (3, 219), (3, 230), (3, 234), (3, 238), (4, 7), (4, 11), (4, 15), (4, 19), (4, 28), (4, 32), (4, 63), (4, 72), (4, 80), (4, 84), (4, 95), (4, 103), (4, 107), (2, 141), (3, 86), (3, 171), (3, 198), (3, 215), (4, 118), (5, 134), (5, 170), (6, 86), (6, 34)] := rfl
theorem z_im_2_gd : (z_im_2.map z_imw).all goodWord = true := by decide +kernel
theorem z_im_2_in : ∀ q ∈ z_im_2, z_imw q ∈ lw_tbl ∧ goodWord (z_imw q) = true := z_chk z_im_2_ok z_im_2_gd
def z_im_3 : List Nat := [128, 129, 130, 131, 132, 133, 134, 135, 136, 137, 138, 139, 140, 141, 142, 143, 144, 145, 146, 147, 148, 149, 150, 151, 152, 153, 154, 155, 156, 157, 158, 159, 160, 161, 162, 163, 164, 165, 166, 167]
theorem z_im_3_ok : z_im_3.map z_imw = z_pk [(6, 127), (5, 150), (5, 158), (5, 138), (6, 94), (5, 142), (5, 129), (5, 145), (5, 162), (5, 153), (5, 174), (5, 165), (5, 177), (5, 181), (5, 185), (5, 206), (5, 218), (5, 214), (5, 210), (5, 226), (5, 222), (6, 2), (6, 6), (6, 10), (5, 238), (5, 234), (5, 230), (5, 202), (5, 198), (5, 194), (5, 189), (6, 38), (6, 42), (6, 62), (6, 50), (6, 46), (6, 30), (6, 26), (6, 22), (6, 18)] := rfl
theorem z_im_3_gd : (z_im_3.map z_imw).all goodWord = true := by decide +kernel
theorem z_im_3_in : ∀ q ∈ z_im_3, z_imw q ∈ lw_tbl ∧ goodWord (z_imw q) = true := z_chk z_im_3_ok z_im_3_gd
def z_im_4 : List Nat := [168, 169, 170, 171, 172, 173, 174, 175, 176, 177, 178, 179, 180, 181, 182, 183, 184, 185, 186, 187, 188, 189, 190, 191, 192, 193, 194, 195, 196, 197, 198, 199, 200, 201, 202, 203, 204, 205, 206, 207]
theorem z_im_4_ok : z_im_4.map z_imw = z_pk [(6, 54), (6, 13), (6, 66), (6, 200), (6, 70), (6, 74), (6, 57), (6, 102), (6, 98), (6, 82), (6, 77), (6, 89), (6, 110), (6, 115), (6, 105), (6, 118), (6, 122), (6, 139), (6, 143), (6, 135), (6, 130), (6, 151), (6, 146), (6, 159), (6, 154), (6, 162), (6, 171), (6, 166), (6, 174), (6, 178), (6, 192), (6, 188), (6, 182), (6, 195), (6, 203), (6, 212), (6, 207), (6, 215), (6, 219), (6, 223)] := rfl
theorem z_im_4_gd : (z_im_4.map z_imw).all goodWord = true := by decide +kernel
theorem z_im_4_in : ∀ q ∈ z_im_4, z_imw q ∈ lw_tbl ∧ goodWord (z_imw q) = true := z_chk z_im_4_ok z_im_4_gd
def z_im_5 : List Nat := [208, 209, 210, 211, 212, 213, 214, 215, 216, 217, 218, 219, 220, 221, 222, 223, 224, 225, 226, 227]
theorem z_im_5_ok : z_im_5.map z_imw = z_pk [(6, 231), (6, 235), (7, 8), (7, 12), (7, 4), (7, 24), (7, 20), (7, 16), (7, 32), (7, 28), (6, 239), (7, 35), (7, 39), (7, 43), (6, 228), (7, 47), (7, 56), (7, 51), (7, 59), (7, 63)] := rfl
theorem z_im_5_gd : (z_im_5.map z_imw).all goodWord = true := by decide +kernel
theorem z_im_5_in : ∀ q ∈ z_im_5, z_imw q ∈ lw_tbl ∧ goodWord (z_imw q) = true := z_chk z_im_5_ok z_im_5_gd
def z_im : List Nat := z_im_0 ++ (z_im_1 ++ (z_im_2 ++ (z_im_3 ++ (z_im_4 ++ (z_im_5)))))
theorem z_im_in : ∀ q ∈ z_im, z_imw q ∈ lw_tbl ∧ goodWord (z_imw q) = true := List.forall_mem_append.mpr ⟨z_im_0_in, List.forall_mem_append.mpr ⟨z_im_1_in, List.forall_mem_append.mpr ⟨z_im_2_in, List.forall_mem_append.mpr ⟨z_im_3_in, List.forall_mem_append.mpr ⟨z_im_4_in, z_im_5_in⟩⟩⟩⟩⟩
def z_smw (j : Nat) : Cond := Cond.static (z_yn j)
def z_sm_0 : List Nat := [12, 37, 38, 41, 42, 115, 121, 122, 228, 229, 230]
theorem z_sm_0_ok : z_sm_0.map z_smw = z_pk [(2, 163), (3, 27), (3, 30), (4, 52), (4, 76), (2, 118), (3, 224), (3, 227), (3, 175), (4, 92), (2, 133)] := rfl
theorem z_sm_0_gd : (z_sm_0.map z_smw).all goodWord = true := by decide +kernel
theorem z_sm_0_in : ∀ q ∈ z_sm_0, z_smw q ∈ lw_tbl ∧ goodWord (z_smw q) = true := z_chk z_sm_0_ok z_sm_0_gd
def z_sm : List Nat := z_sm_0
theorem z_sm_in : ∀ q ∈ z_sm, z_smw q ∈ lw_tbl ∧ goodWord (z_smw q) = true := z_sm_0_in
def z_slw (j : Nat) : Cond := Cond.selects (z_yn j).cls (z_yn j) (z_yn j)
def z_sl_0 : List Nat := [1, 2, 3, 4, 5, 6, 7, 9, 10, 11, 13, 14, 15, 17, 18, 19, 21, 22, 23, 24, 25, 26, 28, 29, 30, 31, 32, 33, 34, 35, 36, 39, 40, 44, 45, 46, 47, 48, 49, 51]
theorem z_sl_0_ok : z_sl_0.map z_slw = z_pk [(4, 37), (4, 68), (4, 41), (0, 20), (0, 19), (0, 21), (0, 22), (2, 130), (3, 98), (2, 145), (0, 2), (2, 172), (3, 72), (3, 109), (3, 115), (3, 137), (2, 224), (3, 20), (3, 34), (3, 39), (2, 156), (0, 1), (2, 212), (2, 220), (0, 3), (0, 4), (0, 7), (0, 8), (0, 9), (0, 10), (0, 11), (0, 6), (0, 5), (3, 133), (3, 159), (0, 15), (3, 142), (0, 13), (0, 14), (3, 90)] := rfl
theorem z_sl_0_gd : (z_sl_0.map z_slw).all goodWord = true := by decide +kernel
theorem z_sl_0_in : ∀ q ∈ z_sl_0, z_slw q ∈ lw_tbl ∧ goodWord (z_slw q) = true := z_chk z_sl_0_ok z_sl_0_gd
def z_sl_1 : List Nat := [52, 53, 54, 55, 56, 57, 58, 59, 60, 62, 63, 64, 65, 67, 68, 69, 70, 72, 73, 74, 76, 77, 78, 79, 80, 81, 82, 83, 84, 85, 86, 87, 88, 89, 90, 91, 92, 93, 94, 95]
theorem z_sl_1_ok : z_sl_1.map z_slw = z_pk [(2, 126), (2, 122), (3, 68), (3, 64), (4, 3), (3, 48), (3, 52), (3, 125), (3, 56), (3, 186), (3, 190), (4, 24), (3, 202), (3, 94), (2, 149), (2, 193), (3, 78), (4, 89), (4, 112), (4, 100), (2, 115), (2, 137), (2, 176), (2, 180), (2, 185), (2, 189), (2, 200), (2, 204), (2, 208), (2, 216), (3, 43), (3, 60), (3, 82), (3, 105), (3, 121), (3, 129), (3, 155), (3, 167), (3, 182), (3, 194)] := rfl
theorem z_sl_1_gd : (z_sl_1.map z_slw).all goodWord = true := by decide +kernel
theorem z_sl_1_in : ∀ q ∈ z_sl_1, z_slw q ∈ lw_tbl ∧ goodWord (z_slw q) = true := z_chk z_sl_1_ok z_sl_1_gd
def z_sl_2 : List Nat := [96, 97, 98, 99, 100, 101, 102, 103, 104, 105, 106, 107, 108, 109, 110, 111, 112, 113, 114, 116, 117, 118, 119, 120, 124, 125, 126, 127, 128, 129, 130, 131, 132, 133, 134, 135, 136, 137, 138, 139]
theorem z_sl_2_ok : z_sl_2.map z_slw = z_pk [(3, 207), (3, 211), (3, 220), (3, 231), (3, 235), (3, 239), (4, 8), (4, 12), (4, 16), (4, 20), (4, 29), (4, 33), (4, 64), (4, 73), (4, 81), (4, 85), (4, 96), (4, 104), (4, 108), (0, 0), (0, 12), (0, 16), (0, 17), (0, 18), (0, 23), (0, 29), (0, 61), (0, 50), (0, 67), (0, 26), (0, 27), (0, 24), (0, 62), (0, 25), (5, 130), (5, 146), (0, 28), (5, 154), (0, 30), (5, 166)] := rfl
theorem z_sl_2_gd : (z_sl_2.map z_slw).all goodWord = true := by decide +kernel
theorem z_sl_2_in : ∀ q ∈ z_sl_2, z_slw q ∈ lw_tbl ∧ goodWord (z_slw q) = true := z_chk z_sl_2_ok z_sl_2_gd
def z_sl_3 : List Nat := [140, 141, 142, 143, 144, 145, 146, 147, 148, 149, 150, 151, 152, 153, 154, 155, 156, 157, 158, 159, 160, 161, 162, 163, 164, 165, 166, 167, 168, 169, 170, 171, 172, 173, 174, 175, 176, 177, 178, 179]
theorem z_sl_3_ok : z_sl_3.map z_slw = z_pk [(5, 178), (5, 182), (5, 186), (0, 34), (0, 37), (0, 36), (0, 35), (0, 39), (0, 38), (0, 43), (0, 44), (0, 45), (0, 42), (0, 41), (0, 40), (0, 33), (0, 32), (0, 31), (5, 190), (0, 51), (0, 52), (0, 56), (0, 54), (0, 53), (0, 49), (0, 48), (0, 47), (0, 46), (0, 55), (6, 14), (0, 57), (0, 76), (0, 58), (0, 59), (6, 58), (0, 64), (0, 63), (0, 60), (6, 78), (6, 90)] := rfl
theorem z_sl_3_gd : (z_sl_3.map z_slw).all goodWord = true := by decide +kernel
theorem z_sl_3_in : ∀ q ∈ z_sl_3, z_slw q ∈ lw_tbl ∧ goodWord (z_slw q) = true := z_chk z_sl_3_ok z_sl_3_gd
def z_sl_4 : List Nat := [180, 181, 182, 183, 184, 185, 186, 187, 188, 189, 190, 191, 192, 193, 194, 195, 196, 197, 198, 199, 200, 201, 202, 203, 204, 205, 206, 207, 208, 209, 210, 211, 212, 213, 214, 215, 216, 217, 218, 219]
theorem z_sl_4_ok : z_sl_4.map z_slw = z_pk [(0, 65), (0, 66), (6, 106), (6, 119), (6, 123), (0, 69), (0, 70), (0, 68), (6, 131), (0, 71), (6, 147), (0, 72), (6, 155), (6, 163), (0, 73), (6, 167), (6, 175), (6, 179), (0, 75), (0, 74), (6, 183), (6, 196), (6, 204), (0, 77), (6, 208), (6, 216), (6, 220), (6, 224), (6, 232), (6, 236), (0, 80), (0, 81), (0, 79), (0, 84), (0, 83), (0, 82), (0, 86), (0, 85), (7, 0), (7, 36)] := rfl
theorem z_sl_4_gd : (z_sl_4.map z_slw).all goodWord = true := by decide +kernel
theorem z_sl_4_in : ∀ q ∈ z_sl_4, z_slw q ∈ lw_tbl ∧ goodWord (z_slw q) = true := z_chk z_sl_4_ok z_sl_4_gd
def z_sl_5 : List Nat := [220, 221, 222, 223, 224, 225, 226, 227]
theorem z_sl_5_ok : z_sl_5.map z_slw = z_pk [(7, 40), (7, 44), (0, 78), (7, 48), (0, 87), (7, 52), (7, 60), (7, 64)] := rfl
theorem z_sl_5_gd : (z_sl_5.map z_slw).all goodWord = true := by decide +kernel
theorem z_sl_5_in : ∀ q ∈ z_sl_5, z_slw q ∈ lw_tbl ∧ goodWord (z_slw q) = true := z_chk z_sl_5_ok z_sl_5_gd
def z_sl : List Nat := z_sl_0 ++ (z_sl_1 ++ (z_sl_2 ++ (z_sl_3 ++ (z_sl_4 ++ (z_sl_5)))))
theorem z_sl_in : ∀ q ∈ z_sl, z_slw q ∈ lw_tbl ∧ goodWord (z_slw q) = true := List.forall_mem_append.mpr ⟨z_sl_0_in, List.forall_mem_append.mpr ⟨z_sl_1_in, List.forall_mem_append.mpr ⟨z_sl_2_in, List.forall_mem_append.mpr ⟨z_sl_3_in, List.forall_mem_append.mpr ⟨z_sl_4_in, z_sl_5_in⟩⟩⟩⟩⟩
def z_inw (o : Nat) : Cond := Cond.initialized (z_on o)
def z_in_0 : List Nat := [1, 2, 3, 4, 5, 6, 7, 8, 9, 10, 11, 12, 13, 14, 15, 17]
theorem z_in_0_ok : z_in_0.map z_inw = z_pk [(1, 3), (1, 4), (1, 9), (1, 6), (1, 10), (1, 5), (1, 7), (1, 2), (1, 8), (1, 11), (1, 1), (1, 12), (1, 17), (1, 16), (1, 13), (1, 14)] := rfl
theorem z_in_0_gd : (z_in_0.map z_inw).all goodWord = true := by decide +kernel
theorem z_in_0_in : ∀ q ∈ z_in_0, z_inw q ∈ lw_tbl ∧ goodWord (z_inw q) = true := z_chk z_in_0_ok z_in_0_gd
def z_in : List Nat := z_in_0
theorem z_in_in : ∀ q ∈ z_in, z_inw q ∈ lw_tbl ∧ goodWord (z_inw q) = true := z_in_0_in
def z_nlw (q : Nat × (Nat × Nat)) : Cond := Cond.classLink (z_on q.1) q.2.1 (z_cn q.2.2)
def z_nl_0 : List (Nat × (Nat × Nat)) := [(1, 15, 2), (3, 7, 2), (3, 18, 9), (7, 9, 2), (7, 17, 9), (11, 9, 8), (11, 35, 4), (11, 41, 10), (11, 47, 1), (11, 54, 6), (11, 62, 7), (11, 77, 3), (11, 84, 5), (16, 7, 11), (16, 10, 12)]
theorem z_nl_0_ok : z_nl_0.map z_nlw = z_pk [(1, 60), (2, 9), (2, 11), (1, 198), (1, 200), (1, 26), (1, 50), (1, 52), (1, 54), (1, 127), (1, 192), (2, 3), (2, 21), (1, 18), (4, 115)] := rfl
theorem z_nl_0_gd : (z_nl_0.map z_nlw).all goodWord = true := by decide +kernel
def z_nl : List (Nat × (Nat × Nat)) := z_nl_0
theorem z_nl_0_in : ∀ q ∈ z_nl_0, z_nlw q ∈ lw_tbl ∧ goodWord (z_nlw q) = true := z_chk z_nl_0_ok z_nl_0_gd
theorem z_nl_in : ∀ q ∈ z_nl, z_nlw q ∈ lw_tbl ∧ goodWord (z_nlw q) = true := z_nl_0_in
def z_itw (t : Nat) : Cond := Cond.instantiable (z_cn t) (z_nF t)
def z_it_0 : List Nat := [1, 2, 3, 4, 5, 6, 7, 8, 9, 10, 11, 12]
theorem z_it_0_ok : z_it_0.map z_itw = z_pk [(1, 55), (1, 61), (2, 4), (1, 159), (2, 22), (1, 128), (1, 193), (1, 27), (1, 201), (2, 42), (1, 19), (4, 116)] := rfl
theorem z_it_0_gd : (z_it_0.map z_itw).all goodWord = true := by decide +kernel
theorem z_it_0_in : ∀ q ∈ z_it_0, z_itw q ∈ lw_tbl ∧ goodWord (z_itw q) = true := z_chk z_it_0_ok z_it_0_gd
def z_it : List Nat := z_it_0
theorem z_it_in : ∀ q ∈ z_it, z_itw q ∈ lw_tbl ∧ goodWord (z_itw q) = true := z_it_0_in
def z_acw (k : Nat) : Cond := Cond.arrayClass (match k with | 1 => .int | 2 => .boolean | 3 => .byte | _ => .long)
def z_ac_0 : List Nat := [1, 2, 3, 4]
theorem z_ac_0_ok : z_ac_0.map z_acw = z_pk [(1, 49), (1, 158), (2, 41), (2, 60)] := rfl
theorem z_ac_0_gd : (z_ac_0.map z_acw).all goodWord = true := by decide +kernel
theorem z_ac_0_in : ∀ q ∈ z_ac_0, z_acw q ∈ lw_tbl ∧ goodWord (z_acw q) = true := z_chk z_ac_0_ok z_ac_0_gd
def z_ac : List Nat := z_ac_0
theorem z_ac_in : ∀ q ∈ z_ac, z_acw q ∈ lw_tbl ∧ goodWord (z_acw q) = true := z_ac_0_in
def z_kiw (q : Nat × (Nat × Int32)) : Cond := Cond.constant (z_on q.1) q.2.1 q.2.2
def z_ki_0 : List (Nat × (Nat × Int32)) := [(12, 397, 2000000000), (14, 265, 1431655765), (14, 266, 858993459), (14, 267, 252645135)]
theorem z_ki_0_ok : z_ki_0.map z_kiw = z_pk [(6, 112), (3, 177), (3, 178), (3, 179)] := rfl
theorem z_ki_0_gd : (z_ki_0.map z_kiw).all goodWord = true := by decide +kernel
def z_ki : List (Nat × (Nat × Int32)) := z_ki_0
theorem z_ki_0_in : ∀ q ∈ z_ki_0, z_kiw q ∈ lw_tbl ∧ goodWord (z_kiw q) = true := z_chk z_ki_0_ok z_ki_0_gd
theorem z_ki_in : ∀ q ∈ z_ki, z_kiw q ∈ lw_tbl ∧ goodWord (z_kiw q) = true := z_ki_0_in
def z_klw (q : Nat × (Nat × Nat)) : Cond := Cond.constantLong (z_on q.1) q.2.1 (Int64.ofNat q.2.2)
def z_kl_0 : List (Nat × (Nat × Nat)) := [(11, 268, 9223372036854775808), (12, 428, 9223372036854775808), (16, 164, 4294967295)]
theorem z_kl_0_ok : z_kl_0.map z_klw = z_pk [(3, 222), (6, 185), (7, 66)] := rfl
theorem z_kl_0_gd : (z_kl_0.map z_klw).all goodWord = true := by decide +kernel
def z_kl : List (Nat × (Nat × Nat)) := z_kl_0
theorem z_kl_0_in : ∀ q ∈ z_kl_0, z_klw q ∈ lw_tbl ∧ goodWord (z_klw q) = true := z_chk z_kl_0_ok z_kl_0_gd
theorem z_kl_in : ∀ q ∈ z_kl, z_klw q ∈ lw_tbl ∧ goodWord (z_klw q) = true := z_kl_0_in
set_option maxRecDepth 100000 in
theorem z_us_0 : u_ws RX0 TX0 3 = z_pk [(1, 120), (1, 122), (1, 124)] := rfl
theorem z_ug_0 : (u_ws RX0 TX0 3).all goodWord = true := by decide +kernel
set_option maxRecDepth 100000 in
theorem z_us_1 : u_ws RX1 TX1 8 = z_pk [(1, 98), (1, 100), (1, 102), (1, 104), (1, 106), (1, 108), (1, 110), (1, 112)] := rfl
theorem z_ug_1 : (u_ws RX1 TX1 8).all goodWord = true := by decide +kernel
set_option maxRecDepth 100000 in
theorem z_us_2 : u_ws RX2 TX2 2 = z_pk [(2, 16), (2, 18)] := rfl
theorem z_ug_2 : (u_ws RX2 TX2 2).all goodWord = true := by decide +kernel
set_option maxRecDepth 100000 in
theorem z_us_3 : u_ws RX3 TX3 7 = z_pk [(1, 177), (1, 179), (1, 181), (1, 183), (1, 185), (1, 187), (1, 189)] := rfl
theorem z_ug_3 : (u_ws RX3 TX3 7).all goodWord = true := by decide +kernel
set_option maxRecDepth 100000 in
theorem z_us_4 : u_ws RX4 TX4 4 = z_pk [(2, 32), (2, 34), (2, 36), (2, 38)] := rfl
theorem z_ug_4 : (u_ws RX4 TX4 4).all goodWord = true := by decide +kernel
set_option maxRecDepth 100000 in
theorem z_us_5 : u_ws RX6 TX6 7 = z_pk [(1, 143), (1, 145), (1, 147), (1, 149), (1, 151), (1, 153), (1, 155)] := rfl
theorem z_ug_5 : (u_ws RX6 TX6 7).all goodWord = true := by decide +kernel
set_option maxRecDepth 100000 in
theorem z_us_6 : u_ws RX7 TX7 3 = z_pk [(1, 236), (1, 238), (2, 0)] := rfl
theorem z_ug_6 : (u_ws RX7 TX7 3).all goodWord = true := by decide +kernel
set_option maxRecDepth 100000 in
theorem z_us_7 : u_ws RX8 TX8 4 = z_pk [(1, 40), (1, 42), (1, 44), (1, 46)] := rfl
theorem z_ug_7 : (u_ws RX8 TX8 4).all goodWord = true := by decide +kernel
set_option maxRecDepth 100000 in
theorem z_us_8 : u_ws RX9 TX9 4 = z_pk [(1, 217), (1, 219), (1, 221), (1, 223)] := rfl
theorem z_ug_8 : (u_ws RX9 TX9 4).all goodWord = true := by decide +kernel
set_option maxRecDepth 100000 in
theorem z_us_9 : u_ws RX10 TX10 3 = z_pk [(2, 53), (2, 55), (2, 57)] := rfl
theorem z_ug_9 : (u_ws RX10 TX10 3).all goodWord = true := by decide +kernel
set_option maxRecDepth 100000 in
theorem z_us_10 : u_ws RX11 TX11 17 = z_pk [(2, 78), (2, 80), (2, 82), (2, 84), (2, 86), (2, 88), (2, 90), (2, 92), (2, 94), (2, 96), (2, 98), (2, 100), (2, 102), (2, 104), (2, 106), (2, 108), (2, 110)] := rfl
theorem z_ug_10 : (u_ws RX11 TX11 17).all goodWord = true := by decide +kernel
set_option maxRecDepth 100000 in
theorem z_us_11 : u_ws RX12 TX12 82 = z_pk [(4, 203), (4, 205), (4, 207), (4, 209), (4, 211), (4, 213), (4, 215), (4, 217), (4, 219), (4, 221), (4, 223), (4, 225), (4, 227), (4, 229), (4, 231), (4, 233), (4, 235), (4, 237), (4, 239), (5, 1), (5, 3), (5, 5), (5, 7), (5, 9), (5, 11), (5, 13), (5, 15), (5, 17), (5, 19), (5, 21), (5, 23), (5, 25), (5, 27), (5, 29), (5, 31), (5, 33), (5, 35), (5, 37), (5, 39), (5, 41), (5, 43), (5, 45), (5, 47), (5, 49), (5, 51), (5, 53), (5, 55), (5, 57), (5, 59), (5, 61), (5, 63), (5, 65), (5, 67), (5, 69), (5, 71), (5, 73), (5, 75), (5, 77), (5, 79), (5, 81), (5, 83), (5, 85), (5, 87), (5, 89), (5, 91), (5, 93), (5, 95), (5, 97), (5, 99), (5, 101), (5, 103), (5, 105), (5, 107), (5, 109), (5, 111), (5, 113), (5, 115), (5, 117), (5, 119), (5, 121), (5, 123), (5, 125)] := rfl
theorem z_ug_11 : (u_ws RX12 TX12 82).all goodWord = true := by decide +kernel
def z_CF (ci : Nat) (C : String) (T : u_T) (N : Nat) : Prop := (∀ w ∈ u_ws C T N, w ∈ lw_tbl ∧ goodWord w = true) ∧ (∃ ty : Nat → FieldType, (∀ k, k < N → parseFieldDescriptor (T k).2.2.1 = some (ty k)) ∧ ∀ k, k < N → (z_shK (ci + 1) k = 0 ∧ ty k = .int) ∨ (z_shK (ci + 1) k = 1 ∧ ty k = .boolean) ∨ ((z_shK (ci + 1) k = 2 ∨ z_shK (ci + 1) k = 3) ∧ ((∃ n, ty k = .object n) ∨ ∃ t, ty k = .array t))) ∧ (∀ a, a < N → ∀ b, b < N → a ≠ b → (T a).2.1 ≠ (T b).2.1) ∧ N = z_nF (ci + 1) ∧ z_aK (ci + 1) = 0 ∧ C = z_cn (ci + 1) ∧ T = z_tf (ci + 1) ∧ (∀ k, (T k).1 = C) ∧ C = z_on (ci + 1)
def z_ky (k : Nat) (t : FieldType) : Bool := match k, t with
  | 0, .int => true
  | 1, .boolean => true
  | 2, .object _ => true
  | 2, .array _ => true
  | 3, .object _ => true
  | 3, .array _ => true
  | _, _ => false
theorem z_ky_ok {k : Nat} {t : FieldType} (h : z_ky k t = true) : (k = 0 ∧ t = .int) ∨ (k = 1 ∧ t = .boolean) ∨ ((k = 2 ∨ k = 3) ∧ ((∃ n, t = .object n) ∨ ∃ u, t = .array u)) := by
  unfold z_ky at h
  split at h <;> first | (cases h; done) | simp
theorem z_cf_0 : z_CF 0 RX0 TX0 3 := ⟨fun w hw => ⟨z_pk_in (z_us_0 ▸ hw), List.all_eq_true.mp z_ug_0 w hw⟩, ⟨tyX0, tyX0_ok, fun k hk => z_ky_ok (List.all_eq_true.mp (show (List.range 3).all (fun k => z_ky (z_shK (0 + 1) k) (tyX0 k)) = true by decide +kernel) k (List.mem_range.mpr hk))⟩, nmX0, rfl, rfl, rfl, rfl, fun k => (by unfold TX0; split <;> rfl), rfl⟩
theorem z_cf_1 : z_CF 1 RX1 TX1 8 := ⟨fun w hw => ⟨z_pk_in (z_us_1 ▸ hw), List.all_eq_true.mp z_ug_1 w hw⟩, ⟨tyX1, tyX1_ok, fun k hk => z_ky_ok (List.all_eq_true.mp (show (List.range 8).all (fun k => z_ky (z_shK (1 + 1) k) (tyX1 k)) = true by decide +kernel) k (List.mem_range.mpr hk))⟩, nmX1, rfl, rfl, rfl, rfl, fun k => (by unfold TX1; split <;> rfl), rfl⟩
theorem z_cf_2 : z_CF 2 RX2 TX2 2 := ⟨fun w hw => ⟨z_pk_in (z_us_2 ▸ hw), List.all_eq_true.mp z_ug_2 w hw⟩, ⟨tyX2, tyX2_ok, fun k hk => z_ky_ok (List.all_eq_true.mp (show (List.range 2).all (fun k => z_ky (z_shK (2 + 1) k) (tyX2 k)) = true by decide +kernel) k (List.mem_range.mpr hk))⟩, nmX2, rfl, rfl, rfl, rfl, fun k => (by unfold TX2; split <;> rfl), rfl⟩
theorem z_cf_3 : z_CF 3 RX3 TX3 7 := ⟨fun w hw => ⟨z_pk_in (z_us_3 ▸ hw), List.all_eq_true.mp z_ug_3 w hw⟩, ⟨tyX3, tyX3_ok, fun k hk => z_ky_ok (List.all_eq_true.mp (show (List.range 7).all (fun k => z_ky (z_shK (3 + 1) k) (tyX3 k)) = true by decide +kernel) k (List.mem_range.mpr hk))⟩, nmX3, rfl, rfl, rfl, rfl, fun k => (by unfold TX3; split <;> rfl), rfl⟩
theorem z_cf_4 : z_CF 4 RX4 TX4 4 := ⟨fun w hw => ⟨z_pk_in (z_us_4 ▸ hw), List.all_eq_true.mp z_ug_4 w hw⟩, ⟨tyX4, tyX4_ok, fun k hk => z_ky_ok (List.all_eq_true.mp (show (List.range 4).all (fun k => z_ky (z_shK (4 + 1) k) (tyX4 k)) = true by decide +kernel) k (List.mem_range.mpr hk))⟩, nmX4, rfl, rfl, rfl, rfl, fun k => (by unfold TX4; split <;> rfl), rfl⟩
theorem z_cf_5 : z_CF 5 RX6 TX6 7 := ⟨fun w hw => ⟨z_pk_in (z_us_5 ▸ hw), List.all_eq_true.mp z_ug_5 w hw⟩, ⟨tyX6, tyX6_ok, fun k hk => z_ky_ok (List.all_eq_true.mp (show (List.range 7).all (fun k => z_ky (z_shK (5 + 1) k) (tyX6 k)) = true by decide +kernel) k (List.mem_range.mpr hk))⟩, nmX6, rfl, rfl, rfl, rfl, fun k => (by unfold TX6; split <;> rfl), rfl⟩
theorem z_cf_6 : z_CF 6 RX7 TX7 3 := ⟨fun w hw => ⟨z_pk_in (z_us_6 ▸ hw), List.all_eq_true.mp z_ug_6 w hw⟩, ⟨tyX7, tyX7_ok, fun k hk => z_ky_ok (List.all_eq_true.mp (show (List.range 3).all (fun k => z_ky (z_shK (6 + 1) k) (tyX7 k)) = true by decide +kernel) k (List.mem_range.mpr hk))⟩, nmX7, rfl, rfl, rfl, rfl, fun k => (by unfold TX7; split <;> rfl), rfl⟩
theorem z_cf_7 : z_CF 7 RX8 TX8 4 := ⟨fun w hw => ⟨z_pk_in (z_us_7 ▸ hw), List.all_eq_true.mp z_ug_7 w hw⟩, ⟨tyX8, tyX8_ok, fun k hk => z_ky_ok (List.all_eq_true.mp (show (List.range 4).all (fun k => z_ky (z_shK (7 + 1) k) (tyX8 k)) = true by decide +kernel) k (List.mem_range.mpr hk))⟩, nmX8, rfl, rfl, rfl, rfl, fun k => (by unfold TX8; split <;> rfl), rfl⟩
theorem z_cf_8 : z_CF 8 RX9 TX9 4 := ⟨fun w hw => ⟨z_pk_in (z_us_8 ▸ hw), List.all_eq_true.mp z_ug_8 w hw⟩, ⟨tyX9, tyX9_ok, fun k hk => z_ky_ok (List.all_eq_true.mp (show (List.range 4).all (fun k => z_ky (z_shK (8 + 1) k) (tyX9 k)) = true by decide +kernel) k (List.mem_range.mpr hk))⟩, nmX9, rfl, rfl, rfl, rfl, fun k => (by unfold TX9; split <;> rfl), rfl⟩
theorem z_cf_9 : z_CF 9 RX10 TX10 3 := ⟨fun w hw => ⟨z_pk_in (z_us_9 ▸ hw), List.all_eq_true.mp z_ug_9 w hw⟩, ⟨tyX10, tyX10_ok, fun k hk => z_ky_ok (List.all_eq_true.mp (show (List.range 3).all (fun k => z_ky (z_shK (9 + 1) k) (tyX10 k)) = true by decide +kernel) k (List.mem_range.mpr hk))⟩, nmX10, rfl, rfl, rfl, rfl, fun k => (by unfold TX10; split <;> rfl), rfl⟩
theorem z_cf_10 : z_CF 10 RX11 TX11 17 := ⟨fun w hw => ⟨z_pk_in (z_us_10 ▸ hw), List.all_eq_true.mp z_ug_10 w hw⟩, ⟨tyX11, tyX11_ok, fun k hk => z_ky_ok (List.all_eq_true.mp (show (List.range 17).all (fun k => z_ky (z_shK (10 + 1) k) (tyX11 k)) = true by decide +kernel) k (List.mem_range.mpr hk))⟩, nmX11, rfl, rfl, rfl, rfl, fun k => (by unfold TX11; split <;> rfl), rfl⟩
theorem z_cf_11 : z_CF 11 RX12 TX12 82 := ⟨fun w hw => ⟨z_pk_in (z_us_11 ▸ hw), List.all_eq_true.mp z_ug_11 w hw⟩, ⟨tyX12, tyX12_ok, fun k hk => z_ky_ok (List.all_eq_true.mp (show (List.range 82).all (fun k => z_ky (z_shK (11 + 1) k) (tyX12 k)) = true by decide +kernel) k (List.mem_range.mpr hk))⟩, nmX12, rfl, rfl, rfl, rfl, fun k => (by unfold TX12; split <;> rfl), rfl⟩
theorem z_cf : ∀ (ci : Nat) (C : String) (T : u_T) (N : Nat), vwCl[ci]? = some (C, T, N) → z_CF ci C T N := by
  intro ci C T N h
  match ci, h with
  | 0, h => cases h; exact z_cf_0
  | 1, h => cases h; exact z_cf_1
  | 2, h => cases h; exact z_cf_2
  | 3, h => cases h; exact z_cf_3
  | 4, h => cases h; exact z_cf_4
  | 5, h => cases h; exact z_cf_5
  | 6, h => cases h; exact z_cf_6
  | 7, h => cases h; exact z_cf_7
  | 8, h => cases h; exact z_cf_8
  | 9, h => cases h; exact z_cf_9
  | 10, h => cases h; exact z_cf_10
  | 11, h => cases h; exact z_cf_11
  | k + 12, h => simp [vwCl] at h
/-- of a method: its class is plain, how many arguments it has, its receiver's class -/
def z_MF (q : z_Mt) : Prop := plainName q.1.cls = true ∧ (q.1.cls ≠ "java/lang/invoke/MethodHandle" ∧ q.1.cls ≠ "java/lang/invoke/VarHandle") ∧ (parseMethodDescriptor q.1.desc).map (fun d => d.parameters.length) = some (match q.2.2.2.2.2.2.2.1 with | 0 => q.2.2.2.2.2.2.2.2 | _ + 1 => q.2.2.2.2.2.2.2.2 - 1) ∧ q.2.2.1 ≤ 60
theorem z_mf_0 : z_MF (yX0_init, cX0_init, 1, none, false, zo_X0_init, zc_X0_init, 1, 1) := ⟨by decide +kernel, ⟨by decide +kernel, by decide +kernel⟩, by decide +kernel, by decide +kernel⟩
theorem z_mf_1 : z_MF (yX0_forget, cX0_forget, 1, none, false, zo_X0_forget, zc_X0_forget, 1, 1) := ⟨by decide +kernel, ⟨by decide +kernel, by decide +kernel⟩, by decide +kernel, by decide +kernel⟩
theorem z_mf_2 : z_MF (yX0_kept, cX0_kept, 1, (some .int), false, zo_X0_kept, zc_X0_kept, 1, 1) := ⟨by decide +kernel, ⟨by decide +kernel, by decide +kernel⟩, by decide +kernel, by decide +kernel⟩
theorem z_mf_3 : z_MF (yX0_run, cX0_run, 4, (some .int), false, zo_X0_run, zc_X0_run, 1, 4) := ⟨by decide +kernel, ⟨by decide +kernel, by decide +kernel⟩, by decide +kernel, by decide +kernel⟩
theorem z_mf_4 : z_MF (yX0_note, cX0_note, 2, none, false, zo_X0_note, zc_X0_note, 1, 2) := ⟨by decide +kernel, ⟨by decide +kernel, by decide +kernel⟩, by decide +kernel, by decide +kernel⟩
theorem z_mf_5 : z_MF (yX0_drips, cX0_drips, 3, (some .int), false, zo_X0_drips, zc_X0_drips, 1, 3) := ⟨by decide +kernel, ⟨by decide +kernel, by decide +kernel⟩, by decide +kernel, by decide +kernel⟩
theorem z_mf_6 : z_MF (yX0_steams, cX0_steams, 3, (some .int), false, zo_X0_steams, zc_X0_steams, 1, 3) := ⟨by decide +kernel, ⟨by decide +kernel, by decide +kernel⟩, by decide +kernel, by decide +kernel⟩
theorem z_mf_7 : z_MF (yX0_tells, cX0_tells, 3, (some .int), false, zo_X0_tells, zc_X0_tells, 1, 3) := ⟨by decide +kernel, ⟨by decide +kernel, by decide +kernel⟩, by decide +kernel, by decide +kernel⟩
theorem z_mf_8 : z_MF (yX1_init, cX1_init, 2, none, false, zo_X1_init, zc_X1_init, 2, 2) := ⟨by decide +kernel, ⟨by decide +kernel, by decide +kernel⟩, by decide +kernel, by decide +kernel⟩
theorem z_mf_9 : z_MF (yX1_become, cX1_become, 5, none, false, zo_X1_become, zc_X1_become, 2, 5) := ⟨by decide +kernel, ⟨by decide +kernel, by decide +kernel⟩, by decide +kernel, by decide +kernel⟩
theorem z_mf_10 : z_MF (yX1_copyFrom, cX1_copyFrom, 2, none, false, zo_X1_copyFrom, zc_X1_copyFrom, 2, 2) := ⟨by decide +kernel, ⟨by decide +kernel, by decide +kernel⟩, by decide +kernel, by decide +kernel⟩
theorem z_mf_11 : z_MF (yX1_driesAt, cX1_driesAt, 4, (some .int), false, zo_X1_driesAt, zc_X1_driesAt, 2, 3) := ⟨by decide +kernel, ⟨by decide +kernel, by decide +kernel⟩, by decide +kernel, by decide +kernel⟩
theorem z_mf_12 : z_MF (yX1_asLeather, cX1_asLeather, 3, (some .int), false, zo_X1_asLeather, zc_X1_asLeather, 0, 3) := ⟨by decide +kernel, ⟨by decide +kernel, by decide +kernel⟩, by decide +kernel, by decide +kernel⟩
theorem z_mf_13 : z_MF (yX1_asStuffed, cX1_asStuffed, 2, (some .int), false, zo_X1_asStuffed, zc_X1_asStuffed, 2, 2) := ⟨by decide +kernel, ⟨by decide +kernel, by decide +kernel⟩, by decide +kernel, by decide +kernel⟩
theorem z_mf_14 : z_MF (yX1_spoils, cX1_spoils, 3, (some .boolean), true, zo_X1_spoils, zc_X1_spoils, 2, 2) := ⟨by decide +kernel, ⟨by decide +kernel, by decide +kernel⟩, by decide +kernel, by decide +kernel⟩
theorem z_mf_15 : z_MF (yX1_letHourGo, cX1_letHourGo, 2, none, false, zo_X1_letHourGo, zc_X1_letHourGo, 2, 2) := ⟨by decide +kernel, ⟨by decide +kernel, by decide +kernel⟩, by decide +kernel, by decide +kernel⟩
theorem z_mf_16 : z_MF (yX2_init, cX2_init, 2, none, false, zo_X2_init, zc_X2_init, 3, 2) := ⟨by decide +kernel, ⟨by decide +kernel, by decide +kernel⟩, by decide +kernel, by decide +kernel⟩
theorem z_mf_17 : z_MF (yX2_begin, cX2_begin, 3, none, false, zo_X2_begin, zc_X2_begin, 3, 3) := ⟨by decide +kernel, ⟨by decide +kernel, by decide +kernel⟩, by decide +kernel, by decide +kernel⟩
theorem z_mf_18 : z_MF (yX2_letHourGo, cX2_letHourGo, 1, none, false, zo_X2_letHourGo, zc_X2_letHourGo, 3, 1) := ⟨by decide +kernel, ⟨by decide +kernel, by decide +kernel⟩, by decide +kernel, by decide +kernel⟩
theorem z_mf_19 : z_MF (yX2_wetBehind, cX2_wetBehind, 6, (some .int), false, zo_X2_wetBehind, zc_X2_wetBehind, 3, 5) := ⟨by decide +kernel, ⟨by decide +kernel, by decide +kernel⟩, by decide +kernel, by decide +kernel⟩
theorem z_mf_20 : z_MF (yX3_init, cX3_init, 1, none, false, zo_X3_init, zc_X3_init, 4, 1) := ⟨by decide +kernel, ⟨by decide +kernel, by decide +kernel⟩, by decide +kernel, by decide +kernel⟩
theorem z_mf_21 : z_MF (yX3_clear, cX3_clear, 1, none, false, zo_X3_clear, zc_X3_clear, 4, 1) := ⟨by decide +kernel, ⟨by decide +kernel, by decide +kernel⟩, by decide +kernel, by decide +kernel⟩
theorem z_mf_22 : z_MF (yX3_append, cX3_append, 2, none, false, zo_X3_append, zc_X3_append, 4, 2) := ⟨by decide +kernel, ⟨by decide +kernel, by decide +kernel⟩, by decide +kernel, by decide +kernel⟩
theorem z_mf_23 : z_MF (yX3_appendTest, cX3_appendTest, 4, none, false, zo_X3_appendTest, zc_X3_appendTest, 4, 4) := ⟨by decide +kernel, ⟨by decide +kernel, by decide +kernel⟩, by decide +kernel, by decide +kernel⟩
theorem z_mf_24 : z_MF (yX3_appendEnd, cX3_appendEnd, 2, none, false, zo_X3_appendEnd, zc_X3_appendEnd, 4, 2) := ⟨by decide +kernel, ⟨by decide +kernel, by decide +kernel⟩, by decide +kernel, by decide +kernel⟩
theorem z_mf_25 : z_MF (yX3_extraFor, cX3_extraFor, 10, (some .int), false, zo_X3_extraFor, zc_X3_extraFor, 4, 4) := ⟨by decide +kernel, ⟨by decide +kernel, by decide +kernel⟩, by decide +kernel, by decide +kernel⟩
theorem z_mf_26 : z_MF (yX3_isTrue, cX3_isTrue, 6, (some .boolean), true, zo_X3_isTrue, zc_X3_isTrue, 4, 2) := ⟨by decide +kernel, ⟨by decide +kernel, by decide +kernel⟩, by decide +kernel, by decide +kernel⟩
theorem z_mf_27 : z_MF (yX4_init, cX4_init, 2, none, false, zo_X4_init, zc_X4_init, 5, 2) := ⟨by decide +kernel, ⟨by decide +kernel, by decide +kernel⟩, by decide +kernel, by decide +kernel⟩
theorem z_mf_28 : z_MF (yX4_append, cX4_append, 2, (some .int), false, zo_X4_append, zc_X4_append, 5, 2) := ⟨by decide +kernel, ⟨by decide +kernel, by decide +kernel⟩, by decide +kernel, by decide +kernel⟩
theorem z_mf_29 : z_MF (yX4_faultReadingInto, cX4_faultReadingInto, 3, (some .int), false, zo_X4_faultReadingInto, zc_X4_faultReadingInto, 5, 2) := ⟨by decide +kernel, ⟨by decide +kernel, by decide +kernel⟩, by decide +kernel, by decide +kernel⟩
theorem z_mf_30 : z_MF (yX4_readClause, cX4_readClause, 3, (some .boolean), true, zo_X4_readClause, zc_X4_readClause, 5, 1) := ⟨by decide +kernel, ⟨by decide +kernel, by decide +kernel⟩, by decide +kernel, by decide +kernel⟩
theorem z_mf_31 : z_MF (yX4_readWord, cX4_readWord, 1, (some .int), false, zo_X4_readWord, zc_X4_readWord, 5, 1) := ⟨by decide +kernel, ⟨by decide +kernel, by decide +kernel⟩, by decide +kernel, by decide +kernel⟩
theorem z_mf_32 : z_MF (yX4_readNumber, cX4_readNumber, 4, (some .int), false, zo_X4_readNumber, zc_X4_readNumber, 5, 1) := ⟨by decide +kernel, ⟨by decide +kernel, by decide +kernel⟩, by decide +kernel, by decide +kernel⟩
theorem z_mf_33 : z_MF (yX4_readAny, cX4_readAny, 3, (some .boolean), true, zo_X4_readAny, zc_X4_readAny, 5, 2) := ⟨by decide +kernel, ⟨by decide +kernel, by decide +kernel⟩, by decide +kernel, by decide +kernel⟩
theorem z_mf_34 : z_MF (yX4_readAll, cX4_readAll, 3, (some .boolean), true, zo_X4_readAll, zc_X4_readAll, 5, 2) := ⟨by decide +kernel, ⟨by decide +kernel, by decide +kernel⟩, by decide +kernel, by decide +kernel⟩
theorem z_mf_35 : z_MF (yX4_readPart, cX4_readPart, 3, (some .boolean), true, zo_X4_readPart, zc_X4_readPart, 5, 2) := ⟨by decide +kernel, ⟨by decide +kernel, by decide +kernel⟩, by decide +kernel, by decide +kernel⟩
theorem z_mf_36 : z_MF (yX4_readTest, cX4_readTest, 4, (some .boolean), true, zo_X4_readTest, zc_X4_readTest, 5, 1) := ⟨by decide +kernel, ⟨by decide +kernel, by decide +kernel⟩, by decide +kernel, by decide +kernel⟩
theorem z_mf_37 : z_MF (yX4_letterOf, cX4_letterOf, 1, (some .int), false, zo_X4_letterOf, zc_X4_letterOf, 0, 1) := ⟨by decide +kernel, ⟨by decide +kernel, by decide +kernel⟩, by decide +kernel, by decide +kernel⟩
theorem z_mf_38 : z_MF (yX4_comparisonOf, cX4_comparisonOf, 1, (some .int), false, zo_X4_comparisonOf, zc_X4_comparisonOf, 0, 1) := ⟨by decide +kernel, ⟨by decide +kernel, by decide +kernel⟩, by decide +kernel, by decide +kernel⟩
theorem z_mf_39 : z_MF (yX4_sign, cX4_sign, 1, (some .int), false, zo_X4_sign, zc_X4_sign, 5, 1) := ⟨by decide +kernel, ⟨by decide +kernel, by decide +kernel⟩, by decide +kernel, by decide +kernel⟩
theorem z_mf_40 : z_MF (yX4_skip, cX4_skip, 2, (some .boolean), true, zo_X4_skip, zc_X4_skip, 5, 2) := ⟨by decide +kernel, ⟨by decide +kernel, by decide +kernel⟩, by decide +kernel, by decide +kernel⟩
theorem z_mf_41 : z_MF (yX5_above, cX5_above, 1, (some .int), false, zo_X5_above, zc_X5_above, 0, 1) := ⟨by decide +kernel, ⟨by decide +kernel, by decide +kernel⟩, by decide +kernel, by decide +kernel⟩
theorem z_mf_42 : z_MF (yX5_isOrIsUnder, cX5_isOrIsUnder, 4, (some .boolean), true, zo_X5_isOrIsUnder, zc_X5_isOrIsUnder, 0, 2) := ⟨by decide +kernel, ⟨by decide +kernel, by decide +kernel⟩, by decide +kernel, by decide +kernel⟩
theorem z_mf_43 : z_MF (yX6_init, cX6_init, 1, none, false, zo_X6_init, zc_X6_init, 6, 1) := ⟨by decide +kernel, ⟨by decide +kernel, by decide +kernel⟩, by decide +kernel, by decide +kernel⟩
theorem z_mf_44 : z_MF (yX6_foresee, cX6_foresee, 6, none, false, zo_X6_foresee, zc_X6_foresee, 6, 4) := ⟨by decide +kernel, ⟨by decide +kernel, by decide +kernel⟩, by decide +kernel, by decide +kernel⟩
theorem z_mf_45 : z_MF (yX6_moreByChange, cX6_moreByChange, 3, (some .int), false, zo_X6_moreByChange, zc_X6_moreByChange, 6, 3) := ⟨by decide +kernel, ⟨by decide +kernel, by decide +kernel⟩, by decide +kernel, by decide +kernel⟩
theorem z_mf_46 : z_MF (yX6_moreByMove, cX6_moreByMove, 4, (some .int), false, zo_X6_moreByMove, zc_X6_moreByMove, 6, 3) := ⟨by decide +kernel, ⟨by decide +kernel, by decide +kernel⟩, by decide +kernel, by decide +kernel⟩
theorem z_mf_47 : z_MF (yX6_findBest, cX6_findBest, 1, none, false, zo_X6_findBest, zc_X6_findBest, 6, 1) := ⟨by decide +kernel, ⟨by decide +kernel, by decide +kernel⟩, by decide +kernel, by decide +kernel⟩
theorem z_mf_48 : z_MF (yX6_tryFrom, cX6_tryFrom, 8, none, false, zo_X6_tryFrom, zc_X6_tryFrom, 6, 5) := ⟨by decide +kernel, ⟨by decide +kernel, by decide +kernel⟩, by decide +kernel, by decide +kernel⟩
theorem z_mf_49 : z_MF (yX6_keepIfBetter, cX6_keepIfBetter, 3, none, false, zo_X6_keepIfBetter, zc_X6_keepIfBetter, 6, 3) := ⟨by decide +kernel, ⟨by decide +kernel, by decide +kernel⟩, by decide +kernel, by decide +kernel⟩
theorem z_mf_50 : z_MF (yX7_init, cX7_init, 3, none, false, zo_X7_init, zc_X7_init, 7, 2) := ⟨by decide +kernel, ⟨by decide +kernel, by decide +kernel⟩, by decide +kernel, by decide +kernel⟩
theorem z_mf_51 : z_MF (yX7_copyFrom, cX7_copyFrom, 3, none, false, zo_X7_copyFrom, zc_X7_copyFrom, 7, 2) := ⟨by decide +kernel, ⟨by decide +kernel, by decide +kernel⟩, by decide +kernel, by decide +kernel⟩
theorem z_mf_52 : z_MF (yX7_whoIsAt, cX7_whoIsAt, 3, (some .int), false, zo_X7_whoIsAt, zc_X7_whoIsAt, 7, 2) := ⟨by decide +kernel, ⟨by decide +kernel, by decide +kernel⟩, by decide +kernel, by decide +kernel⟩
theorem z_mf_53 : z_MF (yX7_freePlace, cX7_freePlace, 2, (some .int), false, zo_X7_freePlace, zc_X7_freePlace, 7, 1) := ⟨by decide +kernel, ⟨by decide +kernel, by decide +kernel⟩, by decide +kernel, by decide +kernel⟩
theorem z_mf_54 : z_MF (yX7_letHourGo, cX7_letHourGo, 2, none, false, zo_X7_letHourGo, zc_X7_letHourGo, 7, 1) := ⟨by decide +kernel, ⟨by decide +kernel, by decide +kernel⟩, by decide +kernel, by decide +kernel⟩
theorem z_mf_55 : z_MF (yX7_letHoursGo, cX7_letHoursGo, 3, none, false, zo_X7_letHoursGo, zc_X7_letHoursGo, 7, 2) := ⟨by decide +kernel, ⟨by decide +kernel, by decide +kernel⟩, by decide +kernel, by decide +kernel⟩
theorem z_mf_56 : z_MF (yX7_follow, cX7_follow, 3, none, false, zo_X7_follow, zc_X7_follow, 7, 3) := ⟨by decide +kernel, ⟨by decide +kernel, by decide +kernel⟩, by decide +kernel, by decide +kernel⟩
theorem z_mf_57 : z_MF (yX7_wetOfThoseHere, cX7_wetOfThoseHere, 3, (some .int), false, zo_X7_wetOfThoseHere, zc_X7_wetOfThoseHere, 7, 1) := ⟨by decide +kernel, ⟨by decide +kernel, by decide +kernel⟩, by decide +kernel, by decide +kernel⟩
theorem z_mf_58 : z_MF (yX7_cracksOfAll, cX7_cracksOfAll, 3, (some .int), false, zo_X7_cracksOfAll, zc_X7_cracksOfAll, 7, 1) := ⟨by decide +kernel, ⟨by decide +kernel, by decide +kernel⟩, by decide +kernel, by decide +kernel⟩
theorem z_mf_59 : z_MF (yX7_dryOfThoseHere, cX7_dryOfThoseHere, 3, (some .int), false, zo_X7_dryOfThoseHere, zc_X7_dryOfThoseHere, 7, 1) := ⟨by decide +kernel, ⟨by decide +kernel, by decide +kernel⟩, by decide +kernel, by decide +kernel⟩
theorem z_mf_60 : z_MF (yX7_dryBits, cX7_dryBits, 3, (some .int), false, zo_X7_dryBits, zc_X7_dryBits, 7, 1) := ⟨by decide +kernel, ⟨by decide +kernel, by decide +kernel⟩, by decide +kernel, by decide +kernel⟩
theorem z_mf_61 : z_MF (yX8_init, cX8_init, 2, none, false, zo_X8_init, zc_X8_init, 8, 2) := ⟨by decide +kernel, ⟨by decide +kernel, by decide +kernel⟩, by decide +kernel, by decide +kernel⟩
theorem z_mf_62 : z_MF (yX8_isFull, cX8_isFull, 1, (some .boolean), true, zo_X8_isFull, zc_X8_isFull, 8, 1) := ⟨by decide +kernel, ⟨by decide +kernel, by decide +kernel⟩, by decide +kernel, by decide +kernel⟩
theorem z_mf_63 : z_MF (yX8_append, cX8_append, 4, (some .int), false, zo_X8_append, zc_X8_append, 8, 4) := ⟨by decide +kernel, ⟨by decide +kernel, by decide +kernel⟩, by decide +kernel, by decide +kernel⟩
theorem z_mf_64 : z_MF (yX8_copyFrom, cX8_copyFrom, 2, none, false, zo_X8_copyFrom, zc_X8_copyFrom, 8, 2) := ⟨by decide +kernel, ⟨by decide +kernel, by decide +kernel⟩, by decide +kernel, by decide +kernel⟩
theorem z_mf_65 : z_MF (yX8_mostThirdOf, cX8_mostThirdOf, 4, (some .int), false, zo_X8_mostThirdOf, zc_X8_mostThirdOf, 8, 2) := ⟨by decide +kernel, ⟨by decide +kernel, by decide +kernel⟩, by decide +kernel, by decide +kernel⟩
theorem z_mf_66 : z_MF (yX9_init, cX9_init, 2, none, false, zo_X9_init, zc_X9_init, 9, 2) := ⟨by decide +kernel, ⟨by decide +kernel, by decide +kernel⟩, by decide +kernel, by decide +kernel⟩
theorem z_mf_67 : z_MF (yX9_copyFrom, cX9_copyFrom, 2, none, false, zo_X9_copyFrom, zc_X9_copyFrom, 9, 2) := ⟨by decide +kernel, ⟨by decide +kernel, by decide +kernel⟩, by decide +kernel, by decide +kernel⟩
theorem z_mf_68 : z_MF (yX9_warmAt, cX9_warmAt, 2, (some .int), false, zo_X9_warmAt, zc_X9_warmAt, 9, 2) := ⟨by decide +kernel, ⟨by decide +kernel, by decide +kernel⟩, by decide +kernel, by decide +kernel⟩
theorem z_mf_69 : z_MF (yX9_burnLog, cX9_burnLog, 1, none, false, zo_X9_burnLog, zc_X9_burnLog, 9, 1) := ⟨by decide +kernel, ⟨by decide +kernel, by decide +kernel⟩, by decide +kernel, by decide +kernel⟩
theorem z_mf_70 : z_MF (yX9_letHourGo, cX9_letHourGo, 1, none, false, zo_X9_letHourGo, zc_X9_letHourGo, 9, 1) := ⟨by decide +kernel, ⟨by decide +kernel, by decide +kernel⟩, by decide +kernel, by decide +kernel⟩
theorem z_mf_71 : z_MF (yX10_init, cX10_init, 1, none, false, zo_X10_init, zc_X10_init, 10, 1) := ⟨by decide +kernel, ⟨by decide +kernel, by decide +kernel⟩, by decide +kernel, by decide +kernel⟩
theorem z_mf_72 : z_MF (yX10_become, cX10_become, 3, none, false, zo_X10_become, zc_X10_become, 10, 3) := ⟨by decide +kernel, ⟨by decide +kernel, by decide +kernel⟩, by decide +kernel, by decide +kernel⟩
theorem z_mf_73 : z_MF (yX10_holds, cX10_holds, 3, (some .boolean), true, zo_X10_holds, zc_X10_holds, 10, 3) := ⟨by decide +kernel, ⟨by decide +kernel, by decide +kernel⟩, by decide +kernel, by decide +kernel⟩
theorem z_mf_74 : z_MF (yX10_narrowed, cX10_narrowed, 3, (some .long), false, zo_X10_narrowed, zc_X10_narrowed, 10, 2) := ⟨by decide +kernel, ⟨by decide +kernel, by decide +kernel⟩, by decide +kernel, by decide +kernel⟩
theorem z_mf_75 : z_MF (yX11_init, cX11_init, 3, none, false, zo_X11_init, zc_X11_init, 11, 1) := ⟨by decide +kernel, ⟨by decide +kernel, by decide +kernel⟩, by decide +kernel, by decide +kernel⟩
theorem z_mf_76 : z_MF (yX11_pair, cX11_pair, 4, (some .int), false, zo_X11_pair, zc_X11_pair, 11, 4) := ⟨by decide +kernel, ⟨by decide +kernel, by decide +kernel⟩, by decide +kernel, by decide +kernel⟩
theorem z_mf_77 : z_MF (yX11_of, cX11_of, 4, (some .int), false, zo_X11_of, zc_X11_of, 11, 3) := ⟨by decide +kernel, ⟨by decide +kernel, by decide +kernel⟩, by decide +kernel, by decide +kernel⟩
theorem z_mf_78 : z_MF (yX11_wet, cX11_wet, 4, (some .int), false, zo_X11_wet, zc_X11_wet, 11, 3) := ⟨by decide +kernel, ⟨by decide +kernel, by decide +kernel⟩, by decide +kernel, by decide +kernel⟩
theorem z_mf_79 : z_MF (yX11_put, cX11_put, 5, (some .int), false, zo_X11_put, zc_X11_put, 11, 3) := ⟨by decide +kernel, ⟨by decide +kernel, by decide +kernel⟩, by decide +kernel, by decide +kernel⟩
theorem z_mf_80 : z_MF (yX11_take, cX11_take, 4, (some .int), false, zo_X11_take, zc_X11_take, 11, 3) := ⟨by decide +kernel, ⟨by decide +kernel, by decide +kernel⟩, by decide +kernel, by decide +kernel⟩
theorem z_mf_81 : z_MF (yX11_stoke, cX11_stoke, 1, (some .int), false, zo_X11_stoke, zc_X11_stoke, 11, 1) := ⟨by decide +kernel, ⟨by decide +kernel, by decide +kernel⟩, by decide +kernel, by decide +kernel⟩
theorem z_mf_82 : z_MF (yX11_set, cX11_set, 5, (some .int), false, zo_X11_set, zc_X11_set, 11, 3) := ⟨by decide +kernel, ⟨by decide +kernel, by decide +kernel⟩, by decide +kernel, by decide +kernel⟩
theorem z_mf_83 : z_MF (yX11_row, cX11_row, 6, (some .int), false, zo_X11_row, zc_X11_row, 11, 4) := ⟨by decide +kernel, ⟨by decide +kernel, by decide +kernel⟩, by decide +kernel, by decide +kernel⟩
theorem z_mf_84 : z_MF (yX11_feed, cX11_feed, 2, (some .int), false, zo_X11_feed, zc_X11_feed, 11, 2) := ⟨by decide +kernel, ⟨by decide +kernel, by decide +kernel⟩, by decide +kernel, by decide +kernel⟩
theorem z_mf_85 : z_MF (yX11_hut, cX11_hut, 3, (some .int), false, zo_X11_hut, zc_X11_hut, 11, 1) := ⟨by decide +kernel, ⟨by decide +kernel, by decide +kernel⟩, by decide +kernel, by decide +kernel⟩
theorem z_mf_86 : z_MF (yX11_told, cX11_told, 2, (some .int), false, zo_X11_told, zc_X11_told, 11, 2) := ⟨by decide +kernel, ⟨by decide +kernel, by decide +kernel⟩, by decide +kernel, by decide +kernel⟩
theorem z_mf_87 : z_MF (yX11_pass, cX11_pass, 2, (some .int), false, zo_X11_pass, zc_X11_pass, 11, 2) := ⟨by decide +kernel, ⟨by decide +kernel, by decide +kernel⟩, by decide +kernel, by decide +kernel⟩
theorem z_mf_88 : z_MF (yX11_on, cX11_on, 4, (some .int), false, zo_X11_on, zc_X11_on, 11, 3) := ⟨by decide +kernel, ⟨by decide +kernel, by decide +kernel⟩, by decide +kernel, by decide +kernel⟩
theorem z_mf_89 : z_MF (yX11_done, cX11_done, 3, (some .int), false, zo_X11_done, zc_X11_done, 11, 2) := ⟨by decide +kernel, ⟨by decide +kernel, by decide +kernel⟩, by decide +kernel, by decide +kernel⟩
theorem z_mf_90 : z_MF (yX11_night, cX11_night, 2, (some .int), false, zo_X11_night, zc_X11_night, 11, 2) := ⟨by decide +kernel, ⟨by decide +kernel, by decide +kernel⟩, by decide +kernel, by decide +kernel⟩
theorem z_mf_91 : z_MF (yX11_placed, cX11_placed, 4, (some .int), false, zo_X11_placed, zc_X11_placed, 11, 3) := ⟨by decide +kernel, ⟨by decide +kernel, by decide +kernel⟩, by decide +kernel, by decide +kernel⟩
theorem z_mf_92 : z_MF (yX11_change, cX11_change, 6, (some .int), false, zo_X11_change, zc_X11_change, 11, 1) := ⟨by decide +kernel, ⟨by decide +kernel, by decide +kernel⟩, by decide +kernel, by decide +kernel⟩
theorem z_mf_93 : z_MF (yX11_logs, cX11_logs, 8, (some .int), false, zo_X11_logs, zc_X11_logs, 11, 3) := ⟨by decide +kernel, ⟨by decide +kernel, by decide +kernel⟩, by decide +kernel, by decide +kernel⟩
theorem z_mf_94 : z_MF (yX11_see, cX11_see, 4, (some .int), false, zo_X11_see, zc_X11_see, 11, 4) := ⟨by decide +kernel, ⟨by decide +kernel, by decide +kernel⟩, by decide +kernel, by decide +kernel⟩
theorem z_mf_95 : z_MF (yX11_wets, cX11_wets, 6, (some .int), false, zo_X11_wets, zc_X11_wets, 11, 3) := ⟨by decide +kernel, ⟨by decide +kernel, by decide +kernel⟩, by decide +kernel, by decide +kernel⟩
theorem z_mf_96 : z_MF (yX11_can, cX11_can, 6, (some .int), false, zo_X11_can, zc_X11_can, 11, 3) := ⟨by decide +kernel, ⟨by decide +kernel, by decide +kernel⟩, by decide +kernel, by decide +kernel⟩
theorem z_mf_97 : z_MF (yX11_where, cX11_where, 4, (some .int), false, zo_X11_where, zc_X11_where, 11, 2) := ⟨by decide +kernel, ⟨by decide +kernel, by decide +kernel⟩, by decide +kernel, by decide +kernel⟩
theorem z_mf_98 : z_MF (yX11_odds, cX11_odds, 9, (some .long), false, zo_X11_odds, zc_X11_odds, 11, 4) := ⟨by decide +kernel, ⟨by decide +kernel, by decide +kernel⟩, by decide +kernel, by decide +kernel⟩
theorem z_mf_99 : z_MF (yX11_mean, cX11_mean, 5, (some .long), false, zo_X11_mean, zc_X11_mean, 11, 3) := ⟨by decide +kernel, ⟨by decide +kernel, by decide +kernel⟩, by decide +kernel, by decide +kernel⟩
theorem z_mf_100 : z_MF (yX11_rota, cX11_rota, 4, (some .int), false, zo_X11_rota, zc_X11_rota, 11, 3) := ⟨by decide +kernel, ⟨by decide +kernel, by decide +kernel⟩, by decide +kernel, by decide +kernel⟩
theorem z_mf_101 : z_MF (yX11_ends, cX11_ends, 3, (some .int), false, zo_X11_ends, zc_X11_ends, 11, 2) := ⟨by decide +kernel, ⟨by decide +kernel, by decide +kernel⟩, by decide +kernel, by decide +kernel⟩
theorem z_mf_102 : z_MF (yX11_book, cX11_book, 3, (some .int), false, zo_X11_book, zc_X11_book, 11, 3) := ⟨by decide +kernel, ⟨by decide +kernel, by decide +kernel⟩, by decide +kernel, by decide +kernel⟩
theorem z_mf_103 : z_MF (yX11_looked, cX11_looked, 2, (some .int), false, zo_X11_looked, zc_X11_looked, 11, 1) := ⟨by decide +kernel, ⟨by decide +kernel, by decide +kernel⟩, by decide +kernel, by decide +kernel⟩
theorem z_mf_104 : z_MF (yX11_judge, cX11_judge, 5, (some .int), false, zo_X11_judge, zc_X11_judge, 11, 3) := ⟨by decide +kernel, ⟨by decide +kernel, by decide +kernel⟩, by decide +kernel, by decide +kernel⟩
theorem z_mf_105 : z_MF (yX11_image, cX11_image, 1, (some .int), false, zo_X11_image, zc_X11_image, 11, 1) := ⟨by decide +kernel, ⟨by decide +kernel, by decide +kernel⟩, by decide +kernel, by decide +kernel⟩
theorem z_mf_106 : z_MF (yX11_undo, cX11_undo, 1, (some .int), false, zo_X11_undo, zc_X11_undo, 11, 1) := ⟨by decide +kernel, ⟨by decide +kernel, by decide +kernel⟩, by decide +kernel, by decide +kernel⟩
theorem z_mf_107 : z_MF (yX11_act, cX11_act, 4, (some .int), false, zo_X11_act, zc_X11_act, 11, 4) := ⟨by decide +kernel, ⟨by decide +kernel, by decide +kernel⟩, by decide +kernel, by decide +kernel⟩
theorem z_mf_108 : z_MF (yX11_trace, cX11_trace, 2, (some .int), false, zo_X11_trace, zc_X11_trace, 11, 2) := ⟨by decide +kernel, ⟨by decide +kernel, by decide +kernel⟩, by decide +kernel, by decide +kernel⟩
theorem z_mf_109 : z_MF (yX11_taken, cX11_taken, 4, (some .int), false, zo_X11_taken, zc_X11_taken, 11, 3) := ⟨by decide +kernel, ⟨by decide +kernel, by decide +kernel⟩, by decide +kernel, by decide +kernel⟩
theorem z_mf_110 : z_MF (yX11_count, cX11_count, 2, (some .int), false, zo_X11_count, zc_X11_count, 11, 2) := ⟨by decide +kernel, ⟨by decide +kernel, by decide +kernel⟩, by decide +kernel, by decide +kernel⟩
theorem z_mf_111 : z_MF (yX11_tape, cX11_tape, 4, (some .int), false, zo_X11_tape, zc_X11_tape, 11, 4) := ⟨by decide +kernel, ⟨by decide +kernel, by decide +kernel⟩, by decide +kernel, by decide +kernel⟩
theorem z_mf_112 : z_MF (yX11_item, cX11_item, 6, (some .int), false, zo_X11_item, zc_X11_item, 11, 4) := ⟨by decide +kernel, ⟨by decide +kernel, by decide +kernel⟩, by decide +kernel, by decide +kernel⟩
theorem z_mf_113 : z_MF (yX11_read, cX11_read, 4, (some .long), false, zo_X11_read, zc_X11_read, 11, 3) := ⟨by decide +kernel, ⟨by decide +kernel, by decide +kernel⟩, by decide +kernel, by decide +kernel⟩
theorem z_mf_114 : z_MF (yX11_shift, cX11_shift, 8, (some .int), false, zo_X11_shift, zc_X11_shift, 11, 6) := ⟨by decide +kernel, ⟨by decide +kernel, by decide +kernel⟩, by decide +kernel, by decide +kernel⟩
theorem z_mf_115 : z_MF (yX11_outside, cX11_outside, 2, (some .boolean), true, zo_X11_outside, zc_X11_outside, 0, 2) := ⟨by decide +kernel, ⟨by decide +kernel, by decide +kernel⟩, by decide +kernel, by decide +kernel⟩
theorem z_mf_116 : z_MF (yX11_noPair, cX11_noPair, 2, (some .boolean), true, zo_X11_noPair, zc_X11_noPair, 11, 2) := ⟨by decide +kernel, ⟨by decide +kernel, by decide +kernel⟩, by decide +kernel, by decide +kernel⟩
theorem z_mf_117 : z_MF (yX11_tryHours, cX11_tryHours, 2, none, false, zo_X11_tryHours, zc_X11_tryHours, 11, 2) := ⟨by decide +kernel, ⟨by decide +kernel, by decide +kernel⟩, by decide +kernel, by decide +kernel⟩
theorem z_mf_118 : z_MF (yX11_wetByLogs, cX11_wetByLogs, 4, (some .int), false, zo_X11_wetByLogs, zc_X11_wetByLogs, 11, 3) := ⟨by decide +kernel, ⟨by decide +kernel, by decide +kernel⟩, by decide +kernel, by decide +kernel⟩
theorem z_mf_119 : z_MF (yX11_courseIsAsSeen, cX11_courseIsAsSeen, 6, (some .boolean), true, zo_X11_courseIsAsSeen, zc_X11_courseIsAsSeen, 11, 1) := ⟨by decide +kernel, ⟨by decide +kernel, by decide +kernel⟩, by decide +kernel, by decide +kernel⟩
theorem z_mf_120 : z_MF (yX11_allIsAsSeenWith, cX11_allIsAsSeenWith, 8, (some .boolean), true, zo_X11_allIsAsSeenWith, zc_X11_allIsAsSeenWith, 11, 3) := ⟨by decide +kernel, ⟨by decide +kernel, by decide +kernel⟩, by decide +kernel, by decide +kernel⟩
theorem z_mf_121 : z_MF (yX11_partOfFraction, cX11_partOfFraction, 4, (some .long), false, zo_X11_partOfFraction, zc_X11_partOfFraction, 0, 3) := ⟨by decide +kernel, ⟨by decide +kernel, by decide +kernel⟩, by decide +kernel, by decide +kernel⟩
theorem z_mf_122 : z_MF (yX11_commonDivisor, cX11_commonDivisor, 6, (some .int), false, zo_X11_commonDivisor, zc_X11_commonDivisor, 0, 2) := ⟨by decide +kernel, ⟨by decide +kernel, by decide +kernel⟩, by decide +kernel, by decide +kernel⟩
theorem z_mf_123 : z_MF (yX12_init, cX12_init, 1, none, false, zo_X12_init, zc_X12_init, 12, 1) := ⟨by decide +kernel, ⟨by decide +kernel, by decide +kernel⟩, by decide +kernel, by decide +kernel⟩
theorem z_mf_124 : z_MF (yX12_in, cX12_in, 4, (some .boolean), true, zo_X12_in, zc_X12_in, 12, 4) := ⟨by decide +kernel, ⟨by decide +kernel, by decide +kernel⟩, by decide +kernel, by decide +kernel⟩
theorem z_mf_125 : z_MF (yX12_has, cX12_has, 3, (some .boolean), true, zo_X12_has, zc_X12_has, 12, 3) := ⟨by decide +kernel, ⟨by decide +kernel, by decide +kernel⟩, by decide +kernel, by decide +kernel⟩
theorem z_mf_126 : z_MF (yX12_least, cX12_least, 3, (some .int), false, zo_X12_least, zc_X12_least, 12, 3) := ⟨by decide +kernel, ⟨by decide +kernel, by decide +kernel⟩, by decide +kernel, by decide +kernel⟩
theorem z_mf_127 : z_MF (yX12_atLeast0, cX12_atLeast0, 2, (some .int), false, zo_X12_atLeast0, zc_X12_atLeast0, 12, 2) := ⟨by decide +kernel, ⟨by decide +kernel, by decide +kernel⟩, by decide +kernel, by decide +kernel⟩
theorem z_mf_128 : z_MF (yX12_bits, cX12_bits, 4, (some .int), false, zo_X12_bits, zc_X12_bits, 12, 2) := ⟨by decide +kernel, ⟨by decide +kernel, by decide +kernel⟩, by decide +kernel, by decide +kernel⟩
theorem z_mf_129 : z_MF (yX12_isPair, cX12_isPair, 2, (some .boolean), true, zo_X12_isPair, zc_X12_isPair, 12, 2) := ⟨by decide +kernel, ⟨by decide +kernel, by decide +kernel⟩, by decide +kernel, by decide +kernel⟩
theorem z_mf_130 : z_MF (yX12_isPlace, cX12_isPlace, 2, (some .boolean), true, zo_X12_isPlace, zc_X12_isPlace, 12, 2) := ⟨by decide +kernel, ⟨by decide +kernel, by decide +kernel⟩, by decide +kernel, by decide +kernel⟩
theorem z_mf_131 : z_MF (yX12_isWet, cX12_isWet, 2, (some .boolean), true, zo_X12_isWet, zc_X12_isWet, 12, 2) := ⟨by decide +kernel, ⟨by decide +kernel, by decide +kernel⟩, by decide +kernel, by decide +kernel⟩
theorem z_mf_132 : z_MF (yX12_isHours, cX12_isHours, 2, (some .boolean), true, zo_X12_isHours, zc_X12_isHours, 12, 2) := ⟨by decide +kernel, ⟨by decide +kernel, by decide +kernel⟩, by decide +kernel, by decide +kernel⟩
theorem z_mf_133 : z_MF (yX12_whoIs, cX12_whoIs, 3, (some .int), false, zo_X12_whoIs, zc_X12_whoIs, 12, 2) := ⟨by decide +kernel, ⟨by decide +kernel, by decide +kernel⟩, by decide +kernel, by decide +kernel⟩
theorem z_mf_134 : z_MF (yX12_pair, cX12_pair, 6, (some .int), false, zo_X12_pair, zc_X12_pair, 12, 4) := ⟨by decide +kernel, ⟨by decide +kernel, by decide +kernel⟩, by decide +kernel, by decide +kernel⟩
theorem z_mf_135 : z_MF (yX12_wet, cX12_wet, 4, (some .int), false, zo_X12_wet, zc_X12_wet, 12, 3) := ⟨by decide +kernel, ⟨by decide +kernel, by decide +kernel⟩, by decide +kernel, by decide +kernel⟩
theorem z_mf_136 : z_MF (yX12_comesTo, cX12_comesTo, 4, none, false, zo_X12_comesTo, zc_X12_comesTo, 12, 3) := ⟨by decide +kernel, ⟨by decide +kernel, by decide +kernel⟩, by decide +kernel, by decide +kernel⟩
theorem z_mf_137 : z_MF (yX12_put, cX12_put, 4, (some .int), false, zo_X12_put, zc_X12_put, 12, 3) := ⟨by decide +kernel, ⟨by decide +kernel, by decide +kernel⟩, by decide +kernel, by decide +kernel⟩
theorem z_mf_138 : z_MF (yX12_goes, cX12_goes, 3, none, false, zo_X12_goes, zc_X12_goes, 12, 3) := ⟨by decide +kernel, ⟨by decide +kernel, by decide +kernel⟩, by decide +kernel, by decide +kernel⟩
theorem z_mf_139 : z_MF (yX12_take, cX12_take, 4, (some .int), false, zo_X12_take, zc_X12_take, 12, 3) := ⟨by decide +kernel, ⟨by decide +kernel, by decide +kernel⟩, by decide +kernel, by decide +kernel⟩
theorem z_mf_140 : z_MF (yX12_set, cX12_set, 4, (some .int), false, zo_X12_set, zc_X12_set, 12, 3) := ⟨by decide +kernel, ⟨by decide +kernel, by decide +kernel⟩, by decide +kernel, by decide +kernel⟩
theorem z_mf_141 : z_MF (yX12_row, cX12_row, 5, (some .int), false, zo_X12_row, zc_X12_row, 12, 4) := ⟨by decide +kernel, ⟨by decide +kernel, by decide +kernel⟩, by decide +kernel, by decide +kernel⟩
theorem z_mf_142 : z_MF (yX12_feed, cX12_feed, 2, (some .int), false, zo_X12_feed, zc_X12_feed, 12, 2) := ⟨by decide +kernel, ⟨by decide +kernel, by decide +kernel⟩, by decide +kernel, by decide +kernel⟩
theorem z_mf_143 : z_MF (yX12_next, cX12_next, 1, (some .int), false, zo_X12_next, zc_X12_next, 12, 1) := ⟨by decide +kernel, ⟨by decide +kernel, by decide +kernel⟩, by decide +kernel, by decide +kernel⟩
theorem z_mf_144 : z_MF (yX12_second, cX12_second, 1, (some .int), false, zo_X12_second, zc_X12_second, 12, 1) := ⟨by decide +kernel, ⟨by decide +kernel, by decide +kernel⟩, by decide +kernel, by decide +kernel⟩
theorem z_mf_145 : z_MF (yX12_takes, cX12_takes, 2, (some .boolean), true, zo_X12_takes, zc_X12_takes, 12, 2) := ⟨by decide +kernel, ⟨by decide +kernel, by decide +kernel⟩, by decide +kernel, by decide +kernel⟩
theorem z_mf_146 : z_MF (yX12_takesWord, cX12_takesWord, 4, (some .boolean), true, zo_X12_takesWord, zc_X12_takesWord, 12, 3) := ⟨by decide +kernel, ⟨by decide +kernel, by decide +kernel⟩, by decide +kernel, by decide +kernel⟩
theorem z_mf_147 : z_MF (yX12_isDigit, cX12_isDigit, 1, (some .boolean), true, zo_X12_isDigit, zc_X12_isDigit, 12, 1) := ⟨by decide +kernel, ⟨by decide +kernel, by decide +kernel⟩, by decide +kernel, by decide +kernel⟩
theorem z_mf_148 : z_MF (yX12_takesNumber, cX12_takesNumber, 2, (some .boolean), true, zo_X12_takesNumber, zc_X12_takesNumber, 12, 1) := ⟨by decide +kernel, ⟨by decide +kernel, by decide +kernel⟩, by decide +kernel, by decide +kernel⟩
theorem z_mf_149 : z_MF (yX12_emits, cX12_emits, 2, none, false, zo_X12_emits, zc_X12_emits, 12, 2) := ⟨by decide +kernel, ⟨by decide +kernel, by decide +kernel⟩, by decide +kernel, by decide +kernel⟩
theorem z_mf_150 : z_MF (yX12_whole, cX12_whole, 1, none, false, zo_X12_whole, zc_X12_whole, 12, 1) := ⟨by decide +kernel, ⟨by decide +kernel, by decide +kernel⟩, by decide +kernel, by decide +kernel⟩
theorem z_mf_151 : z_MF (yX12_settle, cX12_settle, 2, none, false, zo_X12_settle, zc_X12_settle, 12, 2) := ⟨by decide +kernel, ⟨by decide +kernel, by decide +kernel⟩, by decide +kernel, by decide +kernel⟩
theorem z_mf_152 : z_MF (yX12_place, cX12_place, 2, (some .int), false, zo_X12_place, zc_X12_place, 12, 2) := ⟨by decide +kernel, ⟨by decide +kernel, by decide +kernel⟩, by decide +kernel, by decide +kernel⟩
theorem z_mf_153 : z_MF (yX12_takesTest, cX12_takesTest, 3, (some .boolean), true, zo_X12_takesTest, zc_X12_takesTest, 12, 1) := ⟨by decide +kernel, ⟨by decide +kernel, by decide +kernel⟩, by decide +kernel, by decide +kernel⟩
theorem z_mf_154 : z_MF (yX12_takesE, cX12_takesE, 4, (some .boolean), true, zo_X12_takesE, zc_X12_takesE, 12, 2) := ⟨by decide +kernel, ⟨by decide +kernel, by decide +kernel⟩, by decide +kernel, by decide +kernel⟩
theorem z_mf_155 : z_MF (yX12_takesHead, cX12_takesHead, 2, (some .boolean), true, zo_X12_takesHead, zc_X12_takesHead, 12, 2) := ⟨by decide +kernel, ⟨by decide +kernel, by decide +kernel⟩, by decide +kernel, by decide +kernel⟩
theorem z_mf_156 : z_MF (yX12_takesClause, cX12_takesClause, 2, (some .boolean), true, zo_X12_takesClause, zc_X12_takesClause, 12, 2) := ⟨by decide +kernel, ⟨by decide +kernel, by decide +kernel⟩, by decide +kernel, by decide +kernel⟩
theorem z_mf_157 : z_MF (yX12_goesText, cX12_goesText, 3, (some .boolean), true, zo_X12_goesText, zc_X12_goesText, 12, 2) := ⟨by decide +kernel, ⟨by decide +kernel, by decide +kernel⟩, by decide +kernel, by decide +kernel⟩
theorem z_mf_158 : z_MF (yX12_hut, cX12_hut, 2, (some .int), false, zo_X12_hut, zc_X12_hut, 12, 1) := ⟨by decide +kernel, ⟨by decide +kernel, by decide +kernel⟩, by decide +kernel, by decide +kernel⟩
theorem z_mf_159 : z_MF (yX12_begin, cX12_begin, 1, (some .int), false, zo_X12_begin, zc_X12_begin, 12, 1) := ⟨by decide +kernel, ⟨by decide +kernel, by decide +kernel⟩, by decide +kernel, by decide +kernel⟩
theorem z_mf_160 : z_MF (yX12_behind, cX12_behind, 1, (some .int), false, zo_X12_behind, zc_X12_behind, 12, 1) := ⟨by decide +kernel, ⟨by decide +kernel, by decide +kernel⟩, by decide +kernel, by decide +kernel⟩
theorem z_mf_161 : z_MF (yX12_lastOf, cX12_lastOf, 5, (some .int), false, zo_X12_lastOf, zc_X12_lastOf, 12, 3) := ⟨by decide +kernel, ⟨by decide +kernel, by decide +kernel⟩, by decide +kernel, by decide +kernel⟩
theorem z_mf_162 : z_MF (yX12_factOf, cX12_factOf, 4, (some .int), false, zo_X12_factOf, zc_X12_factOf, 12, 4) := ⟨by decide +kernel, ⟨by decide +kernel, by decide +kernel⟩, by decide +kernel, by decide +kernel⟩
theorem z_mf_163 : z_MF (yX12_holds, cX12_holds, 9, (some .boolean), true, zo_X12_holds, zc_X12_holds, 12, 4) := ⟨by decide +kernel, ⟨by decide +kernel, by decide +kernel⟩, by decide +kernel, by decide +kernel⟩
theorem z_mf_164 : z_MF (yX12_warm, cX12_warm, 2, (some .int), false, zo_X12_warm, zc_X12_warm, 12, 2) := ⟨by decide +kernel, ⟨by decide +kernel, by decide +kernel⟩, by decide +kernel, by decide +kernel⟩
theorem z_mf_165 : z_MF (yX12_sum, cX12_sum, 5, (some .int), false, zo_X12_sum, zc_X12_sum, 12, 3) := ⟨by decide +kernel, ⟨by decide +kernel, by decide +kernel⟩, by decide +kernel, by decide +kernel⟩
theorem z_mf_166 : z_MF (yX12_plainDries, cX12_plainDries, 6, (some .int), false, zo_X12_plainDries, zc_X12_plainDries, 12, 3) := ⟨by decide +kernel, ⟨by decide +kernel, by decide +kernel⟩, by decide +kernel, by decide +kernel⟩
theorem z_mf_167 : z_MF (yX12_dries, cX12_dries, 3, (some .int), false, zo_X12_dries, zc_X12_dries, 12, 3) := ⟨by decide +kernel, ⟨by decide +kernel, by decide +kernel⟩, by decide +kernel, by decide +kernel⟩
theorem z_mf_168 : z_MF (yX12_spoils, cX12_spoils, 2, (some .boolean), true, zo_X12_spoils, zc_X12_spoils, 12, 2) := ⟨by decide +kernel, ⟨by decide +kernel, by decide +kernel⟩, by decide +kernel, by decide +kernel⟩
theorem z_mf_169 : z_MF (yX12_of, cX12_of, 3, (some .int), false, zo_X12_of, zc_X12_of, 12, 3) := ⟨by decide +kernel, ⟨by decide +kernel, by decide +kernel⟩, by decide +kernel, by decide +kernel⟩
theorem z_mf_170 : z_MF (yX12_wetHere, cX12_wetHere, 3, (some .int), false, zo_X12_wetHere, zc_X12_wetHere, 12, 1) := ⟨by decide +kernel, ⟨by decide +kernel, by decide +kernel⟩, by decide +kernel, by decide +kernel⟩
theorem z_mf_171 : z_MF (yX12_wetAll, cX12_wetAll, 3, (some .int), false, zo_X12_wetAll, zc_X12_wetAll, 12, 1) := ⟨by decide +kernel, ⟨by decide +kernel, by decide +kernel⟩, by decide +kernel, by decide +kernel⟩
theorem z_mf_172 : z_MF (yX12_allCracks, cX12_allCracks, 3, (some .int), false, zo_X12_allCracks, zc_X12_allCracks, 12, 1) := ⟨by decide +kernel, ⟨by decide +kernel, by decide +kernel⟩, by decide +kernel, by decide +kernel⟩
theorem z_mf_173 : z_MF (yX12_drySet, cX12_drySet, 3, (some .int), false, zo_X12_drySet, zc_X12_drySet, 12, 1) := ⟨by decide +kernel, ⟨by decide +kernel, by decide +kernel⟩, by decide +kernel, by decide +kernel⟩
theorem z_mf_174 : z_MF (yX12_told, cX12_told, 2, (some .int), false, zo_X12_told, zc_X12_told, 12, 2) := ⟨by decide +kernel, ⟨by decide +kernel, by decide +kernel⟩, by decide +kernel, by decide +kernel⟩
theorem z_mf_175 : z_MF (yX12_goHour, cX12_goHour, 3, none, false, zo_X12_goHour, zc_X12_goHour, 12, 1) := ⟨by decide +kernel, ⟨by decide +kernel, by decide +kernel⟩, by decide +kernel, by decide +kernel⟩
theorem z_mf_176 : z_MF (yX12_goHours, cX12_goHours, 3, none, false, zo_X12_goHours, zc_X12_goHours, 12, 2) := ⟨by decide +kernel, ⟨by decide +kernel, by decide +kernel⟩, by decide +kernel, by decide +kernel⟩
theorem z_mf_177 : z_MF (yX12_stokes, cX12_stokes, 1, none, false, zo_X12_stokes, zc_X12_stokes, 12, 1) := ⟨by decide +kernel, ⟨by decide +kernel, by decide +kernel⟩, by decide +kernel, by decide +kernel⟩
theorem z_mf_178 : z_MF (yX12_stoke, cX12_stoke, 1, (some .int), false, zo_X12_stoke, zc_X12_stoke, 12, 1) := ⟨by decide +kernel, ⟨by decide +kernel, by decide +kernel⟩, by decide +kernel, by decide +kernel⟩
theorem z_mf_179 : z_MF (yX12_pass, cX12_pass, 2, (some .int), false, zo_X12_pass, zc_X12_pass, 12, 2) := ⟨by decide +kernel, ⟨by decide +kernel, by decide +kernel⟩, by decide +kernel, by decide +kernel⟩
theorem z_mf_180 : z_MF (yX12_save, cX12_save, 2, none, false, zo_X12_save, zc_X12_save, 12, 1) := ⟨by decide +kernel, ⟨by decide +kernel, by decide +kernel⟩, by decide +kernel, by decide +kernel⟩
theorem z_mf_181 : z_MF (yX12_putBack, cX12_putBack, 2, none, false, zo_X12_putBack, zc_X12_putBack, 12, 1) := ⟨by decide +kernel, ⟨by decide +kernel, by decide +kernel⟩, by decide +kernel, by decide +kernel⟩
theorem z_mf_182 : z_MF (yX12_on, cX12_on, 4, (some .int), false, zo_X12_on, zc_X12_on, 12, 3) := ⟨by decide +kernel, ⟨by decide +kernel, by decide +kernel⟩, by decide +kernel, by decide +kernel⟩
theorem z_mf_183 : z_MF (yX12_done, cX12_done, 3, (some .int), false, zo_X12_done, zc_X12_done, 12, 2) := ⟨by decide +kernel, ⟨by decide +kernel, by decide +kernel⟩, by decide +kernel, by decide +kernel⟩
theorem z_mf_184 : z_MF (yX12_night, cX12_night, 3, (some .int), false, zo_X12_night, zc_X12_night, 12, 2) := ⟨by decide +kernel, ⟨by decide +kernel, by decide +kernel⟩, by decide +kernel, by decide +kernel⟩
theorem z_mf_185 : z_MF (yX12_layWets, cX12_layWets, 4, none, false, zo_X12_layWets, zc_X12_layWets, 12, 2) := ⟨by decide +kernel, ⟨by decide +kernel, by decide +kernel⟩, by decide +kernel, by decide +kernel⟩
theorem z_mf_186 : z_MF (yX12_layPlaces, cX12_layPlaces, 5, (some .boolean), true, zo_X12_layPlaces, zc_X12_layPlaces, 12, 2) := ⟨by decide +kernel, ⟨by decide +kernel, by decide +kernel⟩, by decide +kernel, by decide +kernel⟩
theorem z_mf_187 : z_MF (yX12_layBest, cX12_layBest, 8, none, false, zo_X12_layBest, zc_X12_layBest, 12, 2) := ⟨by decide +kernel, ⟨by decide +kernel, by decide +kernel⟩, by decide +kernel, by decide +kernel⟩
theorem z_mf_188 : z_MF (yX12_placed, cX12_placed, 3, (some .int), false, zo_X12_placed, zc_X12_placed, 12, 3) := ⟨by decide +kernel, ⟨by decide +kernel, by decide +kernel⟩, by decide +kernel, by decide +kernel⟩
theorem z_mf_189 : z_MF (yX12_wetBy, cX12_wetBy, 6, (some .int), false, zo_X12_wetBy, zc_X12_wetBy, 12, 3) := ⟨by decide +kernel, ⟨by decide +kernel, by decide +kernel⟩, by decide +kernel, by decide +kernel⟩
theorem z_mf_190 : z_MF (yX12_change, cX12_change, 6, (some .int), false, zo_X12_change, zc_X12_change, 12, 1) := ⟨by decide +kernel, ⟨by decide +kernel, by decide +kernel⟩, by decide +kernel, by decide +kernel⟩
theorem z_mf_191 : z_MF (yX12_wetStoked, cX12_wetStoked, 4, (some .int), false, zo_X12_wetStoked, zc_X12_wetStoked, 12, 3) := ⟨by decide +kernel, ⟨by decide +kernel, by decide +kernel⟩, by decide +kernel, by decide +kernel⟩
theorem z_mf_192 : z_MF (yX12_logs, cX12_logs, 7, (some .int), false, zo_X12_logs, zc_X12_logs, 12, 3) := ⟨by decide +kernel, ⟨by decide +kernel, by decide +kernel⟩, by decide +kernel, by decide +kernel⟩
theorem z_mf_193 : z_MF (yX12_see, cX12_see, 4, (some .int), false, zo_X12_see, zc_X12_see, 12, 4) := ⟨by decide +kernel, ⟨by decide +kernel, by decide +kernel⟩, by decide +kernel, by decide +kernel⟩
theorem z_mf_194 : z_MF (yX12_isSeen, cX12_isSeen, 4, (some .boolean), true, zo_X12_isSeen, zc_X12_isSeen, 12, 2) := ⟨by decide +kernel, ⟨by decide +kernel, by decide +kernel⟩, by decide +kernel, by decide +kernel⟩
theorem z_mf_195 : z_MF (yX12_wets, cX12_wets, 7, (some .int), false, zo_X12_wets, zc_X12_wets, 12, 3) := ⟨by decide +kernel, ⟨by decide +kernel, by decide +kernel⟩, by decide +kernel, by decide +kernel⟩
theorem z_mf_196 : z_MF (yX12_can, cX12_can, 7, (some .int), false, zo_X12_can, zc_X12_can, 12, 3) := ⟨by decide +kernel, ⟨by decide +kernel, by decide +kernel⟩, by decide +kernel, by decide +kernel⟩
theorem z_mf_197 : z_MF (yX12_where, cX12_where, 5, (some .int), false, zo_X12_where, zc_X12_where, 12, 2) := ⟨by decide +kernel, ⟨by decide +kernel, by decide +kernel⟩, by decide +kernel, by decide +kernel⟩
theorem z_mf_198 : z_MF (yX12_divisor, cX12_divisor, 6, (some .int), false, zo_X12_divisor, zc_X12_divisor, 12, 3) := ⟨by decide +kernel, ⟨by decide +kernel, by decide +kernel⟩, by decide +kernel, by decide +kernel⟩
theorem z_mf_199 : z_MF (yX12_lowest, cX12_lowest, 5, (some .long), false, zo_X12_lowest, zc_X12_lowest, 12, 4) := ⟨by decide +kernel, ⟨by decide +kernel, by decide +kernel⟩, by decide +kernel, by decide +kernel⟩
theorem z_mf_200 : z_MF (yX12_odds, cX12_odds, 6, (some .long), false, zo_X12_odds, zc_X12_odds, 12, 4) := ⟨by decide +kernel, ⟨by decide +kernel, by decide +kernel⟩, by decide +kernel, by decide +kernel⟩
theorem z_mf_201 : z_MF (yX12_mean, cX12_mean, 4, (some .long), false, zo_X12_mean, zc_X12_mean, 12, 3) := ⟨by decide +kernel, ⟨by decide +kernel, by decide +kernel⟩, by decide +kernel, by decide +kernel⟩
theorem z_mf_202 : z_MF (yX12_rota, cX12_rota, 3, (some .int), false, zo_X12_rota, zc_X12_rota, 12, 3) := ⟨by decide +kernel, ⟨by decide +kernel, by decide +kernel⟩, by decide +kernel, by decide +kernel⟩
theorem z_mf_203 : z_MF (yX12_goRota, cX12_goRota, 3, none, false, zo_X12_goRota, zc_X12_goRota, 12, 3) := ⟨by decide +kernel, ⟨by decide +kernel, by decide +kernel⟩, by decide +kernel, by decide +kernel⟩
theorem z_mf_204 : z_MF (yX12_ends, cX12_ends, 3, (some .int), false, zo_X12_ends, zc_X12_ends, 12, 2) := ⟨by decide +kernel, ⟨by decide +kernel, by decide +kernel⟩, by decide +kernel, by decide +kernel⟩
theorem z_mf_205 : z_MF (yX12_book, cX12_book, 3, (some .int), false, zo_X12_book, zc_X12_book, 12, 3) := ⟨by decide +kernel, ⟨by decide +kernel, by decide +kernel⟩, by decide +kernel, by decide +kernel⟩
theorem z_mf_206 : z_MF (yX12_looked, cX12_looked, 2, (some .int), false, zo_X12_looked, zc_X12_looked, 12, 1) := ⟨by decide +kernel, ⟨by decide +kernel, by decide +kernel⟩, by decide +kernel, by decide +kernel⟩
theorem z_mf_207 : z_MF (yX12_judge, cX12_judge, 4, (some .int), false, zo_X12_judge, zc_X12_judge, 12, 3) := ⟨by decide +kernel, ⟨by decide +kernel, by decide +kernel⟩, by decide +kernel, by decide +kernel⟩
theorem z_mf_208 : z_MF (yX12_image, cX12_image, 2, (some .int), false, zo_X12_image, zc_X12_image, 12, 1) := ⟨by decide +kernel, ⟨by decide +kernel, by decide +kernel⟩, by decide +kernel, by decide +kernel⟩
theorem z_mf_209 : z_MF (yX12_undo, cX12_undo, 2, (some .int), false, zo_X12_undo, zc_X12_undo, 12, 1) := ⟨by decide +kernel, ⟨by decide +kernel, by decide +kernel⟩, by decide +kernel, by decide +kernel⟩
theorem z_mf_210 : z_MF (yX12_body, cX12_body, 2, none, false, zo_X12_body, zc_X12_body, 12, 2) := ⟨by decide +kernel, ⟨by decide +kernel, by decide +kernel⟩, by decide +kernel, by decide +kernel⟩
theorem z_mf_211 : z_MF (yX12_pairDrips, cX12_pairDrips, 3, (some .int), false, zo_X12_pairDrips, zc_X12_pairDrips, 12, 3) := ⟨by decide +kernel, ⟨by decide +kernel, by decide +kernel⟩, by decide +kernel, by decide +kernel⟩
theorem z_mf_212 : z_MF (yX12_dripsAct, cX12_dripsAct, 3, (some .int), false, zo_X12_dripsAct, zc_X12_dripsAct, 12, 3) := ⟨by decide +kernel, ⟨by decide +kernel, by decide +kernel⟩, by decide +kernel, by decide +kernel⟩
theorem z_mf_213 : z_MF (yX12_pairSteams, cX12_pairSteams, 3, (some .int), false, zo_X12_pairSteams, zc_X12_pairSteams, 12, 3) := ⟨by decide +kernel, ⟨by decide +kernel, by decide +kernel⟩, by decide +kernel, by decide +kernel⟩
theorem z_mf_214 : z_MF (yX12_leatherSteams, cX12_leatherSteams, 3, (some .int), false, zo_X12_leatherSteams, zc_X12_leatherSteams, 12, 3) := ⟨by decide +kernel, ⟨by decide +kernel, by decide +kernel⟩, by decide +kernel, by decide +kernel⟩
theorem z_mf_215 : z_MF (yX12_steamsAct, cX12_steamsAct, 4, (some .int), false, zo_X12_steamsAct, zc_X12_steamsAct, 12, 3) := ⟨by decide +kernel, ⟨by decide +kernel, by decide +kernel⟩, by decide +kernel, by decide +kernel⟩
theorem z_mf_216 : z_MF (yX12_pairTells, cX12_pairTells, 3, (some .int), false, zo_X12_pairTells, zc_X12_pairTells, 12, 3) := ⟨by decide +kernel, ⟨by decide +kernel, by decide +kernel⟩, by decide +kernel, by decide +kernel⟩
theorem z_mf_217 : z_MF (yX12_tellsAct, cX12_tellsAct, 4, (some .int), false, zo_X12_tellsAct, zc_X12_tellsAct, 12, 3) := ⟨by decide +kernel, ⟨by decide +kernel, by decide +kernel⟩, by decide +kernel, by decide +kernel⟩
theorem z_mf_218 : z_MF (yX12_act, cX12_act, 4, (some .int), false, zo_X12_act, zc_X12_act, 12, 4) := ⟨by decide +kernel, ⟨by decide +kernel, by decide +kernel⟩, by decide +kernel, by decide +kernel⟩
theorem z_mf_219 : z_MF (yX12_trace, cX12_trace, 2, (some .int), false, zo_X12_trace, zc_X12_trace, 12, 2) := ⟨by decide +kernel, ⟨by decide +kernel, by decide +kernel⟩, by decide +kernel, by decide +kernel⟩
theorem z_mf_220 : z_MF (yX12_taken, cX12_taken, 4, (some .int), false, zo_X12_taken, zc_X12_taken, 12, 3) := ⟨by decide +kernel, ⟨by decide +kernel, by decide +kernel⟩, by decide +kernel, by decide +kernel⟩
theorem z_mf_221 : z_MF (yX12_count, cX12_count, 2, (some .int), false, zo_X12_count, zc_X12_count, 12, 2) := ⟨by decide +kernel, ⟨by decide +kernel, by decide +kernel⟩, by decide +kernel, by decide +kernel⟩
theorem z_mf_222 : z_MF (yX12_isTape, cX12_isTape, 2, (some .boolean), true, zo_X12_isTape, zc_X12_isTape, 12, 2) := ⟨by decide +kernel, ⟨by decide +kernel, by decide +kernel⟩, by decide +kernel, by decide +kernel⟩
theorem z_mf_223 : z_MF (yX12_tape, cX12_tape, 5, (some .int), false, zo_X12_tape, zc_X12_tape, 12, 4) := ⟨by decide +kernel, ⟨by decide +kernel, by decide +kernel⟩, by decide +kernel, by decide +kernel⟩
theorem z_mf_224 : z_MF (yX12_narrow, cX12_narrow, 4, (some .long), false, zo_X12_narrow, zc_X12_narrow, 12, 3) := ⟨by decide +kernel, ⟨by decide +kernel, by decide +kernel⟩, by decide +kernel, by decide +kernel⟩
theorem z_mf_225 : z_MF (yX12_item, cX12_item, 5, (some .int), false, zo_X12_item, zc_X12_item, 12, 4) := ⟨by decide +kernel, ⟨by decide +kernel, by decide +kernel⟩, by decide +kernel, by decide +kernel⟩
theorem z_mf_226 : z_MF (yX12_read, cX12_read, 3, (some .long), false, zo_X12_read, zc_X12_read, 12, 3) := ⟨by decide +kernel, ⟨by decide +kernel, by decide +kernel⟩, by decide +kernel, by decide +kernel⟩
theorem z_mf_227 : z_MF (yX12_shift, cX12_shift, 7, (some .int), false, zo_X12_shift, zc_X12_shift, 12, 6) := ⟨by decide +kernel, ⟨by decide +kernel, by decide +kernel⟩, by decide +kernel, by decide +kernel⟩
theorem z_mf_228 : z_MF (yJ6_bitCount_0f7a4, cJ6_bitCount_0f7a4, 1, (some .int), false, zo_J6_bitCount_0f7a4, zc_J6_bitCount_0f7a4, 0, 1) := ⟨by decide +kernel, ⟨by decide +kernel, by decide +kernel⟩, by decide +kernel, by decide +kernel⟩
theorem z_mf_229 : z_MF (yJ7_fill_d0a16, cJ7_fill_d0a16, 5, none, false, zo_J7_fill_d0a16, zc_J7_fill_d0a16, 0, 2) := ⟨by decide +kernel, ⟨by decide +kernel, by decide +kernel⟩, by decide +kernel, by decide +kernel⟩
theorem z_mf_230 : z_MF (yJ7_fill_53178, cJ7_fill_53178, 4, none, false, zo_J7_fill_53178, zc_J7_fill_53178, 0, 2) := ⟨by decide +kernel, ⟨by decide +kernel, by decide +kernel⟩, by decide +kernel, by decide +kernel⟩
theorem zm_0_f : ∀ q ∈ zm_0, z_MF q := List.forall_mem_cons.mpr ⟨z_mf_0, List.forall_mem_cons.mpr ⟨z_mf_1, List.forall_mem_cons.mpr ⟨z_mf_2, List.forall_mem_cons.mpr ⟨z_mf_3, List.forall_mem_cons.mpr ⟨z_mf_4, List.forall_mem_cons.mpr ⟨z_mf_5, List.forall_mem_cons.mpr ⟨z_mf_6, List.forall_mem_cons.mpr ⟨z_mf_7, List.forall_mem_cons.mpr ⟨z_mf_8, List.forall_mem_cons.mpr ⟨z_mf_9, List.forall_mem_cons.mpr ⟨z_mf_10, List.forall_mem_cons.mpr ⟨z_mf_11, List.forall_mem_cons.mpr ⟨z_mf_12, List.forall_mem_cons.mpr ⟨z_mf_13, List.forall_mem_cons.mpr ⟨z_mf_14, List.forall_mem_cons.mpr ⟨z_mf_15, List.forall_mem_cons.mpr ⟨z_mf_16, List.forall_mem_cons.mpr ⟨z_mf_17, List.forall_mem_cons.mpr ⟨z_mf_18, List.forall_mem_cons.mpr ⟨z_mf_19, fun _ h => absurd h List.not_mem_nil⟩⟩⟩⟩⟩⟩⟩⟩⟩⟩⟩⟩⟩⟩⟩⟩⟩⟩⟩⟩
theorem zm_1_f : ∀ q ∈ zm_1, z_MF q := List.forall_mem_cons.mpr ⟨z_mf_20, List.forall_mem_cons.mpr ⟨z_mf_21, List.forall_mem_cons.mpr ⟨z_mf_22, List.forall_mem_cons.mpr ⟨z_mf_23, List.forall_mem_cons.mpr ⟨z_mf_24, List.forall_mem_cons.mpr ⟨z_mf_25, List.forall_mem_cons.mpr ⟨z_mf_26, List.forall_mem_cons.mpr ⟨z_mf_27, List.forall_mem_cons.mpr ⟨z_mf_28, List.forall_mem_cons.mpr ⟨z_mf_29, List.forall_mem_cons.mpr ⟨z_mf_30, List.forall_mem_cons.mpr ⟨z_mf_31, List.forall_mem_cons.mpr ⟨z_mf_32, List.forall_mem_cons.mpr ⟨z_mf_33, List.forall_mem_cons.mpr ⟨z_mf_34, List.forall_mem_cons.mpr ⟨z_mf_35, List.forall_mem_cons.mpr ⟨z_mf_36, List.forall_mem_cons.mpr ⟨z_mf_37, List.forall_mem_cons.mpr ⟨z_mf_38, List.forall_mem_cons.mpr ⟨z_mf_39, fun _ h => absurd h List.not_mem_nil⟩⟩⟩⟩⟩⟩⟩⟩⟩⟩⟩⟩⟩⟩⟩⟩⟩⟩⟩⟩
theorem zm_2_f : ∀ q ∈ zm_2, z_MF q := List.forall_mem_cons.mpr ⟨z_mf_40, List.forall_mem_cons.mpr ⟨z_mf_41, List.forall_mem_cons.mpr ⟨z_mf_42, List.forall_mem_cons.mpr ⟨z_mf_43, List.forall_mem_cons.mpr ⟨z_mf_44, List.forall_mem_cons.mpr ⟨z_mf_45, List.forall_mem_cons.mpr ⟨z_mf_46, List.forall_mem_cons.mpr ⟨z_mf_47, List.forall_mem_cons.mpr ⟨z_mf_48, List.forall_mem_cons.mpr ⟨z_mf_49, List.forall_mem_cons.mpr ⟨z_mf_50, List.forall_mem_cons.mpr ⟨z_mf_51, List.forall_mem_cons.mpr ⟨z_mf_52, List.forall_mem_cons.mpr ⟨z_mf_53, List.forall_mem_cons.mpr ⟨z_mf_54, List.forall_mem_cons.mpr ⟨z_mf_55, List.forall_mem_cons.mpr ⟨z_mf_56, List.forall_mem_cons.mpr ⟨z_mf_57, List.forall_mem_cons.mpr ⟨z_mf_58, List.forall_mem_cons.mpr ⟨z_mf_59, fun _ h => absurd h List.not_mem_nil⟩⟩⟩⟩⟩⟩⟩⟩⟩⟩⟩⟩⟩⟩⟩⟩⟩⟩⟩⟩
theorem zm_3_f : ∀ q ∈ zm_3, z_MF q := List.forall_mem_cons.mpr ⟨z_mf_60, List.forall_mem_cons.mpr ⟨z_mf_61, List.forall_mem_cons.mpr ⟨z_mf_62, List.forall_mem_cons.mpr ⟨z_mf_63, List.forall_mem_cons.mpr ⟨z_mf_64, List.forall_mem_cons.mpr ⟨z_mf_65, List.forall_mem_cons.mpr ⟨z_mf_66, List.forall_mem_cons.mpr ⟨z_mf_67, List.forall_mem_cons.mpr ⟨z_mf_68, List.forall_mem_cons.mpr ⟨z_mf_69, List.forall_mem_cons.mpr ⟨z_mf_70, List.forall_mem_cons.mpr ⟨z_mf_71, List.forall_mem_cons.mpr ⟨z_mf_72, List.forall_mem_cons.mpr ⟨z_mf_73, List.forall_mem_cons.mpr ⟨z_mf_74, List.forall_mem_cons.mpr ⟨z_mf_75, List.forall_mem_cons.mpr ⟨z_mf_76, List.forall_mem_cons.mpr ⟨z_mf_77, List.forall_mem_cons.mpr ⟨z_mf_78, List.forall_mem_cons.mpr ⟨z_mf_79, fun _ h => absurd h List.not_mem_nil⟩⟩⟩⟩⟩⟩⟩⟩⟩⟩⟩⟩⟩⟩⟩⟩⟩⟩⟩⟩
theorem zm_4_f : ∀ q ∈ zm_4, z_MF q := List.forall_mem_cons.mpr ⟨z_mf_80, List.forall_mem_cons.mpr ⟨z_mf_81, List.forall_mem_cons.mpr ⟨z_mf_82, List.forall_mem_cons.mpr ⟨z_mf_83, List.forall_mem_cons.mpr ⟨z_mf_84, List.forall_mem_cons.mpr ⟨z_mf_85, List.forall_mem_cons.mpr ⟨z_mf_86, List.forall_mem_cons.mpr ⟨z_mf_87, List.forall_mem_cons.mpr ⟨z_mf_88, List.forall_mem_cons.mpr ⟨z_mf_89, List.forall_mem_cons.mpr ⟨z_mf_90, List.forall_mem_cons.mpr ⟨z_mf_91, List.forall_mem_cons.mpr ⟨z_mf_92, List.forall_mem_cons.mpr ⟨z_mf_93, List.forall_mem_cons.mpr ⟨z_mf_94, List.forall_mem_cons.mpr ⟨z_mf_95, List.forall_mem_cons.mpr ⟨z_mf_96, List.forall_mem_cons.mpr ⟨z_mf_97, List.forall_mem_cons.mpr ⟨z_mf_98, List.forall_mem_cons.mpr ⟨z_mf_99, fun _ h => absurd h List.not_mem_nil⟩⟩⟩⟩⟩⟩⟩⟩⟩⟩⟩⟩⟩⟩⟩⟩⟩⟩⟩⟩
theorem zm_5_f : ∀ q ∈ zm_5, z_MF q := List.forall_mem_cons.mpr ⟨z_mf_100, List.forall_mem_cons.mpr ⟨z_mf_101, List.forall_mem_cons.mpr ⟨z_mf_102, List.forall_mem_cons.mpr ⟨z_mf_103, List.forall_mem_cons.mpr ⟨z_mf_104, List.forall_mem_cons.mpr ⟨z_mf_105, List.forall_mem_cons.mpr ⟨z_mf_106, List.forall_mem_cons.mpr ⟨z_mf_107, List.forall_mem_cons.mpr ⟨z_mf_108, List.forall_mem_cons.mpr ⟨z_mf_109, List.forall_mem_cons.mpr ⟨z_mf_110, List.forall_mem_cons.mpr ⟨z_mf_111, List.forall_mem_cons.mpr ⟨z_mf_112, List.forall_mem_cons.mpr ⟨z_mf_113, List.forall_mem_cons.mpr ⟨z_mf_114, List.forall_mem_cons.mpr ⟨z_mf_115, List.forall_mem_cons.mpr ⟨z_mf_116, List.forall_mem_cons.mpr ⟨z_mf_117, List.forall_mem_cons.mpr ⟨z_mf_118, List.forall_mem_cons.mpr ⟨z_mf_119, fun _ h => absurd h List.not_mem_nil⟩⟩⟩⟩⟩⟩⟩⟩⟩⟩⟩⟩⟩⟩⟩⟩⟩⟩⟩⟩
theorem zm_6_f : ∀ q ∈ zm_6, z_MF q := List.forall_mem_cons.mpr ⟨z_mf_120, List.forall_mem_cons.mpr ⟨z_mf_121, List.forall_mem_cons.mpr ⟨z_mf_122, List.forall_mem_cons.mpr ⟨z_mf_123, List.forall_mem_cons.mpr ⟨z_mf_124, List.forall_mem_cons.mpr ⟨z_mf_125, List.forall_mem_cons.mpr ⟨z_mf_126, List.forall_mem_cons.mpr ⟨z_mf_127, List.forall_mem_cons.mpr ⟨z_mf_128, List.forall_mem_cons.mpr ⟨z_mf_129, List.forall_mem_cons.mpr ⟨z_mf_130, List.forall_mem_cons.mpr ⟨z_mf_131, List.forall_mem_cons.mpr ⟨z_mf_132, List.forall_mem_cons.mpr ⟨z_mf_133, List.forall_mem_cons.mpr ⟨z_mf_134, List.forall_mem_cons.mpr ⟨z_mf_135, List.forall_mem_cons.mpr ⟨z_mf_136, List.forall_mem_cons.mpr ⟨z_mf_137, List.forall_mem_cons.mpr ⟨z_mf_138, List.forall_mem_cons.mpr ⟨z_mf_139, fun _ h => absurd h List.not_mem_nil⟩⟩⟩⟩⟩⟩⟩⟩⟩⟩⟩⟩⟩⟩⟩⟩⟩⟩⟩⟩
theorem zm_7_f : ∀ q ∈ zm_7, z_MF q := List.forall_mem_cons.mpr ⟨z_mf_140, List.forall_mem_cons.mpr ⟨z_mf_141, List.forall_mem_cons.mpr ⟨z_mf_142, List.forall_mem_cons.mpr ⟨z_mf_143, List.forall_mem_cons.mpr ⟨z_mf_144, List.forall_mem_cons.mpr ⟨z_mf_145, List.forall_mem_cons.mpr ⟨z_mf_146, List.forall_mem_cons.mpr ⟨z_mf_147, List.forall_mem_cons.mpr ⟨z_mf_148, List.forall_mem_cons.mpr ⟨z_mf_149, List.forall_mem_cons.mpr ⟨z_mf_150, List.forall_mem_cons.mpr ⟨z_mf_151, List.forall_mem_cons.mpr ⟨z_mf_152, List.forall_mem_cons.mpr ⟨z_mf_153, List.forall_mem_cons.mpr ⟨z_mf_154, List.forall_mem_cons.mpr ⟨z_mf_155, List.forall_mem_cons.mpr ⟨z_mf_156, List.forall_mem_cons.mpr ⟨z_mf_157, List.forall_mem_cons.mpr ⟨z_mf_158, List.forall_mem_cons.mpr ⟨z_mf_159, fun _ h => absurd h List.not_mem_nil⟩⟩⟩⟩⟩⟩⟩⟩⟩⟩⟩⟩⟩⟩⟩⟩⟩⟩⟩⟩
theorem zm_8_f : ∀ q ∈ zm_8, z_MF q := List.forall_mem_cons.mpr ⟨z_mf_160, List.forall_mem_cons.mpr ⟨z_mf_161, List.forall_mem_cons.mpr ⟨z_mf_162, List.forall_mem_cons.mpr ⟨z_mf_163, List.forall_mem_cons.mpr ⟨z_mf_164, List.forall_mem_cons.mpr ⟨z_mf_165, List.forall_mem_cons.mpr ⟨z_mf_166, List.forall_mem_cons.mpr ⟨z_mf_167, List.forall_mem_cons.mpr ⟨z_mf_168, List.forall_mem_cons.mpr ⟨z_mf_169, List.forall_mem_cons.mpr ⟨z_mf_170, List.forall_mem_cons.mpr ⟨z_mf_171, List.forall_mem_cons.mpr ⟨z_mf_172, List.forall_mem_cons.mpr ⟨z_mf_173, List.forall_mem_cons.mpr ⟨z_mf_174, List.forall_mem_cons.mpr ⟨z_mf_175, List.forall_mem_cons.mpr ⟨z_mf_176, List.forall_mem_cons.mpr ⟨z_mf_177, List.forall_mem_cons.mpr ⟨z_mf_178, List.forall_mem_cons.mpr ⟨z_mf_179, fun _ h => absurd h List.not_mem_nil⟩⟩⟩⟩⟩⟩⟩⟩⟩⟩⟩⟩⟩⟩⟩⟩⟩⟩⟩⟩
theorem zm_9_f : ∀ q ∈ zm_9, z_MF q := List.forall_mem_cons.mpr ⟨z_mf_180, List.forall_mem_cons.mpr ⟨z_mf_181, List.forall_mem_cons.mpr ⟨z_mf_182, List.forall_mem_cons.mpr ⟨z_mf_183, List.forall_mem_cons.mpr ⟨z_mf_184, List.forall_mem_cons.mpr ⟨z_mf_185, List.forall_mem_cons.mpr ⟨z_mf_186, List.forall_mem_cons.mpr ⟨z_mf_187, List.forall_mem_cons.mpr ⟨z_mf_188, List.forall_mem_cons.mpr ⟨z_mf_189, List.forall_mem_cons.mpr ⟨z_mf_190, List.forall_mem_cons.mpr ⟨z_mf_191, List.forall_mem_cons.mpr ⟨z_mf_192, List.forall_mem_cons.mpr ⟨z_mf_193, List.forall_mem_cons.mpr ⟨z_mf_194, List.forall_mem_cons.mpr ⟨z_mf_195, List.forall_mem_cons.mpr ⟨z_mf_196, List.forall_mem_cons.mpr ⟨z_mf_197, List.forall_mem_cons.mpr ⟨z_mf_198, List.forall_mem_cons.mpr ⟨z_mf_199, fun _ h => absurd h List.not_mem_nil⟩⟩⟩⟩⟩⟩⟩⟩⟩⟩⟩⟩⟩⟩⟩⟩⟩⟩⟩⟩
theorem zm_10_f : ∀ q ∈ zm_10, z_MF q := List.forall_mem_cons.mpr ⟨z_mf_200, List.forall_mem_cons.mpr ⟨z_mf_201, List.forall_mem_cons.mpr ⟨z_mf_202, List.forall_mem_cons.mpr ⟨z_mf_203, List.forall_mem_cons.mpr ⟨z_mf_204, List.forall_mem_cons.mpr ⟨z_mf_205, List.forall_mem_cons.mpr ⟨z_mf_206, List.forall_mem_cons.mpr ⟨z_mf_207, List.forall_mem_cons.mpr ⟨z_mf_208, List.forall_mem_cons.mpr ⟨z_mf_209, List.forall_mem_cons.mpr ⟨z_mf_210, List.forall_mem_cons.mpr ⟨z_mf_211, List.forall_mem_cons.mpr ⟨z_mf_212, List.forall_mem_cons.mpr ⟨z_mf_213, List.forall_mem_cons.mpr ⟨z_mf_214, List.forall_mem_cons.mpr ⟨z_mf_215, List.forall_mem_cons.mpr ⟨z_mf_216, List.forall_mem_cons.mpr ⟨z_mf_217, List.forall_mem_cons.mpr ⟨z_mf_218, List.forall_mem_cons.mpr ⟨z_mf_219, fun _ h => absurd h List.not_mem_nil⟩⟩⟩⟩⟩⟩⟩⟩⟩⟩⟩⟩⟩⟩⟩⟩⟩⟩⟩⟩
theorem zm_11_f : ∀ q ∈ zm_11, z_MF q := List.forall_mem_cons.mpr ⟨z_mf_220, List.forall_mem_cons.mpr ⟨z_mf_221, List.forall_mem_cons.mpr ⟨z_mf_222, List.forall_mem_cons.mpr ⟨z_mf_223, List.forall_mem_cons.mpr ⟨z_mf_224, List.forall_mem_cons.mpr ⟨z_mf_225, List.forall_mem_cons.mpr ⟨z_mf_226, List.forall_mem_cons.mpr ⟨z_mf_227, List.forall_mem_cons.mpr ⟨z_mf_228, List.forall_mem_cons.mpr ⟨z_mf_229, List.forall_mem_cons.mpr ⟨z_mf_230, fun _ h => absurd h List.not_mem_nil⟩⟩⟩⟩⟩⟩⟩⟩⟩⟩⟩
theorem z_mt_f : ∀ q ∈ z_mt, z_MF q := List.forall_mem_append.mpr ⟨zm_0_f, List.forall_mem_append.mpr ⟨zm_1_f, List.forall_mem_append.mpr ⟨zm_2_f, List.forall_mem_append.mpr ⟨zm_3_f, List.forall_mem_append.mpr ⟨zm_4_f, List.forall_mem_append.mpr ⟨zm_5_f, List.forall_mem_append.mpr ⟨zm_6_f, List.forall_mem_append.mpr ⟨zm_7_f, List.forall_mem_append.mpr ⟨zm_8_f, List.forall_mem_append.mpr ⟨zm_9_f, List.forall_mem_append.mpr ⟨zm_10_f, zm_11_f⟩⟩⟩⟩⟩⟩⟩⟩⟩⟩⟩
end
section
/-! ===== the abstract machine's states over the real heap ===== -/
def z_WT : List Cond := lw_tbl.filter goodWord
theorem z_wt {w : Cond} (h : w ∈ lw_tbl ∧ goodWord w = true) : w ∈ z_WT := List.mem_filter.mpr h
theorem z_wt_good : GoodIn z_WT z_WT := fun w hw => ⟨hw, good_of_word (List.mem_filter.mp hw).2⟩
/-- places of names are one to one -/
def z_ix (r : Nat × Nat) : Nat := z_ord.findIdx (fun q => Nat.beq q.1 r.1 && Nat.beq q.2 r.2)
theorem z_ord_ix : (List.range z_ord.length).all (fun k => Nat.beq (z_ix (z_ord.getD k (0, 0))) k) = true := by decide +kernel
theorem z_ord_ok : z_ord.all (fun r => Nat.blt 0 r.1 && (Nat.blt r.1 85 && (Nat.blt r.1 13 || Nat.blt 19 r.1))) = true := by decide +kernel
theorem z_ord_len : z_ord.length = 176 := by decide +kernel
theorem z_ix_of {k : Nat} {r : Nat × Nat} (h : z_ord[k]? = some r) : z_ix r = k := by
  obtain ⟨hk, e⟩ := List.getElem?_eq_some_iff.mp h
  have h1 := List.all_eq_true.mp z_ord_ix k (List.mem_range.mpr hk)
  have e2 : z_ord.getD k (0, 0) = r := by rw [List.getD_eq_getElem?_getD, h]; rfl
  rw [e2] at h1
  exact Nat.eq_of_beq_eq_true h1
theorem z_one {k k' : Nat} {r : Nat × Nat} (h : z_ord[k]? = some r) (h' : z_ord[k']? = some r) : k = k' := (z_ix_of h).symm.trans (z_ix_of h')
theorem z_ord_at {k : Nat} {r : Nat × Nat} (h : z_ord[k]? = some r) : 0 < r.1 ∧ r.1 < 85 ∧ (r.1 < 13 ∨ 19 < r.1) := by
  have h1 := List.all_eq_true.mp z_ord_ok r (List.mem_of_getElem? h)
  simp only [Bool.and_eq_true, Bool.or_eq_true, Nat.blt_eq] at h1
  exact ⟨h1.1, h1.2.1, h1.2.2⟩
def z_okR (n : Nat) (r : Nat × Nat) : Prop := r.1 = 0 ∨ r = (90, 0) ∨ ∃ k, k < n ∧ z_ord[k]? = some r
def z_okV (n : Nat) (v : z_AV) : Prop := match v with
  | .inr (.inr r) => z_okR n r
  | _ => True
def z_vok (n : Nat) (la : z_Lc) (sa : List z_AV) : Prop := (∀ v ∈ sa, z_okV n v) ∧ ∀ v, some v ∈ la → z_okV n v
theorem z_okR.mono {n n' : Nat} {r : Nat × Nat} (h : z_okR n r) (hn : n ≤ n') : z_okR n' r := by
  rcases h with h | h | ⟨k, h1, h2⟩
  · exact Or.inl h
  · exact Or.inr (Or.inl h)
  · exact Or.inr (Or.inr ⟨k, Nat.lt_of_lt_of_le h1 hn, h2⟩)
theorem z_okV.mono {n n' : Nat} {v : z_AV} (h : z_okV n v) (hn : n ≤ n') : z_okV n' v := by
  rcases v with x | x | r
  · exact trivial
  · exact trivial
  · exact z_okR.mono h hn
theorem z_vok.mono {n n' : Nat} {la : z_Lc} {sa : List z_AV} (h : z_vok n la sa) (hn : n ≤ n') : z_vok n' la sa := ⟨fun v hv => (h.1 v hv).mono hn, fun v hv => (h.2 v hv).mono hn⟩
theorem z_okR.at {n : Nat} {r : Nat × Nat} (h : z_okR n r) (h0 : 0 < r.1) (h9 : r.1 < 90) : ∃ k, k < n ∧ z_ord[k]? = some r := by
  rcases h with h | h | h
  · omega
  · rw [h] at h9; exact absurd h9 (by decide)
  · exact h
def z_mok (md : Bool) (S : z_Mem) : Prop := ∀ (k : Nat) (r : Nat × Nat), k < S.2.2.2 → z_ord[k]? = some r →
  (∀ j, (z_shK r.1 j = 2 ∨ z_shK r.1 j = 3) → z_okR S.2.2.2 (z_rv md S r.1 r.2 j)) ∧ (z_aK r.1 = 5 → ∀ j, j < z_aN r.1 r.2 → z_okR S.2.2.2 (z_re md S r.1 r.2 j))
def z_cR (α : Nat × Nat → Nat) (r : Nat × Nat) : Value := if r.1 = 0 then .null else .ref (α r)
def z_op (α : Nat × Nat → Nat) (r : Nat × Nat) : Option Nat := if r.1 = 0 then none else some (α r)
def z_cV (α : Nat × Nat → Nat) (v : z_AV) : Value := match v with
  | .inl x => .int x
  | .inr (.inl x) => .long x
  | .inr (.inr r) => z_cR α r
def z_fv (α : Nat × Nat → Nat) (md : Bool) (S : z_Mem) (t i k : Nat) : Value := match z_shK t k with
  | 0 => .int (S.1 t i k)
  | 1 => .int (S.1 t i k)
  | _ => z_cR α (z_rv md S t i k)
def z_bd (α : Nat × Nat → Nat) (cA : Nat × Nat → ClassId) (md : Bool) (S : z_Mem) (r : Nat × Nat) : va_E := match z_aK r.1 with
  | 0 => .inr (r.1 - 1, (List.range (z_nF r.1)).map (z_fv α md S r.1 r.2))
  | 4 => .inl (cA r, z_aN r.1 r.2, .inr (.inl (S.2.1 r.1 r.2)))
  | 5 => .inl (cA r, z_aN r.1 r.2, .inr (.inr (.inr (.inr (fun j => if j < z_aN r.1 r.2 then z_op α (z_re md S r.1 r.2 j) else none)))))
  | _ => .inl (cA r, z_aN r.1 r.2, .inl (S.1 r.1 r.2))
def z_cell (α : Nat × Nat → Nat) (cA : Nat × Nat → ClassId) (md : Bool) (S : z_Mem) (r : Nat × Nat) : Nat × va_E := (α r, z_bd α cA md S r)
def z_ws (α : Nat × Nat → Nat) (cA : Nat × Nat → ClassId) (md : Bool) (S : z_Mem) : va_W := (z_ord.take S.2.2.2).map (z_cell α cA md S)
theorem z_ws_get {α : Nat × Nat → Nat} {cA : Nat × Nat → ClassId} {md : Bool} {S : z_Mem} {k : Nat} {r : Nat × Nat} (hk : k < S.2.2.2) (h : z_ord[k]? = some r) : (z_ws α cA md S)[k]? = some (α r, z_bd α cA md S r) := by
  unfold z_ws
  rw [List.getElem?_map, List.getElem?_take_of_lt hk, h]
  rfl
theorem z_ws_set {α : Nat × Nat → Nat} {cA : Nat × Nat → ClassId} {md : Bool} {S S' : z_Mem} {k : Nat} {r : Nat × Nat} (hn : S'.2.2.2 = S.2.2.2) (hk : k < S.2.2.2) (h : z_ord[k]? = some r)
    (ho : ∀ r', r' ≠ r → z_bd α cA md S' r' = z_bd α cA md S r') {b : va_E} (hb : z_bd α cA md S' r = b) : (z_ws α cA md S).set k (α r, b) = z_ws α cA md S' := by
  apply List.ext_getElem?
  intro j
  rw [List.getElem?_set]
  unfold z_ws
  rw [hn, List.length_map, List.length_take, List.getElem?_map, List.getElem?_map, List.getElem?_take]
  by_cases hj : k = j
  · subst hj
    have hl : k < z_ord.length := (List.getElem?_eq_some_iff.mp h).1
    rw [if_pos rfl, if_pos (by omega), if_pos hk, h]
    show _ = some (z_cell α cA md S' r)
    unfold z_cell
    rw [hb]
  · rw [if_neg hj]
    by_cases hj2 : j < S.2.2.2
    · rw [if_pos hj2]
      cases hz : z_ord[j]? with
      | none => rfl
      | some r' =>
        show some (z_cell α cA md S r') = some (z_cell α cA md S' r')
        unfold z_cell
        rw [ho r' (fun e => hj (by subst e; exact z_one h hz))]
    · rw [if_neg hj2]
      rfl
theorem z_ws_len {α : Nat × Nat → Nat} {cA : Nat × Nat → ClassId} {md : Bool} {S : z_Mem} (h : S.2.2.2 ≤ 176) : (z_ws α cA md S).length = S.2.2.2 := by
  unfold z_ws
  rw [List.length_map, List.length_take, z_ord_len]
  omega
/-- the world only depends on where its own names lie -/
theorem z_ws_cong {α α' : Nat × Nat → Nat} {cA cA' : Nat × Nat → ClassId} {md : Bool} {S S' : z_Mem} (hn : S'.2.2.2 = S.2.2.2)
    (h : ∀ (k : Nat) (r : Nat × Nat), k < S.2.2.2 → z_ord[k]? = some r → z_cell α' cA' md S' r = z_cell α cA md S r) : z_ws α' cA' md S' = z_ws α cA md S := by
  apply List.ext_getElem?
  intro j
  unfold z_ws
  rw [hn, List.getElem?_map, List.getElem?_map, List.getElem?_take]
  by_cases hj : j < S.2.2.2
  · rw [if_pos hj]
    cases hz : z_ord[j]? with
    | none => rfl
    | some r' => show some _ = some _; rw [h j r' hj hz]
  · rw [if_neg hj]
    rfl
theorem z_rng_set {β : Type} {N b : Nat} {f g : Nat → β} (hb : b < N) (h : ∀ k, k ≠ b → g k = f k) : ((List.range N).map f).set b (g b) = (List.range N).map g := by
  apply List.ext_getElem?
  intro j
  rw [List.getElem?_set, List.length_map, List.length_range, List.getElem?_map, List.getElem?_map]
  by_cases hj : b = j
  · subst hj
    rw [if_pos rfl, if_pos hb, List.getElem?_range hb]
    rfl
  · rw [if_neg hj]
    by_cases hj2 : j < N
    · rw [List.getElem?_range hj2]
      show some (f j) = some (g j)
      rw [h j (fun e => hj e.symm)]
    · rw [List.getElem?_eq_none (by simp; omega)]
      rfl
theorem z_kd {t j : Nat} (h : j < z_nF t) : z_shK t j = 0 ∨ z_shK t j = 1 ∨ z_shK t j = 2 ∨ z_shK t j = 3 := by
  have hall := List.all_eq_true.mp (show (z_kT.all (fun r => r.all (fun x => Nat.ble x 3))) = true by decide +kernel)
  have h3 : z_shK t j ≤ 3 := by
    unfold z_shK
    unfold z_nF at h
    rw [List.getD_eq_getElem?_getD] at h ⊢
    rw [List.getD_eq_getElem?_getD]
    cases hz : z_kT[t]? with
    | none => rw [hz] at h; simp at h
    | some row =>
      rw [hz] at h
      have h5 := List.all_eq_true.mp (hall row (List.mem_of_getElem? hz))
      have h : j < row.length := h
      show (row[j]?).getD 9 ≤ 3
      rw [List.getElem?_eq_getElem h]
      exact Nat.le_of_ble_eq_true (h5 _ (List.getElem_mem h))
  omega
def z_ty (t : Nat) : FieldType := match z_aK t with
  | 1 => .int
  | 2 => .boolean
  | 3 => .byte
  | 4 => .long
  | _ => .object (z_cn (z_eT t))
def z_tok (cA : Nat × Nat → ClassId) (n : Nat) (tys : List (ClassId × FieldType)) : Prop := ∀ (k : Nat) (r : Nat × Nat), k < n → z_ord[k]? = some r → z_aK r.1 ≠ 0 → ∃ t0 : Nat, tys[t0]? = some (cA r, z_ty r.1)
def z_size (r : Nat × Nat) : Nat := cond (Nat.beq (z_aK r.1) 0) (z_nF r.1) (z_aN r.1 r.2)
def z_sz (n : Nat) : Nat := ((z_ord.take n).map z_size).sum
theorem z_sz_succ {n : Nat} {r : Nat × Nat} (h : z_ord[n]? = some r) : z_sz (n + 1) = z_sz n + z_size r := by
  unfold z_sz
  rw [List.take_succ, h]
  simp
theorem z_sz_le {n n' : Nat} (h : n ≤ n') : z_sz n ≤ z_sz n' := by
  induction h with
  | refl => exact Nat.le_refl _
  | @step m _ ih =>
    refine Nat.le_trans ih ?_
    cases hz : z_ord[m]? with
    | none =>
      unfold z_sz
      rw [List.take_succ, hz]
      simp
    | some r => rw [z_sz_succ hz]; exact Nat.le_add_right _ _
def z_NW (U : State) : Prop := (∀ q ∈ z_nst, va_Nw (.methodLinkNest (z_on q.1) q.2.1 (z_yn q.2.2.1) (z_on q.1)) U) ∧ ∀ q ∈ z_al, va_AO (z_cn q) U
theorem z_NW.warm {s U : State} (hW : s.WarmedH U.vm) (h : z_NW s) : z_NW U := ⟨fun q hq => va_Nw.warmM hW (h.1 q hq), fun q hq => va_AO.moved hW.alike (h.2 q hq)⟩
def z_scr (s : State) (A : Nat → Prop) (sc : z_Sc) (b : Nat) : Prop := match sc with
  | none => True
  | some q => va_X b q.1 q.2 s s.heap ∧ b < s.heap.size ∧ ¬ A b
def z_Rel (s : State) (D : va_G) (A : Nat → Prop) (md : Bool) (sc : z_Sc) (α0 : Nat × Nat → Nat) (n0 : Nat) (α : Nat × Nat → Nat) (cA : Nat × Nat → ClassId) (S : z_Mem) (H : Heap) (locs : List Loc) : Prop :=
  (n0 ≤ S.2.2.2 ∧ S.2.2.2 ≤ 176) ∧ (∀ r, z_okR n0 r → α r = α0 r) ∧ z_mok md S ∧ (∃ tys, va_K D vwCl tys s ∧ z_tok cA S.2.2.2 tys) ∧ va_P D vwCl (z_ws α cA md S) H ∧ va_D A (z_ws α cA md S) ∧ va_S A s.heap H locs ∧ (∀ q : Nat, s.heap.size ≤ q → A q) ∧ z_scr s A sc (α (90, 0))
def z_LV (α : Nat × Nat → Nat) (la : z_Lc) (ls : Array Slot) (nL : Nat) : Prop := la.length = nL ∧ ls.size = nL ∧ lv_wf ls ∧ ∀ (i : Nat) (v : z_AV), la[i]? = some (some v) → ls[i]? = some (.val (z_cV α v))
/-- from here the real machine does what it should, wherever the abstract state lies in it -/
def z_GW (w : Heap → List Loc → Nat → Nat → JFrame → Prop) (m : MethodId) (s : State) (D : va_G) (A : Nat → Prop) (md : Bool) (sc : z_Sc) (α0 : Nat × Nat → Nat) (n0 n1 nL : Nat) (pc : Nat) (la : z_Lc) (sa : List z_AV) (S : z_Mem) : Prop :=
  S.2.2.2 ≤ n1 ∧ ∀ (α : Nat × Nat → Nat) (cA : Nat × Nat → ClassId) (ls : Array Slot) (H : Heap) (locs : List Loc), z_Rel s D A md sc α0 n0 α cA S H locs → z_LV α la ls nL → z_vok S.2.2.2 la sa →
    w H locs (S.2.2.2 - n0) (z_sz S.2.2.2 - z_sz n0) (F0 m pc ls (sa.map (z_cV α)))
end
section
/-! ===== an instruction of the abstract machine is an instruction of the real one ===== -/
def z_nak (a : Nat) (k : ArrayType) : Bool := match a, k with
  | 1, .int => true
  | 2, .boolean => true
  | 3, .byte => true
  | 4, .long => true
  | _, _ => false
/-- what an instruction's row must say: own class o, nL locals, a constructor or not -/
def z_ck (o nL : Nat) (ini : Bool) (ins : Instr) (len a b c : Nat) (x : Int32) (sw : List (Int32 × Nat)) (pc : Nat) : Bool :=
  match ins with
  | .iconst n => Nat.beq len 1 && decide (Int32.ofInt n = x)
  | .bipush n => Nat.beq len 2 && decide ((Int8.ofInt n).toInt32 = x)
  | .sipush n => Nat.beq len 3 && decide ((Int16.ofInt n).toInt32 = x)
  | .ldc_w i => Nat.beq len 3 && decide ((o, i, x) ∈ z_ki)
  | .lconst _ => Nat.beq len 1
  | .ldc2_w i => Nat.beq len 3 && decide ((o, i, a) ∈ z_kl)
  | .iload n => Nat.beq len 2 && Nat.beq n a
  | .iload_n n => Nat.beq len 1 && Nat.beq (n : Nat) a
  | .lload n => Nat.beq len 2 && Nat.beq n a
  | .lload_n n => Nat.beq len 1 && Nat.beq (n : Nat) a
  | .aload n => Nat.beq len 2 && Nat.beq n a
  | .aload_n n => Nat.beq len 1 && Nat.beq (n : Nat) a
  | .istore n => Nat.beq len 2 && (Nat.beq n a && Nat.blt a nL)
  | .istore_n n => Nat.beq len 1 && (Nat.beq (n : Nat) a && Nat.blt a nL)
  | .lstore n => Nat.beq len 2 && (Nat.beq n a && Nat.blt (a + 1) nL)
  | .astore n => Nat.beq len 2 && (Nat.beq n a && Nat.blt a nL)
  | .astore_n n => Nat.beq len 1 && (Nat.beq (n : Nat) a && Nat.blt a nL)
  | .iinc n k => Nat.beq len 3 && (Nat.beq n a && (Nat.blt a nL && decide (Int32.ofInt k = x)))
  | .goto off => Nat.beq len 3 && decide ((pc : Int) + off = (a : Int))
  | .ifCond _ off => Nat.beq len 3 && decide ((pc : Int) + off = (a : Int))
  | .if_icmp _ off => Nat.beq len 3 && decide ((pc : Int) + off = (a : Int))
  | .tableswitch d lo hi offs => decide ((pc : Int) + d = (a : Int)) && (decide ((sw.map (fun q => q.1.toInt)) = (List.range (hi - lo + 1).toNat).map (fun (k : Nat) => lo + (k : Int))) && (decide (sw.map (fun q => ((q.2 : Int) - (pc : Int))) = offs.toList) && decide (lo ≤ hi)))
  | .lookupswitch d ps => decide ((pc : Int) + d = (a : Int)) && ((ps.toList.zip (ps.toList.drop 1)).all (fun (u, next) => decide (u.1 < next.1)) && decide (sw.map (fun q => (q.1.toInt, ((q.2 : Int) - (pc : Int)))) = ps.toList))
  | .getfield i => Nat.beq len 3 && (decide ((o, i, a, b, true) ∈ z_fl) || decide ((o, i, a, b, false) ∈ z_fl))
  | .putfield i => Nat.beq len 3 && (decide ((o, i, a, b, false) ∈ z_fl) || (decide ((o, i, a, b, true) ∈ z_fl) && (ini && Nat.beq o a)))
  | .new i => Nat.beq len 3 && (decide ((o, i, a) ∈ z_nl) && (Nat.blt 0 a && Nat.blt a 13))
  | .newarray k => Nat.beq len 2 && z_nak a k
  | .anewarray i => Nat.beq len 3 && (decide ((o, i, a) ∈ z_nl) && decide (a ∈ z_al))
  | .iadd | .isub | .imul | .iand | .ior | .ixor | .ishl | .ishr | .iushr | .idiv | .irem | .ineg | .land | .lor | .lshl | .lcmp | .i2l | .l2i | .i2b | .i2s | .dup | .iaload | .baload | .laload | .aaload | .iastore | .bastore | .lastore | .aastore | .arraylength | .ireturn | .lreturn | .return_ => Nat.beq len 1
  | .invokevirtual i => Nat.beq len 3 && decide ((o, i, a, b, c, x.toNatClampNeg, 0) ∈ z_ml) && decide (Int32.ofNat x.toNatClampNeg = x)
  | .invokestatic i => Nat.beq len 3 && (cond (Nat.ble 1000 a) (decide ((o, i, a) ∈ z_bl) && Nat.blt 1000 a) (decide ((o, i, a, b, c, x.toNatClampNeg, 1) ∈ z_ml) && (decide (Int32.ofNat x.toNatClampNeg = x) && Nat.beq c 0)))
  | .invokespecial i => Nat.beq len 3 && (cond (Nat.ble 1000 a) (decide ((o, i, a) ∈ z_bl) && Nat.beq a 1000) ((decide ((o, i, a, b, c, x.toNatClampNeg, 2) ∈ z_ml) || decide ((o, i, a, b, c, x.toNatClampNeg, 3) ∈ z_nst)) && decide (x = 0)))
  | _ => false
theorem z_nl_of {n : Nat} {la : z_Lc} {sa : List z_AV} {i : Nat} {v : z_AV} (h : z_vok n la sa) (hi : la.getD i none = some v) : z_okV n v := by
  refine h.2 v ?_
  rw [List.getD_eq_getElem?_getD] at hi
  cases hz : la[i]? with
  | none => rw [hz] at hi; cases hi
  | some u =>
    rw [hz] at hi
    have e : u = some v := hi
    rw [← e]
    exact List.mem_of_getElem? hz
theorem z_lv_get {α : Nat × Nat → Nat} {la : z_Lc} {ls : Array Slot} {nL i : Nat} {v : z_AV} (h : z_LV α la ls nL) (hi : la.getD i none = some v) : ls[i]? = some (.val (z_cV α v)) := by
  refine h.2.2.2 i v ?_
  rw [List.getD_eq_getElem?_getD] at hi
  cases hz : la[i]? with
  | none => rw [hz] at hi; cases hi
  | some u =>
    rw [hz] at hi
    have e : u = some v := hi
    rw [e]
/-- the locals as the kit has them: each that is known, with its place -/
def z_asc (α : Nat × Nat → Nat) (la : z_Lc) : List (Nat × Value) := la.zipIdx.filterMap (fun q => q.1.map (fun v => (q.2, z_cV α v)))
theorem z_asc_mem {α : Nat × Nat → Nat} {la : z_Lc} {q : Nat × Value} (h : q ∈ z_asc α la) : ∃ v, la[q.1]? = some (some v) ∧ q.2 = z_cV α v := by
  obtain ⟨p, hp, he⟩ := List.mem_filterMap.mp h
  obtain ⟨u, i⟩ := p
  have hu := List.mem_zipIdx_iff_getElem?.mp hp
  cases u with
  | none => cases he
  | some v =>
    have e : (i, z_cV α v) = q := Option.some.inj he
    subst e
    exact ⟨v, hu, rfl⟩
theorem z_asc_in {α : Nat × Nat → Nat} {la : z_Lc} {i : Nat} {v : z_AV} (h : la[i]? = some (some v)) : (i, z_cV α v) ∈ z_asc α la :=
  List.mem_filterMap.mpr ⟨(some v, i), List.mem_zipIdx_iff_getElem?.mpr h, rfl⟩
theorem z_lv_has {α : Nat × Nat → Nat} {la : z_Lc} {ls : Array Slot} {nL : Nat} (h : z_LV α la ls nL) : lv_has ls nL (z_asc α la) := by
  refine ⟨h.2.1, h.2.2.1, fun q hq => ?_⟩
  obtain ⟨v, h1, h2⟩ := z_asc_mem hq
  rw [h2]
  exact h.2.2.2 _ _ h1
theorem z_cat_of (α : Nat × Nat → Nat) (v : z_AV) : (z_cV α v).category = 2 ↔ ∃ x, v = .inr (.inl x) := by
  rcases v with x | x | r
  · simp [z_cV, Value.category]
  · simp [z_cV, Value.category]
  · simp only [z_cV, z_cR]
    split <;> simp [Value.category]
/-- a store of one word -/
theorem z_st_ok {α : Nat × Nat → Nat} {la l : z_Lc} {nL a : Nat} {v : z_AV} (hl : la.length = nL) (ha : a < nL) (h : z_st la a v = some l) :
    l = la.set a (some v) ∧ ∀ ls' : Array Slot, lv_has ls' nL ((a, z_cV α v) :: (z_asc α la).filter (fun q => !(q.1 == a) && !(q.1 + 1 == a && q.2.category == 2))) → z_LV α l ls' nL := by
  have h0 : l = la.set a (some v) ∧ ∀ j u, j + 1 = a → la[j]? = some (some u) → ¬ ∃ x, u = .inr (.inl x) := by
    unfold z_st at h
    cases a with
    | zero => exact ⟨(Option.some.inj h).symm, fun j u e => by omega⟩
    | succ j =>
      dsimp only at h
      split at h
      · cases h
      · rename_i hne
        refine ⟨(Option.some.inj h).symm, fun j' u e hu ⟨x, hx⟩ => ?_⟩
        have e2 : j' = j := by omega
        subst e2
        subst hx
        refine hne x ?_
        rw [List.getD_eq_getElem?_getD, hu]
        rfl
  refine ⟨h0.1, fun ls' hls => ?_⟩
  rw [h0.1]
  refine ⟨by rw [List.length_set]; exact hl, hls.1, hls.2.1, fun i u hi => ?_⟩
  rw [List.getElem?_set] at hi
  by_cases e : a = i
  · subst e
    rw [if_pos rfl] at hi
    rw [if_pos (by omega)] at hi
    have e2 : v = u := Option.some.inj (Option.some.inj hi)
    subst e2
    exact hls.2.2 _ List.mem_cons_self
  · rw [if_neg e] at hi
    refine hls.2.2 (i, z_cV α u) (List.mem_cons_of_mem _ (List.mem_filter.mpr ⟨z_asc_in hi, ?_⟩))
    by_cases e3 : i + 1 = a
    · have h3 := h0.2 i u e3 hi
      have h4 : ¬ (z_cV α u).category = 2 := fun q => h3 ((z_cat_of α u).mp q)
      simp [Ne.symm e, h4]
    · simp [Ne.symm e, e3]
theorem z_vok_set {n a : Nat} {la : z_Lc} {sa : List z_AV} {v : z_AV} (h : z_vok n la sa) (hv : z_okV n v) : ∀ u, some u ∈ la.set a (some v) → z_okV n u := by
  intro u hu
  rcases List.mem_or_eq_of_mem_set hu with q | q
  · exact h.2 u q
  · cases q; exact hv
theorem z_cR_ref {α : Nat × Nat → Nat} {r : Nat × Nat} (h : r.1 ≠ 0) : z_cR α r = .ref (α r) := if_neg h
theorem z_b0 {t : Nat} {β : Type} {x : Option β} {y : β} (h : cond (Nat.beq t 0) none x = some y) : t ≠ 0 ∧ x = some y := by
  cases hb : Nat.beq t 0 with
  | true => rw [hb] at h; cases h
  | false =>
    rw [hb] at h
    refine ⟨fun e => ?_, h⟩
    rw [e] at hb
    exact absurd hb (by decide)
theorem z_ht {c : Bool} {β : Type} {x : Option β} {y : β} (h : cond c x none = some y) : c = true ∧ x = some y := by
  cases c with
  | true => exact ⟨rfl, h⟩
  | false => cases h
theorem z_hf {c : Bool} {β : Type} {x : Option β} {y : β} (h : cond c none x = some y) : c = false ∧ x = some y := by
  cases c with
  | false => exact ⟨rfl, h⟩
  | true => cases h
theorem z_if {c : Prop} [Decidable c] {β : Type} {x : Option β} {y : β} (h : (if c then none else x) = some y) : ¬ c ∧ x = some y := by
  by_cases hc : c
  · rw [if_pos hc] at h; cases h
  · rw [if_neg hc] at h; exact ⟨hc, h⟩
theorem z_if2 {c : Prop} [Decidable c] {β : Type} {x : Option β} {y : β} (h : (if c then x else none) = some y) : c ∧ x = some y := by
  by_cases hc : c
  · rw [if_pos hc] at h; exact ⟨hc, h⟩
  · rw [if_neg hc] at h; cases h
theorem z_oob_in {j : Int32} {n : Nat} (h : z_oob j n = false) : vp_in j n := by
  unfold z_oob at h
  rw [Bool.or_eq_false_iff] at h
  intro q
  rcases q with q | q
  · exact absurd q (of_decide_eq_false h.1)
  · rw [Nat.ble_eq_true_of_le q] at h; exact absurd h.2 (by simp)
end
section
/-! ===== the step ===== -/
abbrev z_gw (p : Program) (l : Launch) (e : Env) (R : Room) (s : State) (m : MethodId) (args : Array Value) (below : List Frame) (meth : Method) (c : Code) (Q : State → Prop) (D : va_G) (A : Nat → Prop) (md : Bool) (sc : z_Sc) (α0 : Nat × Nat → Nat) (n0 n1 nL pc : Nat) (la : z_Lc) (sa : List z_AV) (S : z_Mem) : Prop :=
  z_GW (fun H locs cells slots g => W p l e R s m args below meth c H locs cells slots Q g) m s D A md sc α0 n0 n1 nL pc la sa S
def z_Ct (p : Program) (R : Room) (s : State) (m : MethodId) (args : Array Value) (meth : Method) (c : Code) (cc : ByteArray) (nL o : Nat) (ini : Bool) (n0 n1 : Nat) : Prop :=
  p.tables.exec = Jvm.exec ∧ c.code = cc ∧ c.maxLocals = nL ∧ s.vm.findClass (z_on o) = some m.cls ∧ (∀ w ∈ z_WT, w.before args s = true) ∧ z_NW s ∧ (ini = true → meth.name = "<init>") ∧ (n1 - n0 ≤ R.cells ∧ z_sz n1 - z_sz n0 ≤ R.slots) ∧ 1 ≤ R.frames ∧ 100 ≤ R.locals
theorem z_vp {n : Nat} {la : z_Lc} {v : z_AV} {sa : List z_AV} (h : z_vok n la (v :: sa)) : z_vok n la sa := ⟨fun u hu => h.1 u (List.mem_cons_of_mem _ hu), h.2⟩
theorem z_vh {n : Nat} {la : z_Lc} {v : z_AV} {sa : List z_AV} (h : z_vok n la (v :: sa)) : z_okV n v := h.1 v List.mem_cons_self
theorem z_vc {n : Nat} {la : z_Lc} {v : z_AV} {sa : List z_AV} (hv : z_okV n v) (h : z_vok n la sa) : z_vok n la (v :: sa) := ⟨fun u hu => (List.mem_cons.mp hu).elim (fun e => e ▸ hv) (h.1 u), h.2⟩
theorem z_br {P : Prop} [Decidable P] {β : Type} {X Y : Option β} {res : β} {G1 G2 : Prop} (h : (if P then X else Y) = some res) (f : X = some res → G1) (g : Y = some res → G2) : (P ∧ G1) ∨ (¬ P ∧ G2) := by
  by_cases hP : P
  · rw [if_pos hP] at h; exact Or.inl ⟨hP, f h⟩
  · rw [if_neg hP] at h; exact Or.inr ⟨hP, g h⟩
theorem z_fl_get {o i a b : Nat} {f : Bool} (h : (o, i, a, b, f) ∈ z_fl) : ∃ (C : String) (T : u_T) (N : Nat), vwCl[a - 1]? = some (C, T, N) ∧ b < N ∧ (T b).2.2.2 = f ∧ 0 < a ∧ a < 13 ∧ Cond.fieldLink (z_on o) i C (T b).2.1 (T b).2.2.1 ∈ z_WT ∧ z_CF (a - 1) C T N := by
  have h1 := z_wt (z_fl_in _ h)
  have h2 := List.all_eq_true.mp z_fl_b _ h
  unfold z_flb at h2
  dsimp only at h2
  split at h2
  · rename_i C T N hv
    simp only [Bool.and_eq_true, Nat.blt_eq, beq_iff_eq, Nat.ble_eq] at h2
    have hcf := z_cf _ _ _ _ hv
    have e1 : z_cn a = C := by
      obtain ⟨-, -, -, -, -, e, -⟩ := hcf
      rw [e, Nat.sub_add_cancel h2.2.2.1]
    have e2 : z_tf a = T := by
      obtain ⟨-, -, -, -, -, -, e, -⟩ := hcf
      rw [e, Nat.sub_add_cancel h2.2.2.1]
    unfold z_flw at h1
    dsimp only at h1
    rw [e1, e2] at h1
    exact ⟨C, T, N, hv, h2.1, h2.2.1, h2.2.2.1, by omega, h1, hcf⟩
  · cases h2
theorem z_sI_ne {S : z_Mem} {t i k : Nat} {x : Int32} {r : Nat × Nat} (h : r ≠ (t, i)) : (z_sI S t i k x).1 r.1 r.2 = S.1 r.1 r.2 := by
  funext j
  have h2 : ¬ (r.1 = t ∧ r.2 = i ∧ j = k) := fun q => h (Prod.ext q.1 q.2.1)
  show (if r.1 = t ∧ r.2 = i ∧ j = k then x else S.1 r.1 r.2 j) = _
  rw [if_neg h2]
theorem z_bd_cong {α : Nat × Nat → Nat} {cA : Nat × Nat → ClassId} {md : Bool} {S S' : z_Mem} {r : Nat × Nat} (h1 : S'.1 r.1 r.2 = S.1 r.1 r.2) (h2 : S'.2.1 r.1 r.2 = S.2.1 r.1 r.2) (h3 : S'.2.2.1 r.1 r.2 = S.2.2.1 r.1 r.2) : z_bd α cA md S' r = z_bd α cA md S r := by
  have e1 : z_rv md S' r.1 r.2 = z_rv md S r.1 r.2 := by
    funext j
    unfold z_rv
    rw [h3]
  have e2 : z_re md S' r.1 r.2 = z_re md S r.1 r.2 := by
    funext j
    unfold z_re
    rw [h3]
  have e3 : z_fv α md S' r.1 r.2 = z_fv α md S r.1 r.2 := by
    funext j
    unfold z_fv
    rw [h1, e1]
  unfold z_bd
  rw [h1, h2, e2, e3]
theorem z_bd_sI {α : Nat × Nat → Nat} {cA : Nat × Nat → ClassId} {md : Bool} {S : z_Mem} {t i k : Nat} {x : Int32} {r : Nat × Nat} (h : r ≠ (t, i)) : z_bd α cA md (z_sI S t i k x) r = z_bd α cA md S r := z_bd_cong (z_sI_ne h) rfl rfl
theorem z_bd_sL {α : Nat × Nat → Nat} {cA : Nat × Nat → ClassId} {md : Bool} {S : z_Mem} {t i k : Nat} {x : Int64} {r : Nat × Nat} (h : r ≠ (t, i)) : z_bd α cA md (z_sL S t i k x) r = z_bd α cA md S r := by
  refine z_bd_cong rfl ?_ rfl
  funext j
  have h2 : ¬ (r.1 = t ∧ r.2 = i ∧ j = k) := fun q => h (Prod.ext q.1 q.2.1)
  show (if r.1 = t ∧ r.2 = i ∧ j = k then x else S.2.1 r.1 r.2 j) = _
  rw [if_neg h2]
theorem z_bd_sR {α : Nat × Nat → Nat} {cA : Nat × Nat → ClassId} {md : Bool} {S : z_Mem} {t i k : Nat} {x : Nat × Nat} {r : Nat × Nat} (h : r ≠ (t, i)) : z_bd α cA md (z_sR S t i k x) r = z_bd α cA md S r := by
  refine z_bd_cong rfl rfl ?_
  funext j
  have h2 : ¬ (r.1 = t ∧ r.2 = i ∧ j = k) := fun q => h (Prod.ext q.1 q.2.1)
  show (if r.1 = t ∧ r.2 = i ∧ j = k then x else S.2.2.1 r.1 r.2 j) = _
  rw [if_neg h2]
section ZST
variable {p : Program} {l : Launch} {e : Env} {R : Room} {s : State} {m : MethodId} {args : Array Value} {below : List Frame} {meth : Method} {c : Code} {Q : State → Prop}
variable {D : va_G} {A : Nat → Prop} {md : Bool} {sc : z_Sc} {α0 : Nat × Nat → Nat} {n0 n1 nL o : Nat} {ini : Bool} {cc : ByteArray}
variable {pc pc' : Nat} {la la' : z_Lc} {sa sa' : List z_AV} {S S' : z_Mem}
/-- memory stays -/
theorem z_op1 (g : z_gw p l e R s m args below meth c Q D A md sc α0 n0 n1 nL pc' la' sa' S) (hv : z_vok S.2.2.2 la sa → z_vok S.2.2.2 la' sa')
    (row : ∀ (α : Nat × Nat → Nat) (cA : Nat × Nat → ClassId) (ls : Array Slot) (H : Heap) (locs : List Loc) (cells slots : Nat), z_Rel s D A md sc α0 n0 α cA S H locs → z_LV α la ls nL → z_vok S.2.2.2 la sa →
      (∀ ls', z_LV α la' ls' nL → W p l e R s m args below meth c H locs cells slots Q (F0 m pc' ls' (sa'.map (z_cV α)))) → W p l e R s m args below meth c H locs cells slots Q (F0 m pc ls (sa.map (z_cV α)))) : z_gw p l e R s m args below meth c Q D A md sc α0 n0 n1 nL pc la sa S :=
  ⟨g.1, fun α cA ls H locs hR hl hk => row α cA ls H locs _ _ hR hl hk (fun ls' hl' => g.2 α cA ls' H locs hR hl' (hv hk))⟩
/-- memory changes, nothing is made -/
theorem z_op2 (g : z_gw p l e R s m args below meth c Q D A md sc α0 n0 n1 nL pc' la sa' S') (hn : S'.2.2.2 = S.2.2.2) (hv : z_vok S.2.2.2 la sa → z_vok S.2.2.2 la sa') (hm : z_vok S.2.2.2 la sa → z_mok md S → z_mok md S')
    (row : ∀ (α : Nat × Nat → Nat) (cA : Nat × Nat → ClassId) (ls : Array Slot) (H : Heap) (locs : List Loc) (cells slots : Nat), z_Rel s D A md sc α0 n0 α cA S H locs → z_LV α la ls nL → z_vok S.2.2.2 la sa →
      (∀ (H1 : Heap) (locs1 : List Loc), va_P D vwCl (z_ws α cA md S') H1 → va_D A (z_ws α cA md S') → va_S A s.heap H1 locs1 → W p l e R s m args below meth c H1 locs1 cells slots Q (F0 m pc' ls (sa'.map (z_cV α)))) → W p l e R s m args below meth c H locs cells slots Q (F0 m pc ls (sa.map (z_cV α)))) : z_gw p l e R s m args below meth c Q D A md sc α0 n0 n1 nL pc la sa S := by
  refine ⟨hn ▸ g.1, fun α cA ls H locs hR hl hk => row α cA ls H locs _ _ hR hl hk (fun H1 locs1 hP hD hS => ?_)⟩
  obtain ⟨h1, h2, h3, h4, h5, h6, h7, h8, h9⟩ := hR
  have h := g.2 α cA ls H1 locs1 ⟨by rw [hn]; exact h1, h2, hm hk h3, by rw [hn]; exact h4, hP, hD, hS, h8, h9⟩ hl (by rw [hn]; exact hv hk)
  rw [hn] at h
  exact h

theorem z_st_eq {la l' : z_Lc} {a : Nat} {v : z_AV} (h : z_st la a v = some l') : la.set a (some v) = l' := by
  unfold z_st at h
  cases a with
  | zero => exact Option.some.inj h
  | succ j =>
    dsimp only at h
    split at h
    · cases h
    · exact Option.some.inj h
theorem z_getD {la : z_Lc} {i : Nat} {v : z_AV} (h : la.getD i none = some v) : la[i]? = some (some v) := by
  rw [List.getD_eq_getElem?_getD] at h
  cases hz : la[i]? with
  | none => rw [hz] at h; cases h
  | some u =>
    rw [hz] at h
    have e : u = some v := h
    rw [e]
theorem z_getf {ρ : Type} {κ : Nat → z_Lc → List z_AV → z_Mem → Option ρ} {res : ρ} {i b : Nat} {q : Nat × Nat} {C : String} {T : u_T} {N : Nat} (hx : p.tables.exec = Jvm.exec) (hb : c.code = cc) (hown : s.vm.findClass (z_on o) = some m.cls) (hts : ∀ w ∈ z_WT, w.before args s = true)
    (hd : decode cc pc = .ok (.getfield i, 3)) (hvc : vwCl[q.1 - 1]? = some (C, T, N)) (hbN : b < N) (hlk : Cond.fieldLink (z_on o) i C (T b).2.1 (T b).2.2.1 ∈ z_WT) (hcf : z_CF (q.1 - 1) C T N) (ha0 : 0 < q.1) (ha13 : q.1 < 13)
    (h : (match z_shK q.1 b with
      | 0 => κ (pc + 3) la (.inl (S.1 q.1 q.2 b) :: sa) S
      | 1 => κ (pc + 3) la (.inl (S.1 q.1 q.2 b) :: sa) S
      | 2 => κ (pc + 3) la (.inr (.inr (z_rv md S q.1 q.2 b)) :: sa) S
      | 3 => κ (pc + 3) la (.inr (.inr (z_rv md S q.1 q.2 b)) :: sa) S
      | _ => none) = some res) (hκ : ∀ pc' la' sa' S', κ pc' la' sa' S' = some res → z_gw p l e R s m args below meth c Q D A md sc α0 n0 n1 nL pc' la' sa' S') : z_gw p l e R s m args below meth c Q D A md sc α0 n0 n1 nL pc la (.inr (.inr q) :: sa) S := by
  obtain ⟨hin, -, -, hN, haK, -, -, hdecl, -⟩ := hcf
  rw [Nat.sub_add_cancel ha0] at hN haK
  have main : ∀ v : z_AV, (∀ α, z_cV α v = z_fv α md S q.1 q.2 b) → (∀ n, (∀ w, (z_shK q.1 b = 2 ∨ z_shK q.1 b = 3) → w = z_rv md S q.1 q.2 b → z_okR n w) → z_okV n v) → z_gw p l e R s m args below meth c Q D A md sc α0 n0 n1 nL (pc + 3) la (v :: sa) S → z_gw p l e R s m args below meth c Q D A md sc α0 n0 n1 nL pc la (.inr (.inr q) :: sa) S := by
    intro v hv hov g
    refine ⟨g.1, fun α cA ls H locs hR hl hk => ?_⟩
    have hR0 := hR
    obtain ⟨-, -, hmo, ⟨tys, hK, -⟩, hP, -⟩ := hR
    obtain ⟨k, hkn, hkq⟩ := z_okR.at (z_vh hk) ha0 (by omega)
    have hbd : z_bd α cA md S q = .inr (q.1 - 1, (List.range (z_nF q.1)).map (z_fv α md S q.1 q.2)) := by unfold z_bd; rw [haK]; rfl
    have he := z_ws_get (α := α) (cA := cA) (md := md) hkn hkq
    rw [hbd] at he
    have g2 := g.2 α cA ls H locs hR0 hl (z_vc (hov _ (fun w hw e => by rw [e]; exact (hmo k q hkn hkq).1 b hw)) (z_vp hk))
    show W p l e R s m args below meth c H locs _ _ Q (F0 m pc ls (z_cR α q :: sa.map (z_cV α)))
    rw [z_cR_ref (by omega)]
    refine va_get hx hb hts (fun w hw => z_wt (hin w hw)) hown hK hP k he hvc b hbN (hts _ hlk) (fun x hh => by rw [hdecl b] at hh; exact hh) (v := z_cV α v) ?_ hd g2
    rw [List.getElem?_map, List.getElem?_range (by omega), hv]
    rfl
  split at h
  · rename_i hs
    exact main (.inl (S.1 q.1 q.2 b)) (fun α => by unfold z_fv; rw [hs]; rfl) (fun n _ => trivial) (hκ _ _ _ _ h)
  · rename_i hs
    exact main (.inl (S.1 q.1 q.2 b)) (fun α => by unfold z_fv; rw [hs]; rfl) (fun n _ => trivial) (hκ _ _ _ _ h)
  · rename_i hs
    exact main (.inr (.inr (z_rv md S q.1 q.2 b))) (fun α => by unfold z_fv; rw [hs]; rfl) (fun n hn => hn _ (Or.inl hs) rfl) (hκ _ _ _ _ h)
  · rename_i hs
    exact main (.inr (.inr (z_rv md S q.1 q.2 b))) (fun α => by unfold z_fv; rw [hs]; rfl) (fun n hn => hn _ (Or.inr hs) rfl) (hκ _ _ _ _ h)
  · cases h

theorem z_vp2 {n : Nat} {la : z_Lc} {v w : z_AV} {sa : List z_AV} (h : z_vok n la (v :: w :: sa)) : z_vok n la sa := z_vp (z_vp h)
/-- an object's cell -/
theorem z_bdO {α : Nat × Nat → Nat} {cA : Nat × Nat → ClassId} {q : Nat × Nat} (h : z_aK q.1 = 0) : z_bd α cA md S q = .inr (q.1 - 1, (List.range (z_nF q.1)).map (z_fv α md S q.1 q.2)) := by unfold z_bd; rw [h]; rfl
theorem z_bdI {α : Nat × Nat → Nat} {cA : Nat × Nat → ClassId} {q : Nat × Nat} (h : z_aK q.1 = 1 ∨ z_aK q.1 = 2 ∨ z_aK q.1 = 3) : z_bd α cA md S q = .inl (cA q, z_aN q.1 q.2, .inl (S.1 q.1 q.2)) := by
  unfold z_bd
  rcases h with h | h | h <;> rw [h] <;> rfl
theorem z_bdL {α : Nat × Nat → Nat} {cA : Nat × Nat → ClassId} {q : Nat × Nat} (h : z_aK q.1 = 4) : z_bd α cA md S q = .inl (cA q, z_aN q.1 q.2, .inr (.inl (S.2.1 q.1 q.2))) := by unfold z_bd; rw [h]; rfl
theorem z_bdR {α : Nat × Nat → Nat} {cA : Nat × Nat → ClassId} {q : Nat × Nat} (h : z_aK q.1 = 5) : z_bd α cA md S q = .inl (cA q, z_aN q.1 q.2, .inr (.inr (.inr (.inr (fun j => if j < z_aN q.1 q.2 then z_op α (z_re md S q.1 q.2 j) else none))))) := by unfold z_bd; rw [h]; rfl
theorem z_fits_and {v : Int32} (h : v &&& 1 = v) : fits .boolean (.int v) = true := by
  have h1 : v = 0 ∨ v = 1 := by
    have h2 : v.toBitVec &&& 1#32 = v.toBitVec := congrArg Int32.toBitVec h
    have h3 : v.toBitVec = 0#32 ∨ v.toBitVec = 1#32 := by
      generalize v.toBitVec = w at h2
      have h4 : w.toNat % 2 = w.toNat := by
        have := congrArg BitVec.toNat h2
        rw [BitVec.toNat_and] at this
        rw [show (1#32).toNat = 1 from rfl, Nat.and_one_is_mod] at this
        exact this
      have h5 : w.toNat < 2 := by omega
      have h6 : w.toNat = 0 ∨ w.toNat = 1 := by omega
      rcases h6 with h6 | h6
      · exact Or.inl (BitVec.eq_of_toNat_eq (by rw [h6]; rfl))
      · exact Or.inr (BitVec.eq_of_toNat_eq (by rw [h6]; rfl))
    rcases h3 with h3 | h3
    · exact Or.inl (Int32.toBitVec_inj.mp h3)
    · exact Or.inr (Int32.toBitVec_inj.mp h3)
  rcases h1 with h1 | h1 <;> subst h1 <;> decide
theorem z_putI {i b : Nat} {q : Nat × Nat} {v : Int32} {C : String} {T : u_T} {N : Nat} {fin : Bool} (hx : p.tables.exec = Jvm.exec) (hb : c.code = cc) (hown : s.vm.findClass (z_on o) = some m.cls) (hts : ∀ w ∈ z_WT, w.before args s = true)
    (hd : decode cc pc = .ok (.putfield i, 3)) (hvc : vwCl[q.1 - 1]? = some (C, T, N)) (hbN : b < N) (hfn : (T b).2.2.2 = fin) (hfi : fin = true → meth.name = "<init>" ∧ o = q.1) (hlk : Cond.fieldLink (z_on o) i C (T b).2.1 (T b).2.2.1 ∈ z_WT) (hcf : z_CF (q.1 - 1) C T N) (ha0 : 0 < q.1) (ha13 : q.1 < 13)
    (hk : z_shK q.1 b = 0 ∨ (z_shK q.1 b = 1 ∧ v &&& 1 = v)) (g : z_gw p l e R s m args below meth c Q D A md sc α0 n0 n1 nL (pc + 3) la sa (z_sI S q.1 q.2 b v)) : z_gw p l e R s m args below meth c Q D A md sc α0 n0 n1 nL pc la (.inl v :: .inr (.inr q) :: sa) S := by
  obtain ⟨hin, ⟨ty, hty, hkd⟩, hnm, hN, haK, -, -, hdecl, hon⟩ := hcf
  rw [Nat.sub_add_cancel ha0] at hN haK hkd hon
  refine z_op2 g rfl (fun hv => z_vp2 hv) (fun _ h => h) (fun α cA ls H locs cells slots hR hl hv k => ?_)
  obtain ⟨-, -, hmo, ⟨tys, hK, -⟩, hP, hD, hS, -⟩ := hR
  obtain ⟨j, hjn, hjq⟩ := z_okR.at (z_vh (z_vp hv)) ha0 (by omega)
  have he := z_ws_get (α := α) (cA := cA) (md := md) hjn hjq
  rw [z_bdO haK] at he
  have hset : ((List.range (z_nF q.1)).map (z_fv α md S q.1 q.2)).set b (.int v) = (List.range (z_nF q.1)).map (z_fv α md (z_sI S q.1 q.2 b v) q.1 q.2) := by
    have e1 : z_fv α md (z_sI S q.1 q.2 b v) q.1 q.2 b = .int v := by
      unfold z_fv
      have e0 : (z_sI S q.1 q.2 b v).1 q.1 q.2 b = v := by simp [z_sI]
      rcases hk with hk | ⟨hk, -⟩ <;> rw [hk, e0] <;> rfl
    rw [← e1]
    refine z_rng_set (by omega) (fun k hkb => ?_)
    unfold z_fv
    have e0 : (z_sI S q.1 q.2 b v).1 q.1 q.2 k = S.1 q.1 q.2 k := by simp [z_sI, hkb]
    rw [e0]
    rfl
  have hws := z_ws_set (α := α) (cA := cA) (md := md) (S := S) (S' := z_sI S q.1 q.2 b v) (r := q) (b := .inr (q.1 - 1, ((List.range (z_nF q.1)).map (z_fv α md S q.1 q.2)).set b (.int v))) rfl hjn hjq (fun r' hr => z_bd_sI hr) (by rw [z_bdO haK, hset])
  have hty2 : (narrow (ty b) (.int v) = .int v) ∧ fits (ty b) (.int v) = true := by
    rcases hkd b hbN with ⟨h0, h1⟩ | ⟨h0, h1⟩ | ⟨h0, -⟩
    · rw [h1]; exact ⟨rfl, rfl⟩
    · rw [h1]
      have h2 : v &&& 1 = v := by
        rcases hk with hk | ⟨-, hk⟩
        · rw [h0] at hk; cases hk
        · exact hk
      exact ⟨by show Value.int (v &&& 1) = _; rw [h2], z_fits_and h2⟩
    · rcases hk with hk | ⟨hk, -⟩ <;> rw [hk] at h0 <;> rcases h0 with h0 | h0 <;> cases h0
  show W p l e R s m args below meth c H locs cells slots Q (F0 m pc ls (.int v :: z_cR α q :: sa.map (z_cV α)))
  rw [z_cR_ref (by omega)]
  have kk : ∀ (H1 : Heap) (locs1 : List Loc), va_P D vwCl ((z_ws α cA md S).set j (α q, .inr (q.1 - 1, ((List.range (z_nF q.1)).map (z_fv α md S q.1 q.2)).set b (.int v)))) H1 → va_D A ((z_ws α cA md S).set j (α q, .inr (q.1 - 1, ((List.range (z_nF q.1)).map (z_fv α md S q.1 q.2)).set b (.int v)))) → va_S A s.heap H1 locs1 → W p l e R s m args below meth c H1 locs1 cells slots Q (F0 m (pc + 3) ls (sa.map (z_cV α))) := by
    intro H1 locs1 hP1 hD1 hS1
    rw [hws] at hP1 hD1
    exact k H1 locs1 hP1 hD1 hS1
  cases hfb : fin with
  | false => exact va_put hx hb hts (fun w hw => z_wt (hin w hw)) ty hty hnm hown hK hP hD hS j he hvc b hbN (hts _ hlk) (fun x hh => by rw [hdecl b] at hh; exact hh) (by rw [hfn, hfb]) (hty b hbN) hty2.1 hty2.2 (by rw [List.length_map, List.length_range]; omega) hd kk
  | true => exact va_putF hx hb hts (fun w hw => z_wt (hin w hw)) ty hty hnm hown hK hP hD hS j he hvc b hbN (hts _ hlk) (fun x hh => by rw [hdecl b] at hh; exact hh) (by rw [hfn, hfb]) (hfi hfb).1 (by rw [hdecl b, hon, (hfi hfb).2]) (hty b hbN) hty2.1 hty2.2 (by rw [List.length_map, List.length_range]; omega) hd kk
theorem z_putR {i b : Nat} {q v : Nat × Nat} {C : String} {T : u_T} {N : Nat} {fin : Bool} (hx : p.tables.exec = Jvm.exec) (hb : c.code = cc) (hown : s.vm.findClass (z_on o) = some m.cls) (hts : ∀ w ∈ z_WT, w.before args s = true)
    (hd : decode cc pc = .ok (.putfield i, 3)) (hvc : vwCl[q.1 - 1]? = some (C, T, N)) (hbN : b < N) (hfn : (T b).2.2.2 = fin) (hfi : fin = true → meth.name = "<init>" ∧ o = q.1) (hlk : Cond.fieldLink (z_on o) i C (T b).2.1 (T b).2.2.1 ∈ z_WT) (hcf : z_CF (q.1 - 1) C T N) (ha0 : 0 < q.1) (ha13 : q.1 < 13)
    (hk : z_shK q.1 b = 2 ∨ z_shK q.1 b = 3) (hmd : md = true → z_shK q.1 b = 3 ∧ v.1 = z_dT q.1 b) (hv0 : v.1 ≠ 0) (g : z_gw p l e R s m args below meth c Q D A md sc α0 n0 n1 nL (pc + 3) la sa (z_sR S q.1 q.2 b v)) : z_gw p l e R s m args below meth c Q D A md sc α0 n0 n1 nL pc la (.inr (.inr v) :: .inr (.inr q) :: sa) S := by
  obtain ⟨hin, ⟨ty, hty, hkd⟩, hnm, hN, haK, -, -, hdecl, hon⟩ := hcf
  rw [Nat.sub_add_cancel ha0] at hN haK hkd hon
  have e1 : z_rv md (z_sR S q.1 q.2 b v) q.1 q.2 b = v := by
    have e0 : (z_sR S q.1 q.2 b v).2.2.1 q.1 q.2 b = v := by simp [z_sR]
    unfold z_rv
    rw [e0]
    cases hm : md with
    | false => rfl
    | true =>
      obtain ⟨h1, h2⟩ := hmd hm
      rw [h1, ← h2]
      rfl
  have e2 : ∀ t i j, ¬ (t = q.1 ∧ i = q.2 ∧ j = b) → z_rv md (z_sR S q.1 q.2 b v) t i j = z_rv md S t i j := by
    intro t i j hne
    have e0 : (z_sR S q.1 q.2 b v).2.2.1 t i j = S.2.2.1 t i j := by
      show (if t = q.1 ∧ i = q.2 ∧ j = b then v else S.2.2.1 t i j) = _
      rw [if_neg hne]
    unfold z_rv
    rw [e0]
  refine z_op2 g rfl (fun hv => z_vp2 hv) (fun hv hm k r hkn hkr => ⟨fun j hj => ?_, fun h5 j hj => ?_⟩) (fun α cA ls H locs cells slots hR hl hv k => ?_)
  · by_cases hne : r.1 = q.1 ∧ r.2 = q.2 ∧ j = b
    · obtain ⟨h1, h2, h3⟩ := hne
      rw [h1, h2, h3, e1]
      exact z_vh hv
    · rw [e2 _ _ _ hne]
      exact (hm k r hkn hkr).1 j hj
  · have hne : r ≠ (q.1, q.2) := fun h => by rw [h] at h5; rw [haK] at h5; cases h5
    have e3 : z_re md (z_sR S q.1 q.2 b v) r.1 r.2 j = z_re md S r.1 r.2 j := by
      have e0 : (z_sR S q.1 q.2 b v).2.2.1 r.1 r.2 j = S.2.2.1 r.1 r.2 j := by
        show (if r.1 = q.1 ∧ r.2 = q.2 ∧ j = b then v else S.2.2.1 r.1 r.2 j) = _
        rw [if_neg (fun h => hne (Prod.ext h.1 h.2.1))]
      unfold z_re
      rw [e0]
    rw [e3]
    exact (hm k r hkn hkr).2 h5 j hj
  obtain ⟨-, -, hmo, ⟨tys, hK, -⟩, hP, hD, hS, -⟩ := hR
  obtain ⟨j, hjn, hjq⟩ := z_okR.at (z_vh (z_vp hv)) ha0 (by omega)
  have he := z_ws_get (α := α) (cA := cA) (md := md) hjn hjq
  rw [z_bdO haK] at he
  have hset : ((List.range (z_nF q.1)).map (z_fv α md S q.1 q.2)).set b (.ref (α v)) = (List.range (z_nF q.1)).map (z_fv α md (z_sR S q.1 q.2 b v) q.1 q.2) := by
    have e4 : z_fv α md (z_sR S q.1 q.2 b v) q.1 q.2 b = .ref (α v) := by
      unfold z_fv
      rcases hk with hk | hk <;> rw [hk, e1] <;> exact z_cR_ref hv0
    rw [← e4]
    refine z_rng_set (by omega) (fun k hkb => ?_)
    unfold z_fv
    rw [e2 _ _ _ (fun h => hkb h.2.2)]
    rfl
  have hws := z_ws_set (α := α) (cA := cA) (md := md) (S := S) (S' := z_sR S q.1 q.2 b v) (r := q) (b := .inr (q.1 - 1, ((List.range (z_nF q.1)).map (z_fv α md S q.1 q.2)).set b (.ref (α v)))) rfl hjn hjq (fun r' hr => z_bd_sR hr) (by rw [z_bdO haK, hset])
  have hty2 : (narrow (ty b) (.ref (α v)) = .ref (α v)) ∧ fits (ty b) (.ref (α v)) = true := by
    rcases hkd b hbN with ⟨h0, h1⟩ | ⟨h0, h1⟩ | ⟨h0, h1⟩
    · rw [h0] at hk; rcases hk with hk | hk <;> cases hk
    · rw [h0] at hk; rcases hk with hk | hk <;> cases hk
    · rcases h1 with ⟨n, h1⟩ | ⟨n, h1⟩ <;> rw [h1] <;> exact ⟨rfl, rfl⟩
  show W p l e R s m args below meth c H locs cells slots Q (F0 m pc ls (z_cR α v :: z_cR α q :: sa.map (z_cV α)))
  rw [z_cR_ref hv0, z_cR_ref (show q.1 ≠ 0 by omega)]
  have kk : ∀ (H1 : Heap) (locs1 : List Loc), va_P D vwCl ((z_ws α cA md S).set j (α q, .inr (q.1 - 1, ((List.range (z_nF q.1)).map (z_fv α md S q.1 q.2)).set b (.ref (α v))))) H1 → va_D A ((z_ws α cA md S).set j (α q, .inr (q.1 - 1, ((List.range (z_nF q.1)).map (z_fv α md S q.1 q.2)).set b (.ref (α v))))) → va_S A s.heap H1 locs1 → W p l e R s m args below meth c H1 locs1 cells slots Q (F0 m (pc + 3) ls (sa.map (z_cV α))) := by
    intro H1 locs1 hP1 hD1 hS1
    rw [hws] at hP1 hD1
    exact k H1 locs1 hP1 hD1 hS1
  cases hfb : fin with
  | false => exact va_put hx hb hts (fun w hw => z_wt (hin w hw)) ty hty hnm hown hK hP hD hS j he hvc b hbN (hts _ hlk) (fun x hh => by rw [hdecl b] at hh; exact hh) (by rw [hfn, hfb]) (hty b hbN) hty2.1 hty2.2 (by rw [List.length_map, List.length_range]; omega) hd kk
  | true => exact va_putF hx hb hts (fun w hw => z_wt (hin w hw)) ty hty hnm hown hK hP hD hS j he hvc b hbN (hts _ hlk) (fun x hh => by rw [hdecl b] at hh; exact hh) (by rw [hfn, hfb]) (hfi hfb).1 (by rw [hdecl b, hon, (hfi hfb).2]) (hty b hbN) hty2.1 hty2.2 (by rw [List.length_map, List.length_range]; omega) hd kk
theorem z_aK_rng {t : Nat} (h : z_aK t ≠ 0) : 0 < t ∧ t < 90 := by
  refine ⟨Nat.pos_of_ne_zero (fun e => h (by rw [e]; rfl)), ?_⟩
  refine Nat.lt_of_not_le (fun h9 => h ?_)
  unfold z_aK
  rw [List.getD_eq_getElem?_getD, List.getElem?_eq_none (show z_aT.length ≤ t from Nat.le_trans (show z_aT.length ≤ 90 by decide +kernel) h9)]
  rfl
theorem z_arr {α : Nat × Nat → Nat} {cA : Nat × Nat → ClassId} {H : Heap} {locs : List Loc} {q : Nat × Nat} (hR : z_Rel s D A md sc α0 n0 α cA S H locs) (hq : z_okR S.2.2.2 q) (ha : z_aK q.1 ≠ 0) :
    ∃ (k t0 : Nat) (tys : List (ClassId × FieldType)), k < S.2.2.2 ∧ z_ord[k]? = some q ∧ va_K D vwCl tys s ∧ tys[t0]? = some (cA q, z_ty q.1) ∧ (z_ws α cA md S)[k]? = some (α q, z_bd α cA md S q) := by
  obtain ⟨h0, h9⟩ := z_aK_rng ha
  obtain ⟨-, -, -, ⟨tys, hK, htk⟩, -⟩ := hR
  obtain ⟨k, hk, hkq⟩ := z_okR.at hq h0 h9
  obtain ⟨t0, ht0⟩ := htk k q hk hkq ha
  exact ⟨k, t0, tys, hk, hkq, hK, ht0, z_ws_get hk hkq⟩
/-- a word of an int, boolean, byte array is read -/
theorem z_aldI {j : Int32} {q : Nat × Nat} {ins : Instr} (hx : p.tables.exec = Jvm.exec) (hb : c.code = cc) (hd : decode cc pc = .ok (ins, 1)) (hk : (z_aK q.1 = 1 ∧ ins = .iaload) ∨ ((z_aK q.1 = 2 ∨ z_aK q.1 = 3) ∧ ins = .baload)) (ho : z_oob j (z_aN q.1 q.2) = false)
    (g : z_gw p l e R s m args below meth c Q D A md sc α0 n0 n1 nL (pc + 1) la (.inl (S.1 q.1 q.2 j.toNatClampNeg) :: sa) S) : z_gw p l e R s m args below meth c Q D A md sc α0 n0 n1 nL pc la (.inl j :: .inr (.inr q) :: sa) S := by
  refine z_op1 g (fun hv => z_vc trivial (z_vp2 hv)) (fun α cA ls H locs cells slots hR hl hv k => ?_)
  have hk0 : z_aK q.1 ≠ 0 := by rcases hk with ⟨h, -⟩ | ⟨h | h, -⟩ <;> rw [h] <;> decide
  have hk1 : z_aK q.1 = 1 ∨ z_aK q.1 = 2 ∨ z_aK q.1 = 3 := by rcases hk with ⟨h, -⟩ | ⟨h | h, -⟩ <;> simp [h]
  obtain ⟨kq, t0, tys, hkn, hkq, hK, ht, he⟩ := z_arr hR (z_vh (z_vp hv)) hk0
  rw [z_bdI hk1] at he
  obtain ⟨-, -, -, -, hP, -⟩ := hR
  have k2 := k ls hl
  show W p l e R s m args below meth c H locs cells slots Q (F0 m pc ls (.int j :: z_cR α q :: sa.map (z_cV α)))
  rw [z_cR_ref (Nat.pos_iff_ne_zero.mp (z_aK_rng hk0).1)]
  rcases hk with ⟨h, h2⟩ | ⟨h | h, h2⟩
  · subst h2; unfold z_ty at ht; rw [h] at ht
    exact va_iald hx hb hK hP kq t0 he ht (z_oob_in ho) hd k2
  · subst h2; unfold z_ty at ht; rw [h] at ht
    exact va_zald hx hb hK hP kq t0 he ht (z_oob_in ho) hd k2
  · subst h2; unfold z_ty at ht; rw [h] at ht
    exact va_bald hx hb hK hP kq t0 he ht (z_oob_in ho) hd k2
theorem z_aldL {j : Int32} {q : Nat × Nat} (hx : p.tables.exec = Jvm.exec) (hb : c.code = cc) (hd : decode cc pc = .ok (.laload, 1)) (hk : z_aK q.1 = 4) (ho : z_oob j (z_aN q.1 q.2) = false)
    (g : z_gw p l e R s m args below meth c Q D A md sc α0 n0 n1 nL (pc + 1) la (.inr (.inl (S.2.1 q.1 q.2 j.toNatClampNeg)) :: sa) S) : z_gw p l e R s m args below meth c Q D A md sc α0 n0 n1 nL pc la (.inl j :: .inr (.inr q) :: sa) S := by
  refine z_op1 g (fun hv => z_vc trivial (z_vp2 hv)) (fun α cA ls H locs cells slots hR hl hv k => ?_)
  have hk0 : z_aK q.1 ≠ 0 := by rw [hk]; decide
  obtain ⟨kq, t0, tys, hkn, hkq, hK, ht, he⟩ := z_arr hR (z_vh (z_vp hv)) hk0
  rw [z_bdL hk] at he
  obtain ⟨-, -, -, -, hP, -⟩ := hR
  have k2 := k ls hl
  show W p l e R s m args below meth c H locs cells slots Q (F0 m pc ls (.int j :: z_cR α q :: sa.map (z_cV α)))
  rw [z_cR_ref (Nat.pos_iff_ne_zero.mp (z_aK_rng hk0).1)]
  unfold z_ty at ht; rw [hk] at ht
  exact va_lald hx hb hK hP kq t0 he ht (z_oob_in ho) hd k2
theorem z_aldR {j : Int32} {q : Nat × Nat} (hx : p.tables.exec = Jvm.exec) (hb : c.code = cc) (hd : decode cc pc = .ok (.aaload, 1)) (hk : z_aK q.1 = 5) (ho : z_oob j (z_aN q.1 q.2) = false)
    (g : z_gw p l e R s m args below meth c Q D A md sc α0 n0 n1 nL (pc + 1) la (.inr (.inr (z_re md S q.1 q.2 j.toNatClampNeg)) :: sa) S) : z_gw p l e R s m args below meth c Q D A md sc α0 n0 n1 nL pc la (.inl j :: .inr (.inr q) :: sa) S := by
  refine ⟨g.1, fun α cA ls H locs hR hl hv => ?_⟩
  have hk0 : z_aK q.1 ≠ 0 := by rw [hk]; decide
  obtain ⟨kq, t0, tys, hkn, hkq, hK, ht, he⟩ := z_arr hR (z_vh (z_vp hv)) hk0
  rw [z_bdR hk] at he
  have hR0 := hR
  obtain ⟨-, -, hmo, -, hP, -⟩ := hR
  have hlt : j.toNatClampNeg < z_aN q.1 q.2 := Nat.not_le.mp (fun h => (z_oob_in ho) (Or.inr h))
  have k2 := g.2 α cA ls H locs hR0 hl (z_vc ((hmo kq q hkn hkq).2 hk _ hlt) (z_vp2 hv))
  show W p l e R s m args below meth c H locs _ _ Q (F0 m pc ls (.int j :: z_cR α q :: sa.map (z_cV α)))
  rw [z_cR_ref (Nat.pos_iff_ne_zero.mp (z_aK_rng hk0).1)]
  unfold z_ty at ht; rw [hk] at ht
  refine va_aldq hx hb hK hP kq t0 he ht (z_oob_in ho) hd ?_
  have e1 : va_rf (if j.toNatClampNeg < z_aN q.1 q.2 then z_op α (z_re md S q.1 q.2 j.toNatClampNeg) else none) = z_cV α (.inr (.inr (z_re md S q.1 q.2 j.toNatClampNeg))) := by
    rw [if_pos hlt]
    show _ = z_cR α _
    unfold z_op z_cR
    split <;> rfl
  rw [e1]
  exact k2
theorem z_astI {j v v' : Int32} {q : Nat × Nat} {ins : Instr} (hx : p.tables.exec = Jvm.exec) (hb : c.code = cc) (hd : decode cc pc = .ok (ins, 1)) (hk : (z_aK q.1 = 1 ∧ ins = .iastore ∧ v' = v) ∨ (z_aK q.1 = 2 ∧ ins = .bastore ∧ v' = vp_nar .boolean v) ∨ (z_aK q.1 = 3 ∧ ins = .bastore ∧ v' = vp_nar .byte v)) (ho : z_oob j (z_aN q.1 q.2) = false)
    (g : z_gw p l e R s m args below meth c Q D A md sc α0 n0 n1 nL (pc + 1) la sa (z_sI S q.1 q.2 j.toNatClampNeg v')) : z_gw p l e R s m args below meth c Q D A md sc α0 n0 n1 nL pc la (.inl v :: .inl j :: .inr (.inr q) :: sa) S := by
  refine z_op2 g rfl (fun hv => z_vp (z_vp2 hv)) (fun _ h => h) (fun α cA ls H locs cells slots hR hl hv k => ?_)
  have hk1 : z_aK q.1 = 1 ∨ z_aK q.1 = 2 ∨ z_aK q.1 = 3 := by rcases hk with ⟨h, -⟩ | ⟨h, -⟩ | ⟨h, -⟩ <;> simp [h]
  have hk0 : z_aK q.1 ≠ 0 := by rcases hk1 with h | h | h <;> rw [h] <;> decide
  obtain ⟨kq, t0, tys, hkn, hkq, hK, ht, he⟩ := z_arr hR (z_vh (z_vp2 hv)) hk0
  rw [z_bdI hk1] at he
  obtain ⟨-, -, -, -, hP, hD, hS, -⟩ := hR
  have e1 : upd (S.1 q.1 q.2) j.toNatClampNeg v' = (z_sI S q.1 q.2 j.toNatClampNeg v').1 q.1 q.2 := by
    funext i
    show (if i = _ then v' else S.1 q.1 q.2 i) = (if q.1 = q.1 ∧ q.2 = q.2 ∧ i = _ then v' else S.1 q.1 q.2 i)
    simp
  have hws := z_ws_set (α := α) (cA := cA) (md := md) (S := S) (S' := z_sI S q.1 q.2 j.toNatClampNeg v') (r := q) (b := .inl (cA q, z_aN q.1 q.2, .inl (upd (S.1 q.1 q.2) j.toNatClampNeg v'))) rfl hkn hkq (fun r' hr => z_bd_sI hr) (by rw [z_bdI hk1, e1])
  have kk : ∀ (H1 : Heap) (locs1 : List Loc), va_P D vwCl ((z_ws α cA md S).set kq (α q, .inl (cA q, z_aN q.1 q.2, .inl (upd (S.1 q.1 q.2) j.toNatClampNeg v')))) H1 → va_D A ((z_ws α cA md S).set kq (α q, .inl (cA q, z_aN q.1 q.2, .inl (upd (S.1 q.1 q.2) j.toNatClampNeg v')))) → va_S A s.heap H1 locs1 → W p l e R s m args below meth c H1 locs1 cells slots Q (F0 m (pc + 1) ls (sa.map (z_cV α))) := by
    intro H1 locs1 hP1 hD1 hS1
    rw [hws] at hP1 hD1
    exact k H1 locs1 hP1 hD1 hS1
  show W p l e R s m args below meth c H locs cells slots Q (F0 m pc ls (.int v :: .int j :: z_cR α q :: sa.map (z_cV α)))
  rw [z_cR_ref (Nat.pos_iff_ne_zero.mp (z_aK_rng hk0).1)]
  rcases hk with ⟨h, h2, h3⟩ | ⟨h, h2, h3⟩ | ⟨h, h2, h3⟩
  · subst h2; subst h3; unfold z_ty at ht; rw [h] at ht
    exact va_iast hx hb hK hP hD hS kq t0 he ht (z_oob_in ho) hd kk
  · subst h2; subst h3; unfold z_ty at ht; rw [h] at ht
    exact va_zast hx hb hK hP hD hS kq t0 he ht (z_oob_in ho) hd kk
  · subst h2; subst h3; unfold z_ty at ht; rw [h] at ht
    exact va_bast hx hb hK hP hD hS kq t0 he ht (z_oob_in ho) hd kk
theorem z_astL {j : Int32} {v : Int64} {q : Nat × Nat} (hx : p.tables.exec = Jvm.exec) (hb : c.code = cc) (hd : decode cc pc = .ok (.lastore, 1)) (hk : z_aK q.1 = 4) (ho : z_oob j (z_aN q.1 q.2) = false)
    (g : z_gw p l e R s m args below meth c Q D A md sc α0 n0 n1 nL (pc + 1) la sa (z_sL S q.1 q.2 j.toNatClampNeg v)) : z_gw p l e R s m args below meth c Q D A md sc α0 n0 n1 nL pc la (.inr (.inl v) :: .inl j :: .inr (.inr q) :: sa) S := by
  refine z_op2 g rfl (fun hv => z_vp (z_vp2 hv)) (fun _ h => h) (fun α cA ls H locs cells slots hR hl hv k => ?_)
  have hk0 : z_aK q.1 ≠ 0 := by rw [hk]; decide
  obtain ⟨kq, t0, tys, hkn, hkq, hK, ht, he⟩ := z_arr hR (z_vh (z_vp2 hv)) hk0
  rw [z_bdL hk] at he
  obtain ⟨-, -, -, -, hP, hD, hS, -⟩ := hR
  have e1 : vp_updL (S.2.1 q.1 q.2) j.toNatClampNeg v = (z_sL S q.1 q.2 j.toNatClampNeg v).2.1 q.1 q.2 := by
    funext i
    show (if i = _ then v else S.2.1 q.1 q.2 i) = (if q.1 = q.1 ∧ q.2 = q.2 ∧ i = _ then v else S.2.1 q.1 q.2 i)
    simp
  have hws := z_ws_set (α := α) (cA := cA) (md := md) (S := S) (S' := z_sL S q.1 q.2 j.toNatClampNeg v) (r := q) (b := .inl (cA q, z_aN q.1 q.2, .inr (.inl (vp_updL (S.2.1 q.1 q.2) j.toNatClampNeg v)))) rfl hkn hkq (fun r' hr => z_bd_sL hr) (by rw [z_bdL hk, e1])
  show W p l e R s m args below meth c H locs cells slots Q (F0 m pc ls (.long v :: .int j :: z_cR α q :: sa.map (z_cV α)))
  rw [z_cR_ref (Nat.pos_iff_ne_zero.mp (z_aK_rng hk0).1)]
  unfold z_ty at ht; rw [hk] at ht
  refine va_last hx hb hK hP hD hS kq t0 he ht (z_oob_in ho) hd (fun H1 locs1 hP1 hD1 hS1 => ?_)
  rw [hws] at hP1 hD1
  exact k H1 locs1 hP1 hD1 hS1
theorem z_sldS {j : Int32} {q : Nat × Nat} {L : Nat} {xs : Nat → Int32} (hx : p.tables.exec = Jvm.exec) (hb : c.code = cc) (hd : decode cc pc = .ok (.iaload, 1)) (hq : q.1 = 90) (hsc : sc = some (L, xs)) (ho : z_oob j L = false)
    (g : z_gw p l e R s m args below meth c Q D A md sc α0 n0 n1 nL (pc + 1) la (.inl (xs j.toNatClampNeg) :: sa) S) : z_gw p l e R s m args below meth c Q D A md sc α0 n0 n1 nL pc la (.inl j :: .inr (.inr q) :: sa) S := by
  refine z_op1 g (fun hv => z_vc trivial (z_vp2 hv)) (fun α cA ls H locs cells slots hR hl hv k => ?_)
  have e1 : q = (90, 0) := by
    rcases z_vh (z_vp hv) with h | h | ⟨k, -, h⟩
    · rw [hq] at h; cases h
    · exact h
    · have h1 := z_ord_at h; omega
  obtain ⟨-, -, -, -, -, -, hS, -, hsr⟩ := hR
  rw [hsc] at hsr
  obtain ⟨hX, hbl, hbA⟩ := hsr
  show W p l e R s m args below meth c H locs cells slots Q (F0 m pc ls (.int j :: z_cR α q :: sa.map (z_cV α)))
  rw [z_cR_ref (show q.1 ≠ 0 by omega), e1]
  exact va_sld hx hb hX hbl hbA hS (z_oob_in ho) hd (k ls hl)
theorem z_slnS {q : Nat × Nat} {L : Nat} {xs : Nat → Int32} (hx : p.tables.exec = Jvm.exec) (hb : c.code = cc) (hd : decode cc pc = .ok (.arraylength, 1)) (hq : q.1 = 90) (hsc : sc = some (L, xs))
    (g : z_gw p l e R s m args below meth c Q D A md sc α0 n0 n1 nL (pc + 1) la (.inl (Int32.ofNat L) :: sa) S) : z_gw p l e R s m args below meth c Q D A md sc α0 n0 n1 nL pc la (.inr (.inr q) :: sa) S := by
  refine z_op1 g (fun hv => z_vc trivial (z_vp hv)) (fun α cA ls H locs cells slots hR hl hv k => ?_)
  have e1 : q = (90, 0) := by
    rcases z_vh hv with h | h | ⟨k, -, h⟩
    · rw [hq] at h; cases h
    · exact h
    · have h1 := z_ord_at h; omega
  obtain ⟨-, -, -, -, -, -, hS, -, hsr⟩ := hR
  rw [hsc] at hsr
  obtain ⟨hX, hbl, hbA⟩ := hsr
  show W p l e R s m args below meth c H locs cells slots Q (F0 m pc ls (z_cR α q :: sa.map (z_cV α)))
  rw [z_cR_ref (show q.1 ≠ 0 by omega), e1]
  exact va_slen hx hb hX hbl hbA hS hd (k ls hl)
theorem z_len {q : Nat × Nat} (hx : p.tables.exec = Jvm.exec) (hb : c.code = cc) (hd : decode cc pc = .ok (.arraylength, 1)) (hk0 : z_aK q.1 ≠ 0)
    (g : z_gw p l e R s m args below meth c Q D A md sc α0 n0 n1 nL (pc + 1) la (.inl (Int32.ofNat (z_aN q.1 q.2)) :: sa) S) : z_gw p l e R s m args below meth c Q D A md sc α0 n0 n1 nL pc la (.inr (.inr q) :: sa) S := by
  refine z_op1 g (fun hv => z_vc trivial (z_vp hv)) (fun α cA ls H locs cells slots hR hl hv k => ?_)
  obtain ⟨kq, t0, tys, hkn, hkq, hK, ht, he⟩ := z_arr hR (z_vh hv) hk0
  obtain ⟨-, -, -, -, hP, -⟩ := hR
  have k2 := k ls hl
  show W p l e R s m args below meth c H locs cells slots Q (F0 m pc ls (z_cR α q :: sa.map (z_cV α)))
  rw [z_cR_ref (Nat.pos_iff_ne_zero.mp (z_aK_rng hk0).1)]
  have e1 : ∃ x : vp_A, z_bd α cA md S q = .inl (cA q, x) ∧ x.1 = z_aN q.1 q.2 := by
    unfold z_bd
    split
    · rename_i h; exact absurd h hk0
    · exact ⟨_, rfl, rfl⟩
    · exact ⟨_, rfl, rfl⟩
    · exact ⟨_, rfl, rfl⟩
  obtain ⟨x, h1, h2⟩ := e1
  rw [h1] at he
  exact va_alen hx hb hK hP kq t0 he ht (v := Int32.ofNat (z_aN q.1 q.2)) (by rw [h2]) hd k2
/-- a new name gets its place -/
def z_up {β : Type} (f : Nat × Nat → β) (r : Nat × Nat) (v : β) : Nat × Nat → β := fun q => if q = r then v else f q
theorem z_up_old {β : Type} {f : Nat × Nat → β} {n : Nat} {r q : Nat × Nat} {v : β} (hr : z_ord[n]? = some r) (h : z_okR n q) : z_up f r v q = f q := by
  have hne : q ≠ r := by
    have h1 := z_ord_at hr
    rcases h with h | h | ⟨k, hk, h⟩
    · intro e; rw [e] at h; omega
    · intro e; rw [e] at h; rw [h] at h1; omega
    · intro e; rw [e] at h; have := z_one h hr; omega
  exact if_neg hne
theorem z_cV_up {α : Nat × Nat → Nat} {n a : Nat} {r : Nat × Nat} {v : z_AV} (hr : z_ord[n]? = some r) (h : z_okV n v) : z_cV (z_up α r a) v = z_cV α v := by
  rcases v with x | x | q
  · rfl
  · rfl
  · show z_cR _ q = z_cR _ q
    unfold z_cR
    rw [z_up_old hr h]
theorem z_rst_ne {t i : Nat} {r : Nat × Nat} (h : r ≠ (t, i)) : (z_rst S t i).1 r.1 r.2 = S.1 r.1 r.2 ∧ (z_rst S t i).2.1 r.1 r.2 = S.2.1 r.1 r.2 ∧ (z_rst S t i).2.2.1 r.1 r.2 = S.2.2.1 r.1 r.2 := by
  have h2 : ¬ (r.1 = t ∧ r.2 = i) := fun q => h (Prod.ext q.1 q.2)
  refine ⟨funext fun j => ?_, funext fun j => ?_, funext fun j => ?_⟩
  · show (if r.1 = t ∧ r.2 = i then 0 else S.1 r.1 r.2 j) = _
    rw [if_neg h2]
  · show (if r.1 = t ∧ r.2 = i then 0 else S.2.1 r.1 r.2 j) = _
    rw [if_neg h2]
  · show (if r.1 = t ∧ r.2 = i then (0, 0) else S.2.2.1 r.1 r.2 j) = _
    rw [if_neg h2]
theorem z_bd_up {α : Nat × Nat → Nat} {cA : Nat × Nat → ClassId} {a k : Nat} {ca : ClassId} {r q : Nat × Nat} (hm : z_mok md S) (hr : z_ord[S.2.2.2]? = some r) (hk : k < S.2.2.2) (hq : z_ord[k]? = some q) : z_bd (z_up α r a) (z_up cA r ca) md S q = z_bd α cA md S q := by
  have hok : z_okR S.2.2.2 q := Or.inr (Or.inr ⟨k, hk, hq⟩)
  have hc : z_up cA r ca q = cA q := z_up_old hr hok
  have h1 : (List.range (z_nF q.1)).map (z_fv (z_up α r a) md S q.1 q.2) = (List.range (z_nF q.1)).map (z_fv α md S q.1 q.2) := by
    refine List.map_congr_left (fun j hj => ?_)
    unfold z_fv
    have hj2 : j < z_nF q.1 := List.mem_range.mp hj
    split
    · rfl
    · rfl
    · rename_i h0 h1
      have hs : z_shK q.1 j = 2 ∨ z_shK q.1 j = 3 := by
        rcases z_kd hj2 with h | h | h | h
        · exact absurd h h0
        · exact absurd h h1
        · exact Or.inl h
        · exact Or.inr h
      unfold z_cR
      rw [z_up_old hr ((hm k q hk hq).1 j hs)]
  have h2 : ∀ j, j < z_aN q.1 q.2 → z_aK q.1 = 5 → z_op (z_up α r a) (z_re md S q.1 q.2 j) = z_op α (z_re md S q.1 q.2 j) := by
    intro j hj h5
    unfold z_op
    rw [z_up_old hr ((hm k q hk hq).2 h5 j hj)]
  unfold z_bd
  rw [hc]
  split
  · rw [h1]
  · rfl
  · rename_i h5
    have h6 : (fun j => if j < z_aN q.1 q.2 then z_op (z_up α r a) (z_re md S q.1 q.2 j) else none) = (fun j => if j < z_aN q.1 q.2 then z_op α (z_re md S q.1 q.2 j) else none) := by
      funext j
      by_cases hj : j < z_aN q.1 q.2
      · rw [if_pos hj, if_pos hj, h2 j hj h5]
      · rw [if_neg hj, if_neg hj]
    rw [h6]
  · rfl
theorem z_lt176 {r : Nat × Nat} {n : Nat} (hr : z_ord[n]? = some r) : n < 176 := by
  have h := (List.getElem?_eq_some_iff.mp hr).1
  rw [z_ord_len] at h
  exact h
/-- something is made -/
theorem z_grow {r : Nat × Nat} {cost : Nat} (hR0 : n1 - n0 ≤ R.cells ∧ z_sz n1 - z_sz n0 ≤ R.slots) (hr : z_ord[S.2.2.2]? = some r) (hmd : md = false) (hcost : z_size r = cost)
    (g : z_gw p l e R s m args below meth c Q D A md sc α0 n0 n1 nL pc' la (.inr (.inr r) :: sa') (z_rst S r.1 r.2)) (hsa : ∃ u, sa = u ++ sa')
    (row : ∀ (α : Nat × Nat → Nat) (cA : Nat × Nat → ClassId) (ls : Array Slot) (H : Heap) (locs : List Loc) (cells slots : Nat), z_Rel s D A md sc α0 n0 α cA S H locs → z_LV α la ls nL → z_vok S.2.2.2 la sa → cells + 1 ≤ R.cells → slots + cost ≤ R.slots →
      (∀ (q : Nat) (cA1 : ClassId) (bd : va_E) (H1 : Heap) (tys : List (ClassId × FieldType)), z_bd (z_up α r q) (z_up cA r cA1) md (z_rst S r.1 r.2) r = bd → va_K D vwCl tys s → z_tok (z_up cA r cA1) (S.2.2.2 + 1) tys → va_P D vwCl (z_ws α cA md S ++ [(q, bd)]) H1 → va_D A (z_ws α cA md S ++ [(q, bd)]) → va_S A s.heap H1 locs →
        W p l e R s m args below meth c H1 locs (cells + 1) (slots + cost) Q (F0 m pc' ls (.ref q :: sa'.map (z_cV α)))) →
      W p l e R s m args below meth c H locs cells slots Q (F0 m pc ls (sa.map (z_cV α)))) : z_gw p l e R s m args below meth c Q D A md sc α0 n0 n1 nL pc la sa S := by
  have hn : S.2.2.2 + 1 ≤ n1 := g.1
  have hn176 := z_lt176 hr
  refine ⟨Nat.le_of_succ_le hn, fun α cA ls H locs hR hl hk => ?_⟩
  obtain ⟨⟨hn0, hn6⟩, hag, hmo, hKt, hP, hD, hS, hA, hsr⟩ := id hR
  have hs1 : z_sz S.2.2.2 + cost ≤ z_sz n1 := by rw [← hcost, ← z_sz_succ hr]; exact z_sz_le hn
  have hs0 : z_sz n0 ≤ z_sz S.2.2.2 := z_sz_le hn0
  refine row α cA ls H locs _ _ hR hl hk (by omega) (by omega) (fun q cA1 bd H1 tys hbd hK1 htk hP1 hD1 hS1 => ?_)
  subst hmd
  have hwsq : z_ws (z_up α r q) (z_up cA r cA1) false (z_rst S r.1 r.2) = z_ws α cA false S ++ [(q, bd)] := by
    apply List.ext_getElem?
    intro j
    have hlen := z_ws_len (α := α) (cA := cA) (md := false) hn6
    rw [List.getElem?_append, hlen]
    by_cases hj : j < S.2.2.2
    · rw [if_pos hj]
      obtain ⟨q2, hq2⟩ : ∃ q2, z_ord[j]? = some q2 := ⟨z_ord[j]'(by rw [z_ord_len]; omega), List.getElem?_eq_getElem _⟩
      rw [z_ws_get (S := S) hj hq2, z_ws_get (S := z_rst S r.1 r.2) (show j < S.2.2.2 + 1 by omega) hq2]
      have hne : q2 ≠ r := fun e => by rw [e] at hq2; have := z_one hq2 hr; omega
      obtain ⟨f1, f2, f3⟩ := z_rst_ne (S := S) (t := r.1) (i := r.2) (r := q2) hne
      rw [z_bd_cong (S := S) (S' := z_rst S r.1 r.2) f1 f2 f3, z_bd_up hmo hr hj hq2]
      have e1 : z_up α r q q2 = α q2 := if_neg hne
      rw [e1]
    · rw [if_neg hj]
      by_cases hj2 : j = S.2.2.2
      · subst hj2
        rw [z_ws_get (S := z_rst S r.1 r.2) (show S.2.2.2 < S.2.2.2 + 1 by omega) hr, hbd, Nat.sub_self]
        have e1 : z_up α r q r = q := if_pos rfl
        rw [e1]
        rfl
      · rw [List.getElem?_eq_none (by rw [z_ws_len (S := z_rst S r.1 r.2) (show S.2.2.2 + 1 ≤ 176 by omega)]; show S.2.2.2 + 1 ≤ j; omega), List.getElem?_eq_none (by simp; omega)]
  have hal : ∀ v, z_okV S.2.2.2 v → z_cV (z_up α r q) v = z_cV α v := fun v hv => z_cV_up hr hv
  obtain ⟨u, hu⟩ := hsa
  have hk' : ∀ v ∈ sa', z_okV S.2.2.2 v := fun v hv => hk.1 v (by rw [hu]; exact List.mem_append_right _ hv)
  have hstk : (Sum.inr (Sum.inr r) :: sa' : List z_AV).map (z_cV (z_up α r q)) = .ref q :: sa'.map (z_cV α) := by
    rw [List.map_cons]
    have h1 := z_ord_at hr
    have e1 : z_cV (z_up α r q) (.inr (.inr r)) = .ref q := by
      show z_cR _ r = _
      rw [z_cR_ref (by omega)]
      have e2 : z_up α r q r = q := if_pos rfl
      rw [e2]
    rw [e1]
    congr 1
    exact List.map_congr_left (fun v hv => hal v (hk' v hv))
  have hmo' : z_mok false (z_rst S r.1 r.2) := by
    intro k q2 hk2 hq2
    have hk3 : k < S.2.2.2 + 1 := hk2
    have hnew : z_okR (z_rst S r.1 r.2).2.2.2 (0, 0) := Or.inl rfl
    by_cases hne : q2 = r
    · subst hne
      have e1 : ∀ j, (z_rst S q2.1 q2.2).2.2.1 q2.1 q2.2 j = (0, 0) := fun j => by simp [z_rst]
      exact ⟨fun j _ => by show z_okR _ ((z_rst S q2.1 q2.2).2.2.1 q2.1 q2.2 j); rw [e1]; exact hnew, fun _ j _ => by show z_okR _ ((z_rst S q2.1 q2.2).2.2.1 q2.1 q2.2 j); rw [e1]; exact hnew⟩
    · have hk4 : k < S.2.2.2 := by
        rcases Nat.lt_or_ge k S.2.2.2 with h | h
        · exact h
        · have e : k = S.2.2.2 := by omega
          subst e
          rw [hr] at hq2
          exact absurd (Option.some.inj hq2).symm hne
      obtain ⟨-, -, f3⟩ := z_rst_ne (S := S) (t := r.1) (i := r.2) (r := q2) hne
      have h5 := hmo k q2 hk4 hq2
      refine ⟨fun j hj => ?_, fun h6 j hj => ?_⟩
      · show z_okR (S.2.2.2 + 1) ((z_rst S r.1 r.2).2.2.1 q2.1 q2.2 j)
        rw [f3]
        exact (h5.1 j hj).mono (Nat.le_succ _)
      · show z_okR (S.2.2.2 + 1) ((z_rst S r.1 r.2).2.2.1 q2.1 q2.2 j)
        rw [f3]
        exact (h5.2 h6 j hj).mono (Nat.le_succ _)
  have hlv : z_LV (z_up α r q) la ls nL := ⟨hl.1, hl.2.1, hl.2.2.1, fun i v hi => by rw [hal v (hk.2 v (List.mem_of_getElem? hi))]; exact hl.2.2.2 i v hi⟩
  have hb90 : z_up α r q (90, 0) = α (90, 0) := z_up_old hr (Or.inr (Or.inl rfl))
  have g2 := g.2 (z_up α r q) (z_up cA r cA1) ls H1 locs ⟨⟨Nat.le_succ_of_le hn0, (show S.2.2.2 + 1 ≤ 176 by omega)⟩, fun r2 h2 => (z_up_old hr (h2.mono hn0)).trans (hag r2 h2), hmo', ⟨tys, hK1, htk⟩, by rw [hwsq]; exact hP1, by rw [hwsq]; exact hD1, hS1, hA, by rw [hb90]; exact hsr⟩ hlv
    ⟨fun v hv => by
      rcases List.mem_cons.mp hv with e | e
      · rw [e]; exact Or.inr (Or.inr ⟨S.2.2.2, (show S.2.2.2 < S.2.2.2 + 1 by omega), hr⟩)
      · exact (hk' v e).mono (Nat.le_succ _), fun v hv => (hk.2 v hv).mono (Nat.le_succ _)⟩
  rw [hstk] at g2
  have e3 : (z_rst S r.1 r.2).2.2.2 - n0 = S.2.2.2 - n0 + 1 := by show S.2.2.2 + 1 - n0 = _; omega
  have e4 : z_sz (z_rst S r.1 r.2).2.2.2 - z_sz n0 = z_sz S.2.2.2 - z_sz n0 + cost := by show z_sz (S.2.2.2 + 1) - z_sz n0 = _; rw [z_sz_succ hr, hcost]; omega
  rw [e3, e4] at g2
  exact g2
theorem z_st_okL {α : Nat × Nat → Nat} {l' : z_Lc} {a : Nat} {v : z_AV} (hl : la.length = nL) (ha : a + 1 < nL) (h : z_st la a v = some l') (ls' : Array Slot) (hls : lv_has ls' nL ((a, z_cV α v) :: (z_asc α la).filter (fun q => !(q.1 == a) && (!(q.1 == a + 1) && !(q.1 + 1 == a && q.2.category == 2))))) : z_LV α (l'.set (a + 1) none) ls' nL := by
  have h0 : l' = la.set a (some v) ∧ ∀ j u, j + 1 = a → la[j]? = some (some u) → ¬ ∃ x, u = .inr (.inl x) := by
    unfold z_st at h
    cases a with
    | zero => exact ⟨(Option.some.inj h).symm, fun j u e => by omega⟩
    | succ j =>
      dsimp only at h
      split at h
      · cases h
      · rename_i hne
        refine ⟨(Option.some.inj h).symm, fun j' u e hu ⟨x, hx⟩ => ?_⟩
        have e2 : j' = j := by omega
        subst e2
        subst hx
        refine hne x ?_
        rw [List.getD_eq_getElem?_getD, hu]
        rfl
  rw [h0.1]
  refine ⟨by rw [List.length_set, List.length_set]; exact hl, hls.1, hls.2.1, fun i u hi => ?_⟩
  rw [List.getElem?_set] at hi
  by_cases e1 : a + 1 = i
  · rw [if_pos e1] at hi
    split at hi <;> cases hi
  · rw [if_neg e1, List.getElem?_set] at hi
    by_cases e : a = i
    · subst e
      rw [if_pos rfl, if_pos (by omega)] at hi
      have e2 : v = u := Option.some.inj (Option.some.inj hi)
      subst e2
      exact hls.2.2 _ List.mem_cons_self
    · rw [if_neg e] at hi
      refine hls.2.2 (i, z_cV α u) (List.mem_cons_of_mem _ (List.mem_filter.mpr ⟨z_asc_in hi, ?_⟩))
      by_cases e3 : i + 1 = a
      · have h3 := h0.2 i u e3 hi
        have h4 : ¬ (z_cV α u).category = 2 := fun q => h3 ((z_cat_of α u).mp q)
        simp [Ne.symm e, Ne.symm e1, h4]
      · simp [Ne.symm e, Ne.symm e1, e3]
theorem z_sw_ok {ρ : Type} (sw : List (Int32 × Nat)) (v : Int32) (f : Nat → ρ) (d : Nat) : (z_sw sw v f d = f d ∧ ∀ q ∈ sw, v ≠ q.1) ∨ ∃ (k : Nat) (q : Int32 × Nat), sw[k]? = some q ∧ v = q.1 ∧ z_sw sw v f d = f q.2 := by
  induction sw with
  | nil => exact Or.inl ⟨rfl, fun q hq => by cases hq⟩
  | cons q r ih =>
    by_cases hv : v = q.1
    · exact Or.inr ⟨0, q, rfl, hv, if_pos hv⟩
    · have e : z_sw (q :: r) v f d = z_sw r v f d := if_neg hv
      rcases ih with ⟨h1, h2⟩ | ⟨k, q2, h1, h2, h3⟩
      · refine Or.inl ⟨e.trans h1, fun q2 hq2 => ?_⟩
        rcases List.mem_cons.mp hq2 with h | h
        · rw [h]; exact hv
        · exact h2 q2 h
      · exact Or.inr ⟨k + 1, q2, h1, h2, e.trans h3⟩
def z_dv (k : Nat) : Value := match k with
  | 0 => .int 0
  | 1 => .int 0
  | _ => .null
theorem z_bd_new {α' : Nat × Nat → Nat} {cA' : Nat × Nat → ClassId} {r : Nat × Nat} (hmd : md = false) (h : z_aK r.1 = 0) : z_bd α' cA' md (z_rst S r.1 r.2) r = .inr (r.1 - 1, (List.range (z_nF r.1)).map (fun j => z_dv (z_shK r.1 j))) := by
  subst hmd
  rw [z_bdO h]
  congr 2
  refine List.map_congr_left (fun j _ => ?_)
  unfold z_fv
  have e1 : (z_rst S r.1 r.2).1 r.1 r.2 j = 0 := by simp [z_rst]
  have e2 : z_rv false (z_rst S r.1 r.2) r.1 r.2 j = (0, 0) := by show (z_rst S r.1 r.2).2.2.1 r.1 r.2 j = _; simp [z_rst]
  rw [e1, e2]
  generalize z_shK r.1 j = k
  match k with
  | 0 => rfl
  | 1 => rfl
  | k + 2 => rfl
theorem z_tok_new0 {cA : Nat × Nat → ClassId} {r : Nat × Nat} {n : Nat} {cA1 : ClassId} {tys : List (ClassId × FieldType)} (hr : z_ord[n]? = some r) (h0 : z_aK r.1 = 0) (h : z_tok cA n tys) : z_tok (z_up cA r cA1) (n + 1) tys := by
  intro k q hk hq ha
  rcases Nat.lt_or_ge k n with h1 | h1
  · rw [z_up_old hr (Or.inr (Or.inr ⟨k, h1, hq⟩))]
    exact h k q h1 hq ha
  · have e : k = n := by omega
    subst e
    rw [hr] at hq
    rw [← Option.some.inj hq] at ha
    exact absurd h0 ha
theorem z_tok_new1 {cA : Nat × Nat → ClassId} {r : Nat × Nat} {n : Nat} {cA1 : ClassId} {tys : List (ClassId × FieldType)} (hr : z_ord[n]? = some r) (h : z_tok cA n tys) : z_tok (z_up cA r cA1) (n + 1) (tys ++ [(cA1, z_ty r.1)]) := by
  intro k q hk hq ha
  rcases Nat.lt_or_ge k n with h1 | h1
  · rw [z_up_old hr (Or.inr (Or.inr ⟨k, h1, hq⟩))]
    obtain ⟨t0, ht⟩ := h k q h1 hq ha
    exact ⟨t0, by rw [List.getElem?_append_left (List.getElem?_eq_some_iff.mp ht).1]; exact ht⟩
  · have e : k = n := by omega
    subst e
    rw [hr] at hq
    have e2 := Option.some.inj hq
    subst e2
    have e3 : z_up cA r cA1 r = cA1 := if_pos rfl
    rw [e3]
    exact ⟨tys.length, by simp⟩
theorem z_ordD {n a : Nat} (h : Nat.beq (z_ord.getD n (0, 0)).1 a = true) (ha : 0 < a) : z_ord[n]? = some (z_ord.getD n (0, 0)) ∧ (z_ord.getD n (0, 0)).1 = a := by
  have h1 := Nat.eq_of_beq_eq_true h
  refine ⟨?_, h1⟩
  rw [List.getD_eq_getElem?_getD] at h1 ⊢
  cases hz : z_ord[n]? with
  | none => rw [hz] at h1; exact absurd h1 (by show (0 : Nat) ≠ a; omega)
  | some r => rfl
theorem z_ordA {n : Nat} (h : z_aK (z_ord.getD n (0, 0)).1 ≠ 0) : z_ord[n]? = some (z_ord.getD n (0, 0)) := by
  rw [List.getD_eq_getElem?_getD] at h ⊢
  cases hz : z_ord[n]? with
  | none => rw [hz] at h; exact absurd rfl h
  | some r => rfl
theorem z_vwC {a : Nat} (h0 : 0 < a) (h1 : a < 13) : ∃ (C : String) (T : u_T) (N : Nat), vwCl[a - 1]? = some (C, T, N) ∧ z_CF (a - 1) C T N ∧ z_cn a = C := by
  have hl : a - 1 < vwCl.length := by show a - 1 < 12; omega
  obtain ⟨⟨C, T, N⟩, hq⟩ : ∃ q, vwCl[a - 1]? = some q := ⟨_, List.getElem?_eq_getElem hl⟩
  have hcf := z_cf _ _ _ _ hq
  refine ⟨C, T, N, hq, hcf, ?_⟩
  obtain ⟨-, -, -, -, -, e, -⟩ := hcf
  rw [e, Nat.sub_add_cancel h0]
theorem z_newO {i a : Nat} (C0 : z_Ct p R s m args meth c cc nL o ini n0 n1) (hd : decode cc pc = .ok (.new i, 3)) (hnl : (o, i, a) ∈ z_nl) (ha0 : 0 < a) (ha13 : a < 13) (hmd : md = false) (hr : z_ord[S.2.2.2]? = some (z_ord.getD S.2.2.2 (0, 0))) (hra : (z_ord.getD S.2.2.2 (0, 0)).1 = a)
    (g : z_gw p l e R s m args below meth c Q D A md sc α0 n0 n1 nL (pc + 3) la (.inr (.inr (z_ord.getD S.2.2.2 (0, 0))) :: sa) (z_rst S (z_ord.getD S.2.2.2 (0, 0)).1 (z_ord.getD S.2.2.2 (0, 0)).2)) : z_gw p l e R s m args below meth c Q D A md sc α0 n0 n1 nL pc la sa S := by
  obtain ⟨hx, hb, hml, hown, hts, hnw, hini, hR0, hRf, hRl⟩ := C0
  generalize z_ord.getD S.2.2.2 (0, 0) = r at hr hra g
  obtain ⟨C, T, N, hvc, hcf, hcn⟩ := z_vwC ha0 ha13
  obtain ⟨hin, ⟨ty, hty, hkd⟩, hnm, hN, haK, -, -, hdecl, hon⟩ := hcf
  rw [Nat.sub_add_cancel ha0] at hN haK hkd hon
  rw [← hra] at hN haK hkd
  refine z_grow hR0 hr hmd (cost := N) (by unfold z_size; rw [haK, hN]; rfl) g ⟨[], rfl⟩ (fun α cA ls H locs cells slots hR hl hk hc1 hc2 k => ?_)
  obtain ⟨-, -, hmo, ⟨tys, hK, htk⟩, hP, hD, hS, hA, -⟩ := hR
  have hw1 := hts _ (z_wt (z_nl_in _ hnl))
  have hw2 := hts _ (z_wt (z_it_in a (by unfold z_it z_it_0; simp; omega)))
  have hw3 := hts _ (z_wt (z_in_in a (by unfold z_in z_in_0; simp; omega)))
  unfold z_nlw at hw1
  unfold z_itw at hw2
  unfold z_inw at hw3
  dsimp only at hw1
  rw [hcn] at hw1 hw2
  rw [← hon] at hw3
  rw [show z_nF a = N by rw [← hra, hN]] at hw2
  refine va_new (ci := a - 1) (fs := (List.range (z_nF r.1)).map (fun j => z_dv (z_shK r.1 j))) hx hb hts (fun w hw => z_wt (hin w hw)) ty hty hown hw1 hw2 hw3 hK hP hD hS hA hvc (fun j hj => ?_) hc1 hc2 hd (fun q H1 hP1 hD1 hS1 => ?_)
  · have e1 : vp_V ((List.range (z_nF r.1)).map (fun j => z_dv (z_shK r.1 j))) j = z_dv (z_shK r.1 j) := by
      unfold vp_V
      rw [List.getD_eq_getElem?_getD, List.getElem?_map, List.getElem?_range (by omega)]
      rfl
    rw [e1]
    rcases hkd j hj with ⟨h0, h1⟩ | ⟨h0, h1⟩ | ⟨h0, h1⟩
    · rw [h0, h1]; rfl
    · rw [h0, h1]; rfl
    · rcases h0 with h0 | h0 <;> rcases h1 with ⟨n, h1⟩ | ⟨n, h1⟩ <;> rw [h0, h1] <;> rfl
  · refine k q 0 (.inr (r.1 - 1, (List.range (z_nF r.1)).map (fun j => z_dv (z_shK r.1 j)))) H1 tys (z_bd_new hmd haK) hK (z_tok_new0 hr haK htk) ?_ ?_ hS1
    · rw [hra]; rw [hra] at hP1; exact hP1
    · rw [hra]; rw [hra] at hD1; exact hD1
theorem z_newA {j : Int32} {a : Nat} {k0 : ArrayType} {ty : FieldType} (C0 : z_Ct p R s m args meth c cc nL o ini n0 n1) (hd : decode cc pc = .ok (.newarray k0, 2)) (hk0 : newarray.typeOf k0 = ty) (hac : Cond.arrayClass ty ∈ z_WT) (hcb : componentBytes ty ≤ 8) (hmd : md = false) (hra : z_aK (z_ord.getD S.2.2.2 (0, 0)).1 = a)
    (hak : (a = 1 ∧ ty = .int) ∨ (a = 2 ∧ ty = .boolean) ∨ (a = 3 ∧ ty = .byte) ∨ (a = 4 ∧ ty = .long)) (hj : j = Int32.ofNat (z_aN (z_ord.getD S.2.2.2 (0, 0)).1 (z_ord.getD S.2.2.2 (0, 0)).2))
    (g : z_gw p l e R s m args below meth c Q D A md sc α0 n0 n1 nL (pc + 2) la (.inr (.inr (z_ord.getD S.2.2.2 (0, 0))) :: sa) (z_rst S (z_ord.getD S.2.2.2 (0, 0)).1 (z_ord.getD S.2.2.2 (0, 0)).2)) : z_gw p l e R s m args below meth c Q D A md sc α0 n0 n1 nL pc la (.inl j :: sa) S := by
  obtain ⟨hx, hb, hml, hown, hts, hnw, hini, hR0, hRf, hRl⟩ := C0
  have ha0 : a ≠ 0 := by rcases hak with ⟨h, -⟩ | ⟨h, -⟩ | ⟨h, -⟩ | ⟨h, -⟩ <;> rw [h] <;> decide
  have hr := z_ordA (n := S.2.2.2) (by rw [hra]; exact ha0)
  generalize z_ord.getD S.2.2.2 (0, 0) = r at hr hra g hj
  have hN : z_aN r.1 r.2 ≤ 600 := by
    have h1 := List.all_eq_true.mp (show (z_ord.all (fun r => Nat.ble (z_aN r.1 r.2) 600)) = true by decide +kernel) r (List.mem_of_getElem? hr)
    exact Nat.le_of_ble_eq_true h1
  have hjn : j.toNatClampNeg = z_aN r.1 r.2 ∧ ¬ j < 0 := by rw [hj]; exact ⟨nI_clamp (Nat.lt_of_le_of_lt hN (by decide)), nI_pos (Nat.lt_of_le_of_lt hN (by decide))⟩
  have hty : z_ty r.1 = ty := by
    unfold z_ty
    rw [hra]
    rcases hak with ⟨h, h2⟩ | ⟨h, h2⟩ | ⟨h, h2⟩ | ⟨h, h2⟩ <;> (rw [h, h2]; try rfl)
  refine z_grow hR0 hr hmd (cost := z_aN r.1 r.2) (by unfold z_size; rw [hra]; cases hb0 : Nat.beq a 0 with | true => exact absurd (Nat.eq_of_beq_eq_true hb0) ha0 | false => rfl) g ⟨[.inl j], rfl⟩ (fun α cA ls H locs cells slots hR hl hk hc1 hc2 k => ?_)
  obtain ⟨-, -, hmo, ⟨tys, hK, htk⟩, hP, hD, hS, hA, -⟩ := hR
  have hw1 := hts _ hac
  have e1 : ∀ i, (z_rst S r.1 r.2).1 r.1 r.2 i = 0 := fun i => by simp [z_rst]
  have e2 : ∀ i, (z_rst S r.1 r.2).2.1 r.1 r.2 i = 0 := fun i => by simp [z_rst]
  show W p l e R s m args below meth c H locs cells slots Q (F0 m pc ls (.int j :: sa.map (z_cV α)))
  by_cases h4 : a = 4
  · have h5 : ty = .long := by rcases hak with ⟨h, h2⟩ | ⟨h, h2⟩ | ⟨h, h2⟩ | ⟨h, h2⟩ <;> first | exact h2 | (rw [h4] at h; cases h)
    subst h5
    refine va_newa (a0 := (z_aN r.1 r.2, .inr (.inl (fun _ => 0)))) hx hb (by rw [hk0]; exact hw1) hk0 hK hP hD hS hA (fun cA1 => rfl) hjn.2 hjn.1 (Nat.le_trans (Nat.mul_le_mul hN hcb) (by decide)) hc1 hc2 hd (fun q cA1 H1 hK1 hP1 hD1 hS1 => ?_)
    refine k q cA1 _ H1 _ (by rw [z_bdL (hra.trans h4)]; rw [show (z_rst S r.1 r.2).2.1 r.1 r.2 = fun _ => 0 from funext e2, show z_up cA r cA1 r = cA1 from if_pos rfl]) hK1 ?_ hP1 hD1 hS1
    rw [← hty]
    exact z_tok_new1 hr htk
  · have h5 : z_aK r.1 = 1 ∨ z_aK r.1 = 2 ∨ z_aK r.1 = 3 := by rw [hra]; rcases hak with ⟨h, -⟩ | ⟨h, -⟩ | ⟨h, -⟩ | ⟨h, -⟩ <;> first | (simp [h]; done) | exact absurd h h4
    have h6 : ∀ cA1 : ClassId, vp_cell cA1 (z_aN r.1 r.2, .inl (fun _ => 0)) = arrV cA1 (z_aN r.1 r.2) (fun _ => defaultValue ty) := by
      intro cA1
      rcases hak with ⟨h, h2⟩ | ⟨h, h2⟩ | ⟨h, h2⟩ | ⟨h, h2⟩
      · rw [h2]; rfl
      · rw [h2]; rfl
      · rw [h2]; rfl
      · exact absurd h h4
    refine va_newa (a0 := (z_aN r.1 r.2, .inl (fun _ => 0))) hx hb (by rw [hk0]; exact hw1) hk0 hK hP hD hS hA h6 hjn.2 hjn.1 (Nat.le_trans (Nat.mul_le_mul hN hcb) (by decide)) hc1 hc2 hd (fun q cA1 H1 hK1 hP1 hD1 hS1 => ?_)
    refine k q cA1 _ H1 _ (by rw [z_bdI h5]; rw [show (z_rst S r.1 r.2).1 r.1 r.2 = fun _ => 0 from funext e1, show z_up cA r cA1 r = cA1 from if_pos rfl]) hK1 ?_ hP1 hD1 hS1
    rw [← hty]
    exact z_tok_new1 hr htk
theorem z_newQ {j : Int32} {i a : Nat} (C0 : z_Ct p R s m args meth c cc nL o ini n0 n1) (hd : decode cc pc = .ok (.anewarray i, 3)) (hnl : (o, i, a) ∈ z_nl) (hal : a ∈ z_al) (hmd : md = false) (hra : z_aK (z_ord.getD S.2.2.2 (0, 0)).1 = 5) (het : z_eT (z_ord.getD S.2.2.2 (0, 0)).1 = a)
    (hj : j = Int32.ofNat (z_aN (z_ord.getD S.2.2.2 (0, 0)).1 (z_ord.getD S.2.2.2 (0, 0)).2))
    (g : z_gw p l e R s m args below meth c Q D A md sc α0 n0 n1 nL (pc + 3) la (.inr (.inr (z_ord.getD S.2.2.2 (0, 0))) :: sa) (z_rst S (z_ord.getD S.2.2.2 (0, 0)).1 (z_ord.getD S.2.2.2 (0, 0)).2)) : z_gw p l e R s m args below meth c Q D A md sc α0 n0 n1 nL pc la (.inl j :: sa) S := by
  obtain ⟨hx, hb, hml, hown, hts, hnw, hini, hR0, hRf, hRl⟩ := C0
  have hr := z_ordA (n := S.2.2.2) (by rw [hra]; decide)
  generalize z_ord.getD S.2.2.2 (0, 0) = r at hr hra g hj het
  have hN : z_aN r.1 r.2 ≤ 600 := by
    have h1 := List.all_eq_true.mp (show (z_ord.all (fun r => Nat.ble (z_aN r.1 r.2) 600)) = true by decide +kernel) r (List.mem_of_getElem? hr)
    exact Nat.le_of_ble_eq_true h1
  have hjn : j.toNatClampNeg = z_aN r.1 r.2 ∧ ¬ j < 0 := by rw [hj]; exact ⟨nI_clamp (Nat.lt_of_le_of_lt hN (by decide)), nI_pos (Nat.lt_of_le_of_lt hN (by decide))⟩
  have hty : z_ty r.1 = .object (z_cn a) := by unfold z_ty; rw [hra, het]; rfl
  refine z_grow hR0 hr hmd (cost := z_aN r.1 r.2) (by unfold z_size; rw [hra]; rfl) g ⟨[.inl j], rfl⟩ (fun α cA ls H locs cells slots hR hl hk hc1 hc2 k => ?_)
  obtain ⟨-, -, hmo, ⟨tys, hK, htk⟩, hP, hD, hS, hA, -⟩ := hR
  have hw1 := hts _ (z_wt (z_nl_in _ hnl))
  unfold z_nlw at hw1
  dsimp only at hw1
  show W p l e R s m args below meth c H locs cells slots Q (F0 m pc ls (.int j :: sa.map (z_cV α)))
  refine va_newq hx hb hown hw1 (hnw.2 a hal) hK hP hD hS hA hjn.2 hjn.1 (Nat.le_trans (Nat.mul_le_mul_right 4 hN) (by decide)) hc1 hc2 hd (fun q cA1 H1 hK1 hP1 hD1 hS1 => ?_)
  refine k q cA1 _ H1 _ ?_ hK1 ?_ hP1 hD1 hS1
  · rw [z_bdR hra, show z_up cA r cA1 r = cA1 from if_pos rfl]
    have e0 : (fun i2 => if i2 < z_aN r.1 r.2 then z_op (z_up α r q) (z_re md (z_rst S r.1 r.2) r.1 r.2 i2) else none) = fun _ => none := by
      funext i2
      have e1 : z_re md (z_rst S r.1 r.2) r.1 r.2 i2 = (0, 0) := by subst hmd; show (z_rst S r.1 r.2).2.2.1 r.1 r.2 i2 = _; simp [z_rst]
      rw [e1]
      split <;> rfl
    rw [e0]
  · rw [← hty]
    exact z_tok_new1 hr htk
theorem z_eT5 {t : Nat} (h : z_aK t = 5) : 0 < z_eT t ∧ z_eT t < 13 := by
  have h1 := (z_aK_rng (show z_aK t ≠ 0 by rw [h]; decide))
  have h2 := List.all_eq_true.mp (show (List.range 90).all (fun t => !Nat.beq (z_aK t) 5 || (Nat.blt 0 (z_eT t) && Nat.blt (z_eT t) 13)) = true by decide +kernel) t (List.mem_range.mpr h1.2)
  rw [h] at h2
  simpa [Nat.blt_eq] using h2
theorem z_astR {j : Int32} {q v : Nat × Nat} (hx : p.tables.exec = Jvm.exec) (hb : c.code = cc) (hd : decode cc pc = .ok (.aastore, 1)) (hmd : md = false) (hk : z_aK q.1 = 5) (hv1 : v.1 = z_eT q.1) (ho : z_oob j (z_aN q.1 q.2) = false)
    (g : z_gw p l e R s m args below meth c Q D A md sc α0 n0 n1 nL (pc + 1) la sa (z_sR S q.1 q.2 j.toNatClampNeg v)) : z_gw p l e R s m args below meth c Q D A md sc α0 n0 n1 nL pc la (.inr (.inr v) :: .inl j :: .inr (.inr q) :: sa) S := by
  subst hmd
  have hv0 := z_eT5 hk
  rw [← hv1] at hv0
  obtain ⟨C, T, N, hvc, hcf, hcn⟩ := z_vwC hv0.1 hv0.2
  obtain ⟨-, -, -, -, haK, -⟩ := hcf
  rw [Nat.sub_add_cancel hv0.1] at haK
  have hne5 : ∀ t, z_aK t = 5 ∨ True := fun _ => Or.inr trivial
  have e2 : ∀ t i k, ¬ (t = q.1 ∧ i = q.2 ∧ k = j.toNatClampNeg) → (z_sR S q.1 q.2 j.toNatClampNeg v).2.2.1 t i k = S.2.2.1 t i k := fun t i k h => if_neg h
  have hlt : j.toNatClampNeg < z_aN q.1 q.2 := Nat.not_le.mp (fun h => (z_oob_in ho) (Or.inr h))
  have hnf : z_nF q.1 = 0 := by
    have h1 := (z_aK_rng (show z_aK q.1 ≠ 0 by rw [hk]; decide))
    have h2 := List.all_eq_true.mp (show (List.range 90).all (fun t => !Nat.beq (z_aK t) 5 || Nat.beq (z_nF t) 0) = true by decide +kernel) q.1 (List.mem_range.mpr h1.2)
    rw [hk] at h2
    simpa using h2
  refine z_op2 g rfl (fun hv => z_vp (z_vp2 hv)) (fun hv hm k r hkn hkr => ⟨fun i hi => ?_, fun h5 i hi => ?_⟩) (fun α cA ls H locs cells slots hR hl hv k => ?_)
  · by_cases hne : r.1 = q.1 ∧ r.2 = q.2 ∧ i = j.toNatClampNeg
    · show z_okR _ ((z_sR S q.1 q.2 j.toNatClampNeg v).2.2.1 r.1 r.2 i)
      have e0 : (z_sR S q.1 q.2 j.toNatClampNeg v).2.2.1 r.1 r.2 i = v := if_pos hne
      rw [e0]
      exact z_vh hv
    · show z_okR _ ((z_sR S q.1 q.2 j.toNatClampNeg v).2.2.1 r.1 r.2 i)
      rw [e2 _ _ _ hne]
      exact (hm k r hkn hkr).1 i hi
  · by_cases hne : r.1 = q.1 ∧ r.2 = q.2 ∧ i = j.toNatClampNeg
    · show z_okR _ ((z_sR S q.1 q.2 j.toNatClampNeg v).2.2.1 r.1 r.2 i)
      have e0 : (z_sR S q.1 q.2 j.toNatClampNeg v).2.2.1 r.1 r.2 i = v := if_pos hne
      rw [e0]
      exact z_vh hv
    · show z_okR _ ((z_sR S q.1 q.2 j.toNatClampNeg v).2.2.1 r.1 r.2 i)
      rw [e2 _ _ _ hne]
      exact (hm k r hkn hkr).2 h5 i hi
  obtain ⟨kq, t0, tys, hkn, hkq, hK, ht, he⟩ := z_arr hR (z_vh (z_vp2 hv)) (show z_aK q.1 ≠ 0 by rw [hk]; decide)
  rw [z_bdR hk] at he
  obtain ⟨-, -, -, -, hP, hD, hS, -⟩ := hR
  obtain ⟨kv, hvn, hvq⟩ := z_okR.at (z_vh hv) hv0.1 (by omega)
  have hev := z_ws_get (α := α) (cA := cA) (md := false) hvn hvq
  rw [z_bdO haK] at hev
  unfold z_ty at ht
  rw [hk] at ht
  have ht : tys[t0]? = some (cA q, .object C) := by rw [← hcn, hv1]; exact ht
  have e3 : va_up (fun i => if i < z_aN q.1 q.2 then z_op α (z_re false S q.1 q.2 i) else none) j.toNatClampNeg (some (α v)) = (fun i => if i < z_aN q.1 q.2 then z_op α (z_re false (z_sR S q.1 q.2 j.toNatClampNeg v) q.1 q.2 i) else none) := by
    funext i
    by_cases hi : i = j.toNatClampNeg
    · subst hi
      rw [va_up_self, if_pos hlt]
      have e0 : z_re false (z_sR S q.1 q.2 j.toNatClampNeg v) q.1 q.2 j.toNatClampNeg = v := by
        show (if q.1 = q.1 ∧ q.2 = q.2 ∧ _ = _ then v else _) = v
        rw [if_pos ⟨rfl, rfl, rfl⟩]
      rw [e0]
      unfold z_op
      rw [if_neg (by omega)]
    · rw [va_up_ne _ _ hi]
      have e0 : z_re false (z_sR S q.1 q.2 j.toNatClampNeg v) q.1 q.2 i = z_re false S q.1 q.2 i := e2 _ _ _ (fun h => hi h.2.2)
      rw [e0]
  have hws := z_ws_set (α := α) (cA := cA) (md := false) (S := S) (S' := z_sR S q.1 q.2 j.toNatClampNeg v) (r := q) (b := .inl (cA q, z_aN q.1 q.2, .inr (.inr (.inr (.inr (va_up (fun i => if i < z_aN q.1 q.2 then z_op α (z_re false S q.1 q.2 i) else none) j.toNatClampNeg (some (α v)))))))) rfl hkn hkq (fun r' hr => z_bd_sR hr) (by rw [z_bdR hk, e3])
  show W p l e R s m args below meth c H locs cells slots Q (F0 m pc ls (z_cR α v :: .int j :: z_cR α q :: sa.map (z_cV α)))
  rw [z_cR_ref (show v.1 ≠ 0 by omega), z_cR_ref (show q.1 ≠ 0 from fun e => by rw [e] at hk; cases hk)]
  refine va_astq (r := (C, T, N)) hx hb hK hP hD hS kq t0 kv (v.1 - 1) he ht hev hvc (z_oob_in ho) hd (fun H1 locs1 hP1 hD1 hS1 => ?_)
  rw [hws] at hP1 hD1
  exact k H1 locs1 hP1 hD1 hS1
set_option maxHeartbeats 4000000 in
theorem z_stp_ok {ρ : Type} {κ : Nat → z_Lc → List z_AV → z_Mem → Option ρ} {res : ρ} {ins : Instr} {len a b k : Nat} {x : Int32} {sw : List (Int32 × Nat)} (C0 : z_Ct p R s m args meth c cc nL o ini n0 n1) (hd : decode cc pc = .ok (ins, len)) (hck : z_ck o nL ini ins len a b k x sw pc = true)
    (h : z_stp md sc ins a b k x sw pc la sa S κ = some res) (hκ : ∀ pc' la' sa' S', κ pc' la' sa' S' = some res → z_gw p l e R s m args below meth c Q D A md sc α0 n0 n1 nL pc' la' sa' S') : z_gw p l e R s m args below meth c Q D A md sc α0 n0 n1 nL pc la sa S := by
  have C1 := C0
  obtain ⟨hx, hb, hml, hown, hts, hnw, hini, ⟨hRc, hRs⟩, hRf, hRl⟩ := C0
  cases ins
  case iconst k =>
    have hck : (Nat.beq len 1 && decide (Int32.ofInt k = x)) = true := hck
    rw [Bool.and_eq_true] at hck
    obtain rfl : len = 1 := Nat.eq_of_beq_eq_true hck.1
    have hck := hck.2
    exact z_op1 (hκ _ _ _ _ h) (fun hv => z_vc trivial hv) (fun α cA ls H locs cells slots hR hl hv k => lv_iconst hx hb hd (of_decide_eq_true hck) (k ls hl))
  case bipush k =>
    have hck : (Nat.beq len 2 && decide ((Int8.ofInt k).toInt32 = x)) = true := hck
    rw [Bool.and_eq_true] at hck
    obtain rfl : len = 2 := Nat.eq_of_beq_eq_true hck.1
    have hck := hck.2
    exact z_op1 (hκ _ _ _ _ h) (fun hv => z_vc trivial hv) (fun α cA ls H locs cells slots hR hl hv k => lv_bipush hx hb hd (of_decide_eq_true hck) (k ls hl))
  case sipush k =>
    have hck : (Nat.beq len 3 && decide ((Int16.ofInt k).toInt32 = x)) = true := hck
    rw [Bool.and_eq_true] at hck
    obtain rfl : len = 3 := Nat.eq_of_beq_eq_true hck.1
    have hck := hck.2
    exact z_op1 (hκ _ _ _ _ h) (fun hv => z_vc trivial hv) (fun α cA ls H locs cells slots hR hl hv k => lv_sipush hx hb hd (of_decide_eq_true hck) (k ls hl))
  case ldc_w i =>
    have hck : (Nat.beq len 3 && decide ((o, i, x) ∈ z_ki)) = true := hck
    rw [Bool.and_eq_true] at hck
    obtain rfl : len = 3 := Nat.eq_of_beq_eq_true hck.1
    have hck := hck.2
    exact z_op1 (hκ _ _ _ _ h) (fun hv => z_vc trivial hv) (fun α cA ls H locs cells slots hR hl hv k => lv_ldcw hx hb hown (hts _ (z_wt (z_ki_in _ (of_decide_eq_true hck)))) hd (k ls hl))
  case ldc2_w i =>
    have hck : (Nat.beq len 3 && decide ((o, i, a) ∈ z_kl)) = true := hck
    rw [Bool.and_eq_true] at hck
    obtain rfl : len = 3 := Nat.eq_of_beq_eq_true hck.1
    have hck := hck.2
    exact z_op1 (hκ _ _ _ _ h) (fun hv => z_vc trivial hv) (fun α cA ls H locs cells slots hR hl hv k => lv_ldc2 hx hb hown (hts _ (z_wt (z_kl_in _ (of_decide_eq_true hck)))) hd (k ls hl))
  case lconst n =>
    have hck : Nat.beq len 1 = true := hck
    obtain rfl : len = 1 := Nat.eq_of_beq_eq_true hck
    exact z_op1 (hκ _ _ _ _ h) (fun hv => z_vc trivial hv) (fun α cA ls H locs cells slots hR hl hv k => lv_lconst hx hb hd rfl (k ls hl))
  case iload n =>
    have hck : (Nat.beq len 2 && Nat.beq n a) = true := hck
    rw [Bool.and_eq_true] at hck
    obtain rfl : len = 2 := Nat.eq_of_beq_eq_true hck.1
    have hck := hck.2
    obtain rfl := Nat.eq_of_beq_eq_true hck
    have h0 := h
    dsimp only [z_stp] at h
    split at h
    · rename_i v hi
      exact z_op1 (hκ _ _ _ _ h) (fun hv => z_vc trivial hv) (fun α cA ls H locs cells slots hR hl hv k => lv_iload hx hb hd (z_lv_get hl hi) (k ls hl))
    · cases h
  case iload_n n =>
    have hck : (Nat.beq len 1 && Nat.beq (n : Nat) a) = true := hck
    rw [Bool.and_eq_true] at hck
    obtain rfl : len = 1 := Nat.eq_of_beq_eq_true hck.1
    have hck := hck.2
    obtain rfl := Nat.eq_of_beq_eq_true hck
    have h0 := h
    dsimp only [z_stp] at h
    split at h
    · rename_i v hi
      exact z_op1 (hκ _ _ _ _ h) (fun hv => z_vc trivial hv) (fun α cA ls H locs cells slots hR hl hv k => lv_iload_n hx hb hd rfl (z_lv_get hl hi) (k ls hl))
    · cases h
  case lload n =>
    have hck : (Nat.beq len 2 && Nat.beq n a) = true := hck
    rw [Bool.and_eq_true] at hck
    obtain rfl : len = 2 := Nat.eq_of_beq_eq_true hck.1
    have hck := hck.2
    obtain rfl := Nat.eq_of_beq_eq_true hck
    have h0 := h
    dsimp only [z_stp] at h
    split at h
    · rename_i v hi
      exact z_op1 (hκ _ _ _ _ h) (fun hv => z_vc trivial hv) (fun α cA ls H locs cells slots hR hl hv k => lv_lload hx hb hd (z_lv_get hl hi) (k ls hl))
    · cases h
  case lload_n n =>
    have hck : (Nat.beq len 1 && Nat.beq (n : Nat) a) = true := hck
    rw [Bool.and_eq_true] at hck
    obtain rfl : len = 1 := Nat.eq_of_beq_eq_true hck.1
    have hck := hck.2
    obtain rfl := Nat.eq_of_beq_eq_true hck
    have h0 := h
    dsimp only [z_stp] at h
    split at h
    · rename_i v hi
      exact z_op1 (hκ _ _ _ _ h) (fun hv => z_vc trivial hv) (fun α cA ls H locs cells slots hR hl hv k => lv_lload_n hx hb hd rfl (z_lv_get hl hi) (k ls hl))
    · cases h
  case aload n =>
    have hck : (Nat.beq len 2 && Nat.beq n a) = true := hck
    rw [Bool.and_eq_true] at hck
    obtain rfl : len = 2 := Nat.eq_of_beq_eq_true hck.1
    have hck := hck.2
    obtain rfl := Nat.eq_of_beq_eq_true hck
    dsimp only [z_stp] at h
    split at h
    · rename_i v hi
      have h := z_b0 h
      exact z_op1 (hκ _ _ _ _ h.2) (fun hv => z_vc (z_nl_of hv hi) hv) (fun α cA ls H locs cells slots hR hl hv k => lv_aload hx hb hd (by rw [z_lv_get hl hi]; show _ = some (Slot.val (Value.ref (α v))); rw [show z_cV α (.inr (.inr v)) = .ref (α v) from z_cR_ref h.1]) (by have q := k ls hl; rw [show (Sum.inr (Sum.inr v) :: sa : List z_AV).map (z_cV α) = .ref (α v) :: sa.map (z_cV α) by rw [List.map_cons, show z_cV α (.inr (.inr v)) = .ref (α v) from z_cR_ref h.1]] at q; exact q))
    · cases h
  case aload_n n =>
    have hck : (Nat.beq len 1 && Nat.beq (n : Nat) a) = true := hck
    rw [Bool.and_eq_true] at hck
    obtain rfl : len = 1 := Nat.eq_of_beq_eq_true hck.1
    have hck := hck.2
    obtain rfl := Nat.eq_of_beq_eq_true hck
    dsimp only [z_stp] at h
    split at h
    · rename_i v hi
      have h := z_b0 h
      exact z_op1 (hκ _ _ _ _ h.2) (fun hv => z_vc (z_nl_of hv hi) hv) (fun α cA ls H locs cells slots hR hl hv k => lv_aload_n hx hb hd rfl (by rw [z_lv_get hl hi]; show _ = some (Slot.val (Value.ref (α v))); rw [show z_cV α (.inr (.inr v)) = .ref (α v) from z_cR_ref h.1]) (by have q := k ls hl; rw [show (Sum.inr (Sum.inr v) :: sa : List z_AV).map (z_cV α) = .ref (α v) :: sa.map (z_cV α) by rw [List.map_cons, show z_cV α (.inr (.inr v)) = .ref (α v) from z_cR_ref h.1]] at q; exact q))
    · cases h
  case istore n =>
    have hck : (Nat.beq len 2 && (Nat.beq n a && Nat.blt a nL)) = true := hck
    rw [Bool.and_eq_true] at hck
    obtain rfl : len = 2 := Nat.eq_of_beq_eq_true hck.1
    have hck := hck.2
    rw [Bool.and_eq_true] at hck
    obtain rfl := Nat.eq_of_beq_eq_true hck.1
    dsimp only [z_stp] at h
    split at h
    · rename_i v r
      split at h
      · rename_i l' hi
        exact z_op1 (hκ _ _ _ _ h) (fun hv => ⟨(z_vp hv).1, (z_st_eq hi) ▸ z_vok_set hv trivial⟩) (fun α cA ls H locs cells slots hR hl hv k => lv_istore hx hb hd (z_lv_has hl) (Nat.blt_eq.mp hck.2) rfl (fun ls' hl' => k ls' ((z_st_ok hl.1 (Nat.blt_eq.mp hck.2) hi).2 ls' hl')))
      · cases h
    · cases h
  case istore_n n =>
    have hck : (Nat.beq len 1 && (Nat.beq (n : Nat) a && Nat.blt a nL)) = true := hck
    rw [Bool.and_eq_true] at hck
    obtain rfl : len = 1 := Nat.eq_of_beq_eq_true hck.1
    have hck := hck.2
    rw [Bool.and_eq_true] at hck
    obtain rfl := Nat.eq_of_beq_eq_true hck.1
    dsimp only [z_stp] at h
    split at h
    · rename_i v r
      split at h
      · rename_i l' hi
        exact z_op1 (hκ _ _ _ _ h) (fun hv => ⟨(z_vp hv).1, (z_st_eq hi) ▸ z_vok_set hv trivial⟩) (fun α cA ls H locs cells slots hR hl hv k => lv_istore_n hx hb hd rfl (z_lv_has hl) (Nat.blt_eq.mp hck.2) rfl (fun ls' hl' => k ls' ((z_st_ok hl.1 (Nat.blt_eq.mp hck.2) hi).2 ls' hl')))
      · cases h
    · cases h
  case astore n =>
    have hck : (Nat.beq len 2 && (Nat.beq n a && Nat.blt a nL)) = true := hck
    rw [Bool.and_eq_true] at hck
    obtain rfl : len = 2 := Nat.eq_of_beq_eq_true hck.1
    have hck := hck.2
    rw [Bool.and_eq_true] at hck
    obtain rfl := Nat.eq_of_beq_eq_true hck.1
    dsimp only [z_stp] at h
    split at h
    · rename_i v r
      have h := z_b0 h
      have h2 := h.2
      split at h2
      · rename_i l' hi
        exact z_op1 (hκ _ _ _ _ h2) (fun hv => ⟨(z_vp hv).1, (z_st_eq hi) ▸ z_vok_set hv (z_vh hv)⟩) (fun α cA ls H locs cells slots hR hl hv k => by
          have e : z_cV α (.inr (.inr v)) = .ref (α v) := z_cR_ref h.1
          rw [List.map_cons, e]
          exact lv_astore hx hb hd (z_lv_has hl) (Nat.blt_eq.mp hck.2) rfl (fun ls' hl' => k ls' ((z_st_ok hl.1 (Nat.blt_eq.mp hck.2) hi).2 ls' (by rw [e]; exact hl'))))
      · cases h2
    · cases h
  case astore_n n =>
    have hck : (Nat.beq len 1 && (Nat.beq (n : Nat) a && Nat.blt a nL)) = true := hck
    rw [Bool.and_eq_true] at hck
    obtain rfl : len = 1 := Nat.eq_of_beq_eq_true hck.1
    have hck := hck.2
    rw [Bool.and_eq_true] at hck
    obtain rfl := Nat.eq_of_beq_eq_true hck.1
    dsimp only [z_stp] at h
    split at h
    · rename_i v r
      have h := z_b0 h
      have h2 := h.2
      split at h2
      · rename_i l' hi
        exact z_op1 (hκ _ _ _ _ h2) (fun hv => ⟨(z_vp hv).1, (z_st_eq hi) ▸ z_vok_set hv (z_vh hv)⟩) (fun α cA ls H locs cells slots hR hl hv k => by
          have e : z_cV α (.inr (.inr v)) = .ref (α v) := z_cR_ref h.1
          rw [List.map_cons, e]
          exact lv_astore_n hx hb hd rfl (z_lv_has hl) (Nat.blt_eq.mp hck.2) rfl (fun ls' hl' => k ls' ((z_st_ok hl.1 (Nat.blt_eq.mp hck.2) hi).2 ls' (by rw [e]; exact hl'))))
      · cases h2
    · cases h
  case lstore n =>
    have hck : (Nat.beq len 2 && (Nat.beq n a && Nat.blt (a + 1) nL)) = true := hck
    rw [Bool.and_eq_true] at hck
    obtain rfl : len = 2 := Nat.eq_of_beq_eq_true hck.1
    have hck := hck.2
    rw [Bool.and_eq_true] at hck
    obtain rfl := Nat.eq_of_beq_eq_true hck.1
    dsimp only [z_stp] at h
    split at h
    · rename_i v r
      split at h
      · rename_i l' hi
        refine z_op1 (hκ _ _ _ _ h) (fun hv => ⟨(z_vp hv).1, fun u hu => ?_⟩) (fun α cA ls H locs cells slots hR hl hv k => lv_lstore hx hb hd (z_lv_has hl) (Nat.blt_eq.mp hck.2) rfl (fun ls' hl' => k ls' (z_st_okL hl.1 (Nat.blt_eq.mp hck.2) hi ls' hl')))
        rcases List.mem_or_eq_of_mem_set hu with e | e
        · rw [← z_st_eq hi] at e
          exact z_vok_set (v := .inr (.inl v)) hv trivial u e
        · cases e
      · cases h
    · cases h
  case iinc n kk =>
    have hck : (Nat.beq len 3 && (Nat.beq n a && (Nat.blt a nL && decide (Int32.ofInt kk = x)))) = true := hck
    rw [Bool.and_eq_true] at hck
    obtain rfl : len = 3 := Nat.eq_of_beq_eq_true hck.1
    have hck := hck.2
    rw [Bool.and_eq_true, Bool.and_eq_true] at hck
    obtain rfl := Nat.eq_of_beq_eq_true hck.1
    dsimp only [z_stp] at h
    split at h
    · rename_i v hi0
      split at h
      · rename_i l' hi
        refine z_op1 (hκ _ _ _ _ h) (fun hv => ⟨hv.1, (z_st_eq hi) ▸ z_vok_set hv trivial⟩) (fun α cA ls H locs cells slots hR hl hv k => ?_)
        obtain ⟨j, hj⟩ := List.getElem?_of_mem (z_asc_in (α := α) (z_getD hi0))
        exact lv_iinc hx hb hd (z_lv_has hl) hj (by rw [of_decide_eq_true hck.2.2]) (Nat.blt_eq.mp hck.2.1) rfl (fun ls' hl' => k ls' ((z_st_ok hl.1 (Nat.blt_eq.mp hck.2.1) hi).2 ls' hl'))
      · cases h
    · cases h
  case iadd =>
    have hck : Nat.beq len 1 = true := hck
    obtain rfl : len = 1 := Nat.eq_of_beq_eq_true hck
    dsimp only [z_stp] at h
    split at h
    · exact z_op1 (hκ _ _ _ _ h) (fun hv => z_vc trivial (z_vp (z_vp hv))) (fun α cA ls H locs cells slots hR hl hv k => lv_iadd hx hb hd (k ls hl))
    · cases h
  case isub =>
    have hck : Nat.beq len 1 = true := hck
    obtain rfl : len = 1 := Nat.eq_of_beq_eq_true hck
    dsimp only [z_stp] at h
    split at h
    · exact z_op1 (hκ _ _ _ _ h) (fun hv => z_vc trivial (z_vp (z_vp hv))) (fun α cA ls H locs cells slots hR hl hv k => lv_isub hx hb hd (k ls hl))
    · cases h
  case imul =>
    have hck : Nat.beq len 1 = true := hck
    obtain rfl : len = 1 := Nat.eq_of_beq_eq_true hck
    dsimp only [z_stp] at h
    split at h
    · exact z_op1 (hκ _ _ _ _ h) (fun hv => z_vc trivial (z_vp (z_vp hv))) (fun α cA ls H locs cells slots hR hl hv k => lv_imul hx hb hd (k ls hl))
    · cases h
  case iand =>
    have hck : Nat.beq len 1 = true := hck
    obtain rfl : len = 1 := Nat.eq_of_beq_eq_true hck
    dsimp only [z_stp] at h
    split at h
    · exact z_op1 (hκ _ _ _ _ h) (fun hv => z_vc trivial (z_vp (z_vp hv))) (fun α cA ls H locs cells slots hR hl hv k => lv_iand hx hb hd (k ls hl))
    · cases h
  case ior =>
    have hck : Nat.beq len 1 = true := hck
    obtain rfl : len = 1 := Nat.eq_of_beq_eq_true hck
    dsimp only [z_stp] at h
    split at h
    · exact z_op1 (hκ _ _ _ _ h) (fun hv => z_vc trivial (z_vp (z_vp hv))) (fun α cA ls H locs cells slots hR hl hv k => lv_ior hx hb hd (k ls hl))
    · cases h
  case ixor =>
    have hck : Nat.beq len 1 = true := hck
    obtain rfl : len = 1 := Nat.eq_of_beq_eq_true hck
    dsimp only [z_stp] at h
    split at h
    · exact z_op1 (hκ _ _ _ _ h) (fun hv => z_vc trivial (z_vp (z_vp hv))) (fun α cA ls H locs cells slots hR hl hv k => lv_ixor hx hb hd (k ls hl))
    · cases h
  case ishl =>
    have hck : Nat.beq len 1 = true := hck
    obtain rfl : len = 1 := Nat.eq_of_beq_eq_true hck
    dsimp only [z_stp] at h
    split at h
    · exact z_op1 (hκ _ _ _ _ h) (fun hv => z_vc trivial (z_vp (z_vp hv))) (fun α cA ls H locs cells slots hR hl hv k => lv_ishl hx hb hd (k ls hl))
    · cases h
  case ishr =>
    have hck : Nat.beq len 1 = true := hck
    obtain rfl : len = 1 := Nat.eq_of_beq_eq_true hck
    dsimp only [z_stp] at h
    split at h
    · exact z_op1 (hκ _ _ _ _ h) (fun hv => z_vc trivial (z_vp (z_vp hv))) (fun α cA ls H locs cells slots hR hl hv k => lv_ishr hx hb hd (k ls hl))
    · cases h
  case iushr =>
    have hck : Nat.beq len 1 = true := hck
    obtain rfl : len = 1 := Nat.eq_of_beq_eq_true hck
    dsimp only [z_stp] at h
    split at h
    · exact z_op1 (hκ _ _ _ _ h) (fun hv => z_vc trivial (z_vp (z_vp hv))) (fun α cA ls H locs cells slots hR hl hv k => lv_iushr hx hb hd rfl (k ls hl))
    · cases h
  case lshl =>
    have hck : Nat.beq len 1 = true := hck
    obtain rfl : len = 1 := Nat.eq_of_beq_eq_true hck
    dsimp only [z_stp] at h
    split at h
    · exact z_op1 (hκ _ _ _ _ h) (fun hv => z_vc trivial (z_vp (z_vp hv))) (fun α cA ls H locs cells slots hR hl hv k => lv_lshl hx hb hd rfl (k ls hl))
    · cases h
  case land =>
    have hck : Nat.beq len 1 = true := hck
    obtain rfl : len = 1 := Nat.eq_of_beq_eq_true hck
    dsimp only [z_stp] at h
    split at h
    · exact z_op1 (hκ _ _ _ _ h) (fun hv => z_vc trivial (z_vp (z_vp hv))) (fun α cA ls H locs cells slots hR hl hv k => lv_land hx hb hd (k ls hl))
    · cases h
  case lor =>
    have hck : Nat.beq len 1 = true := hck
    obtain rfl : len = 1 := Nat.eq_of_beq_eq_true hck
    dsimp only [z_stp] at h
    split at h
    · exact z_op1 (hκ _ _ _ _ h) (fun hv => z_vc trivial (z_vp (z_vp hv))) (fun α cA ls H locs cells slots hR hl hv k => lv_lor hx hb hd (k ls hl))
    · cases h
  case lcmp =>
    have hck : Nat.beq len 1 = true := hck
    obtain rfl : len = 1 := Nat.eq_of_beq_eq_true hck
    dsimp only [z_stp] at h
    split at h
    · exact z_op1 (hκ _ _ _ _ h) (fun hv => z_vc trivial (z_vp (z_vp hv))) (fun α cA ls H locs cells slots hR hl hv k => W.lcmp hx hb hd (k ls hl))
    · cases h
  case idiv =>
    have hck : Nat.beq len 1 = true := hck
    obtain rfl : len = 1 := Nat.eq_of_beq_eq_true hck
    dsimp only [z_stp] at h
    split at h
    · have h := z_if h
      exact z_op1 (hκ _ _ _ _ h.2) (fun hv => z_vc trivial (z_vp (z_vp hv))) (fun α cA ls H locs cells slots hR hl hv k => lv_idiv hx hb hd h.1 (k ls hl))
    · cases h
  case irem =>
    have hck : Nat.beq len 1 = true := hck
    obtain rfl : len = 1 := Nat.eq_of_beq_eq_true hck
    dsimp only [z_stp] at h
    split at h
    · have h := z_if h
      exact z_op1 (hκ _ _ _ _ h.2) (fun hv => z_vc trivial (z_vp (z_vp hv))) (fun α cA ls H locs cells slots hR hl hv k => lv_irem hx hb hd h.1 (k ls hl))
    · cases h
  case ineg =>
    have hck : Nat.beq len 1 = true := hck
    obtain rfl : len = 1 := Nat.eq_of_beq_eq_true hck
    dsimp only [z_stp] at h
    split at h
    · exact z_op1 (hκ _ _ _ _ h) (fun hv => z_vc trivial (z_vp hv)) (fun α cA ls H locs cells slots hR hl hv k => lv_ineg hx hb hd (k ls hl))
    · cases h
  case i2l =>
    have hck : Nat.beq len 1 = true := hck
    obtain rfl : len = 1 := Nat.eq_of_beq_eq_true hck
    dsimp only [z_stp] at h
    split at h
    · exact z_op1 (hκ _ _ _ _ h) (fun hv => z_vc trivial (z_vp hv)) (fun α cA ls H locs cells slots hR hl hv k => lv_i2l hx hb hd rfl (k ls hl))
    · cases h
  case l2i =>
    have hck : Nat.beq len 1 = true := hck
    obtain rfl : len = 1 := Nat.eq_of_beq_eq_true hck
    dsimp only [z_stp] at h
    split at h
    · exact z_op1 (hκ _ _ _ _ h) (fun hv => z_vc trivial (z_vp hv)) (fun α cA ls H locs cells slots hR hl hv k => lv_l2i hx hb hd rfl (k ls hl))
    · cases h
  case i2b =>
    have hck : Nat.beq len 1 = true := hck
    obtain rfl : len = 1 := Nat.eq_of_beq_eq_true hck
    dsimp only [z_stp] at h
    split at h
    · exact z_op1 (hκ _ _ _ _ h) (fun hv => z_vc trivial (z_vp hv)) (fun α cA ls H locs cells slots hR hl hv k => lv_i2b hx hb hd rfl (k ls hl))
    · cases h
  case i2s =>
    have hck : Nat.beq len 1 = true := hck
    obtain rfl : len = 1 := Nat.eq_of_beq_eq_true hck
    dsimp only [z_stp] at h
    split at h
    · exact z_op1 (hκ _ _ _ _ h) (fun hv => z_vc trivial (z_vp hv)) (fun α cA ls H locs cells slots hR hl hv k => lv_i2s hx hb hd rfl (k ls hl))
    · cases h
  case dup =>
    have hck : Nat.beq len 1 = true := hck
    obtain rfl : len = 1 := Nat.eq_of_beq_eq_true hck
    dsimp only [z_stp] at h
    split at h
    · exact z_op1 (hκ _ _ _ _ h) (fun hv => z_vc (z_vh hv) hv) (fun α cA ls H locs cells slots hR hl hv k => lv_dup hx hb hd rfl (k ls hl))
    · have h := z_b0 h
      exact z_op1 (hκ _ _ _ _ h.2) (fun hv => z_vc (z_vh hv) hv) (fun α cA ls H locs cells slots hR hl hv k => lv_dup hx hb hd (by show (z_cR α _).category = 1; rw [z_cR_ref h.1]; rfl) (k ls hl))
    · cases h
  case goto off =>
    have hck : (Nat.beq len 3 && decide ((pc : Int) + off = (a : Int))) = true := hck
    rw [Bool.and_eq_true] at hck
    obtain rfl : len = 3 := Nat.eq_of_beq_eq_true hck.1
    have hck := hck.2
    exact z_op1 (hκ _ _ _ _ h) (fun hv => hv) (fun α cA ls H locs cells slots hR hl hv k => lv_goto hx hb hd (of_decide_eq_true hck) (k ls hl))
  case ifCond cd off =>
    have hck : (Nat.beq len 3 && decide ((pc : Int) + off = (a : Int))) = true := hck
    rw [Bool.and_eq_true] at hck
    obtain rfl : len = 3 := Nat.eq_of_beq_eq_true hck.1
    have hck := hck.2
    cases cd
    case eq =>
      dsimp only [z_stp] at h
      split at h
      · rcases z_br h (hκ _ _ _ _) (hκ _ _ _ _) with ⟨hp, g⟩ | ⟨hp, g⟩
        · exact z_op1 g (fun hv => (z_vp hv)) (fun α cA ls H locs cells slots hR hl hv k => lv_if_eq hx hb hd (of_decide_eq_true hck) (fun _ => k ls hl) (fun q => absurd hp q))
        · exact z_op1 g (fun hv => (z_vp hv)) (fun α cA ls H locs cells slots hR hl hv k => lv_if_eq hx hb hd (of_decide_eq_true hck) (fun q => absurd q hp) (fun _ => k ls hl))
      · cases h
    case ne =>
      dsimp only [z_stp] at h
      split at h
      · rcases z_br h (hκ _ _ _ _) (hκ _ _ _ _) with ⟨hp, g⟩ | ⟨hp, g⟩
        · exact z_op1 g (fun hv => (z_vp hv)) (fun α cA ls H locs cells slots hR hl hv k => lv_if_ne hx hb hd (of_decide_eq_true hck) (fun q => absurd hp q) (fun _ => k ls hl))
        · exact z_op1 g (fun hv => (z_vp hv)) (fun α cA ls H locs cells slots hR hl hv k => lv_if_ne hx hb hd (of_decide_eq_true hck) (fun _ => k ls hl) (fun q => absurd q hp))
      · cases h
    case lt =>
      dsimp only [z_stp] at h
      split at h
      · rcases z_br h (hκ _ _ _ _) (hκ _ _ _ _) with ⟨hp, g⟩ | ⟨hp, g⟩
        · exact z_op1 g (fun hv => (z_vp hv)) (fun α cA ls H locs cells slots hR hl hv k => lv_if_lt hx hb hd (of_decide_eq_true hck) (fun _ => k ls hl) (fun q => absurd hp q))
        · exact z_op1 g (fun hv => (z_vp hv)) (fun α cA ls H locs cells slots hR hl hv k => lv_if_lt hx hb hd (of_decide_eq_true hck) (fun q => absurd q hp) (fun _ => k ls hl))
      · cases h
    case ge =>
      dsimp only [z_stp] at h
      split at h
      · rcases z_br h (hκ _ _ _ _) (hκ _ _ _ _) with ⟨hp, g⟩ | ⟨hp, g⟩
        · exact z_op1 g (fun hv => (z_vp hv)) (fun α cA ls H locs cells slots hR hl hv k => lv_if_ge hx hb hd (of_decide_eq_true hck) (fun _ => k ls hl) (fun q => absurd hp q))
        · exact z_op1 g (fun hv => (z_vp hv)) (fun α cA ls H locs cells slots hR hl hv k => lv_if_ge hx hb hd (of_decide_eq_true hck) (fun q => absurd q hp) (fun _ => k ls hl))
      · cases h
    case gt =>
      dsimp only [z_stp] at h
      split at h
      · rcases z_br h (hκ _ _ _ _) (hκ _ _ _ _) with ⟨hp, g⟩ | ⟨hp, g⟩
        · exact z_op1 g (fun hv => (z_vp hv)) (fun α cA ls H locs cells slots hR hl hv k => lv_if_gt hx hb hd (of_decide_eq_true hck) (fun _ => k ls hl) (fun q => absurd hp q))
        · exact z_op1 g (fun hv => (z_vp hv)) (fun α cA ls H locs cells slots hR hl hv k => lv_if_gt hx hb hd (of_decide_eq_true hck) (fun q => absurd q hp) (fun _ => k ls hl))
      · cases h
    case le =>
      dsimp only [z_stp] at h
      split at h
      · rcases z_br h (hκ _ _ _ _) (hκ _ _ _ _) with ⟨hp, g⟩ | ⟨hp, g⟩
        · exact z_op1 g (fun hv => (z_vp hv)) (fun α cA ls H locs cells slots hR hl hv k => lv_if_le hx hb hd (of_decide_eq_true hck) (fun _ => k ls hl) (fun q => absurd hp q))
        · exact z_op1 g (fun hv => (z_vp hv)) (fun α cA ls H locs cells slots hR hl hv k => lv_if_le hx hb hd (of_decide_eq_true hck) (fun q => absurd q hp) (fun _ => k ls hl))
      · cases h
  case if_icmp cd off =>
    have hck : (Nat.beq len 3 && decide ((pc : Int) + off = (a : Int))) = true := hck
    rw [Bool.and_eq_true] at hck
    obtain rfl : len = 3 := Nat.eq_of_beq_eq_true hck.1
    have hck := hck.2
    cases cd
    case eq =>
      dsimp only [z_stp] at h
      split at h
      · rcases z_br h (hκ _ _ _ _) (hκ _ _ _ _) with ⟨hp, g⟩ | ⟨hp, g⟩
        · exact z_op1 g (fun hv => (z_vp (z_vp hv))) (fun α cA ls H locs cells slots hR hl hv k => lv_icmp_eq hx hb hd (of_decide_eq_true hck) (fun _ => k ls hl) (fun q => absurd hp q))
        · exact z_op1 g (fun hv => (z_vp (z_vp hv))) (fun α cA ls H locs cells slots hR hl hv k => lv_icmp_eq hx hb hd (of_decide_eq_true hck) (fun q => absurd q hp) (fun _ => k ls hl))
      · cases h
    case ne =>
      dsimp only [z_stp] at h
      split at h
      · rcases z_br h (hκ _ _ _ _) (hκ _ _ _ _) with ⟨hp, g⟩ | ⟨hp, g⟩
        · exact z_op1 g (fun hv => (z_vp (z_vp hv))) (fun α cA ls H locs cells slots hR hl hv k => lv_icmp_ne hx hb hd (of_decide_eq_true hck) (fun q => absurd hp q) (fun _ => k ls hl))
        · exact z_op1 g (fun hv => (z_vp (z_vp hv))) (fun α cA ls H locs cells slots hR hl hv k => lv_icmp_ne hx hb hd (of_decide_eq_true hck) (fun _ => k ls hl) (fun q => absurd q hp))
      · cases h
    case lt =>
      dsimp only [z_stp] at h
      split at h
      · rcases z_br h (hκ _ _ _ _) (hκ _ _ _ _) with ⟨hp, g⟩ | ⟨hp, g⟩
        · exact z_op1 g (fun hv => (z_vp (z_vp hv))) (fun α cA ls H locs cells slots hR hl hv k => lv_icmp_lt hx hb hd (of_decide_eq_true hck) (fun _ => k ls hl) (fun q => absurd hp q))
        · exact z_op1 g (fun hv => (z_vp (z_vp hv))) (fun α cA ls H locs cells slots hR hl hv k => lv_icmp_lt hx hb hd (of_decide_eq_true hck) (fun q => absurd q hp) (fun _ => k ls hl))
      · cases h
    case ge =>
      dsimp only [z_stp] at h
      split at h
      · rcases z_br h (hκ _ _ _ _) (hκ _ _ _ _) with ⟨hp, g⟩ | ⟨hp, g⟩
        · exact z_op1 g (fun hv => (z_vp (z_vp hv))) (fun α cA ls H locs cells slots hR hl hv k => lv_icmp_ge hx hb hd (of_decide_eq_true hck) (fun _ => k ls hl) (fun q => absurd hp q))
        · exact z_op1 g (fun hv => (z_vp (z_vp hv))) (fun α cA ls H locs cells slots hR hl hv k => lv_icmp_ge hx hb hd (of_decide_eq_true hck) (fun q => absurd q hp) (fun _ => k ls hl))
      · cases h
    case gt =>
      dsimp only [z_stp] at h
      split at h
      · rcases z_br h (hκ _ _ _ _) (hκ _ _ _ _) with ⟨hp, g⟩ | ⟨hp, g⟩
        · exact z_op1 g (fun hv => (z_vp (z_vp hv))) (fun α cA ls H locs cells slots hR hl hv k => lv_icmp_gt hx hb hd (of_decide_eq_true hck) (fun _ => k ls hl) (fun q => absurd hp q))
        · exact z_op1 g (fun hv => (z_vp (z_vp hv))) (fun α cA ls H locs cells slots hR hl hv k => lv_icmp_gt hx hb hd (of_decide_eq_true hck) (fun q => absurd q hp) (fun _ => k ls hl))
      · cases h
    case le =>
      dsimp only [z_stp] at h
      split at h
      · rcases z_br h (hκ _ _ _ _) (hκ _ _ _ _) with ⟨hp, g⟩ | ⟨hp, g⟩
        · exact z_op1 g (fun hv => (z_vp (z_vp hv))) (fun α cA ls H locs cells slots hR hl hv k => lv_icmp_le hx hb hd (of_decide_eq_true hck) (fun _ => k ls hl) (fun q => absurd hp q))
        · exact z_op1 g (fun hv => (z_vp (z_vp hv))) (fun α cA ls H locs cells slots hR hl hv k => lv_icmp_le hx hb hd (of_decide_eq_true hck) (fun q => absurd q hp) (fun _ => k ls hl))
      · cases h
  case tableswitch dd lo hi offs =>
    have hck : (decide ((pc : Int) + dd = (a : Int)) && (decide ((sw.map (fun q => q.1.toInt)) = (List.range (hi - lo + 1).toNat).map (fun (k : Nat) => lo + (k : Int))) && (decide (sw.map (fun q => ((q.2 : Int) - (pc : Int))) = offs.toList) && decide (lo ≤ hi)))) = true := hck
    rw [Bool.and_eq_true, Bool.and_eq_true, Bool.and_eq_true] at hck
    obtain ⟨h1, h2, h3, h4⟩ := hck
    have h1 := of_decide_eq_true h1
    have h2 := of_decide_eq_true h2
    have h3 := of_decide_eq_true h3
    have h4 := of_decide_eq_true h4
    dsimp only [z_stp] at h
    split at h
    · rename_i v r
      rcases z_sw_ok sw v (fun t => κ t la r S) a with ⟨e1, e2⟩ | ⟨kk, q, e1, e2, e3⟩
      · rw [e1] at h
        refine z_op1 (hκ _ _ _ _ h) (fun hv => z_vp hv) (fun α cA ls H locs cells slots hR hl hv k => lv_tableOut hx hb hd ?_ h1 (k ls hl))
        by_cases hlo : v.toInt < lo
        · exact Or.inl hlo
        · by_cases hhi : hi < v.toInt
          · exact Or.inr hhi
          · exfalso
            have hk : (v.toInt - lo).toNat < (hi - lo + 1).toNat := by omega
            have h5 : (sw.map (fun q => q.1.toInt))[(v.toInt - lo).toNat]? = some v.toInt := by
              rw [h2, List.getElem?_map, List.getElem?_range hk]
              show some (lo + ((v.toInt - lo).toNat : Int)) = _
              rw [Int.toNat_of_nonneg (by omega)]
              congr 1
              omega
            rw [List.getElem?_map] at h5
            cases hz : sw[(v.toInt - lo).toNat]? with
            | none => rw [hz] at h5; cases h5
            | some q =>
              rw [hz] at h5
              have h6 : q.1.toInt = v.toInt := Option.some.inj h5
              exact e2 q (List.mem_of_getElem? hz) (Int32.toInt_inj.mp h6).symm
      · rw [e3] at h
        have hk : kk < (hi - lo + 1).toNat := by
          have h5 : (sw.map (fun q => q.1.toInt)).length = (hi - lo + 1).toNat := by rw [h2, List.length_map, List.length_range]
          rw [List.length_map] at h5
          have h6 := (List.getElem?_eq_some_iff.mp e1).1
          omega
        have h5 : some q.1.toInt = some (lo + (kk : Int)) := by
          have h6 : (sw.map (fun q => q.1.toInt))[kk]? = some q.1.toInt := by rw [List.getElem?_map, e1]; rfl
          rw [h2, List.getElem?_map, List.getElem?_range hk] at h6
          exact h6.symm
        have h7 : v.toInt = lo + (kk : Int) := by rw [e2]; exact Option.some.inj h5
        refine z_op1 (hκ _ _ _ _ h) (fun hv => z_vp hv) (fun α cA ls H locs cells slots hR hl hv k => lv_tableIn (off := (q.2 : Int) - (pc : Int)) hx hb hd (by omega) (by omega) ?_ (by omega) (k ls hl))
        have h8 : (v.toInt - lo).toNat = kk := by omega
        rw [h8, ← Array.getElem?_toList, ← h3, List.getElem?_map, e1]
        rfl
    · cases h
  case lookupswitch dd ps =>
    have hck2 : (decide ((pc : Int) + dd = (a : Int)) && ((ps.toList.zip (ps.toList.drop 1)).all (fun (u, next) => decide (u.1 < next.1)) && decide (sw.map (fun q => (q.1.toInt, ((q.2 : Int) - (pc : Int)))) = ps.toList))) = true := hck
    clear hck
    have hck := hck2
    clear hck2
    rw [Bool.and_eq_true, Bool.and_eq_true] at hck
    have h1 := of_decide_eq_true hck.1
    have h2 := hck.2.1
    have h3 := of_decide_eq_true hck.2.2
    clear hck
    dsimp only [z_stp] at h
    split at h
    · rename_i v r
      obtain ⟨t, ht, htt⟩ : ∃ t, κ t la r S = some res ∧ (pc : Int) + Op.lookupswitch.offset ps.toList dd v.toInt = (t : Int) := by
        rw [← h3]
        clear h2 h3 hd hκ
        induction sw with
        | nil => exact ⟨a, h, h1⟩
        | cons q sw ih =>
          by_cases hv : v = q.1
          · have h4 : κ q.2 la r S = some res := by
              have e : z_sw (q :: sw) v (fun t => κ t la r S) a = κ q.2 la r S := if_pos hv
              rw [← e]; exact h
            refine ⟨q.2, h4, ?_⟩
            simp [Op.lookupswitch.offset, hv]
            omega
          · have h4 : z_sw sw v (fun t => κ t la r S) a = some res := by
              have e : z_sw (q :: sw) v (fun t => κ t la r S) a = z_sw sw v (fun t => κ t la r S) a := if_neg hv
              rw [← e]; exact h
            obtain ⟨t, ht, htt⟩ := ih h4
            refine ⟨t, ht, ?_⟩
            have h5 : ¬ q.1.toInt = v.toInt := fun e => hv (Int32.toInt_inj.mp e).symm
            simpa [Op.lookupswitch.offset, h5] using htt
      exact z_op1 (hκ _ _ _ _ ht) (fun hv => z_vp hv) (fun α cA ls H locs cells slots hR hl hv k => lv_lookup hx hb hd h2 rfl htt (k ls hl))
    · cases h
  case getfield i =>
    have hck : (Nat.beq len 3 && (decide ((o, i, a, b, true) ∈ z_fl) || decide ((o, i, a, b, false) ∈ z_fl))) = true := hck
    rw [Bool.and_eq_true] at hck
    obtain rfl : len = 3 := Nat.eq_of_beq_eq_true hck.1
    have hck := hck.2
    obtain ⟨f, hf⟩ : ∃ f, (o, i, a, b, f) ∈ z_fl := by
      rw [Bool.or_eq_true] at hck
      exact hck.elim (fun q => ⟨_, of_decide_eq_true q⟩) (fun q => ⟨_, of_decide_eq_true q⟩)
    obtain ⟨C, T, N, hvc, hbN, -, ha0, ha13, hlk, hcf⟩ := z_fl_get hf
    dsimp only [z_stp] at h
    split at h
    · rename_i q r
      obtain ⟨hq, h⟩ := z_ht h
      have hq : q.1 = a := Nat.eq_of_beq_eq_true hq
      subst hq
      exact z_getf hx hb hown hts hd hvc hbN hlk hcf ha0 ha13 h hκ
    · cases h
  case putfield i =>
    have hck : (Nat.beq len 3 && (decide ((o, i, a, b, false) ∈ z_fl) || (decide ((o, i, a, b, true) ∈ z_fl) && (ini && Nat.beq o a)))) = true := hck
    rw [Bool.and_eq_true] at hck
    obtain rfl : len = 3 := Nat.eq_of_beq_eq_true hck.1
    have hck := hck.2
    obtain ⟨f, hf, hfi⟩ : ∃ f, (o, i, a, b, f) ∈ z_fl ∧ (f = true → meth.name = "<init>" ∧ o = a) := by
      rw [Bool.or_eq_true] at hck
      rcases hck with hck | hck
      · exact ⟨false, of_decide_eq_true hck, fun q => by cases q⟩
      · rw [Bool.and_eq_true, Bool.and_eq_true] at hck
        exact ⟨true, of_decide_eq_true hck.1, fun _ => ⟨hini hck.2.1, Nat.eq_of_beq_eq_true hck.2.2⟩⟩
    obtain ⟨C, T, N, hvc, hbN, hfn, ha0, ha13, hlk, hcf⟩ := z_fl_get hf
    dsimp only [z_stp] at h
    split at h
    · rename_i v q r
      obtain ⟨hq, h⟩ := z_ht h
      have hq : q.1 = a := Nat.eq_of_beq_eq_true hq
      subst hq
      split at h
      · rename_i hs
        exact z_putI hx hb hown hts hd hvc hbN hfn hfi hlk hcf ha0 ha13 (Or.inl hs) (hκ _ _ _ _ h)
      · rename_i hs
        have h := z_if2 h
        exact z_putI hx hb hown hts hd hvc hbN hfn hfi hlk hcf ha0 ha13 (Or.inr ⟨hs, h.1⟩) (hκ _ _ _ _ h.2)
      · cases h
    · rename_i v q r
      obtain ⟨hq, h⟩ := z_ht h
      have hq : q.1 = a := Nat.eq_of_beq_eq_true hq
      subst hq
      obtain ⟨hv0, h⟩ := z_b0 h
      split at h
      · rename_i hs
        obtain ⟨hmd, h⟩ := z_hf h
        exact z_putR hx hb hown hts hd hvc hbN hfn hfi hlk hcf ha0 ha13 (Or.inl hs) (fun e => by rw [hmd] at e; cases e) hv0 (hκ _ _ _ _ h)
      · rename_i hs
        have h2 : (md = true → z_shK q.1 b = 3 ∧ v.1 = z_dT q.1 b) ∧ κ (pc + 3) la r (z_sR S q.1 q.2 b v) = some res := by
          cases hm : md with
          | false => rw [hm] at h; exact ⟨fun e => (by cases e), h⟩
          | true =>
            rw [hm] at h
            obtain ⟨h3, h4⟩ := z_ht (show cond (Nat.beq v.1 (z_dT q.1 b)) _ none = some res from h)
            exact ⟨fun _ => ⟨hs, Nat.eq_of_beq_eq_true h3⟩, h4⟩
        exact z_putR hx hb hown hts hd hvc hbN hfn hfi hlk hcf ha0 ha13 (Or.inr hs) h2.1 hv0 (hκ _ _ _ _ h2.2)
      · cases h
    · cases h
  case iaload =>
    have hck : Nat.beq len 1 = true := hck
    obtain rfl : len = 1 := Nat.eq_of_beq_eq_true hck
    dsimp only [z_stp] at h
    split at h
    · rename_i j q r
      cases h9 : Nat.beq q.1 90 with
      | true =>
        rw [h9] at h
        dsimp only [cond] at h
        split at h
        · rename_i L xs hsc
          obtain ⟨ho, h⟩ := z_hf h
          exact z_sldS hx hb hd (Nat.eq_of_beq_eq_true h9) rfl ho (hκ _ _ _ _ h)
        · cases h
      | false =>
        rw [h9] at h
        obtain ⟨hk, h⟩ := z_ht (show cond (Nat.beq (z_aK q.1) 1) _ none = some res from h)
        obtain ⟨ho, h⟩ := z_hf h
        exact z_aldI hx hb hd (Or.inl ⟨Nat.eq_of_beq_eq_true hk, rfl⟩) ho (hκ _ _ _ _ h)
    · cases h
  case baload =>
    have hck : Nat.beq len 1 = true := hck
    obtain rfl : len = 1 := Nat.eq_of_beq_eq_true hck
    dsimp only [z_stp] at h
    split at h
    · rename_i j q r
      obtain ⟨hk, h⟩ := z_ht h
      rw [Bool.or_eq_true] at hk
      obtain ⟨ho, h⟩ := z_hf h
      exact z_aldI hx hb hd (Or.inr ⟨hk.elim (fun z => Or.inl (Nat.eq_of_beq_eq_true z)) (fun z => Or.inr (Nat.eq_of_beq_eq_true z)), rfl⟩) ho (hκ _ _ _ _ h)
    · cases h
  case laload =>
    have hck : Nat.beq len 1 = true := hck
    obtain rfl : len = 1 := Nat.eq_of_beq_eq_true hck
    dsimp only [z_stp] at h
    split at h
    · rename_i j q r
      obtain ⟨hk, h⟩ := z_ht h
      obtain ⟨ho, h⟩ := z_hf h
      exact z_aldL hx hb hd (Nat.eq_of_beq_eq_true hk) ho (hκ _ _ _ _ h)
    · cases h
  case aaload =>
    have hck : Nat.beq len 1 = true := hck
    obtain rfl : len = 1 := Nat.eq_of_beq_eq_true hck
    dsimp only [z_stp] at h
    split at h
    · rename_i j q r
      obtain ⟨hk, h⟩ := z_ht h
      obtain ⟨ho, h⟩ := z_hf h
      exact z_aldR hx hb hd (Nat.eq_of_beq_eq_true hk) ho (hκ _ _ _ _ h)
    · cases h
  case iastore =>
    have hck : Nat.beq len 1 = true := hck
    obtain rfl : len = 1 := Nat.eq_of_beq_eq_true hck
    dsimp only [z_stp] at h
    split at h
    · rename_i v j q r
      obtain ⟨hk, h⟩ := z_ht h
      obtain ⟨ho, h⟩ := z_hf h
      exact z_astI hx hb hd (Or.inl ⟨Nat.eq_of_beq_eq_true hk, rfl, rfl⟩) ho (hκ _ _ _ _ h)
    · cases h
  case bastore =>
    have hck : Nat.beq len 1 = true := hck
    obtain rfl : len = 1 := Nat.eq_of_beq_eq_true hck
    dsimp only [z_stp] at h
    split at h
    · rename_i v j q r
      cases h2 : Nat.beq (z_aK q.1) 2 with
      | true =>
        rw [h2] at h
        obtain ⟨ho, h⟩ := z_hf (show cond (z_oob j (z_aN q.1 q.2)) none _ = some res from h)
        exact z_astI hx hb hd (Or.inr (Or.inl ⟨Nat.eq_of_beq_eq_true h2, rfl, rfl⟩)) ho (hκ _ _ _ _ h)
      | false =>
        rw [h2] at h
        obtain ⟨hk, h⟩ := z_ht (show cond (Nat.beq (z_aK q.1) 3) _ none = some res from h)
        obtain ⟨ho, h⟩ := z_hf h
        exact z_astI hx hb hd (Or.inr (Or.inr ⟨Nat.eq_of_beq_eq_true hk, rfl, rfl⟩)) ho (hκ _ _ _ _ h)
    · cases h
  case lastore =>
    have hck : Nat.beq len 1 = true := hck
    obtain rfl : len = 1 := Nat.eq_of_beq_eq_true hck
    dsimp only [z_stp] at h
    split at h
    · rename_i v j q r
      obtain ⟨hk, h⟩ := z_ht h
      obtain ⟨ho, h⟩ := z_hf h
      exact z_astL hx hb hd (Nat.eq_of_beq_eq_true hk) ho (hκ _ _ _ _ h)
    · cases h
  case aastore =>
    have hck : Nat.beq len 1 = true := hck
    obtain rfl : len = 1 := Nat.eq_of_beq_eq_true hck
    dsimp only [z_stp] at h
    split at h
    · rename_i v j q r
      obtain ⟨hmd, h⟩ := z_hf h
      obtain ⟨hk, h⟩ := z_ht h
      rw [Bool.and_eq_true] at hk
      obtain ⟨ho, h⟩ := z_hf h
      exact z_astR hx hb hd hmd (Nat.eq_of_beq_eq_true hk.1) (Nat.eq_of_beq_eq_true hk.2) ho (hκ _ _ _ _ h)
    · cases h
  case arraylength =>
    have hck : Nat.beq len 1 = true := hck
    obtain rfl : len = 1 := Nat.eq_of_beq_eq_true hck
    dsimp only [z_stp] at h
    split at h
    · rename_i q r
      cases h9 : Nat.beq q.1 90 with
      | true =>
        rw [h9] at h
        dsimp only [cond] at h
        split at h
        · rename_i L xs hsc
          exact z_slnS hx hb hd (Nat.eq_of_beq_eq_true h9) rfl (hκ _ _ _ _ h)
        · cases h
      | false =>
        rw [h9] at h
        obtain ⟨hk, h⟩ := z_b0 (show cond (Nat.beq (z_aK q.1) 0) none _ = some res from h)
        exact z_len hx hb hd hk (hκ _ _ _ _ h)
    · cases h
  case new i =>
    have hck : (Nat.beq len 3 && (decide ((o, i, a) ∈ z_nl) && (Nat.blt 0 a && Nat.blt a 13))) = true := hck
    rw [Bool.and_eq_true, Bool.and_eq_true, Bool.and_eq_true] at hck
    obtain ⟨h1, h2, h3, h4⟩ := hck
    obtain rfl : len = 3 := Nat.eq_of_beq_eq_true h1
    dsimp only [z_stp] at h
    obtain ⟨hk, h⟩ := z_ht h
    rw [Bool.and_eq_true] at hk
    have hmd : md = false := by cases md with | true => exact absurd hk.1 (by decide) | false => rfl
    obtain ⟨hr, hra⟩ := z_ordD hk.2 (Nat.blt_eq.mp h3)
    exact z_newO C1 hd (of_decide_eq_true h2) (Nat.blt_eq.mp h3) (Nat.blt_eq.mp h4) hmd hr hra (hκ _ _ _ _ h)
  case newarray k_ =>
    have hck : (Nat.beq len 2 && z_nak a k_) = true := hck
    rw [Bool.and_eq_true] at hck
    obtain ⟨h1, h2⟩ := hck
    obtain rfl : len = 2 := Nat.eq_of_beq_eq_true h1
    dsimp only [z_stp] at h
    split at h
    · rename_i j r
      obtain ⟨hk, h9⟩ := z_ht h
      clear h
      rw [Bool.and_eq_true] at hk
      have hmd : md = false := by cases md with | true => exact absurd hk.1 (by decide) | false => rfl
      obtain ⟨hj, h8⟩ := z_if2 h9
      clear h9
      have hra := Nat.eq_of_beq_eq_true hk.2
      unfold z_nak at h2
      split at h2
      · exact z_newA C1 hd rfl (z_wt (z_ac_in 1 (by decide))) (by decide) hmd hra (Or.inl ⟨rfl, rfl⟩) hj (hκ _ _ _ _ h8)
      · exact z_newA C1 hd rfl (z_wt (z_ac_in 2 (by decide))) (by decide) hmd hra (Or.inr (Or.inl ⟨rfl, rfl⟩)) hj (hκ _ _ _ _ h8)
      · exact z_newA C1 hd rfl (z_wt (z_ac_in 3 (by decide))) (by decide) hmd hra (Or.inr (Or.inr (Or.inl ⟨rfl, rfl⟩))) hj (hκ _ _ _ _ h8)
      · exact z_newA C1 hd rfl (z_wt (z_ac_in 4 (by decide))) (by decide) hmd hra (Or.inr (Or.inr (Or.inr ⟨rfl, rfl⟩))) hj (hκ _ _ _ _ h8)
      · cases h2
    · cases h
  case anewarray i =>
    have hck : (Nat.beq len 3 && (decide ((o, i, a) ∈ z_nl) && decide (a ∈ z_al))) = true := hck
    rw [Bool.and_eq_true, Bool.and_eq_true] at hck
    obtain ⟨h1, h2, h3⟩ := hck
    obtain rfl : len = 3 := Nat.eq_of_beq_eq_true h1
    dsimp only [z_stp] at h
    split at h
    · rename_i j r
      obtain ⟨hk, h⟩ := z_ht h
      rw [Bool.and_eq_true, Bool.and_eq_true] at hk
      have hmd : md = false := by cases md with | true => exact absurd hk.1 (by decide) | false => rfl
      obtain ⟨hj, h⟩ := z_if2 h
      exact z_newQ C1 hd (of_decide_eq_true h2) (of_decide_eq_true h3) hmd (Nat.eq_of_beq_eq_true hk.2.1) (Nat.eq_of_beq_eq_true hk.2.2) hj (hκ _ _ _ _ h)
    · cases h
  all_goals (cases h)
end ZST
end
section
/-! ===== calls ===== -/
theorem z_cat_sum (α : Nat × Nat → Nat) (r : List z_AV) : ((r.map (z_cV α)).map fun v => v.category).sum = z_cat r := by
  induction r with
  | nil => rfl
  | cons v r ih =>
    rw [List.map_cons, List.map_cons, List.sum_cons, ih]
    rcases v with x | x | q
    · show 1 + z_cat r = z_cat r + 1
      omega
    · show 2 + z_cat r = z_cat r + 2
      omega
    · show (z_cR α q).category + z_cat r = z_cat r + 1
      have e : (z_cR α q).category = 1 := by unfold z_cR; split <;> rfl
      omega
theorem z_rng_of {sp n : Int32} {N : Nat} (h : z_rng sp n N = true) : ¬ sp < 0 ∧ ¬ n < 0 ∧ sp.toNatClampNeg + n.toNatClampNeg ≤ N := by
  unfold z_rng at h
  rw [Bool.and_eq_true, Bool.and_eq_true] at h
  refine ⟨?_, ?_, Nat.le_of_ble_eq_true h.2.2⟩
  · simpa using h.1
  · simpa using h.2.1
section ZCA
variable {p : Program} {l : Launch} {e : Env} {R : Room} {s : State} {m : MethodId} {args : Array Value} {below : List Frame} {meth : Method} {c : Code} {Q : State → Prop}
variable {D : va_G} {A : Nat → Prop} {md : Bool} {sc : z_Sc} {α0 : Nat × Nat → Nat} {n0 n1 nL o : Nat} {ini : Bool} {cc : ByteArray}
variable {pc pc' : Nat} {la la' : z_Lc} {sa sa' : List z_AV} {S S' : z_Mem}
/-- memory stays, with the room known -/
theorem z_op3 (C0 : z_Ct p R s m args meth c cc nL o ini n0 n1) (g : z_gw p l e R s m args below meth c Q D A md sc α0 n0 n1 nL pc' la sa' S) (hv : z_vok S.2.2.2 la sa → z_vok S.2.2.2 la sa')
    (row : ∀ (α : Nat × Nat → Nat) (cA : Nat × Nat → ClassId) (ls : Array Slot) (H : Heap) (locs : List Loc) (cells slots : Nat), z_Rel s D A md sc α0 n0 α cA S H locs → z_LV α la ls nL → z_vok S.2.2.2 la sa → cells ≤ R.cells → slots ≤ R.slots →
      W p l e R s m args below meth c H locs cells slots Q (F0 m pc' ls (sa'.map (z_cV α))) → W p l e R s m args below meth c H locs cells slots Q (F0 m pc ls (sa.map (z_cV α)))) : z_gw p l e R s m args below meth c Q D A md sc α0 n0 n1 nL pc la sa S := by
  refine ⟨g.1, fun α cA ls H locs hR hl hk => row α cA ls H locs _ _ hR hl hk ?_ ?_ (g.2 α cA ls H locs hR hl (hv hk))⟩
  · exact Nat.le_trans (Nat.sub_le_sub_right g.1 n0) C0.2.2.2.2.2.2.2.1.1
  · exact Nat.le_trans (Nat.sub_le_sub_right (z_sz_le g.1) _) C0.2.2.2.2.2.2.2.1.2
theorem z_bi_ok {ρ : Type} {κ : Nat → z_Lc → List z_AV → z_Mem → Option ρ} {res : ρ} {i a : Nat} {ins : Instr} (C0 : z_Ct p R s m args meth c cc nL o ini n0 n1) (hd : decode cc pc = .ok (ins, 3)) (hins : (a = 1000 ∧ ins = .invokespecial i) ∨ (1000 < a ∧ ins = .invokestatic i)) (hbl : (o, i, a) ∈ z_bl)
    (h : z_bi a pc la sa S κ = some res) (hκ : ∀ pc' la' sa' S', κ pc' la' sa' S' = some res → z_gw p l e R s m args below meth c Q D A md sc α0 n0 n1 nL pc' la' sa' S') : z_gw p l e R s m args below meth c Q D A md sc α0 n0 n1 nL pc la sa S := by
  obtain ⟨hx, hb, hml, hown, hts, hnw, hini, ⟨hRc, hRs⟩, hRf, hRl⟩ := id C0
  have hlk := hts _ (z_wt (z_bl_in _ hbl))
  unfold z_blw at hlk
  dsimp only at hlk
  unfold z_bi at h
  split at h
  · obtain rfl : ins = .invokespecial i := by
      rcases hins with ⟨-, h⟩ | ⟨h, -⟩
      · exact h
      · exact absurd h (by decide)
    split at h
    · rename_i q r
      obtain ⟨hq, h⟩ := z_hf h
      rw [Bool.or_eq_false_iff] at hq
      refine z_op3 C0 (hκ _ _ _ _ h) (fun hv => z_vp hv) (fun α cA ls H locs cells slots hR hl hv hc hs k => ?_)
      have hq0 : q.1 ≠ 0 := fun e => by rw [e] at hq; exact absurd hq.1 (by decide)
      have h8 : z_cat r ≤ 8 := Nat.le_of_not_lt (fun h9 => by rw [Nat.ble_eq_true_of_le h9] at hq; exact absurd hq.2 (by decide))
      refine W.objInit hx hb hown hlk (hts _ (z_wt z_bw_0)) (hts _ (z_wt z_bw_1)) rfl (by show ls.size = _; rw [hl.2.1, hml]) (a := α q) (rest := r.map (z_cV α)) (by show z_cR α q :: _ = _; rw [z_cR_ref hq0]) hd hRf ?_ k
      show 0 + _ + 12 ≤ _
      rw [z_cat_sum]
      omega
    · cases h
  · obtain rfl : ins = .invokestatic i := by
      rcases hins with ⟨h, -⟩ | ⟨-, h⟩
      · exact absurd h (by decide)
      · exact h
    split at h
    · rename_i y w r
      obtain ⟨hq, h⟩ := z_hf h
      have h8 : z_cat r ≤ 8 := Nat.le_of_not_lt (fun h9 => by rw [Nat.ble_eq_true_of_le h9] at hq; exact absurd hq (by decide))
      exact z_op3 C0 (hκ _ _ _ _ h) (fun hv => z_vc trivial (z_vp2 hv)) (fun α cA ls H locs cells slots hR hl hv hc hs k => va_mmax hx hb (by rw [hl.2.1, hml]) hown hlk (hts _ (z_wt z_bw_2)) (hts _ (z_wt z_bw_6)) (hts _ (z_wt z_bw_4)) hRf (by rw [z_cat_sum]; omega) hc hs hd k)
    · cases h
  · obtain rfl : ins = .invokestatic i := by
      rcases hins with ⟨h, -⟩ | ⟨-, h⟩
      · exact absurd h (by decide)
      · exact h
    split at h
    · rename_i y w r
      obtain ⟨hq, h⟩ := z_hf h
      have h8 : z_cat r ≤ 8 := Nat.le_of_not_lt (fun h9 => by rw [Nat.ble_eq_true_of_le h9] at hq; exact absurd hq (by decide))
      exact z_op3 C0 (hκ _ _ _ _ h) (fun hv => z_vc trivial (z_vp2 hv)) (fun α cA ls H locs cells slots hR hl hv hc hs k => va_mmin hx hb (by rw [hl.2.1, hml]) hown hlk (hts _ (z_wt z_bw_3)) (hts _ (z_wt z_bw_6)) (hts _ (z_wt z_bw_5)) hRf (by rw [z_cat_sum]; omega) hc hs hd k)
    · cases h
  · obtain rfl : ins = .invokestatic i := by
      rcases hins with ⟨h, -⟩ | ⟨-, h⟩
      · exact absurd h (by decide)
      · exact h
    split at h
    · rename_i n dp q2 sp q r
      obtain ⟨hq, h⟩ := z_hf h
      have h8 : z_cat r ≤ 8 := Nat.le_of_not_lt (fun h9 => by rw [Nat.ble_eq_true_of_le h9] at hq; exact absurd hq (by decide))
      obtain ⟨hrg, h⟩ := z_ht h
      rw [Bool.and_eq_true] at hrg
      obtain ⟨r1, r2, r3⟩ := z_rng_of hrg.1
      obtain ⟨r4, -, r6⟩ := z_rng_of hrg.2
      cases hk1 : (Nat.beq (z_aK q.1) 1 && Nat.beq (z_aK q2.1) 1) with
      | true =>
        rw [hk1] at h
        rw [Bool.and_eq_true] at hk1
        have ha := Nat.eq_of_beq_eq_true hk1.1
        have hb2 := Nat.eq_of_beq_eq_true hk1.2
        have h : κ (pc + 3) la r (z_acI S q.1 q.2 sp.toNatClampNeg q2.1 q2.2 dp.toNatClampNeg n.toNatClampNeg) = some res := h
        refine z_op2 (hκ _ _ _ _ h) rfl (fun hv => z_vp (z_vp2 (z_vp2 hv))) (fun _ h => h) (fun α cA ls H locs cells slots hR hl hv k => ?_)
        have hka : z_aK q.1 ≠ 0 := by rw [ha]; decide
        have hkb : z_aK q2.1 ≠ 0 := by rw [hb2]; decide
        obtain ⟨-, -, hmo, ⟨tys, hK, htk⟩, hP, hD, hS, -⟩ := hR
        obtain ⟨kq, hkn, hkq⟩ := z_okR.at (z_vh (z_vp2 (z_vp2 hv))) (z_aK_rng hka).1 (z_aK_rng hka).2
        obtain ⟨kq2, hkn2, hkq2⟩ := z_okR.at (z_vh (z_vp2 hv)) (z_aK_rng hkb).1 (z_aK_rng hkb).2
        obtain ⟨t0, ht⟩ := htk kq q hkn hkq hka
        obtain ⟨t2, ht2⟩ := htk kq2 q2 hkn2 hkq2 hkb
        have he := z_ws_get (α := α) (cA := cA) (md := md) hkn hkq
        have he2 := z_ws_get (α := α) (cA := cA) (md := md) hkn2 hkq2
        rw [z_bdI (Or.inl ha)] at he
        rw [z_bdI (Or.inl hb2)] at he2
        unfold z_ty at ht ht2
        rw [ha] at ht
        rw [hb2] at ht2
        have hws := z_ws_set (α := α) (cA := cA) (md := md) (S := S) (S' := z_acI S q.1 q.2 sp.toNatClampNeg q2.1 q2.2 dp.toNatClampNeg n.toNatClampNeg) (r := q2) (b := .inl (cA q2, z_aN q2.1 q2.2, .inl (va_cpy (S.1 q.1 q.2) (S.1 q2.1 q2.2) sp.toNatClampNeg dp.toNatClampNeg n.toNatClampNeg))) rfl hkn2 hkq2 (fun r' hr => ?_) ?_
        · show W p l e R s m args below meth c H locs cells slots Q (F0 m pc ls (.int n :: .int dp :: z_cR α q2 :: .int sp :: z_cR α q :: r.map (z_cV α)))
          rw [z_cR_ref (Nat.pos_iff_ne_zero.mp (z_aK_rng hka).1), z_cR_ref (Nat.pos_iff_ne_zero.mp (z_aK_rng hkb).1)]
          refine va_copyi hx hb (by rw [hl.2.1, hml]) hown hlk (hts _ (z_wt z_bw_8)) (hts _ (z_wt z_bw_9)) (hts _ (z_wt z_bw_7)) hK hP hD hS kq kq2 t0 t2 he he2 ht ht2 rfl r1 r4 r2 r3 r6 (fun i _ => rfl) hRf (by rw [z_cat_sum, show nativeFrameWords "java/lang/System" "arraycopy" 5 = 7 from by decide +kernel]; omega) hd (fun H1 locs1 hP1 hD1 hS1 => ?_)
          rw [hws] at hP1 hD1
          exact k H1 locs1 hP1 hD1 hS1
        · refine z_bd_cong ?_ rfl rfl
          funext j
          show (if r'.1 = q2.1 ∧ r'.2 = q2.2 then _ else S.1 r'.1 r'.2 j) = _
          rw [if_neg (fun hh => hr (Prod.ext hh.1 hh.2))]
        · rw [z_bdI (Or.inl hb2)]
          have e1 : (z_acI S q.1 q.2 sp.toNatClampNeg q2.1 q2.2 dp.toNatClampNeg n.toNatClampNeg).1 q2.1 q2.2 = va_cpy (S.1 q.1 q.2) (S.1 q2.1 q2.2) sp.toNatClampNeg dp.toNatClampNeg n.toNatClampNeg := by
            funext j
            show (if q2.1 = q2.1 ∧ q2.2 = q2.2 then _ else _) = _
            rw [if_pos ⟨rfl, rfl⟩]
          rw [e1]
      | false =>
        rw [hk1] at h
        obtain ⟨hk1, h⟩ := z_ht (show cond (Nat.beq (z_aK q.1) 4 && Nat.beq (z_aK q2.1) 4) _ none = some res from h)
        rw [Bool.and_eq_true] at hk1
        have ha := Nat.eq_of_beq_eq_true hk1.1
        have hb2 := Nat.eq_of_beq_eq_true hk1.2
        have h : κ (pc + 3) la r (z_acL S q.1 q.2 sp.toNatClampNeg q2.1 q2.2 dp.toNatClampNeg n.toNatClampNeg) = some res := h
        refine z_op2 (hκ _ _ _ _ h) rfl (fun hv => z_vp (z_vp2 (z_vp2 hv))) (fun _ h => h) (fun α cA ls H locs cells slots hR hl hv k => ?_)
        have hka : z_aK q.1 ≠ 0 := by rw [ha]; decide
        have hkb : z_aK q2.1 ≠ 0 := by rw [hb2]; decide
        obtain ⟨-, -, hmo, ⟨tys, hK, htk⟩, hP, hD, hS, -⟩ := hR
        obtain ⟨kq, hkn, hkq⟩ := z_okR.at (z_vh (z_vp2 (z_vp2 hv))) (z_aK_rng hka).1 (z_aK_rng hka).2
        obtain ⟨kq2, hkn2, hkq2⟩ := z_okR.at (z_vh (z_vp2 hv)) (z_aK_rng hkb).1 (z_aK_rng hkb).2
        obtain ⟨t0, ht⟩ := htk kq q hkn hkq hka
        obtain ⟨t2, ht2⟩ := htk kq2 q2 hkn2 hkq2 hkb
        have he := z_ws_get (α := α) (cA := cA) (md := md) hkn hkq
        have he2 := z_ws_get (α := α) (cA := cA) (md := md) hkn2 hkq2
        rw [z_bdL ha] at he
        rw [z_bdL hb2] at he2
        unfold z_ty at ht ht2
        rw [ha] at ht
        rw [hb2] at ht2
        have hws := z_ws_set (α := α) (cA := cA) (md := md) (S := S) (S' := z_acL S q.1 q.2 sp.toNatClampNeg q2.1 q2.2 dp.toNatClampNeg n.toNatClampNeg) (r := q2) (b := .inl (cA q2, z_aN q2.1 q2.2, .inr (.inl (va_cpy (S.2.1 q.1 q.2) (S.2.1 q2.1 q2.2) sp.toNatClampNeg dp.toNatClampNeg n.toNatClampNeg)))) rfl hkn2 hkq2 (fun r' hr => ?_) ?_
        · show W p l e R s m args below meth c H locs cells slots Q (F0 m pc ls (.int n :: .int dp :: z_cR α q2 :: .int sp :: z_cR α q :: r.map (z_cV α)))
          rw [z_cR_ref (Nat.pos_iff_ne_zero.mp (z_aK_rng hka).1), z_cR_ref (Nat.pos_iff_ne_zero.mp (z_aK_rng hkb).1)]
          refine va_copyl hx hb (by rw [hl.2.1, hml]) hown hlk (hts _ (z_wt z_bw_8)) (hts _ (z_wt z_bw_9)) (hts _ (z_wt z_bw_7)) hK hP hD hS kq kq2 t0 t2 he he2 ht ht2 rfl r1 r4 r2 r3 r6 (fun i _ => rfl) hRf (by rw [z_cat_sum, show nativeFrameWords "java/lang/System" "arraycopy" 5 = 7 from by decide +kernel]; omega) hd (fun H1 locs1 hP1 hD1 hS1 => ?_)
          rw [hws] at hP1 hD1
          exact k H1 locs1 hP1 hD1 hS1
        · refine z_bd_cong rfl ?_ rfl
          funext j
          show (if r'.1 = q2.1 ∧ r'.2 = q2.2 then _ else S.2.1 r'.1 r'.2 j) = _
          rw [if_neg (fun hh => hr (Prod.ext hh.1 hh.2))]
        · rw [z_bdL hb2]
          have e1 : (z_acL S q.1 q.2 sp.toNatClampNeg q2.1 q2.2 dp.toNatClampNeg n.toNatClampNeg).2.1 q2.1 q2.2 = va_cpy (S.2.1 q.1 q.2) (S.2.1 q2.1 q2.2) sp.toNatClampNeg dp.toNatClampNeg n.toNatClampNeg := by
            funext j
            show (if q2.1 = q2.1 ∧ q2.2 = q2.2 then _ else _) = _
            rw [if_pos ⟨rfl, rfl⟩]
          rw [e1]
    · cases h
  · cases h
end ZCA
end
section
theorem z_cd_all {j : Nat} (h : j < 231) : j ∈ z_cd := by
  have h1 := List.all_eq_true.mp (show (List.range 231).all (fun j => z_cd.elem j) = true by decide +kernel) j (List.mem_range.mpr h)
  exact List.elem_iff.mp h1
/-- own number of a method's class -/
def z_mo : List Nat := [1, 1, 1, 1, 1, 1, 1, 1, 2, 2, 2, 2, 2, 2, 2, 2, 3, 3, 3, 3, 4, 4, 4, 4, 4, 4, 4, 5, 5, 5, 5, 5, 5, 5, 5, 5, 5, 5, 5, 5, 5, 13, 13, 6, 6, 6, 6, 6, 6, 6, 7, 7, 7, 7, 7, 7, 7, 7, 7, 7, 7, 8, 8, 8, 8, 8, 9, 9, 9, 9, 9, 10, 10, 10, 10, 11, 11, 11, 11, 11, 11, 11, 11, 11, 11, 11, 11, 11, 11, 11, 11, 11, 11, 11, 11, 11, 11, 11, 11, 11, 11, 11, 11, 11, 11, 11, 11, 11, 11, 11, 11, 11, 11, 11, 11, 11, 11, 11, 11, 11, 11, 11, 11, 12, 12, 12, 12, 12, 12, 12, 12, 12, 12, 12, 12, 12, 12, 12, 12, 12, 12, 12, 12, 12, 12, 12, 12, 12, 12, 12, 12, 12, 12, 12, 12, 12, 12, 12, 12, 12, 12, 12, 12, 12, 12, 12, 12, 12, 12, 12, 12, 12, 12, 12, 12, 12, 12, 12, 12, 12, 12, 12, 12, 12, 12, 12, 12, 12, 12, 12, 12, 12, 12, 12, 12, 12, 12, 12, 12, 12, 12, 12, 12, 12, 12, 12, 12, 12, 12, 12, 12, 12, 12, 12, 12, 12, 12, 12, 12, 12, 12, 12, 12, 12, 12, 12, 12, 12, 14, 15, 15]
set_option maxRecDepth 100000 in
theorem z_mo_ok : z_mt.map (fun q => q.1.cls) = z_mo.map z_on := rfl
theorem z_mo_in : z_mo.all (fun o => z_in.elem o) = true := by decide +kernel
theorem z_mt_ini {j : Nat} {q : z_Mt} (h : z_mt[j]? = some q) : Cond.initialized q.1.cls ∈ lw_tbl ∧ goodWord (Cond.initialized q.1.cls) = true := by
  have h1 : (z_mt.map (fun q => q.1.cls))[j]? = some q.1.cls := by rw [List.getElem?_map, h]; rfl
  rw [z_mo_ok, List.getElem?_map] at h1
  cases hz : z_mo[j]? with
  | none => rw [hz] at h1; cases h1
  | some o =>
    rw [hz] at h1
    have h2 : z_on o = q.1.cls := Option.some.inj h1
    have h3 := z_in_in o (List.elem_iff.mp (List.all_eq_true.mp z_mo_in o (List.mem_of_getElem? hz)))
    unfold z_inw at h3
    rw [h2] at h3
    exact h3
/-- a call row against its method: kind, receiver, how many arguments, what comes back -/
def z_rk (r : Option FieldType) : Nat := match r with | none => 0 | some .long => 2 | _ => 1
def z_kdb (kd a cT : Nat) : Bool := match kd with
  | 0 => z_im.elem a && (z_sl.elem a && (Nat.blt 0 cT && Nat.blt cT 13))
  | 1 => z_sm.elem a
  | _ => z_im.elem a && (Nat.blt 0 cT && Nat.blt cT 13)
def z_mlb (q : Nat × (Nat × (Nat × (Nat × (Nat × (Nat × Nat)))))) : Bool := match z_mt[q.2.2.1]? with
  | some t => Nat.beq t.2.2.2.2.2.2.2.2 q.2.2.2.1 && (Nat.beq t.2.2.2.2.2.2.2.1 q.2.2.2.2.1 && (Nat.beq (z_rk t.2.2.2.1) q.2.2.2.2.2.1 && z_kdb q.2.2.2.2.2.2 q.2.2.1 q.2.2.2.2.1))
  | none => false
theorem z_ml_b0 : z_ml_0.all z_mlb = true := by decide +kernel
theorem z_ml_b1 : z_ml_1.all z_mlb = true := by decide +kernel
theorem z_ml_b2 : z_ml_2.all z_mlb = true := by decide +kernel
theorem z_ml_b3 : z_ml_3.all z_mlb = true := by decide +kernel
theorem z_ml_b4 : z_ml_4.all z_mlb = true := by decide +kernel
theorem z_ml_b5 : z_ml_5.all z_mlb = true := by decide +kernel
theorem z_ml_b6 : z_ml_6.all z_mlb = true := by decide +kernel
theorem z_ml_b : ∀ q ∈ z_ml, z_mlb q = true := List.forall_mem_append.mpr ⟨List.all_eq_true.mp z_ml_b0, List.forall_mem_append.mpr ⟨List.all_eq_true.mp z_ml_b1, List.forall_mem_append.mpr ⟨List.all_eq_true.mp z_ml_b2, List.forall_mem_append.mpr ⟨List.all_eq_true.mp z_ml_b3, List.forall_mem_append.mpr ⟨List.all_eq_true.mp z_ml_b4, List.forall_mem_append.mpr ⟨List.all_eq_true.mp z_ml_b5, List.all_eq_true.mp z_ml_b6⟩⟩⟩⟩⟩⟩
theorem z_nst_b : ∀ q ∈ z_nst, z_mlb q = true := List.all_eq_true.mp (by decide +kernel)
def z_ij : List Nat := [0, 8, 16, 20, 27, 43, 50, 61, 66, 71, 75, 123]
theorem z_ij_ok : z_ij.map (fun j => (z_yn j).name) = z_ij.map (fun _ => "<init>") := rfl
theorem z_ij_b : (z_ml.all (fun q => !Nat.beq q.2.2.2.2.2.2 2 || z_ij.elem q.2.2.1)) = true := by decide +kernel
theorem z_ij_n : (z_nst.all (fun q => z_ij.elem q.2.2.1)) = true := by decide +kernel
/-- the class of a method with a receiver is the receiver's -/
theorem z_mo_t : ((z_mt.zip z_mo).all (fun q => Nat.beq q.1.2.2.2.2.2.2.2.1 0 || Nat.beq q.1.2.2.2.2.2.2.2.1 q.2)) = true := by decide +kernel
end
section
/-! ===== methods ===== -/
def z_Pc (D : va_G) (md : Bool) (α : Nat × Nat → Nat) (cA : Nat × Nat → ClassId) (S : z_Mem) (sz : Nat) (as : List z_AV) : Array Value → State → Prop :=
  va_Pc (as.map (z_cV α)) (fun U => U.heap.size = sz ∧ z_NW U ∧ (∃ tys, va_K D vwCl tys U ∧ z_tok cA S.2.2.2 tys) ∧ va_P D vwCl (z_ws α cA md S) U.heap ∧ va_D (fun _ => True) (z_ws α cA md S))
def z_QB (D : va_G) (md : Bool) (α : Nat × Nat → Nat) (cA : Nat × Nat → ClassId) (S S' : z_Mem) (sz : Nat) (u : (Nat × Nat → Nat) × (Nat × Nat → ClassId)) (t : State) : Prop :=
  S'.2.2.2 ≤ 176 ∧ (∀ r, z_okR S.2.2.2 r → u.1 r = α r) ∧ z_mok md S' ∧ (∃ tys, va_K D vwCl tys t ∧ z_tok u.2 S'.2.2.2 tys) ∧ va_P D vwCl (z_ws u.1 u.2 md S') t.heap ∧ va_D (va_A (z_ws α cA md S) sz) (z_ws u.1 u.2 md S')
def z_Qc (D : va_G) (md : Bool) (α : Nat × Nat → Nat) (cA : Nat × Nat → ClassId) (S : z_Mem) (sz : Nat) (r : Option z_AV) (S' : z_Mem) : Array Value → State → Outcome → State → Prop := match r with
  | none => va_Qv (fun _ => True) (z_QB D md α cA S S' sz) (va_A (z_ws α cA md S) sz)
  | some (.inl x) => va_Qi (fun y _ => y = x) (z_QB D md α cA S S' sz) (va_A (z_ws α cA md S) sz)
  | some (.inr (.inl x)) => va_Ql (fun y _ => y = x) (z_QB D md α cA S S' sz) (va_A (z_ws α cA md S) sz)
  | _ => fun _ _ _ _ => False
def z_Ctr (l : Launch) (d : Nat) (md : Bool) (j : Nat) (as : List z_AV) (S : z_Mem) (r : Option z_AV) (S' : z_Mem) : Prop := ∃ q : z_Mt, z_mt[j]? = some q ∧ S.2.2.2 ≤ S'.2.2.2 ∧ ∀ (D : va_G) (α : Nat × Nat → Nat) (cA : Nat × Nat → ClassId) (sz : Nat), (∀ v ∈ as, z_okV S.2.2.2 v) → z_mok md S → S.2.2.2 ≤ 176 →
  Met l q.1 (Cond.code q.1 q.2.1 q.2.2.1 q.2.2.2.1 :: z_WT) ({ frames := d, cells := S'.2.2.2 - S.2.2.2, slots := z_sz S'.2.2.2 - z_sz S.2.2.2, locals := 100 * d }) (z_Pc D md α cA S sz as) (z_Qc D md α cA S sz r S') (S'.2.2.2 - S.2.2.2) (z_sz S'.2.2.2 - z_sz S.2.2.2) (va_A (z_ws α cA md S) sz)
theorem z_blind (D : va_G) (md : Bool) (α : Nat × Nat → Nat) (cA : Nat × Nat → ClassId) (S : z_Mem) (sz : Nat) (as : List z_AV) : FrameBlind (z_Pc D md α cA S sz as) := by
  intro a U g mk h
  obtain ⟨h0, h1, h2, ⟨tys, h3, h4⟩, h5, h6⟩ := h
  exact ⟨h0, h1, ⟨fun q hq => va_Nw.same rfl (u := U) (U := U.calling g mk a) rfl (h2.1 q hq), fun q hq => va_AO.moved (u := U) (U := U.calling g mk a) (Vm.Alike.refl U.vm) (h2.2 q hq)⟩, ⟨tys, va_K.moved (u := U) (U := U.calling g mk a) (Vm.Alike.refl U.vm) h3, h4⟩, h5, h6⟩
theorem z_tk_ok : ∀ (n : Nat) (st acc as r : List z_AV), z_tk n st acc = some (as, r) → ∃ ys, st = ys ++ r ∧ as = ys.reverse ++ acc ∧ ys.length = n
  | 0, st, acc, as, r, h => by
    have e : (acc, st) = (as, r) := Option.some.inj h
    cases e
    exact ⟨[], rfl, rfl, rfl⟩
  | n + 1, [], acc, as, r, h => by cases h
  | n + 1, v :: st, acc, as, r, h => by
    obtain ⟨ys, h1, h2, h3⟩ := z_tk_ok n st (v :: acc) as r h
    exact ⟨v :: ys, by rw [h1]; rfl, by rw [h2]; simp, by rw [← h3]; rfl⟩
theorem z_mlb_of {o i a b cT xn kd : Nat} {q : z_Mt} (h : z_mlb (o, i, a, b, cT, xn, kd) = true) (hq : z_mt[a]? = some q) : q.2.2.2.2.2.2.2.2 = b ∧ q.2.2.2.2.2.2.2.1 = cT ∧ z_rk q.2.2.2.1 = xn ∧ z_kdb kd a cT = true := by
  unfold z_mlb at h
  dsimp only at h
  rw [hq] at h
  dsimp only at h
  rw [Bool.and_eq_true, Bool.and_eq_true, Bool.and_eq_true] at h
  exact ⟨Nat.eq_of_beq_eq_true h.1, Nat.eq_of_beq_eq_true h.2.1, Nat.eq_of_beq_eq_true h.2.2.1, h.2.2.2⟩
theorem z_mcls {a cT : Nat} {q : z_Mt} (hq : z_mt[a]? = some q) (hc : q.2.2.2.2.2.2.2.1 = cT) (h0 : 0 < cT) (h13 : cT < 13) : ∃ (C : String) (T : u_T) (N : Nat), vwCl[cT - 1]? = some (C, T, N) ∧ z_CF (cT - 1) C T N ∧ q.1.cls = C := by
  obtain ⟨C, T, N, h1, h2, h3⟩ := z_vwC h0 h13
  refine ⟨C, T, N, h1, h2, ?_⟩
  have e1 : (z_mt.map (fun q => q.1.cls))[a]? = some q.1.cls := by rw [List.getElem?_map, hq]; rfl
  rw [z_mo_ok, List.getElem?_map] at e1
  cases hz : z_mo[a]? with
  | none => rw [hz] at e1; cases e1
  | some o =>
    rw [hz] at e1
    have e2 : z_on o = q.1.cls := Option.some.inj e1
    have e3 : (z_mt.zip z_mo)[a]? = some (q, o) := by rw [List.getElem?_zip_eq_some]; exact ⟨hq, hz⟩
    have e4 := List.all_eq_true.mp z_mo_t _ (List.mem_of_getElem? e3)
    dsimp only at e4
    rw [hc, Bool.or_eq_true] at e4
    have e5 : cT = o := by
      rcases e4 with e4 | e4
      · have := Nat.eq_of_beq_eq_true e4; omega
      · exact Nat.eq_of_beq_eq_true e4
    obtain ⟨-, -, -, -, -, -, -, -, e6⟩ := h2
    rw [Nat.sub_add_cancel h0] at e6
    rw [← e2, ← e5, e6]
theorem z_ij_name {j : Nat} (h : j ∈ z_ij) : (z_yn j).name = "<init>" := by
  obtain ⟨k, hk⟩ := List.getElem?_of_mem h
  have h1 : (z_ij.map (fun j => (z_yn j).name))[k]? = some (z_yn j).name := by rw [List.getElem?_map, hk]; rfl
  rw [z_ij_ok, List.getElem?_map, hk] at h1
  exact (Option.some.inj h1).symm
theorem z_rk0 {r : Option FieldType} (h : z_rk r = 0) : r = none := by
  unfold z_rk at h
  split at h
  · rfl
  · cases h
  · cases h
theorem z_rcv_of {cT : Nat} {as : List z_AV} (h : z_rcv cT as = true) (h0 : 0 < cT) : ∃ (rq : Nat × Nat) (as' : List z_AV), as = .inr (.inr rq) :: as' ∧ rq.1 = cT := by
  unfold z_rcv at h
  split at h
  · rename_i rq as'
    rw [Bool.or_eq_true] at h
    rcases h with h | h
    · exact ⟨rq, as', rfl, Nat.eq_of_beq_eq_true h⟩
    · have := Nat.eq_of_beq_eq_true h; omega
  · have := Nat.eq_of_beq_eq_true h; omega
section ZCB
variable {p : Program} {l : Launch} {e : Env} {R : Room} {s : State} {m : MethodId} {args : Array Value} {below : List Frame} {meth : Method} {c : Code} {Q : State → Prop}
variable {D : va_G} {A : Nat → Prop} {md : Bool} {sc : z_Sc} {α0 : Nat × Nat → Nat} {n0 n1 nL o : Nat} {ini : Bool} {cc : ByteArray}
variable {pc pc' : Nat} {la la' : z_Lc} {sa sa' : List z_AV} {S S' : z_Mem}
/-- behind a call -/
theorem z_after {α : Nat × Nat → Nat} {cA : Nat × Nat → ClassId} {ls : Array Slot} {H H1 : Heap} {locs locs1 : List Loc} {u : (Nat × Nat → Nat) × (Nat × Nat → ClassId)} {t : State} {top : List z_AV} (hR : z_Rel s D A md sc α0 n0 α cA S H locs) (hl : z_LV α la ls nL) (hk : z_vok S.2.2.2 la sa) (hn : S.2.2.2 ≤ S'.2.2.2) (ht : t.heap = H1) (hvm : s.vm.Alike t.vm) (hB : z_QB D md α cA S S' H.size u t) (hS1 : va_S A s.heap H1 locs1) (htop : ∀ v ∈ top, z_okV S'.2.2.2 v)
    (hsub : ∀ v ∈ sa', v ∈ sa) (g : z_gw p l e R s m args below meth c Q D A md sc α0 n0 n1 nL pc' la (top ++ sa') S') (htv : top.map (z_cV u.1) = top.map (z_cV α)) : W p l e R s m args below meth c H1 locs1 (S'.2.2.2 - n0) (z_sz S'.2.2.2 - z_sz n0) Q (F0 m pc' ls (top.map (z_cV α) ++ sa'.map (z_cV α))) := by
  obtain ⟨⟨hn0, hn6⟩, hag, hmo, ⟨tys, hK, htk⟩, hP, hD, hS, hA, hsr⟩ := hR
  obtain ⟨b0, b1, b2, ⟨tys1, b3, b4⟩, b5, b6⟩ := hB
  have hal : ∀ v, z_okV S.2.2.2 v → z_cV u.1 v = z_cV α v := by
    intro v hv
    rcases v with x | x | q
    · rfl
    · rfl
    · show z_cR _ q = z_cR _ q
      unfold z_cR
      rw [b1 q hv]
  have hAA : ∀ q, va_A (z_ws α cA md S) H.size q → A q := fun q h => h.elim (fun ⟨k, ee, h⟩ => hD.2 k (q, ee) h) (fun h => hA q (Nat.le_trans hS.1 h))
  have h90 : u.1 (90, 0) = α (90, 0) := b1 _ (Or.inr (Or.inl rfl))
  have g2 := g.2 u.1 u.2 ls H1 locs1 ⟨⟨Nat.le_trans hn0 hn, b0⟩, fun r h => (b1 r (h.mono hn0)).trans (hag r h), b2, ⟨tys1, va_K.moved hvm.symm b3, b4⟩, by rw [← ht]; exact b5, b6.weaken (fun _ q _ h => hAA q.1 h), hS1, hA, by rw [h90]; exact hsr⟩
    ⟨hl.1, hl.2.1, hl.2.2.1, fun i v hi => by rw [hal v (hk.2 v (List.mem_of_getElem? hi))]; exact hl.2.2.2 i v hi⟩
    ⟨fun v hv => (List.mem_append.mp hv).elim (htop v) (fun h => (hk.1 v (hsub v h)).mono hn), fun v hv => (hk.2 v hv).mono hn⟩
  rw [List.map_append, htv, List.map_congr_left (fun v hv => hal v (hk.1 v (hsub v hv)))] at g2
  exact g2
/-- what a call asks of the row it stands in -/
def z_cw (o i a b cT : Nat) (x : Int32) (ins : Instr) : Prop :=
  (ins = .invokevirtual i ∧ (o, i, a, b, cT, x.toNatClampNeg, 0) ∈ z_ml) ∨ (ins = .invokestatic i ∧ (o, i, a, b, cT, x.toNatClampNeg, 1) ∈ z_ml ∧ cT = 0) ∨ (ins = .invokespecial i ∧ (o, i, a, b, cT, x.toNatClampNeg, 2) ∈ z_ml ∧ x = 0) ∨ (ins = .invokespecial i ∧ (o, i, a, b, cT, x.toNatClampNeg, 3) ∈ z_nst ∧ x = 0)
theorem z_run_any {d i a b cT : Nat} {x : Int32} {ins : Instr} {as ys r : List z_AV} {rv : Option z_AV} {q : z_Mt} (C0 : z_Ct p R s m args meth c cc nL o ini n0 n1) (hRd : d + 1 ≤ R.frames ∧ 100 * (d + 1) ≤ R.locals) (hd : decode cc pc = .ok (ins, 3)) (hcw : z_cw o i a b cT x ins) (hq : z_mt[a]? = some q)
    (hM : ∀ (D : va_G) (α : Nat × Nat → Nat) (cA : Nat × Nat → ClassId) (sz : Nat), (∀ v ∈ as, z_okV S.2.2.2 v) → z_mok md S → S.2.2.2 ≤ 176 → Met l q.1 (Cond.code q.1 q.2.1 q.2.2.1 q.2.2.2.1 :: z_WT) ({ frames := d, cells := S'.2.2.2 - S.2.2.2, slots := z_sz S'.2.2.2 - z_sz S.2.2.2, locals := 100 * d }) (z_Pc D md α cA S sz as) (z_Qc D md α cA S sz rv S') (S'.2.2.2 - S.2.2.2) (z_sz S'.2.2.2 - z_sz S.2.2.2) (va_A (z_ws α cA md S) sz))
    (hn1 : S'.2.2.2 ≤ n1) (hn : S.2.2.2 ≤ S'.2.2.2) (hsa : sa = ys ++ r) (hys : as = ys.reverse) (hlen : ys.length = b) (hrcv : z_rcv cT as = true) (hcat : z_cat r ≤ 8)
    {α : Nat × Nat → Nat} {cA : Nat × Nat → ClassId} {ls : Array Slot} {H : Heap} {locs : List Loc} (hR : z_Rel s D A md sc α0 n0 α cA S H locs) (hl : z_LV α la ls nL) (hk : z_vok S.2.2.2 la sa) :
    va_Run p l e R s m args below meth c H locs (S.2.2.2 - n0) (z_sz S.2.2.2 - z_sz n0) (S'.2.2.2 - S.2.2.2) (z_sz S'.2.2.2 - z_sz S.2.2.2) (F0 m pc ls (sa.map (z_cV α))) (r.map (z_cV α)) (z_Qc D md α cA S H.size rv S' (as.map (z_cV α)).toArray) (va_A (z_ws α cA md S) H.size) := by
  obtain ⟨hx, hb, hml, hown, hts, hnw, hini, ⟨hRc, hRs⟩, hRf, hRl⟩ := C0
  obtain ⟨⟨hn0, hn6⟩, hag, hmo, ⟨tys, hK, htk⟩, hP, hD, hS, hA, hsr⟩ := hR
  have has : ∀ v ∈ as, z_okV S.2.2.2 v := fun v hv => hk.1 v (by rw [hsa]; exact List.mem_append_left _ (List.mem_reverse.mp (by rw [← hys]; exact hv)))
  have hMet := hM D α cA H.size has hmo hn6
  obtain ⟨hpl, hmh, hpar, hmx⟩ := z_mt_f q (List.mem_of_getElem? hq)
  have hjl : a < 231 := (List.getElem?_eq_some_iff.mp hq).1
  have hgood : GoodIn z_WT (Cond.code q.1 q.2.1 q.2.2.1 q.2.2.2.1 :: z_WT) := by
    intro w hw
    rcases List.mem_cons.mp hw with h | h
    · have h1 := z_cd_in a (z_cd_all hjl)
      unfold z_cdw at h1
      rw [hq] at h1
      rw [h]
      exact ⟨z_wt h1, good_of_word h1.2⟩
    · exact z_wt_good w h
  have hyn : z_yn a = q.1 := by
    unfold z_yn
    rw [List.getD_eq_getElem?_getD, hq]
    rfl
  have hpc : ∀ U : State, U.heap = H → s.WarmedH U.vm → z_Pc D md α cA S H.size as (as.map (z_cV α)).toArray U := fun U hU hW => ⟨rfl, by rw [hU], hnw.warm hW, ⟨tys, va_K.moved hW.alike hK, htk⟩, by rw [hU]; exact hP, hD.weaken (fun _ _ _ _ => trivial)⟩
  have hRR : d + 1 ≤ R.frames ∧ 8 + (q.2.2.1 + 11) + 100 * d ≤ R.locals := ⟨hRd.1, by omega⟩
  have hroom : S.2.2.2 - n0 + (S'.2.2.2 - S.2.2.2) ≤ R.cells ∧ z_sz S.2.2.2 - z_sz n0 + (z_sz S'.2.2.2 - z_sz S.2.2.2) ≤ R.slots := by
    have e1 := z_sz_le hn0
    have e2 := z_sz_le hn
    have e3 := z_sz_le hn1
    omega
  have hstk : sa.map (z_cV α) = (as.map (z_cV α)).reverse ++ r.map (z_cV α) := by rw [hsa, hys, List.map_append, ← List.map_reverse, List.reverse_reverse]
  have hini2 : (Cond.initialized q.1.cls).before args s = true := hts _ (z_wt (z_mt_ini hq))
  have hW8 : 2 * (F0 m pc ls (sa.map (z_cV α))).monitorRoom + ((r.map (z_cV α)).map fun v => v.category).sum ≤ 8 := lv_room (by rw [z_cat_sum]; exact hcat)
  rcases hcw with ⟨hi, hml1⟩ | ⟨hi, hml1, hc0⟩ | ⟨hi, hml1, hx0⟩ | ⟨hi, hml1, hx0⟩
  · subst hi
    have hlk := z_ml_in _ hml1
    unfold z_mlw at hlk
    dsimp only at hlk
    rw [hyn] at hlk
    obtain ⟨k1, k2, k3, k4⟩ := z_mlb_of (z_ml_b _ hml1) hq
    have k4 : (z_im.elem a && (z_sl.elem a && (Nat.blt 0 cT && Nat.blt cT 13))) = true := k4
    rw [Bool.and_eq_true, Bool.and_eq_true, Bool.and_eq_true] at k4
    have hC0 := Nat.blt_eq.mp k4.2.2.1
    have hC13 := Nat.blt_eq.mp k4.2.2.2
    have him := z_im_in a (List.elem_iff.mp k4.1)
    have hsl := z_sl_in a (List.elem_iff.mp k4.2.1)
    unfold z_imw at him
    unfold z_slw at hsl
    rw [hyn] at him hsl
    have hyl : as.length = b := by rw [hys, List.length_reverse]; exact hlen
    obtain ⟨C, T, N, hvc, hcf, hcls⟩ := z_mcls hq k2 (hC0) (hC13)
    obtain ⟨-, -, -, -, haK, -⟩ := hcf
    rw [Nat.sub_add_cancel hC0] at haK
    obtain ⟨rq, as', e1, e2⟩ := z_rcv_of hrcv hC0
    have hpar2 : (parseMethodDescriptor q.1.desc).map (fun d => d.parameters.length) = some (b - 1) := by
      rw [hpar, k2, k1]
      obtain ⟨z, hz⟩ : ∃ z, cT = z + 1 := ⟨cT - 1, by have := hC0; omega⟩
      rw [hz]
    obtain ⟨kr, hkr, hkq⟩ := z_okR.at (has (.inr (.inr rq)) (by rw [e1]; exact List.mem_cons_self)) (by rw [e2]; exact hC0) (by rw [e2]; have := hC13; omega)
    have hwe := z_ws_get (α := α) (cA := cA) (md := md) hkr hkq
    rw [z_bdO (by rw [e2]; exact haK), e2] at hwe
    have hmap : as.map (z_cV α) = .ref (α rq) :: as'.map (z_cV α) := by
      rw [e1, List.map_cons]
      have e3 : z_cV α (.inr (.inr rq)) = .ref (α rq) := z_cR_ref (by rw [e2]; have := hC0; omega)
      rw [e3]
    have hlen2 : (as'.map (z_cV α)).length = b - 1 := by
      rw [List.length_map]
      rw [e1] at hyl
      have := hyl
      simp at this
      omega
    rw [hmap] at hpc hstk ⊢
    have hst2 : (F0 m pc ls (sa.map (z_cV α))).stack = (as'.map (z_cV α)).reverse ++ .ref (α rq) :: r.map (z_cV α) := by
      show sa.map (z_cV α) = _
      rw [hstk]
      simp
    have hT : GoodIn z_WT (wsV (z_on o) i q.1.cls q.1 (Cond.code q.1 q.2.1 q.2.2.1 q.2.2.2.1 :: z_WT)) := by
      intro w hw
      rcases List.mem_append.mp hw with h | h
      · simp only [List.mem_cons, List.not_mem_nil, or_false] at h
        rcases h with h | h | h | h
        · rw [h]; exact ⟨z_wt hlk, good_of_word hlk.2⟩
        · rw [h]; exact ⟨z_wt him, good_of_word him.2⟩
        · rw [h]; exact ⟨z_wt hsl, good_of_word hsl.2⟩
        · rw [h]; exact ⟨z_wt (z_mt_ini hq), good_of_word (z_mt_ini hq).2⟩
      · exact hgood w h
    have hrecv := va_recv hK hP (ci := cT - 1) (q0 := kr) hvc hwe
    rw [← hcls] at hrecv
    exact va_runV (nL := nL) (As := as'.map (z_cV α)) ⟨hx, hb, hml, hown, hts⟩ hMet (cwV (b - 1) hts hT rfl rfl rfl ⟨rfl, hmh.1, hmh.2, hpar2⟩ hRR) ⟨z_blind _ _ _ _ _ _ _, hrecv, hpc⟩ rfl hlen2 hl.2.1 hst2 hW8 hd hroom
  · subst hi
    have hlk := z_ml_in _ hml1
    unfold z_mlw at hlk
    dsimp only at hlk
    rw [hyn] at hlk
    obtain ⟨k1, k2, k3, k4⟩ := z_mlb_of (z_ml_b _ hml1) hq
    have k4 : z_sm.elem a = true := k4
    have him := z_sm_in a (List.elem_iff.mp k4)
    unfold z_smw at him
    rw [hyn] at him
    have hyl : as.length = b := by rw [hys, List.length_reverse]; exact hlen
    have hpar2 : (parseMethodDescriptor q.1.desc).map (fun d => d.parameters.length) = some b := by
      rw [hpar, k2, hc0, k1]
    have hst2 : (F0 m pc ls (sa.map (z_cV α))).stack = (as.map (z_cV α)).reverse ++ r.map (z_cV α) := hstk
    exact va_runS (nL := nL) (As := as.map (z_cV α)) ⟨hx, hb, hml, hown, hts⟩ hMet ⟨callB_of b hts hgood rfl rfl rfl hini2 (hts _ (z_wt hlk)) ⟨hmh.1, hmh.2, hpar2⟩ hRR, hts _ (z_wt him)⟩ ⟨z_blind _ _ _ _ _ _ _, hpc⟩ rfl (by rw [List.length_map]; exact hyl) hl.2.1 hst2 hW8 hd hroom
  · subst hi
    have hlk := z_ml_in _ hml1
    unfold z_mlw at hlk
    dsimp only at hlk
    rw [hyn] at hlk
    obtain ⟨k1, k2, k3, k4⟩ := z_mlb_of (z_ml_b _ hml1) hq
    have k4 : (z_im.elem a && (Nat.blt 0 cT && Nat.blt cT 13)) = true := k4
    rw [Bool.and_eq_true, Bool.and_eq_true] at k4
    have hC0 := Nat.blt_eq.mp k4.2.1
    have hC13 := Nat.blt_eq.mp k4.2.2
    have him := z_im_in a (List.elem_iff.mp k4.1)
    unfold z_imw at him
    rw [hyn] at him
    have hnm : q.1.name = "<init>" := by
      have h1 := List.all_eq_true.mp z_ij_b _ hml1
      have h2 : z_ij.elem a = true := h1
      have h3 := z_ij_name (List.elem_iff.mp h2)
      rw [hyn] at h3
      exact h3
    have hyl : as.length = b := by rw [hys, List.length_reverse]; exact hlen
    obtain ⟨C, T, N, hvc, hcf, hcls⟩ := z_mcls hq k2 (hC0) (hC13)
    obtain ⟨-, -, -, -, haK, -⟩ := hcf
    rw [Nat.sub_add_cancel hC0] at haK
    obtain ⟨rq, as', e1, e2⟩ := z_rcv_of hrcv hC0
    have hpar2 : (parseMethodDescriptor q.1.desc).map (fun d => d.parameters.length) = some (b - 1) := by
      rw [hpar, k2, k1]
      obtain ⟨z, hz⟩ : ∃ z, cT = z + 1 := ⟨cT - 1, by have := hC0; omega⟩
      rw [hz]
    obtain ⟨kr, hkr, hkq⟩ := z_okR.at (has (.inr (.inr rq)) (by rw [e1]; exact List.mem_cons_self)) (by rw [e2]; exact hC0) (by rw [e2]; have := hC13; omega)
    have hwe := z_ws_get (α := α) (cA := cA) (md := md) hkr hkq
    rw [z_bdO (by rw [e2]; exact haK), e2] at hwe
    have hmap : as.map (z_cV α) = .ref (α rq) :: as'.map (z_cV α) := by
      rw [e1, List.map_cons]
      have e3 : z_cV α (.inr (.inr rq)) = .ref (α rq) := z_cR_ref (by rw [e2]; have := hC0; omega)
      rw [e3]
    have hlen2 : (as'.map (z_cV α)).length = b - 1 := by
      rw [List.length_map]
      rw [e1] at hyl
      have := hyl
      simp at this
      omega
    rw [hmap] at hpc hstk ⊢
    have hst2 : (F0 m pc ls (sa.map (z_cV α))).stack = (as'.map (z_cV α)).reverse ++ .ref (α rq) :: r.map (z_cV α) := by
      show sa.map (z_cV α) = _
      rw [hstk]
      simp
    have hrt : q.2.2.2.1 = none := z_rk0 (by rw [k3, hx0]; rfl)
    rw [hrt] at hMet hgood
    exact va_runI (nL := nL) (As := as'.map (z_cV α)) ⟨hx, hb, hml, hown, hts⟩ hMet ⟨callB_of (b - 1) hts hgood rfl rfl rfl hini2 (hts _ (z_wt hlk)) ⟨hmh.1, hmh.2, hpar2⟩ hRR, hnm, hts _ (z_wt him)⟩ ⟨z_blind _ _ _ _ _ _ _, hpc⟩ rfl hlen2 hl.2.1 hst2 hW8 hd hroom
  · subst hi
    have hnl := hnw.1 _ hml1
    dsimp only at hnl
    rw [hyn] at hnl
    obtain ⟨k1, k2, k3, k4⟩ := z_mlb_of (z_nst_b _ hml1) hq
    have k4 : (z_im.elem a && (Nat.blt 0 cT && Nat.blt cT 13)) = true := k4
    rw [Bool.and_eq_true, Bool.and_eq_true] at k4
    have hC0 := Nat.blt_eq.mp k4.2.1
    have hC13 := Nat.blt_eq.mp k4.2.2
    have him := z_im_in a (List.elem_iff.mp k4.1)
    unfold z_imw at him
    rw [hyn] at him
    have hnm : q.1.name = "<init>" := by
      have h1 := List.all_eq_true.mp z_ij_n _ hml1
      have h2 : z_ij.elem a = true := h1
      have h3 := z_ij_name (List.elem_iff.mp h2)
      rw [hyn] at h3
      exact h3
    have hyl : as.length = b := by rw [hys, List.length_reverse]; exact hlen
    obtain ⟨C, T, N, hvc, hcf, hcls⟩ := z_mcls hq k2 (hC0) (hC13)
    obtain ⟨-, -, -, -, haK, -⟩ := hcf
    rw [Nat.sub_add_cancel hC0] at haK
    obtain ⟨rq, as', e1, e2⟩ := z_rcv_of hrcv hC0
    have hpar2 : (parseMethodDescriptor q.1.desc).map (fun d => d.parameters.length) = some (b - 1) := by
      rw [hpar, k2, k1]
      obtain ⟨z, hz⟩ : ∃ z, cT = z + 1 := ⟨cT - 1, by have := hC0; omega⟩
      rw [hz]
    obtain ⟨kr, hkr, hkq⟩ := z_okR.at (has (.inr (.inr rq)) (by rw [e1]; exact List.mem_cons_self)) (by rw [e2]; exact hC0) (by rw [e2]; have := hC13; omega)
    have hwe := z_ws_get (α := α) (cA := cA) (md := md) hkr hkq
    rw [z_bdO (by rw [e2]; exact haK), e2] at hwe
    have hmap : as.map (z_cV α) = .ref (α rq) :: as'.map (z_cV α) := by
      rw [e1, List.map_cons]
      have e3 : z_cV α (.inr (.inr rq)) = .ref (α rq) := z_cR_ref (by rw [e2]; have := hC0; omega)
      rw [e3]
    have hlen2 : (as'.map (z_cV α)).length = b - 1 := by
      rw [List.length_map]
      rw [e1] at hyl
      have := hyl
      simp at this
      omega
    rw [hmap] at hpc hstk ⊢
    have hst2 : (F0 m pc ls (sa.map (z_cV α))).stack = (as'.map (z_cV α)).reverse ++ .ref (α rq) :: r.map (z_cV α) := by
      show sa.map (z_cV α) = _
      rw [hstk]
      simp
    have hrt : q.2.2.2.1 = none := z_rk0 (by rw [k3, hx0]; rfl)
    rw [hrt] at hMet hgood
    exact va_runIN (nL := nL) (As := as'.map (z_cV α)) ⟨hx, hb, hml, hown, hts⟩ hMet ⟨va_cnB (b - 1) hts hgood rfl rfl rfl hnl hini2 ⟨hmh.1, hmh.2, hpar2⟩ hRR, hnm, hts _ (z_wt him)⟩ ⟨z_blind _ _ _ _ _ _ _, hpc⟩ rfl hlen2 hl.2.1 hst2 hW8 hd hroom
end ZCB
end
section
/-! ===== a stretch of a method, a method ===== -/
def z_rok (cc : ByteArray) (pc : Nat) (ret : Option FieldType) (r : Option z_AV) : Prop := match r with
  | none => decode cc pc = .ok (.return_, 1) ∧ ret = none
  | some (.inl v) => decode cc pc = .ok (.ireturn, 1) ∧ (ret = some .int ∨ (ret = some .boolean ∧ v &&& 1 = v))
  | some (.inr (.inl _)) => decode cc pc = .ok (.lreturn, 1) ∧ ret = some .long
  | _ => False
def z_ckr (ret : Option FieldType) (bo : Bool) (ins : Instr) : Bool := match ins with
  | .ireturn => cond bo (decide (ret = some .boolean)) (decide (ret = some .int))
  | .lreturn => decide (ret = some .long)
  | .return_ => decide (ret = none)
  | _ => true
def z_okb (cc : ByteArray) (o nL : Nat) (ini : Bool) (ret : Option FieldType) (bo : Bool) (q : z_Op) : Bool :=
  decide (decode cc q.1 = .ok (q.2.1, q.2.2.1)) && (z_ck o nL ini q.2.1 q.2.2.1 q.2.2.2.1 q.2.2.2.2.1 q.2.2.2.2.2.1 q.2.2.2.2.2.2.1 q.2.2.2.2.2.2.2 q.1 && z_ckr ret bo q.2.1)
def z_ops (cc : ByteArray) (o nL : Nat) (ini : Bool) (ret : Option FieldType) (bo : Bool) (ops : List z_Op) : Prop := ∀ q ∈ ops, decode cc q.1 = .ok (q.2.1, q.2.2.1) ∧ z_ck o nL ini q.2.1 q.2.2.1 q.2.2.2.1 q.2.2.2.2.1 q.2.2.2.2.2.1 q.2.2.2.2.2.2.1 q.2.2.2.2.2.2.2 q.1 = true ∧ z_ckr ret bo q.2.1 = true
theorem z_okl {cc : ByteArray} {o nL : Nat} {ini : Bool} {ret : Option FieldType} {bo : Bool} {ops : List z_Op} (h : ops.all (z_okb cc o nL ini ret bo) = true) : z_ops cc o nL ini ret bo ops := by
  intro q hq
  have h1 := List.all_eq_true.mp h q hq
  unfold z_okb at h1
  rw [Bool.and_eq_true, Bool.and_eq_true] at h1
  exact ⟨of_decide_eq_true h1.1, h1.2.1, h1.2.2⟩
/-- a method's row holds of its bytes -/
def z_OK (q : z_Mt) : Prop := ∃ (o : Nat) (ini : Bool), z_on o = q.1.cls ∧ (ini = true → q.1.name = "<init>") ∧ z_ops q.2.1 o q.2.2.1 ini q.2.2.2.1 q.2.2.2.2.1 q.2.2.2.2.2.1
theorem z_lk_in {ops : List z_Op} {pc : Nat} {t : Instr × (Nat × (Nat × (Nat × (Nat × (Int32 × List (Int32 × Nat))))))} (h : z_lk ops pc = some t) : (pc, t) ∈ ops := by
  induction ops with
  | nil => cases h
  | cons q r ih =>
    unfold z_lk at h
    cases hb : Nat.beq q.1 pc with
    | true =>
      rw [hb] at h
      have e : q.2 = t := Option.some.inj h
      rw [← e, ← Nat.eq_of_beq_eq_true hb]
      exact List.mem_cons_self
    | false =>
      rw [hb] at h
      exact List.mem_cons_of_mem _ (ih h)
theorem z_msk_len : ∀ (mq : List Bool) (la : z_Lc), (z_msk mq la).length = la.length
  | [], la => by cases la <;> rfl
  | _ :: _, [] => rfl
  | b :: mq, v :: la => by
    show (z_msk mq la).length + 1 = la.length + 1
    rw [z_msk_len mq la]
theorem z_msk_get : ∀ (mq : List Bool) (la : z_Lc) (i : Nat) (v : z_AV), (z_msk mq la)[i]? = some (some v) → la[i]? = some (some v)
  | [], la, i, v, h => by cases la <;> exact h
  | _ :: _, [], i, v, h => h
  | b :: mq, u :: la, 0, v, h => by
    have h1 : some (cond b u none) = some (some v) := h
    cases b with
    | true => exact h1
    | false => cases h1
  | b :: mq, u :: la, i + 1, v, h => z_msk_get mq la i v h
section ZCG
variable {p : Program} {l : Launch} {e : Env} {R : Room} {s : State} {m : MethodId} {args : Array Value} {below : List Frame} {meth : Method} {c : Code} {Q : State → Prop}
variable {D : va_G} {A : Nat → Prop} {md : Bool} {sc : z_Sc} {α0 : Nat × Nat → Nat} {n0 n1 nL o : Nat} {ini : Bool} {cc : ByteArray}
variable {pc pc' : Nat} {la la' : z_Lc} {sa sa' : List z_AV} {S S' : z_Mem}
theorem z_gw_msk {mk : List Bool} (g : z_gw p l e R s m args below meth c Q D A md sc α0 n0 n1 nL pc (z_msk mk la) sa S) : z_gw p l e R s m args below meth c Q D A md sc α0 n0 n1 nL pc la sa S :=
  ⟨g.1, fun α cA ls H locs hR hl hk => g.2 α cA ls H locs hR ⟨by rw [z_msk_len]; exact hl.1, hl.2.1, hl.2.2.1, fun i v hi => hl.2.2.2 i v (z_msk_get mk la i v hi)⟩
    ⟨hk.1, fun v hv => by
      obtain ⟨i, hi⟩ := List.getElem?_of_mem hv
      exact hk.2 v (List.mem_of_getElem? (z_msk_get mk la i v hi))⟩⟩
theorem z_call_ok {ρ : Type} {κ : Nat → z_Lc → List z_AV → z_Mem → Option ρ} {res : ρ} {ex : z_Ex} {d i a b cT : Nat} {x : Int32} {ins : Instr} (C0 : z_Ct p R s m args meth c cc nL o ini n0 n1) (hRd : d + 1 ≤ R.frames ∧ 100 * (d + 1) ≤ R.locals) (hd : decode cc pc = .ok (ins, 3)) (hcw : z_cw o i a b cT x ins)
    (hex : ∀ j as S r S', ex j as S = some (r, S') → z_Ctr l d md j as S r S')
    (h : z_call ex a b cT x pc la sa S κ = some res) (hκ : ∀ pc' la' sa' S', κ pc' la' sa' S' = some res → z_gw p l e R s m args below meth c Q D A md sc α0 n0 n1 nL pc' la' sa' S') : z_gw p l e R s m args below meth c Q D A md sc α0 n0 n1 nL pc la sa S := by
  unfold z_call at h
  split at h
  · cases h
  · rename_i as r htk
    obtain ⟨ys, e1, e2, e3⟩ := z_tk_ok _ _ _ _ _ htk
    rw [List.append_nil] at e2
    obtain ⟨hc, h⟩ := z_ht h
    rw [Bool.and_eq_true] at hc
    have hcat := Nat.le_of_ble_eq_true hc.2
    have key : ∀ (rv : Option z_AV) (S' : z_Mem) (top : List z_AV), ex a as S = some (rv, S') → rv.toList = top → (rv = none ∨ (∃ v, rv = some (.inl v)) ∨ ∃ v, rv = some (.inr (.inl v))) → z_gw p l e R s m args below meth c Q D A md sc α0 n0 n1 nL (pc + 3) la (top ++ r) S' → z_gw p l e R s m args below meth c Q D A md sc α0 n0 n1 nL pc la sa S := by
      intro rv S' top hexe htop hrv g
      obtain ⟨q, hq, hn, hM⟩ := hex a as S rv S' hexe
      refine ⟨Nat.le_trans hn g.1, fun α cA ls H locs hR hl hk => ?_⟩
      have hrun := z_run_any (e := e) (below := below) C0 hRd hd hcw hq hM g.1 hn e1 e2 e3 hc.1 hcat hR hl hk
      obtain ⟨⟨hn0, hn6⟩, hag, hmo, ⟨tys, hK, htk⟩, hP, hD, hS, hA, hsr⟩ := id hR
      have hAA : ∀ q, va_A (z_ws α cA md S) H.size q → A q := fun q h => h.elim (fun ⟨k, ee, h⟩ => hD.2 k (q, ee) h) (fun h => hA q (Nat.le_trans hS.1 h))
      have hc1 : S.2.2.2 - n0 + (S'.2.2.2 - S.2.2.2) = S'.2.2.2 - n0 := by omega
      have hc2 : z_sz S.2.2.2 - z_sz n0 + (z_sz S'.2.2.2 - z_sz S.2.2.2) = z_sz S'.2.2.2 - z_sz n0 := by
        have e1 := z_sz_le hn0
        have e2 := z_sz_le hn
        omega
      have hsub : ∀ v ∈ r, v ∈ sa := fun v hv => by rw [e1]; exact List.mem_append_right _ hv
      rcases hrv with rfl | ⟨v, rfl⟩ | ⟨v, rfl⟩
      · subst htop
        refine va_callv (S := (Nat × Nat → Nat) × (Nat × Nat → ClassId)) (post := fun _ => True) (B := z_QB D md α cA S S' H.size) (a := (as.map (z_cV α)).toArray) hrun hS (fun q _ h => hAA q h) hAA (fun u t H1 locs1 ht hvm hw hB hz1 hk1 hS1 => ?_)
        rw [hc1, hc2]
        exact z_after (top := []) hR hl hk hn ht hvm hB hS1 (fun v hv => by cases hv) hsub g rfl
      · subst htop
        refine va_calli (S := (Nat × Nat → Nat) × (Nat × Nat → ClassId)) (post := fun y _ => y = v) (B := z_QB D md α cA S S' H.size) (a := (as.map (z_cV α)).toArray) hrun hS (fun q _ h => hAA q h) hAA (fun y u t H1 locs1 ht hvm hw hB hz1 hk1 hS1 => ?_)
        rw [hc1, hc2, hw]
        exact z_after (top := [.inl v]) hR hl hk hn ht hvm hB hS1 (fun v hv => by rcases List.mem_cons.mp hv with e | e; rw [e]; exact trivial; cases e) hsub g rfl
      · subst htop
        refine va_calll (S := (Nat × Nat → Nat) × (Nat × Nat → ClassId)) (post := fun y _ => y = v) (B := z_QB D md α cA S S' H.size) (a := (as.map (z_cV α)).toArray) hrun hS (fun q _ h => hAA q h) hAA (fun y u t H1 locs1 ht hvm hw hB hz1 hk1 hS1 => ?_)
        rw [hc1, hc2, hw]
        exact z_after (top := [.inr (.inl v)]) hR hl hk hn ht hvm hB hS1 (fun v hv => by rcases List.mem_cons.mp hv with e | e; rw [e]; exact trivial; cases e) hsub g rfl
    split at h
    · unfold z_rV at h
      split at h
      · rename_i S' hexe
        exact key none S' [] hexe rfl (Or.inl rfl) (hκ _ _ _ _ h)
      · cases h
    · split at h
      · unfold z_rI at h
        split at h
        · rename_i v S' hexe
          exact key (some (.inl v)) S' [.inl v] hexe rfl (Or.inr (Or.inl ⟨v, rfl⟩)) (hκ _ _ _ _ h)
        · cases h
      · unfold z_rL at h
        split at h
        · rename_i v S' hexe
          exact key (some (.inr (.inl v))) S' [.inr (.inl v)] hexe rfl (Or.inr (Or.inr ⟨v, rfl⟩)) (hκ _ _ _ _ h)
        · cases h
theorem z_go_ok {ρ : Type} {K : Nat → z_Lc → List z_AV → z_Mem → Option ρ} {Kr : Option z_AV → z_Mem → Option ρ} {res : ρ} {ex : z_Ex} {d : Nat} {bo : Bool} {ret : Option FieldType} {ops : List z_Op} {cuts : List (Nat × List Bool)} (C0 : z_Ct p R s m args meth c cc nL o ini n0 n1) (hRd : d + 1 ≤ R.frames ∧ 100 * (d + 1) ≤ R.locals)
    (hops : z_ops cc o nL ini ret bo ops) (hex : ∀ j as S r S', ex j as S = some (r, S') → z_Ctr l d md j as S r S')
    (hK : ∀ pc la sa S, K pc la sa S = some res → z_gw p l e R s m args below meth c Q D A md sc α0 n0 n1 nL pc la sa S)
    (hKr : ∀ pc la r S, Kr r S = some res → z_rok cc pc ret r → z_gw p l e R s m args below meth c Q D A md sc α0 n0 n1 nL pc la r.toList S) : ∀ (k pc : Nat) (la : z_Lc) (sa : List z_AV) (S : z_Mem), z_go md sc ex bo ops cuts K Kr k pc la sa S = some res → z_gw p l e R s m args below meth c Q D A md sc α0 n0 n1 nL pc la sa S := by
  intro k
  induction k with
  | zero => intro pc la sa S h; cases h
  | succ k ih =>
    intro pc la sa S h
    unfold z_go at h
    split at h
    · cases h
    · rename_i ins len a b cT x sw hlk
      obtain ⟨hd, hck, hcr⟩ := hops _ (z_lk_in hlk)
      dsimp only at hd hck hcr
      have hκ : ∀ pc' la' sa' S', (match z_cut cuts pc' with | some mq => K pc' (z_msk mq la') sa' S' | none => z_go md sc ex bo ops cuts K Kr k pc' la' sa' S') = some res → z_gw p l e R s m args below meth c Q D A md sc α0 n0 n1 nL pc' la' sa' S' := by
        intro pc' la' sa' S' h'
        split at h'
        · exact z_gw_msk (hK _ _ _ _ h')
        · exact ih _ _ _ _ h'
      split at h
      · have hl1 : len = 1 := Nat.eq_of_beq_eq_true hck
        subst hl1
        split at h
        · rename_i v
          cases bo with
          | true =>
            have h : (if v &&& 1 = v then Kr (some (.inl v)) S else none) = some res := h
            obtain ⟨hv, h⟩ := z_if2 h
            exact hKr pc la (some (.inl v)) S h ⟨hd, Or.inr ⟨of_decide_eq_true hcr, hv⟩⟩
          | false => exact hKr pc la (some (.inl v)) S h ⟨hd, Or.inl (of_decide_eq_true hcr)⟩
        · cases h
      · have hl1 : len = 1 := Nat.eq_of_beq_eq_true hck
        subst hl1
        split at h
        · rename_i v
          exact hKr pc la (some (.inr (.inl v))) S h ⟨hd, of_decide_eq_true hcr⟩
        · cases h
      · have hl1 : len = 1 := Nat.eq_of_beq_eq_true hck
        subst hl1
        split at h
        · exact hKr pc la none S h ⟨hd, of_decide_eq_true hcr⟩
        · cases h
      · rename_i i
        have hck : (Nat.beq len 3 && decide ((o, i, a, b, cT, x.toNatClampNeg, 0) ∈ z_ml) && decide (Int32.ofNat x.toNatClampNeg = x)) = true := hck
        rw [Bool.and_eq_true, Bool.and_eq_true] at hck
        have hl1 : len = 3 := Nat.eq_of_beq_eq_true hck.1.1
        subst hl1
        exact z_call_ok (i := i) C0 hRd hd (Or.inl ⟨rfl, of_decide_eq_true hck.1.2⟩) hex h hκ
      · rename_i i
        have hck : (Nat.beq len 3 && (cond (Nat.ble 1000 a) (decide ((o, i, a) ∈ z_bl) && Nat.blt 1000 a) (decide ((o, i, a, b, cT, x.toNatClampNeg, 1) ∈ z_ml) && (decide (Int32.ofNat x.toNatClampNeg = x) && Nat.beq cT 0)))) = true := hck
        rw [Bool.and_eq_true] at hck
        have hl1 : len = 3 := Nat.eq_of_beq_eq_true hck.1
        subst hl1
        cases hb : Nat.ble 1000 a with
        | true =>
          rw [hb] at h hck
          dsimp only [cond] at h
          have h2 : (decide ((o, i, a) ∈ z_bl) && Nat.blt 1000 a) = true := hck.2
          rw [Bool.and_eq_true] at h2
          exact z_bi_ok (i := i) C0 hd (Or.inr ⟨Nat.blt_eq.mp h2.2, rfl⟩) (of_decide_eq_true h2.1) h hκ
        | false =>
          rw [hb] at h hck
          dsimp only [cond] at h
          have h2 : (decide ((o, i, a, b, cT, x.toNatClampNeg, 1) ∈ z_ml) && (decide (Int32.ofNat x.toNatClampNeg = x) && Nat.beq cT 0)) = true := hck.2
          rw [Bool.and_eq_true, Bool.and_eq_true] at h2
          exact z_call_ok (i := i) C0 hRd hd (Or.inr (Or.inl ⟨rfl, of_decide_eq_true h2.1, Nat.eq_of_beq_eq_true h2.2.2⟩)) hex h hκ
      · rename_i i
        have hck : (Nat.beq len 3 && (cond (Nat.ble 1000 a) (decide ((o, i, a) ∈ z_bl) && Nat.beq a 1000) ((decide ((o, i, a, b, cT, x.toNatClampNeg, 2) ∈ z_ml) || decide ((o, i, a, b, cT, x.toNatClampNeg, 3) ∈ z_nst)) && decide (x = 0)))) = true := hck
        rw [Bool.and_eq_true] at hck
        have hl1 : len = 3 := Nat.eq_of_beq_eq_true hck.1
        subst hl1
        cases hb : Nat.ble 1000 a with
        | true =>
          rw [hb] at h hck
          dsimp only [cond] at h
          have h2 : (decide ((o, i, a) ∈ z_bl) && Nat.beq a 1000) = true := hck.2
          rw [Bool.and_eq_true] at h2
          exact z_bi_ok (i := i) C0 hd (Or.inl ⟨Nat.eq_of_beq_eq_true h2.2, rfl⟩) (of_decide_eq_true h2.1) h hκ
        | false =>
          rw [hb] at h hck
          dsimp only [cond] at h
          have h2 : ((decide ((o, i, a, b, cT, x.toNatClampNeg, 2) ∈ z_ml) || decide ((o, i, a, b, cT, x.toNatClampNeg, 3) ∈ z_nst)) && decide (x = 0)) = true := hck.2
          rw [Bool.and_eq_true, Bool.or_eq_true] at h2
          refine z_call_ok (i := i) C0 hRd hd ?_ hex h hκ
          rcases h2.1 with h3 | h3
          · exact Or.inr (Or.inr (Or.inl ⟨rfl, of_decide_eq_true h3, of_decide_eq_true h2.2⟩))
          · exact Or.inr (Or.inr (Or.inr ⟨rfl, of_decide_eq_true h3, of_decide_eq_true h2.2⟩))
      · exact z_stp_ok C0 hd hck h hκ
theorem z_run_ok {res : Option z_AV × z_Mem} {ex : z_Ex} {d : Nat} {bo : Bool} {ret : Option FieldType} {ops : List z_Op} {cuts : List (Nat × List Bool)} (C0 : z_Ct p R s m args meth c cc nL o ini n0 n1) (hRd : d + 1 ≤ R.frames ∧ 100 * (d + 1) ≤ R.locals)
    (hops : z_ops cc o nL ini ret bo ops) (hex : ∀ j as S r S', ex j as S = some (r, S') → z_Ctr l d md j as S r S') (hsc : sc = none)
    (hKr : ∀ pc la, z_rok cc pc ret res.1 → z_gw p l e R s m args below meth c Q D A md sc α0 n0 n1 nL pc la res.1.toList res.2) : ∀ (n pc : Nat) (la : z_Lc) (sa : List z_AV) (S : z_Mem), z_run md ex bo ops cuts n pc la sa S = some res → z_gw p l e R s m args below meth c Q D A md sc α0 n0 n1 nL pc la sa S := by
  subst hsc
  intro n
  induction n with
  | zero => intro pc la sa S h; cases h
  | succ n ih =>
    intro pc la sa S h
    unfold z_run at h
    refine z_go_ok C0 hRd hops hex ih (fun pc la r S hr hk => ?_) _ _ _ _ _ h
    have e1 : (r, S) = res := Option.some.inj hr
    subst e1
    exact hKr pc la hk
end ZCG
end
section
/-! ===== nothing that was made is forgotten ===== -/
theorem z_stp_mono {ρ : Type} {κ : Nat → z_Lc → List z_AV → z_Mem → Option ρ} {res : ρ} {md : Bool} {sc : z_Sc} {ins : Instr} {a b k : Nat} {x : Int32} {sw : List (Int32 × Nat)} {pc : Nat} {la : z_Lc} {sa : List z_AV} {S : z_Mem}
    (h : z_stp md sc ins a b k x sw pc la sa S κ = some res) : ∃ pc' la' sa' S', κ pc' la' sa' S' = some res ∧ S.2.2.2 ≤ S'.2.2.2 := by
  cases ins <;> dsimp only [z_stp] at h
  case tableswitch =>
    split at h
    · rename_i v r
      rcases z_sw_ok sw v (fun t => κ t la r S) a with ⟨e1, -⟩ | ⟨_, q, -, -, e3⟩
      · rw [e1] at h; exact ⟨_, _, _, _, h, Nat.le_refl _⟩
      · rw [e3] at h; exact ⟨_, _, _, _, h, Nat.le_refl _⟩
    · cases h
  case lookupswitch =>
    split at h
    · rename_i v r
      rcases z_sw_ok sw v (fun t => κ t la r S) a with ⟨e1, -⟩ | ⟨_, q, -, -, e3⟩
      · rw [e1] at h; exact ⟨_, _, _, _, h, Nat.le_refl _⟩
      · rw [e3] at h; exact ⟨_, _, _, _, h, Nat.le_refl _⟩
    · cases h
  case putfield =>
    split at h
    · obtain ⟨-, h⟩ := z_ht h
      split at h
      · exact ⟨_, _, _, _, h, Nat.le_refl _⟩
      · obtain ⟨-, h⟩ := z_if2 h
        exact ⟨_, _, _, _, h, Nat.le_refl _⟩
      · cases h
    · obtain ⟨-, h⟩ := z_ht h
      obtain ⟨-, h⟩ := z_hf h
      split at h
      · obtain ⟨-, h⟩ := z_hf h
        exact ⟨_, _, _, _, h, Nat.le_refl _⟩
      · cases md with
        | false => exact ⟨_, _, _, _, h, Nat.le_refl _⟩
        | true =>
          dsimp only [cond] at h
          obtain ⟨-, h⟩ := z_ht h
          exact ⟨_, _, _, _, h, Nat.le_refl _⟩
      · cases h
    · cases h
  case iaload =>
    split at h
    · rename_i j q r
      cases h9 : Nat.beq q.1 90 with
      | true =>
        rw [h9] at h
        dsimp only [cond] at h
        split at h
        · obtain ⟨-, h⟩ := z_hf h
          exact ⟨_, _, _, _, h, Nat.le_refl _⟩
        · cases h
      | false =>
        rw [h9] at h
        obtain ⟨-, h⟩ := z_ht (show cond (Nat.beq (z_aK q.1) 1) _ none = some res from h)
        obtain ⟨-, h⟩ := z_hf h
        exact ⟨_, _, _, _, h, Nat.le_refl _⟩
    · cases h
  case arraylength =>
    split at h
    · rename_i q r
      cases h9 : Nat.beq q.1 90 with
      | true =>
        rw [h9] at h
        dsimp only [cond] at h
        split at h
        · exact ⟨_, _, _, _, h, Nat.le_refl _⟩
        · cases h
      | false =>
        rw [h9] at h
        obtain ⟨-, h⟩ := z_hf (show cond (Nat.beq (z_aK q.1) 0) none _ = some res from h)
        exact ⟨_, _, _, _, h, Nat.le_refl _⟩
    · cases h
  case bastore =>
    split at h
    · rename_i v j q r
      cases h2 : Nat.beq (z_aK q.1) 2 with
      | true =>
        rw [h2] at h
        obtain ⟨-, h⟩ := z_hf (show cond (z_oob j (z_aN q.1 q.2)) none _ = some res from h)
        exact ⟨_, _, _, _, h, Nat.le_refl _⟩
      | false =>
        rw [h2] at h
        obtain ⟨-, h⟩ := z_ht (show cond (Nat.beq (z_aK q.1) 3) _ none = some res from h)
        obtain ⟨-, h⟩ := z_hf h
        exact ⟨_, _, _, _, h, Nat.le_refl _⟩
    · cases h
  case iload =>
    split at h
    · exact ⟨_, _, _, _, h, Nat.le_refl _⟩
    · cases h
  case iload_n =>
    split at h
    · exact ⟨_, _, _, _, h, Nat.le_refl _⟩
    · cases h
  case lload =>
    split at h
    · exact ⟨_, _, _, _, h, Nat.le_refl _⟩
    · cases h
  case lload_n =>
    split at h
    · exact ⟨_, _, _, _, h, Nat.le_refl _⟩
    · cases h
  case aload =>
    split at h
    · obtain ⟨-, h⟩ := z_hf h
      exact ⟨_, _, _, _, h, Nat.le_refl _⟩
    · cases h
  case aload_n =>
    split at h
    · obtain ⟨-, h⟩ := z_hf h
      exact ⟨_, _, _, _, h, Nat.le_refl _⟩
    · cases h
  case istore =>
    split at h
    · split at h
      · exact ⟨_, _, _, _, h, Nat.le_refl _⟩
      · cases h
    · cases h
  case istore_n =>
    split at h
    · split at h
      · exact ⟨_, _, _, _, h, Nat.le_refl _⟩
      · cases h
    · cases h
  case lstore =>
    split at h
    · split at h
      · exact ⟨_, _, _, _, h, Nat.le_refl _⟩
      · cases h
    · cases h
  case iinc =>
    split at h
    · split at h
      · exact ⟨_, _, _, _, h, Nat.le_refl _⟩
      · cases h
    · cases h
  case astore =>
    split at h
    · obtain ⟨-, h⟩ := z_hf h
      split at h
      · exact ⟨_, _, _, _, h, Nat.le_refl _⟩
      · cases h
    · cases h
  case astore_n =>
    split at h
    · obtain ⟨-, h⟩ := z_hf h
      split at h
      · exact ⟨_, _, _, _, h, Nat.le_refl _⟩
      · cases h
    · cases h
  case iadd =>
    split at h
    · exact ⟨_, _, _, _, h, Nat.le_refl _⟩
    · cases h
  case isub =>
    split at h
    · exact ⟨_, _, _, _, h, Nat.le_refl _⟩
    · cases h
  case imul =>
    split at h
    · exact ⟨_, _, _, _, h, Nat.le_refl _⟩
    · cases h
  case iand =>
    split at h
    · exact ⟨_, _, _, _, h, Nat.le_refl _⟩
    · cases h
  case ior =>
    split at h
    · exact ⟨_, _, _, _, h, Nat.le_refl _⟩
    · cases h
  case ixor =>
    split at h
    · exact ⟨_, _, _, _, h, Nat.le_refl _⟩
    · cases h
  case ishl =>
    split at h
    · exact ⟨_, _, _, _, h, Nat.le_refl _⟩
    · cases h
  case ishr =>
    split at h
    · exact ⟨_, _, _, _, h, Nat.le_refl _⟩
    · cases h
  case iushr =>
    split at h
    · exact ⟨_, _, _, _, h, Nat.le_refl _⟩
    · cases h
  case ineg =>
    split at h
    · exact ⟨_, _, _, _, h, Nat.le_refl _⟩
    · cases h
  case land =>
    split at h
    · exact ⟨_, _, _, _, h, Nat.le_refl _⟩
    · cases h
  case lor =>
    split at h
    · exact ⟨_, _, _, _, h, Nat.le_refl _⟩
    · cases h
  case lshl =>
    split at h
    · exact ⟨_, _, _, _, h, Nat.le_refl _⟩
    · cases h
  case lcmp =>
    split at h
    · exact ⟨_, _, _, _, h, Nat.le_refl _⟩
    · cases h
  case i2l =>
    split at h
    · exact ⟨_, _, _, _, h, Nat.le_refl _⟩
    · cases h
  case l2i =>
    split at h
    · exact ⟨_, _, _, _, h, Nat.le_refl _⟩
    · cases h
  case i2b =>
    split at h
    · exact ⟨_, _, _, _, h, Nat.le_refl _⟩
    · cases h
  case i2s =>
    split at h
    · exact ⟨_, _, _, _, h, Nat.le_refl _⟩
    · cases h
  case idiv =>
    split at h
    · obtain ⟨-, h⟩ := z_if h
      exact ⟨_, _, _, _, h, Nat.le_refl _⟩
    · cases h
  case irem =>
    split at h
    · obtain ⟨-, h⟩ := z_if h
      exact ⟨_, _, _, _, h, Nat.le_refl _⟩
    · cases h
  case dup =>
    split at h
    · exact ⟨_, _, _, _, h, Nat.le_refl _⟩
    · obtain ⟨-, h⟩ := z_hf h
      exact ⟨_, _, _, _, h, Nat.le_refl _⟩
    · cases h
  case goto => exact ⟨_, _, _, _, h, Nat.le_refl _⟩
  case iconst => exact ⟨_, _, _, _, h, Nat.le_refl _⟩
  case bipush => exact ⟨_, _, _, _, h, Nat.le_refl _⟩
  case sipush => exact ⟨_, _, _, _, h, Nat.le_refl _⟩
  case ldc_w => exact ⟨_, _, _, _, h, Nat.le_refl _⟩
  case lconst => exact ⟨_, _, _, _, h, Nat.le_refl _⟩
  case ldc2_w => exact ⟨_, _, _, _, h, Nat.le_refl _⟩
  case ifCond cd off =>
    split at h
    · cases cd <;> dsimp only at h <;> split at h <;> exact ⟨_, _, _, _, h, Nat.le_refl _⟩
    · cases h
  case if_icmp cd off =>
    split at h
    · cases cd <;> dsimp only at h <;> split at h <;> exact ⟨_, _, _, _, h, Nat.le_refl _⟩
    · cases h
  case getfield =>
    split at h
    · obtain ⟨-, h⟩ := z_ht h
      split at h
      · exact ⟨_, _, _, _, h, Nat.le_refl _⟩
      · exact ⟨_, _, _, _, h, Nat.le_refl _⟩
      · exact ⟨_, _, _, _, h, Nat.le_refl _⟩
      · exact ⟨_, _, _, _, h, Nat.le_refl _⟩
      · cases h
    · cases h
  case baload =>
    split at h
    · obtain ⟨-, h⟩ := z_ht h
      obtain ⟨-, h⟩ := z_hf h
      exact ⟨_, _, _, _, h, Nat.le_refl _⟩
    · cases h
  case laload =>
    split at h
    · obtain ⟨-, h⟩ := z_ht h
      obtain ⟨-, h⟩ := z_hf h
      exact ⟨_, _, _, _, h, Nat.le_refl _⟩
    · cases h
  case aaload =>
    split at h
    · obtain ⟨-, h⟩ := z_ht h
      obtain ⟨-, h⟩ := z_hf h
      exact ⟨_, _, _, _, h, Nat.le_refl _⟩
    · cases h
  case iastore =>
    split at h
    · obtain ⟨-, h⟩ := z_ht h
      obtain ⟨-, h⟩ := z_hf h
      exact ⟨_, _, _, _, h, Nat.le_refl _⟩
    · cases h
  case lastore =>
    split at h
    · obtain ⟨-, h⟩ := z_ht h
      obtain ⟨-, h⟩ := z_hf h
      exact ⟨_, _, _, _, h, Nat.le_refl _⟩
    · cases h
  case aastore =>
    split at h
    · obtain ⟨-, h⟩ := z_hf h
      obtain ⟨-, h⟩ := z_ht h
      obtain ⟨-, h⟩ := z_hf h
      exact ⟨_, _, _, _, h, Nat.le_refl _⟩
    · cases h
  case new =>
    obtain ⟨-, h⟩ := z_ht h
    exact ⟨_, _, _, _, h, Nat.le_succ _⟩
  case newarray =>
    split at h
    · obtain ⟨-, h⟩ := z_ht h
      obtain ⟨-, h⟩ := z_if2 h
      exact ⟨_, _, _, _, h, Nat.le_succ _⟩
    · cases h
  case anewarray =>
    split at h
    · obtain ⟨-, h⟩ := z_ht h
      obtain ⟨-, h⟩ := z_if2 h
      exact ⟨_, _, _, _, h, Nat.le_succ _⟩
    · cases h
  all_goals (cases h)
theorem z_bi_mono {ρ : Type} {κ : Nat → z_Lc → List z_AV → z_Mem → Option ρ} {res : ρ} {a pc : Nat} {la : z_Lc} {sa : List z_AV} {S : z_Mem} (h : z_bi a pc la sa S κ = some res) : ∃ pc' la' sa' S', κ pc' la' sa' S' = some res ∧ S.2.2.2 ≤ S'.2.2.2 := by
  unfold z_bi at h
  split at h
  · split at h
    · obtain ⟨-, h⟩ := z_hf h
      exact ⟨_, _, _, _, h, Nat.le_refl _⟩
    · cases h
  · split at h
    · obtain ⟨-, h⟩ := z_hf h
      exact ⟨_, _, _, _, h, Nat.le_refl _⟩
    · cases h
  · split at h
    · obtain ⟨-, h⟩ := z_hf h
      exact ⟨_, _, _, _, h, Nat.le_refl _⟩
    · cases h
  · split at h
    · rename_i n dp q2 sp q r
      obtain ⟨-, h⟩ := z_hf h
      obtain ⟨-, h⟩ := z_ht h
      cases hk1 : (Nat.beq (z_aK q.1) 1 && Nat.beq (z_aK q2.1) 1) with
      | true =>
        rw [hk1] at h
        exact ⟨_, _, _, _, h, Nat.le_refl _⟩
      | false =>
        rw [hk1] at h
        obtain ⟨-, h⟩ := z_ht (show cond (Nat.beq (z_aK q.1) 4 && Nat.beq (z_aK q2.1) 4) _ none = some res from h)
        exact ⟨_, _, _, _, h, Nat.le_refl _⟩
    · cases h
  · cases h
theorem z_call_mono {ρ : Type} {κ : Nat → z_Lc → List z_AV → z_Mem → Option ρ} {res : ρ} {ex : z_Ex} {a b cT pc : Nat} {x : Int32} {la : z_Lc} {sa : List z_AV} {S : z_Mem} (hex : ∀ j as S r S', ex j as S = some (r, S') → S.2.2.2 ≤ S'.2.2.2) (h : z_call ex a b cT x pc la sa S κ = some res) : ∃ pc' la' sa' S', κ pc' la' sa' S' = some res ∧ S.2.2.2 ≤ S'.2.2.2 := by
  unfold z_call at h
  split at h
  · cases h
  · obtain ⟨-, h⟩ := z_ht h
    split at h
    · unfold z_rV at h
      split at h
      · rename_i S' he
        exact ⟨_, _, _, _, h, hex _ _ _ _ _ he⟩
      · cases h
    · split at h
      · unfold z_rI at h
        split at h
        · rename_i v S' he
          exact ⟨_, _, _, _, h, hex _ _ _ _ _ he⟩
        · cases h
      · unfold z_rL at h
        split at h
        · rename_i v S' he
          exact ⟨_, _, _, _, h, hex _ _ _ _ _ he⟩
        · cases h
theorem z_go_mono {ρ : Type} {N : Nat} {K : Nat → z_Lc → List z_AV → z_Mem → Option ρ} {Kr : Option z_AV → z_Mem → Option ρ} {res : ρ} {md : Bool} {sc : z_Sc} {ex : z_Ex} {bo : Bool} {ops : List z_Op} {cuts : List (Nat × List Bool)} (hex : ∀ j as S r S', ex j as S = some (r, S') → S.2.2.2 ≤ S'.2.2.2)
    (hK : ∀ pc la sa S, K pc la sa S = some res → S.2.2.2 ≤ N) (hKr : ∀ r S, Kr r S = some res → S.2.2.2 ≤ N) : ∀ (k pc : Nat) (la : z_Lc) (sa : List z_AV) (S : z_Mem), z_go md sc ex bo ops cuts K Kr k pc la sa S = some res → S.2.2.2 ≤ N := by
  intro k
  induction k with
  | zero => intro pc la sa S h; cases h
  | succ k ih =>
    intro pc la sa S h
    unfold z_go at h
    split at h
    · cases h
    · rename_i ins len a b cT x sw hlk
      have hκ : ∀ pc' la' sa' S', (match z_cut cuts pc' with | some mq => K pc' (z_msk mq la') sa' S' | none => z_go md sc ex bo ops cuts K Kr k pc' la' sa' S') = some res → S'.2.2.2 ≤ N := by
        intro pc' la' sa' S' h'
        split at h'
        · exact hK _ _ _ _ h'
        · exact ih _ _ _ _ h'
      have fin : (∃ pc' la' sa' S', (match z_cut cuts pc' with | some mq => K pc' (z_msk mq la') sa' S' | none => z_go md sc ex bo ops cuts K Kr k pc' la' sa' S') = some res ∧ S.2.2.2 ≤ S'.2.2.2) → S.2.2.2 ≤ N := fun ⟨_, _, _, _, h1, h2⟩ => Nat.le_trans h2 (hκ _ _ _ _ h1)
      split at h
      · split at h
        · cases bo with
          | true => exact hKr _ _ (z_if2 (show (if _ then _ else none) = some res from h)).2
          | false => exact hKr _ _ h
        · cases h
      · split at h
        · exact hKr _ _ h
        · cases h
      · split at h
        · exact hKr _ _ h
        · cases h
      · exact fin (z_call_mono hex h)
      · cases hb : Nat.ble 1000 a with
        | true =>
          rw [hb] at h
          dsimp only [cond] at h
          exact fin (z_bi_mono h)
        | false =>
          rw [hb] at h
          dsimp only [cond] at h
          exact fin (z_call_mono hex h)
      · cases hb : Nat.ble 1000 a with
        | true =>
          rw [hb] at h
          dsimp only [cond] at h
          exact fin (z_bi_mono h)
        | false =>
          rw [hb] at h
          dsimp only [cond] at h
          exact fin (z_call_mono hex h)
      · exact fin (z_stp_mono h)
theorem z_run_mono {res : Option z_AV × z_Mem} {md : Bool} {ex : z_Ex} {bo : Bool} {ops : List z_Op} {cuts : List (Nat × List Bool)} (hex : ∀ j as S r S', ex j as S = some (r, S') → S.2.2.2 ≤ S'.2.2.2) : ∀ (n pc : Nat) (la : z_Lc) (sa : List z_AV) (S : z_Mem), z_run md ex bo ops cuts n pc la sa S = some res → S.2.2.2 ≤ res.2.2.2.2 := by
  intro n
  induction n with
  | zero => intro pc la sa S h; cases h
  | succ n ih =>
    intro pc la sa S h
    unfold z_run at h
    refine z_go_mono hex ih (fun r S hr => ?_) _ _ _ _ _ h
    have e1 : (r, S) = res := Option.some.inj hr
    rw [← e1]
    exact Nat.le_refl _
theorem z_exe_mono (mt : List z_Mt) (md : Bool) : ∀ (d j : Nat) (as : List z_AV) (S : z_Mem) (r : Option z_AV) (S' : z_Mem), z_exe mt md d j as S = some (r, S') → S.2.2.2 ≤ S'.2.2.2 := by
  intro d
  induction d with
  | zero => intro j as S r S' h; cases h
  | succ d ih =>
    intro j as S r S' h
    unfold z_exe at h
    split at h
    · cases h
    · obtain ⟨-, h⟩ := z_ht h
      exact z_run_mono ih _ _ _ _ _ h
end
section
set_option maxRecDepth 100000 in
theorem z_ok_0 : z_OK (yX0_init, cX0_init, 1, none, false, zo_X0_init, zc_X0_init, 1, 1) := ⟨1, true, rfl, fun h => rfl, z_okl (by decide +kernel)⟩
set_option maxRecDepth 100000 in
theorem z_ok_1 : z_OK (yX0_forget, cX0_forget, 1, none, false, zo_X0_forget, zc_X0_forget, 1, 1) := ⟨1, false, rfl, fun h => absurd h (by decide), z_okl (by decide +kernel)⟩
set_option maxRecDepth 100000 in
theorem z_ok_2 : z_OK (yX0_kept, cX0_kept, 1, (some .int), false, zo_X0_kept, zc_X0_kept, 1, 1) := ⟨1, false, rfl, fun h => absurd h (by decide), z_okl (by decide +kernel)⟩
set_option maxRecDepth 100000 in
theorem z_ok_3 : z_OK (yX0_run, cX0_run, 4, (some .int), false, zo_X0_run, zc_X0_run, 1, 4) := ⟨1, false, rfl, fun h => absurd h (by decide), z_okl (by decide +kernel)⟩
set_option maxRecDepth 100000 in
theorem z_ok_4 : z_OK (yX0_note, cX0_note, 2, none, false, zo_X0_note, zc_X0_note, 1, 2) := ⟨1, false, rfl, fun h => absurd h (by decide), z_okl (by decide +kernel)⟩
set_option maxRecDepth 100000 in
theorem z_ok_5 : z_OK (yX0_drips, cX0_drips, 3, (some .int), false, zo_X0_drips, zc_X0_drips, 1, 3) := ⟨1, false, rfl, fun h => absurd h (by decide), z_okl (by decide +kernel)⟩
set_option maxRecDepth 100000 in
theorem z_ok_6 : z_OK (yX0_steams, cX0_steams, 3, (some .int), false, zo_X0_steams, zc_X0_steams, 1, 3) := ⟨1, false, rfl, fun h => absurd h (by decide), z_okl (by decide +kernel)⟩
set_option maxRecDepth 100000 in
theorem z_ok_7 : z_OK (yX0_tells, cX0_tells, 3, (some .int), false, zo_X0_tells, zc_X0_tells, 1, 3) := ⟨1, false, rfl, fun h => absurd h (by decide), z_okl (by decide +kernel)⟩
set_option maxRecDepth 100000 in
theorem z_ok_8 : z_OK (yX1_init, cX1_init, 2, none, false, zo_X1_init, zc_X1_init, 2, 2) := ⟨2, true, rfl, fun h => rfl, z_okl (by decide +kernel)⟩
set_option maxRecDepth 100000 in
theorem z_ok_9 : z_OK (yX1_become, cX1_become, 5, none, false, zo_X1_become, zc_X1_become, 2, 5) := ⟨2, false, rfl, fun h => absurd h (by decide), z_okl (by decide +kernel)⟩
set_option maxRecDepth 100000 in
theorem z_ok_10 : z_OK (yX1_copyFrom, cX1_copyFrom, 2, none, false, zo_X1_copyFrom, zc_X1_copyFrom, 2, 2) := ⟨2, false, rfl, fun h => absurd h (by decide), z_okl (by decide +kernel)⟩
set_option maxRecDepth 100000 in
theorem z_ok_11 : z_OK (yX1_driesAt, cX1_driesAt, 4, (some .int), false, zo_X1_driesAt, zc_X1_driesAt, 2, 3) := ⟨2, false, rfl, fun h => absurd h (by decide), z_okl (by decide +kernel)⟩
set_option maxRecDepth 100000 in
theorem z_ok_12 : z_OK (yX1_asLeather, cX1_asLeather, 3, (some .int), false, zo_X1_asLeather, zc_X1_asLeather, 0, 3) := ⟨2, false, rfl, fun h => absurd h (by decide), z_okl (by decide +kernel)⟩
set_option maxRecDepth 100000 in
theorem z_ok_13 : z_OK (yX1_asStuffed, cX1_asStuffed, 2, (some .int), false, zo_X1_asStuffed, zc_X1_asStuffed, 2, 2) := ⟨2, false, rfl, fun h => absurd h (by decide), z_okl (by decide +kernel)⟩
set_option maxRecDepth 100000 in
theorem z_ok_14 : z_OK (yX1_spoils, cX1_spoils, 3, (some .boolean), true, zo_X1_spoils, zc_X1_spoils, 2, 2) := ⟨2, false, rfl, fun h => absurd h (by decide), z_okl (by decide +kernel)⟩
set_option maxRecDepth 100000 in
theorem z_ok_15 : z_OK (yX1_letHourGo, cX1_letHourGo, 2, none, false, zo_X1_letHourGo, zc_X1_letHourGo, 2, 2) := ⟨2, false, rfl, fun h => absurd h (by decide), z_okl (by decide +kernel)⟩
set_option maxRecDepth 100000 in
theorem z_ok_16 : z_OK (yX2_init, cX2_init, 2, none, false, zo_X2_init, zc_X2_init, 3, 2) := ⟨3, true, rfl, fun h => rfl, z_okl (by decide +kernel)⟩
set_option maxRecDepth 100000 in
theorem z_ok_17 : z_OK (yX2_begin, cX2_begin, 3, none, false, zo_X2_begin, zc_X2_begin, 3, 3) := ⟨3, false, rfl, fun h => absurd h (by decide), z_okl (by decide +kernel)⟩
set_option maxRecDepth 100000 in
theorem z_ok_18 : z_OK (yX2_letHourGo, cX2_letHourGo, 1, none, false, zo_X2_letHourGo, zc_X2_letHourGo, 3, 1) := ⟨3, false, rfl, fun h => absurd h (by decide), z_okl (by decide +kernel)⟩
set_option maxRecDepth 100000 in
theorem z_ok_19 : z_OK (yX2_wetBehind, cX2_wetBehind, 6, (some .int), false, zo_X2_wetBehind, zc_X2_wetBehind, 3, 5) := ⟨3, false, rfl, fun h => absurd h (by decide), z_okl (by decide +kernel)⟩
set_option maxRecDepth 100000 in
theorem z_ok_20 : z_OK (yX3_init, cX3_init, 1, none, false, zo_X3_init, zc_X3_init, 4, 1) := ⟨4, true, rfl, fun h => rfl, z_okl (by decide +kernel)⟩
set_option maxRecDepth 100000 in
theorem z_ok_21 : z_OK (yX3_clear, cX3_clear, 1, none, false, zo_X3_clear, zc_X3_clear, 4, 1) := ⟨4, false, rfl, fun h => absurd h (by decide), z_okl (by decide +kernel)⟩
set_option maxRecDepth 100000 in
theorem z_ok_22 : z_OK (yX3_append, cX3_append, 2, none, false, zo_X3_append, zc_X3_append, 4, 2) := ⟨4, false, rfl, fun h => absurd h (by decide), z_okl (by decide +kernel)⟩
set_option maxRecDepth 100000 in
theorem z_ok_23 : z_OK (yX3_appendTest, cX3_appendTest, 4, none, false, zo_X3_appendTest, zc_X3_appendTest, 4, 4) := ⟨4, false, rfl, fun h => absurd h (by decide), z_okl (by decide +kernel)⟩
set_option maxRecDepth 100000 in
theorem z_ok_24 : z_OK (yX3_appendEnd, cX3_appendEnd, 2, none, false, zo_X3_appendEnd, zc_X3_appendEnd, 4, 2) := ⟨4, false, rfl, fun h => absurd h (by decide), z_okl (by decide +kernel)⟩
set_option maxRecDepth 100000 in
theorem z_ok_25 : z_OK (yX3_extraFor, cX3_extraFor, 10, (some .int), false, zo_X3_extraFor, zc_X3_extraFor, 4, 4) := ⟨4, false, rfl, fun h => absurd h (by decide), z_okl (by decide +kernel)⟩
set_option maxRecDepth 100000 in
theorem z_ok_26 : z_OK (yX3_isTrue, cX3_isTrue, 6, (some .boolean), true, zo_X3_isTrue, zc_X3_isTrue, 4, 2) := ⟨4, false, rfl, fun h => absurd h (by decide), z_okl (by decide +kernel)⟩
set_option maxRecDepth 100000 in
theorem z_ok_27 : z_OK (yX4_init, cX4_init, 2, none, false, zo_X4_init, zc_X4_init, 5, 2) := ⟨5, true, rfl, fun h => rfl, z_okl (by decide +kernel)⟩
set_option maxRecDepth 100000 in
theorem z_ok_28 : z_OK (yX4_append, cX4_append, 2, (some .int), false, zo_X4_append, zc_X4_append, 5, 2) := ⟨5, false, rfl, fun h => absurd h (by decide), z_okl (by decide +kernel)⟩
set_option maxRecDepth 100000 in
theorem z_ok_29 : z_OK (yX4_faultReadingInto, cX4_faultReadingInto, 3, (some .int), false, zo_X4_faultReadingInto, zc_X4_faultReadingInto, 5, 2) := ⟨5, false, rfl, fun h => absurd h (by decide), z_okl (by decide +kernel)⟩
set_option maxRecDepth 100000 in
theorem z_ok_30 : z_OK (yX4_readClause, cX4_readClause, 3, (some .boolean), true, zo_X4_readClause, zc_X4_readClause, 5, 1) := ⟨5, false, rfl, fun h => absurd h (by decide), z_okl (by decide +kernel)⟩
set_option maxRecDepth 100000 in
theorem z_ok_31 : z_OK (yX4_readWord, cX4_readWord, 1, (some .int), false, zo_X4_readWord, zc_X4_readWord, 5, 1) := ⟨5, false, rfl, fun h => absurd h (by decide), z_okl (by decide +kernel)⟩
set_option maxRecDepth 100000 in
theorem z_ok_32 : z_OK (yX4_readNumber, cX4_readNumber, 4, (some .int), false, zo_X4_readNumber, zc_X4_readNumber, 5, 1) := ⟨5, false, rfl, fun h => absurd h (by decide), z_okl (by decide +kernel)⟩
set_option maxRecDepth 100000 in
theorem z_ok_33 : z_OK (yX4_readAny, cX4_readAny, 3, (some .boolean), true, zo_X4_readAny, zc_X4_readAny, 5, 2) := ⟨5, false, rfl, fun h => absurd h (by decide), z_okl (by decide +kernel)⟩
set_option maxRecDepth 100000 in
theorem z_ok_34 : z_OK (yX4_readAll, cX4_readAll, 3, (some .boolean), true, zo_X4_readAll, zc_X4_readAll, 5, 2) := ⟨5, false, rfl, fun h => absurd h (by decide), z_okl (by decide +kernel)⟩
set_option maxRecDepth 100000 in
theorem z_ok_35 : z_OK (yX4_readPart, cX4_readPart, 3, (some .boolean), true, zo_X4_readPart, zc_X4_readPart, 5, 2) := ⟨5, false, rfl, fun h => absurd h (by decide), z_okl (by decide +kernel)⟩
set_option maxRecDepth 100000 in
theorem z_ok_36 : z_OK (yX4_readTest, cX4_readTest, 4, (some .boolean), true, zo_X4_readTest, zc_X4_readTest, 5, 1) := ⟨5, false, rfl, fun h => absurd h (by decide), z_okl (by decide +kernel)⟩
set_option maxRecDepth 100000 in
theorem z_ok_37 : z_OK (yX4_letterOf, cX4_letterOf, 1, (some .int), false, zo_X4_letterOf, zc_X4_letterOf, 0, 1) := ⟨5, false, rfl, fun h => absurd h (by decide), z_okl (by decide +kernel)⟩
set_option maxRecDepth 100000 in
theorem z_ok_38 : z_OK (yX4_comparisonOf, cX4_comparisonOf, 1, (some .int), false, zo_X4_comparisonOf, zc_X4_comparisonOf, 0, 1) := ⟨5, false, rfl, fun h => absurd h (by decide), z_okl (by decide +kernel)⟩
set_option maxRecDepth 100000 in
theorem z_ok_39 : z_OK (yX4_sign, cX4_sign, 1, (some .int), false, zo_X4_sign, zc_X4_sign, 5, 1) := ⟨5, false, rfl, fun h => absurd h (by decide), z_okl (by decide +kernel)⟩
set_option maxRecDepth 100000 in
theorem z_ok_40 : z_OK (yX4_skip, cX4_skip, 2, (some .boolean), true, zo_X4_skip, zc_X4_skip, 5, 2) := ⟨5, false, rfl, fun h => absurd h (by decide), z_okl (by decide +kernel)⟩
set_option maxRecDepth 100000 in
theorem z_ok_41 : z_OK (yX5_above, cX5_above, 1, (some .int), false, zo_X5_above, zc_X5_above, 0, 1) := ⟨13, false, rfl, fun h => absurd h (by decide), z_okl (by decide +kernel)⟩
set_option maxRecDepth 100000 in
theorem z_ok_42 : z_OK (yX5_isOrIsUnder, cX5_isOrIsUnder, 4, (some .boolean), true, zo_X5_isOrIsUnder, zc_X5_isOrIsUnder, 0, 2) := ⟨13, false, rfl, fun h => absurd h (by decide), z_okl (by decide +kernel)⟩
set_option maxRecDepth 100000 in
theorem z_ok_43 : z_OK (yX6_init, cX6_init, 1, none, false, zo_X6_init, zc_X6_init, 6, 1) := ⟨6, true, rfl, fun h => rfl, z_okl (by decide +kernel)⟩
set_option maxRecDepth 100000 in
theorem z_ok_44 : z_OK (yX6_foresee, cX6_foresee, 6, none, false, zo_X6_foresee, zc_X6_foresee, 6, 4) := ⟨6, false, rfl, fun h => absurd h (by decide), z_okl (by decide +kernel)⟩
set_option maxRecDepth 100000 in
theorem z_ok_45 : z_OK (yX6_moreByChange, cX6_moreByChange, 3, (some .int), false, zo_X6_moreByChange, zc_X6_moreByChange, 6, 3) := ⟨6, false, rfl, fun h => absurd h (by decide), z_okl (by decide +kernel)⟩
set_option maxRecDepth 100000 in
theorem z_ok_46 : z_OK (yX6_moreByMove, cX6_moreByMove, 4, (some .int), false, zo_X6_moreByMove, zc_X6_moreByMove, 6, 3) := ⟨6, false, rfl, fun h => absurd h (by decide), z_okl (by decide +kernel)⟩
set_option maxRecDepth 100000 in
theorem z_ok_47 : z_OK (yX6_findBest, cX6_findBest, 1, none, false, zo_X6_findBest, zc_X6_findBest, 6, 1) := ⟨6, false, rfl, fun h => absurd h (by decide), z_okl (by decide +kernel)⟩
set_option maxRecDepth 100000 in
theorem z_ok_48 : z_OK (yX6_tryFrom, cX6_tryFrom, 8, none, false, zo_X6_tryFrom, zc_X6_tryFrom, 6, 5) := ⟨6, false, rfl, fun h => absurd h (by decide), z_okl (by decide +kernel)⟩
set_option maxRecDepth 100000 in
theorem z_ok_49 : z_OK (yX6_keepIfBetter, cX6_keepIfBetter, 3, none, false, zo_X6_keepIfBetter, zc_X6_keepIfBetter, 6, 3) := ⟨6, false, rfl, fun h => absurd h (by decide), z_okl (by decide +kernel)⟩
set_option maxRecDepth 100000 in
theorem z_ok_50 : z_OK (yX7_init, cX7_init, 3, none, false, zo_X7_init, zc_X7_init, 7, 2) := ⟨7, true, rfl, fun h => rfl, z_okl (by decide +kernel)⟩
set_option maxRecDepth 100000 in
theorem z_ok_51 : z_OK (yX7_copyFrom, cX7_copyFrom, 3, none, false, zo_X7_copyFrom, zc_X7_copyFrom, 7, 2) := ⟨7, false, rfl, fun h => absurd h (by decide), z_okl (by decide +kernel)⟩
set_option maxRecDepth 100000 in
theorem z_ok_52 : z_OK (yX7_whoIsAt, cX7_whoIsAt, 3, (some .int), false, zo_X7_whoIsAt, zc_X7_whoIsAt, 7, 2) := ⟨7, false, rfl, fun h => absurd h (by decide), z_okl (by decide +kernel)⟩
set_option maxRecDepth 100000 in
theorem z_ok_53 : z_OK (yX7_freePlace, cX7_freePlace, 2, (some .int), false, zo_X7_freePlace, zc_X7_freePlace, 7, 1) := ⟨7, false, rfl, fun h => absurd h (by decide), z_okl (by decide +kernel)⟩
set_option maxRecDepth 100000 in
theorem z_ok_54 : z_OK (yX7_letHourGo, cX7_letHourGo, 2, none, false, zo_X7_letHourGo, zc_X7_letHourGo, 7, 1) := ⟨7, false, rfl, fun h => absurd h (by decide), z_okl (by decide +kernel)⟩
set_option maxRecDepth 100000 in
theorem z_ok_55 : z_OK (yX7_letHoursGo, cX7_letHoursGo, 3, none, false, zo_X7_letHoursGo, zc_X7_letHoursGo, 7, 2) := ⟨7, false, rfl, fun h => absurd h (by decide), z_okl (by decide +kernel)⟩
set_option maxRecDepth 100000 in
theorem z_ok_56 : z_OK (yX7_follow, cX7_follow, 3, none, false, zo_X7_follow, zc_X7_follow, 7, 3) := ⟨7, false, rfl, fun h => absurd h (by decide), z_okl (by decide +kernel)⟩
set_option maxRecDepth 100000 in
theorem z_ok_57 : z_OK (yX7_wetOfThoseHere, cX7_wetOfThoseHere, 3, (some .int), false, zo_X7_wetOfThoseHere, zc_X7_wetOfThoseHere, 7, 1) := ⟨7, false, rfl, fun h => absurd h (by decide), z_okl (by decide +kernel)⟩
set_option maxRecDepth 100000 in
theorem z_ok_58 : z_OK (yX7_cracksOfAll, cX7_cracksOfAll, 3, (some .int), false, zo_X7_cracksOfAll, zc_X7_cracksOfAll, 7, 1) := ⟨7, false, rfl, fun h => absurd h (by decide), z_okl (by decide +kernel)⟩
set_option maxRecDepth 100000 in
theorem z_ok_59 : z_OK (yX7_dryOfThoseHere, cX7_dryOfThoseHere, 3, (some .int), false, zo_X7_dryOfThoseHere, zc_X7_dryOfThoseHere, 7, 1) := ⟨7, false, rfl, fun h => absurd h (by decide), z_okl (by decide +kernel)⟩
set_option maxRecDepth 100000 in
theorem z_ok_60 : z_OK (yX7_dryBits, cX7_dryBits, 3, (some .int), false, zo_X7_dryBits, zc_X7_dryBits, 7, 1) := ⟨7, false, rfl, fun h => absurd h (by decide), z_okl (by decide +kernel)⟩
set_option maxRecDepth 100000 in
theorem z_ok_61 : z_OK (yX8_init, cX8_init, 2, none, false, zo_X8_init, zc_X8_init, 8, 2) := ⟨8, true, rfl, fun h => rfl, z_okl (by decide +kernel)⟩
set_option maxRecDepth 100000 in
theorem z_ok_62 : z_OK (yX8_isFull, cX8_isFull, 1, (some .boolean), true, zo_X8_isFull, zc_X8_isFull, 8, 1) := ⟨8, false, rfl, fun h => absurd h (by decide), z_okl (by decide +kernel)⟩
set_option maxRecDepth 100000 in
theorem z_ok_63 : z_OK (yX8_append, cX8_append, 4, (some .int), false, zo_X8_append, zc_X8_append, 8, 4) := ⟨8, false, rfl, fun h => absurd h (by decide), z_okl (by decide +kernel)⟩
set_option maxRecDepth 100000 in
theorem z_ok_64 : z_OK (yX8_copyFrom, cX8_copyFrom, 2, none, false, zo_X8_copyFrom, zc_X8_copyFrom, 8, 2) := ⟨8, false, rfl, fun h => absurd h (by decide), z_okl (by decide +kernel)⟩
set_option maxRecDepth 100000 in
theorem z_ok_65 : z_OK (yX8_mostThirdOf, cX8_mostThirdOf, 4, (some .int), false, zo_X8_mostThirdOf, zc_X8_mostThirdOf, 8, 2) := ⟨8, false, rfl, fun h => absurd h (by decide), z_okl (by decide +kernel)⟩
set_option maxRecDepth 100000 in
theorem z_ok_66 : z_OK (yX9_init, cX9_init, 2, none, false, zo_X9_init, zc_X9_init, 9, 2) := ⟨9, true, rfl, fun h => rfl, z_okl (by decide +kernel)⟩
set_option maxRecDepth 100000 in
theorem z_ok_67 : z_OK (yX9_copyFrom, cX9_copyFrom, 2, none, false, zo_X9_copyFrom, zc_X9_copyFrom, 9, 2) := ⟨9, false, rfl, fun h => absurd h (by decide), z_okl (by decide +kernel)⟩
set_option maxRecDepth 100000 in
theorem z_ok_68 : z_OK (yX9_warmAt, cX9_warmAt, 2, (some .int), false, zo_X9_warmAt, zc_X9_warmAt, 9, 2) := ⟨9, false, rfl, fun h => absurd h (by decide), z_okl (by decide +kernel)⟩
set_option maxRecDepth 100000 in
theorem z_ok_69 : z_OK (yX9_burnLog, cX9_burnLog, 1, none, false, zo_X9_burnLog, zc_X9_burnLog, 9, 1) := ⟨9, false, rfl, fun h => absurd h (by decide), z_okl (by decide +kernel)⟩
set_option maxRecDepth 100000 in
theorem z_ok_70 : z_OK (yX9_letHourGo, cX9_letHourGo, 1, none, false, zo_X9_letHourGo, zc_X9_letHourGo, 9, 1) := ⟨9, false, rfl, fun h => absurd h (by decide), z_okl (by decide +kernel)⟩
set_option maxRecDepth 100000 in
theorem z_ok_71 : z_OK (yX10_init, cX10_init, 1, none, false, zo_X10_init, zc_X10_init, 10, 1) := ⟨10, true, rfl, fun h => rfl, z_okl (by decide +kernel)⟩
set_option maxRecDepth 100000 in
theorem z_ok_72 : z_OK (yX10_become, cX10_become, 3, none, false, zo_X10_become, zc_X10_become, 10, 3) := ⟨10, false, rfl, fun h => absurd h (by decide), z_okl (by decide +kernel)⟩
set_option maxRecDepth 100000 in
theorem z_ok_73 : z_OK (yX10_holds, cX10_holds, 3, (some .boolean), true, zo_X10_holds, zc_X10_holds, 10, 3) := ⟨10, false, rfl, fun h => absurd h (by decide), z_okl (by decide +kernel)⟩
set_option maxRecDepth 100000 in
theorem z_ok_74 : z_OK (yX10_narrowed, cX10_narrowed, 3, (some .long), false, zo_X10_narrowed, zc_X10_narrowed, 10, 2) := ⟨10, false, rfl, fun h => absurd h (by decide), z_okl (by decide +kernel)⟩
set_option maxRecDepth 100000 in
theorem z_ok_228 : z_OK (yJ6_bitCount_0f7a4, cJ6_bitCount_0f7a4, 1, (some .int), false, zo_J6_bitCount_0f7a4, zc_J6_bitCount_0f7a4, 0, 1) := ⟨14, false, rfl, fun h => absurd h (by decide), z_okl (by decide +kernel)⟩
set_option maxRecDepth 100000 in
theorem z_ok_229 : z_OK (yJ7_fill_d0a16, cJ7_fill_d0a16, 5, none, false, zo_J7_fill_d0a16, zc_J7_fill_d0a16, 0, 2) := ⟨15, false, rfl, fun h => absurd h (by decide), z_okl (by decide +kernel)⟩
set_option maxRecDepth 100000 in
theorem z_ok_230 : z_OK (yJ7_fill_53178, cJ7_fill_53178, 4, none, false, zo_J7_fill_53178, zc_J7_fill_53178, 0, 2) := ⟨15, false, rfl, fun h => absurd h (by decide), z_okl (by decide +kernel)⟩
end
section
set_option maxRecDepth 100000 in
theorem z_ok_75 : z_OK (yX11_init, cX11_init, 3, none, false, zo_X11_init, zc_X11_init, 11, 1) := ⟨11, true, rfl, fun h => rfl, z_okl (by decide +kernel)⟩
set_option maxRecDepth 100000 in
theorem z_ok_76 : z_OK (yX11_pair, cX11_pair, 4, (some .int), false, zo_X11_pair, zc_X11_pair, 11, 4) := ⟨11, false, rfl, fun h => absurd h (by decide), z_okl (by decide +kernel)⟩
set_option maxRecDepth 100000 in
theorem z_ok_77 : z_OK (yX11_of, cX11_of, 4, (some .int), false, zo_X11_of, zc_X11_of, 11, 3) := ⟨11, false, rfl, fun h => absurd h (by decide), z_okl (by decide +kernel)⟩
set_option maxRecDepth 100000 in
theorem z_ok_78 : z_OK (yX11_wet, cX11_wet, 4, (some .int), false, zo_X11_wet, zc_X11_wet, 11, 3) := ⟨11, false, rfl, fun h => absurd h (by decide), z_okl (by decide +kernel)⟩
set_option maxRecDepth 100000 in
theorem z_ok_79 : z_OK (yX11_put, cX11_put, 5, (some .int), false, zo_X11_put, zc_X11_put, 11, 3) := ⟨11, false, rfl, fun h => absurd h (by decide), z_okl (by decide +kernel)⟩
set_option maxRecDepth 100000 in
theorem z_ok_80 : z_OK (yX11_take, cX11_take, 4, (some .int), false, zo_X11_take, zc_X11_take, 11, 3) := ⟨11, false, rfl, fun h => absurd h (by decide), z_okl (by decide +kernel)⟩
set_option maxRecDepth 100000 in
theorem z_ok_81 : z_OK (yX11_stoke, cX11_stoke, 1, (some .int), false, zo_X11_stoke, zc_X11_stoke, 11, 1) := ⟨11, false, rfl, fun h => absurd h (by decide), z_okl (by decide +kernel)⟩
set_option maxRecDepth 100000 in
theorem z_ok_82 : z_OK (yX11_set, cX11_set, 5, (some .int), false, zo_X11_set, zc_X11_set, 11, 3) := ⟨11, false, rfl, fun h => absurd h (by decide), z_okl (by decide +kernel)⟩
set_option maxRecDepth 100000 in
theorem z_ok_83 : z_OK (yX11_row, cX11_row, 6, (some .int), false, zo_X11_row, zc_X11_row, 11, 4) := ⟨11, false, rfl, fun h => absurd h (by decide), z_okl (by decide +kernel)⟩
set_option maxRecDepth 100000 in
theorem z_ok_84 : z_OK (yX11_feed, cX11_feed, 2, (some .int), false, zo_X11_feed, zc_X11_feed, 11, 2) := ⟨11, false, rfl, fun h => absurd h (by decide), z_okl (by decide +kernel)⟩
set_option maxRecDepth 100000 in
theorem z_ok_85 : z_OK (yX11_hut, cX11_hut, 3, (some .int), false, zo_X11_hut, zc_X11_hut, 11, 1) := ⟨11, false, rfl, fun h => absurd h (by decide), z_okl (by decide +kernel)⟩
set_option maxRecDepth 100000 in
theorem z_ok_86 : z_OK (yX11_told, cX11_told, 2, (some .int), false, zo_X11_told, zc_X11_told, 11, 2) := ⟨11, false, rfl, fun h => absurd h (by decide), z_okl (by decide +kernel)⟩
set_option maxRecDepth 100000 in
theorem z_ok_87 : z_OK (yX11_pass, cX11_pass, 2, (some .int), false, zo_X11_pass, zc_X11_pass, 11, 2) := ⟨11, false, rfl, fun h => absurd h (by decide), z_okl (by decide +kernel)⟩
set_option maxRecDepth 100000 in
theorem z_ok_88 : z_OK (yX11_on, cX11_on, 4, (some .int), false, zo_X11_on, zc_X11_on, 11, 3) := ⟨11, false, rfl, fun h => absurd h (by decide), z_okl (by decide +kernel)⟩
set_option maxRecDepth 100000 in
theorem z_ok_89 : z_OK (yX11_done, cX11_done, 3, (some .int), false, zo_X11_done, zc_X11_done, 11, 2) := ⟨11, false, rfl, fun h => absurd h (by decide), z_okl (by decide +kernel)⟩
set_option maxRecDepth 100000 in
theorem z_ok_90 : z_OK (yX11_night, cX11_night, 2, (some .int), false, zo_X11_night, zc_X11_night, 11, 2) := ⟨11, false, rfl, fun h => absurd h (by decide), z_okl (by decide +kernel)⟩
set_option maxRecDepth 100000 in
theorem z_ok_91 : z_OK (yX11_placed, cX11_placed, 4, (some .int), false, zo_X11_placed, zc_X11_placed, 11, 3) := ⟨11, false, rfl, fun h => absurd h (by decide), z_okl (by decide +kernel)⟩
set_option maxRecDepth 100000 in
theorem z_ok_92 : z_OK (yX11_change, cX11_change, 6, (some .int), false, zo_X11_change, zc_X11_change, 11, 1) := ⟨11, false, rfl, fun h => absurd h (by decide), z_okl (by decide +kernel)⟩
set_option maxRecDepth 100000 in
theorem z_ok_93 : z_OK (yX11_logs, cX11_logs, 8, (some .int), false, zo_X11_logs, zc_X11_logs, 11, 3) := ⟨11, false, rfl, fun h => absurd h (by decide), z_okl (by decide +kernel)⟩
set_option maxRecDepth 100000 in
theorem z_ok_94 : z_OK (yX11_see, cX11_see, 4, (some .int), false, zo_X11_see, zc_X11_see, 11, 4) := ⟨11, false, rfl, fun h => absurd h (by decide), z_okl (by decide +kernel)⟩
set_option maxRecDepth 100000 in
theorem z_ok_95 : z_OK (yX11_wets, cX11_wets, 6, (some .int), false, zo_X11_wets, zc_X11_wets, 11, 3) := ⟨11, false, rfl, fun h => absurd h (by decide), z_okl (by decide +kernel)⟩
set_option maxRecDepth 100000 in
theorem z_ok_96 : z_OK (yX11_can, cX11_can, 6, (some .int), false, zo_X11_can, zc_X11_can, 11, 3) := ⟨11, false, rfl, fun h => absurd h (by decide), z_okl (by decide +kernel)⟩
set_option maxRecDepth 100000 in
theorem z_ok_97 : z_OK (yX11_where, cX11_where, 4, (some .int), false, zo_X11_where, zc_X11_where, 11, 2) := ⟨11, false, rfl, fun h => absurd h (by decide), z_okl (by decide +kernel)⟩
set_option maxRecDepth 100000 in
theorem z_ok_98 : z_OK (yX11_odds, cX11_odds, 9, (some .long), false, zo_X11_odds, zc_X11_odds, 11, 4) := ⟨11, false, rfl, fun h => absurd h (by decide), z_okl (by decide +kernel)⟩
set_option maxRecDepth 100000 in
theorem z_ok_99 : z_OK (yX11_mean, cX11_mean, 5, (some .long), false, zo_X11_mean, zc_X11_mean, 11, 3) := ⟨11, false, rfl, fun h => absurd h (by decide), z_okl (by decide +kernel)⟩
set_option maxRecDepth 100000 in
theorem z_ok_100 : z_OK (yX11_rota, cX11_rota, 4, (some .int), false, zo_X11_rota, zc_X11_rota, 11, 3) := ⟨11, false, rfl, fun h => absurd h (by decide), z_okl (by decide +kernel)⟩
set_option maxRecDepth 100000 in
theorem z_ok_101 : z_OK (yX11_ends, cX11_ends, 3, (some .int), false, zo_X11_ends, zc_X11_ends, 11, 2) := ⟨11, false, rfl, fun h => absurd h (by decide), z_okl (by decide +kernel)⟩
set_option maxRecDepth 100000 in
theorem z_ok_102 : z_OK (yX11_book, cX11_book, 3, (some .int), false, zo_X11_book, zc_X11_book, 11, 3) := ⟨11, false, rfl, fun h => absurd h (by decide), z_okl (by decide +kernel)⟩
set_option maxRecDepth 100000 in
theorem z_ok_103 : z_OK (yX11_looked, cX11_looked, 2, (some .int), false, zo_X11_looked, zc_X11_looked, 11, 1) := ⟨11, false, rfl, fun h => absurd h (by decide), z_okl (by decide +kernel)⟩
set_option maxRecDepth 100000 in
theorem z_ok_104 : z_OK (yX11_judge, cX11_judge, 5, (some .int), false, zo_X11_judge, zc_X11_judge, 11, 3) := ⟨11, false, rfl, fun h => absurd h (by decide), z_okl (by decide +kernel)⟩
set_option maxRecDepth 100000 in
theorem z_ok_105 : z_OK (yX11_image, cX11_image, 1, (some .int), false, zo_X11_image, zc_X11_image, 11, 1) := ⟨11, false, rfl, fun h => absurd h (by decide), z_okl (by decide +kernel)⟩
set_option maxRecDepth 100000 in
theorem z_ok_106 : z_OK (yX11_undo, cX11_undo, 1, (some .int), false, zo_X11_undo, zc_X11_undo, 11, 1) := ⟨11, false, rfl, fun h => absurd h (by decide), z_okl (by decide +kernel)⟩
set_option maxRecDepth 100000 in
theorem z_ok_107 : z_OK (yX11_act, cX11_act, 4, (some .int), false, zo_X11_act, zc_X11_act, 11, 4) := ⟨11, false, rfl, fun h => absurd h (by decide), z_okl (by decide +kernel)⟩
set_option maxRecDepth 100000 in
theorem z_ok_108 : z_OK (yX11_trace, cX11_trace, 2, (some .int), false, zo_X11_trace, zc_X11_trace, 11, 2) := ⟨11, false, rfl, fun h => absurd h (by decide), z_okl (by decide +kernel)⟩
set_option maxRecDepth 100000 in
theorem z_ok_109 : z_OK (yX11_taken, cX11_taken, 4, (some .int), false, zo_X11_taken, zc_X11_taken, 11, 3) := ⟨11, false, rfl, fun h => absurd h (by decide), z_okl (by decide +kernel)⟩
set_option maxRecDepth 100000 in
theorem z_ok_110 : z_OK (yX11_count, cX11_count, 2, (some .int), false, zo_X11_count, zc_X11_count, 11, 2) := ⟨11, false, rfl, fun h => absurd h (by decide), z_okl (by decide +kernel)⟩
set_option maxRecDepth 100000 in
theorem z_ok_111 : z_OK (yX11_tape, cX11_tape, 4, (some .int), false, zo_X11_tape, zc_X11_tape, 11, 4) := ⟨11, false, rfl, fun h => absurd h (by decide), z_okl (by decide +kernel)⟩
set_option maxRecDepth 100000 in
theorem z_ok_112 : z_OK (yX11_item, cX11_item, 6, (some .int), false, zo_X11_item, zc_X11_item, 11, 4) := ⟨11, false, rfl, fun h => absurd h (by decide), z_okl (by decide +kernel)⟩
set_option maxRecDepth 100000 in
theorem z_ok_113 : z_OK (yX11_read, cX11_read, 4, (some .long), false, zo_X11_read, zc_X11_read, 11, 3) := ⟨11, false, rfl, fun h => absurd h (by decide), z_okl (by decide +kernel)⟩
set_option maxRecDepth 100000 in
theorem z_ok_114 : z_OK (yX11_shift, cX11_shift, 8, (some .int), false, zo_X11_shift, zc_X11_shift, 11, 6) := ⟨11, false, rfl, fun h => absurd h (by decide), z_okl (by decide +kernel)⟩
set_option maxRecDepth 100000 in
theorem z_ok_115 : z_OK (yX11_outside, cX11_outside, 2, (some .boolean), true, zo_X11_outside, zc_X11_outside, 0, 2) := ⟨11, false, rfl, fun h => absurd h (by decide), z_okl (by decide +kernel)⟩
set_option maxRecDepth 100000 in
theorem z_ok_116 : z_OK (yX11_noPair, cX11_noPair, 2, (some .boolean), true, zo_X11_noPair, zc_X11_noPair, 11, 2) := ⟨11, false, rfl, fun h => absurd h (by decide), z_okl (by decide +kernel)⟩
set_option maxRecDepth 100000 in
theorem z_ok_117 : z_OK (yX11_tryHours, cX11_tryHours, 2, none, false, zo_X11_tryHours, zc_X11_tryHours, 11, 2) := ⟨11, false, rfl, fun h => absurd h (by decide), z_okl (by decide +kernel)⟩
set_option maxRecDepth 100000 in
theorem z_ok_118 : z_OK (yX11_wetByLogs, cX11_wetByLogs, 4, (some .int), false, zo_X11_wetByLogs, zc_X11_wetByLogs, 11, 3) := ⟨11, false, rfl, fun h => absurd h (by decide), z_okl (by decide +kernel)⟩
set_option maxRecDepth 100000 in
theorem z_ok_119 : z_OK (yX11_courseIsAsSeen, cX11_courseIsAsSeen, 6, (some .boolean), true, zo_X11_courseIsAsSeen, zc_X11_courseIsAsSeen, 11, 1) := ⟨11, false, rfl, fun h => absurd h (by decide), z_okl (by decide +kernel)⟩
set_option maxRecDepth 100000 in
theorem z_ok_120 : z_OK (yX11_allIsAsSeenWith, cX11_allIsAsSeenWith, 8, (some .boolean), true, zo_X11_allIsAsSeenWith, zc_X11_allIsAsSeenWith, 11, 3) := ⟨11, false, rfl, fun h => absurd h (by decide), z_okl (by decide +kernel)⟩
set_option maxRecDepth 100000 in
theorem z_ok_121 : z_OK (yX11_partOfFraction, cX11_partOfFraction, 4, (some .long), false, zo_X11_partOfFraction, zc_X11_partOfFraction, 0, 3) := ⟨11, false, rfl, fun h => absurd h (by decide), z_okl (by decide +kernel)⟩
set_option maxRecDepth 100000 in
theorem z_ok_122 : z_OK (yX11_commonDivisor, cX11_commonDivisor, 6, (some .int), false, zo_X11_commonDivisor, zc_X11_commonDivisor, 0, 2) := ⟨11, false, rfl, fun h => absurd h (by decide), z_okl (by decide +kernel)⟩
end
section
set_option maxRecDepth 100000 in
theorem z_ok_123 : z_OK (yX12_init, cX12_init, 1, none, false, zo_X12_init, zc_X12_init, 12, 1) := ⟨12, true, rfl, fun h => rfl, z_okl (by decide +kernel)⟩
set_option maxRecDepth 100000 in
theorem z_ok_124 : z_OK (yX12_in, cX12_in, 4, (some .boolean), true, zo_X12_in, zc_X12_in, 12, 4) := ⟨12, false, rfl, fun h => absurd h (by decide), z_okl (by decide +kernel)⟩
set_option maxRecDepth 100000 in
theorem z_ok_125 : z_OK (yX12_has, cX12_has, 3, (some .boolean), true, zo_X12_has, zc_X12_has, 12, 3) := ⟨12, false, rfl, fun h => absurd h (by decide), z_okl (by decide +kernel)⟩
set_option maxRecDepth 100000 in
theorem z_ok_126 : z_OK (yX12_least, cX12_least, 3, (some .int), false, zo_X12_least, zc_X12_least, 12, 3) := ⟨12, false, rfl, fun h => absurd h (by decide), z_okl (by decide +kernel)⟩
set_option maxRecDepth 100000 in
theorem z_ok_127 : z_OK (yX12_atLeast0, cX12_atLeast0, 2, (some .int), false, zo_X12_atLeast0, zc_X12_atLeast0, 12, 2) := ⟨12, false, rfl, fun h => absurd h (by decide), z_okl (by decide +kernel)⟩
set_option maxRecDepth 100000 in
theorem z_ok_128 : z_OK (yX12_bits, cX12_bits, 4, (some .int), false, zo_X12_bits, zc_X12_bits, 12, 2) := ⟨12, false, rfl, fun h => absurd h (by decide), z_okl (by decide +kernel)⟩
set_option maxRecDepth 100000 in
theorem z_ok_129 : z_OK (yX12_isPair, cX12_isPair, 2, (some .boolean), true, zo_X12_isPair, zc_X12_isPair, 12, 2) := ⟨12, false, rfl, fun h => absurd h (by decide), z_okl (by decide +kernel)⟩
set_option maxRecDepth 100000 in
theorem z_ok_130 : z_OK (yX12_isPlace, cX12_isPlace, 2, (some .boolean), true, zo_X12_isPlace, zc_X12_isPlace, 12, 2) := ⟨12, false, rfl, fun h => absurd h (by decide), z_okl (by decide +kernel)⟩
set_option maxRecDepth 100000 in
theorem z_ok_131 : z_OK (yX12_isWet, cX12_isWet, 2, (some .boolean), true, zo_X12_isWet, zc_X12_isWet, 12, 2) := ⟨12, false, rfl, fun h => absurd h (by decide), z_okl (by decide +kernel)⟩
set_option maxRecDepth 100000 in
theorem z_ok_132 : z_OK (yX12_isHours, cX12_isHours, 2, (some .boolean), true, zo_X12_isHours, zc_X12_isHours, 12, 2) := ⟨12, false, rfl, fun h => absurd h (by decide), z_okl (by decide +kernel)⟩
set_option maxRecDepth 100000 in
theorem z_ok_133 : z_OK (yX12_whoIs, cX12_whoIs, 3, (some .int), false, zo_X12_whoIs, zc_X12_whoIs, 12, 2) := ⟨12, false, rfl, fun h => absurd h (by decide), z_okl (by decide +kernel)⟩
set_option maxRecDepth 100000 in
theorem z_ok_134 : z_OK (yX12_pair, cX12_pair, 6, (some .int), false, zo_X12_pair, zc_X12_pair, 12, 4) := ⟨12, false, rfl, fun h => absurd h (by decide), z_okl (by decide +kernel)⟩
set_option maxRecDepth 100000 in
theorem z_ok_135 : z_OK (yX12_wet, cX12_wet, 4, (some .int), false, zo_X12_wet, zc_X12_wet, 12, 3) := ⟨12, false, rfl, fun h => absurd h (by decide), z_okl (by decide +kernel)⟩
set_option maxRecDepth 100000 in
theorem z_ok_136 : z_OK (yX12_comesTo, cX12_comesTo, 4, none, false, zo_X12_comesTo, zc_X12_comesTo, 12, 3) := ⟨12, false, rfl, fun h => absurd h (by decide), z_okl (by decide +kernel)⟩
set_option maxRecDepth 100000 in
theorem z_ok_137 : z_OK (yX12_put, cX12_put, 4, (some .int), false, zo_X12_put, zc_X12_put, 12, 3) := ⟨12, false, rfl, fun h => absurd h (by decide), z_okl (by decide +kernel)⟩
set_option maxRecDepth 100000 in
theorem z_ok_138 : z_OK (yX12_goes, cX12_goes, 3, none, false, zo_X12_goes, zc_X12_goes, 12, 3) := ⟨12, false, rfl, fun h => absurd h (by decide), z_okl (by decide +kernel)⟩
set_option maxRecDepth 100000 in
theorem z_ok_139 : z_OK (yX12_take, cX12_take, 4, (some .int), false, zo_X12_take, zc_X12_take, 12, 3) := ⟨12, false, rfl, fun h => absurd h (by decide), z_okl (by decide +kernel)⟩
set_option maxRecDepth 100000 in
theorem z_ok_140 : z_OK (yX12_set, cX12_set, 4, (some .int), false, zo_X12_set, zc_X12_set, 12, 3) := ⟨12, false, rfl, fun h => absurd h (by decide), z_okl (by decide +kernel)⟩
set_option maxRecDepth 100000 in
theorem z_ok_141 : z_OK (yX12_row, cX12_row, 5, (some .int), false, zo_X12_row, zc_X12_row, 12, 4) := ⟨12, false, rfl, fun h => absurd h (by decide), z_okl (by decide +kernel)⟩
set_option maxRecDepth 100000 in
theorem z_ok_142 : z_OK (yX12_feed, cX12_feed, 2, (some .int), false, zo_X12_feed, zc_X12_feed, 12, 2) := ⟨12, false, rfl, fun h => absurd h (by decide), z_okl (by decide +kernel)⟩
set_option maxRecDepth 100000 in
theorem z_ok_143 : z_OK (yX12_next, cX12_next, 1, (some .int), false, zo_X12_next, zc_X12_next, 12, 1) := ⟨12, false, rfl, fun h => absurd h (by decide), z_okl (by decide +kernel)⟩
set_option maxRecDepth 100000 in
theorem z_ok_144 : z_OK (yX12_second, cX12_second, 1, (some .int), false, zo_X12_second, zc_X12_second, 12, 1) := ⟨12, false, rfl, fun h => absurd h (by decide), z_okl (by decide +kernel)⟩
set_option maxRecDepth 100000 in
theorem z_ok_145 : z_OK (yX12_takes, cX12_takes, 2, (some .boolean), true, zo_X12_takes, zc_X12_takes, 12, 2) := ⟨12, false, rfl, fun h => absurd h (by decide), z_okl (by decide +kernel)⟩
set_option maxRecDepth 100000 in
theorem z_ok_146 : z_OK (yX12_takesWord, cX12_takesWord, 4, (some .boolean), true, zo_X12_takesWord, zc_X12_takesWord, 12, 3) := ⟨12, false, rfl, fun h => absurd h (by decide), z_okl (by decide +kernel)⟩
set_option maxRecDepth 100000 in
theorem z_ok_147 : z_OK (yX12_isDigit, cX12_isDigit, 1, (some .boolean), true, zo_X12_isDigit, zc_X12_isDigit, 12, 1) := ⟨12, false, rfl, fun h => absurd h (by decide), z_okl (by decide +kernel)⟩
set_option maxRecDepth 100000 in
theorem z_ok_148 : z_OK (yX12_takesNumber, cX12_takesNumber, 2, (some .boolean), true, zo_X12_takesNumber, zc_X12_takesNumber, 12, 1) := ⟨12, false, rfl, fun h => absurd h (by decide), z_okl (by decide +kernel)⟩
set_option maxRecDepth 100000 in
theorem z_ok_149 : z_OK (yX12_emits, cX12_emits, 2, none, false, zo_X12_emits, zc_X12_emits, 12, 2) := ⟨12, false, rfl, fun h => absurd h (by decide), z_okl (by decide +kernel)⟩
set_option maxRecDepth 100000 in
theorem z_ok_150 : z_OK (yX12_whole, cX12_whole, 1, none, false, zo_X12_whole, zc_X12_whole, 12, 1) := ⟨12, false, rfl, fun h => absurd h (by decide), z_okl (by decide +kernel)⟩
set_option maxRecDepth 100000 in
theorem z_ok_151 : z_OK (yX12_settle, cX12_settle, 2, none, false, zo_X12_settle, zc_X12_settle, 12, 2) := ⟨12, false, rfl, fun h => absurd h (by decide), z_okl (by decide +kernel)⟩
set_option maxRecDepth 100000 in
theorem z_ok_152 : z_OK (yX12_place, cX12_place, 2, (some .int), false, zo_X12_place, zc_X12_place, 12, 2) := ⟨12, false, rfl, fun h => absurd h (by decide), z_okl (by decide +kernel)⟩
set_option maxRecDepth 100000 in
theorem z_ok_153 : z_OK (yX12_takesTest, cX12_takesTest, 3, (some .boolean), true, zo_X12_takesTest, zc_X12_takesTest, 12, 1) := ⟨12, false, rfl, fun h => absurd h (by decide), z_okl (by decide +kernel)⟩
set_option maxRecDepth 100000 in
theorem z_ok_154 : z_OK (yX12_takesE, cX12_takesE, 4, (some .boolean), true, zo_X12_takesE, zc_X12_takesE, 12, 2) := ⟨12, false, rfl, fun h => absurd h (by decide), z_okl (by decide +kernel)⟩
set_option maxRecDepth 100000 in
theorem z_ok_155 : z_OK (yX12_takesHead, cX12_takesHead, 2, (some .boolean), true, zo_X12_takesHead, zc_X12_takesHead, 12, 2) := ⟨12, false, rfl, fun h => absurd h (by decide), z_okl (by decide +kernel)⟩
set_option maxRecDepth 100000 in
theorem z_ok_156 : z_OK (yX12_takesClause, cX12_takesClause, 2, (some .boolean), true, zo_X12_takesClause, zc_X12_takesClause, 12, 2) := ⟨12, false, rfl, fun h => absurd h (by decide), z_okl (by decide +kernel)⟩
set_option maxRecDepth 100000 in
theorem z_ok_157 : z_OK (yX12_goesText, cX12_goesText, 3, (some .boolean), true, zo_X12_goesText, zc_X12_goesText, 12, 2) := ⟨12, false, rfl, fun h => absurd h (by decide), z_okl (by decide +kernel)⟩
set_option maxRecDepth 100000 in
theorem z_ok_158 : z_OK (yX12_hut, cX12_hut, 2, (some .int), false, zo_X12_hut, zc_X12_hut, 12, 1) := ⟨12, false, rfl, fun h => absurd h (by decide), z_okl (by decide +kernel)⟩
set_option maxRecDepth 100000 in
theorem z_ok_159 : z_OK (yX12_begin, cX12_begin, 1, (some .int), false, zo_X12_begin, zc_X12_begin, 12, 1) := ⟨12, false, rfl, fun h => absurd h (by decide), z_okl (by decide +kernel)⟩
set_option maxRecDepth 100000 in
theorem z_ok_160 : z_OK (yX12_behind, cX12_behind, 1, (some .int), false, zo_X12_behind, zc_X12_behind, 12, 1) := ⟨12, false, rfl, fun h => absurd h (by decide), z_okl (by decide +kernel)⟩
set_option maxRecDepth 100000 in
theorem z_ok_161 : z_OK (yX12_lastOf, cX12_lastOf, 5, (some .int), false, zo_X12_lastOf, zc_X12_lastOf, 12, 3) := ⟨12, false, rfl, fun h => absurd h (by decide), z_okl (by decide +kernel)⟩
set_option maxRecDepth 100000 in
theorem z_ok_162 : z_OK (yX12_factOf, cX12_factOf, 4, (some .int), false, zo_X12_factOf, zc_X12_factOf, 12, 4) := ⟨12, false, rfl, fun h => absurd h (by decide), z_okl (by decide +kernel)⟩
set_option maxRecDepth 100000 in
theorem z_ok_163 : z_OK (yX12_holds, cX12_holds, 9, (some .boolean), true, zo_X12_holds, zc_X12_holds, 12, 4) := ⟨12, false, rfl, fun h => absurd h (by decide), z_okl (by decide +kernel)⟩
set_option maxRecDepth 100000 in
theorem z_ok_164 : z_OK (yX12_warm, cX12_warm, 2, (some .int), false, zo_X12_warm, zc_X12_warm, 12, 2) := ⟨12, false, rfl, fun h => absurd h (by decide), z_okl (by decide +kernel)⟩
set_option maxRecDepth 100000 in
theorem z_ok_165 : z_OK (yX12_sum, cX12_sum, 5, (some .int), false, zo_X12_sum, zc_X12_sum, 12, 3) := ⟨12, false, rfl, fun h => absurd h (by decide), z_okl (by decide +kernel)⟩
set_option maxRecDepth 100000 in
theorem z_ok_166 : z_OK (yX12_plainDries, cX12_plainDries, 6, (some .int), false, zo_X12_plainDries, zc_X12_plainDries, 12, 3) := ⟨12, false, rfl, fun h => absurd h (by decide), z_okl (by decide +kernel)⟩
set_option maxRecDepth 100000 in
theorem z_ok_167 : z_OK (yX12_dries, cX12_dries, 3, (some .int), false, zo_X12_dries, zc_X12_dries, 12, 3) := ⟨12, false, rfl, fun h => absurd h (by decide), z_okl (by decide +kernel)⟩
set_option maxRecDepth 100000 in
theorem z_ok_168 : z_OK (yX12_spoils, cX12_spoils, 2, (some .boolean), true, zo_X12_spoils, zc_X12_spoils, 12, 2) := ⟨12, false, rfl, fun h => absurd h (by decide), z_okl (by decide +kernel)⟩
set_option maxRecDepth 100000 in
theorem z_ok_169 : z_OK (yX12_of, cX12_of, 3, (some .int), false, zo_X12_of, zc_X12_of, 12, 3) := ⟨12, false, rfl, fun h => absurd h (by decide), z_okl (by decide +kernel)⟩
set_option maxRecDepth 100000 in
theorem z_ok_170 : z_OK (yX12_wetHere, cX12_wetHere, 3, (some .int), false, zo_X12_wetHere, zc_X12_wetHere, 12, 1) := ⟨12, false, rfl, fun h => absurd h (by decide), z_okl (by decide +kernel)⟩
set_option maxRecDepth 100000 in
theorem z_ok_171 : z_OK (yX12_wetAll, cX12_wetAll, 3, (some .int), false, zo_X12_wetAll, zc_X12_wetAll, 12, 1) := ⟨12, false, rfl, fun h => absurd h (by decide), z_okl (by decide +kernel)⟩
set_option maxRecDepth 100000 in
theorem z_ok_172 : z_OK (yX12_allCracks, cX12_allCracks, 3, (some .int), false, zo_X12_allCracks, zc_X12_allCracks, 12, 1) := ⟨12, false, rfl, fun h => absurd h (by decide), z_okl (by decide +kernel)⟩
set_option maxRecDepth 100000 in
theorem z_ok_173 : z_OK (yX12_drySet, cX12_drySet, 3, (some .int), false, zo_X12_drySet, zc_X12_drySet, 12, 1) := ⟨12, false, rfl, fun h => absurd h (by decide), z_okl (by decide +kernel)⟩
set_option maxRecDepth 100000 in
theorem z_ok_174 : z_OK (yX12_told, cX12_told, 2, (some .int), false, zo_X12_told, zc_X12_told, 12, 2) := ⟨12, false, rfl, fun h => absurd h (by decide), z_okl (by decide +kernel)⟩
set_option maxRecDepth 100000 in
theorem z_ok_175 : z_OK (yX12_goHour, cX12_goHour, 3, none, false, zo_X12_goHour, zc_X12_goHour, 12, 1) := ⟨12, false, rfl, fun h => absurd h (by decide), z_okl (by decide +kernel)⟩
set_option maxRecDepth 100000 in
theorem z_ok_176 : z_OK (yX12_goHours, cX12_goHours, 3, none, false, zo_X12_goHours, zc_X12_goHours, 12, 2) := ⟨12, false, rfl, fun h => absurd h (by decide), z_okl (by decide +kernel)⟩
set_option maxRecDepth 100000 in
theorem z_ok_177 : z_OK (yX12_stokes, cX12_stokes, 1, none, false, zo_X12_stokes, zc_X12_stokes, 12, 1) := ⟨12, false, rfl, fun h => absurd h (by decide), z_okl (by decide +kernel)⟩
set_option maxRecDepth 100000 in
theorem z_ok_178 : z_OK (yX12_stoke, cX12_stoke, 1, (some .int), false, zo_X12_stoke, zc_X12_stoke, 12, 1) := ⟨12, false, rfl, fun h => absurd h (by decide), z_okl (by decide +kernel)⟩
set_option maxRecDepth 100000 in
theorem z_ok_179 : z_OK (yX12_pass, cX12_pass, 2, (some .int), false, zo_X12_pass, zc_X12_pass, 12, 2) := ⟨12, false, rfl, fun h => absurd h (by decide), z_okl (by decide +kernel)⟩
set_option maxRecDepth 100000 in
theorem z_ok_180 : z_OK (yX12_save, cX12_save, 2, none, false, zo_X12_save, zc_X12_save, 12, 1) := ⟨12, false, rfl, fun h => absurd h (by decide), z_okl (by decide +kernel)⟩
set_option maxRecDepth 100000 in
theorem z_ok_181 : z_OK (yX12_putBack, cX12_putBack, 2, none, false, zo_X12_putBack, zc_X12_putBack, 12, 1) := ⟨12, false, rfl, fun h => absurd h (by decide), z_okl (by decide +kernel)⟩
set_option maxRecDepth 100000 in
theorem z_ok_182 : z_OK (yX12_on, cX12_on, 4, (some .int), false, zo_X12_on, zc_X12_on, 12, 3) := ⟨12, false, rfl, fun h => absurd h (by decide), z_okl (by decide +kernel)⟩
set_option maxRecDepth 100000 in
theorem z_ok_183 : z_OK (yX12_done, cX12_done, 3, (some .int), false, zo_X12_done, zc_X12_done, 12, 2) := ⟨12, false, rfl, fun h => absurd h (by decide), z_okl (by decide +kernel)⟩
set_option maxRecDepth 100000 in
theorem z_ok_184 : z_OK (yX12_night, cX12_night, 3, (some .int), false, zo_X12_night, zc_X12_night, 12, 2) := ⟨12, false, rfl, fun h => absurd h (by decide), z_okl (by decide +kernel)⟩
set_option maxRecDepth 100000 in
theorem z_ok_185 : z_OK (yX12_layWets, cX12_layWets, 4, none, false, zo_X12_layWets, zc_X12_layWets, 12, 2) := ⟨12, false, rfl, fun h => absurd h (by decide), z_okl (by decide +kernel)⟩
set_option maxRecDepth 100000 in
theorem z_ok_186 : z_OK (yX12_layPlaces, cX12_layPlaces, 5, (some .boolean), true, zo_X12_layPlaces, zc_X12_layPlaces, 12, 2) := ⟨12, false, rfl, fun h => absurd h (by decide), z_okl (by decide +kernel)⟩
set_option maxRecDepth 100000 in
theorem z_ok_187 : z_OK (yX12_layBest, cX12_layBest, 8, none, false, zo_X12_layBest, zc_X12_layBest, 12, 2) := ⟨12, false, rfl, fun h => absurd h (by decide), z_okl (by decide +kernel)⟩
set_option maxRecDepth 100000 in
theorem z_ok_188 : z_OK (yX12_placed, cX12_placed, 3, (some .int), false, zo_X12_placed, zc_X12_placed, 12, 3) := ⟨12, false, rfl, fun h => absurd h (by decide), z_okl (by decide +kernel)⟩
set_option maxRecDepth 100000 in
theorem z_ok_189 : z_OK (yX12_wetBy, cX12_wetBy, 6, (some .int), false, zo_X12_wetBy, zc_X12_wetBy, 12, 3) := ⟨12, false, rfl, fun h => absurd h (by decide), z_okl (by decide +kernel)⟩
set_option maxRecDepth 100000 in
theorem z_ok_190 : z_OK (yX12_change, cX12_change, 6, (some .int), false, zo_X12_change, zc_X12_change, 12, 1) := ⟨12, false, rfl, fun h => absurd h (by decide), z_okl (by decide +kernel)⟩
set_option maxRecDepth 100000 in
theorem z_ok_191 : z_OK (yX12_wetStoked, cX12_wetStoked, 4, (some .int), false, zo_X12_wetStoked, zc_X12_wetStoked, 12, 3) := ⟨12, false, rfl, fun h => absurd h (by decide), z_okl (by decide +kernel)⟩
set_option maxRecDepth 100000 in
theorem z_ok_192 : z_OK (yX12_logs, cX12_logs, 7, (some .int), false, zo_X12_logs, zc_X12_logs, 12, 3) := ⟨12, false, rfl, fun h => absurd h (by decide), z_okl (by decide +kernel)⟩
set_option maxRecDepth 100000 in
theorem z_ok_193 : z_OK (yX12_see, cX12_see, 4, (some .int), false, zo_X12_see, zc_X12_see, 12, 4) := ⟨12, false, rfl, fun h => absurd h (by decide), z_okl (by decide +kernel)⟩
set_option maxRecDepth 100000 in
theorem z_ok_194 : z_OK (yX12_isSeen, cX12_isSeen, 4, (some .boolean), true, zo_X12_isSeen, zc_X12_isSeen, 12, 2) := ⟨12, false, rfl, fun h => absurd h (by decide), z_okl (by decide +kernel)⟩
set_option maxRecDepth 100000 in
theorem z_ok_195 : z_OK (yX12_wets, cX12_wets, 7, (some .int), false, zo_X12_wets, zc_X12_wets, 12, 3) := ⟨12, false, rfl, fun h => absurd h (by decide), z_okl (by decide +kernel)⟩
set_option maxRecDepth 100000 in
theorem z_ok_196 : z_OK (yX12_can, cX12_can, 7, (some .int), false, zo_X12_can, zc_X12_can, 12, 3) := ⟨12, false, rfl, fun h => absurd h (by decide), z_okl (by decide +kernel)⟩
set_option maxRecDepth 100000 in
theorem z_ok_197 : z_OK (yX12_where, cX12_where, 5, (some .int), false, zo_X12_where, zc_X12_where, 12, 2) := ⟨12, false, rfl, fun h => absurd h (by decide), z_okl (by decide +kernel)⟩
set_option maxRecDepth 100000 in
theorem z_ok_198 : z_OK (yX12_divisor, cX12_divisor, 6, (some .int), false, zo_X12_divisor, zc_X12_divisor, 12, 3) := ⟨12, false, rfl, fun h => absurd h (by decide), z_okl (by decide +kernel)⟩
set_option maxRecDepth 100000 in
theorem z_ok_199 : z_OK (yX12_lowest, cX12_lowest, 5, (some .long), false, zo_X12_lowest, zc_X12_lowest, 12, 4) := ⟨12, false, rfl, fun h => absurd h (by decide), z_okl (by decide +kernel)⟩
set_option maxRecDepth 100000 in
theorem z_ok_200 : z_OK (yX12_odds, cX12_odds, 6, (some .long), false, zo_X12_odds, zc_X12_odds, 12, 4) := ⟨12, false, rfl, fun h => absurd h (by decide), z_okl (by decide +kernel)⟩
set_option maxRecDepth 100000 in
theorem z_ok_201 : z_OK (yX12_mean, cX12_mean, 4, (some .long), false, zo_X12_mean, zc_X12_mean, 12, 3) := ⟨12, false, rfl, fun h => absurd h (by decide), z_okl (by decide +kernel)⟩
set_option maxRecDepth 100000 in
theorem z_ok_202 : z_OK (yX12_rota, cX12_rota, 3, (some .int), false, zo_X12_rota, zc_X12_rota, 12, 3) := ⟨12, false, rfl, fun h => absurd h (by decide), z_okl (by decide +kernel)⟩
set_option maxRecDepth 100000 in
theorem z_ok_203 : z_OK (yX12_goRota, cX12_goRota, 3, none, false, zo_X12_goRota, zc_X12_goRota, 12, 3) := ⟨12, false, rfl, fun h => absurd h (by decide), z_okl (by decide +kernel)⟩
set_option maxRecDepth 100000 in
theorem z_ok_204 : z_OK (yX12_ends, cX12_ends, 3, (some .int), false, zo_X12_ends, zc_X12_ends, 12, 2) := ⟨12, false, rfl, fun h => absurd h (by decide), z_okl (by decide +kernel)⟩
set_option maxRecDepth 100000 in
theorem z_ok_205 : z_OK (yX12_book, cX12_book, 3, (some .int), false, zo_X12_book, zc_X12_book, 12, 3) := ⟨12, false, rfl, fun h => absurd h (by decide), z_okl (by decide +kernel)⟩
set_option maxRecDepth 100000 in
theorem z_ok_206 : z_OK (yX12_looked, cX12_looked, 2, (some .int), false, zo_X12_looked, zc_X12_looked, 12, 1) := ⟨12, false, rfl, fun h => absurd h (by decide), z_okl (by decide +kernel)⟩
set_option maxRecDepth 100000 in
theorem z_ok_207 : z_OK (yX12_judge, cX12_judge, 4, (some .int), false, zo_X12_judge, zc_X12_judge, 12, 3) := ⟨12, false, rfl, fun h => absurd h (by decide), z_okl (by decide +kernel)⟩
set_option maxRecDepth 100000 in
theorem z_ok_208 : z_OK (yX12_image, cX12_image, 2, (some .int), false, zo_X12_image, zc_X12_image, 12, 1) := ⟨12, false, rfl, fun h => absurd h (by decide), z_okl (by decide +kernel)⟩
set_option maxRecDepth 100000 in
theorem z_ok_209 : z_OK (yX12_undo, cX12_undo, 2, (some .int), false, zo_X12_undo, zc_X12_undo, 12, 1) := ⟨12, false, rfl, fun h => absurd h (by decide), z_okl (by decide +kernel)⟩
set_option maxRecDepth 100000 in
theorem z_ok_210 : z_OK (yX12_body, cX12_body, 2, none, false, zo_X12_body, zc_X12_body, 12, 2) := ⟨12, false, rfl, fun h => absurd h (by decide), z_okl (by decide +kernel)⟩
set_option maxRecDepth 100000 in
theorem z_ok_211 : z_OK (yX12_pairDrips, cX12_pairDrips, 3, (some .int), false, zo_X12_pairDrips, zc_X12_pairDrips, 12, 3) := ⟨12, false, rfl, fun h => absurd h (by decide), z_okl (by decide +kernel)⟩
set_option maxRecDepth 100000 in
theorem z_ok_212 : z_OK (yX12_dripsAct, cX12_dripsAct, 3, (some .int), false, zo_X12_dripsAct, zc_X12_dripsAct, 12, 3) := ⟨12, false, rfl, fun h => absurd h (by decide), z_okl (by decide +kernel)⟩
set_option maxRecDepth 100000 in
theorem z_ok_213 : z_OK (yX12_pairSteams, cX12_pairSteams, 3, (some .int), false, zo_X12_pairSteams, zc_X12_pairSteams, 12, 3) := ⟨12, false, rfl, fun h => absurd h (by decide), z_okl (by decide +kernel)⟩
set_option maxRecDepth 100000 in
theorem z_ok_214 : z_OK (yX12_leatherSteams, cX12_leatherSteams, 3, (some .int), false, zo_X12_leatherSteams, zc_X12_leatherSteams, 12, 3) := ⟨12, false, rfl, fun h => absurd h (by decide), z_okl (by decide +kernel)⟩
set_option maxRecDepth 100000 in
theorem z_ok_215 : z_OK (yX12_steamsAct, cX12_steamsAct, 4, (some .int), false, zo_X12_steamsAct, zc_X12_steamsAct, 12, 3) := ⟨12, false, rfl, fun h => absurd h (by decide), z_okl (by decide +kernel)⟩
set_option maxRecDepth 100000 in
theorem z_ok_216 : z_OK (yX12_pairTells, cX12_pairTells, 3, (some .int), false, zo_X12_pairTells, zc_X12_pairTells, 12, 3) := ⟨12, false, rfl, fun h => absurd h (by decide), z_okl (by decide +kernel)⟩
set_option maxRecDepth 100000 in
theorem z_ok_217 : z_OK (yX12_tellsAct, cX12_tellsAct, 4, (some .int), false, zo_X12_tellsAct, zc_X12_tellsAct, 12, 3) := ⟨12, false, rfl, fun h => absurd h (by decide), z_okl (by decide +kernel)⟩
set_option maxRecDepth 100000 in
theorem z_ok_218 : z_OK (yX12_act, cX12_act, 4, (some .int), false, zo_X12_act, zc_X12_act, 12, 4) := ⟨12, false, rfl, fun h => absurd h (by decide), z_okl (by decide +kernel)⟩
set_option maxRecDepth 100000 in
theorem z_ok_219 : z_OK (yX12_trace, cX12_trace, 2, (some .int), false, zo_X12_trace, zc_X12_trace, 12, 2) := ⟨12, false, rfl, fun h => absurd h (by decide), z_okl (by decide +kernel)⟩
set_option maxRecDepth 100000 in
theorem z_ok_220 : z_OK (yX12_taken, cX12_taken, 4, (some .int), false, zo_X12_taken, zc_X12_taken, 12, 3) := ⟨12, false, rfl, fun h => absurd h (by decide), z_okl (by decide +kernel)⟩
set_option maxRecDepth 100000 in
theorem z_ok_221 : z_OK (yX12_count, cX12_count, 2, (some .int), false, zo_X12_count, zc_X12_count, 12, 2) := ⟨12, false, rfl, fun h => absurd h (by decide), z_okl (by decide +kernel)⟩
set_option maxRecDepth 100000 in
theorem z_ok_222 : z_OK (yX12_isTape, cX12_isTape, 2, (some .boolean), true, zo_X12_isTape, zc_X12_isTape, 12, 2) := ⟨12, false, rfl, fun h => absurd h (by decide), z_okl (by decide +kernel)⟩
set_option maxRecDepth 100000 in
theorem z_ok_223 : z_OK (yX12_tape, cX12_tape, 5, (some .int), false, zo_X12_tape, zc_X12_tape, 12, 4) := ⟨12, false, rfl, fun h => absurd h (by decide), z_okl (by decide +kernel)⟩
set_option maxRecDepth 100000 in
theorem z_ok_224 : z_OK (yX12_narrow, cX12_narrow, 4, (some .long), false, zo_X12_narrow, zc_X12_narrow, 12, 3) := ⟨12, false, rfl, fun h => absurd h (by decide), z_okl (by decide +kernel)⟩
set_option maxRecDepth 100000 in
theorem z_ok_225 : z_OK (yX12_item, cX12_item, 5, (some .int), false, zo_X12_item, zc_X12_item, 12, 4) := ⟨12, false, rfl, fun h => absurd h (by decide), z_okl (by decide +kernel)⟩
set_option maxRecDepth 100000 in
theorem z_ok_226 : z_OK (yX12_read, cX12_read, 3, (some .long), false, zo_X12_read, zc_X12_read, 12, 3) := ⟨12, false, rfl, fun h => absurd h (by decide), z_okl (by decide +kernel)⟩
set_option maxRecDepth 100000 in
theorem z_ok_227 : z_OK (yX12_shift, cX12_shift, 7, (some .int), false, zo_X12_shift, zc_X12_shift, 12, 6) := ⟨12, false, rfl, fun h => absurd h (by decide), z_okl (by decide +kernel)⟩
end
section
theorem zm_0_k : ∀ q ∈ zm_0, z_OK q := List.forall_mem_cons.mpr ⟨z_ok_0, List.forall_mem_cons.mpr ⟨z_ok_1, List.forall_mem_cons.mpr ⟨z_ok_2, List.forall_mem_cons.mpr ⟨z_ok_3, List.forall_mem_cons.mpr ⟨z_ok_4, List.forall_mem_cons.mpr ⟨z_ok_5, List.forall_mem_cons.mpr ⟨z_ok_6, List.forall_mem_cons.mpr ⟨z_ok_7, List.forall_mem_cons.mpr ⟨z_ok_8, List.forall_mem_cons.mpr ⟨z_ok_9, List.forall_mem_cons.mpr ⟨z_ok_10, List.forall_mem_cons.mpr ⟨z_ok_11, List.forall_mem_cons.mpr ⟨z_ok_12, List.forall_mem_cons.mpr ⟨z_ok_13, List.forall_mem_cons.mpr ⟨z_ok_14, List.forall_mem_cons.mpr ⟨z_ok_15, List.forall_mem_cons.mpr ⟨z_ok_16, List.forall_mem_cons.mpr ⟨z_ok_17, List.forall_mem_cons.mpr ⟨z_ok_18, List.forall_mem_cons.mpr ⟨z_ok_19, fun _ h => absurd h List.not_mem_nil⟩⟩⟩⟩⟩⟩⟩⟩⟩⟩⟩⟩⟩⟩⟩⟩⟩⟩⟩⟩
theorem zm_1_k : ∀ q ∈ zm_1, z_OK q := List.forall_mem_cons.mpr ⟨z_ok_20, List.forall_mem_cons.mpr ⟨z_ok_21, List.forall_mem_cons.mpr ⟨z_ok_22, List.forall_mem_cons.mpr ⟨z_ok_23, List.forall_mem_cons.mpr ⟨z_ok_24, List.forall_mem_cons.mpr ⟨z_ok_25, List.forall_mem_cons.mpr ⟨z_ok_26, List.forall_mem_cons.mpr ⟨z_ok_27, List.forall_mem_cons.mpr ⟨z_ok_28, List.forall_mem_cons.mpr ⟨z_ok_29, List.forall_mem_cons.mpr ⟨z_ok_30, List.forall_mem_cons.mpr ⟨z_ok_31, List.forall_mem_cons.mpr ⟨z_ok_32, List.forall_mem_cons.mpr ⟨z_ok_33, List.forall_mem_cons.mpr ⟨z_ok_34, List.forall_mem_cons.mpr ⟨z_ok_35, List.forall_mem_cons.mpr ⟨z_ok_36, List.forall_mem_cons.mpr ⟨z_ok_37, List.forall_mem_cons.mpr ⟨z_ok_38, List.forall_mem_cons.mpr ⟨z_ok_39, fun _ h => absurd h List.not_mem_nil⟩⟩⟩⟩⟩⟩⟩⟩⟩⟩⟩⟩⟩⟩⟩⟩⟩⟩⟩⟩
theorem zm_2_k : ∀ q ∈ zm_2, z_OK q := List.forall_mem_cons.mpr ⟨z_ok_40, List.forall_mem_cons.mpr ⟨z_ok_41, List.forall_mem_cons.mpr ⟨z_ok_42, List.forall_mem_cons.mpr ⟨z_ok_43, List.forall_mem_cons.mpr ⟨z_ok_44, List.forall_mem_cons.mpr ⟨z_ok_45, List.forall_mem_cons.mpr ⟨z_ok_46, List.forall_mem_cons.mpr ⟨z_ok_47, List.forall_mem_cons.mpr ⟨z_ok_48, List.forall_mem_cons.mpr ⟨z_ok_49, List.forall_mem_cons.mpr ⟨z_ok_50, List.forall_mem_cons.mpr ⟨z_ok_51, List.forall_mem_cons.mpr ⟨z_ok_52, List.forall_mem_cons.mpr ⟨z_ok_53, List.forall_mem_cons.mpr ⟨z_ok_54, List.forall_mem_cons.mpr ⟨z_ok_55, List.forall_mem_cons.mpr ⟨z_ok_56, List.forall_mem_cons.mpr ⟨z_ok_57, List.forall_mem_cons.mpr ⟨z_ok_58, List.forall_mem_cons.mpr ⟨z_ok_59, fun _ h => absurd h List.not_mem_nil⟩⟩⟩⟩⟩⟩⟩⟩⟩⟩⟩⟩⟩⟩⟩⟩⟩⟩⟩⟩
theorem zm_3_k : ∀ q ∈ zm_3, z_OK q := List.forall_mem_cons.mpr ⟨z_ok_60, List.forall_mem_cons.mpr ⟨z_ok_61, List.forall_mem_cons.mpr ⟨z_ok_62, List.forall_mem_cons.mpr ⟨z_ok_63, List.forall_mem_cons.mpr ⟨z_ok_64, List.forall_mem_cons.mpr ⟨z_ok_65, List.forall_mem_cons.mpr ⟨z_ok_66, List.forall_mem_cons.mpr ⟨z_ok_67, List.forall_mem_cons.mpr ⟨z_ok_68, List.forall_mem_cons.mpr ⟨z_ok_69, List.forall_mem_cons.mpr ⟨z_ok_70, List.forall_mem_cons.mpr ⟨z_ok_71, List.forall_mem_cons.mpr ⟨z_ok_72, List.forall_mem_cons.mpr ⟨z_ok_73, List.forall_mem_cons.mpr ⟨z_ok_74, List.forall_mem_cons.mpr ⟨z_ok_75, List.forall_mem_cons.mpr ⟨z_ok_76, List.forall_mem_cons.mpr ⟨z_ok_77, List.forall_mem_cons.mpr ⟨z_ok_78, List.forall_mem_cons.mpr ⟨z_ok_79, fun _ h => absurd h List.not_mem_nil⟩⟩⟩⟩⟩⟩⟩⟩⟩⟩⟩⟩⟩⟩⟩⟩⟩⟩⟩⟩
theorem zm_4_k : ∀ q ∈ zm_4, z_OK q := List.forall_mem_cons.mpr ⟨z_ok_80, List.forall_mem_cons.mpr ⟨z_ok_81, List.forall_mem_cons.mpr ⟨z_ok_82, List.forall_mem_cons.mpr ⟨z_ok_83, List.forall_mem_cons.mpr ⟨z_ok_84, List.forall_mem_cons.mpr ⟨z_ok_85, List.forall_mem_cons.mpr ⟨z_ok_86, List.forall_mem_cons.mpr ⟨z_ok_87, List.forall_mem_cons.mpr ⟨z_ok_88, List.forall_mem_cons.mpr ⟨z_ok_89, List.forall_mem_cons.mpr ⟨z_ok_90, List.forall_mem_cons.mpr ⟨z_ok_91, List.forall_mem_cons.mpr ⟨z_ok_92, List.forall_mem_cons.mpr ⟨z_ok_93, List.forall_mem_cons.mpr ⟨z_ok_94, List.forall_mem_cons.mpr ⟨z_ok_95, List.forall_mem_cons.mpr ⟨z_ok_96, List.forall_mem_cons.mpr ⟨z_ok_97, List.forall_mem_cons.mpr ⟨z_ok_98, List.forall_mem_cons.mpr ⟨z_ok_99, fun _ h => absurd h List.not_mem_nil⟩⟩⟩⟩⟩⟩⟩⟩⟩⟩⟩⟩⟩⟩⟩⟩⟩⟩⟩⟩
theorem zm_5_k : ∀ q ∈ zm_5, z_OK q := List.forall_mem_cons.mpr ⟨z_ok_100, List.forall_mem_cons.mpr ⟨z_ok_101, List.forall_mem_cons.mpr ⟨z_ok_102, List.forall_mem_cons.mpr ⟨z_ok_103, List.forall_mem_cons.mpr ⟨z_ok_104, List.forall_mem_cons.mpr ⟨z_ok_105, List.forall_mem_cons.mpr ⟨z_ok_106, List.forall_mem_cons.mpr ⟨z_ok_107, List.forall_mem_cons.mpr ⟨z_ok_108, List.forall_mem_cons.mpr ⟨z_ok_109, List.forall_mem_cons.mpr ⟨z_ok_110, List.forall_mem_cons.mpr ⟨z_ok_111, List.forall_mem_cons.mpr ⟨z_ok_112, List.forall_mem_cons.mpr ⟨z_ok_113, List.forall_mem_cons.mpr ⟨z_ok_114, List.forall_mem_cons.mpr ⟨z_ok_115, List.forall_mem_cons.mpr ⟨z_ok_116, List.forall_mem_cons.mpr ⟨z_ok_117, List.forall_mem_cons.mpr ⟨z_ok_118, List.forall_mem_cons.mpr ⟨z_ok_119, fun _ h => absurd h List.not_mem_nil⟩⟩⟩⟩⟩⟩⟩⟩⟩⟩⟩⟩⟩⟩⟩⟩⟩⟩⟩⟩
theorem zm_6_k : ∀ q ∈ zm_6, z_OK q := List.forall_mem_cons.mpr ⟨z_ok_120, List.forall_mem_cons.mpr ⟨z_ok_121, List.forall_mem_cons.mpr ⟨z_ok_122, List.forall_mem_cons.mpr ⟨z_ok_123, List.forall_mem_cons.mpr ⟨z_ok_124, List.forall_mem_cons.mpr ⟨z_ok_125, List.forall_mem_cons.mpr ⟨z_ok_126, List.forall_mem_cons.mpr ⟨z_ok_127, List.forall_mem_cons.mpr ⟨z_ok_128, List.forall_mem_cons.mpr ⟨z_ok_129, List.forall_mem_cons.mpr ⟨z_ok_130, List.forall_mem_cons.mpr ⟨z_ok_131, List.forall_mem_cons.mpr ⟨z_ok_132, List.forall_mem_cons.mpr ⟨z_ok_133, List.forall_mem_cons.mpr ⟨z_ok_134, List.forall_mem_cons.mpr ⟨z_ok_135, List.forall_mem_cons.mpr ⟨z_ok_136, List.forall_mem_cons.mpr ⟨z_ok_137, List.forall_mem_cons.mpr ⟨z_ok_138, List.forall_mem_cons.mpr ⟨z_ok_139, fun _ h => absurd h List.not_mem_nil⟩⟩⟩⟩⟩⟩⟩⟩⟩⟩⟩⟩⟩⟩⟩⟩⟩⟩⟩⟩
theorem zm_7_k : ∀ q ∈ zm_7, z_OK q := List.forall_mem_cons.mpr ⟨z_ok_140, List.forall_mem_cons.mpr ⟨z_ok_141, List.forall_mem_cons.mpr ⟨z_ok_142, List.forall_mem_cons.mpr ⟨z_ok_143, List.forall_mem_cons.mpr ⟨z_ok_144, List.forall_mem_cons.mpr ⟨z_ok_145, List.forall_mem_cons.mpr ⟨z_ok_146, List.forall_mem_cons.mpr ⟨z_ok_147, List.forall_mem_cons.mpr ⟨z_ok_148, List.forall_mem_cons.mpr ⟨z_ok_149, List.forall_mem_cons.mpr ⟨z_ok_150, List.forall_mem_cons.mpr ⟨z_ok_151, List.forall_mem_cons.mpr ⟨z_ok_152, List.forall_mem_cons.mpr ⟨z_ok_153, List.forall_mem_cons.mpr ⟨z_ok_154, List.forall_mem_cons.mpr ⟨z_ok_155, List.forall_mem_cons.mpr ⟨z_ok_156, List.forall_mem_cons.mpr ⟨z_ok_157, List.forall_mem_cons.mpr ⟨z_ok_158, List.forall_mem_cons.mpr ⟨z_ok_159, fun _ h => absurd h List.not_mem_nil⟩⟩⟩⟩⟩⟩⟩⟩⟩⟩⟩⟩⟩⟩⟩⟩⟩⟩⟩⟩
theorem zm_8_k : ∀ q ∈ zm_8, z_OK q := List.forall_mem_cons.mpr ⟨z_ok_160, List.forall_mem_cons.mpr ⟨z_ok_161, List.forall_mem_cons.mpr ⟨z_ok_162, List.forall_mem_cons.mpr ⟨z_ok_163, List.forall_mem_cons.mpr ⟨z_ok_164, List.forall_mem_cons.mpr ⟨z_ok_165, List.forall_mem_cons.mpr ⟨z_ok_166, List.forall_mem_cons.mpr ⟨z_ok_167, List.forall_mem_cons.mpr ⟨z_ok_168, List.forall_mem_cons.mpr ⟨z_ok_169, List.forall_mem_cons.mpr ⟨z_ok_170, List.forall_mem_cons.mpr ⟨z_ok_171, List.forall_mem_cons.mpr ⟨z_ok_172, List.forall_mem_cons.mpr ⟨z_ok_173, List.forall_mem_cons.mpr ⟨z_ok_174, List.forall_mem_cons.mpr ⟨z_ok_175, List.forall_mem_cons.mpr ⟨z_ok_176, List.forall_mem_cons.mpr ⟨z_ok_177, List.forall_mem_cons.mpr ⟨z_ok_178, List.forall_mem_cons.mpr ⟨z_ok_179, fun _ h => absurd h List.not_mem_nil⟩⟩⟩⟩⟩⟩⟩⟩⟩⟩⟩⟩⟩⟩⟩⟩⟩⟩⟩⟩
theorem zm_9_k : ∀ q ∈ zm_9, z_OK q := List.forall_mem_cons.mpr ⟨z_ok_180, List.forall_mem_cons.mpr ⟨z_ok_181, List.forall_mem_cons.mpr ⟨z_ok_182, List.forall_mem_cons.mpr ⟨z_ok_183, List.forall_mem_cons.mpr ⟨z_ok_184, List.forall_mem_cons.mpr ⟨z_ok_185, List.forall_mem_cons.mpr ⟨z_ok_186, List.forall_mem_cons.mpr ⟨z_ok_187, List.forall_mem_cons.mpr ⟨z_ok_188, List.forall_mem_cons.mpr ⟨z_ok_189, List.forall_mem_cons.mpr ⟨z_ok_190, List.forall_mem_cons.mpr ⟨z_ok_191, List.forall_mem_cons.mpr ⟨z_ok_192, List.forall_mem_cons.mpr ⟨z_ok_193, List.forall_mem_cons.mpr ⟨z_ok_194, List.forall_mem_cons.mpr ⟨z_ok_195, List.forall_mem_cons.mpr ⟨z_ok_196, List.forall_mem_cons.mpr ⟨z_ok_197, List.forall_mem_cons.mpr ⟨z_ok_198, List.forall_mem_cons.mpr ⟨z_ok_199, fun _ h => absurd h List.not_mem_nil⟩⟩⟩⟩⟩⟩⟩⟩⟩⟩⟩⟩⟩⟩⟩⟩⟩⟩⟩⟩
theorem zm_10_k : ∀ q ∈ zm_10, z_OK q := List.forall_mem_cons.mpr ⟨z_ok_200, List.forall_mem_cons.mpr ⟨z_ok_201, List.forall_mem_cons.mpr ⟨z_ok_202, List.forall_mem_cons.mpr ⟨z_ok_203, List.forall_mem_cons.mpr ⟨z_ok_204, List.forall_mem_cons.mpr ⟨z_ok_205, List.forall_mem_cons.mpr ⟨z_ok_206, List.forall_mem_cons.mpr ⟨z_ok_207, List.forall_mem_cons.mpr ⟨z_ok_208, List.forall_mem_cons.mpr ⟨z_ok_209, List.forall_mem_cons.mpr ⟨z_ok_210, List.forall_mem_cons.mpr ⟨z_ok_211, List.forall_mem_cons.mpr ⟨z_ok_212, List.forall_mem_cons.mpr ⟨z_ok_213, List.forall_mem_cons.mpr ⟨z_ok_214, List.forall_mem_cons.mpr ⟨z_ok_215, List.forall_mem_cons.mpr ⟨z_ok_216, List.forall_mem_cons.mpr ⟨z_ok_217, List.forall_mem_cons.mpr ⟨z_ok_218, List.forall_mem_cons.mpr ⟨z_ok_219, fun _ h => absurd h List.not_mem_nil⟩⟩⟩⟩⟩⟩⟩⟩⟩⟩⟩⟩⟩⟩⟩⟩⟩⟩⟩⟩
theorem zm_11_k : ∀ q ∈ zm_11, z_OK q := List.forall_mem_cons.mpr ⟨z_ok_220, List.forall_mem_cons.mpr ⟨z_ok_221, List.forall_mem_cons.mpr ⟨z_ok_222, List.forall_mem_cons.mpr ⟨z_ok_223, List.forall_mem_cons.mpr ⟨z_ok_224, List.forall_mem_cons.mpr ⟨z_ok_225, List.forall_mem_cons.mpr ⟨z_ok_226, List.forall_mem_cons.mpr ⟨z_ok_227, List.forall_mem_cons.mpr ⟨z_ok_228, List.forall_mem_cons.mpr ⟨z_ok_229, List.forall_mem_cons.mpr ⟨z_ok_230, fun _ h => absurd h List.not_mem_nil⟩⟩⟩⟩⟩⟩⟩⟩⟩⟩⟩
theorem z_mt_k : ∀ q ∈ z_mt, z_OK q := List.forall_mem_append.mpr ⟨zm_0_k, List.forall_mem_append.mpr ⟨zm_1_k, List.forall_mem_append.mpr ⟨zm_2_k, List.forall_mem_append.mpr ⟨zm_3_k, List.forall_mem_append.mpr ⟨zm_4_k, List.forall_mem_append.mpr ⟨zm_5_k, List.forall_mem_append.mpr ⟨zm_6_k, List.forall_mem_append.mpr ⟨zm_7_k, List.forall_mem_append.mpr ⟨zm_8_k, List.forall_mem_append.mpr ⟨zm_9_k, List.forall_mem_append.mpr ⟨zm_10_k, zm_11_k⟩⟩⟩⟩⟩⟩⟩⟩⟩⟩⟩
end
section
/-! ===== a method of the abstract machine is a method of the real one ===== -/
theorem z_ent_len (α : Nat × Nat → Nat) (as : List z_AV) : ∀ n, (z_ent n as).length = n → (lg_sl (as.map (z_cV α))).length ≤ n := by
  induction as with
  | nil => intro n _; exact Nat.zero_le _
  | cons v r ih =>
    intro n h
    have e : lg_sl ((v :: r).map (z_cV α)) = (if (z_cV α v).category = 2 then [Slot.val (z_cV α v), .second] else [Slot.val (z_cV α v)]) ++ lg_sl (r.map (z_cV α)) := rfl
    rw [e, List.length_append]
    rcases v with x | x | q
    · have h : (z_ent (n - 1) r).length + 1 = n := h
      have h2 := ih (n - 1) (by omega)
      show 1 + _ ≤ n
      omega
    · have h : (z_ent (n - 2) r).length + 1 + 1 = n := h
      have h2 := ih (n - 2) (by omega)
      show 2 + _ ≤ n
      omega
    · have h : (z_ent (n - 1) r).length + 1 = n := h
      have h2 := ih (n - 1) (by omega)
      have h3 : (if (z_cV α (.inr (.inr q))).category = 2 then [Slot.val (z_cV α (.inr (.inr q))), .second] else [Slot.val (z_cV α (.inr (.inr q)))]).length = 1 := by
        rw [if_neg (fun hc => by obtain ⟨x, hx⟩ := (z_cat_of α _).mp hc; cases hx)]
        rfl
      omega
theorem z_ent_args (α : Nat × Nat → Nat) (as : List z_AV) : ∀ (n k i : Nat) (v : z_AV), (z_ent n as)[i]? = some (some v) → (k + i, z_cV α v) ∈ lv_args k (as.map (z_cV α)) ∧ v ∈ as := by
  induction as with
  | nil =>
    intro n k i v h
    have h : (List.replicate n (none : Option z_AV))[i]? = some (some v) := h
    rw [List.getElem?_replicate] at h
    split at h <;> cases h
  | cons u r ih =>
    intro n k i v h
    have e : lv_args k ((u :: r).map (z_cV α)) = (k, z_cV α u) :: lv_args (if (z_cV α u).category = 2 then k + 2 else k + 1) (r.map (z_cV α)) := rfl
    rw [e]
    rcases u with x | x | q
    · cases i with
      | zero =>
        have h1 : (Sum.inl x : z_AV) = v := Option.some.inj (Option.some.inj h)
        rw [← h1]
        exact ⟨List.mem_cons_self, List.mem_cons_self⟩
      | succ i =>
        obtain ⟨h1, h2⟩ := ih (n - 1) (k + 1) i v h
        refine ⟨List.mem_cons_of_mem _ ?_, List.mem_cons_of_mem _ h2⟩
        show (k + (i + 1), _) ∈ lv_args (k + 1) _
        rw [show k + (i + 1) = k + 1 + i by omega]
        exact h1
    · cases i with
      | zero =>
        have h1 : (Sum.inr (Sum.inl x) : z_AV) = v := Option.some.inj (Option.some.inj h)
        rw [← h1]
        exact ⟨List.mem_cons_self, List.mem_cons_self⟩
      | succ i =>
        cases i with
        | zero => cases h
        | succ i =>
          obtain ⟨h1, h2⟩ := ih (n - 2) (k + 2) i v h
          refine ⟨List.mem_cons_of_mem _ ?_, List.mem_cons_of_mem _ h2⟩
          show (k + (i + 1 + 1), _) ∈ lv_args (k + 2) _
          rw [show k + (i + 1 + 1) = k + 2 + i by omega]
          exact h1
    · cases i with
      | zero =>
        have h1 : (Sum.inr (Sum.inr q) : z_AV) = v := Option.some.inj (Option.some.inj h)
        rw [← h1]
        exact ⟨List.mem_cons_self, List.mem_cons_self⟩
      | succ i =>
        obtain ⟨h1, h2⟩ := ih (n - 1) (k + 1) i v h
        refine ⟨List.mem_cons_of_mem _ ?_, List.mem_cons_of_mem _ h2⟩
        rw [if_neg (fun hc => by obtain ⟨x, hx⟩ := (z_cat_of α _).mp hc; cases hx)]
        rw [show k + (i + 1) = k + 1 + i by omega]
        exact h1
theorem z_exe_ok (l : Launch) (md : Bool) (hOK : ∀ q ∈ z_mt, z_OK q) : ∀ (d j : Nat) (as : List z_AV) (S : z_Mem) (r : Option z_AV) (S' : z_Mem), z_exe z_mt md d j as S = some (r, S') → z_Ctr l d md j as S r S' := by
  intro d
  induction d with
  | zero => intro j as S r S' h; cases h
  | succ d ih =>
    intro j as S r S' h
    unfold z_exe at h
    split at h
    · cases h
    · rename_i q hq
      obtain ⟨hlen, h⟩ := z_ht h
      have hlen := Nat.eq_of_beq_eq_true hlen
      refine ⟨q, hq, z_run_mono (z_exe_mono z_mt md d) _ _ _ _ _ h, fun D α cA sz has hmo h6 => ?_⟩
      obtain ⟨o, ini, hon, hini, hops⟩ := hOK q (List.mem_of_getElem? hq)
      obtain ⟨hpl, hmh, hpar, hmx⟩ := z_mt_f q (List.mem_of_getElem? hq)
      refine Met.ofW (cc := q.2.1) (maxL := q.2.2.1) (ret := q.2.2.2.1) hpl rfl ?_
      intro p e s m args below meth c s₁ B hml hv
      obtain ⟨rfl, hsz, hNW, ⟨tys, hK, htk⟩, hP, hD0⟩ := hv
      have hx := B.exec
      have hb := B.bytes
      have hr := B.returns
      have hts0 := atoms_spec (ws := Cond.code q.1 q.2.1 q.2.2.1 q.2.2.2.1 :: z_WT) B.pre
      have hown : s.vm.findClass q.1.cls = some m.cls := findClass_of_methodNamed B.named
      have hlocks := B.notSynchronized
      have hnm : meth.name = q.1.name := (name_of_methodNamed B.named B.method).1
      subst hsz
      have hl := lv_entry (as.map (z_cV α)) (n := q.2.2.1) (z_ent_len α as _ hlen)
      rw [lg_entry_eq]
      generalize (lg_sl (as.map (z_cV α)) ++ List.replicate (q.2.2.1 - (lg_sl (as.map (z_cV α))).length) Slot.unset).toArray = ls at hl ⊢
      have C0 : z_Ct p ({ frames := d + 1, cells := S'.2.2.2 - S.2.2.2, slots := z_sz S'.2.2.2 - z_sz S.2.2.2, locals := 100 * (d + 1) }) s m (as.map (z_cV α)).toArray meth c q.2.1 q.2.2.1 o ini S.2.2.2 S'.2.2.2 :=
        ⟨hx, hb, hml, by rw [hon]; exact hown, fun w hw => hts0 w (List.mem_cons_of_mem _ hw), hNW, fun hi => by rw [hnm]; exact hini hi, ⟨Nat.le_refl _, Nat.le_refl _⟩, Nat.le_add_left 1 d, (by show 100 ≤ 100 * (d + 1); omega)⟩
      have hD := hD0.self (sz := s.heap.size)
      have g := z_run_ok (l := l) (e := e) (below := below) (Q := MQ below (z_Qc D md α cA S s.heap.size r S') (as.map (z_cV α)).toArray s (S'.2.2.2 - S.2.2.2) (z_sz S'.2.2.2 - z_sz S.2.2.2) (va_A (z_ws α cA md S) s.heap.size)) (D := D) (A := va_A (z_ws α cA md S) s.heap.size) (sc := none) (α0 := α) (res := (r, S')) (d := d) C0 ⟨Nat.le_refl _, Nat.le_refl _⟩ hops ih rfl (fun pc la hk => ?_) _ _ _ _ _ h
      · have hvk : z_vok S.2.2.2 (z_ent q.2.2.1 as) [] := by
          refine ⟨fun v hv => absurd hv List.not_mem_nil, fun v hv => ?_⟩
          obtain ⟨i, hi⟩ := List.getElem?_of_mem hv
          exact has v (z_ent_args α as _ 0 i v hi).2
        have k := g.2 α cA ls s.heap [] ⟨⟨Nat.le_refl _, h6⟩, fun _ _ => rfl, hmo, ⟨tys, hK, htk⟩, hP, hD, va_S.rf, fun q h => Or.inr h, trivial⟩ ⟨hlen, hl.1, hl.2.1, fun i v hi => by
          have h1 := (z_ent_args α as _ 0 i v hi).1
          rw [Nat.zero_add] at h1
          exact hl.2.2 _ h1⟩ hvk
        rw [Nat.sub_self, Nat.sub_self] at k
        exact k
      · refine ⟨Nat.le_refl _, fun α' cA' ls' H' locs' hR hl' hk' => ?_⟩
        obtain ⟨⟨hn0, hn6⟩, hag, hmo', ⟨tys', hK', htk'⟩, hP', hD', hS', hA', -⟩ := hR
        have hQB : ∀ t : State, t.heap = H' → s.WarmedH t.vm → z_QB D md α cA S S' s.heap.size (α', cA') t := fun t ht hW => ⟨hn6, hag, hmo', ⟨tys', va_K.moved hW.alike hK', htk'⟩, by rw [ht]; exact hP', hD'⟩
        rcases r with _ | x | x | x
        · obtain ⟨hd, hret⟩ := hk
          rw [hret] at hr
          exact W.vret hx hb hr (fun t ht hW => ⟨⟨(α', cA'), rfl, trivial, hQB t ht hW⟩, hS'.F ht⟩) (fun q hq => hS'.2.2 q hq) hd hlocks
        · obtain ⟨hd, hret⟩ := hk
          rcases hret with hret | ⟨hret, hv⟩
          · rw [hret] at hr
            exact W.iret hx hb hr (fun t ht hW => ⟨⟨x, (α', cA'), rfl, rfl, hQB t ht hW⟩, hS'.F ht⟩) (fun q hq => hS'.2.2 q hq) hd hlocks
          · rw [hret] at hr
            exact W.zret hx hb hr (by show Value.int (x &&& 1) = _; rw [hv]) (fun t ht hW => ⟨⟨x, (α', cA'), rfl, rfl, hQB t ht hW⟩, hS'.F ht⟩) (fun q hq => hS'.2.2 q hq) hd hlocks
        · obtain ⟨hd, hret⟩ := hk
          rw [hret] at hr
          exact W.lret hx hb hr (fun t ht hW => ⟨⟨x, (α', cA'), rfl, rfl, hQB t ht hW⟩, hS'.F ht⟩) (fun q hq => hS'.2.2 q hq) hd hlocks
        · exact absurd hk (fun h => h)
end
section
/-! ===== the constructors, run once and for all ===== -/
def z_S00 : z_Mem := (fun _ _ _ => 0, fun _ _ _ => 0, fun _ _ _ => (0, 0), 0)
abbrev z_R1T : Type := Nat × (z_Lc × (List z_AV × z_Mem))
def z_K0 : Nat → z_Lc → List z_AV → z_Mem → Option z_R1T := fun pc la sa S => some (pc, la, sa, S)
def z_R1 : Option z_R1T := z_go false none (z_exe z_mt false 12) true zo_L_law zc_L_law z_K0 (fun _ _ => none) 2000 0 [some (.inr (.inr (90, 0))), none, none, none] [] z_S00
def z_la1 : z_Lc := [some (.inr (.inr (90, 0))), some (.inr (.inr (11, 0))), some (.inr (.inr (12, 0))), some (.inl 0)]
/-- ints that the constructors leave -/
def z_F0 : List (Nat × (Nat × (Nat × Int32))) := [(11, 0, 4, 0), (11, 0, 11, 0), (8, 0, 3, 0), (8, 1, 3, 0), (8, 2, 3, 0), (8, 3, 3, 0), (8, 4, 3, 0), (8, 5, 3, 0), (1, 0, 1, 0), (2, 19, 0, 0), (2, 19, 1, 0), (2, 19, 2, 0), (2, 19, 3, 0), (2, 19, 4, 0), (2, 19, 5, 0), (2, 19, 6, 0), (6, 0, 3, 0), (6, 0, 5, 0), (6, 0, 6, 0), (4, 6, 0, 1), (4, 6, 1, 6), (4, 6, 2, 0), (4, 6, 4, 0), (7, 0, 1, 0), (9, 0, 0, 10), (9, 0, 1, 3), (9, 0, 2, 0), (2, 0, 0, 0), (2, 0, 1, 0), (2, 0, 2, 0), (2, 0, 3, 0), (2, 0, 4, 0), (2, 0, 5, 0), (2, 0, 6, 0), (2, 1, 0, 1), (2, 1, 1, 0), (2, 1, 2, 0), (2, 1, 3, 0), (2, 1, 4, 0), (2, 1, 5, 0), (2, 1, 6, 0), (2, 2, 0, 2), (2, 2, 1, 0), (2, 2, 2, 0), (2, 2, 3, 0), (2, 2, 4, 0), (2, 2, 5, 0), (2, 2, 6, 0), (2, 3, 0, 3), (2, 3, 1, 0), (2, 3, 2, 0), (2, 3, 3, 0), (2, 3, 4, 0), (2, 3, 5, 0), (2, 3, 6, 0), (2, 4, 0, 4), (2, 4, 1, 0), (2, 4, 2, 0), (2, 4, 3, 0), (2, 4, 4, 0), (2, 4, 5, 0), (2, 4, 6, 0), (2, 5, 0, 5), (2, 5, 1, 0), (2, 5, 2, 0), (2, 5, 3, 0), (2, 5, 4, 0), (2, 5, 5, 0), (2, 5, 6, 0), (7, 1, 1, 0), (9, 1, 0, 10), (9, 1, 1, 3), (9, 1, 2, 0), (2, 6, 0, 0), (2, 6, 1, 0), (2, 6, 2, 0), (2, 6, 3, 0), (2, 6, 4, 0), (2, 6, 5, 0), (2, 6, 6, 0), (2, 7, 0, 1), (2, 7, 1, 0), (2, 7, 2, 0), (2, 7, 3, 0), (2, 7, 4, 0), (2, 7, 5, 0), (2, 7, 6, 0), (2, 8, 0, 2), (2, 8, 1, 0), (2, 8, 2, 0), (2, 8, 3, 0), (2, 8, 4, 0), (2, 8, 5, 0), (2, 8, 6, 0), (2, 9, 0, 3), (2, 9, 1, 0), (2, 9, 2, 0), (2, 9, 3, 0), (2, 9, 4, 0), (2, 9, 5, 0), (2, 9, 6, 0), (2, 10, 0, 4), (2, 10, 1, 0), (2, 10, 2, 0), (2, 10, 3, 0), (2, 10, 4, 0), (2, 10, 5, 0), (2, 10, 6, 0), (2, 11, 0, 5), (2, 11, 1, 0), (2, 11, 2, 0), (2, 11, 3, 0), (2, 11, 4, 0), (2, 11, 5, 0), (2, 11, 6, 0), (7, 2, 1, 0), (9, 2, 0, 10), (9, 2, 1, 3), (9, 2, 2, 0), (2, 12, 0, 0), (2, 12, 1, 0), (2, 12, 2, 0), (2, 12, 3, 0), (2, 12, 4, 0), (2, 12, 5, 0), (2, 12, 6, 0), (2, 13, 0, 1), (2, 13, 1, 0), (2, 13, 2, 0), (2, 13, 3, 0), (2, 13, 4, 0), (2, 13, 5, 0), (2, 13, 6, 0), (2, 14, 0, 2), (2, 14, 1, 0), (2, 14, 2, 0), (2, 14, 3, 0), (2, 14, 4, 0), (2, 14, 5, 0), (2, 14, 6, 0), (2, 15, 0, 3), (2, 15, 1, 0), (2, 15, 2, 0), (2, 15, 3, 0), (2, 15, 4, 0), (2, 15, 5, 0), (2, 15, 6, 0), (2, 16, 0, 4), (2, 16, 1, 0), (2, 16, 2, 0), (2, 16, 3, 0), (2, 16, 4, 0), (2, 16, 5, 0), (2, 16, 6, 0), (2, 17, 0, 5), (2, 17, 1, 0), (2, 17, 2, 0), (2, 17, 3, 0), (2, 17, 4, 0), (2, 17, 5, 0), (2, 17, 6, 0), (2, 18, 0, 0), (2, 18, 1, 0), (2, 18, 2, 0), (2, 18, 3, 0), (2, 18, 4, 0), (2, 18, 5, 0), (2, 18, 6, 0), (9, 3, 0, 10), (9, 3, 1, 3), (9, 3, 2, 0), (5, 0, 1, 0), (5, 0, 2, 0), (4, 0, 0, 1), (4, 0, 1, 6), (4, 0, 2, 0), (4, 0, 4, 0), (4, 1, 0, 1), (4, 1, 1, 6), (4, 1, 2, 0), (4, 1, 4, 0), (4, 2, 0, 1), (4, 2, 1, 6), (4, 2, 2, 0), (4, 2, 4, 0), (4, 3, 0, 1), (4, 3, 1, 6), (4, 3, 2, 0), (4, 3, 4, 0), (4, 4, 0, 1), (4, 4, 1, 6), (4, 4, 2, 0), (4, 4, 4, 0), (4, 5, 0, 1), (4, 5, 1, 6), (4, 5, 2, 0), (4, 5, 4, 0), (10, 0, 0, (-1)), (10, 0, 1, 0), (10, 1, 0, (-1)), (10, 1, 1, 0), (10, 2, 0, (-1)), (10, 2, 1, 0), (10, 3, 0, (-1)), (10, 3, 1, 0), (10, 4, 0, (-1)), (10, 4, 1, 0), (10, 5, 0, (-1)), (10, 5, 1, 0), (12, 0, 0, 0), (12, 0, 1, 0), (12, 0, 2, 10), (12, 0, 3, 3), (12, 0, 4, 0), (12, 0, 11, 0), (12, 0, 12, (-1)), (12, 0, 13, 0), (12, 0, 14, 0), (12, 0, 15, 0), (12, 0, 24, 0), (12, 0, 25, 0), (12, 0, 26, 0), (12, 0, 29, 9999), (12, 0, 30, 0), (12, 0, 31, 0), (12, 0, 32, 0), (12, 0, 33, 0), (12, 0, 40, 0), (12, 0, 41, 0), (12, 0, 42, 0), (12, 0, 47, 0), (12, 0, 48, 0), (12, 0, 53, 0), (12, 0, 54, (-1)), (12, 0, 55, 0), (12, 0, 56, 0), (12, 0, 57, 0), (12, 0, 58, 0), (12, 0, 59, 0), (12, 0, 60, 0), (12, 0, 61, 0), (12, 0, 62, 0), (12, 0, 76, 0), (51, 0, 0, 100), (51, 0, 1, 114), (51, 0, 2, 121), (51, 0, 3, 100), (51, 0, 4, 97), (51, 0, 5, 109), (51, 0, 6, 112), (51, 0, 7, 99), (51, 0, 8, 111), (51, 0, 9, 111), (51, 0, 10, 108), (51, 0, 11, 108), (51, 0, 12, 111), (51, 0, 13, 103), (81, 0, 0, (-1)), (81, 0, 1, (-1)), (81, 0, 2, (-1)), (81, 0, 3, (-1)), (81, 0, 4, (-1)), (81, 0, 5, (-1)), (82, 0, 0, 0), (82, 0, 1, 0), (82, 0, 2, 0), (82, 0, 3, 0), (82, 0, 4, 0), (82, 0, 5, 0)]
/-- references that may change, as the constructors leave them -/
def z_G0 : List (Nat × (Nat × (Nat × (Nat × Nat)))) := [(1, 0, 2, 2, 19), (9, 0, 3, 4, 6), (9, 1, 3, 4, 6), (9, 2, 3, 4, 6), (9, 3, 3, 4, 6), (5, 0, 3, 4, 6)]
def z_chkL (la : z_Lc) (sa : List z_AV) : Bool := match la, sa with
  | [some (.inr (.inr a)), some (.inr (.inr b)), some (.inr (.inr c)), some (.inl v)], [] => Nat.beq a.1 90 && (Nat.beq a.2 0 && (Nat.beq b.1 11 && (Nat.beq b.2 0 && (Nat.beq c.1 12 && (Nat.beq c.2 0 && decide (v = 0))))))
  | _, _ => false
def z_chkV (S : z_Mem) : Bool := z_ord.all (fun r => (List.range (z_nF r.1)).all (fun k => Nat.blt (z_shK r.1 k) 2 || (Nat.beq (z_rv true S r.1 r.2 k).1 (z_rv false S r.1 r.2 k).1 && Nat.beq (z_rv true S r.1 r.2 k).2 (z_rv false S r.1 r.2 k).2)))
def z_chkE (S : z_Mem) : Bool := z_ord.all (fun r => !Nat.beq (z_aK r.1) 5 || (List.range (z_aN r.1 r.2)).all (fun k => Nat.beq (z_re true S r.1 r.2 k).1 (z_re false S r.1 r.2 k).1 && Nat.beq (z_re true S r.1 r.2 k).2 (z_re false S r.1 r.2 k).2))
def z_chkF (S : z_Mem) : Bool := z_F0.all (fun q => decide (S.1 q.1 q.2.1 q.2.2.1 = q.2.2.2))
def z_chkG (S : z_Mem) : Bool := z_G0.all (fun q => Nat.beq (S.2.2.1 q.1 q.2.1 q.2.2.1).1 q.2.2.2.1 && Nat.beq (S.2.2.1 q.1 q.2.1 q.2.2.1).2 q.2.2.2.2)
def z_chkA (q : z_R1T) : Bool := Nat.beq q.1 18 && (z_chkL q.2.1 q.2.2.1 && (Nat.beq q.2.2.2.2.2.2 176 && (z_chkV q.2.2.2 && (z_chkE q.2.2.2 && (z_chkF q.2.2.2 && z_chkG q.2.2.2)))))
set_option maxRecDepth 1000000 in
theorem z_R1_chk : (match z_R1 with | some q => z_chkA q | none => false) = true := by decide +kernel
def z_S1 : z_Mem := (z_R1.getD (0, [], [], z_S00)).2.2.2
theorem z_chkL_of {la : z_Lc} {sa : List z_AV} (h : z_chkL la sa = true) : la = z_la1 ∧ sa = [] := by
  unfold z_chkL at h
  split at h
  · rename_i a b c v
    simp only [Bool.and_eq_true] at h
    obtain ⟨h1, h2, h3, h4, h5, h6, h7⟩ := h
    refine ⟨?_, rfl⟩
    have e1 : a = (90, 0) := Prod.ext (Nat.eq_of_beq_eq_true h1) (Nat.eq_of_beq_eq_true h2)
    have e2 : b = (11, 0) := Prod.ext (Nat.eq_of_beq_eq_true h3) (Nat.eq_of_beq_eq_true h4)
    have e3 : c = (12, 0) := Prod.ext (Nat.eq_of_beq_eq_true h5) (Nat.eq_of_beq_eq_true h6)
    rw [e1, e2, e3, of_decide_eq_true h7]
    rfl
  · cases h
theorem z_R1_all : z_R1 = some (18, z_la1, [], z_S1) ∧ z_S1.2.2.2 = 176 ∧ z_chkV z_S1 = true ∧ z_chkE z_S1 = true ∧ z_chkF z_S1 = true ∧ z_chkG z_S1 = true := by
  have h := z_R1_chk
  unfold z_S1
  cases hz : z_R1 with
  | none => rw [hz] at h; cases h
  | some q =>
    rw [hz] at h
    have h : z_chkA q = true := h
    unfold z_chkA at h
    rw [Bool.and_eq_true, Bool.and_eq_true, Bool.and_eq_true, Bool.and_eq_true, Bool.and_eq_true, Bool.and_eq_true] at h
    obtain ⟨h1, h2, h3, h4, h5, h6, h7⟩ := h
    obtain ⟨e1, e2⟩ := z_chkL_of h2
    obtain ⟨a, b, c, d⟩ := q
    dsimp only at e1 e2
    have e3 := Nat.eq_of_beq_eq_true h1
    dsimp only at e3
    subst e1; subst e2; subst e3
    exact ⟨rfl, Nat.eq_of_beq_eq_true h3, h4, h5, h6, h7⟩
end
section
/-! ===== from the constructors' world to the named one ===== -/
theorem z_shK_lt {t j : Nat} (h : z_shK t j = 2 ∨ z_shK t j = 3) : j < z_nF t := by
  refine Nat.lt_of_not_le (fun hj => ?_)
  have h9 : z_shK t j = 9 := by
    unfold z_shK
    unfold z_nF at hj
    rw [List.getD_eq_getElem?_getD, List.getElem?_eq_none hj]
    rfl
  rw [h9] at h
  rcases h with h | h <;> cases h
theorem z_rv_eq {S : z_Mem} (hrv : z_chkV S = true) {n : Nat} {r : Nat × Nat} (hr : z_ord[n]? = some r) {k : Nat} (hk : z_shK r.1 k = 2 ∨ z_shK r.1 k = 3) : z_rv true S r.1 r.2 k = z_rv false S r.1 r.2 k := by
  unfold z_chkV at hrv
  have h1 := List.all_eq_true.mp (List.all_eq_true.mp hrv r (List.mem_of_getElem? hr)) k (List.mem_range.mpr (z_shK_lt hk))
  rw [Bool.or_eq_true] at h1
  rcases h1 with h1 | h1
  · have h2 := Nat.blt_eq.mp h1
    omega
  · rw [Bool.and_eq_true] at h1
    exact Prod.ext (Nat.eq_of_beq_eq_true h1.1) (Nat.eq_of_beq_eq_true h1.2)
theorem z_re_eq {S : z_Mem} (hre : z_chkE S = true) {n : Nat} {r : Nat × Nat} (hr : z_ord[n]? = some r) (h5 : z_aK r.1 = 5) {k : Nat} (hk : k < z_aN r.1 r.2) : z_re true S r.1 r.2 k = z_re false S r.1 r.2 k := by
  unfold z_chkE at hre
  have h1 := List.all_eq_true.mp hre r (List.mem_of_getElem? hr)
  rw [h5] at h1
  have h2 : (List.range (z_aN r.1 r.2)).all (fun k => Nat.beq (z_re true S r.1 r.2 k).1 (z_re false S r.1 r.2 k).1 && Nat.beq (z_re true S r.1 r.2 k).2 (z_re false S r.1 r.2 k).2) = true := h1
  have h3 := List.all_eq_true.mp h2 k (List.mem_range.mpr hk)
  rw [Bool.and_eq_true] at h3
  exact Prod.ext (Nat.eq_of_beq_eq_true h3.1) (Nat.eq_of_beq_eq_true h3.2)
theorem z_mok_md {S : z_Mem} (hrv : z_chkV S = true)
    (hre : z_chkE S = true) (h : z_mok false S) : z_mok true S := by
  intro k r hk hr
  refine ⟨fun j hj => ?_, fun h5 j hj => ?_⟩
  · rw [z_rv_eq hrv hr hj]
    exact (h k r hk hr).1 j hj
  · rw [z_re_eq hre hr h5 hj]
    exact (h k r hk hr).2 h5 j hj
theorem z_ws_md {S : z_Mem} (hrv : z_chkV S = true)
    (hre : z_chkE S = true) (α : Nat × Nat → Nat) (cA : Nat × Nat → ClassId) : z_ws α cA true S = z_ws α cA false S := by
  unfold z_ws
  refine List.map_congr_left (fun r hr => ?_)
  obtain ⟨n, hn⟩ := List.getElem?_of_mem (List.mem_of_mem_take hr)
  unfold z_cell
  congr 1
  have e1 : (List.range (z_nF r.1)).map (z_fv α true S r.1 r.2) = (List.range (z_nF r.1)).map (z_fv α false S r.1 r.2) := by
    refine List.map_congr_left (fun j hj => ?_)
    unfold z_fv
    split
    · rfl
    · rfl
    · rename_i h0 h1
      have hs : z_shK r.1 j = 2 ∨ z_shK r.1 j = 3 := by
        rcases z_kd (List.mem_range.mp hj) with h | h | h | h
        · exact absurd h h0
        · exact absurd h h1
        · exact Or.inl h
        · exact Or.inr h
      rw [z_rv_eq hrv hn hs]
  unfold z_bd
  split
  · rw [e1]
  · rfl
  · rename_i h5
    have h6 : (fun j => if j < z_aN r.1 r.2 then z_op α (z_re true S r.1 r.2 j) else none) = (fun j => if j < z_aN r.1 r.2 then z_op α (z_re false S r.1 r.2 j) else none) := by
      funext j
      by_cases hj : j < z_aN r.1 r.2
      · rw [if_pos hj, if_pos hj, z_re_eq hre hn h5 hj]
      · rw [if_neg hj, if_neg hj]
    rw [h6]
  · rfl
/-- the law's own loop -/
def z_lrun (sc : z_Sc) (ex : z_Ex) : Nat → Nat → z_Lc → List z_AV → z_Mem → Option (Option z_AV × z_Mem)
  | 0, _, _, _, _ => none
  | n + 1, pc, la, sa, S => z_go true sc ex true zo_L_law zc_L_law (fun pc' la' sa' S' => z_lrun sc ex n pc' la' sa' S') (fun r S' => some (r, S')) 2000 pc la sa S
section ZLW
variable {p : Program} {l : Launch} {e : Env} {R : Room} {s : State} {m : MethodId} {args : Array Value} {below : List Frame} {meth : Method} {c : Code} {Q : State → Prop}
variable {D : va_G} {A : Nat → Prop} {md : Bool} {sc : z_Sc} {α0 : Nat × Nat → Nat} {n0 n1 nL o : Nat} {ini : Bool} {cc : ByteArray}
theorem z_lrun_ok {res : Option z_AV × z_Mem} {ex : z_Ex} {d : Nat} {ret2 : Option FieldType} (C0 : z_Ct p R s m args meth c cc nL o ini n0 n1) (hRd : d + 1 ≤ R.frames ∧ 100 * (d + 1) ≤ R.locals)
    (hops : z_ops cc o nL ini ret2 true zo_L_law) (hex : ∀ j as S r S', ex j as S = some (r, S') → z_Ctr l d true j as S r S')
    (hKr : ∀ pc la, z_rok cc pc ret2 res.1 → z_gw p l e R s m args below meth c Q D A true sc α0 n0 n1 nL pc la res.1.toList res.2) : ∀ (n pc : Nat) (la : z_Lc) (sa : List z_AV) (S : z_Mem), z_lrun sc ex n pc la sa S = some res → z_gw p l e R s m args below meth c Q D A true sc α0 n0 n1 nL pc la sa S := by
  intro n
  induction n with
  | zero => intro pc la sa S h; cases h
  | succ n ih =>
    intro pc la sa S h
    unfold z_lrun at h
    refine z_go_ok C0 hRd hops hex ih (fun pc la r S hr hk => ?_) _ _ _ _ _ h
    have e1 : (r, S) = res := Option.some.inj hr
    subst e1
    exact hKr pc la hk
end ZLW
theorem z_known {s : State} {args : Array Value} (hts : ∀ w ∈ lw_tbl, w.before args s = true) : ∃ D : va_G, va_K D vwCl [] s := by
  have h : ∀ k : Nat, ∃ q : ClassId × (Nat → Nat), ∀ (C : String) (T : u_T) (N : Nat), vwCl[k]? = some (C, T, N) → u_Kn s C T N q.1 q.2 := by
    intro k
    cases hz : vwCl[k]? with
    | none => exact ⟨(0, fun _ => 0), fun C T N e => by cases e⟩
    | some q =>
      obtain ⟨C, T, N⟩ := q
      have hk : k < 12 := (List.getElem?_eq_some_iff.mp hz).1
      obtain ⟨h1, -, -, hN, -, hC, -⟩ := z_cf _ _ _ _ hz
      have h2 := z_it_in (k + 1) (by unfold z_it z_it_0; simp; omega)
      unfold z_itw at h2
      rw [← hC] at h2
      obtain ⟨cC, iS, h3⟩ := u_known (C := C) (T := T) (N := N) hts (fun w hw => (h1 w hw).1) (hts _ h2.1)
      exact ⟨(cC, iS), fun C2 T2 N2 e => by cases e; exact h3⟩
  refine ⟨(fun k => (Classical.choose (h k)).1, fun k => (Classical.choose (h k)).2), fun k q hq => ?_, fun k q hq => by simp at hq⟩
  obtain ⟨C, T, N⟩ := q
  exact Classical.choose_spec (h k) C T N hq
theorem z_sz176 : z_sz 176 ≤ 7302250 := Nat.le_of_ble_eq_true (by decide +kernel)
theorem z_all_ch {β : Type} {f : β → Bool} : ∀ (n : Nat) (l : List β), (∀ k, k < n → ((l.drop (50 * k)).take 50).all f = true) → l.length ≤ 50 * n → l.all f = true
  | 0, l, _, hl => by
    cases l with
    | nil => rfl
    | cons a r => simp at hl
  | n + 1, l, h, hl => by
    rw [← List.take_append_drop 50 l, List.all_append, Bool.and_eq_true]
    refine ⟨h 0 (Nat.succ_pos n), z_all_ch n _ (fun k hk => ?_) (by rw [List.length_drop]; omega)⟩
    rw [List.drop_drop]
    have h1 := h (k + 1) (by omega)
    rw [show 50 * (k + 1) = 50 + 50 * k by omega] at h1
    exact h1
end
section
/-! ===== the law's own instructions ===== -/
set_option maxRecDepth 100000 in
theorem zl_0 : ((zo_L_law.drop (50 * 0)).take 50).all (z_okb code 16 4 false ret true) = true := by decide +kernel
set_option maxRecDepth 100000 in
theorem zl_1 : ((zo_L_law.drop (50 * 1)).take 50).all (z_okb code 16 4 false ret true) = true := by decide +kernel
set_option maxRecDepth 100000 in
theorem zl_2 : ((zo_L_law.drop (50 * 2)).take 50).all (z_okb code 16 4 false ret true) = true := by decide +kernel
set_option maxRecDepth 100000 in
theorem zl_3 : ((zo_L_law.drop (50 * 3)).take 50).all (z_okb code 16 4 false ret true) = true := by decide +kernel
set_option maxRecDepth 100000 in
theorem zl_4 : ((zo_L_law.drop (50 * 4)).take 50).all (z_okb code 16 4 false ret true) = true := by decide +kernel
set_option maxRecDepth 100000 in
theorem zl_5 : ((zo_L_law.drop (50 * 5)).take 50).all (z_okb code 16 4 false ret true) = true := by decide +kernel
set_option maxRecDepth 100000 in
theorem zl_6 : ((zo_L_law.drop (50 * 6)).take 50).all (z_okb code 16 4 false ret true) = true := by decide +kernel
set_option maxRecDepth 100000 in
theorem zl_7 : ((zo_L_law.drop (50 * 7)).take 50).all (z_okb code 16 4 false ret true) = true := by decide +kernel
set_option maxRecDepth 100000 in
theorem zl_8 : ((zo_L_law.drop (50 * 8)).take 50).all (z_okb code 16 4 false ret true) = true := by decide +kernel
set_option maxRecDepth 100000 in
theorem zl_9 : ((zo_L_law.drop (50 * 9)).take 50).all (z_okb code 16 4 false ret true) = true := by decide +kernel
set_option maxRecDepth 100000 in
theorem zl_10 : ((zo_L_law.drop (50 * 10)).take 50).all (z_okb code 16 4 false ret true) = true := by decide +kernel
set_option maxRecDepth 100000 in
theorem zl_11 : ((zo_L_law.drop (50 * 11)).take 50).all (z_okb code 16 4 false ret true) = true := by decide +kernel
set_option maxRecDepth 100000 in
theorem zl_12 : ((zo_L_law.drop (50 * 12)).take 50).all (z_okb code 16 4 false ret true) = true := by decide +kernel
set_option maxRecDepth 100000 in
theorem zl_13 : ((zo_L_law.drop (50 * 13)).take 50).all (z_okb code 16 4 false ret true) = true := by decide +kernel
set_option maxRecDepth 100000 in
theorem zl_14 : ((zo_L_law.drop (50 * 14)).take 50).all (z_okb code 16 4 false ret true) = true := by decide +kernel
set_option maxRecDepth 100000 in
theorem zl_15 : ((zo_L_law.drop (50 * 15)).take 50).all (z_okb code 16 4 false ret true) = true := by decide +kernel
set_option maxRecDepth 100000 in
theorem zl_16 : ((zo_L_law.drop (50 * 16)).take 50).all (z_okb code 16 4 false ret true) = true := by decide +kernel
set_option maxRecDepth 100000 in
theorem zl_17 : ((zo_L_law.drop (50 * 17)).take 50).all (z_okb code 16 4 false ret true) = true := by decide +kernel
set_option maxRecDepth 100000 in
theorem zl_18 : ((zo_L_law.drop (50 * 18)).take 50).all (z_okb code 16 4 false ret true) = true := by decide +kernel
set_option maxRecDepth 100000 in
theorem zl_19 : ((zo_L_law.drop (50 * 19)).take 50).all (z_okb code 16 4 false ret true) = true := by decide +kernel
set_option maxRecDepth 100000 in
theorem zl_20 : ((zo_L_law.drop (50 * 20)).take 50).all (z_okb code 16 4 false ret true) = true := by decide +kernel
theorem zl_all : z_ops code 16 4 false ret true zo_L_law := z_okl (z_all_ch 21 _ (fun k hk => by
  match k, hk with
  | 0, _ => exact zl_0
  | 1, _ => exact zl_1
  | 2, _ => exact zl_2
  | 3, _ => exact zl_3
  | 4, _ => exact zl_4
  | 5, _ => exact zl_5
  | 6, _ => exact zl_6
  | 7, _ => exact zl_7
  | 8, _ => exact zl_8
  | 9, _ => exact zl_9
  | 10, _ => exact zl_10
  | 11, _ => exact zl_11
  | 12, _ => exact zl_12
  | 13, _ => exact zl_13
  | 14, _ => exact zl_14
  | 15, _ => exact zl_15
  | 16, _ => exact zl_16
  | 17, _ => exact zl_17
  | 18, _ => exact zl_18
  | 19, _ => exact zl_19
  | 20, _ => exact zl_20
  | k + 21, hk => omega) (by decide +kernel))
def z_nsw (q : Nat × (Nat × (Nat × (Nat × (Nat × (Nat × Nat)))))) : Cond := .methodLinkNest (z_on q.1) q.2.1 (z_yn q.2.2.1) (z_on q.1)
theorem z_nsw_ok : z_nst.map z_nsw = z_pk [(1, 56), (1, 129), (1, 160), (2, 43)] := rfl
def z_alw (a : Nat) : Cond := .arrayOver (.object (z_cn a))
theorem z_alw_ok : z_al.map z_alw = z_pk [(1, 199), (1, 51), (1, 53)] := rfl
theorem z_nw_of {s : State} {args : Array Value} (hts : ∀ w ∈ lw_tbl, w.before args s = true) : z_NW s := by
  refine ⟨fun q hq => va_Nw.of rfl (hts _ ?_), fun q hq => va_AO.of (hts _ ?_)⟩
  · exact z_pk_in (ps := [(1, 56), (1, 129), (1, 160), (2, 43)]) (by rw [← z_nsw_ok]; exact List.mem_map_of_mem (f := z_nsw) hq)
  · exact z_pk_in (ps := [(1, 199), (1, 51), (1, 53)]) (by rw [← z_alw_ok]; exact List.mem_map_of_mem (f := z_alw) hq)
end
section
/-! THE CLAIM OUT OF ONE WALK OF THE LAW'S BODY. Your part is whole_start (and what it stands on); all else here is the same for every law, but numbers. -/
def R_law : String := "BootsStoveLaw"
def lw_P (b : Addr) (xs : List Int32) (args : Array Value) (s : State) : Prop := args = #[.ref b] ∧ s.IntsAt b xs ∧ xs.length ≤ 3072 ∧ (Jvm.Cond.and given_1 narrow_1).before args s = true
def lw_Q (_ : Array Value) (s : State) (o : Outcome) (t : State) : Prop := o = .returned (some (.int 1)) ∧ Framed s o t [] 600000 7302250
def lw_Z (below : List Frame) (a : Array Value) (s : State) : State → Prop := fun t => ∃ o, t.status = .running ∧ Ended t below o ∧ lw_Q a s o t
/-- the law's own end, with 1 on the stack, nothing written that was there before, its room as the claim has it -/
theorem lw_ret {p : Program} {l : Launch} {e : Env} {s : State} {m : MethodId} {below : List Frame} {meth : Method} {c : Code} {b : Nat} (hx : p.tables.exec = Jvm.exec) (hb : c.code = code) (hr : meth.sig.returnType = ret) (hlocks : meth.locks = false) {pc : Nat} {H : Heap} {ls : Array Slot} (hdg : decode code pc = .ok (.ireturn, 1)) : W p l e room_1 s m #[Value.ref b] below meth c H [] 600000 7302250 (lw_Z below #[Value.ref b] s) (F0 m pc ls [.int 1]) := by
  intro T hT X
  obtain ⟨fs, hret, hrun, hended, hW, hframe⟩ := X.leave (v := some (.int 1)) (hlocks := hlocks) (fun h => by rw [hr] at h; cases h)
  have hmeth' : T.vm.method? m = some meth := X.method'
  refine ⟨T.setFrames fs, ?_, .returned (some (.int 1)), hrun, hended, rfl, ⟨_, rfl⟩, hW, hframe⟩
  jvm_step X.here [X.here.top, hx, hb, hdg, hmeth', hr, ret, narrow_b1]
  (try refine ⟨rfl, ?_⟩); (try refine ⟨rfl, ?_⟩)
  first | (intro acts; rw [hret _ acts rfl rfl rfl]) | rw [hret _ _ rfl rfl rfl]
  exact Steps.refl _
/-- what holds at the law's entry: the machine, the code, the tables' words (any of lw_tbl by 'hts w (by decide +kernel)'), the script of L ints xs at the cell b, what the Statement gives of the start (any of its parts by flat_of_before) -/
def lw_At (p : Program) (s : State) (m : MethodId) (meth : Method) (c : Code) (b L : Nat) (xs : Nat → Int32) : Prop :=
  p.tables.exec = Jvm.exec ∧ c.code = code ∧ meth.sig.returnType = ret ∧ c.maxLocals = 4 ∧ s.vm.findClass R_law = some m.cls ∧ (∀ w ∈ lw_tbl, w.before #[Value.ref b] s = true) ∧ va_X b L xs s s.heap ∧ b < s.heap.size ∧ meth.locks = false ∧ (Jvm.Cond.and given_1 narrow_1).before #[Value.ref b] s = true
/-- what is left: the abstract law answers 1 -/
def z_PURE : Prop := ∀ (L : Nat) (xs : Nat → Int32), L ≤ 3072 → ∃ (n : Nat) (S' : z_Mem), z_lrun (some (L, xs)) (z_exe z_mt true 20) n 18 z_la1 [] z_S1 = some (some (.inl 1), S') ∧ S'.2.2.2 = 176
theorem whole_start_open (hpure : z_PURE) {p : Program} {e : Env} {s : State} {m : MethodId} {below : List Frame} {meth : Method} {c : Code} (l : Launch) {b L : Nat} {xs : Nat → Int32} (hL : L ≤ 3072) (C0 : lw_At p s m meth c b L xs) : W p l e room_1 s m #[Value.ref b] below meth c s.heap [] 0 0 (lw_Z below #[Value.ref b] s) (entryFrame m ([Value.ref b] : List Value).toArray 4) := by
  obtain ⟨hx, hb, hr, hml, hown, hts, hX, hbl, hlocks, hgv⟩ := id C0
  obtain ⟨D, hK⟩ := z_known hts
  obtain ⟨n, S', hrun, hn'⟩ := hpure L xs hL
  have h176 : z_sz 176 - z_sz 0 ≤ 7302250 := Nat.le_trans (Nat.sub_le _ _) z_sz176
  have C1 : z_Ct p room_1 s m #[Value.ref b] meth c code 4 16 false 0 176 :=
    ⟨hx, hb, hml, hown, fun w hw => hts w (List.mem_filter.mp hw).1, z_nw_of hts, fun h => absurd h (by decide), ⟨Nat.le_of_ble_eq_true rfl, h176⟩, Nat.le_of_ble_eq_true rfl, Nat.le_of_ble_eq_true rfl⟩
  have hb0 : ¬ s.heap.size ≤ b := Nat.not_le.mpr hbl
  obtain ⟨r1, r2, r3, r4, -, -⟩ := z_R1_all
  unfold z_R1 at r1
  generalize z_S1 = S1 at r1 r2 r3 r4 hrun
  generalize z_la1 = la1 at r1 hrun
  have g2 : z_gw p l e room_1 s m #[Value.ref b] below meth c (lw_Z below #[Value.ref b] s) D (fun q => s.heap.size ≤ q) true (some (L, xs)) (fun _ => b) 0 176 4 18 la1 [] S1 := by
    refine z_lrun_ok (d := 20) (res := (some (.inl 1), S')) C1 ⟨Nat.le_of_ble_eq_true rfl, Nat.le_of_ble_eq_true rfl⟩ zl_all (z_exe_ok l true z_mt_k 20) (fun pc la hk => ?_) n 18 la1 [] S1 hrun
    obtain ⟨hd, -⟩ := hk
    refine ⟨Nat.le_of_eq hn', fun α cA ls H locs hR hl hv => ?_⟩
    obtain ⟨-, -, -, -, -, -, hS, -⟩ := hR
    refine va_forget hS.2.2 ?_
    refine W.widen (k := 600000) (n := 7302250) (by rw [hn']; exact Nat.le_of_ble_eq_true rfl) (by rw [hn']; exact h176) ?_
    exact lw_ret hx hb hr hlocks hd
  have g1 : z_gw p l e room_1 s m #[Value.ref b] below meth c (lw_Z below #[Value.ref b] s) D (fun q => s.heap.size ≤ q) false none (fun _ => b) 0 176 4 0 [some (.inr (.inr (90, 0))), none, none, none] [] z_S00 := by
    refine z_go_ok (ρ := z_R1T) (md := false) (sc := none) (ex := z_exe z_mt false 12) (ops := zo_L_law) (ret := ret) (d := 12) (K := z_K0) (Kr := fun _ _ => none) (res := (18, la1, [], S1)) (bo := true) (cuts := zc_L_law) C1 ⟨Nat.le_of_ble_eq_true rfl, Nat.le_of_ble_eq_true rfl⟩ zl_all (z_exe_ok l false z_mt_k 12) (fun pc la sa S hk => ?_) (fun pc la r S hk _ => by cases hk) 2000 0 [some (.inr (.inr (90, 0))), none, none, none] [] z_S00 r1
    have e1 : (pc, la, sa, S) = (18, la1, [], S1) := Option.some.inj hk
    rw [Prod.mk.injEq, Prod.mk.injEq, Prod.mk.injEq] at e1
    obtain ⟨e2, e4, e6, e7⟩ := e1
    rw [e2, e4, e6, e7]
    refine ⟨Nat.le_of_eq r2, fun α cA ls H locs hR hl hv => g2.2 α cA ls H locs ?_ hl hv⟩
    obtain ⟨h1, h2, h3, h4, h5, h6, h7, h8, -⟩ := hR
    have e90 : α (90, 0) = b := h2 (90, 0) (Or.inr (Or.inl rfl))
    exact ⟨h1, h2, z_mok_md r3 r4 h3, h4, by rw [z_ws_md r3 r4]; exact h5, by rw [z_ws_md r3 r4]; exact h6, h7, h8, by rw [e90]; exact ⟨hX, hbl, hb0⟩⟩
  have hl := lv_entry ([.ref b]) (n := 4) (Nat.le_of_ble_eq_true rfl)
  rw [lg_entry_eq]
  generalize (lg_sl ([.ref b]) ++ List.replicate (4 - (lg_sl ([.ref b])).length) Slot.unset).toArray = ls at hl ⊢
  have hl : lv_has ls 4 [(0, .ref b)] := hl
  have hP0 : va_P D vwCl (z_ws (fun _ => b) (fun _ => 0) false z_S00) s.heap := by
    intro k q h
    have h : ([] : va_W)[k]? = some q := h
    simp at h
  have hD0 : va_D (fun q : Nat => s.heap.size ≤ q) (z_ws (fun _ => b) (fun _ => 0) false z_S00) := by
    refine ⟨fun i j p q h => ?_, fun k q h => ?_⟩
    · have h : ([] : va_W)[i]? = some p := h
      simp at h
    · have h : ([] : va_W)[k]? = some q := h
      simp at h
  have k := g1.2 (fun _ => b) (fun _ => 0) ls s.heap [] ⟨⟨Nat.le_refl _, Nat.zero_le _⟩, fun _ _ => rfl, fun k r hk => absurd hk (Nat.not_lt_zero k), ⟨[], hK, fun k r hk => absurd hk (Nat.not_lt_zero k)⟩, hP0, hD0, va_S.rf, fun _ h => h, trivial⟩ ⟨rfl, hl.1, hl.2.1, fun i v hi => ?_⟩ ⟨fun v hv => absurd hv List.not_mem_nil, fun v hv => ?_⟩
  · exact k
  · match i, hi with
    | 0, hi =>
      have e1 : (Sum.inr (Sum.inr (90, 0)) : z_AV) = v := Option.some.inj (Option.some.inj hi)
      subst e1
      exact hl.2.2 (0, .ref b) List.mem_cons_self
    | 1, hi => cases hi
    | 2, hi => cases hi
    | 3, hi => cases hi
    | k + 4, hi => cases hi
  · have hv : some v = some (.inr (.inr (90, 0))) ∨ some v ∈ [(none : Option z_AV), none, none] := List.mem_cons.mp hv
    rcases hv with h | h
    · have e1 : v = .inr (.inr (90, 0)) := Option.some.inj h
      subst e1
      exact Or.inr (Or.inl rfl)
    · simp at h
end
section
/-- a call of a method of the table, once -/
theorem z_exe_eq {mt : List z_Mt} {md : Bool} {d j : Nat} {as : List z_AV} {S : z_Mem} {q : z_Mt} (hq : mt[j]? = some q) (hl : Nat.beq (z_ent q.2.2.1 as).length q.2.2.1 = true) :
    z_exe mt md (d + 1) j as S = z_run md (z_exe mt md d) q.2.2.2.2.1 q.2.2.2.2.2.1 q.2.2.2.2.2.2.1 (999999 + 1) 0 (z_ent q.2.2.1 as) [] S := by
  have e : z_exe mt md (d + 1) j as S = (match mt[j]? with
    | none => none
    | some q => cond (Nat.beq (z_ent q.2.2.1 as).length q.2.2.1) (z_run md (z_exe mt md d) q.2.2.2.2.1 q.2.2.2.2.2.1 q.2.2.2.2.2.2.1 1000000 0 (z_ent q.2.2.1 as) [] S) none) := rfl
  rw [e, hq]
  show cond _ _ none = _
  rw [hl]
  rfl
end
section
abbrev zr_X0_forget (ex : z_Ex) (n pc : Nat) (ls : z_Lc) (st : List z_AV) (S : z_Mem) : Option (Option z_AV × z_Mem) := z_run true ex false zo_X0_forget zc_X0_forget n pc ls st S
set_option maxRecDepth 100000 in
set_option maxHeartbeats 4000000 in
theorem ze_X0_forget_0 (ex : z_Ex) (n : Nat) (S : z_Mem) (i0 : Nat) : zr_X0_forget ex (n + 1) 0 [some (.inr (.inr (1, i0)))] [] S =
 let S1 : z_Mem := z_sI S 1 i0 1 (0 : Int32)
 some (none, S1) := rfl
theorem zx_X0_forget (d : Nat) (S : z_Mem) (i0 : Nat) : z_exe z_mt true (d + 1) 1 [.inr (.inr (1, i0))] S = zr_X0_forget (z_exe z_mt true d) (999999 + 1) 0 [some (.inr (.inr (1, i0)))] [] S := z_exe_eq (q := (yX0_forget, cX0_forget, 1, none, false, zo_X0_forget, zc_X0_forget, 1, 1)) rfl rfl
abbrev zr_X0_kept (ex : z_Ex) (n pc : Nat) (ls : z_Lc) (st : List z_AV) (S : z_Mem) : Option (Option z_AV × z_Mem) := z_run true ex false zo_X0_kept zc_X0_kept n pc ls st S
set_option maxRecDepth 100000 in
set_option maxHeartbeats 4000000 in
theorem ze_X0_kept_0 (ex : z_Ex) (n : Nat) (S : z_Mem) (i0 : Nat) : zr_X0_kept ex (n + 1) 0 [some (.inr (.inr (1, i0)))] [] S =
 some (some (.inl (if (20 : Int32) < (S.1 1 i0 1) then (20 : Int32) else (S.1 1 i0 1))), S) := rfl
theorem zx_X0_kept (d : Nat) (S : z_Mem) (i0 : Nat) : z_exe z_mt true (d + 1) 2 [.inr (.inr (1, i0))] S = zr_X0_kept (z_exe z_mt true d) (999999 + 1) 0 [some (.inr (.inr (1, i0)))] [] S := z_exe_eq (q := (yX0_kept, cX0_kept, 1, (some .int), false, zo_X0_kept, zc_X0_kept, 1, 1)) rfl rfl
abbrev zr_X0_run (ex : z_Ex) (n pc : Nat) (ls : z_Lc) (st : List z_AV) (S : z_Mem) : Option (Option z_AV × z_Mem) := z_run true ex false zo_X0_run zc_X0_run n pc ls st S
set_option maxRecDepth 100000 in
set_option maxHeartbeats 4000000 in
theorem ze_X0_run_0 (ex : z_Ex) (n : Nat) (S : z_Mem) (i0 : Nat) (i1 : Nat) (v2 : Int32) (v3 : Int32) : zr_X0_run ex (n + 1) 0 [some (.inr (.inr (1, i0))), some (.inr (.inr (2, i1))), some (.inl v2), some (.inl v3)] [] S =
 let S1 : z_Mem := z_sR S 1 i0 2 (2, i1)
 if v2 = (0 : Int32) then (
  z_rI (ex 5 [.inr (.inr (1, i0)), .inl (S1.1 2 (S1.2.2.1 1 i0 2).2 1), .inl v3] S1) (fun r3 S2 =>
  some (some (.inl r3), S2))) else
 if v2 = (1 : Int32) then (
  z_rI (ex 6 [.inr (.inr (1, i0)), .inl (S1.1 2 (S1.2.2.1 1 i0 2).2 1), .inl v3] S1) (fun r5 S4 =>
  some (some (.inl r5), S4))) else
 if v2 = (2 : Int32) then (
  z_rI (ex 7 [.inr (.inr (1, i0)), .inl (S1.1 2 (S1.2.2.1 1 i0 2).2 1), .inl v3] S1) (fun r7 S6 =>
  some (some (.inl r7), S6))) else
 some (some (.inl (0 : Int32)), S1) := rfl
theorem zx_X0_run (d : Nat) (S : z_Mem) (i0 : Nat) (i1 : Nat) (v2 : Int32) (v3 : Int32) : z_exe z_mt true (d + 1) 3 [.inr (.inr (1, i0)), .inr (.inr (2, i1)), .inl v2, .inl v3] S = zr_X0_run (z_exe z_mt true d) (999999 + 1) 0 [some (.inr (.inr (1, i0))), some (.inr (.inr (2, i1))), some (.inl v2), some (.inl v3)] [] S := z_exe_eq (q := (yX0_run, cX0_run, 4, (some .int), false, zo_X0_run, zc_X0_run, 1, 4)) rfl rfl
abbrev zr_X0_note (ex : z_Ex) (n pc : Nat) (ls : z_Lc) (st : List z_AV) (S : z_Mem) : Option (Option z_AV × z_Mem) := z_run true ex false zo_X0_note zc_X0_note n pc ls st S
set_option maxRecDepth 100000 in
set_option maxHeartbeats 4000000 in
theorem ze_X0_note_0 (ex : z_Ex) (n : Nat) (S : z_Mem) (i0 : Nat) (v1 : Int32) : zr_X0_note ex (n + 1) 0 [some (.inr (.inr (1, i0))), some (.inl v1)] [] S =
 if (20 : Int32) ≤ (S.1 1 i0 1) then (
  let S1 : z_Mem := z_sI S 1 i0 1 ((S.1 1 i0 1) + (1 : Int32))
  some (none, S1))
 else (
  cond (z_oob (S.1 1 i0 1) 20) none (
  let S2 : z_Mem := z_sI S 20 i0 (Int32.toNatClampNeg (S.1 1 i0 1)) v1
  let S3 : z_Mem := z_sI S2 1 i0 1 ((S2.1 1 i0 1) + (1 : Int32))
  some (none, S3))) := rfl
theorem zx_X0_note (d : Nat) (S : z_Mem) (i0 : Nat) (v1 : Int32) : z_exe z_mt true (d + 1) 4 [.inr (.inr (1, i0)), .inl v1] S = zr_X0_note (z_exe z_mt true d) (999999 + 1) 0 [some (.inr (.inr (1, i0))), some (.inl v1)] [] S := z_exe_eq (q := (yX0_note, cX0_note, 2, none, false, zo_X0_note, zc_X0_note, 1, 2)) rfl rfl
abbrev zr_X0_drips (ex : z_Ex) (n pc : Nat) (ls : z_Lc) (st : List z_AV) (S : z_Mem) : Option (Option z_AV × z_Mem) := z_run true ex false zo_X0_drips zc_X0_drips n pc ls st S
set_option maxRecDepth 100000 in
set_option maxHeartbeats 4000000 in
theorem ze_X0_drips_0 (ex : z_Ex) (n : Nat) (S : z_Mem) (i0 : Nat) (v1 : Int32) (v2 : Int32) : zr_X0_drips ex (n + 1) 0 [some (.inr (.inr (1, i0))), some (.inl v1), some (.inl v2)] [] S =
 if v1 = (0 : Int32) then (
  z_rV (ex 4 [.inr (.inr (1, i0)), .inl (10 : Int32)] S) (fun S1 =>
  some (some (.inl (v2 + (S1.1 2 (S1.2.2.1 1 i0 2).2 0))), S1))) else
 if v1 = (1 : Int32) then (
  z_rI (ex 41 [.inl v1] S) (fun r3 S2 =>
  z_rI (ex 5 [.inr (.inr (1, i0)), .inl r3, .inl v2] S2) (fun r5 S4 =>
  some (some (.inl r5), S4)))) else
 if v1 = (2 : Int32) then (
  z_rV (ex 4 [.inr (.inr (1, i0)), .inl (30 : Int32)] S) (fun S6 =>
  z_rI (ex 41 [.inl (2 : Int32)] S6) (fun r8 S7 =>
  z_rI (ex 5 [.inr (.inr (1, i0)), .inl r8, .inl (v2 * (3 : Int32))] S7) (fun r10 S9 =>
  some (some (.inl r10), S9))))) else
 if v1 = (3 : Int32) then (
  z_rI (ex 41 [.inl v1] S) (fun r12 S11 =>
end
