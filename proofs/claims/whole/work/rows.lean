section
-- ===== PART A: goes FIRST, ahead of the names: the tables' words, and 'selects' of the private methods out of them =====
/-- a private method of a class that the tables say can be made, by its rows of tables_1 -/
def lw_okq (q : MethodName × Nat) : Prop := (q.1.cls ≠ "java/lang/invoke/MethodHandle" ∧ q.1.cls ≠ "java/lang/invoke/VarHandle") ∧ Cond.instantiable q.1.cls q.2 ∈ tables_1 ∧ Cond.privateMethod q.1 ∈ tables_1 ∧ Cond.instanceMethod q.1 ∈ tables_1
theorem lw_p0 : lw_okq (⟨"PenSwings$Frame", "fade", "(I)V"⟩, 11) := ⟨⟨by decide +kernel, by decide +kernel⟩, List.mem_of_getElem? (i := 77) (by decide +kernel), List.mem_of_getElem? (i := 457) (by decide +kernel), List.mem_of_getElem? (i := 458) (by decide +kernel)⟩
theorem lw_p1 : lw_okq (⟨"PenSwings", "refuse", "(I)I"⟩, 17) := ⟨⟨by decide +kernel, by decide +kernel⟩, List.mem_of_getElem? (i := 26) (by decide +kernel), List.mem_of_getElem? (i := 474) (by decide +kernel), List.mem_of_getElem? (i := 475) (by decide +kernel)⟩
theorem lw_p2 : lw_okq (⟨"PenSwings", "needBytes", "(I)V"⟩, 17) := ⟨⟨by decide +kernel, by decide +kernel⟩, List.mem_of_getElem? (i := 26) (by decide +kernel), List.mem_of_getElem? (i := 524) (by decide +kernel), List.mem_of_getElem? (i := 525) (by decide +kernel)⟩
theorem lw_p3 : lw_okq (⟨"java/lang/Throwable", "fillInStackTrace", "(I)Ljava/lang/Throwable;"⟩, 6) := ⟨⟨by decide +kernel, by decide +kernel⟩, List.mem_of_getElem? (i := 565) (by decide +kernel), List.mem_of_getElem? (i := 563) (by decide +kernel), List.mem_of_getElem? (i := 564) (by decide +kernel)⟩
theorem lw_p4 : lw_okq (⟨"PenSwings", "endOfText", "()I"⟩, 17) := ⟨⟨by decide +kernel, by decide +kernel⟩, List.mem_of_getElem? (i := 26) (by decide +kernel), List.mem_of_getElem? (i := 743) (by decide +kernel), List.mem_of_getElem? (i := 744) (by decide +kernel)⟩
theorem lw_p5 : lw_okq (⟨"PenSwings$Score", "closeBlock", "(LPenSwings$Tape;)Z"⟩, 7) := ⟨⟨by decide +kernel, by decide +kernel⟩, List.mem_of_getElem? (i := 180) (by decide +kernel), List.mem_of_getElem? (i := 760) (by decide +kernel), List.mem_of_getElem? (i := 761) (by decide +kernel)⟩
theorem lw_p6 : lw_okq (⟨"PenSwings$Score", "addStep", "(I)Z"⟩, 7) := ⟨⟨by decide +kernel, by decide +kernel⟩, List.mem_of_getElem? (i := 180) (by decide +kernel), List.mem_of_getElem? (i := 767) (by decide +kernel), List.mem_of_getElem? (i := 768) (by decide +kernel)⟩
theorem lw_p7 : lw_okq (⟨"PenSwings$Score", "openBlock", "(LPenSwings$Tape;)Z"⟩, 7) := ⟨⟨by decide +kernel, by decide +kernel⟩, List.mem_of_getElem? (i := 180) (by decide +kernel), List.mem_of_getElem? (i := 772) (by decide +kernel), List.mem_of_getElem? (i := 773) (by decide +kernel)⟩
theorem lw_p8 : lw_okq (⟨"PenSwings$Score", "readAct", "(LPenSwings$Tape;)Z"⟩, 7) := ⟨⟨by decide +kernel, by decide +kernel⟩, List.mem_of_getElem? (i := 180) (by decide +kernel), List.mem_of_getElem? (i := 777) (by decide +kernel), List.mem_of_getElem? (i := 778) (by decide +kernel)⟩
theorem lw_p9 : lw_okq (⟨"PenSwings$Score", "readNumber", "(LPenSwings$Tape;II)Z"⟩, 7) := ⟨⟨by decide +kernel, by decide +kernel⟩, List.mem_of_getElem? (i := 180) (by decide +kernel), List.mem_of_getElem? (i := 791) (by decide +kernel), List.mem_of_getElem? (i := 792) (by decide +kernel)⟩
theorem lw_p10 : lw_okq (⟨"PenSwings$Score", "readChange", "(LPenSwings$Tape;I)Z"⟩, 7) := ⟨⟨by decide +kernel, by decide +kernel⟩, List.mem_of_getElem? (i := 180) (by decide +kernel), List.mem_of_getElem? (i := 796) (by decide +kernel), List.mem_of_getElem? (i := 797) (by decide +kernel)⟩
theorem lw_p11 : lw_okq (⟨"PenSwings$Score", "readTest", "(LPenSwings$Tape;)Z"⟩, 7) := ⟨⟨by decide +kernel, by decide +kernel⟩, List.mem_of_getElem? (i := 180) (by decide +kernel), List.mem_of_getElem? (i := 801) (by decide +kernel), List.mem_of_getElem? (i := 802) (by decide +kernel)⟩
theorem lw_p12 : lw_okq (⟨"PenSwings$Performance", "goesAside", "(LPenSwings$Score;I)Z"⟩, 9) := ⟨⟨by decide +kernel, by decide +kernel⟩, List.mem_of_getElem? (i := 214) (by decide +kernel), List.mem_of_getElem? (i := 847) (by decide +kernel), List.mem_of_getElem? (i := 848) (by decide +kernel)⟩
theorem lw_p13 : lw_okq (⟨"PenSwings$Performance", "draw", "(I)V"⟩, 9) := ⟨⟨by decide +kernel, by decide +kernel⟩, List.mem_of_getElem? (i := 214) (by decide +kernel), List.mem_of_getElem? (i := 851) (by decide +kernel), List.mem_of_getElem? (i := 852) (by decide +kernel)⟩
theorem lw_p14 : lw_okq (⟨"PenSwings$Performance", "mark", "(I)V"⟩, 9) := ⟨⟨by decide +kernel, by decide +kernel⟩, List.mem_of_getElem? (i := 214) (by decide +kernel), List.mem_of_getElem? (i := 870) (by decide +kernel), List.mem_of_getElem? (i := 871) (by decide +kernel)⟩
theorem lw_p15 : lw_okq (⟨"PenSwings$Performance", "lift", "(I)V"⟩, 9) := ⟨⟨by decide +kernel, by decide +kernel⟩, List.mem_of_getElem? (i := 214) (by decide +kernel), List.mem_of_getElem? (i := 877) (by decide +kernel), List.mem_of_getElem? (i := 878) (by decide +kernel)⟩
def lw_privs_1 : List (MethodName × Nat) := [(⟨"PenSwings$Frame", "fade", "(I)V"⟩, 11), (⟨"PenSwings", "refuse", "(I)I"⟩, 17), (⟨"PenSwings", "needBytes", "(I)V"⟩, 17), (⟨"java/lang/Throwable", "fillInStackTrace", "(I)Ljava/lang/Throwable;"⟩, 6), (⟨"PenSwings", "endOfText", "()I"⟩, 17), (⟨"PenSwings$Score", "closeBlock", "(LPenSwings$Tape;)Z"⟩, 7), (⟨"PenSwings$Score", "addStep", "(I)Z"⟩, 7), (⟨"PenSwings$Score", "openBlock", "(LPenSwings$Tape;)Z"⟩, 7), (⟨"PenSwings$Score", "readAct", "(LPenSwings$Tape;)Z"⟩, 7), (⟨"PenSwings$Score", "readNumber", "(LPenSwings$Tape;II)Z"⟩, 7), (⟨"PenSwings$Score", "readChange", "(LPenSwings$Tape;I)Z"⟩, 7), (⟨"PenSwings$Score", "readTest", "(LPenSwings$Tape;)Z"⟩, 7), (⟨"PenSwings$Performance", "goesAside", "(LPenSwings$Score;I)Z"⟩, 9), (⟨"PenSwings$Performance", "draw", "(I)V"⟩, 9), (⟨"PenSwings$Performance", "mark", "(I)V"⟩, 9), (⟨"PenSwings$Performance", "lift", "(I)V"⟩, 9)]
theorem lw_r1 : ∀ q ∈ lw_privs_1, lw_okq q := List.forall_mem_cons.mpr ⟨lw_p0, List.forall_mem_cons.mpr ⟨lw_p1, List.forall_mem_cons.mpr ⟨lw_p2, List.forall_mem_cons.mpr ⟨lw_p3, List.forall_mem_cons.mpr ⟨lw_p4, List.forall_mem_cons.mpr ⟨lw_p5, List.forall_mem_cons.mpr ⟨lw_p6, List.forall_mem_cons.mpr ⟨lw_p7, List.forall_mem_cons.mpr ⟨lw_p8, List.forall_mem_cons.mpr ⟨lw_p9, List.forall_mem_cons.mpr ⟨lw_p10, List.forall_mem_cons.mpr ⟨lw_p11, List.forall_mem_cons.mpr ⟨lw_p12, List.forall_mem_cons.mpr ⟨lw_p13, List.forall_mem_cons.mpr ⟨lw_p14, List.forall_mem_cons.mpr ⟨lw_p15, fun _ h => absurd h List.not_mem_nil⟩⟩⟩⟩⟩⟩⟩⟩⟩⟩⟩⟩⟩⟩⟩⟩
theorem lw_p16 : lw_okq (⟨"PenSwings$Performance", "alter", "(III)V"⟩, 9) := ⟨⟨by decide +kernel, by decide +kernel⟩, List.mem_of_getElem? (i := 214) (by decide +kernel), List.mem_of_getElem? (i := 881) (by decide +kernel), List.mem_of_getElem? (i := 882) (by decide +kernel)⟩
theorem lw_p17 : lw_okq (⟨"PenSwings$Performance", "holds", "(I)Z"⟩, 9) := ⟨⟨by decide +kernel, by decide +kernel⟩, List.mem_of_getElem? (i := 214) (by decide +kernel), List.mem_of_getElem? (i := 887) (by decide +kernel), List.mem_of_getElem? (i := 888) (by decide +kernel)⟩
theorem lw_p18 : lw_okq (⟨"PenSwings", "markSeen", "(LPenSwings$Frame;III)V"⟩, 17) := ⟨⟨by decide +kernel, by decide +kernel⟩, List.mem_of_getElem? (i := 26) (by decide +kernel), List.mem_of_getElem? (i := 966) (by decide +kernel), List.mem_of_getElem? (i := 967) (by decide +kernel)⟩
theorem lw_p19 : lw_okq (⟨"PenSwings", "cellsSeen", "(I)I"⟩, 17) := ⟨⟨by decide +kernel, by decide +kernel⟩, List.mem_of_getElem? (i := 26) (by decide +kernel), List.mem_of_getElem? (i := 976) (by decide +kernel), List.mem_of_getElem? (i := 977) (by decide +kernel)⟩
theorem lw_p20 : lw_okq (⟨"PenSwings", "needPortrait", "(I)V"⟩, 17) := ⟨⟨by decide +kernel, by decide +kernel⟩, List.mem_of_getElem? (i := 26) (by decide +kernel), List.mem_of_getElem? (i := 994) (by decide +kernel), List.mem_of_getElem? (i := 995) (by decide +kernel)⟩
theorem lw_p21 : lw_okq (⟨"PenSwings", "takeInto", "(ILPenSwings$Frame;)V"⟩, 17) := ⟨⟨by decide +kernel, by decide +kernel⟩, List.mem_of_getElem? (i := 26) (by decide +kernel), List.mem_of_getElem? (i := 999) (by decide +kernel), List.mem_of_getElem? (i := 1000) (by decide +kernel)⟩
theorem lw_p22 : lw_okq (⟨"PenSwings", "compare", "(II)I"⟩, 17) := ⟨⟨by decide +kernel, by decide +kernel⟩, List.mem_of_getElem? (i := 26) (by decide +kernel), List.mem_of_getElem? (i := 1010) (by decide +kernel), List.mem_of_getElem? (i := 1011) (by decide +kernel)⟩
theorem lw_p23 : lw_okq (⟨"PenSwings", "copyWith", "(ILPenSwings$Frame;)V"⟩, 17) := ⟨⟨by decide +kernel, by decide +kernel⟩, List.mem_of_getElem? (i := 26) (by decide +kernel), List.mem_of_getElem? (i := 1014) (by decide +kernel), List.mem_of_getElem? (i := 1015) (by decide +kernel)⟩
theorem lw_p24 : lw_okq (⟨"PenSwings$Likeness", "pair", "(I)V"⟩, 2) := ⟨⟨by decide +kernel, by decide +kernel⟩, List.mem_of_getElem? (i := 255) (by decide +kernel), List.mem_of_getElem? (i := 1022) (by decide +kernel), List.mem_of_getElem? (i := 1023) (by decide +kernel)⟩
theorem lw_p25 : lw_okq (⟨"PenSwings$Likeness", "agree", "(LPenSwings$Frame;LPenSwings$Frame;)Z"⟩, 2) := ⟨⟨by decide +kernel, by decide +kernel⟩, List.mem_of_getElem? (i := 255) (by decide +kernel), List.mem_of_getElem? (i := 1026) (by decide +kernel), List.mem_of_getElem? (i := 1027) (by decide +kernel)⟩
theorem lw_p26 : lw_okq (⟨"PenSwings$Likeness", "meet", "(LPenSwings$Frame;LPenSwings$Frame;)Z"⟩, 2) := ⟨⟨by decide +kernel, by decide +kernel⟩, List.mem_of_getElem? (i := 255) (by decide +kernel), List.mem_of_getElem? (i := 1031) (by decide +kernel), List.mem_of_getElem? (i := 1032) (by decide +kernel)⟩
theorem lw_p27 : lw_okq (⟨"PenSwings$Likeness", "findTimes", "(LPenSwings$Frame;LPenSwings$Frame;I)Z"⟩, 2) := ⟨⟨by decide +kernel, by decide +kernel⟩, List.mem_of_getElem? (i := 255) (by decide +kernel), List.mem_of_getElem? (i := 1035) (by decide +kernel), List.mem_of_getElem? (i := 1036) (by decide +kernel)⟩
theorem lw_p28 : lw_okq (⟨"PenSwings$Likeness", "oneTimeForAll", "(LPenSwings$Frame;)Z"⟩, 2) := ⟨⟨by decide +kernel, by decide +kernel⟩, List.mem_of_getElem? (i := 255) (by decide +kernel), List.mem_of_getElem? (i := 1042) (by decide +kernel), List.mem_of_getElem? (i := 1043) (by decide +kernel)⟩
theorem lw_p29 : lw_okq (⟨"PenSwings", "leastOfKind", "(I)I"⟩, 17) := ⟨⟨by decide +kernel, by decide +kernel⟩, List.mem_of_getElem? (i := 26) (by decide +kernel), List.mem_of_getElem? (i := 1054) (by decide +kernel), List.mem_of_getElem? (i := 1055) (by decide +kernel)⟩
theorem lw_p30 : lw_okq (⟨"PenSwings$Fitting", "findPlaces", "(LPenSwings$Frame;LPenSwings$Holdings;I)V"⟩, 11) := ⟨⟨by decide +kernel, by decide +kernel⟩, List.mem_of_getElem? (i := 268) (by decide +kernel), List.mem_of_getElem? (i := 1073) (by decide +kernel), List.mem_of_getElem? (i := 1074) (by decide +kernel)⟩
theorem lw_p31 : lw_okq (⟨"PenSwings$Fitting", "findOffs", "(LPenSwings$Frame;LPenSwings$Holdings;II)V"⟩, 11) := ⟨⟨by decide +kernel, by decide +kernel⟩, List.mem_of_getElem? (i := 268) (by decide +kernel), List.mem_of_getElem? (i := 1081) (by decide +kernel), List.mem_of_getElem? (i := 1082) (by decide +kernel)⟩
def lw_privs_2 : List (MethodName × Nat) := [(⟨"PenSwings$Performance", "alter", "(III)V"⟩, 9), (⟨"PenSwings$Performance", "holds", "(I)Z"⟩, 9), (⟨"PenSwings", "markSeen", "(LPenSwings$Frame;III)V"⟩, 17), (⟨"PenSwings", "cellsSeen", "(I)I"⟩, 17), (⟨"PenSwings", "needPortrait", "(I)V"⟩, 17), (⟨"PenSwings", "takeInto", "(ILPenSwings$Frame;)V"⟩, 17), (⟨"PenSwings", "compare", "(II)I"⟩, 17), (⟨"PenSwings", "copyWith", "(ILPenSwings$Frame;)V"⟩, 17), (⟨"PenSwings$Likeness", "pair", "(I)V"⟩, 2), (⟨"PenSwings$Likeness", "agree", "(LPenSwings$Frame;LPenSwings$Frame;)Z"⟩, 2), (⟨"PenSwings$Likeness", "meet", "(LPenSwings$Frame;LPenSwings$Frame;)Z"⟩, 2), (⟨"PenSwings$Likeness", "findTimes", "(LPenSwings$Frame;LPenSwings$Frame;I)Z"⟩, 2), (⟨"PenSwings$Likeness", "oneTimeForAll", "(LPenSwings$Frame;)Z"⟩, 2), (⟨"PenSwings", "leastOfKind", "(I)I"⟩, 17), (⟨"PenSwings$Fitting", "findPlaces", "(LPenSwings$Frame;LPenSwings$Holdings;I)V"⟩, 11), (⟨"PenSwings$Fitting", "findOffs", "(LPenSwings$Frame;LPenSwings$Holdings;II)V"⟩, 11)]
theorem lw_r2 : ∀ q ∈ lw_privs_2, lw_okq q := List.forall_mem_cons.mpr ⟨lw_p16, List.forall_mem_cons.mpr ⟨lw_p17, List.forall_mem_cons.mpr ⟨lw_p18, List.forall_mem_cons.mpr ⟨lw_p19, List.forall_mem_cons.mpr ⟨lw_p20, List.forall_mem_cons.mpr ⟨lw_p21, List.forall_mem_cons.mpr ⟨lw_p22, List.forall_mem_cons.mpr ⟨lw_p23, List.forall_mem_cons.mpr ⟨lw_p24, List.forall_mem_cons.mpr ⟨lw_p25, List.forall_mem_cons.mpr ⟨lw_p26, List.forall_mem_cons.mpr ⟨lw_p27, List.forall_mem_cons.mpr ⟨lw_p28, List.forall_mem_cons.mpr ⟨lw_p29, List.forall_mem_cons.mpr ⟨lw_p30, List.forall_mem_cons.mpr ⟨lw_p31, fun _ h => absurd h List.not_mem_nil⟩⟩⟩⟩⟩⟩⟩⟩⟩⟩⟩⟩⟩⟩⟩⟩
theorem lw_p32 : lw_okq (⟨"PenSwings$Fitting", "weighAll", "(IIII)V"⟩, 11) := ⟨⟨by decide +kernel, by decide +kernel⟩, List.mem_of_getElem? (i := 268) (by decide +kernel), List.mem_of_getElem? (i := 1090) (by decide +kernel), List.mem_of_getElem? (i := 1091) (by decide +kernel)⟩
theorem lw_p33 : lw_okq (⟨"PenSwings$Fitting", "weigh", "(IIII)V"⟩, 11) := ⟨⟨by decide +kernel, by decide +kernel⟩, List.mem_of_getElem? (i := 268) (by decide +kernel), List.mem_of_getElem? (i := 1094) (by decide +kernel), List.mem_of_getElem? (i := 1095) (by decide +kernel)⟩
theorem lw_p34 : lw_okq (⟨"PenSwings$Fitting", "tryCart", "(ILPenSwings$Holdings;)V"⟩, 11) := ⟨⟨by decide +kernel, by decide +kernel⟩, List.mem_of_getElem? (i := 268) (by decide +kernel), List.mem_of_getElem? (i := 1120) (by decide +kernel), List.mem_of_getElem? (i := 1121) (by decide +kernel)⟩
theorem lw_p35 : lw_okq (⟨"PenSwings$Fitting", "modelOf", "(ILPenSwings$Holdings;)I"⟩, 11) := ⟨⟨by decide +kernel, by decide +kernel⟩, List.mem_of_getElem? (i := 268) (by decide +kernel), List.mem_of_getElem? (i := 1124) (by decide +kernel), List.mem_of_getElem? (i := 1125) (by decide +kernel)⟩
theorem lw_p36 : lw_okq (⟨"PenSwings$Fitting", "isStill", "(I)Z"⟩, 11) := ⟨⟨by decide +kernel, by decide +kernel⟩, List.mem_of_getElem? (i := 268) (by decide +kernel), List.mem_of_getElem? (i := 1128) (by decide +kernel), List.mem_of_getElem? (i := 1129) (by decide +kernel)⟩
theorem lw_p37 : lw_okq (⟨"PenSwings$Fitting", "isCartsWay", "(I)Z"⟩, 11) := ⟨⟨by decide +kernel, by decide +kernel⟩, List.mem_of_getElem? (i := 268) (by decide +kernel), List.mem_of_getElem? (i := 1132) (by decide +kernel), List.mem_of_getElem? (i := 1133) (by decide +kernel)⟩
theorem lw_p38 : lw_okq (⟨"PenSwings$Parish", "fewestUnlike", "(LPenSwings$Holdings;I)I"⟩, 3) := ⟨⟨by decide +kernel, by decide +kernel⟩, List.mem_of_getElem? (i := 344) (by decide +kernel), List.mem_of_getElem? (i := 1147) (by decide +kernel), List.mem_of_getElem? (i := 1148) (by decide +kernel)⟩
theorem lw_p39 : lw_okq (⟨"PenSwings", "markPortrait", "(IIII)V"⟩, 17) := ⟨⟨by decide +kernel, by decide +kernel⟩, List.mem_of_getElem? (i := 26) (by decide +kernel), List.mem_of_getElem? (i := 1163) (by decide +kernel), List.mem_of_getElem? (i := 1164) (by decide +kernel)⟩
theorem lw_p40 : lw_okq (⟨"PenSwings$Evening", "measure", "(LPenSwings$Holdings;[I)V"⟩, 6) := ⟨⟨by decide +kernel, by decide +kernel⟩, List.mem_of_getElem? (i := 316) (by decide +kernel), List.mem_of_getElem? (i := 1178) (by decide +kernel), List.mem_of_getElem? (i := 1179) (by decide +kernel)⟩
theorem lw_p41 : lw_okq (⟨"PenSwings$Evening", "weigh", "(II)V"⟩, 6) := ⟨⟨by decide +kernel, by decide +kernel⟩, List.mem_of_getElem? (i := 316) (by decide +kernel), List.mem_of_getElem? (i := 1192) (by decide +kernel), List.mem_of_getElem? (i := 1193) (by decide +kernel)⟩
theorem lw_p42 : lw_okq (⟨"PenSwings$Evening", "choose", "(I)I"⟩, 6) := ⟨⟨by decide +kernel, by decide +kernel⟩, List.mem_of_getElem? (i := 316) (by decide +kernel), List.mem_of_getElem? (i := 1201) (by decide +kernel), List.mem_of_getElem? (i := 1202) (by decide +kernel)⟩
theorem lw_p43 : lw_okq (⟨"PenSwings$Evening", "through", "(IIIII)I"⟩, 6) := ⟨⟨by decide +kernel, by decide +kernel⟩, List.mem_of_getElem? (i := 316) (by decide +kernel), List.mem_of_getElem? (i := 1205) (by decide +kernel), List.mem_of_getElem? (i := 1206) (by decide +kernel)⟩
theorem lw_p44 : lw_okq (⟨"PenSwings$Evening", "withTea", "(IIII)I"⟩, 6) := ⟨⟨by decide +kernel, by decide +kernel⟩, List.mem_of_getElem? (i := 316) (by decide +kernel), List.mem_of_getElem? (i := 1209) (by decide +kernel), List.mem_of_getElem? (i := 1210) (by decide +kernel)⟩
theorem lw_p45 : lw_okq (⟨"PenSwings$Evening", "soonestTea", "(I)I"⟩, 6) := ⟨⟨by decide +kernel, by decide +kernel⟩, List.mem_of_getElem? (i := 316) (by decide +kernel), List.mem_of_getElem? (i := 1213) (by decide +kernel), List.mem_of_getElem? (i := 1214) (by decide +kernel)⟩
theorem lw_p46 : lw_okq (⟨"PenSwings$Evening", "costWithTea", "(I)I"⟩, 6) := ⟨⟨by decide +kernel, by decide +kernel⟩, List.mem_of_getElem? (i := 316) (by decide +kernel), List.mem_of_getElem? (i := 1217) (by decide +kernel), List.mem_of_getElem? (i := 1218) (by decide +kernel)⟩
theorem lw_p47 : lw_okq (⟨"PenSwingsModel", "lays", "(I)V"⟩, 61) := ⟨⟨by decide +kernel, by decide +kernel⟩, List.mem_of_getElem? (i := 1229) (by decide +kernel), List.mem_of_getElem? (i := 1427) (by decide +kernel), List.mem_of_getElem? (i := 1428) (by decide +kernel)⟩
def lw_privs_3 : List (MethodName × Nat) := [(⟨"PenSwings$Fitting", "weighAll", "(IIII)V"⟩, 11), (⟨"PenSwings$Fitting", "weigh", "(IIII)V"⟩, 11), (⟨"PenSwings$Fitting", "tryCart", "(ILPenSwings$Holdings;)V"⟩, 11), (⟨"PenSwings$Fitting", "modelOf", "(ILPenSwings$Holdings;)I"⟩, 11), (⟨"PenSwings$Fitting", "isStill", "(I)Z"⟩, 11), (⟨"PenSwings$Fitting", "isCartsWay", "(I)Z"⟩, 11), (⟨"PenSwings$Parish", "fewestUnlike", "(LPenSwings$Holdings;I)I"⟩, 3), (⟨"PenSwings", "markPortrait", "(IIII)V"⟩, 17), (⟨"PenSwings$Evening", "measure", "(LPenSwings$Holdings;[I)V"⟩, 6), (⟨"PenSwings$Evening", "weigh", "(II)V"⟩, 6), (⟨"PenSwings$Evening", "choose", "(I)I"⟩, 6), (⟨"PenSwings$Evening", "through", "(IIIII)I"⟩, 6), (⟨"PenSwings$Evening", "withTea", "(IIII)I"⟩, 6), (⟨"PenSwings$Evening", "soonestTea", "(I)I"⟩, 6), (⟨"PenSwings$Evening", "costWithTea", "(I)I"⟩, 6), (⟨"PenSwingsModel", "lays", "(I)V"⟩, 61)]
theorem lw_r3 : ∀ q ∈ lw_privs_3, lw_okq q := List.forall_mem_cons.mpr ⟨lw_p32, List.forall_mem_cons.mpr ⟨lw_p33, List.forall_mem_cons.mpr ⟨lw_p34, List.forall_mem_cons.mpr ⟨lw_p35, List.forall_mem_cons.mpr ⟨lw_p36, List.forall_mem_cons.mpr ⟨lw_p37, List.forall_mem_cons.mpr ⟨lw_p38, List.forall_mem_cons.mpr ⟨lw_p39, List.forall_mem_cons.mpr ⟨lw_p40, List.forall_mem_cons.mpr ⟨lw_p41, List.forall_mem_cons.mpr ⟨lw_p42, List.forall_mem_cons.mpr ⟨lw_p43, List.forall_mem_cons.mpr ⟨lw_p44, List.forall_mem_cons.mpr ⟨lw_p45, List.forall_mem_cons.mpr ⟨lw_p46, List.forall_mem_cons.mpr ⟨lw_p47, fun _ h => absurd h List.not_mem_nil⟩⟩⟩⟩⟩⟩⟩⟩⟩⟩⟩⟩⟩⟩⟩⟩
theorem lw_p48 : lw_okq (⟨"PenSwingsModel", "right", "(ZI)Z"⟩, 61) := ⟨⟨by decide +kernel, by decide +kernel⟩, List.mem_of_getElem? (i := 1229) (by decide +kernel), List.mem_of_getElem? (i := 1435) (by decide +kernel), List.mem_of_getElem? (i := 1436) (by decide +kernel)⟩
theorem lw_p49 : lw_okq (⟨"PenSwingsModel", "steps", "()V"⟩, 61) := ⟨⟨by decide +kernel, by decide +kernel⟩, List.mem_of_getElem? (i := 1229) (by decide +kernel), List.mem_of_getElem? (i := 1439) (by decide +kernel), List.mem_of_getElem? (i := 1440) (by decide +kernel)⟩
theorem lw_p50 : lw_okq (⟨"PenSwingsModel", "byteAt", "(I)I"⟩, 61) := ⟨⟨by decide +kernel, by decide +kernel⟩, List.mem_of_getElem? (i := 1229) (by decide +kernel), List.mem_of_getElem? (i := 1443) (by decide +kernel), List.mem_of_getElem? (i := 1444) (by decide +kernel)⟩
theorem lw_p51 : lw_okq (⟨"PenSwingsModel", "isGood", "()Z"⟩, 61) := ⟨⟨by decide +kernel, by decide +kernel⟩, List.mem_of_getElem? (i := 1229) (by decide +kernel), List.mem_of_getElem? (i := 1453) (by decide +kernel), List.mem_of_getElem? (i := 1454) (by decide +kernel)⟩
theorem lw_p52 : lw_okq (⟨"PenSwingsModel", "line", "()V"⟩, 61) := ⟨⟨by decide +kernel, by decide +kernel⟩, List.mem_of_getElem? (i := 1229) (by decide +kernel), List.mem_of_getElem? (i := 1457) (by decide +kernel), List.mem_of_getElem? (i := 1458) (by decide +kernel)⟩
theorem lw_p53 : lw_okq (⟨"PenSwingsModel", "is", "(I)Z"⟩, 61) := ⟨⟨by decide +kernel, by decide +kernel⟩, List.mem_of_getElem? (i := 1229) (by decide +kernel), List.mem_of_getElem? (i := 1461) (by decide +kernel), List.mem_of_getElem? (i := 1462) (by decide +kernel)⟩
theorem lw_p54 : lw_okq (⟨"PenSwingsModel", "readsPendulum", "()V"⟩, 61) := ⟨⟨by decide +kernel, by decide +kernel⟩, List.mem_of_getElem? (i := 1229) (by decide +kernel), List.mem_of_getElem? (i := 1472) (by decide +kernel), List.mem_of_getElem? (i := 1473) (by decide +kernel)⟩
theorem lw_p55 : lw_okq (⟨"PenSwingsModel", "wrong", "(I)V"⟩, 61) := ⟨⟨by decide +kernel, by decide +kernel⟩, List.mem_of_getElem? (i := 1229) (by decide +kernel), List.mem_of_getElem? (i := 1476) (by decide +kernel), List.mem_of_getElem? (i := 1477) (by decide +kernel)⟩
theorem lw_p56 : lw_okq (⟨"PenSwingsModel", "need", "(Z)V"⟩, 61) := ⟨⟨by decide +kernel, by decide +kernel⟩, List.mem_of_getElem? (i := 1229) (by decide +kernel), List.mem_of_getElem? (i := 1480) (by decide +kernel), List.mem_of_getElem? (i := 1481) (by decide +kernel)⟩
theorem lw_p57 : lw_okq (⟨"PenSwingsModel", "number", "(II)I"⟩, 61) := ⟨⟨by decide +kernel, by decide +kernel⟩, List.mem_of_getElem? (i := 1229) (by decide +kernel), List.mem_of_getElem? (i := 1484) (by decide +kernel), List.mem_of_getElem? (i := 1485) (by decide +kernel)⟩
theorem lw_p58 : lw_okq (⟨"PenSwingsModel", "signed", "(I)I"⟩, 61) := ⟨⟨by decide +kernel, by decide +kernel⟩, List.mem_of_getElem? (i := 1229) (by decide +kernel), List.mem_of_getElem? (i := 1488) (by decide +kernel), List.mem_of_getElem? (i := 1489) (by decide +kernel)⟩
theorem lw_p59 : lw_okq (⟨"PenSwingsModel", "copies", "([I[I)V"⟩, 61) := ⟨⟨by decide +kernel, by decide +kernel⟩, List.mem_of_getElem? (i := 1229) (by decide +kernel), List.mem_of_getElem? (i := 1492) (by decide +kernel), List.mem_of_getElem? (i := 1493) (by decide +kernel)⟩
theorem lw_p60 : lw_okq (⟨"PenSwingsModel", "isPendulum", "(I)Z"⟩, 61) := ⟨⟨by decide +kernel, by decide +kernel⟩, List.mem_of_getElem? (i := 1229) (by decide +kernel), List.mem_of_getElem? (i := 1511) (by decide +kernel), List.mem_of_getElem? (i := 1512) (by decide +kernel)⟩
theorem lw_p61 : lw_okq (⟨"PenSwingsModel", "period", "([III)I"⟩, 61) := ⟨⟨by decide +kernel, by decide +kernel⟩, List.mem_of_getElem? (i := 1229) (by decide +kernel), List.mem_of_getElem? (i := 1515) (by decide +kernel), List.mem_of_getElem? (i := 1516) (by decide +kernel)⟩
theorem lw_p62 : lw_okq (⟨"PenSwingsModel", "refuses", "(I)I"⟩, 61) := ⟨⟨by decide +kernel, by decide +kernel⟩, List.mem_of_getElem? (i := 1229) (by decide +kernel), List.mem_of_getElem? (i := 1523) (by decide +kernel), List.mem_of_getElem? (i := 1524) (by decide +kernel)⟩
theorem lw_p63 : lw_okq (⟨"PenSwingsModel", "isTick", "(II)Z"⟩, 61) := ⟨⟨by decide +kernel, by decide +kernel⟩, List.mem_of_getElem? (i := 1229) (by decide +kernel), List.mem_of_getElem? (i := 1531) (by decide +kernel), List.mem_of_getElem? (i := 1532) (by decide +kernel)⟩
def lw_privs_4 : List (MethodName × Nat) := [(⟨"PenSwingsModel", "right", "(ZI)Z"⟩, 61), (⟨"PenSwingsModel", "steps", "()V"⟩, 61), (⟨"PenSwingsModel", "byteAt", "(I)I"⟩, 61), (⟨"PenSwingsModel", "isGood", "()Z"⟩, 61), (⟨"PenSwingsModel", "line", "()V"⟩, 61), (⟨"PenSwingsModel", "is", "(I)Z"⟩, 61), (⟨"PenSwingsModel", "readsPendulum", "()V"⟩, 61), (⟨"PenSwingsModel", "wrong", "(I)V"⟩, 61), (⟨"PenSwingsModel", "need", "(Z)V"⟩, 61), (⟨"PenSwingsModel", "number", "(II)I"⟩, 61), (⟨"PenSwingsModel", "signed", "(I)I"⟩, 61), (⟨"PenSwingsModel", "copies", "([I[I)V"⟩, 61), (⟨"PenSwingsModel", "isPendulum", "(I)Z"⟩, 61), (⟨"PenSwingsModel", "period", "([III)I"⟩, 61), (⟨"PenSwingsModel", "refuses", "(I)I"⟩, 61), (⟨"PenSwingsModel", "isTick", "(II)Z"⟩, 61)]
theorem lw_r4 : ∀ q ∈ lw_privs_4, lw_okq q := List.forall_mem_cons.mpr ⟨lw_p48, List.forall_mem_cons.mpr ⟨lw_p49, List.forall_mem_cons.mpr ⟨lw_p50, List.forall_mem_cons.mpr ⟨lw_p51, List.forall_mem_cons.mpr ⟨lw_p52, List.forall_mem_cons.mpr ⟨lw_p53, List.forall_mem_cons.mpr ⟨lw_p54, List.forall_mem_cons.mpr ⟨lw_p55, List.forall_mem_cons.mpr ⟨lw_p56, List.forall_mem_cons.mpr ⟨lw_p57, List.forall_mem_cons.mpr ⟨lw_p58, List.forall_mem_cons.mpr ⟨lw_p59, List.forall_mem_cons.mpr ⟨lw_p60, List.forall_mem_cons.mpr ⟨lw_p61, List.forall_mem_cons.mpr ⟨lw_p62, List.forall_mem_cons.mpr ⟨lw_p63, fun _ h => absurd h List.not_mem_nil⟩⟩⟩⟩⟩⟩⟩⟩⟩⟩⟩⟩⟩⟩⟩⟩
theorem lw_p64 : lw_okq (⟨"PenSwingsModel", "at", "([IIII)I"⟩, 61) := ⟨⟨by decide +kernel, by decide +kernel⟩, List.mem_of_getElem? (i := 1229) (by decide +kernel), List.mem_of_getElem? (i := 1535) (by decide +kernel), List.mem_of_getElem? (i := 1536) (by decide +kernel)⟩
theorem lw_p65 : lw_okq (⟨"PenSwingsModel", "penNow", "(II)I"⟩, 61) := ⟨⟨by decide +kernel, by decide +kernel⟩, List.mem_of_getElem? (i := 1229) (by decide +kernel), List.mem_of_getElem? (i := 1543) (by decide +kernel), List.mem_of_getElem? (i := 1544) (by decide +kernel)⟩
theorem lw_p66 : lw_okq (⟨"PenSwingsModel", "penOf", "([IIII)I"⟩, 61) := ⟨⟨by decide +kernel, by decide +kernel⟩, List.mem_of_getElem? (i := 1229) (by decide +kernel), List.mem_of_getElem? (i := 1547) (by decide +kernel), List.mem_of_getElem? (i := 1548) (by decide +kernel)⟩
theorem lw_p67 : lw_okq (⟨"PenSwingsModel", "isSpan", "(III)Z"⟩, 61) := ⟨⟨by decide +kernel, by decide +kernel⟩, List.mem_of_getElem? (i := 1229) (by decide +kernel), List.mem_of_getElem? (i := 1555) (by decide +kernel), List.mem_of_getElem? (i := 1556) (by decide +kernel)⟩
theorem lw_p68 : lw_okq (⟨"PenSwingsModel", "clears", "()V"⟩, 61) := ⟨⟨by decide +kernel, by decide +kernel⟩, List.mem_of_getElem? (i := 1229) (by decide +kernel), List.mem_of_getElem? (i := 1559) (by decide +kernel), List.mem_of_getElem? (i := 1560) (by decide +kernel)⟩
theorem lw_p69 : lw_okq (⟨"PenSwingsModel", "roundOf", "([II)I"⟩, 61) := ⟨⟨by decide +kernel, by decide +kernel⟩, List.mem_of_getElem? (i := 1229) (by decide +kernel), List.mem_of_getElem? (i := 1574) (by decide +kernel), List.mem_of_getElem? (i := 1575) (by decide +kernel)⟩
theorem lw_p70 : lw_okq (⟨"PenSwingsModel", "isPortrait", "(I)Z"⟩, 61) := ⟨⟨by decide +kernel, by decide +kernel⟩, List.mem_of_getElem? (i := 1229) (by decide +kernel), List.mem_of_getElem? (i := 1593) (by decide +kernel), List.mem_of_getElem? (i := 1594) (by decide +kernel)⟩
theorem lw_p71 : lw_okq (⟨"PenSwingsModel", "alikeOf", "(II)I"⟩, 61) := ⟨⟨by decide +kernel, by decide +kernel⟩, List.mem_of_getElem? (i := 1229) (by decide +kernel), List.mem_of_getElem? (i := 1601) (by decide +kernel), List.mem_of_getElem? (i := 1602) (by decide +kernel)⟩
theorem lw_p72 : lw_okq (⟨"PenSwingsModel", "isWay", "(III)Z"⟩, 61) := ⟨⟨by decide +kernel, by decide +kernel⟩, List.mem_of_getElem? (i := 1229) (by decide +kernel), List.mem_of_getElem? (i := 1605) (by decide +kernel), List.mem_of_getElem? (i := 1606) (by decide +kernel)⟩
theorem lw_p73 : lw_okq (⟨"PenSwingsModel", "sizeOf", "(II)I"⟩, 61) := ⟨⟨by decide +kernel, by decide +kernel⟩, List.mem_of_getElem? (i := 1229) (by decide +kernel), List.mem_of_getElem? (i := 1612) (by decide +kernel), List.mem_of_getElem? (i := 1613) (by decide +kernel)⟩
theorem lw_p74 : lw_okq (⟨"PenSwingsModel", "isTime", "(IIIII)Z"⟩, 61) := ⟨⟨by decide +kernel, by decide +kernel⟩, List.mem_of_getElem? (i := 1229) (by decide +kernel), List.mem_of_getElem? (i := 1616) (by decide +kernel), List.mem_of_getElem? (i := 1617) (by decide +kernel)⟩
theorem lw_p75 : lw_okq (⟨"PenSwingsModel", "offOf", "(I)I"⟩, 61) := ⟨⟨by decide +kernel, by decide +kernel⟩, List.mem_of_getElem? (i := 1229) (by decide +kernel), List.mem_of_getElem? (i := 1636) (by decide +kernel), List.mem_of_getElem? (i := 1637) (by decide +kernel)⟩
theorem lw_p76 : lw_okq (⟨"PenSwingsModel", "shows", "(I)I"⟩, 61) := ⟨⟨by decide +kernel, by decide +kernel⟩, List.mem_of_getElem? (i := 1229) (by decide +kernel), List.mem_of_getElem? (i := 1648) (by decide +kernel), List.mem_of_getElem? (i := 1649) (by decide +kernel)⟩
theorem lw_p77 : lw_okq (⟨"PenSwingsModel", "wayOf", "(II)I"⟩, 61) := ⟨⟨by decide +kernel, by decide +kernel⟩, List.mem_of_getElem? (i := 1229) (by decide +kernel), List.mem_of_getElem? (i := 1652) (by decide +kernel), List.mem_of_getElem? (i := 1653) (by decide +kernel)⟩
theorem lw_p78 : lw_okq (⟨"PenSwingsModel", "fewest", "(I)I"⟩, 61) := ⟨⟨by decide +kernel, by decide +kernel⟩, List.mem_of_getElem? (i := 1229) (by decide +kernel), List.mem_of_getElem? (i := 1668) (by decide +kernel), List.mem_of_getElem? (i := 1669) (by decide +kernel)⟩
theorem lw_p79 : lw_okq (⟨"PenSwingsModel", "allMoved", "(II)I"⟩, 61) := ⟨⟨by decide +kernel, by decide +kernel⟩, List.mem_of_getElem? (i := 1229) (by decide +kernel), List.mem_of_getElem? (i := 1683) (by decide +kernel), List.mem_of_getElem? (i := 1684) (by decide +kernel)⟩
def lw_privs_5 : List (MethodName × Nat) := [(⟨"PenSwingsModel", "at", "([IIII)I"⟩, 61), (⟨"PenSwingsModel", "penNow", "(II)I"⟩, 61), (⟨"PenSwingsModel", "penOf", "([IIII)I"⟩, 61), (⟨"PenSwingsModel", "isSpan", "(III)Z"⟩, 61), (⟨"PenSwingsModel", "clears", "()V"⟩, 61), (⟨"PenSwingsModel", "roundOf", "([II)I"⟩, 61), (⟨"PenSwingsModel", "isPortrait", "(I)Z"⟩, 61), (⟨"PenSwingsModel", "alikeOf", "(II)I"⟩, 61), (⟨"PenSwingsModel", "isWay", "(III)Z"⟩, 61), (⟨"PenSwingsModel", "sizeOf", "(II)I"⟩, 61), (⟨"PenSwingsModel", "isTime", "(IIIII)Z"⟩, 61), (⟨"PenSwingsModel", "offOf", "(I)I"⟩, 61), (⟨"PenSwingsModel", "shows", "(I)I"⟩, 61), (⟨"PenSwingsModel", "wayOf", "(II)I"⟩, 61), (⟨"PenSwingsModel", "fewest", "(I)I"⟩, 61), (⟨"PenSwingsModel", "allMoved", "(II)I"⟩, 61)]
theorem lw_r5 : ∀ q ∈ lw_privs_5, lw_okq q := List.forall_mem_cons.mpr ⟨lw_p64, List.forall_mem_cons.mpr ⟨lw_p65, List.forall_mem_cons.mpr ⟨lw_p66, List.forall_mem_cons.mpr ⟨lw_p67, List.forall_mem_cons.mpr ⟨lw_p68, List.forall_mem_cons.mpr ⟨lw_p69, List.forall_mem_cons.mpr ⟨lw_p70, List.forall_mem_cons.mpr ⟨lw_p71, List.forall_mem_cons.mpr ⟨lw_p72, List.forall_mem_cons.mpr ⟨lw_p73, List.forall_mem_cons.mpr ⟨lw_p74, List.forall_mem_cons.mpr ⟨lw_p75, List.forall_mem_cons.mpr ⟨lw_p76, List.forall_mem_cons.mpr ⟨lw_p77, List.forall_mem_cons.mpr ⟨lw_p78, List.forall_mem_cons.mpr ⟨lw_p79, fun _ h => absurd h List.not_mem_nil⟩⟩⟩⟩⟩⟩⟩⟩⟩⟩⟩⟩⟩⟩⟩⟩
theorem lw_p80 : lw_okq (⟨"PenSwingsModel", "moved", "(II)I"⟩, 61) := ⟨⟨by decide +kernel, by decide +kernel⟩, List.mem_of_getElem? (i := 1229) (by decide +kernel), List.mem_of_getElem? (i := 1687) (by decide +kernel), List.mem_of_getElem? (i := 1688) (by decide +kernel)⟩
theorem lw_p81 : lw_okq (⟨"PenSwingsModel", "countsUp", "(I)Z"⟩, 61) := ⟨⟨by decide +kernel, by decide +kernel⟩, List.mem_of_getElem? (i := 1229) (by decide +kernel), List.mem_of_getElem? (i := 1691) (by decide +kernel), List.mem_of_getElem? (i := 1692) (by decide +kernel)⟩
theorem lw_p82 : lw_okq (⟨"PenSwingsModel", "isSign", "(I)Z"⟩, 61) := ⟨⟨by decide +kernel, by decide +kernel⟩, List.mem_of_getElem? (i := 1229) (by decide +kernel), List.mem_of_getElem? (i := 1703) (by decide +kernel), List.mem_of_getElem? (i := 1704) (by decide +kernel)⟩
theorem lw_p83 : lw_okq (⟨"PenSwingsModel", "closes", "()V"⟩, 61) := ⟨⟨by decide +kernel, by decide +kernel⟩, List.mem_of_getElem? (i := 1229) (by decide +kernel), List.mem_of_getElem? (i := 1707) (by decide +kernel), List.mem_of_getElem? (i := 1708) (by decide +kernel)⟩
theorem lw_p84 : lw_okq (⟨"PenSwingsModel", "puts", "(I)V"⟩, 61) := ⟨⟨by decide +kernel, by decide +kernel⟩, List.mem_of_getElem? (i := 1229) (by decide +kernel), List.mem_of_getElem? (i := 1711) (by decide +kernel), List.mem_of_getElem? (i := 1712) (by decide +kernel)⟩
theorem lw_p85 : lw_okq (⟨"PenSwingsModel", "opens", "(II)V"⟩, 61) := ⟨⟨by decide +kernel, by decide +kernel⟩, List.mem_of_getElem? (i := 1229) (by decide +kernel), List.mem_of_getElem? (i := 1715) (by decide +kernel), List.mem_of_getElem? (i := 1716) (by decide +kernel)⟩
theorem lw_p86 : lw_okq (⟨"PenSwingsModel", "act", "()V"⟩, 61) := ⟨⟨by decide +kernel, by decide +kernel⟩, List.mem_of_getElem? (i := 1229) (by decide +kernel), List.mem_of_getElem? (i := 1719) (by decide +kernel), List.mem_of_getElem? (i := 1720) (by decide +kernel)⟩
theorem lw_p87 : lw_okq (⟨"PenSwingsModel", "test", "()V"⟩, 61) := ⟨⟨by decide +kernel, by decide +kernel⟩, List.mem_of_getElem? (i := 1229) (by decide +kernel), List.mem_of_getElem? (i := 1723) (by decide +kernel), List.mem_of_getElem? (i := 1724) (by decide +kernel)⟩
theorem lw_p88 : lw_okq (⟨"PenSwingsModel", "performs", "()V"⟩, 61) := ⟨⟨by decide +kernel, by decide +kernel⟩, List.mem_of_getElem? (i := 1229) (by decide +kernel), List.mem_of_getElem? (i := 1731) (by decide +kernel), List.mem_of_getElem? (i := 1732) (by decide +kernel)⟩
theorem lw_p89 : lw_okq (⟨"PenSwingsModel", "draws", "(I)V"⟩, 61) := ⟨⟨by decide +kernel, by decide +kernel⟩, List.mem_of_getElem? (i := 1229) (by decide +kernel), List.mem_of_getElem? (i := 1735) (by decide +kernel), List.mem_of_getElem? (i := 1736) (by decide +kernel)⟩
theorem lw_p90 : lw_okq (⟨"PenSwingsModel", "cellGoing", "()I"⟩, 61) := ⟨⟨by decide +kernel, by decide +kernel⟩, List.mem_of_getElem? (i := 1229) (by decide +kernel), List.mem_of_getElem? (i := 1739) (by decide +kernel), List.mem_of_getElem? (i := 1740) (by decide +kernel)⟩
theorem lw_p91 : lw_okq (⟨"PenSwingsModel", "penGoing", "(I)I"⟩, 61) := ⟨⟨by decide +kernel, by decide +kernel⟩, List.mem_of_getElem? (i := 1229) (by decide +kernel), List.mem_of_getElem? (i := 1743) (by decide +kernel), List.mem_of_getElem? (i := 1744) (by decide +kernel)⟩
theorem lw_p92 : lw_okq (⟨"PenSwingsModel", "holds", "(II)Z"⟩, 61) := ⟨⟨by decide +kernel, by decide +kernel⟩, List.mem_of_getElem? (i := 1229) (by decide +kernel), List.mem_of_getElem? (i := 1750) (by decide +kernel), List.mem_of_getElem? (i := 1751) (by decide +kernel)⟩
def lw_privs_6 : List (MethodName × Nat) := [(⟨"PenSwingsModel", "moved", "(II)I"⟩, 61), (⟨"PenSwingsModel", "countsUp", "(I)Z"⟩, 61), (⟨"PenSwingsModel", "isSign", "(I)Z"⟩, 61), (⟨"PenSwingsModel", "closes", "()V"⟩, 61), (⟨"PenSwingsModel", "puts", "(I)V"⟩, 61), (⟨"PenSwingsModel", "opens", "(II)V"⟩, 61), (⟨"PenSwingsModel", "act", "()V"⟩, 61), (⟨"PenSwingsModel", "test", "()V"⟩, 61), (⟨"PenSwingsModel", "performs", "()V"⟩, 61), (⟨"PenSwingsModel", "draws", "(I)V"⟩, 61), (⟨"PenSwingsModel", "cellGoing", "()I"⟩, 61), (⟨"PenSwingsModel", "penGoing", "(I)I"⟩, 61), (⟨"PenSwingsModel", "holds", "(II)Z"⟩, 61)]
theorem lw_r6 : ∀ q ∈ lw_privs_6, lw_okq q := List.forall_mem_cons.mpr ⟨lw_p80, List.forall_mem_cons.mpr ⟨lw_p81, List.forall_mem_cons.mpr ⟨lw_p82, List.forall_mem_cons.mpr ⟨lw_p83, List.forall_mem_cons.mpr ⟨lw_p84, List.forall_mem_cons.mpr ⟨lw_p85, List.forall_mem_cons.mpr ⟨lw_p86, List.forall_mem_cons.mpr ⟨lw_p87, List.forall_mem_cons.mpr ⟨lw_p88, List.forall_mem_cons.mpr ⟨lw_p89, List.forall_mem_cons.mpr ⟨lw_p90, List.forall_mem_cons.mpr ⟨lw_p91, List.forall_mem_cons.mpr ⟨lw_p92, fun _ h => absurd h List.not_mem_nil⟩⟩⟩⟩⟩⟩⟩⟩⟩⟩⟩⟩⟩
def lw_privs : List (MethodName × Nat) := lw_privs_1 ++ (lw_privs_2 ++ (lw_privs_3 ++ (lw_privs_4 ++ (lw_privs_5 ++ (lw_privs_6)))))
def lw_tbl : List Cond := k2_sels lw_privs ++ tables_1
theorem lw_privs_ok : ∀ q ∈ lw_privs, lw_okq q := by
  show ∀ q ∈ lw_privs_1 ++ (lw_privs_2 ++ (lw_privs_3 ++ (lw_privs_4 ++ (lw_privs_5 ++ (lw_privs_6))))), lw_okq q
  exact List.forall_mem_append.mpr ⟨lw_r1, List.forall_mem_append.mpr ⟨lw_r2, List.forall_mem_append.mpr ⟨lw_r3, List.forall_mem_append.mpr ⟨lw_r4, List.forall_mem_append.mpr ⟨lw_r5, lw_r6⟩⟩⟩⟩⟩
end
section
/-! ===== BEGIN words of one list among another's, by their places ===== -/
theorem goodIn_r {big : List Cond} (ws : List Cond) (ps : List Nat) (hp : ws = ps.filterMap (fun i => big[i]?)) (h : ws.all goodWord = true) : GoodIn big ws := by
  intro w hw
  have h1 := List.all_eq_true.mp h w hw
  rw [hp] at hw
  obtain ⟨i, -, hi⟩ := List.mem_filterMap.mp hw
  have hm : w ∈ big := by first | exact List.mem_of_getElem? hi | exact List.getElem?_mem hi
  exact ⟨hm, good_of_word h1⟩
theorem goodIn_app {big a b : List Cond} (ha : GoodIn big a) (hb : GoodIn big b) : GoodIn big (a ++ b) := fun w h => (List.mem_append.mp h).elim (ha w) (hb w)
theorem goodIn_ca {big a b : List Cond} {c : Cond} (ha : GoodIn big (c :: a)) (hb : GoodIn big b) : GoodIn big (c :: (a ++ b)) := fun w h => (List.mem_cons.mp h).elim (fun e => ha w (List.mem_cons.mpr (Or.inl e))) (fun h => (List.mem_append.mp h).elim (fun h => ha w (List.mem_cons.mpr (Or.inr h))) (hb w))
theorem goodIn_sub {big ws : List Cond} (hm : ∀ w ∈ ws, w ∈ big) (h : ws.all goodWord = true) : GoodIn big ws := fun w hw => ⟨hm w hw, good_of_word (List.all_eq_true.mp h w hw)⟩
/-! ===== END ===== -/

/-! ===== BEGIN exceptions that leave a method, and their catching by the caller (launches without stack traces) ===== -/
section VXA
/-! The laws vx_back, vx_callV, vx_callS, vx_callSW, vx_throw0, vx_throwS follow proofs of the library, with one case more: JvmDerived/Free/Laws.lean (Back.of_free), Shelf42/LK1.lean (callV, callS), Shelf/KitTraced.lean (throwNew0V, throwNewS). -/
/-- where a method has thrown q: the class by its name, the cell, what was written, the world -/
def vx_T (XC : String → State → State → Prop) (st : State) (q : Addr) (t : State) (mc ms : Nat) (free : Addr → Prop) : Prop :=
  ∃ (E : String) (ce : Cell) (L : List Loc), XC E st t ∧ t.heap[q]? = some ce ∧ ce.vm = .none ∧ st.vm.findClass E = some ce.cls ∧ st.WarmedH t.vm ∧ st.sameButNew ({ t with vm := st.vm } : State) L mc ms ∧ ∀ z ∈ L, free z.base
def vx_Q (Qc : Array Value → State → Outcome → State → Prop) (XC : String → State → State → Prop) (mc ms : Nat) (free : Addr → Prop) : Array Value → State → Outcome → State → Prop := fun a st o t =>
  (Qc a st o t ∧ ∃ L, FrameEnd st o t L mc ms ∧ ∀ q ∈ L, free q.base) ∨ ∃ q, o = .threw q ∧ vx_T XC st q t mc ms free
/-- a callee that returns or throws -/
def vx_Met (l : Launch) (y : MethodName) (ws : List Cond) (rm : Room) (Pc : Array Value → State → Prop) (Qc : Array Value → State → Outcome → State → Prop) (XC : String → State → State → Prop) (mc ms : Nat) (free : Addr → Prop) : Prop :=
  MetFree l y (headSpec ws rm) Pc (fun _ _ _ _ _ => True) (vx_Q Qc XC mc ms free)
def vx_Post (XC : String → State → State → Prop) (mc ms : Nat) (free : Addr → Prop) : Pt → Array Value → Addr → Pt → Prop := fun A a q B =>
  ∃ (g : JFrame) (mk : MethodId) (t : State) (L : List Loc) (E : String) (ce : Cell), B.U.heap = t.heap ∧ B.U.vm = t.vm ∧ XC E (A.U.calling g mk a) t ∧ t.heap[q]? = some ce ∧ ce.vm = .none ∧ A.U.vm.findClass E = some ce.cls ∧ B.locs = A.locs ++ L ∧ (∀ z ∈ L, free z.base) ∧ B.cells = A.cells + mc ∧ B.slots = A.slots + ms
def vx_Back (l : Launch) (R : Room) (p : Program) (e : Env) (below : List Frame) (s : State) (sargs : Array Value) (y : MethodName) (len W9 : Nat)
    (Pre : Pt → Array Value → Prop) (Post : Pt → Array Value → Option Value → Pt → Prop) (PostX : Pt → Array Value → Addr → Pt → Prop) : Prop :=
  ∀ (m : MethodId) (meth : Method) (c : Code) (A : Pt) (g : JFrame) (ig : Instr) (mk : MethodId) (a : Array Value),
    Stand p l e R s m sargs below meth c A.U A.locs A.cells A.slots → g.method = m → g.locals.size = c.maxLocals → decode c.code g.pc = .ok (ig, len) →
    2 * g.monitorRoom + (g.stack.map fun v => v.category).sum ≤ W9 → A.U.methodNamed? y = some mk → Pre A a →
    (∃ (v : Option Value) (B : Pt), Stand p l e R s m sargs below meth c B.U B.locs B.cells B.slots ∧ Post A a v B ∧
      Steps p.tables e below (doInvoke e (A.U.setTop g) [] mk a).1 (B.U.setTop { g with pc := g.pc + len, stack := v.toList ++ g.stack })) ∨
    (∃ (q : Addr) (B : Pt), Stand p l e R s m sargs below meth c B.U B.locs B.cells B.slots ∧ PostX A a q B ∧
      Steps p.tables e below (doInvoke e (A.U.setTop g) [] mk a).1 ((B.U.setTop g).pushFrame (.throwing q)))
section Payer
variable {l : Launch} {R : Room} {p : Program} {e : Env} {below : List Frame} {s : State} {sargs : Array Value} {y : MethodName} {len W9 : Nat}
theorem vx_back {ws : List Cond} {rm : Room} {Pc : Array Value → State → Prop} {Qc : Array Value → State → Outcome → State → Prop} {XC : String → State → State → Prop} {mc ms : Nat} {free : Addr → Prop} {bytes : ByteArray} {maxL : Nat} {ret : Option FieldType}
    (hM : vx_Met l y ws rm Pc Qc XC mc ms free) (hblind : FrameBlind Pc) (hrc : rm.cells = mc) (hrs : rm.slots = ms)
    (hframes : rm.frames + 1 ≤ R.frames) (hlocals : W9 + (maxL + 11) + rm.locals ≤ R.locals)
    (hws : ∀ w ∈ ws, ∀ a' U, s.WarmedH U.vm → w.before a' U = true) (hcode : Cond.code y bytes maxL ret ∈ ws) (hinit : ∀ a' U, s.WarmedH U.vm → (Cond.initialized y.cls).before a' U = true) :
    vx_Back l R p e below s sargs y len W9 (PreOf R mc ms Pc) (PostOf Qc mc ms free) (vx_Post XC mc ms free) := by
  intro m meth c A g ig mk a X hg hsize hdg hW hn hp
  have h1 : (headSpec ws rm).pre.before a A.U = true := atoms_intro fun w hw => hws w hw _ _ X.warmed
  have h2 : (Cond.code y bytes maxL ret).before a A.U = true := hws _ hcode _ _ X.warmed
  have h3 : (Cond.initialized y.cls).before a A.U = true := hinit _ _ X.warmed
  have h4 : A.cells + (headSpec ws rm).room.cells ≤ R.cells := by rw [show (headSpec ws rm).room.cells = mc from hrc]; exact hp.1
  have h5 : A.slots + (headSpec ws rm).room.slots ≤ R.slots := by rw [show (headSpec ws rm).room.slots = ms from hrs]; exact hp.2.1
  have hPc : Pc a (A.U.calling g mk a) := hblind _ _ _ _ hp.2.2
  obtain ⟨U, Ls, c0, s0⟩ := A
  dsimp only [Pt.U, Pt.locs, Pt.cells, Pt.slots] at h1 h2 h3 h4 h5 X hn hPc ⊢
  obtain ⟨methY, cY, hmY, hcY, -, hlY, -, -, -, -⟩ := Cond.code_spec hn h2
  obtain ⟨kY, hkY, -⟩ := className_of_methodNamed hn
  have hinitY : kY.init = .initialized := Cond.initialized_spec (findClass_of_methodNamed hn) hkY h3
  have h : At U g.method c below := by rw [hg]; exact X.here
  have hlocals9 : W9 + (maxL + 11) + (headSpec ws rm).room.locals ≤ R.locals := hlocals
  have happ : (headSpec ws rm).appliesLoose y e.platform (U.calling g mk a) = true :=
    Spec.appliesLoose_calling (g := g) h hdg hn hkY hinitY
      (X.room_calling (g := g) (R' := (headSpec ws rm).room) hsize hmY hcY hframes (by rw [hlY]; omega) h4 h5) h1
  obtain ⟨mid, hmid⟩ := h.above
  have hfr : (U.setTop g).frames = (.java g :: mid) ++ below := by rw [State.frames_setTop' g h.top, hmid]; rfl
  obtain ⟨o, s₂, hsteps, -, hend, hq⟩ := Steps.callFree hM p X.admits X.cas X.clock (acts := []) hfr happ hPc trivial
  have hq' : vx_Q Qc XC mc ms free a (U.calling g mk a) o s₂ := hq
  rw [State.frames_setTop' g h.top] at hend
  obtain ⟨g₀, hg0⟩ := Option.isSome_iff_exists.mp h.top
  obtain ⟨r, hr⟩ := State.topJava?_eq_some.mp hg0
  have hr' : (({ U with heap := s₂.heap, slotsUsed := s₂.slotsUsed } : State).setVm s₂.vm).frames = .java g₀ :: r := hr
  rcases hq' with ⟨hqc, L, hfe, hL⟩ | ⟨q, rfl, E, ce, L, hx, hce, hcv, hcl, hW₂, hsm, hL⟩
  · obtain ⟨⟨v, rfl⟩, hW₂, e2, q2, q3, q4, q5, q6⟩ := id hfe
    have e3 : s₂ = ({ (U.calling g mk a).setFrames s₂.frames with heap := s₂.heap, slotsUsed := s₂.slotsUsed } : State).setVm s₂.vm := by
      have : s₂ = ({ s₂ with vm := (U.calling g mk a).vm } : State).setVm s₂.vm := rfl
      rw [e2] at this
      exact this
    obtain ⟨c₂, i₂, len₂, hc₂, hd₂, hf₂⟩ := hend
    have hW' : U.WarmedH s₂.vm := hW₂
    have hcc : c₂ = c := by
      have h1 : s₂.code? g.method = U.code? g.method := by
        rw [State.code?_eq, State.code?_eq, hW'.alike.method?]
      exact Option.some.inj (hc₂.symm.trans (h1.trans h.code))
    subst hcc
    have hlen : len₂ = len := by rw [hdg] at hd₂; cases hd₂; rfl
    subst hlen
    have hs₂ : s₂ = (({ U with heap := s₂.heap, slotsUsed := s₂.slotsUsed } : State).setVm s₂.vm).setTop { g with pc := g.pc + len₂, stack := v.toList ++ g.stack } := by
      refine e3.trans ?_
      rw [hf₂, State.calling_eq h.top, State.setFrames_setFrames, State.setTop_of_frames _ hr', hr]
      rfl
    have hsame : U.sameButNew ({ U with heap := s₂.heap, slotsUsed := s₂.slotsUsed } : State) L mc ms := by
      refine ⟨?_, q2, q3, q4, q5, q6⟩
      obtain ⟨t, ht, -⟩ := State.frames_cons hr
      show ({ U with heap := s₂.heap, slotsUsed := s₂.slotsUsed } : State) = { U.setFrames U.frames with heap := s₂.heap, slotsUsed := s₂.slotsUsed }
      rw [State.setFrames_self ht]
    subst hg
    refine Or.inl ⟨v, ⟨(({ U with heap := s₂.heap, slotsUsed := s₂.slotsUsed } : State).setVm s₂.vm), Ls ++ L, c0 + mc, s0 + ms⟩,
      ⟨X.admits, X.cas, X.clock, X.frames, X.room, X.hears, X.method, X.code, (X.here.setHeapUsed s₂.heap s₂.slotsUsed).setVm hW'.alike, X.tail, State.WarmedH.trans X.warmed hW', X.limits, X.bytes, X.same.trans (hsame.setVm s.vm)⟩,
      ⟨g, mk, s₂, L, rfl, rfl, hqc, rfl, hL, rfl, rfl⟩, ?_⟩
    show Steps p.tables e below _ ((({ U with heap := s₂.heap, slotsUsed := s₂.slotsUsed } : State).setVm s₂.vm).setTop { g with pc := g.pc + len₂, stack := v.toList ++ g.stack })
    rw [← hs₂]
    exact hsteps
  · obtain ⟨e2, q2, q3, q4, q5, q6⟩ := id hsm
    have e3 : s₂ = ({ (U.calling g mk a).setFrames s₂.frames with heap := s₂.heap, slotsUsed := s₂.slotsUsed } : State).setVm s₂.vm := by
      have : s₂ = ({ s₂ with vm := (U.calling g mk a).vm } : State).setVm s₂.vm := rfl
      rw [e2] at this
      exact this
    have hf₂ : s₂.frames = .throwing q :: .java g :: U.frames.tail := hend
    have hW' : U.WarmedH s₂.vm := hW₂
    have hs₂ : s₂ = ((({ U with heap := s₂.heap, slotsUsed := s₂.slotsUsed } : State).setVm s₂.vm).setTop g).pushFrame (.throwing q) := by
      refine e3.trans ?_
      rw [hf₂, State.calling_eq h.top, State.setFrames_setFrames, State.pushFrame, State.frames_setTop _ hr', State.setTop_of_frames _ hr', State.setFrames_setFrames, hr]
      rfl
    have hsame : U.sameButNew ({ U with heap := s₂.heap, slotsUsed := s₂.slotsUsed } : State) L mc ms := by
      refine ⟨?_, q2, q3, q4, q5, q6⟩
      obtain ⟨t, ht, -⟩ := State.frames_cons hr
      show ({ U with heap := s₂.heap, slotsUsed := s₂.slotsUsed } : State) = { U.setFrames U.frames with heap := s₂.heap, slotsUsed := s₂.slotsUsed }
      rw [State.setFrames_self ht]
    subst hg
    refine Or.inr ⟨q, ⟨(({ U with heap := s₂.heap, slotsUsed := s₂.slotsUsed } : State).setVm s₂.vm), Ls ++ L, c0 + mc, s0 + ms⟩,
      ⟨X.admits, X.cas, X.clock, X.frames, X.room, X.hears, X.method, X.code, (X.here.setHeapUsed s₂.heap s₂.slotsUsed).setVm hW'.alike, X.tail, State.WarmedH.trans X.warmed hW', X.limits, X.bytes, X.same.trans (hsame.setVm s.vm)⟩,
      ⟨g, mk, s₂, L, E, ce, rfl, rfl, hx, hce, hcv, hcl, rfl, hL, rfl, rfl⟩, ?_⟩
    show Steps p.tables e below _ (((({ U with heap := s₂.heap, slotsUsed := s₂.slotsUsed } : State).setVm s₂.vm).setTop g).pushFrame (.throwing q))
    rw [← hs₂]
    exact hsteps
end Payer
section Calls
variable {p : Program} {l : Launch} {e : Env} {R : Room} {s : State} {m : MethodId} {args : Array Value} {below : List Frame} {meth : Method} {c : Code} {T : State} {locs : List Loc} {cells slots : Nat}
theorem vx_callV (X : Stand p l e R s m args below meth c T locs cells slots) (hexec : p.tables.exec = Jvm.exec) {own C : String} {index : Nat} {y : MethodName} {bytes : ByteArray} {maxL : Nat} {ret : Option FieldType}
    (hown : s.vm.findClass own = some m.cls) (hlink : (Cond.methodLink own index y).before args s = true) (hinst : (Cond.instanceMethod y).before args s = true) (hsel : (Cond.selects C y y).before args s = true)
    (hcode : (Cond.code y bytes maxL ret).before args s = true) (hy : y.cls ≠ "java/lang/invoke/MethodHandle" ∧ y.cls ≠ "java/lang/invoke/VarHandle")
    {W9 : Nat} {Pre : Pt → Array Value → Prop} {Post : Pt → Array Value → Option Value → Pt → Prop} {PostX : Pt → Array Value → Addr → Pt → Prop} (hK : vx_Back l R p e below s args y 3 W9 Pre Post PostX)
    {b : Addr} {cellB : Cell} (hcell : T.heap[b]? = some cellB) (hobj : cellB.vm.isStatics = false) (hcls : s.vm.findClass C = some cellB.cls)
    {g : JFrame} (hg : g.method = m) (hsize : g.locals.size = c.maxLocals) {argsL rest : List Value} (hlen : ∀ sig, parseMethodDescriptor y.desc = some sig → argsL.length = sig.parameters.length)
    (hstack : g.stack = argsL.reverse ++ .ref b :: rest) (hW : 2 * g.monitorRoom + (rest.map fun v => v.category).sum ≤ W9) (hdg : decode c.code g.pc = .ok (.invokevirtual index, 3))
    (hpre : ∀ vm₁, s.WarmedH vm₁ → Pre ⟨T.setVm vm₁, locs, cells, slots⟩ (Value.ref b :: argsL).toArray) :
    (∃ (v : Option Value) (vm₁ : Vm) (B : Pt), s.WarmedH vm₁ ∧ Stand p l e R s m args below meth c B.U B.locs B.cells B.slots ∧ Post ⟨T.setVm vm₁, locs, cells, slots⟩ (Value.ref b :: argsL).toArray v B ∧
      ∀ target, Steps p.tables e below (B.U.setTop { g with pc := g.pc + 3, stack := v.toList ++ rest }) target → Steps p.tables e below (T.setTop g) target) ∨
    (∃ (q : Addr) (vm₁ : Vm) (B : Pt), s.WarmedH vm₁ ∧ Stand p l e R s m args below meth c B.U B.locs B.cells B.slots ∧ PostX ⟨T.setVm vm₁, locs, cells, slots⟩ (Value.ref b :: argsL).toArray q B ∧
      Steps p.tables e below (T.setTop g) ((B.U.setTop { g with stack := rest }).pushFrame (.throwing q))) := by
  obtain ⟨mk, methM, hnamed, hmethM, hstM, habM⟩ := Cond.instanceMethod_spec hinst
  obtain ⟨methM', cM, hmethM', -, -, -, -, -, -, hsigM⟩ := Cond.code_spec hnamed hcode
  cases hmethM.symm.trans hmethM'
  obtain ⟨c2, r2, m2, q1, q2, q3, q4, kP, hkP, hkPi⟩ := Cond.selects_spec hsel
  cases hcls.symm.trans q1
  cases (State.methodFound?_of_named hnamed hy).symm.trans q2
  cases hnamed.symm.trans q3
  have hselP : selectMethod e.platform s.vm cellB.cls mk = .method mk := by rw [Launch.admits_selectMethod X.admits]; exact q4
  obtain ⟨vm₁, X₁, hstep₁⟩ := X.invokevirtual hexec hown hlink hnamed hmethM hstM hkP hkPi hy (a := b) (cell := cellB) hcell
    (fun z h => by rw [h] at hobj; cases hobj) hselP hmethM habM hkP hkPi (g := g) hg (argsL := argsL) (rest := rest) (hlen _ hsigM) hstack hdg
  rcases hK m meth c ⟨T.setVm vm₁, locs, cells, slots⟩ { g with stack := rest } (.invokevirtual index) mk (Value.ref b :: argsL).toArray X₁ hg hsize hdg hW (X₁.named hnamed) (hpre vm₁ X₁.warmed) with ⟨v, B, X', hpost, hsteps⟩ | ⟨q, B, X', hpost, hsteps⟩
  · exact Or.inl ⟨v, vm₁, B, X₁.warmed, X', hpost, fun target h => hstep₁ _ fun acts => by rw [doInvoke_state]; exact hsteps.trans h⟩
  · exact Or.inr ⟨q, vm₁, B, X₁.warmed, X', hpost, hstep₁ _ fun acts => by rw [doInvoke_state]; exact hsteps⟩
theorem vx_callS (X : Stand p l e R s m args below meth c T locs cells slots) (hexec : p.tables.exec = Jvm.exec) {own : String} {index : Nat} {y : MethodName} {bytes : ByteArray} {maxL : Nat} {ret : Option FieldType}
    (hown : s.vm.findClass own = some m.cls) (hlink : (Cond.methodLink own index y).before args s = true) (hstat : (Cond.static y).before args s = true) (hinit : (Cond.initialized y.cls).before args s = true)
    (hcode : (Cond.code y bytes maxL ret).before args s = true) (hy : y.cls ≠ "java/lang/invoke/MethodHandle" ∧ y.cls ≠ "java/lang/invoke/VarHandle")
    {W9 : Nat} {Pre : Pt → Array Value → Prop} {Post : Pt → Array Value → Option Value → Pt → Prop} {PostX : Pt → Array Value → Addr → Pt → Prop} (hK : vx_Back l R p e below s args y 3 W9 Pre Post PostX)
    {g : JFrame} (hg : g.method = m) (hsize : g.locals.size = c.maxLocals) {argsL rest : List Value} (hlen : ∀ sig, parseMethodDescriptor y.desc = some sig → argsL.length = sig.parameters.length)
    (hstack : g.stack = argsL.reverse ++ rest) (hW : 2 * g.monitorRoom + (rest.map fun v => v.category).sum ≤ W9) (hdg : decode c.code g.pc = .ok (.invokestatic index, 3))
    (hpre : ∀ vm₁, s.WarmedH vm₁ → Pre ⟨T.setVm vm₁, locs, cells, slots⟩ argsL.toArray) :
    (∃ (v : Option Value) (vm₁ : Vm) (B : Pt), s.WarmedH vm₁ ∧ Stand p l e R s m args below meth c B.U B.locs B.cells B.slots ∧ Post ⟨T.setVm vm₁, locs, cells, slots⟩ argsL.toArray v B ∧
      ∀ target, Steps p.tables e below (B.U.setTop { g with pc := g.pc + 3, stack := v.toList ++ rest }) target → Steps p.tables e below (T.setTop g) target) ∨
    (∃ (q : Addr) (vm₁ : Vm) (B : Pt), s.WarmedH vm₁ ∧ Stand p l e R s m args below meth c B.U B.locs B.cells B.slots ∧ PostX ⟨T.setVm vm₁, locs, cells, slots⟩ argsL.toArray q B ∧
      Steps p.tables e below (T.setTop g) ((B.U.setTop { g with stack := rest }).pushFrame (.throwing q))) := by
  obtain ⟨mk, hnamed⟩ := Cond.code_named hcode
  obtain ⟨methM, cM, hmethM, -, -, -, -, -, -, hsigM⟩ := Cond.code_spec hnamed hcode
  have hstatic : methM.isStatic = true := Cond.static_spec hnamed hmethM hstat
  obtain ⟨kP, hkP, -⟩ := className_of_methodNamed hnamed
  have hinitP : kP.init = .initialized := Cond.initialized_spec (findClass_of_methodNamed hnamed) hkP hinit
  obtain ⟨vm₁, X₁, hstep₁⟩ := X.invokestatic hexec hown hlink hnamed hmethM hstatic hkP hinitP hy (g := g) hg (argsL := argsL) (rest := rest) (hlen _ hsigM) hstack hdg
  rcases hK m meth c ⟨T.setVm vm₁, locs, cells, slots⟩ { g with stack := rest } (.invokestatic index) mk argsL.toArray X₁ hg hsize hdg hW (X₁.named hnamed) (hpre vm₁ X₁.warmed) with ⟨v, B, X', hpost, hsteps⟩ | ⟨q, B, X', hpost, hsteps⟩
  · exact Or.inl ⟨v, vm₁, B, X₁.warmed, X', hpost, fun target h => hstep₁ _ fun acts => by rw [doInvoke_state]; exact hsteps.trans h⟩
  · exact Or.inr ⟨q, vm₁, B, X₁.warmed, X', hpost, hstep₁ _ fun acts => by rw [doInvoke_state]; exact hsteps⟩
end Calls
theorem vx_cls {s : State} {T : State} {vm₁ : Vm} {E : String} {k : ClassId} (hW : s.WarmedH vm₁) (h : (T.setVm vm₁).vm.findClass E = some k) : s.vm.findClass E = some k := by
  have h1 : vm₁.findClass E = some k := h
  rw [hW.alike.findClass] at h1
  exact h1
/-- the method's frame g, with q thrown over it -/
def vx_W (p : Program) (l : Launch) (e : Env) (R : Room) (s : State) (m : MethodId) (args : Array Value) (below : List Frame) (meth : Method) (c : Code) (H : Heap) (locs : List Loc) (cells slots : Nat) (Q : State → Prop) (g : JFrame) (q : Addr) : Prop :=
  ∀ T : State, T.heap = H → Stand p l e R s m args below meth c T locs cells slots → ∃ t, Steps p.tables e below ((T.setTop g).pushFrame (.throwing q)) t ∧ Q t
def vx_Run (p : Program) (l : Launch) (e : Env) (R : Room) (s : State) (m : MethodId) (args : Array Value) (below : List Frame) (meth : Method) (c : Code) (H : Heap) (locs : List Loc) (cells slots mc ms : Nat) (g : JFrame) (rest : List Value) (Qa : State → Outcome → State → Prop) (XC : String → State → State → Prop) (free : Addr → Prop) : Prop :=
  ∀ T : State, T.heap = H → Stand p l e R s m args below meth c T locs cells slots →
    (∃ (v : Option Value) (st₀ t T' : State) (L : List Loc), st₀.heap = H ∧ Stand p l e R s m args below meth c T' (locs ++ L) (cells + mc) (slots + ms) ∧ (∀ q ∈ L, free q.base) ∧ T'.heap = t.heap ∧ T'.vm = t.vm ∧ Qa st₀ (.returned v) t ∧
      Goes p e below T g T' { g with pc := g.pc + 3, stack := v.toList ++ rest }) ∨
    (∃ (q : Addr) (st₀ t T' : State) (L : List Loc) (E : String) (ce : Cell), st₀.heap = H ∧ Stand p l e R s m args below meth c T' (locs ++ L) (cells + mc) (slots + ms) ∧ (∀ z ∈ L, free z.base) ∧ T'.heap = t.heap ∧ T'.vm = t.vm ∧ XC E st₀ t ∧ t.heap[q]? = some ce ∧ ce.vm = .none ∧ s.vm.findClass E = some ce.cls ∧
      Steps p.tables e below (T.setTop g) ((T'.setTop { g with stack := rest }).pushFrame (.throwing q)))
def vx_X {S : Type} (px : S → Prop) (B : String → S → State → Prop) (A : Nat → Prop) : String → State → State → Prop := fun E st t => ∃ u : S, px u ∧ B E u t ∧ va_F A st t
section Runs
variable {p : Program} {l : Launch} {e : Env} {R : Room} {s : State} {m : MethodId} {args : Array Value} {below : List Frame} {meth : Method} {c : Code} {H : Heap} {locs : List Loc} {cells slots : Nat}
variable {y : MethodName} {bytes cc : ByteArray} {maxL nL mc ms n index : Nat} {ret : Option FieldType} {ws : List Cond} {rm : Room} {Pc : Array Value → State → Prop} {Qc : Array Value → State → Outcome → State → Prop} {XC : String → State → State → Prop} {free : Addr → Prop} {Ts : List Cond} {own C : String} {b : Addr} {As rest : List Value} {g : JFrame}
theorem vx_callBack (cb : CallB R s args own index y bytes maxL ret ws rm mc ms n) (hM : vx_Met l y ws rm Pc Qc XC mc ms free) (hbl : FrameBlind Pc) : vx_Back l R p e below s args y 3 8 (PreOf R mc ms Pc) (PostOf Qc mc ms free) (vx_Post XC mc ms free) := by
  obtain ⟨hrc, hrs, hfr, hlo, hws, hcw, -, hini, -⟩ := cb
  exact vx_back (bytes := bytes) (maxL := maxL) (ret := ret) hM hbl hrc hrs hfr hlo hws hcw (fun a' U hW => word_at hW (Or.inl (by first | rfl | simp [Cond.onTables, Cond.keeps, Cond.steady])) hini)
theorem vx_runV (S : CallFix p m c cc nL s args Ts own) (hM : vx_Met l y ws rm Pc Qc XC mc ms free) (cw : CallW R s args own C index y bytes maxL ret ws rm mc ms n) (hp : PreV s H C b Pc As)
    (hg : g.method = m) (hn : As.length = n) (hsize : g.locals.size = nL) (hstack : g.stack = As.reverse ++ .ref b :: rest) (hW : 2 * g.monitorRoom + (rest.map fun v => v.category).sum ≤ 8) (hdg : decode cc g.pc = .ok (.invokevirtual index, 3)) (hf : cells + mc ≤ R.cells ∧ slots + ms ≤ R.slots) :
    vx_Run p l e R s m args below meth c H locs cells slots mc ms g rest (Qc (Value.ref b :: As).toArray) XC free := by
  have hK : vx_Back l R p e below s args y 3 8 (PreOf R mc ms Pc) (PostOf Qc mc ms free) (vx_Post XC mc ms free) := vx_callBack cw.1 hM hp.1
  obtain ⟨⟨-, -, -, -, -, -, hcode, -, hy, hlen, hl⟩, hin, hse⟩ := cw
  obtain ⟨hx, hb, hml, ho, -⟩ := S
  obtain ⟨-, ⟨cellB, hcB, hoB, hclB⟩, hPc⟩ := hp
  intro T hT X
  rcases vx_callV X hx (C := C) (bytes := bytes) (maxL := maxL) (ret := ret) ho hl hin hse hcode hy hK (by rw [hT]; exact hcB) hoB hclB hg (hsize.trans hml.symm) (argsL := As) (rest := rest) (fun sig h => hn.trans (hlen sig h)) hstack hW (by rw [hb]; exact hdg)
    (fun vm₁ hW₁ => ⟨hf.1, hf.2, hPc (T.setVm vm₁) hT hW₁⟩) with ⟨v, vm₁, ⟨U', l2, c2, s2⟩, hW₁, X', ⟨g', mk, t, L, e1, e2, hq, h1, hL, h2, h3⟩, st⟩ | ⟨q, vm₁, ⟨U', l2, c2, s2⟩, hW₁, X', ⟨g', mk, t, L, E, ce, e1, e2, hq, hce, hcv, hcl, h1, hL, h2, h3⟩, st⟩
  · dsimp only [Pt.U, Pt.locs, Pt.cells, Pt.slots] at X' e1 e2 h1 h2 h3 st
    subst h1; subst h2; subst h3
    exact Or.inl ⟨v, (T.setVm vm₁).calling g' mk (Value.ref b :: As).toArray, t, U', L, hT, X', hL, e1, e2, hq, st⟩
  · dsimp only [Pt.U, Pt.locs, Pt.cells, Pt.slots] at X' e1 e2 h1 h2 h3 st hcl
    subst h1; subst h2; subst h3
    exact Or.inr ⟨q, (T.setVm vm₁).calling g' mk (Value.ref b :: As).toArray, t, U', L, E, ce, hT, X', hL, e1, e2, hq, hce, hcv, vx_cls hW₁ hcl, st⟩
theorem vx_runS (S : CallFix p m c cc nL s args Ts own) (hM : vx_Met l y ws rm Pc Qc XC mc ms free) (cw : CallB R s args own index y bytes maxL ret ws rm mc ms n ∧ (Cond.static y).before args s = true) (hp : PreS s H Pc As)
    (hg : g.method = m) (hn : As.length = n) (hsize : g.locals.size = nL) (hstack : g.stack = As.reverse ++ rest) (hW : 2 * g.monitorRoom + (rest.map fun v => v.category).sum ≤ 8) (hdg : decode cc g.pc = .ok (.invokestatic index, 3)) (hf : cells + mc ≤ R.cells ∧ slots + ms ≤ R.slots) :
    vx_Run p l e R s m args below meth c H locs cells slots mc ms g rest (Qc As.toArray) XC free := by
  have hK : vx_Back l R p e below s args y 3 8 (PreOf R mc ms Pc) (PostOf Qc mc ms free) (vx_Post XC mc ms free) := vx_callBack cw.1 hM hp.1
  obtain ⟨⟨-, -, -, -, -, -, hcode, hini, hy, hlen, hl⟩, hstt⟩ := cw
  obtain ⟨hx, hb, hml, ho, -⟩ := S
  intro T hT X
  rcases vx_callS X hx (bytes := bytes) (maxL := maxL) (ret := ret) ho hl hstt hini hcode hy hK hg (hsize.trans hml.symm) (argsL := As) (rest := rest) (fun sig h => hn.trans (hlen sig h)) hstack hW (by rw [hb]; exact hdg)
    (fun vm₁ hW₁ => ⟨hf.1, hf.2, hp.2 (T.setVm vm₁) hT hW₁⟩) with ⟨v, vm₁, ⟨U', l2, c2, s2⟩, hW₁, X', ⟨g', mk, t, L, e1, e2, hq, h1, hL, h2, h3⟩, st⟩ | ⟨q, vm₁, ⟨U', l2, c2, s2⟩, hW₁, X', ⟨g', mk, t, L, E, ce, e1, e2, hq, hce, hcv, hcl, h1, hL, h2, h3⟩, st⟩
  · dsimp only [Pt.U, Pt.locs, Pt.cells, Pt.slots] at X' e1 e2 h1 h2 h3 st
    subst h1; subst h2; subst h3
    exact Or.inl ⟨v, (T.setVm vm₁).calling g' mk As.toArray, t, U', L, hT, X', hL, e1, e2, hq, st⟩
  · dsimp only [Pt.U, Pt.locs, Pt.cells, Pt.slots] at X' e1 e2 h1 h2 h3 st hcl
    subst h1; subst h2; subst h3
    exact Or.inr ⟨q, (T.setVm vm₁).calling g' mk As.toArray, t, U', L, E, ce, hT, X', hL, e1, e2, hq, hce, hcv, vx_cls hW₁ hcl, st⟩
end Runs
section Rows
variable {p : Program} {l : Launch} {e : Env} {R : Room} {s : State} {m : MethodId} {args : Array Value} {below : List Frame} {meth : Method} {c : Code} {H : Heap} {locs : List Loc} {cells slots : Nat} {Q : State → Prop}
variable {mc ms : Nat} {free : Addr → Prop} {A0 A1 : Nat → Prop} {H0 : Heap} {a : Array Value} {pc : Nat} {ls : Array Slot} {st0 rest : List Value}
theorem vx_keep {st₀ t T' : State} {L : List Loc} (h0 : st₀.heap = H) (e1 : T'.heap = t.heap) (hS : va_S A0 H0 H locs) (hA : ∀ q, q < H.size → A1 q → A0 q) (hf : ∀ q, free q → A0 q) (hL : ∀ q ∈ L, free q.base) (hF : va_F A1 st₀ t) :
    H.size ≤ T'.heap.size ∧ (∀ q : Nat, q < H.size → ¬ A1 q → T'.heap[q]? = H[q]?) ∧ va_S A0 H0 T'.heap (locs ++ L) := by
  obtain ⟨hz, hk⟩ := hF
  rw [h0] at hz hk
  exact ⟨by rw [e1]; exact hz, fun q h1 h2 => by rw [e1]; exact hk q h1 h2,
    ⟨Nat.le_trans hS.1 (by rw [e1]; exact hz), fun q h1 h2 => by rw [e1, hk q (Nat.lt_of_lt_of_le h1 hS.1) (fun z => h2 (hA q (Nat.lt_of_lt_of_le h1 hS.1) z))]; exact hS.2.1 q h1 h2, fun q hq => by
      rcases List.mem_append.mp hq with h | h
      · exact hS.2.2 q h
      · exact hf _ (hL q h)⟩⟩
theorem vx_calli {S SX : Type} {post : Int32 → S → Prop} {px : SX → Prop} {B : S → State → Prop} {BX : String → SX → State → Prop} {AX : Nat → Prop} (hr : vx_Run p l e R s m args below meth c H locs cells slots mc ms (F0 m pc ls st0) rest (va_Qi post B A1 a) (vx_X px BX AX) free) (hS : va_S A0 H0 H locs) (hA : ∀ q, q < H.size → A1 q → A0 q) (hf : ∀ q, free q → A0 q) (hAX : ∀ q, q < H.size → AX q → A0 q)
    (kx : ∀ (E : String) (ce : Cell) (q9 : Addr) (u : SX) (t : State) (H1 : Heap) (locs1 : List Loc), t.heap = H1 → s.vm.Alike t.vm → px u → BX E u t → H.size ≤ H1.size → (∀ q : Nat, q < H.size → ¬ AX q → H1[q]? = H[q]?) → va_S A0 H0 H1 locs1 → H1[q9]? = some ce → ce.vm = .none → s.vm.findClass E = some ce.cls → vx_W p l e R s m args below meth c H1 locs1 (cells + mc) (slots + ms) Q (F0 m pc ls rest) q9)
    (kk : ∀ (r : Int32) (u : S) (t : State) (H1 : Heap) (locs1 : List Loc), t.heap = H1 → s.vm.Alike t.vm → post r u → B u t → H.size ≤ H1.size → (∀ q : Nat, q < H.size → ¬ A1 q → H1[q]? = H[q]?) → va_S A0 H0 H1 locs1 → W p l e R s m args below meth c H1 locs1 (cells + mc) (slots + ms) Q (F0 m (pc + 3) ls (.int r :: rest))) : W p l e R s m args below meth c H locs cells slots Q (F0 m pc ls st0) := by
  intro T hT X
  rcases hr T hT X with ⟨v, st₀, t, T', L, h0, X', hL, e1, e2, ⟨⟨r, u, hv, hp, hb⟩, hF⟩, st⟩ | ⟨q, st₀, t, T', L, E, ce, h0, X', hL, e1, e2, ⟨u, hp, hb, hF⟩, hce, hcv, hcl, st⟩
  · cases hv
    obtain ⟨k1, k2, k3⟩ := vx_keep h0 e1 hS hA hf hL hF
    obtain ⟨t2, a1, b1⟩ := kk r u t T'.heap (locs ++ L) e1.symm (by rw [← e2]; exact X'.warmed.alike) hp hb k1 k2 k3 T' rfl X'
    exact ⟨t2, st t2 a1, b1⟩
  · obtain ⟨k1, k2, k3⟩ := vx_keep h0 e1 hS hAX hf hL hF
    obtain ⟨t2, a1, b1⟩ := kx E ce q u t T'.heap (locs ++ L) e1.symm (by rw [← e2]; exact X'.warmed.alike) hp hb k1 k2 k3 (by rw [e1]; exact hce) hcv hcl T' rfl X'
    exact ⟨t2, st.trans a1, b1⟩
theorem vx_calll {S SX : Type} {post : Int64 → S → Prop} {px : SX → Prop} {B : S → State → Prop} {BX : String → SX → State → Prop} {AX : Nat → Prop} (hr : vx_Run p l e R s m args below meth c H locs cells slots mc ms (F0 m pc ls st0) rest (va_Ql post B A1 a) (vx_X px BX AX) free) (hS : va_S A0 H0 H locs) (hA : ∀ q, q < H.size → A1 q → A0 q) (hf : ∀ q, free q → A0 q) (hAX : ∀ q, q < H.size → AX q → A0 q)
    (kx : ∀ (E : String) (ce : Cell) (q9 : Addr) (u : SX) (t : State) (H1 : Heap) (locs1 : List Loc), t.heap = H1 → s.vm.Alike t.vm → px u → BX E u t → H.size ≤ H1.size → (∀ q : Nat, q < H.size → ¬ AX q → H1[q]? = H[q]?) → va_S A0 H0 H1 locs1 → H1[q9]? = some ce → ce.vm = .none → s.vm.findClass E = some ce.cls → vx_W p l e R s m args below meth c H1 locs1 (cells + mc) (slots + ms) Q (F0 m pc ls rest) q9)
    (kk : ∀ (r : Int64) (u : S) (t : State) (H1 : Heap) (locs1 : List Loc), t.heap = H1 → s.vm.Alike t.vm → post r u → B u t → H.size ≤ H1.size → (∀ q : Nat, q < H.size → ¬ A1 q → H1[q]? = H[q]?) → va_S A0 H0 H1 locs1 → W p l e R s m args below meth c H1 locs1 (cells + mc) (slots + ms) Q (F0 m (pc + 3) ls (.long r :: rest))) : W p l e R s m args below meth c H locs cells slots Q (F0 m pc ls st0) := by
  intro T hT X
  rcases hr T hT X with ⟨v, st₀, t, T', L, h0, X', hL, e1, e2, ⟨⟨r, u, hv, hp, hb⟩, hF⟩, st⟩ | ⟨q, st₀, t, T', L, E, ce, h0, X', hL, e1, e2, ⟨u, hp, hb, hF⟩, hce, hcv, hcl, st⟩
  · cases hv
    obtain ⟨k1, k2, k3⟩ := vx_keep h0 e1 hS hA hf hL hF
    obtain ⟨t2, a1, b1⟩ := kk r u t T'.heap (locs ++ L) e1.symm (by rw [← e2]; exact X'.warmed.alike) hp hb k1 k2 k3 T' rfl X'
    exact ⟨t2, st t2 a1, b1⟩
  · obtain ⟨k1, k2, k3⟩ := vx_keep h0 e1 hS hAX hf hL hF
    obtain ⟨t2, a1, b1⟩ := kx E ce q u t T'.heap (locs ++ L) e1.symm (by rw [← e2]; exact X'.warmed.alike) hp hb k1 k2 k3 (by rw [e1]; exact hce) hcv hcl T' rfl X'
    exact ⟨t2, st.trans a1, b1⟩
theorem vx_callf {S SX : Type} {post : UInt32 → S → Prop} {px : SX → Prop} {B : S → State → Prop} {BX : String → SX → State → Prop} {AX : Nat → Prop} (hr : vx_Run p l e R s m args below meth c H locs cells slots mc ms (F0 m pc ls st0) rest (va_Qf post B A1 a) (vx_X px BX AX) free) (hS : va_S A0 H0 H locs) (hA : ∀ q, q < H.size → A1 q → A0 q) (hf : ∀ q, free q → A0 q) (hAX : ∀ q, q < H.size → AX q → A0 q)
    (kx : ∀ (E : String) (ce : Cell) (q9 : Addr) (u : SX) (t : State) (H1 : Heap) (locs1 : List Loc), t.heap = H1 → s.vm.Alike t.vm → px u → BX E u t → H.size ≤ H1.size → (∀ q : Nat, q < H.size → ¬ AX q → H1[q]? = H[q]?) → va_S A0 H0 H1 locs1 → H1[q9]? = some ce → ce.vm = .none → s.vm.findClass E = some ce.cls → vx_W p l e R s m args below meth c H1 locs1 (cells + mc) (slots + ms) Q (F0 m pc ls rest) q9)
    (kk : ∀ (r : UInt32) (u : S) (t : State) (H1 : Heap) (locs1 : List Loc), t.heap = H1 → s.vm.Alike t.vm → post r u → B u t → H.size ≤ H1.size → (∀ q : Nat, q < H.size → ¬ A1 q → H1[q]? = H[q]?) → va_S A0 H0 H1 locs1 → W p l e R s m args below meth c H1 locs1 (cells + mc) (slots + ms) Q (F0 m (pc + 3) ls (.float r :: rest))) : W p l e R s m args below meth c H locs cells slots Q (F0 m pc ls st0) := by
  intro T hT X
  rcases hr T hT X with ⟨v, st₀, t, T', L, h0, X', hL, e1, e2, ⟨⟨r, u, hv, hp, hb⟩, hF⟩, st⟩ | ⟨q, st₀, t, T', L, E, ce, h0, X', hL, e1, e2, ⟨u, hp, hb, hF⟩, hce, hcv, hcl, st⟩
  · cases hv
    obtain ⟨k1, k2, k3⟩ := vx_keep h0 e1 hS hA hf hL hF
    obtain ⟨t2, a1, b1⟩ := kk r u t T'.heap (locs ++ L) e1.symm (by rw [← e2]; exact X'.warmed.alike) hp hb k1 k2 k3 T' rfl X'
    exact ⟨t2, st t2 a1, b1⟩
  · obtain ⟨k1, k2, k3⟩ := vx_keep h0 e1 hS hAX hf hL hF
    obtain ⟨t2, a1, b1⟩ := kx E ce q u t T'.heap (locs ++ L) e1.symm (by rw [← e2]; exact X'.warmed.alike) hp hb k1 k2 k3 (by rw [e1]; exact hce) hcv hcl T' rfl X'
    exact ⟨t2, st.trans a1, b1⟩
theorem vx_calld {S SX : Type} {post : UInt64 → S → Prop} {px : SX → Prop} {B : S → State → Prop} {BX : String → SX → State → Prop} {AX : Nat → Prop} (hr : vx_Run p l e R s m args below meth c H locs cells slots mc ms (F0 m pc ls st0) rest (va_Qd post B A1 a) (vx_X px BX AX) free) (hS : va_S A0 H0 H locs) (hA : ∀ q, q < H.size → A1 q → A0 q) (hf : ∀ q, free q → A0 q) (hAX : ∀ q, q < H.size → AX q → A0 q)
    (kx : ∀ (E : String) (ce : Cell) (q9 : Addr) (u : SX) (t : State) (H1 : Heap) (locs1 : List Loc), t.heap = H1 → s.vm.Alike t.vm → px u → BX E u t → H.size ≤ H1.size → (∀ q : Nat, q < H.size → ¬ AX q → H1[q]? = H[q]?) → va_S A0 H0 H1 locs1 → H1[q9]? = some ce → ce.vm = .none → s.vm.findClass E = some ce.cls → vx_W p l e R s m args below meth c H1 locs1 (cells + mc) (slots + ms) Q (F0 m pc ls rest) q9)
    (kk : ∀ (r : UInt64) (u : S) (t : State) (H1 : Heap) (locs1 : List Loc), t.heap = H1 → s.vm.Alike t.vm → post r u → B u t → H.size ≤ H1.size → (∀ q : Nat, q < H.size → ¬ A1 q → H1[q]? = H[q]?) → va_S A0 H0 H1 locs1 → W p l e R s m args below meth c H1 locs1 (cells + mc) (slots + ms) Q (F0 m (pc + 3) ls (.double r :: rest))) : W p l e R s m args below meth c H locs cells slots Q (F0 m pc ls st0) := by
  intro T hT X
  rcases hr T hT X with ⟨v, st₀, t, T', L, h0, X', hL, e1, e2, ⟨⟨r, u, hv, hp, hb⟩, hF⟩, st⟩ | ⟨q, st₀, t, T', L, E, ce, h0, X', hL, e1, e2, ⟨u, hp, hb, hF⟩, hce, hcv, hcl, st⟩
  · cases hv
    obtain ⟨k1, k2, k3⟩ := vx_keep h0 e1 hS hA hf hL hF
    obtain ⟨t2, a1, b1⟩ := kk r u t T'.heap (locs ++ L) e1.symm (by rw [← e2]; exact X'.warmed.alike) hp hb k1 k2 k3 T' rfl X'
    exact ⟨t2, st t2 a1, b1⟩
  · obtain ⟨k1, k2, k3⟩ := vx_keep h0 e1 hS hAX hf hL hF
    obtain ⟨t2, a1, b1⟩ := kx E ce q u t T'.heap (locs ++ L) e1.symm (by rw [← e2]; exact X'.warmed.alike) hp hb k1 k2 k3 (by rw [e1]; exact hce) hcv hcl T' rfl X'
    exact ⟨t2, st.trans a1, b1⟩
theorem vx_callv {S SX : Type} {post : S → Prop} {px : SX → Prop} {B : S → State → Prop} {BX : String → SX → State → Prop} {AX : Nat → Prop} (hr : vx_Run p l e R s m args below meth c H locs cells slots mc ms (F0 m pc ls st0) rest (va_Qv post B A1 a) (vx_X px BX AX) free) (hS : va_S A0 H0 H locs) (hA : ∀ q, q < H.size → A1 q → A0 q) (hf : ∀ q, free q → A0 q) (hAX : ∀ q, q < H.size → AX q → A0 q)
    (kx : ∀ (E : String) (ce : Cell) (q9 : Addr) (u : SX) (t : State) (H1 : Heap) (locs1 : List Loc), t.heap = H1 → s.vm.Alike t.vm → px u → BX E u t → H.size ≤ H1.size → (∀ q : Nat, q < H.size → ¬ AX q → H1[q]? = H[q]?) → va_S A0 H0 H1 locs1 → H1[q9]? = some ce → ce.vm = .none → s.vm.findClass E = some ce.cls → vx_W p l e R s m args below meth c H1 locs1 (cells + mc) (slots + ms) Q (F0 m pc ls rest) q9)
    (kk : ∀ (u : S) (t : State) (H1 : Heap) (locs1 : List Loc), t.heap = H1 → s.vm.Alike t.vm → post u → B u t → H.size ≤ H1.size → (∀ q : Nat, q < H.size → ¬ A1 q → H1[q]? = H[q]?) → va_S A0 H0 H1 locs1 → W p l e R s m args below meth c H1 locs1 (cells + mc) (slots + ms) Q (F0 m (pc + 3) ls (rest))) : W p l e R s m args below meth c H locs cells slots Q (F0 m pc ls st0) := by
  intro T hT X
  rcases hr T hT X with ⟨v, st₀, t, T', L, h0, X', hL, e1, e2, ⟨⟨u, hv, hp, hb⟩, hF⟩, st⟩ | ⟨q, st₀, t, T', L, E, ce, h0, X', hL, e1, e2, ⟨u, hp, hb, hF⟩, hce, hcv, hcl, st⟩
  · cases hv
    obtain ⟨k1, k2, k3⟩ := vx_keep h0 e1 hS hA hf hL hF
    obtain ⟨t2, a1, b1⟩ := kk u t T'.heap (locs ++ L) e1.symm (by rw [← e2]; exact X'.warmed.alike) hp hb k1 k2 k3 T' rfl X'
    exact ⟨t2, st t2 a1, b1⟩
  · obtain ⟨k1, k2, k3⟩ := vx_keep h0 e1 hS hAX hf hL hF
    obtain ⟨t2, a1, b1⟩ := kx E ce q u t T'.heap (locs ++ L) e1.symm (by rw [← e2]; exact X'.warmed.alike) hp hb k1 k2 k3 (by rw [e1]; exact hce) hcv hcl T' rfl X'
    exact ⟨t2, st.trans a1, b1⟩
end Rows
section Ends
variable {p : Program} {l : Launch} {e : Env} {R : Room} {s : State} {m : MethodId} {args : Array Value} {below : List Frame} {meth : Method} {c : Code} {H : Heap} {locs : List Loc} {cells slots : Nat} {Q : State → Prop}
variable {mc ms : Nat} {free : Addr → Prop} {A0 A1 : Nat → Prop} {H0 : Heap} {a : Array Value} {ls : Array Slot} {st0 rest : List Value}
variable {Qc : Array Value → State → Outcome → State → Prop} {XC : String → State → State → Prop}
/-- what a body that may throw owes at its end -/
def vx_MQ (below : List Frame) (Qc : Array Value → State → Outcome → State → Prop) (XC : String → State → State → Prop) (a : Array Value) (s : State) (mc ms : Nat) (free : Addr → Prop) : State → Prop := fun t =>
  ∃ o, t.status = .running ∧ Ended t below o ∧ vx_Q Qc XC mc ms free a s o t
theorem vx_ret {g : JFrame} {mc ms : Nat} (k : W p l e R s m args below meth c H locs cells slots (MQ below Qc args s mc ms free) g) : W p l e R s m args below meth c H locs cells slots (vx_MQ below Qc XC args s mc ms free) g := by
  intro T hT X
  obtain ⟨t, a1, o, b1, b2, b3, b4⟩ := k T hT X
  exact ⟨t, a1, o, b1, b2, Or.inl ⟨b3, b4⟩⟩
/-- not caught here: it goes on to the caller -/
theorem vx_widen {g : JFrame} {q : Addr} {k n : Nat} (h1 : cells ≤ k) (h2 : slots ≤ n) (kk : vx_W p l e R s m args below meth c H locs k n Q g q) : vx_W p l e R s m args below meth c H locs cells slots Q g q := fun T hT X => kk T hT (stand_widen X h1 h2)
theorem vx_out {pc : Nat} {E : String} {ce : Cell} {q : Addr} {mc ms : Nat} (hout : ∀ x ∈ c.exceptionTable.toList, covers x pc = false) (hlocks : meth.locks = false) (hcell : H[q]? = some ce) (hv : ce.vm = .none) (hcl : s.vm.findClass E = some ce.cls)
    (hx : ∀ t : State, t.heap = H → s.vm.Alike t.vm → XC E s t) (hf : ∀ z ∈ locs, free z.base) (hc : cells ≤ mc) (hs : slots ≤ ms) :
    vx_W p l e R s m args below meth c H locs cells slots (vx_MQ below Qc XC args s mc ms free) (F0 m pc ls rest) q := by
  intro T hT X
  obtain ⟨st1, hrun, hend, hW, hsm⟩ := X.leaveThrown q (g := F0 m pc ls rest) rfl rfl rfl hout hlocks
  have hcell9 : (T.setFrames (.throwing q :: below)).heap[q]? = some ce := by
    show T.heap[q]? = some ce
    rw [hT]; exact hcell
  exact ⟨_, st1, .threw q, hrun, hend, Or.inr ⟨q, rfl, E, ce, locs, hx _ hT hW.alike, hcell9, hv, hcl, hW, hsm.mono hc hs, hf⟩⟩
theorem vx_frame {U : State} {k n : Nat} (h : s.sameButNew ({ U with vm := s.vm } : State) locs k n) : s.heap.size ≤ U.heap.size ∧ ∀ q : Nat, q < s.heap.size → (∀ z ∈ locs, z.base ≠ q) → U.heap[q]? = s.heap[q]? := by
  obtain ⟨-, h2, -, -, -, h6⟩ := h
  refine ⟨h2, fun q hq hz => ?_⟩
  obtain ⟨c9, e1, e2, e3, e4⟩ := h6 q _ (Array.getElem?_eq_getElem hq)
  have hs : c9.slots = (s.heap[q]).slots := Array.ext_getElem? fun i => e4 i fun hm => hz _ hm rfl
  have h9 : c9 = s.heap[q] := by
    rw [hs] at e2
    exact e2
  have e5 : U.heap[q]? = some c9 := e1
  rw [e5, h9, Array.getElem?_eq_getElem hq]
/-- the words of a throw but the four that speak of the heap -/
def vx_no (w : Cond) : Bool := decide (w ≠ .isRef (.static Bundle.tN "UNASSIGNED_STACK" Bundle.steD)) && decide (w ≠ .isRef (.static Bundle.tN "SUPPRESSED_SENTINEL" Bundle.listD)) && decide (w ≠ .laysStatic Bundle.tN "UNASSIGNED_STACK" Bundle.steD) && decide (w ≠ .laysStatic Bundle.tN "SUPPRESSED_SENTINEL" Bundle.listD)
def vx_at0 (own : String) (ic : Nat) (X : String) (names : List String) : List Cond := (Bundle.ownAtoms0 own ic X names).filter vx_no
def vx_atS (own : String) (ic : Nat) (X : String) (names : List String) : List Cond := (Bundle.ownAtoms own ic X names).filter vx_no
/-- a word that the tables alone decide, or a good one -/
def vx_ot (w : Cond) : Bool := w.onTables || goodWord w
theorem vx_ot_at {args a' : Array Value} {s U : State} {w : Cond} (hW : s.WarmedH U.vm) (hvm : s.vm = U.vm) (hg : vx_ot w = true) (h : w.before args s = true) : w.before a' U = true := by
  simp only [vx_ot, Bool.or_eq_true] at hg
  rcases hg with hg | hg
  · exact va_tabs hg hvm h
  · exact word_at hW (good_of_word hg) h
/-- a list's words: the good ones out of the method's own list, the others by premises of their own -/
theorem vx_hat {args : Array Value} {s : State} {L B : List Cond} (h1 : ∀ w ∈ L.filter goodWord, w.before args s = true) (h2 : ∀ w ∈ L.filter (fun w => !goodWord w), w ∈ B) (h3 : ∀ w ∈ B, w.before args s = true) : ∀ w ∈ L, w.before args s = true := by
  intro w hw
  by_cases g : goodWord w = true
  · exact h1 w (List.mem_filter.mpr ⟨hw, g⟩)
  · refine h3 w (h2 w (List.mem_filter.mpr ⟨hw, ?_⟩))
    show (!goodWord w) = true
    cases hgw : goodWord w
    · rfl
    · exact absurd hgw g
theorem vx_c {args : Array Value} {s : State} {w : Cond} {B : List Cond} (h : w.before args s = true) (t : ∀ w ∈ B, w.before args s = true) : ∀ w' ∈ w :: B, w'.before args s = true := fun w' h' => (List.mem_cons.mp h').elim (fun e => by rw [e]; exact h) (t w')
theorem vx_n {args : Array Value} {s : State} : ∀ w ∈ ([] : List Cond), w.before args s = true := fun _ h => nomatch h
theorem vx_own {args : Array Value} {s : State} {L : List Cond} (h1 : ∀ w ∈ L.filter vx_no, w.before args s = true)
    (hU : (Cond.isRef (.static Bundle.tN "UNASSIGNED_STACK" Bundle.steD)).before args s = true) (hN : (Cond.isRef (.static Bundle.tN "SUPPRESSED_SENTINEL" Bundle.listD)).before args s = true)
    (lU : (Cond.laysStatic Bundle.tN "UNASSIGNED_STACK" Bundle.steD).before args s = true) (lN : (Cond.laysStatic Bundle.tN "SUPPRESSED_SENTINEL" Bundle.listD).before args s = true) : ∀ w ∈ L, w.before args s = true := by
  intro w hw
  by_cases e1 : w = .isRef (.static Bundle.tN "UNASSIGNED_STACK" Bundle.steD)
  · rw [e1]; exact hU
  · by_cases e2 : w = .isRef (.static Bundle.tN "SUPPRESSED_SENTINEL" Bundle.listD)
    · rw [e2]; exact hN
    · by_cases e3 : w = .laysStatic Bundle.tN "UNASSIGNED_STACK" Bundle.steD
      · rw [e3]; exact lU
      · by_cases e4 : w = .laysStatic Bundle.tN "SUPPRESSED_SENTINEL" Bundle.listD
        · rw [e4]; exact lN
        · exact h1 w (List.mem_filter.mpr ⟨hw, by unfold vx_no; rw [decide_eq_true e1, decide_eq_true e2, decide_eq_true e3, decide_eq_true e4]; rfl⟩)
/-- where a static field lies, its class's statics cell in H -/
def vx_L (C n d : String) (A : Nat → Prop) (U : State) (H : Heap) : Prop := ∃ (c : ClassId) (k : Class) (i : Nat) (f : Field) (a : Nat) (cell : Cell), U.vm.findClass C = some c ∧ U.fieldFound? C n d = some (c, k, i, f) ∧ f.isStatic = true ∧ k.statics = some a ∧ H[a]? = some cell ∧ cell.vm.isStatics = true ∧ cell.cls = c ∧ f.slot < cell.slots.size ∧ k.staticTypes[f.slot]? = some f.type ∧ ¬ A a
theorem vx_L.moved {C n d : String} {A : Nat → Prop} {u U : State} {H : Heap} (hvm : u.vm.Alike U.vm) (h : vx_L C n d A u H) : vx_L C n d A U H := by
  obtain ⟨c, k, i, f, a, cell, h1, h2, h3, h4, h5, h6, h7, h8, h9, h10⟩ := h
  obtain ⟨k', hi', he⟩ := State.fieldFound?_setVm hvm h2
  exact ⟨c, k', i, f, a, cell, by rw [hvm.findClass]; exact h1, hi', h3, by rw [he]; exact h4, h5, h6, h7, h8, by rw [he]; exact h9, h10⟩
theorem vx_L.kept {C n d : String} {A : Nat → Prop} {U : State} {H H1 : Heap} (h : vx_L C n d A U H) (hq : ∀ a : Nat, a < H.size → ¬ A a → H1[a]? = H[a]?) : vx_L C n d A U H1 := by
  obtain ⟨c, k, i, f, a, cell, h1, h2, h3, h4, h5, h6, h7, h8, h9, h10⟩ := h
  exact ⟨c, k, i, f, a, cell, h1, h2, h3, h4, by rw [hq a (Array.getElem?_eq_some_iff.mp h5).1 h10]; exact h5, h6, h7, h8, h9, h10⟩
theorem vx_L.narrow {C n d : String} {A B : Nat → Prop} {U : State} {H : Heap} (h : vx_L C n d A U H) (hAB : ∀ q, B q → A q) : vx_L C n d B U H := by
  obtain ⟨c, k, i, f, a, cell, h1, h2, h3, h4, h5, h6, h7, h8, h9, h10⟩ := h
  exact ⟨c, k, i, f, a, cell, h1, h2, h3, h4, h5, h6, h7, h8, h9, fun z => h10 (hAB _ z)⟩
theorem vx_L.word {C n d : String} {A : Nat → Prop} {s : State} {args : Array Value} (h : vx_L C n d A s s.heap) : (Cond.laysStatic C n d).before args s = true := by
  obtain ⟨c, k, i, f, a, cell, h1, h2, h3, h4, h5, h6, h7, h8, h9, -⟩ := h
  show (Cond.laysStatic C n d).holds args s none s [] = true
  exact Cond.laysStatic_of h1 h2 h3 h4 h5 h6 h7 h8 h9
/-- .. and what it holds: null or some reference -/
def vx_Zq (C n d : String) (A : Nat → Prop) (U : State) (H : Heap) : Prop := va_Zq C n d A U H ∧ vx_L C n d A U H
theorem vx_Zq.moved {C n d : String} {A : Nat → Prop} {u U : State} {H : Heap} (hvm : u.vm.Alike U.vm) (h : vx_Zq C n d A u H) : vx_Zq C n d A U H := ⟨va_Zq.moved hvm h.1, vx_L.moved hvm h.2⟩
theorem vx_Zq.kept {C n d : String} {A : Nat → Prop} {U : State} {H H1 : Heap} (h : vx_Zq C n d A U H) (hq : ∀ a : Nat, a < H.size → ¬ A a → H1[a]? = H[a]?) : vx_Zq C n d A U H1 := ⟨va_Zq.kept h.1 hq, vx_L.kept h.2 hq⟩
theorem vx_Zq.narrow {C n d : String} {A B : Nat → Prop} {U : State} {H : Heap} (h : vx_Zq C n d A U H) (hAB : ∀ q, B q → A q) : vx_Zq C n d B U H := ⟨va_Zq.narrow h.1 hAB, vx_L.narrow h.2 hAB⟩
theorem vx_Zqof {args : Array Value} {s : State} {C n d : String} {A : Nat → Prop} (hl : (Cond.laysStatic C n d).before args s = true) (hini : (Cond.initialized C).before args s = true) (h : (Cond.isRef (.static C n d)).before args s = true) (hA : ∀ a : Nat, a < s.heap.size → ¬ A a) : vx_Zq C n d A s s.heap := by
  refine ⟨va_Zqof hl hini h hA, ?_⟩
  obtain ⟨c, k, i, f, a, cell, h1, h2, h3, h4, h5, h6, h7, h8, h9⟩ := Cond.laysStatic_spec hl
  exact ⟨c, k, i, f, a, cell, h1, h2, h3, h4, h5, h6, h7, h8, h9, hA a (Array.getElem?_eq_some_iff.mp h5).1⟩
theorem vx_isRef {C n d : String} {v : Value} {A : Nat → Prop} {s : State} {args : Array Value} (h : va_Z C n d v A s s.heap) (hv : v.isRef = true) : (Cond.isRef (.static C n d)).before args s = true := by
  obtain ⟨cf, kf, fi, f, a, cell, h1, h2, h3, h4, h5, h6, h7, -⟩ := h
  have he : (Term.static C n d).eval args s none [] s = some v := by
    simp [Term.eval, State.fieldNamed?, h1, h2, h4, h5, h6, h7]
  simp only [Cond.before, Cond.holds, Cond.value, he]
  cases v <;> simp_all [Value.isRef]
theorem vx_isRefq {C n d : String} {A : Nat → Prop} {s : State} {args : Array Value} (h : va_Zq C n d A s s.heap) : (Cond.isRef (.static C n d)).before args s = true := by
  rcases h with h | ⟨t, h⟩
  · exact vx_isRef h rfl
  · exact vx_isRef h rfl
/-- the same frame, seen from here: as if the method were called anew in this heap -/
theorem vx_rebase {T : State} (X : Stand p l e R s m args below meth c T locs cells slots) {R' : Room} (hf : R'.frames ≤ R.frames) (hl : R'.locals ≤ R.locals) (hc : cells + R'.cells ≤ R.cells) (hs : slots + R'.slots ≤ R.slots) :
    Stand p l e R' ((T.setVm s.vm).setFrames (.invoking m args :: below)) m args below meth c T [] 0 0 := by
  have htop : (T.setVm s.vm).topJava?.isSome := X.here.top
  have hF : ((T.setVm s.vm).setFrames (.invoking m args :: below)).frames = .invoking m args :: below := State.frames_setFrames _ (State.cur_lt_of_top htop)
  obtain ⟨g₀, hg0⟩ := Option.isSome_iff_exists.mp htop
  obtain ⟨r, hr⟩ := State.topJava?_eq_some.mp hg0
  have hl9 : e.platform.stackLimits (T.setVm s.vm).me = e.platform.stackLimits s.me := X.limits
  have hb9 : (T.setVm s.vm).me.stackBytes = s.me.stackBytes := X.bytes
  refine ⟨X.admits, X.cas, X.clock, hF, ?_, X.hears, X.method, X.code, X.here, X.tail, X.warmed, ?_, ?_, ?_⟩
  · have h := X.room
    have hU : ((T.setVm s.vm).setFrames (.invoking m args :: below)).localsInUse = s.localsInUse := by
      rw [State.localsInUse_invoking hF (meth := meth) (c := c) X.method X.code, State.localsInUse_invoking X.frames X.method X.code]
    simp only [State.hasRoom, Bool.and_eq_true, decide_eq_true_eq] at h ⊢
    obtain ⟨⟨⟨⟨h1, h2, h3, h4, h5, h6⟩, h7⟩, h8⟩, h9⟩ := h
    rw [X.frames, List.length_cons] at h2 h3
    have q1 := X.heapSize
    have q2 := X.used
    simp only [hF, hU, List.length_cons, State.stackLimits_setFrames, State.stackBytes_setFrames, hl9, hb9]
    refine ⟨⟨⟨⟨by omega, by omega, by omega, by omega, by omega, h6⟩, ?_⟩, ?_⟩, X.book⟩
    · show T.heap.size + R'.cells ≤ e.platform.maxCells
      omega
    · show T.slotsUsed + R'.slots ≤ e.platform.maxSlots
      omega
  · rw [State.stackLimits_setFrames]; rfl
  · rw [State.stackBytes_setFrames]; rfl
  · refine ⟨?_, Nat.le_refl _, Nat.le_refl _, ?_, ?_, fun a c9 h9 => ⟨c9, h9, rfl, rfl, fun _ _ => rfl⟩⟩
    · obtain ⟨t, ht, -⟩ := State.frames_cons hr
      show T.setVm s.vm = { ((T.setVm s.vm).setFrames (.invoking m args :: below)).setFrames (T.setVm s.vm).frames with heap := T.heap, slotsUsed := T.slotsUsed }
      rw [State.setFrames_setFrames, State.setFrames_self ht]
      rfl
    · show T.slotsUsed = T.slotsUsed + ((T.heap.toList.drop T.heap.size).map (·.slots.size)).sum
      rw [List.drop_eq_nil_of_le (Nat.le_of_eq Array.length_toList)]
      rfl
    · show ((T.heap.toList.drop T.heap.size).map (·.slots.size)).sum ≤ 0
      rw [List.drop_eq_nil_of_le (Nat.le_of_eq Array.length_toList)]
      exact Nat.le_refl _
/-- 'throw new E()': new; dup; invokespecial; athrow -/
theorem vx_throw0 {cc : ByteArray} {pc : Nat} (hexec : p.tables.exec = Jvm.exec) (hb : c.code = cc) (hl : l.stackTraces = false) {own cls : String} {names : List String} {ik ic mc ms : Nat} {A : Nat → Prop}
    (hown : s.vm.findClass own = some m.cls) (hcls : Bundle.fit cls = true) (hnames : ∀ n ∈ names, Bundle.fit n = true)
    (hk : (Cond.classLink own ik cls).before args s = true) (hini : (Cond.initialized cls).before args s = true) (hat : ∀ w ∈ vx_at0 own ic cls names, w.before args s = true)
    (hgood : ∀ w ∈ Cond.classLink own ik cls :: Cond.initialized cls :: vx_at0 own ic cls names, vx_ot w = true)
    (hU : vx_Zq Bundle.tN "UNASSIGNED_STACK" Bundle.steD A s s.heap) (hN : vx_Zq Bundle.tN "SUPPRESSED_SENTINEL" Bundle.listD A s s.heap) (hS : va_S A s.heap H locs) (hsize : ls.size = c.maxLocals)
    (d0 : decode cc pc = .ok (.new ik, 3)) (d3 : decode cc (pc + 3) = .ok (.dup, 1)) (d4 : decode cc (pc + 4) = .ok (.invokespecial ic, 3)) (d7 : decode cc (pc + 7) = .ok (.athrow, 1))
    (hout : ∀ x ∈ c.exceptionTable.toList, covers x (pc + 7) = false)
    (hRframes : names.length + 3 < R.frames) (hRlocals : (rest.map fun v => v.category).sum + (13 * (names.length + 1) + 42) ≤ R.locals) (hRcells : cells + 1 ≤ R.cells) (hRslots : slots + 6 ≤ R.slots) (hlocks : meth.locks = false)
    (hx : ∀ t : State, s.vm.Alike t.vm → H.size ≤ t.heap.size → (∀ q : Nat, q < H.size → t.heap[q]? = H[q]?) → XC cls s t)
    (hf : ∀ z ∈ locs, free z.base) (hc : cells + 1 ≤ mc) (hs : slots + 6 ≤ ms) :
    W p l e R s m args below meth c H locs cells slots (vx_MQ below Qc XC args s mc ms free) (F0 m pc ls rest) := by
  intro T hT X
  have htr : e.platform.stackTraces = false := (show e.platform.stackTraces = l.stackTraces by rw [X.admits.platform]).trans hl
  have Y := vx_rebase X (R' := { frames := R.frames, locals := R.locals, cells := 1, slots := 6 }) (Nat.le_refl _) (Nat.le_refl _) hRcells hRslots
  obtain ⟨s', hA⟩ : ∃ z, z = (T.setVm s.vm).setFrames (.invoking m args :: below) := ⟨_, rfl⟩
  rw [← hA] at Y
  have hvm : s'.vm = s.vm := by rw [hA]; rfl
  have hhp : s'.heap = H := by rw [hA]; exact hT
  have hW0 : s.WarmedH s'.vm := by rw [hvm]; exact State.WarmedH.refl s
  have hat' : ∀ w ∈ vx_at0 own ic cls names, w.before args s' = true := fun w hw => vx_ot_at hW0 hvm.symm (hgood w (List.mem_cons_of_mem _ (List.mem_cons_of_mem _ hw))) (hat w hw)
  have hk' : (Cond.classLink own ik cls).before args s' = true := vx_ot_at hW0 hvm.symm (hgood _ List.mem_cons_self) hk
  have hini' : (Cond.initialized cls).before args s' = true := vx_ot_at hW0 hvm.symm (hgood _ (List.mem_cons_of_mem _ List.mem_cons_self)) hini
  have hU' : vx_Zq Bundle.tN "UNASSIGNED_STACK" Bundle.steD A s' s'.heap := by rw [hhp]; exact vx_Zq.moved hW0.alike (hU.kept hS.2.1)
  have hN' : vx_Zq Bundle.tN "SUPPRESSED_SENTINEL" Bundle.listD A s' s'.heap := by rw [hhp]; exact vx_Zq.moved hW0.alike (hN.kept hS.2.1)
  have h : ∀ w ∈ Bundle.ownAtoms0 own ic cls names, w.before args s' = true := vx_own hat' (vx_isRefq hU'.1) (vx_isRefq hN'.1) hU'.2.word hN'.2.word
  have hown' : s'.vm.findClass own = some m.cls := by rw [hvm]; exact hown
  have hins : (Cond.instantiable cls 6).before args s' = true := h _ (by simp [Bundle.ownAtoms0])
  obtain ⟨vm₁, cX, kX, hfX, hkX, -, -, X₁, st1⟩ := Y.newCold hexec (own := own) (C := cls) (index := ik) (n := 6) hown' hk' hins hini'
    (g := F0 m pc ls rest) rfl (by rw [hb]; exact d0) (Nat.le_refl _) (Nat.le_refl _)
  generalize hT1 : (T.setVm vm₁).pushCell { cls := cX, slots := kX.instanceTypes.map defaultValue, vm := .none } = T1 at X₁ st1
  have hcat : (Value.ref T.heap.size).category = 1 := rfl
  have hcellA : T1.heap[T.heap.size]? = some (freshCell cX kX) := by rw [← hT1]; exact State.heap_pushCell_size _ _
  have d3' : decode c.code (pc + 3) = .ok (.dup, 1) := by rw [hb]; exact d3
  obtain ⟨U, hsteps, hrun, hend, hW, hsame, ce, hce, hO⟩ := X₁.ctorThrow0 hexec htr (own := own) (cls := cls) (names := names) (ic := ic) hown' hcls hnames h (fun x hx => nomatch hx) hfX hkX hcellA (by rw [hhp, hT]; exact Nat.le_refl _)
    (g := { method := m, pc := pc + 4, locals := ls, stack := .ref T.heap.size :: .ref T.heap.size :: rest, locked := none }) rfl hsize rfl rfl (rest := rest) rfl
    (by rw [hb]; exact d4) (by rw [hb]; exact d7) hout hRframes (by simp only [List.map_cons, List.sum_cons, hcat]; omega) hlocks
  obtain ⟨f1, f2⟩ := vx_frame hsame
  rw [hhp] at f1 f2
  have hWs : s.WarmedH U.vm := State.WarmedH.trans hW0 hW
  have hcl : s.vm.findClass cls = some ce.cls := by
    have h9 := hO.cls
    rw [hvm] at h9
    exact h9
  have hall : s.sameButNew ({ U with vm := s.vm } : State) locs mc ms := by
    subst hA
    obtain ⟨e1, e2⟩ := hsame
    rw [State.setFrames_setFrames] at e1
    have h2 : (T.setVm s.vm).sameButNew ({ U with vm := s.vm } : State) [] (0 + 1) (0 + 6) := ⟨e1, e2⟩
    have h3 := X.same.trans h2
    rw [List.append_nil] at h3
    exact h3.mono hc hs
  refine ⟨U, ?_, .threw T.heap.size, hrun, hend, Or.inr ⟨T.heap.size, rfl, cls, ce, locs, hx U hWs.alike f1 (fun q hq => f2 q hq (fun z hz => nomatch hz)), hce, hO.vm, hcl, hWs, hall, hf⟩⟩
  refine st1 _ ?_
  show Steps p.tables e below (T1.setTop { method := m, pc := pc + 3, locals := ls, stack := .ref T.heap.size :: rest, locked := none }) _
  jvm_step X₁.here [X₁.here.top, hexec, d3', Value.category]
  exact hsteps
/-- 'throw new E("text")': new; dup; ldc; invokespecial; athrow -/
theorem vx_throwS {cc : ByteArray} {pc : Nat} (hexec : p.tables.exec = Jvm.exec) (hb : c.code = cc) (hl : l.stackTraces = false) {own cls text : String} {names : List String} {ik is ic mc ms sa : Nat} {A : Nat → Prop}
    (hown : s.vm.findClass own = some m.cls) (hcls : Bundle.fit cls = true) (hnames : ∀ n ∈ names, Bundle.fit n = true)
    (hk : (Cond.classLink own ik cls).before args s = true) (hini : (Cond.initialized cls).before args s = true) (hstr : vk_R own is text sa s) (hat : ∀ w ∈ vx_atS own ic cls names, w.before args s = true)
    (hgood : ∀ w ∈ Cond.classLink own ik cls :: Cond.initialized cls :: vx_atS own ic cls names, vx_ot w = true)
    (hU : vx_Zq Bundle.tN "UNASSIGNED_STACK" Bundle.steD A s s.heap) (hN : vx_Zq Bundle.tN "SUPPRESSED_SENTINEL" Bundle.listD A s s.heap) (hS : va_S A s.heap H locs) (hsize : ls.size = c.maxLocals)
    (d0 : decode cc pc = .ok (.new ik, 3)) (d3 : decode cc (pc + 3) = .ok (.dup, 1)) (d4 : decode cc (pc + 4) = .ok (.ldc is, 2)) (d6 : decode cc (pc + 6) = .ok (.invokespecial ic, 3)) (d9 : decode cc (pc + 9) = .ok (.athrow, 1))
    (hout : ∀ x ∈ c.exceptionTable.toList, covers x (pc + 9) = false)
    (hRframes : names.length + 3 < R.frames) (hRlocals : (rest.map fun v => v.category).sum + (13 * (names.length + 1) + 43) ≤ R.locals) (hRcells : cells + 1 ≤ R.cells) (hRslots : slots + 6 ≤ R.slots) (hlocks : meth.locks = false)
    (hx : ∀ t : State, s.vm.Alike t.vm → H.size ≤ t.heap.size → (∀ q : Nat, q < H.size → t.heap[q]? = H[q]?) → XC cls s t)
    (hf : ∀ z ∈ locs, free z.base) (hc : cells + 1 ≤ mc) (hs : slots + 6 ≤ ms) :
    W p l e R s m args below meth c H locs cells slots (vx_MQ below Qc XC args s mc ms free) (F0 m pc ls rest) := by
  intro T hT X
  have htr : e.platform.stackTraces = false := (show e.platform.stackTraces = l.stackTraces by rw [X.admits.platform]).trans hl
  have Y := vx_rebase X (R' := { frames := R.frames, locals := R.locals, cells := 1, slots := 6 }) (Nat.le_refl _) (Nat.le_refl _) hRcells hRslots
  obtain ⟨s', hA⟩ : ∃ z, z = (T.setVm s.vm).setFrames (.invoking m args :: below) := ⟨_, rfl⟩
  rw [← hA] at Y
  have hvm : s'.vm = s.vm := by rw [hA]; rfl
  have hhp : s'.heap = H := by rw [hA]; exact hT
  have hW0 : s.WarmedH s'.vm := by rw [hvm]; exact State.WarmedH.refl s
  have hat' : ∀ w ∈ vx_atS own ic cls names, w.before args s' = true := fun w hw => vx_ot_at hW0 hvm.symm (hgood w (List.mem_cons_of_mem _ (List.mem_cons_of_mem _ hw))) (hat w hw)
  have hk' : (Cond.classLink own ik cls).before args s' = true := vx_ot_at hW0 hvm.symm (hgood _ List.mem_cons_self) hk
  have hini' : (Cond.initialized cls).before args s' = true := vx_ot_at hW0 hvm.symm (hgood _ (List.mem_cons_of_mem _ List.mem_cons_self)) hini
  have hU' : vx_Zq Bundle.tN "UNASSIGNED_STACK" Bundle.steD A s' s'.heap := by rw [hhp]; exact vx_Zq.moved hW0.alike (hU.kept hS.2.1)
  have hN' : vx_Zq Bundle.tN "SUPPRESSED_SENTINEL" Bundle.listD A s' s'.heap := by rw [hhp]; exact vx_Zq.moved hW0.alike (hN.kept hS.2.1)
  have h : ∀ w ∈ Bundle.ownAtoms own ic cls names, w.before args s' = true := vx_own hat' (vx_isRefq hU'.1) (vx_isRefq hN'.1) hU'.2.word hN'.2.word
  have hown' : s'.vm.findClass own = some m.cls := by rw [hvm]; exact hown
  have hins : (Cond.instantiable cls 6).before args s' = true := h _ (by simp [Bundle.ownAtoms])
  obtain ⟨vm₁, cX, kX, hfX, hkX, -, -, X₁, st1⟩ := Y.newCold hexec (own := own) (C := cls) (index := ik) (n := 6) hown' hk' hins hini'
    (g := F0 m pc ls rest) rfl (by rw [hb]; exact d0) (Nat.le_refl _) (Nat.le_refl _)
  generalize hT1 : (T.setVm vm₁).pushCell { cls := cX, slots := kX.instanceTypes.map defaultValue, vm := .none } = T1 at X₁ st1
  have hcat : (Value.ref T.heap.size).category = 1 := rfl
  have hcellA : T1.heap[T.heap.size]? = some (freshCell cX kX) := by rw [← hT1]; exact State.heap_pushCell_size _ _
  have d3' : decode c.code (pc + 3) = .ok (.dup, 1) := by rw [hb]; exact d3
  have d4' : decode c.code (pc + 4) = .ok (.ldc is, 2) := by rw [hb]; exact d4
  have hstr' : vk_R own is text sa s' := vk_R.warm hW0 hstr
  obtain ⟨U, hsteps, hrun, hend, hW, hsame, ce, hce, hO⟩ := X₁.ctorThrowS hexec htr (own := own) (cls := cls) (names := names) (ic := ic) hown' hcls hnames h (fun x hx => nomatch hx) hfX hkX hcellA (by rw [hhp, hT]; exact Nat.le_refl _) (msg := .ref sa) rfl
    (g := { method := m, pc := pc + 6, locals := ls, stack := .ref sa :: .ref T.heap.size :: .ref T.heap.size :: rest, locked := none }) rfl hsize rfl rfl (rest := rest) rfl
    (by rw [hb]; exact d6) (by rw [hb]; exact d9) hout hRframes (by simp only [List.map_cons, List.sum_cons, hcat]; omega) hlocks
  obtain ⟨f1, f2⟩ := vx_frame hsame
  rw [hhp] at f1 f2
  have hWs : s.WarmedH U.vm := State.WarmedH.trans hW0 hW
  have hcl : s.vm.findClass cls = some ce.cls := by
    have h9 := hO.cls
    rw [hvm] at h9
    exact h9
  have hall : s.sameButNew ({ U with vm := s.vm } : State) locs mc ms := by
    subst hA
    obtain ⟨e1, e2⟩ := hsame
    rw [State.setFrames_setFrames] at e1
    have h2 : (T.setVm s.vm).sameButNew ({ U with vm := s.vm } : State) [] (0 + 1) (0 + 6) := ⟨e1, e2⟩
    have h3 := X.same.trans h2
    rw [List.append_nil] at h3
    exact h3.mono hc hs
  refine ⟨U, ?_, .threw T.heap.size, hrun, hend, Or.inr ⟨T.heap.size, rfl, cls, ce, locs, hx U hWs.alike f1 (fun q hq => f2 q hq (fun z hz => nomatch hz)), hce, hO.vm, hcl, hWs, hall, hf⟩⟩
  refine st1 _ ?_
  show Steps p.tables e below (T1.setTop { method := m, pc := pc + 3, locals := ls, stack := .ref T.heap.size :: rest, locked := none }) _
  jvm_step X₁.here [X₁.here.top, hexec, d3', Value.category]
  exact X₁.ldcString hexec (own := own) (text := text) (index := is) (a := sa) hown' hstr'.1 hstr'.2
    (g := { method := m, pc := pc + 4, locals := ls, stack := .ref T.heap.size :: .ref T.heap.size :: rest, locked := none }) rfl d4' _ hsteps
/-- 'throw new E("text")', the text by a wide index -/
theorem vx_throwSW {cc : ByteArray} {pc : Nat} (hexec : p.tables.exec = Jvm.exec) (hb : c.code = cc) (hl : l.stackTraces = false) {own cls text : String} {names : List String} {ik is ic mc ms sa : Nat} {A : Nat → Prop}
    (hown : s.vm.findClass own = some m.cls) (hcls : Bundle.fit cls = true) (hnames : ∀ n ∈ names, Bundle.fit n = true)
    (hk : (Cond.classLink own ik cls).before args s = true) (hini : (Cond.initialized cls).before args s = true) (hstr : vk_R own is text sa s) (hat : ∀ w ∈ vx_atS own ic cls names, w.before args s = true)
    (hgood : ∀ w ∈ Cond.classLink own ik cls :: Cond.initialized cls :: vx_atS own ic cls names, vx_ot w = true)
    (hU : vx_Zq Bundle.tN "UNASSIGNED_STACK" Bundle.steD A s s.heap) (hN : vx_Zq Bundle.tN "SUPPRESSED_SENTINEL" Bundle.listD A s s.heap) (hS : va_S A s.heap H locs) (hsize : ls.size = c.maxLocals)
    (d0 : decode cc pc = .ok (.new ik, 3)) (d3 : decode cc (pc + 3) = .ok (.dup, 1)) (d4 : decode cc (pc + 4) = .ok (.ldc_w is, 3)) (d7 : decode cc (pc + 7) = .ok (.invokespecial ic, 3)) (d10 : decode cc (pc + 10) = .ok (.athrow, 1))
    (hout : ∀ x ∈ c.exceptionTable.toList, covers x (pc + 10) = false)
    (hRframes : names.length + 3 < R.frames) (hRlocals : (rest.map fun v => v.category).sum + (13 * (names.length + 1) + 43) ≤ R.locals) (hRcells : cells + 1 ≤ R.cells) (hRslots : slots + 6 ≤ R.slots) (hlocks : meth.locks = false)
    (hx : ∀ t : State, s.vm.Alike t.vm → H.size ≤ t.heap.size → (∀ q : Nat, q < H.size → t.heap[q]? = H[q]?) → XC cls s t)
    (hf : ∀ z ∈ locs, free z.base) (hc : cells + 1 ≤ mc) (hs : slots + 6 ≤ ms) :
    W p l e R s m args below meth c H locs cells slots (vx_MQ below Qc XC args s mc ms free) (F0 m pc ls rest) := by
  intro T hT X
  have htr : e.platform.stackTraces = false := (show e.platform.stackTraces = l.stackTraces by rw [X.admits.platform]).trans hl
  have Y := vx_rebase X (R' := { frames := R.frames, locals := R.locals, cells := 1, slots := 6 }) (Nat.le_refl _) (Nat.le_refl _) hRcells hRslots
  obtain ⟨s', hA⟩ : ∃ z, z = (T.setVm s.vm).setFrames (.invoking m args :: below) := ⟨_, rfl⟩
  rw [← hA] at Y
  have hvm : s'.vm = s.vm := by rw [hA]; rfl
  have hhp : s'.heap = H := by rw [hA]; exact hT
  have hW0 : s.WarmedH s'.vm := by rw [hvm]; exact State.WarmedH.refl s
  have hat' : ∀ w ∈ vx_atS own ic cls names, w.before args s' = true := fun w hw => vx_ot_at hW0 hvm.symm (hgood w (List.mem_cons_of_mem _ (List.mem_cons_of_mem _ hw))) (hat w hw)
  have hk' : (Cond.classLink own ik cls).before args s' = true := vx_ot_at hW0 hvm.symm (hgood _ List.mem_cons_self) hk
  have hini' : (Cond.initialized cls).before args s' = true := vx_ot_at hW0 hvm.symm (hgood _ (List.mem_cons_of_mem _ List.mem_cons_self)) hini
  have hU' : vx_Zq Bundle.tN "UNASSIGNED_STACK" Bundle.steD A s' s'.heap := by rw [hhp]; exact vx_Zq.moved hW0.alike (hU.kept hS.2.1)
  have hN' : vx_Zq Bundle.tN "SUPPRESSED_SENTINEL" Bundle.listD A s' s'.heap := by rw [hhp]; exact vx_Zq.moved hW0.alike (hN.kept hS.2.1)
  have h : ∀ w ∈ Bundle.ownAtoms own ic cls names, w.before args s' = true := vx_own hat' (vx_isRefq hU'.1) (vx_isRefq hN'.1) hU'.2.word hN'.2.word
  have hown' : s'.vm.findClass own = some m.cls := by rw [hvm]; exact hown
  have hins : (Cond.instantiable cls 6).before args s' = true := h _ (by simp [Bundle.ownAtoms])
  obtain ⟨vm₁, cX, kX, hfX, hkX, -, -, X₁, st1⟩ := Y.newCold hexec (own := own) (C := cls) (index := ik) (n := 6) hown' hk' hins hini'
    (g := F0 m pc ls rest) rfl (by rw [hb]; exact d0) (Nat.le_refl _) (Nat.le_refl _)
  generalize hT1 : (T.setVm vm₁).pushCell { cls := cX, slots := kX.instanceTypes.map defaultValue, vm := .none } = T1 at X₁ st1
  have hcat : (Value.ref T.heap.size).category = 1 := rfl
  have hcellA : T1.heap[T.heap.size]? = some (freshCell cX kX) := by rw [← hT1]; exact State.heap_pushCell_size _ _
  have d3' : decode c.code (pc + 3) = .ok (.dup, 1) := by rw [hb]; exact d3
  have d4' : decode c.code (pc + 4) = .ok (.ldc_w is, 3) := by rw [hb]; exact d4
  have hstr' : vk_R own is text sa s' := vk_R.warm hW0 hstr
  obtain ⟨U, hsteps, hrun, hend, hW, hsame, ce, hce, hO⟩ := X₁.ctorThrowS hexec htr (own := own) (cls := cls) (names := names) (ic := ic) hown' hcls hnames h (fun x hx => nomatch hx) hfX hkX hcellA (by rw [hhp, hT]; exact Nat.le_refl _) (msg := .ref sa) rfl
    (g := { method := m, pc := pc + 7, locals := ls, stack := .ref sa :: .ref T.heap.size :: .ref T.heap.size :: rest, locked := none }) rfl hsize rfl rfl (rest := rest) rfl
    (by rw [hb]; exact d7) (by rw [hb]; exact d10) hout hRframes (by simp only [List.map_cons, List.sum_cons, hcat]; omega) hlocks
  obtain ⟨f1, f2⟩ := vx_frame hsame
  rw [hhp] at f1 f2
  have hWs : s.WarmedH U.vm := State.WarmedH.trans hW0 hW
  have hcl : s.vm.findClass cls = some ce.cls := by
    have h9 := hO.cls
    rw [hvm] at h9
    exact h9
  have hall : s.sameButNew ({ U with vm := s.vm } : State) locs mc ms := by
    subst hA
    obtain ⟨e1, e2⟩ := hsame
    rw [State.setFrames_setFrames] at e1
    have h2 : (T.setVm s.vm).sameButNew ({ U with vm := s.vm } : State) [] (0 + 1) (0 + 6) := ⟨e1, e2⟩
    have h3 := X.same.trans h2
    rw [List.append_nil] at h3
    exact h3.mono hc hs
  refine ⟨U, ?_, .threw T.heap.size, hrun, hend, Or.inr ⟨T.heap.size, rfl, cls, ce, locs, hx U hWs.alike f1 (fun q hq => f2 q hq (fun z hz => nomatch hz)), hce, hO.vm, hcl, hWs, hall, hf⟩⟩
  refine st1 _ ?_
  show Steps p.tables e below (T1.setTop { method := m, pc := pc + 3, locals := ls, stack := .ref T.heap.size :: rest, locked := none }) _
  jvm_step X₁.here [X₁.here.top, hexec, d3', Value.category]
  exact X₁.ldcStringW hexec (own := own) (text := text) (index := is) (a := sa) hown' hstr'.1 hstr'.2
    (g := { method := m, pc := pc + 4, locals := ls, stack := .ref T.heap.size :: .ref T.heap.size :: rest, locked := none }) rfl d4' _ hsteps
end Ends
section Bodies
variable {l : Launch}
theorem vx_ofW {y : MethodName} {ws ws' : List Cond} {rm : Room} {Pc : Array Value → State → Prop} {Qc : Array Value → State → Outcome → State → Prop} {XC : String → State → State → Prop} {mc ms : Nat} {free : Addr → Prop} {cc : ByteArray} {maxL : Nat} {ret : Option FieldType}
    (hy : plainName y.cls = true) (hw : ws = Cond.code y cc maxL ret :: ws')
    (body : ∀ p e s m args below meth c s₁, BodyLoose p l y (headSpec ws rm) cc maxL ret e s m args below meth c s₁ → c.maxLocals = maxL → (∀ x ∈ c.exceptionTable.toList, False) → Pc args s →
      W p l e (headSpec ws rm).room s m args below meth c s.heap [] 0 0 (vx_MQ below Qc XC args s mc ms free) (entryFrame m args maxL)) : vx_Met l y ws rm Pc Qc XC mc ms free := by
  refine MetFree.of_bodyS (code := cc) (maxLocals := maxL) (ret := ret) hy ?_ ?_
  · intro args s m h hn
    obtain ⟨meth, c, h1, h2, h3, h4, h5, h6, -, -⟩ := Cond.code_spec hn (atoms_spec (ws := ws) h _ (by rw [hw]; exact List.mem_cons_self))
    exact ⟨meth, c, h1, h2, h3, h4, h5, h6⟩
  · intro p e s m args below meth c s₁ B hml hP _
    have hh0 : s₁.heap = s.heap := by rw [B.state]; rfl
    have ht : ∀ x ∈ c.exceptionTable.toList, False := by
      obtain ⟨meth9, c9, h1, h2, -, -, -, -, h7, -⟩ := Cond.code_spec B.named (atoms_spec (ws := ws) B.pre _ (by rw [hw]; exact List.mem_cons_self))
      cases Option.some.inj (h1.symm.trans B.method)
      cases Option.some.inj (h2.symm.trans (Stand.of_body B).code)
      intro x hx
      rw [Array.isEmpty_iff.mp h7] at hx
      cases hx
    obtain ⟨t, a1, o, b1, b2, b3⟩ := body p e s m args below meth c s₁ B hml ht hP s₁ hh0 (Stand.of_body B)
    exact ⟨t, o, a1, b1, b2, b3⟩
/-- the table of a body with handlers -/
theorem vx_table {p : Program} {x y : MethodName} {S : Spec} {cc bytes : ByteArray} {maxL maxL' : Nat} {ret ret' : Option FieldType} {e : Env} {s s₁ : State} {m : MethodId} {args : Array Value} {below : List Frame} {meth : Method} {c : Code} {hh : List (Nat × Nat × Nat × Nat)}
    (B : BodyLoose p l y S cc maxL ret e s m args below meth c s₁) (h : (Cond.codeWith y bytes maxL' ret' hh).before args s = true) : c.exceptionTable.toList = tableOf hh := by
  obtain ⟨m9, meth9, c9, hn9, h1, h2, -, -, h6, -⟩ := Cond.codeWith_spec h
  cases Option.some.inj (hn9.symm.trans B.named)
  cases Option.some.inj (h1.symm.trans B.method)
  cases Option.some.inj (h2.symm.trans (Stand.of_body B).code)
  rw [← h6, table_eq]
end Bodies
end VXA
/-! ===== END ===== -/
/-! ===== BEGIN a static call of a method with an exception table ===== -/
section VXS
variable {p : Program} {l : Launch} {e : Env} {R : Room} {s : State} {m : MethodId} {args : Array Value} {below : List Frame} {meth : Method} {c : Code} {T : State} {H : Heap} {locs : List Loc} {cells slots : Nat}
abbrev vx_CSW (R : Room) (s : State) (args : Array Value) (own : String) (index : Nat) (y : MethodName) (bytes : ByteArray) (maxL : Nat) (ret : Option FieldType) (hh : List (Nat × Nat × Nat × Nat)) (ws : List Cond) (rm : Room) (mc ms n : Nat) : Prop :=
  (rm.cells = mc ∧ rm.slots = ms ∧ rm.frames + 1 ≤ R.frames ∧ 8 + (maxL + 11) + rm.locals ≤ R.locals ∧ (∀ w ∈ ws, ∀ (a' : Array Value) (U : State), s.WarmedH U.vm → w.before a' U = true) ∧ Cond.codeWith y bytes maxL ret hh ∈ ws) ∧
  (Cond.codeWith y bytes maxL ret hh).before args s = true ∧ (Cond.initialized y.cls).before args s = true ∧ (y.cls ≠ "java/lang/invoke/MethodHandle" ∧ y.cls ≠ "java/lang/invoke/VarHandle") ∧
  (∀ sig, parseMethodDescriptor y.desc = some sig → n = sig.parameters.length) ∧ (Cond.methodLink own index y).before args s = true ∧ (Cond.static y).before args s = true
theorem vx_cwSW {own : String} {index maxL mc ms : Nat} {y : MethodName} {bytes : ByteArray} {ret : Option FieldType} {hh : List (Nat × Nat × Nat × Nat)} {Ts ws ws' : List Cond} {rm : Room} (n : Nat) (ht : ∀ w ∈ Ts, w.before args s = true) (hT : GoodIn Ts (va_wsS own index y ws)) (hw : ws = Cond.codeWith y bytes maxL ret hh :: ws') (hrc : rm.cells = mc) (hrs : rm.slots = ms)
    (hd : y.cls ≠ "java/lang/invoke/MethodHandle" ∧ y.cls ≠ "java/lang/invoke/VarHandle" ∧ (parseMethodDescriptor y.desc).map (fun d => d.parameters.length) = some n) (hR : rm.frames + 1 ≤ R.frames ∧ 8 + (maxL + 11) + rm.locals ≤ R.locals) :
    vx_CSW R s args own index y bytes maxL ret hh ws rm mc ms n := by
  have ok : ∀ w ∈ va_wsS own index y ws, w.before args s = true := fun w h => ht w (hT w h).1
  have hG : GoodIn Ts ws := fun w h => hT w (by unfold va_wsS; exact List.mem_append_right _ h)
  have hc : Cond.codeWith y bytes maxL ret hh ∈ ws := by rw [hw]; exact List.mem_cons_self
  refine ⟨⟨hrc, hrs, hR.1, hR.2, pay_in ht hG, hc⟩, ht _ (hG _ hc).1, ok _ (by simp [va_wsS]), ⟨hd.1, hd.2.1⟩, fun sig h => ?_, ok _ (by simp [va_wsS]), ok _ (by simp [va_wsS])⟩
  have h2 := hd.2.2
  rw [h] at h2
  exact (Option.some.inj h2).symm
theorem vx_callSW (X : Stand p l e R s m args below meth c T locs cells slots) (hexec : p.tables.exec = Jvm.exec) {own : String} {index : Nat} {y : MethodName} {bytes : ByteArray} {maxL : Nat} {ret : Option FieldType} {hh : List (Nat × Nat × Nat × Nat)}
    (hown : s.vm.findClass own = some m.cls) (hlink : (Cond.methodLink own index y).before args s = true) (hstat : (Cond.static y).before args s = true) (hinit : (Cond.initialized y.cls).before args s = true)
    (hcode : (Cond.codeWith y bytes maxL ret hh).before args s = true) (hy : y.cls ≠ "java/lang/invoke/MethodHandle" ∧ y.cls ≠ "java/lang/invoke/VarHandle")
    {W9 : Nat} {Pre : Pt → Array Value → Prop} {Post : Pt → Array Value → Option Value → Pt → Prop} (hK : Back l R p e below s args y 3 W9 Pre Post)
    {g : JFrame} (hg : g.method = m) (hsize : g.locals.size = c.maxLocals) {argsL rest : List Value} (hlen : ∀ sig, parseMethodDescriptor y.desc = some sig → argsL.length = sig.parameters.length)
    (hstack : g.stack = argsL.reverse ++ rest) (hW : 2 * g.monitorRoom + (rest.map fun v => v.category).sum ≤ W9) (hdg : decode c.code g.pc = .ok (.invokestatic index, 3))
    (hpre : ∀ vm₁, s.WarmedH vm₁ → Pre ⟨T.setVm vm₁, locs, cells, slots⟩ argsL.toArray) :
    ∃ (v : Option Value) (vm₁ : Vm) (B : Pt), s.WarmedH vm₁ ∧ Stand p l e R s m args below meth c B.U B.locs B.cells B.slots ∧ Post ⟨T.setVm vm₁, locs, cells, slots⟩ argsL.toArray v B ∧
      ∀ target, Steps p.tables e below (B.U.setTop { g with pc := g.pc + 3, stack := v.toList ++ rest }) target → Steps p.tables e below (T.setTop g) target := by
  obtain ⟨mk, methM, cM, hnamed, hmethM, -, -, -, -, -, -, hsigM⟩ := Cond.codeWith_spec hcode
  have hstatic : methM.isStatic = true := Cond.static_spec hnamed hmethM hstat
  obtain ⟨kP, hkP, -⟩ := className_of_methodNamed hnamed
  have hinitP : kP.init = .initialized := Cond.initialized_spec (findClass_of_methodNamed hnamed) hkP hinit
  obtain ⟨vm₁, X₁, hstep₁⟩ := X.invokestatic hexec hown hlink hnamed hmethM hstatic hkP hinitP hy (g := g) hg (argsL := argsL) (rest := rest) (hlen _ hsigM) hstack hdg
  obtain ⟨v, B, X', hpost, hsteps⟩ := hK m meth c ⟨T.setVm vm₁, locs, cells, slots⟩ { g with stack := rest } (.invokestatic index) mk argsL.toArray X₁ hg hsize hdg hW (X₁.named hnamed) (hpre vm₁ X₁.warmed)
  exact ⟨v, vm₁, B, X₁.warmed, X', hpost, fun target h => hstep₁ _ fun acts => by rw [doInvoke_state]; exact hsteps.trans h⟩
theorem vx_runSW {y : MethodName} {bytes cc : ByteArray} {maxL nL mc ms n index : Nat} {ret : Option FieldType} {hh : List (Nat × Nat × Nat × Nat)} {ws : List Cond} {rm : Room} {Pc : Array Value → State → Prop} {Qc : Array Value → State → Outcome → State → Prop} {free : Addr → Prop} {Ts : List Cond} {own : String} {As rest : List Value} {g : JFrame}
    (S : CallFix p m c cc nL s args Ts own) (hM : Met l y ws rm Pc Qc mc ms free) (cw : vx_CSW R s args own index y bytes maxL ret hh ws rm mc ms n) (hp : PreS s H Pc As)
    (hg : g.method = m) (hn : As.length = n) (hsize : g.locals.size = nL) (hstack : g.stack = As.reverse ++ rest) (hW : 2 * g.monitorRoom + (rest.map fun v => v.category).sum ≤ 8) (hdg : decode cc g.pc = .ok (.invokestatic index, 3)) (hf : cells + mc ≤ R.cells ∧ slots + ms ≤ R.slots) :
    va_Run p l e R s m args below meth c H locs cells slots mc ms g rest (Qc As.toArray) (free) := by
  obtain ⟨⟨hrc, hrs, hfr, hlo, hws, hcw⟩, hcode, hini, hy, hlen, hl, hstt⟩ := cw
  have hK : Back l R p e below s args y 3 8 (PreOf R mc ms Pc) (PostOf Qc mc ms free) := va_backW (hh := hh) (bytes := bytes) (maxL := maxL) (ret := ret) hM hp.1 hrc hrs hfr hlo hws hcw (fun a' U hW => word_at hW (Or.inl (by first | rfl | simp [Cond.onTables, Cond.keeps, Cond.steady])) hini)
  obtain ⟨hx, hb, hml, ho, -⟩ := S
  intro T hT X
  obtain ⟨v, vm₁, ⟨U', l2, c2, s2⟩, hW₁, X', ⟨g', mk, t, L, e1, e2, hq, h1, hL, h2, h3⟩, st⟩ := vx_callSW X hx (hh := hh) (bytes := bytes) (maxL := maxL) (ret := ret) ho hl hstt hini hcode hy hK hg (hsize.trans hml.symm) (argsL := As) (rest := rest) (fun sig h => hn.trans (hlen sig h)) hstack hW (by rw [hb]; exact hdg)
    (fun vm₁ hW₁ => ⟨hf.1, hf.2, hp.2 (T.setVm vm₁) hT hW₁⟩)
  dsimp only [Pt.U, Pt.locs, Pt.cells, Pt.slots] at X' e1 e2 h1 h2 h3 st
  subst h1; subst h2; subst h3
  exact ⟨v, (T.setVm vm₁).calling g' mk As.toArray, t, U', L, hT, X', hL, e1, e2, hq, st⟩
/-- a thing of a world lies in the heap -/
theorem vx_lt {D : va_G} {cl : List vw_C} {ws : va_W} {H1 : Heap} (h : va_P D cl ws H1) {k : Nat} {q : Nat × va_E} (hk : ws[k]? = some q) : q.1 < H1.size := (h k q hk).lt
end VXS
/-! ===== END ===== -/
/-! ===== BEGIN methods with a table of their own: called by a name, returning or throwing ===== -/
section VXH
/-! vx_backW, vx_callVX, vx_callSX, vx_callVW, vx_runVW, vx_runVX, vx_runSX, vx_ofWH follow the same proofs as their sisters above (Free/Laws.lean, Shelf42/LK1.lean); vx_outP calls Shelf42/NT130.lean (outThrough). -/
section
variable {l : Launch} {R : Room} {p : Program} {e : Env} {below : List Frame} {s : State} {sargs : Array Value} {y : MethodName} {len W9 : Nat}
theorem vx_backW {ws : List Cond} {rm : Room} {Pc : Array Value → State → Prop} {Qc : Array Value → State → Outcome → State → Prop} {XC : String → State → State → Prop} {mc ms : Nat} {free : Addr → Prop} {bytes : ByteArray} {maxL : Nat} {ret : Option FieldType} {hh : List (Nat × Nat × Nat × Nat)}
    (hM : vx_Met l y ws rm Pc Qc XC mc ms free) (hblind : FrameBlind Pc) (hrc : rm.cells = mc) (hrs : rm.slots = ms)
    (hframes : rm.frames + 1 ≤ R.frames) (hlocals : W9 + (maxL + 11) + rm.locals ≤ R.locals)
    (hws : ∀ w ∈ ws, ∀ a' U, s.WarmedH U.vm → w.before a' U = true) (hcode : Cond.codeWith y bytes maxL ret hh ∈ ws) (hinit : ∀ a' U, s.WarmedH U.vm → (Cond.initialized y.cls).before a' U = true) :
    vx_Back l R p e below s sargs y len W9 (PreOf R mc ms Pc) (PostOf Qc mc ms free) (vx_Post XC mc ms free) := by
  intro m meth c A g ig mk a X hg hsize hdg hW hn hp
  have h1 : (headSpec ws rm).pre.before a A.U = true := atoms_intro fun w hw => hws w hw _ _ X.warmed
  have h2 : (Cond.codeWith y bytes maxL ret hh).before a A.U = true := hws _ hcode _ _ X.warmed
  have h3 : (Cond.initialized y.cls).before a A.U = true := hinit _ _ X.warmed
  have h4 : A.cells + (headSpec ws rm).room.cells ≤ R.cells := by rw [show (headSpec ws rm).room.cells = mc from hrc]; exact hp.1
  have h5 : A.slots + (headSpec ws rm).room.slots ≤ R.slots := by rw [show (headSpec ws rm).room.slots = ms from hrs]; exact hp.2.1
  have hPc : Pc a (A.U.calling g mk a) := hblind _ _ _ _ hp.2.2
  obtain ⟨U, Ls, c0, s0⟩ := A
  dsimp only [Pt.U, Pt.locs, Pt.cells, Pt.slots] at h1 h2 h3 h4 h5 X hn hPc ⊢
  obtain ⟨m9, methY, cY, hn9, hmY, hcY, -, hlY, -⟩ := Cond.codeWith_spec h2
  cases Option.some.inj (hn9.symm.trans hn)
  obtain ⟨kY, hkY, -⟩ := className_of_methodNamed hn
  have hinitY : kY.init = .initialized := Cond.initialized_spec (findClass_of_methodNamed hn) hkY h3
  have h : At U g.method c below := by rw [hg]; exact X.here
  have hlocals9 : W9 + (maxL + 11) + (headSpec ws rm).room.locals ≤ R.locals := hlocals
  have happ : (headSpec ws rm).appliesLoose y e.platform (U.calling g mk a) = true :=
    Spec.appliesLoose_calling (g := g) h hdg hn hkY hinitY
      (X.room_calling (g := g) (R' := (headSpec ws rm).room) hsize hmY hcY hframes (by rw [hlY]; omega) h4 h5) h1
  obtain ⟨mid, hmid⟩ := h.above
  have hfr : (U.setTop g).frames = (.java g :: mid) ++ below := by rw [State.frames_setTop' g h.top, hmid]; rfl
  obtain ⟨o, s₂, hsteps, -, hend, hq⟩ := Steps.callFree hM p X.admits X.cas X.clock (acts := []) hfr happ hPc trivial
  have hq' : vx_Q Qc XC mc ms free a (U.calling g mk a) o s₂ := hq
  rw [State.frames_setTop' g h.top] at hend
  obtain ⟨g₀, hg0⟩ := Option.isSome_iff_exists.mp h.top
  obtain ⟨r, hr⟩ := State.topJava?_eq_some.mp hg0
  have hr' : (({ U with heap := s₂.heap, slotsUsed := s₂.slotsUsed } : State).setVm s₂.vm).frames = .java g₀ :: r := hr
  rcases hq' with ⟨hqc, L, hfe, hL⟩ | ⟨q, rfl, E, ce, L, hx, hce, hcv, hcl, hW₂, hsm, hL⟩
  · obtain ⟨⟨v, rfl⟩, hW₂, e2, q2, q3, q4, q5, q6⟩ := id hfe
    have e3 : s₂ = ({ (U.calling g mk a).setFrames s₂.frames with heap := s₂.heap, slotsUsed := s₂.slotsUsed } : State).setVm s₂.vm := by
      have : s₂ = ({ s₂ with vm := (U.calling g mk a).vm } : State).setVm s₂.vm := rfl
      rw [e2] at this
      exact this
    obtain ⟨c₂, i₂, len₂, hc₂, hd₂, hf₂⟩ := hend
    have hW' : U.WarmedH s₂.vm := hW₂
    have hcc : c₂ = c := by
      have h1 : s₂.code? g.method = U.code? g.method := by
        rw [State.code?_eq, State.code?_eq, hW'.alike.method?]
      exact Option.some.inj (hc₂.symm.trans (h1.trans h.code))
    subst hcc
    have hlen : len₂ = len := by rw [hdg] at hd₂; cases hd₂; rfl
    subst hlen
    have hs₂ : s₂ = (({ U with heap := s₂.heap, slotsUsed := s₂.slotsUsed } : State).setVm s₂.vm).setTop { g with pc := g.pc + len₂, stack := v.toList ++ g.stack } := by
      refine e3.trans ?_
      rw [hf₂, State.calling_eq h.top, State.setFrames_setFrames, State.setTop_of_frames _ hr', hr]
      rfl
    have hsame : U.sameButNew ({ U with heap := s₂.heap, slotsUsed := s₂.slotsUsed } : State) L mc ms := by
      refine ⟨?_, q2, q3, q4, q5, q6⟩
      obtain ⟨t, ht, -⟩ := State.frames_cons hr
      show ({ U with heap := s₂.heap, slotsUsed := s₂.slotsUsed } : State) = { U.setFrames U.frames with heap := s₂.heap, slotsUsed := s₂.slotsUsed }
      rw [State.setFrames_self ht]
    subst hg
    refine Or.inl ⟨v, ⟨(({ U with heap := s₂.heap, slotsUsed := s₂.slotsUsed } : State).setVm s₂.vm), Ls ++ L, c0 + mc, s0 + ms⟩,
      ⟨X.admits, X.cas, X.clock, X.frames, X.room, X.hears, X.method, X.code, (X.here.setHeapUsed s₂.heap s₂.slotsUsed).setVm hW'.alike, X.tail, State.WarmedH.trans X.warmed hW', X.limits, X.bytes, X.same.trans (hsame.setVm s.vm)⟩,
      ⟨g, mk, s₂, L, rfl, rfl, hqc, rfl, hL, rfl, rfl⟩, ?_⟩
    show Steps p.tables e below _ ((({ U with heap := s₂.heap, slotsUsed := s₂.slotsUsed } : State).setVm s₂.vm).setTop { g with pc := g.pc + len₂, stack := v.toList ++ g.stack })
    rw [← hs₂]
    exact hsteps
  · obtain ⟨e2, q2, q3, q4, q5, q6⟩ := id hsm
    have e3 : s₂ = ({ (U.calling g mk a).setFrames s₂.frames with heap := s₂.heap, slotsUsed := s₂.slotsUsed } : State).setVm s₂.vm := by
      have : s₂ = ({ s₂ with vm := (U.calling g mk a).vm } : State).setVm s₂.vm := rfl
      rw [e2] at this
      exact this
    have hf₂ : s₂.frames = .throwing q :: .java g :: U.frames.tail := hend
    have hW' : U.WarmedH s₂.vm := hW₂
    have hs₂ : s₂ = ((({ U with heap := s₂.heap, slotsUsed := s₂.slotsUsed } : State).setVm s₂.vm).setTop g).pushFrame (.throwing q) := by
      refine e3.trans ?_
      rw [hf₂, State.calling_eq h.top, State.setFrames_setFrames, State.pushFrame, State.frames_setTop _ hr', State.setTop_of_frames _ hr', State.setFrames_setFrames, hr]
      rfl
    have hsame : U.sameButNew ({ U with heap := s₂.heap, slotsUsed := s₂.slotsUsed } : State) L mc ms := by
      refine ⟨?_, q2, q3, q4, q5, q6⟩
      obtain ⟨t, ht, -⟩ := State.frames_cons hr
      show ({ U with heap := s₂.heap, slotsUsed := s₂.slotsUsed } : State) = { U.setFrames U.frames with heap := s₂.heap, slotsUsed := s₂.slotsUsed }
      rw [State.setFrames_self ht]
    subst hg
    refine Or.inr ⟨q, ⟨(({ U with heap := s₂.heap, slotsUsed := s₂.slotsUsed } : State).setVm s₂.vm), Ls ++ L, c0 + mc, s0 + ms⟩,
      ⟨X.admits, X.cas, X.clock, X.frames, X.room, X.hears, X.method, X.code, (X.here.setHeapUsed s₂.heap s₂.slotsUsed).setVm hW'.alike, X.tail, State.WarmedH.trans X.warmed hW', X.limits, X.bytes, X.same.trans (hsame.setVm s.vm)⟩,
      ⟨g, mk, s₂, L, E, ce, rfl, rfl, hx, hce, hcv, hcl, rfl, hL, rfl, rfl⟩, ?_⟩
    show Steps p.tables e below _ (((({ U with heap := s₂.heap, slotsUsed := s₂.slotsUsed } : State).setVm s₂.vm).setTop g).pushFrame (.throwing q))
    rw [← hs₂]
    exact hsteps
end
variable {p : Program} {l : Launch} {e : Env} {R : Room} {s : State} {m : MethodId} {args : Array Value} {below : List Frame} {meth : Method} {c : Code} {T : State} {H : Heap} {locs : List Loc} {cells slots : Nat}
theorem vx_callVX (X : Stand p l e R s m args below meth c T locs cells slots) (hexec : p.tables.exec = Jvm.exec) {own C : String} {index : Nat} {y : MethodName} {bytes : ByteArray} {maxL : Nat} {ret : Option FieldType} {hh : List (Nat × Nat × Nat × Nat)}
    (hown : s.vm.findClass own = some m.cls) (hlink : (Cond.methodLink own index y).before args s = true) (hinst : (Cond.instanceMethod y).before args s = true) (hsel : (Cond.selects C y y).before args s = true)
    (hcode : (Cond.codeWith y bytes maxL ret hh).before args s = true) (hy : y.cls ≠ "java/lang/invoke/MethodHandle" ∧ y.cls ≠ "java/lang/invoke/VarHandle")
    {W9 : Nat} {Pre : Pt → Array Value → Prop} {Post : Pt → Array Value → Option Value → Pt → Prop} {PostX : Pt → Array Value → Addr → Pt → Prop} (hK : vx_Back l R p e below s args y 3 W9 Pre Post PostX)
    {b : Addr} {cellB : Cell} (hcell : T.heap[b]? = some cellB) (hobj : cellB.vm.isStatics = false) (hcls : s.vm.findClass C = some cellB.cls)
    {g : JFrame} (hg : g.method = m) (hsize : g.locals.size = c.maxLocals) {argsL rest : List Value} (hlen : ∀ sig, parseMethodDescriptor y.desc = some sig → argsL.length = sig.parameters.length)
    (hstack : g.stack = argsL.reverse ++ .ref b :: rest) (hW : 2 * g.monitorRoom + (rest.map fun v => v.category).sum ≤ W9) (hdg : decode c.code g.pc = .ok (.invokevirtual index, 3))
    (hpre : ∀ vm₁, s.WarmedH vm₁ → Pre ⟨T.setVm vm₁, locs, cells, slots⟩ (Value.ref b :: argsL).toArray) :
    (∃ (v : Option Value) (vm₁ : Vm) (B : Pt), s.WarmedH vm₁ ∧ Stand p l e R s m args below meth c B.U B.locs B.cells B.slots ∧ Post ⟨T.setVm vm₁, locs, cells, slots⟩ (Value.ref b :: argsL).toArray v B ∧
      ∀ target, Steps p.tables e below (B.U.setTop { g with pc := g.pc + 3, stack := v.toList ++ rest }) target → Steps p.tables e below (T.setTop g) target) ∨
    (∃ (q : Addr) (vm₁ : Vm) (B : Pt), s.WarmedH vm₁ ∧ Stand p l e R s m args below meth c B.U B.locs B.cells B.slots ∧ PostX ⟨T.setVm vm₁, locs, cells, slots⟩ (Value.ref b :: argsL).toArray q B ∧
      Steps p.tables e below (T.setTop g) ((B.U.setTop { g with stack := rest }).pushFrame (.throwing q))) := by
  obtain ⟨mk, methM, hnamed, hmethM, hstM, habM⟩ := Cond.instanceMethod_spec hinst
  obtain ⟨m8, methM', cM, hn8, hmethM', -, -, -, -, -, -, hsigM⟩ := Cond.codeWith_spec hcode
  cases Option.some.inj (hn8.symm.trans hnamed)
  cases hmethM.symm.trans hmethM'
  obtain ⟨c2, r2, m2, q1, q2, q3, q4, kP, hkP, hkPi⟩ := Cond.selects_spec hsel
  cases hcls.symm.trans q1
  cases (State.methodFound?_of_named hnamed hy).symm.trans q2
  cases hnamed.symm.trans q3
  have hselP : selectMethod e.platform s.vm cellB.cls mk = .method mk := by rw [Launch.admits_selectMethod X.admits]; exact q4
  obtain ⟨vm₁, X₁, hstep₁⟩ := X.invokevirtual hexec hown hlink hnamed hmethM hstM hkP hkPi hy (a := b) (cell := cellB) hcell
    (fun z h => by rw [h] at hobj; cases hobj) hselP hmethM habM hkP hkPi (g := g) hg (argsL := argsL) (rest := rest) (hlen _ hsigM) hstack hdg
  rcases hK m meth c ⟨T.setVm vm₁, locs, cells, slots⟩ { g with stack := rest } (.invokevirtual index) mk (Value.ref b :: argsL).toArray X₁ hg hsize hdg hW (X₁.named hnamed) (hpre vm₁ X₁.warmed) with ⟨v, B, X', hpost, hsteps⟩ | ⟨q, B, X', hpost, hsteps⟩
  · exact Or.inl ⟨v, vm₁, B, X₁.warmed, X', hpost, fun target h => hstep₁ _ fun acts => by rw [doInvoke_state]; exact hsteps.trans h⟩
  · exact Or.inr ⟨q, vm₁, B, X₁.warmed, X', hpost, hstep₁ _ fun acts => by rw [doInvoke_state]; exact hsteps⟩
theorem vx_callSX (X : Stand p l e R s m args below meth c T locs cells slots) (hexec : p.tables.exec = Jvm.exec) {own : String} {index : Nat} {y : MethodName} {bytes : ByteArray} {maxL : Nat} {ret : Option FieldType} {hh : List (Nat × Nat × Nat × Nat)}
    (hown : s.vm.findClass own = some m.cls) (hlink : (Cond.methodLink own index y).before args s = true) (hstat : (Cond.static y).before args s = true) (hinit : (Cond.initialized y.cls).before args s = true)
    (hcode : (Cond.codeWith y bytes maxL ret hh).before args s = true) (hy : y.cls ≠ "java/lang/invoke/MethodHandle" ∧ y.cls ≠ "java/lang/invoke/VarHandle")
    {W9 : Nat} {Pre : Pt → Array Value → Prop} {Post : Pt → Array Value → Option Value → Pt → Prop} {PostX : Pt → Array Value → Addr → Pt → Prop} (hK : vx_Back l R p e below s args y 3 W9 Pre Post PostX)
    {g : JFrame} (hg : g.method = m) (hsize : g.locals.size = c.maxLocals) {argsL rest : List Value} (hlen : ∀ sig, parseMethodDescriptor y.desc = some sig → argsL.length = sig.parameters.length)
    (hstack : g.stack = argsL.reverse ++ rest) (hW : 2 * g.monitorRoom + (rest.map fun v => v.category).sum ≤ W9) (hdg : decode c.code g.pc = .ok (.invokestatic index, 3))
    (hpre : ∀ vm₁, s.WarmedH vm₁ → Pre ⟨T.setVm vm₁, locs, cells, slots⟩ argsL.toArray) :
    (∃ (v : Option Value) (vm₁ : Vm) (B : Pt), s.WarmedH vm₁ ∧ Stand p l e R s m args below meth c B.U B.locs B.cells B.slots ∧ Post ⟨T.setVm vm₁, locs, cells, slots⟩ argsL.toArray v B ∧
      ∀ target, Steps p.tables e below (B.U.setTop { g with pc := g.pc + 3, stack := v.toList ++ rest }) target → Steps p.tables e below (T.setTop g) target) ∨
    (∃ (q : Addr) (vm₁ : Vm) (B : Pt), s.WarmedH vm₁ ∧ Stand p l e R s m args below meth c B.U B.locs B.cells B.slots ∧ PostX ⟨T.setVm vm₁, locs, cells, slots⟩ argsL.toArray q B ∧
      Steps p.tables e below (T.setTop g) ((B.U.setTop { g with stack := rest }).pushFrame (.throwing q))) := by
  obtain ⟨mk, methM, cM, hnamed, hmethM, -, -, -, -, -, -, hsigM⟩ := Cond.codeWith_spec hcode
  have hstatic : methM.isStatic = true := Cond.static_spec hnamed hmethM hstat
  obtain ⟨kP, hkP, -⟩ := className_of_methodNamed hnamed
  have hinitP : kP.init = .initialized := Cond.initialized_spec (findClass_of_methodNamed hnamed) hkP hinit
  obtain ⟨vm₁, X₁, hstep₁⟩ := X.invokestatic hexec hown hlink hnamed hmethM hstatic hkP hinitP hy (g := g) hg (argsL := argsL) (rest := rest) (hlen _ hsigM) hstack hdg
  rcases hK m meth c ⟨T.setVm vm₁, locs, cells, slots⟩ { g with stack := rest } (.invokestatic index) mk argsL.toArray X₁ hg hsize hdg hW (X₁.named hnamed) (hpre vm₁ X₁.warmed) with ⟨v, B, X', hpost, hsteps⟩ | ⟨q, B, X', hpost, hsteps⟩
  · exact Or.inl ⟨v, vm₁, B, X₁.warmed, X', hpost, fun target h => hstep₁ _ fun acts => by rw [doInvoke_state]; exact hsteps.trans h⟩
  · exact Or.inr ⟨q, vm₁, B, X₁.warmed, X', hpost, hstep₁ _ fun acts => by rw [doInvoke_state]; exact hsteps⟩
theorem vx_callVW (X : Stand p l e R s m args below meth c T locs cells slots) (hexec : p.tables.exec = Jvm.exec) {own C : String} {index : Nat} {y : MethodName} {bytes : ByteArray} {maxL : Nat} {ret : Option FieldType} {hh : List (Nat × Nat × Nat × Nat)}
    (hown : s.vm.findClass own = some m.cls) (hlink : (Cond.methodLink own index y).before args s = true) (hinst : (Cond.instanceMethod y).before args s = true) (hsel : (Cond.selects C y y).before args s = true)
    (hcode : (Cond.codeWith y bytes maxL ret hh).before args s = true) (hy : y.cls ≠ "java/lang/invoke/MethodHandle" ∧ y.cls ≠ "java/lang/invoke/VarHandle")
    {W9 : Nat} {Pre : Pt → Array Value → Prop} {Post : Pt → Array Value → Option Value → Pt → Prop} (hK : Back l R p e below s args y 3 W9 Pre Post)
    {b : Addr} {cellB : Cell} (hcell : T.heap[b]? = some cellB) (hobj : cellB.vm.isStatics = false) (hcls : s.vm.findClass C = some cellB.cls)
    {g : JFrame} (hg : g.method = m) (hsize : g.locals.size = c.maxLocals) {argsL rest : List Value} (hlen : ∀ sig, parseMethodDescriptor y.desc = some sig → argsL.length = sig.parameters.length)
    (hstack : g.stack = argsL.reverse ++ .ref b :: rest) (hW : 2 * g.monitorRoom + (rest.map fun v => v.category).sum ≤ W9) (hdg : decode c.code g.pc = .ok (.invokevirtual index, 3))
    (hpre : ∀ vm₁, s.WarmedH vm₁ → Pre ⟨T.setVm vm₁, locs, cells, slots⟩ (Value.ref b :: argsL).toArray) :
    ∃ (v : Option Value) (vm₁ : Vm) (B : Pt), s.WarmedH vm₁ ∧ Stand p l e R s m args below meth c B.U B.locs B.cells B.slots ∧ Post ⟨T.setVm vm₁, locs, cells, slots⟩ (Value.ref b :: argsL).toArray v B ∧
      ∀ target, Steps p.tables e below (B.U.setTop { g with pc := g.pc + 3, stack := v.toList ++ rest }) target → Steps p.tables e below (T.setTop g) target := by
  obtain ⟨mk, methM, hnamed, hmethM, hstM, habM⟩ := Cond.instanceMethod_spec hinst
  obtain ⟨m8, methM', cM, hn8, hmethM', -, -, -, -, -, -, hsigM⟩ := Cond.codeWith_spec hcode
  cases Option.some.inj (hn8.symm.trans hnamed)
  cases hmethM.symm.trans hmethM'
  obtain ⟨c2, r2, m2, q1, q2, q3, q4, kP, hkP, hkPi⟩ := Cond.selects_spec hsel
  cases hcls.symm.trans q1
  cases (State.methodFound?_of_named hnamed hy).symm.trans q2
  cases hnamed.symm.trans q3
  have hselP : selectMethod e.platform s.vm cellB.cls mk = .method mk := by rw [Launch.admits_selectMethod X.admits]; exact q4
  obtain ⟨vm₁, X₁, hstep₁⟩ := X.invokevirtual hexec hown hlink hnamed hmethM hstM hkP hkPi hy (a := b) (cell := cellB) hcell
    (fun z h => by rw [h] at hobj; cases hobj) hselP hmethM habM hkP hkPi (g := g) hg (argsL := argsL) (rest := rest) (hlen _ hsigM) hstack hdg
  obtain ⟨v, B, X', hpost, hsteps⟩ := hK m meth c ⟨T.setVm vm₁, locs, cells, slots⟩ { g with stack := rest } (.invokevirtual index) mk (Value.ref b :: argsL).toArray X₁ hg hsize hdg hW (X₁.named hnamed) (hpre vm₁ X₁.warmed)
  exact ⟨v, vm₁, B, X₁.warmed, X', hpost, fun target h => hstep₁ _ fun acts => by rw [doInvoke_state]; exact hsteps.trans h⟩
abbrev vx_CVW (R : Room) (s : State) (args : Array Value) (own C : String) (index : Nat) (y : MethodName) (bytes : ByteArray) (maxL : Nat) (ret : Option FieldType) (hh : List (Nat × Nat × Nat × Nat)) (ws : List Cond) (rm : Room) (mc ms n : Nat) : Prop :=
  (rm.cells = mc ∧ rm.slots = ms ∧ rm.frames + 1 ≤ R.frames ∧ 8 + (maxL + 11) + rm.locals ≤ R.locals ∧ (∀ w ∈ ws, ∀ (a' : Array Value) (U : State), s.WarmedH U.vm → w.before a' U = true) ∧ Cond.codeWith y bytes maxL ret hh ∈ ws) ∧
  (Cond.codeWith y bytes maxL ret hh).before args s = true ∧ (Cond.initialized y.cls).before args s = true ∧ (y.cls ≠ "java/lang/invoke/MethodHandle" ∧ y.cls ≠ "java/lang/invoke/VarHandle") ∧
  (∀ sig, parseMethodDescriptor y.desc = some sig → n = sig.parameters.length) ∧ (Cond.methodLink own index y).before args s = true ∧ (Cond.instanceMethod y).before args s = true ∧ (Cond.selects C y y).before args s = true
theorem vx_cwVW {own C : String} {index maxL mc ms : Nat} {y : MethodName} {bytes : ByteArray} {ret : Option FieldType} {hh : List (Nat × Nat × Nat × Nat)} {Ts ws ws' : List Cond} {rm : Room} (n : Nat) (ht : ∀ w ∈ Ts, w.before args s = true) (hT : GoodIn Ts (wsV own index C y ws)) (hw : ws = Cond.codeWith y bytes maxL ret hh :: ws') (hrc : rm.cells = mc) (hrs : rm.slots = ms)
    (hd : y.cls = C ∧ y.cls ≠ "java/lang/invoke/MethodHandle" ∧ y.cls ≠ "java/lang/invoke/VarHandle" ∧ (parseMethodDescriptor y.desc).map (fun d => d.parameters.length) = some n) (hR : rm.frames + 1 ≤ R.frames ∧ 8 + (maxL + 11) + rm.locals ≤ R.locals) :
    vx_CVW R s args own C index y bytes maxL ret hh ws rm mc ms n := by
  obtain ⟨hC, hd⟩ := hd
  subst hC
  have ok : ∀ w ∈ wsV own index y.cls y ws, w.before args s = true := fun w h => ht w (hT w h).1
  have hG : GoodIn Ts ws := fun w h => hT w (by unfold wsV; exact List.mem_append_right _ h)
  have hc : Cond.codeWith y bytes maxL ret hh ∈ ws := by rw [hw]; exact List.mem_cons_self
  refine ⟨⟨hrc, hrs, hR.1, hR.2, pay_in ht hG, hc⟩, ht _ (hG _ hc).1, ok _ (by simp [wsV]), ⟨hd.1, hd.2.1⟩, fun sig h => ?_, ok _ (by simp [wsV]), ok _ (by simp [wsV]), ok _ (by simp [wsV])⟩
  have h2 := hd.2.2
  rw [h] at h2
  exact (Option.some.inj h2).symm
theorem vx_runVW {y : MethodName} {bytes cc : ByteArray} {maxL nL mc ms n index : Nat} {ret : Option FieldType} {hh : List (Nat × Nat × Nat × Nat)} {ws : List Cond} {rm : Room} {Pc : Array Value → State → Prop} {Qc : Array Value → State → Outcome → State → Prop} {free : Addr → Prop} {Ts : List Cond} {own C : String} {b : Addr} {As rest : List Value} {g : JFrame}
    (S : CallFix p m c cc nL s args Ts own) (hM : Met l y ws rm Pc Qc mc ms free) (cw : vx_CVW R s args own C index y bytes maxL ret hh ws rm mc ms n) (hp : PreV s H C b Pc As)
    (hg : g.method = m) (hn : As.length = n) (hsize : g.locals.size = nL) (hstack : g.stack = As.reverse ++ .ref b :: rest) (hW : 2 * g.monitorRoom + (rest.map fun v => v.category).sum ≤ 8) (hdg : decode cc g.pc = .ok (.invokevirtual index, 3)) (hf : cells + mc ≤ R.cells ∧ slots + ms ≤ R.slots) :
    va_Run p l e R s m args below meth c H locs cells slots mc ms g rest (Qc (Value.ref b :: As).toArray) free := by
  obtain ⟨⟨hrc, hrs, hfr, hlo, hws, hcw⟩, hcode, hini, hy, hlen, hl, hin, hse⟩ := cw
  have hK : Back l R p e below s args y 3 8 (PreOf R mc ms Pc) (PostOf Qc mc ms free) := va_backW (hh := hh) (bytes := bytes) (maxL := maxL) (ret := ret) hM hp.1 hrc hrs hfr hlo hws hcw (fun a' U hW => word_at hW (Or.inl (by first | rfl | simp [Cond.onTables, Cond.keeps, Cond.steady])) hini)
  obtain ⟨hx, hb, hml, ho, -⟩ := S
  obtain ⟨-, ⟨cellB, hcB, hoB, hclB⟩, hPc⟩ := hp
  intro T hT X
  obtain ⟨v, vm₁, ⟨U', l2, c2, s2⟩, hW₁, X', ⟨g', mk, t, L, e1, e2, hq, h1, hL, h2, h3⟩, st⟩ := vx_callVW X hx (C := C) (hh := hh) (bytes := bytes) (maxL := maxL) (ret := ret) ho hl hin hse hcode hy hK (by rw [hT]; exact hcB) hoB hclB hg (hsize.trans hml.symm) (argsL := As) (rest := rest) (fun sig h => hn.trans (hlen sig h)) hstack hW (by rw [hb]; exact hdg)
    (fun vm₁ hW₁ => ⟨hf.1, hf.2, hPc (T.setVm vm₁) hT hW₁⟩)
  dsimp only [Pt.U, Pt.locs, Pt.cells, Pt.slots] at X' e1 e2 h1 h2 h3 st
  subst h1; subst h2; subst h3
  exact ⟨v, (T.setVm vm₁).calling g' mk (Value.ref b :: As).toArray, t, U', L, hT, X', hL, e1, e2, hq, st⟩
section
variable {y : MethodName} {bytes cc : ByteArray} {maxL nL mc ms n index : Nat} {ret : Option FieldType} {ws : List Cond} {rm : Room} {Pc : Array Value → State → Prop} {Qc : Array Value → State → Outcome → State → Prop} {XC : String → State → State → Prop} {free : Addr → Prop} {Ts : List Cond} {own C : String} {b : Addr} {As rest : List Value} {g : JFrame}
theorem vx_runVX {hh : List (Nat × Nat × Nat × Nat)} (S : CallFix p m c cc nL s args Ts own) (hM : vx_Met l y ws rm Pc Qc XC mc ms free) (cw : vx_CVW R s args own C index y bytes maxL ret hh ws rm mc ms n) (hp : PreV s H C b Pc As)
    (hg : g.method = m) (hn : As.length = n) (hsize : g.locals.size = nL) (hstack : g.stack = As.reverse ++ .ref b :: rest) (hW : 2 * g.monitorRoom + (rest.map fun v => v.category).sum ≤ 8) (hdg : decode cc g.pc = .ok (.invokevirtual index, 3)) (hf : cells + mc ≤ R.cells ∧ slots + ms ≤ R.slots) :
    vx_Run p l e R s m args below meth c H locs cells slots mc ms g rest (Qc (Value.ref b :: As).toArray) XC free := by
  obtain ⟨⟨hrc, hrs, hfr, hlo, hws, hcw⟩, hcode, hini, hy, hlen, hl, hin, hse⟩ := cw
  have hK : vx_Back l R p e below s args y 3 8 (PreOf R mc ms Pc) (PostOf Qc mc ms free) (vx_Post XC mc ms free) := vx_backW (hh := hh) (bytes := bytes) (maxL := maxL) (ret := ret) hM hp.1 hrc hrs hfr hlo hws hcw (fun a' U hW => word_at hW (Or.inl (by first | rfl | simp [Cond.onTables, Cond.keeps, Cond.steady])) hini)
  obtain ⟨hx, hb, hml, ho, -⟩ := S
  obtain ⟨-, ⟨cellB, hcB, hoB, hclB⟩, hPc⟩ := hp
  intro T hT X
  rcases vx_callVX X hx (C := C) (hh := hh) (bytes := bytes) (maxL := maxL) (ret := ret) ho hl hin hse hcode hy hK (by rw [hT]; exact hcB) hoB hclB hg (hsize.trans hml.symm) (argsL := As) (rest := rest) (fun sig h => hn.trans (hlen sig h)) hstack hW (by rw [hb]; exact hdg)
    (fun vm₁ hW₁ => ⟨hf.1, hf.2, hPc (T.setVm vm₁) hT hW₁⟩) with ⟨v, vm₁, ⟨U', l2, c2, s2⟩, hW₁, X', ⟨g', mk, t, L, e1, e2, hq, h1, hL, h2, h3⟩, st⟩ | ⟨q, vm₁, ⟨U', l2, c2, s2⟩, hW₁, X', ⟨g', mk, t, L, E, ce, e1, e2, hq, hce, hcv, hcl, h1, hL, h2, h3⟩, st⟩
  · dsimp only [Pt.U, Pt.locs, Pt.cells, Pt.slots] at X' e1 e2 h1 h2 h3 st
    subst h1; subst h2; subst h3
    exact Or.inl ⟨v, (T.setVm vm₁).calling g' mk (Value.ref b :: As).toArray, t, U', L, hT, X', hL, e1, e2, hq, st⟩
  · dsimp only [Pt.U, Pt.locs, Pt.cells, Pt.slots] at X' e1 e2 h1 h2 h3 st hcl
    subst h1; subst h2; subst h3
    exact Or.inr ⟨q, (T.setVm vm₁).calling g' mk (Value.ref b :: As).toArray, t, U', L, E, ce, hT, X', hL, e1, e2, hq, hce, hcv, vx_cls hW₁ hcl, st⟩
theorem vx_runSX {hh : List (Nat × Nat × Nat × Nat)} (S : CallFix p m c cc nL s args Ts own) (hM : vx_Met l y ws rm Pc Qc XC mc ms free) (cw : vx_CSW R s args own index y bytes maxL ret hh ws rm mc ms n) (hp : PreS s H Pc As)
    (hg : g.method = m) (hn : As.length = n) (hsize : g.locals.size = nL) (hstack : g.stack = As.reverse ++ rest) (hW : 2 * g.monitorRoom + (rest.map fun v => v.category).sum ≤ 8) (hdg : decode cc g.pc = .ok (.invokestatic index, 3)) (hf : cells + mc ≤ R.cells ∧ slots + ms ≤ R.slots) :
    vx_Run p l e R s m args below meth c H locs cells slots mc ms g rest (Qc As.toArray) XC free := by
  obtain ⟨⟨hrc, hrs, hfr, hlo, hws, hcw⟩, hcode, hini, hy, hlen, hl, hstt⟩ := cw
  have hK : vx_Back l R p e below s args y 3 8 (PreOf R mc ms Pc) (PostOf Qc mc ms free) (vx_Post XC mc ms free) := vx_backW (hh := hh) (bytes := bytes) (maxL := maxL) (ret := ret) hM hp.1 hrc hrs hfr hlo hws hcw (fun a' U hW => word_at hW (Or.inl (by first | rfl | simp [Cond.onTables, Cond.keeps, Cond.steady])) hini)
  obtain ⟨hx, hb, hml, ho, -⟩ := S
  intro T hT X
  rcases vx_callSX X hx (hh := hh) (bytes := bytes) (maxL := maxL) (ret := ret) ho hl hstt hini hcode hy hK hg (hsize.trans hml.symm) (argsL := As) (rest := rest) (fun sig h => hn.trans (hlen sig h)) hstack hW (by rw [hb]; exact hdg)
    (fun vm₁ hW₁ => ⟨hf.1, hf.2, hp.2 (T.setVm vm₁) hT hW₁⟩) with ⟨v, vm₁, ⟨U', l2, c2, s2⟩, hW₁, X', ⟨g', mk, t, L, e1, e2, hq, h1, hL, h2, h3⟩, st⟩ | ⟨q, vm₁, ⟨U', l2, c2, s2⟩, hW₁, X', ⟨g', mk, t, L, E, ce, e1, e2, hq, hce, hcv, hcl, h1, hL, h2, h3⟩, st⟩
  · dsimp only [Pt.U, Pt.locs, Pt.cells, Pt.slots] at X' e1 e2 h1 h2 h3 st
    subst h1; subst h2; subst h3
    exact Or.inl ⟨v, (T.setVm vm₁).calling g' mk As.toArray, t, U', L, hT, X', hL, e1, e2, hq, st⟩
  · dsimp only [Pt.U, Pt.locs, Pt.cells, Pt.slots] at X' e1 e2 h1 h2 h3 st hcl
    subst h1; subst h2; subst h3
    exact Or.inr ⟨q, (T.setVm vm₁).calling g' mk As.toArray, t, U', L, E, ce, hT, X', hL, e1, e2, hq, hce, hcv, vx_cls hW₁ hcl, st⟩
end
end VXH
theorem vx_ofWH {l : Launch} {y : MethodName} {ws ws' : List Cond} {rm : Room} {Pc : Array Value → State → Prop} {Qc : Array Value → State → Outcome → State → Prop} {XC : String → State → State → Prop} {mc ms : Nat} {free : Addr → Prop} {cc : ByteArray} {maxL : Nat} {ret : Option FieldType} {hh : List (Nat × Nat × Nat × Nat)}
    (hy : plainName y.cls = true) (hw : ws = Cond.codeWith y cc maxL ret hh :: ws')
    (body : ∀ p e s m args below meth c s₁, BodyLoose p l y (headSpec ws rm) cc maxL ret e s m args below meth c s₁ → c.maxLocals = maxL → Pc args s →
      W p l e (headSpec ws rm).room s m args below meth c s.heap [] 0 0 (vx_MQ below Qc XC args s mc ms free) (entryFrame m args maxL)) : vx_Met l y ws rm Pc Qc XC mc ms free := by
  refine MetFree.of_bodyS (code := cc) (maxLocals := maxL) (ret := ret) hy ?_ ?_
  · intro args s m h hn
    obtain ⟨m9, meth, c, hn9, h1, h2, h3, h4, -, h5, h6, -⟩ := Cond.codeWith_spec (atoms_spec (ws := ws) h _ (by rw [hw]; exact List.mem_cons_self))
    cases hn.symm.trans hn9
    exact ⟨meth, c, h1, h2, h3, h4, h5, h6⟩
  · intro p e s m args below meth c s₁ B hml hP _
    have hh0 : s₁.heap = s.heap := by rw [B.state]; rfl
    obtain ⟨t, a1, o, b1, b2, b3⟩ := body p e s m args below meth c s₁ B hml hP s₁ hh0 (Stand.of_body B)
    exact ⟨t, o, a1, b1, b2, b3⟩
/-! ===== END ===== -/
end
section
/-! ===== BEGIN printed: names, fields, word lists, decode rows ===== -/
def RX0 : String := "PenSwings$Evening"
def TX0 : u_T := fun k => match k with
  | 0 => ("PenSwings$Evening", "order", "[I", true)
  | 1 => ("PenSwings$Evening", "length", "I", false)
  | 2 => ("PenSwings$Evening", "tea", "I", false)
  | 3 => ("PenSwings$Evening", "apart", "[I", true)
  | 4 => ("PenSwings$Evening", "fresh", "[I", true)
  | _ => ("PenSwings$Evening", "rested", "[I", true)
def tyX0 : Nat → FieldType := fun k => match k with
  | 0 => .array .int
  | 1 => .int
  | 2 => .int
  | 3 => .array .int
  | 4 => .array .int
  | _ => .array .int
abbrev wsX00 : List Cond := u_ws RX0 TX0 6
theorem nmX0 : ∀ a, a < 6 → ∀ b, b < 6 → a ≠ b → (TX0 a).2.1 ≠ (TX0 b).2.1 := by decide +kernel
theorem tyX0_ok : ∀ k, k < 6 → parseFieldDescriptor (TX0 k).2.2.1 = some (tyX0 k) := by decide +kernel
abbrev cX0_init : ByteArray := prog_2_method_1_code
def yX0_init : MethodName := ⟨RX0, "<init>", "()V"⟩
abbrev cX0_clear : ByteArray := prog_2_method_2_code
def yX0_clear : MethodName := ⟨RX0, "clear", "()V"⟩
abbrev cX0_make : ByteArray := prog_2_method_3_code
def yX0_make : MethodName := ⟨RX0, "make", "(ILPenSwings$Holdings;[I)I"⟩
abbrev cX0_measure : ByteArray := prog_2_method_4_code
def yX0_measure : MethodName := ⟨RX0, "measure", "(LPenSwings$Holdings;[I)V"⟩
abbrev cX0_pennies : ByteArray := prog_2_method_5_code
def yX0_pennies : MethodName := ⟨RX0, "pennies", "([II[II)I"⟩
abbrev cX0_apartOf : ByteArray := prog_2_method_6_code
def yX0_apartOf : MethodName := ⟨RX0, "apartOf", "(II)I"⟩
abbrev cX0_has : ByteArray := prog_2_method_7_code
def yX0_has : MethodName := ⟨RX0, "has", "(II)Z"⟩
abbrev cX0_stateOf : ByteArray := prog_2_method_8_code
def yX0_stateOf : MethodName := ⟨RX0, "stateOf", "(II)I"⟩
abbrev cX0_weigh : ByteArray := prog_2_method_9_code
def yX0_weigh : MethodName := ⟨RX0, "weigh", "(II)V"⟩
abbrev cX0_choose : ByteArray := prog_2_method_10_code
def yX0_choose : MethodName := ⟨RX0, "choose", "(I)I"⟩
abbrev cX0_through : ByteArray := prog_2_method_11_code
def yX0_through : MethodName := ⟨RX0, "through", "(IIIII)I"⟩
abbrev cX0_withTea : ByteArray := prog_2_method_12_code
def yX0_withTea : MethodName := ⟨RX0, "withTea", "(IIII)I"⟩
abbrev cX0_soonestTea : ByteArray := prog_2_method_13_code
def yX0_soonestTea : MethodName := ⟨RX0, "soonestTea", "(I)I"⟩
abbrev cX0_costWithTea : ByteArray := prog_2_method_14_code
def yX0_costWithTea : MethodName := ⟨RX0, "costWithTea", "(I)I"⟩
def RX1 : String := "PenSwings$Fitting"
def TX1 : u_T := fun k => match k with
  | 0 => ("PenSwings$Fitting", "rows", "I", false)
  | 1 => ("PenSwings$Fitting", "firstRow", "I", false)
  | 2 => ("PenSwings$Fitting", "nearestRow", "I", false)
  | 3 => ("PenSwings$Fitting", "nearestOff", "I", false)
  | 4 => ("PenSwings$Fitting", "cartTicks", "I", false)
  | 5 => ("PenSwings$Fitting", "leastCart", "I", false)
  | 6 => ("PenSwings$Fitting", "cartAlong", "I", false)
  | 7 => ("PenSwings$Fitting", "cartAcross", "I", false)
  | 8 => ("PenSwings$Fitting", "places", "[I", true)
  | 9 => ("PenSwings$Fitting", "offs", "[I", true)
  | _ => ("PenSwings$Fitting", "ways", "[I", true)
def tyX1 : Nat → FieldType := fun k => match k with
  | 0 => .int
  | 1 => .int
  | 2 => .int
  | 3 => .int
  | 4 => .int
  | 5 => .int
  | 6 => .int
  | 7 => .int
  | 8 => .array .int
  | 9 => .array .int
  | _ => .array .int
abbrev wsX10 : List Cond := u_ws RX1 TX1 11
theorem nmX1 : ∀ a, a < 11 → ∀ b, b < 11 → a ≠ b → (TX1 a).2.1 ≠ (TX1 b).2.1 := by decide +kernel
theorem tyX1_ok : ∀ k, k < 11 → parseFieldDescriptor (TX1 k).2.2.1 = some (tyX1 k) := by decide +kernel
abbrev cX1_init : ByteArray := prog_3_method_1_code
def yX1_init : MethodName := ⟨RX1, "<init>", "()V"⟩
abbrev cX1_findRows : ByteArray := prog_3_method_2_code
def yX1_findRows : MethodName := ⟨RX1, "findRows", "(LPenSwings$Frame;LPenSwings$Holdings;II)V"⟩
abbrev cX1_findPlaces : ByteArray := prog_3_method_3_code
def yX1_findPlaces : MethodName := ⟨RX1, "findPlaces", "(LPenSwings$Frame;LPenSwings$Holdings;I)V"⟩
abbrev cX1_placeOf : ByteArray := prog_3_method_4_code
def yX1_placeOf : MethodName := ⟨RX1, "placeOf", "(II)I"⟩
abbrev cX1_findOffs : ByteArray := prog_3_method_5_code
def yX1_findOffs : MethodName := ⟨RX1, "findOffs", "(LPenSwings$Frame;LPenSwings$Holdings;II)V"⟩
abbrev cX1_offOf : ByteArray := prog_3_method_6_code
def yX1_offOf : MethodName := ⟨RX1, "offOf", "(II)I"⟩
abbrev cX1_weighAll : ByteArray := prog_3_method_7_code
def yX1_weighAll : MethodName := ⟨RX1, "weighAll", "(IIII)V"⟩
abbrev cX1_weigh : ByteArray := prog_3_method_8_code
def yX1_weigh : MethodName := ⟨RX1, "weigh", "(IIII)V"⟩
abbrev cX1_figures : ByteArray := prog_3_method_9_code
def yX1_figures : MethodName := ⟨RX1, "figures", "(I)I"⟩
abbrev cX1_findCart : ByteArray := prog_3_method_10_code
def yX1_findCart : MethodName := ⟨RX1, "findCart", "(LPenSwings$Frame;LPenSwings$Holdings;)V"⟩
abbrev cX1_tryCart : ByteArray := prog_3_method_11_code
def yX1_tryCart : MethodName := ⟨RX1, "tryCart", "(ILPenSwings$Holdings;)V"⟩
abbrev cX1_modelOf : ByteArray := prog_3_method_12_code
def yX1_modelOf : MethodName := ⟨RX1, "modelOf", "(ILPenSwings$Holdings;)I"⟩
abbrev cX1_isStill : ByteArray := prog_3_method_13_code
def yX1_isStill : MethodName := ⟨RX1, "isStill", "(I)Z"⟩
abbrev cX1_isCartsWay : ByteArray := prog_3_method_14_code
def yX1_isCartsWay : MethodName := ⟨RX1, "isCartsWay", "(I)Z"⟩
def RX2 : String := "PenSwings$Frame"
def TX2 : u_T := fun k => match k with
  | 0 => ("PenSwings$Frame", "kinds", "[I", true)
  | 1 => ("PenSwings$Frame", "lengths", "[I", true)
  | 2 => ("PenSwings$Frame", "losses", "[I", true)
  | 3 => ("PenSwings$Frame", "settings", "[I", true)
  | 4 => ("PenSwings$Frame", "told", "I", false)
  | 5 => ("PenSwings$Frame", "carts", "I", false)
  | 6 => ("PenSwings$Frame", "cartTicks", "[I", true)
  | 7 => ("PenSwings$Frame", "cartWays", "[I", true)
  | 8 => ("PenSwings$Frame", "faded", "[I", true)
  | 9 => ("PenSwings$Frame", "fadedSizes", "[I", true)
  | _ => ("PenSwings$Frame", "fadedLosses", "[I", true)
def tyX2 : Nat → FieldType := fun k => match k with
  | 0 => .array .int
  | 1 => .array .int
  | 2 => .array .int
  | 3 => .array .int
  | 4 => .int
  | 5 => .int
  | 6 => .array .int
  | 7 => .array .int
  | 8 => .array .int
  | 9 => .array .int
  | _ => .array .int
abbrev wsX20 : List Cond := u_ws RX2 TX2 11
theorem nmX2 : ∀ a, a < 11 → ∀ b, b < 11 → a ≠ b → (TX2 a).2.1 ≠ (TX2 b).2.1 := by decide +kernel
theorem tyX2_ok : ∀ k, k < 11 → parseFieldDescriptor (TX2 k).2.2.1 = some (tyX2 k) := by decide +kernel
abbrev cX2_init : ByteArray := prog_4_method_1_code
def yX2_init : MethodName := ⟨RX2, "<init>", "()V"⟩
abbrev cX2_clear : ByteArray := prog_4_method_2_code
def yX2_clear : MethodName := ⟨RX2, "clear", "()V"⟩
abbrev cX2_copy : ByteArray := prog_4_method_3_code
def yX2_copy : MethodName := ⟨RX2, "copy", "(LPenSwings$Frame;)V"⟩
abbrev cX2_period : ByteArray := prog_4_method_4_code
def yX2_period : MethodName := ⟨RX2, "period", "(I)I"⟩
abbrev cX2_where : ByteArray := prog_4_method_5_code
def yX2_where : MethodName := ⟨RX2, "where", "(II)I"⟩
abbrev cX2_slope : ByteArray := prog_4_method_6_code
def yX2_slope : MethodName := ⟨RX2, "slope", "(II)I"⟩
abbrev cX2_arch : ByteArray := prog_4_method_7_code
def yX2_arch : MethodName := ⟨RX2, "arch", "(II)I"⟩
abbrev cX2_fade : ByteArray := prog_4_method_8_code
def yX2_fade : MethodName := ⟨RX2, "fade", "(I)V"⟩
abbrev cX2_swungTo : ByteArray := prog_4_method_9_code
def yX2_swungTo : MethodName := ⟨RX2, "swungTo", "(II)I"⟩
abbrev cX2_shaken : ByteArray := prog_4_method_10_code
def yX2_shaken : MethodName := ⟨RX2, "shaken", "(II)I"⟩
abbrev cX2_penAt : ByteArray := prog_4_method_11_code
def yX2_penAt : MethodName := ⟨RX2, "penAt", "(II)I"⟩
abbrev cX2_cellAt : ByteArray := prog_4_method_12_code
def yX2_cellAt : MethodName := ⟨RX2, "cellAt", "(I)I"⟩
abbrev cX2_ticksRound : ByteArray := prog_4_method_13_code
def yX2_ticksRound : MethodName := ⟨RX2, "ticksRound", "()I"⟩
def RX3 : String := "PenSwings$Holdings"
def TX3 : u_T := fun k => match k with
  | 0 => ("PenSwings$Holdings", "settings", "[I", true)
  | 1 => ("PenSwings$Holdings", "portraits", "I", false)
  | 2 => ("PenSwings$Holdings", "portraitRows", "[I", true)
  | 3 => ("PenSwings$Holdings", "points", "I", false)
  | 4 => ("PenSwings$Holdings", "pointRows", "[I", true)
  | 5 => ("PenSwings$Holdings", "birthdays", "I", false)
  | _ => ("PenSwings$Holdings", "days", "[I", true)
def tyX3 : Nat → FieldType := fun k => match k with
  | 0 => .array .int
  | 1 => .int
  | 2 => .array .int
  | 3 => .int
  | 4 => .array .int
  | 5 => .int
  | _ => .array .int
abbrev wsX30 : List Cond := u_ws RX3 TX3 7
theorem nmX3 : ∀ a, a < 7 → ∀ b, b < 7 → a ≠ b → (TX3 a).2.1 ≠ (TX3 b).2.1 := by decide +kernel
theorem tyX3_ok : ∀ k, k < 7 → parseFieldDescriptor (TX3 k).2.2.1 = some (tyX3 k) := by decide +kernel
abbrev cX3_init : ByteArray := prog_5_method_1_code
def yX3_init : MethodName := ⟨RX3, "<init>", "()V"⟩
abbrev cX3_clear : ByteArray := prog_5_method_2_code
def yX3_clear : MethodName := ⟨RX3, "clear", "()V"⟩
abbrev cX3_copy : ByteArray := prog_5_method_3_code
def yX3_copy : MethodName := ⟨RX3, "copy", "(LPenSwings$Holdings;)V"⟩
def RX4 : String := "PenSwings$Likeness"
def TX4 : u_T := fun k => match k with
  | 0 => ("PenSwings$Likeness", "partners", "[I", true)
  | _ => ("PenSwings$Likeness", "times", "[I", true)
def tyX4 : Nat → FieldType := fun k => match k with
  | 0 => .array .int
  | _ => .array .int
abbrev wsX40 : List Cond := u_ws RX4 TX4 2
theorem nmX4 : ∀ a, a < 2 → ∀ b, b < 2 → a ≠ b → (TX4 a).2.1 ≠ (TX4 b).2.1 := by decide +kernel
theorem tyX4_ok : ∀ k, k < 2 → parseFieldDescriptor (TX4 k).2.2.1 = some (tyX4 k) := by decide +kernel
abbrev cX4_init : ByteArray := prog_6_method_1_code
def yX4_init : MethodName := ⟨RX4, "<init>", "()V"⟩
abbrev cX4_joins : ByteArray := prog_6_method_2_code
def yX4_joins : MethodName := ⟨RX4, "joins", "(LPenSwings$Frame;LPenSwings$Frame;)Z"⟩
abbrev cX4_pair : ByteArray := prog_6_method_3_code
def yX4_pair : MethodName := ⟨RX4, "pair", "(I)V"⟩
abbrev cX4_agree : ByteArray := prog_6_method_4_code
def yX4_agree : MethodName := ⟨RX4, "agree", "(LPenSwings$Frame;LPenSwings$Frame;)Z"⟩
abbrev cX4_meet : ByteArray := prog_6_method_5_code
def yX4_meet : MethodName := ⟨RX4, "meet", "(LPenSwings$Frame;LPenSwings$Frame;)Z"⟩
abbrev cX4_findTimes : ByteArray := prog_6_method_6_code
def yX4_findTimes : MethodName := ⟨RX4, "findTimes", "(LPenSwings$Frame;LPenSwings$Frame;I)Z"⟩
abbrev cX4_oneTimeForAll : ByteArray := prog_6_method_7_code
def yX4_oneTimeForAll : MethodName := ⟨RX4, "oneTimeForAll", "(LPenSwings$Frame;)Z"⟩
def RX5 : String := "PenSwings$Parish"
def TX5 : u_T := fun k => match k with
  | 0 => ("PenSwings$Parish", "best", "I", false)
  | 1 => ("PenSwings$Parish", "fewest", "I", false)
  | _ => ("PenSwings$Parish", "foundAt", "I", false)
def tyX5 : Nat → FieldType := fun k => match k with
  | 0 => .int
  | 1 => .int
  | _ => .int
abbrev wsX50 : List Cond := u_ws RX5 TX5 3
theorem nmX5 : ∀ a, a < 3 → ∀ b, b < 3 → a ≠ b → (TX5 a).2.1 ≠ (TX5 b).2.1 := by decide +kernel
theorem tyX5_ok : ∀ k, k < 3 → parseFieldDescriptor (TX5 k).2.2.1 = some (tyX5 k) := by decide +kernel
abbrev cX5_init : ByteArray := prog_7_method_1_code
def yX5_init : MethodName := ⟨RX5, "<init>", "()V"⟩
abbrev cX5_findBest : ByteArray := prog_7_method_2_code
def yX5_findBest : MethodName := ⟨RX5, "findBest", "(LPenSwings$Holdings;I)V"⟩
abbrev cX5_fewestUnlike : ByteArray := prog_7_method_3_code
def yX5_fewestUnlike : MethodName := ⟨RX5, "fewestUnlike", "(LPenSwings$Holdings;I)I"⟩
abbrev cX5_unlikeFigures : ByteArray := prog_7_method_4_code
def yX5_unlikeFigures : MethodName := ⟨RX5, "unlikeFigures", "(II)I"⟩
def RX6 : String := "PenSwings$Performance"
def TX6 : u_T := fun k => match k with
  | 0 => ("PenSwings$Performance", "frame", "LPenSwings$Frame;", true)
  | 1 => ("PenSwings$Performance", "marksOf", "[I", true)
  | 2 => ("PenSwings$Performance", "markedCells", "I", false)
  | 3 => ("PenSwings$Performance", "begun", "I", false)
  | 4 => ("PenSwings$Performance", "tick", "I", false)
  | 5 => ("PenSwings$Performance", "spent", "Z", false)
  | 6 => ("PenSwings$Performance", "turned", "Z", false)
  | 7 => ("PenSwings$Performance", "repeats", "[I", true)
  | _ => ("PenSwings$Performance", "playedAt", "I", false)
def tyX6 : Nat → FieldType := fun k => match k with
  | 0 => .object "PenSwings$Frame"
  | 1 => .array .int
  | 2 => .int
  | 3 => .int
  | 4 => .int
  | 5 => .boolean
  | 6 => .boolean
  | 7 => .array .int
  | _ => .int
abbrev wsX60 : List Cond := u_ws RX6 TX6 9
theorem nmX6 : ∀ a, a < 9 → ∀ b, b < 9 → a ≠ b → (TX6 a).2.1 ≠ (TX6 b).2.1 := by decide +kernel
theorem tyX6_ok : ∀ k, k < 9 → parseFieldDescriptor (TX6 k).2.2.1 = some (tyX6 k) := by decide +kernel
abbrev cX6_init : ByteArray := prog_8_method_1_code
def yX6_init : MethodName := ⟨RX6, "<init>", "()V"⟩
abbrev cX6_play : ByteArray := prog_8_method_2_code
def yX6_play : MethodName := ⟨RX6, "play", "(LPenSwings$Score;LPenSwings$Frame;I)V"⟩
abbrev cX6_goesAside : ByteArray := prog_8_method_3_code
def yX6_goesAside : MethodName := ⟨RX6, "goesAside", "(LPenSwings$Score;I)Z"⟩
abbrev cX6_draw : ByteArray := prog_8_method_4_code
def yX6_draw : MethodName := ⟨RX6, "draw", "(I)V"⟩
abbrev cX6_mark : ByteArray := prog_8_method_5_code
def yX6_mark : MethodName := ⟨RX6, "mark", "(I)V"⟩
abbrev cX6_lift : ByteArray := prog_8_method_6_code
def yX6_lift : MethodName := ⟨RX6, "lift", "(I)V"⟩
abbrev cX6_alter : ByteArray := prog_8_method_7_code
def yX6_alter : MethodName := ⟨RX6, "alter", "(III)V"⟩
abbrev cX6_holds : ByteArray := prog_8_method_8_code
def yX6_holds : MethodName := ⟨RX6, "holds", "(I)Z"⟩
abbrev cX6_cell : ByteArray := prog_8_method_9_code
def yX6_cell : MethodName := ⟨RX6, "cell", "()I"⟩
def RX7 : String := "PenSwings$Score"
def TX7 : u_T := fun k => match k with
  | 0 => ("PenSwings$Score", "verbs", "[I", true)
  | 1 => ("PenSwings$Score", "numbers", "[I", true)
  | 2 => ("PenSwings$Score", "changes", "[I", true)
  | 3 => ("PenSwings$Score", "jumps", "[I", true)
  | 4 => ("PenSwings$Score", "size", "I", false)
  | 5 => ("PenSwings$Score", "open", "[I", true)
  | _ => ("PenSwings$Score", "depth", "I", false)
def tyX7 : Nat → FieldType := fun k => match k with
  | 0 => .array .int
  | 1 => .array .int
  | 2 => .array .int
  | 3 => .array .int
  | 4 => .int
  | 5 => .array .int
  | _ => .int
abbrev wsX70 : List Cond := u_ws RX7 TX7 7
theorem nmX7 : ∀ a, a < 7 → ∀ b, b < 7 → a ≠ b → (TX7 a).2.1 ≠ (TX7 b).2.1 := by decide +kernel
theorem tyX7_ok : ∀ k, k < 7 → parseFieldDescriptor (TX7 k).2.2.1 = some (tyX7 k) := by decide +kernel
abbrev cX7_init : ByteArray := prog_9_method_1_code
def yX7_init : MethodName := ⟨RX7, "<init>", "()V"⟩
abbrev cX7_read : ByteArray := prog_9_method_2_code
def yX7_read : MethodName := ⟨RX7, "read", "(LPenSwings$Tape;)Z"⟩
abbrev cX7_readAct : ByteArray := prog_9_method_3_code
def yX7_readAct : MethodName := ⟨RX7, "readAct", "(LPenSwings$Tape;)Z"⟩
abbrev cX7_verbTold : ByteArray := prog_9_method_4_code
def yX7_verbTold : MethodName := ⟨RX7, "verbTold", "(LPenSwings$Tape;)I"⟩
abbrev cX7_addStep : ByteArray := prog_9_method_5_code
def yX7_addStep : MethodName := ⟨RX7, "addStep", "(I)Z"⟩
abbrev cX7_readNumber : ByteArray := prog_9_method_6_code
def yX7_readNumber : MethodName := ⟨RX7, "readNumber", "(LPenSwings$Tape;II)Z"⟩
abbrev cX7_readChange : ByteArray := prog_9_method_7_code
def yX7_readChange : MethodName := ⟨RX7, "readChange", "(LPenSwings$Tape;I)Z"⟩
abbrev cX7_readTest : ByteArray := prog_9_method_8_code
def yX7_readTest : MethodName := ⟨RX7, "readTest", "(LPenSwings$Tape;)Z"⟩
abbrev cX7_testTold : ByteArray := prog_9_method_9_code
def yX7_testTold : MethodName := ⟨RX7, "testTold", "(LPenSwings$Tape;)I"⟩
abbrev cX7_openBlock : ByteArray := prog_9_method_10_code
def yX7_openBlock : MethodName := ⟨RX7, "openBlock", "(LPenSwings$Tape;)Z"⟩
abbrev cX7_closeBlock : ByteArray := prog_9_method_11_code
def yX7_closeBlock : MethodName := ⟨RX7, "closeBlock", "(LPenSwings$Tape;)Z"⟩
def RX8 : String := "PenSwings$SwingsText"
def TX8 : u_T := fun k => match k with
  | _ => ("", "", "", false)
def tyX8 : Nat → FieldType := fun k => match k with
  | _ => .int
abbrev wsX80 : List Cond := u_ws RX8 TX8 0
theorem nmX8 : ∀ a, a < 0 → ∀ b, b < 0 → a ≠ b → (TX8 a).2.1 ≠ (TX8 b).2.1 := by decide +kernel
theorem tyX8_ok : ∀ k, k < 0 → parseFieldDescriptor (TX8 k).2.2.1 = some (tyX8 k) := by decide +kernel
abbrev cX8_read : ByteArray := prog_10_method_2_code
def yX8_read : MethodName := ⟨RX8, "read", "(LPenSwings$Tape;LPenSwings$Frame;)Z"⟩
abbrev cX8_readLine : ByteArray := prog_10_method_3_code
def yX8_readLine : MethodName := ⟨RX8, "readLine", "(LPenSwings$Tape;LPenSwings$Frame;)Z"⟩
abbrev cX8_readPendulum : ByteArray := prog_10_method_4_code
def yX8_readPendulum : MethodName := ⟨RX8, "readPendulum", "(LPenSwings$Tape;LPenSwings$Frame;)Z"⟩
abbrev cX8_countPendulum : ByteArray := prog_10_method_5_code
def yX8_countPendulum : MethodName := ⟨RX8, "countPendulum", "(LPenSwings$Frame;)Z"⟩
abbrev cX8_kindTold : ByteArray := prog_10_method_6_code
def yX8_kindTold : MethodName := ⟨RX8, "kindTold", "(LPenSwings$Tape;)I"⟩
abbrev cX8_readInto : ByteArray := prog_10_method_7_code
def yX8_readInto : MethodName := ⟨RX8, "readInto", "(LPenSwings$Tape;II[II)Z"⟩
abbrev cX8_readCart : ByteArray := prog_10_method_8_code
def yX8_readCart : MethodName := ⟨RX8, "readCart", "(LPenSwings$Tape;LPenSwings$Frame;)Z"⟩
abbrev cX8_readPennies : ByteArray := prog_10_method_9_code
def yX8_readPennies : MethodName := ⟨RX8, "readPennies", "(LPenSwings$Tape;LPenSwings$Frame;)Z"⟩
def RX9 : String := "PenSwings$Tape"
def TX9 : u_T := fun k => match k with
  | 0 => ("PenSwings$Tape", "bytes", "[B", true)
  | 1 => ("PenSwings$Tape", "length", "I", false)
  | 2 => ("PenSwings$Tape", "wrong", "I", false)
  | 3 => ("PenSwings$Tape", "place", "I", false)
  | 4 => ("PenSwings$Tape", "taken", "I", false)
  | 5 => ("PenSwings$Tape", "end", "I", false)
  | 6 => ("PenSwings$Tape", "at", "I", false)
  | 7 => ("PenSwings$Tape", "token", "I", false)
  | 8 => ("PenSwings$Tape", "first", "I", false)
  | _ => ("PenSwings$Tape", "value", "I", false)
def tyX9 : Nat → FieldType := fun k => match k with
  | 0 => .array .byte
  | 1 => .int
  | 2 => .int
  | 3 => .int
  | 4 => .int
  | 5 => .int
  | 6 => .int
  | 7 => .int
  | 8 => .int
  | _ => .int
abbrev wsX90 : List Cond := u_ws RX9 TX9 10
theorem nmX9 : ∀ a, a < 10 → ∀ b, b < 10 → a ≠ b → (TX9 a).2.1 ≠ (TX9 b).2.1 := by decide +kernel
theorem tyX9_ok : ∀ k, k < 10 → parseFieldDescriptor (TX9 k).2.2.1 = some (tyX9 k) := by decide +kernel
abbrev cX9_init : ByteArray := prog_11_method_1_code
def yX9_init : MethodName := ⟨RX9, "<init>", "()V"⟩
abbrev cX9_hasRoom : ByteArray := prog_11_method_2_code
def yX9_hasRoom : MethodName := ⟨RX9, "hasRoom", "()Z"⟩
abbrev cX9_lay : ByteArray := prog_11_method_3_code
def yX9_lay : MethodName := ⟨RX9, "lay", "(I)V"⟩
abbrev cX9_begin : ByteArray := prog_11_method_4_code
def yX9_begin : MethodName := ⟨RX9, "begin", "(I)V"⟩
abbrev cX9_advance : ByteArray := prog_11_method_5_code
def yX9_advance : MethodName := ⟨RX9, "advance", "()V"⟩
abbrev cX9_isBlank : ByteArray := prog_11_method_6_code
def yX9_isBlank : MethodName := ⟨RX9, "isBlank", "(I)Z"⟩
abbrev cX9_isLetter : ByteArray := prog_11_method_7_code
def yX9_isLetter : MethodName := ⟨RX9, "isLetter", "(I)Z"⟩
abbrev cX9_isDigit : ByteArray := prog_11_method_8_code
def yX9_isDigit : MethodName := ⟨RX9, "isDigit", "(I)Z"⟩
abbrev cX9_isEnd : ByteArray := prog_11_method_9_code
def yX9_isEnd : MethodName := ⟨RX9, "isEnd", "()Z"⟩
abbrev cX9_isWord : ByteArray := prog_11_method_10_code
def yX9_isWord : MethodName := ⟨RX9, "isWord", "(Ljava/lang/String;)Z"⟩
abbrev cX9_isSign : ByteArray := prog_11_method_11_code
def yX9_isSign : MethodName := ⟨RX9, "isSign", "(C)Z"⟩
abbrev cX9_refuse : ByteArray := prog_11_method_12_code
def yX9_refuse : MethodName := ⟨RX9, "refuse", "(I)Z"⟩
abbrev cX9_takeSign : ByteArray := prog_11_method_13_code
def yX9_takeSign : MethodName := ⟨RX9, "takeSign", "(C)Z"⟩
abbrev cX9_takeNumber : ByteArray := prog_11_method_14_code
def yX9_takeNumber : MethodName := ⟨RX9, "takeNumber", "(II)Z"⟩
abbrev cX9_takeSigned : ByteArray := prog_11_method_15_code
def yX9_takeSigned : MethodName := ⟨RX9, "takeSigned", "(I)Z"⟩
def RX10 : String := "PenSwings"
def TX10 : u_T := fun k => match k with
  | 0 => ("PenSwings", "tape", "LPenSwings$Tape;", true)
  | 1 => ("PenSwings", "now", "LPenSwings$Frame;", true)
  | 2 => ("PenSwings", "spare", "LPenSwings$Frame;", true)
  | 3 => ("PenSwings", "other", "LPenSwings$Frame;", true)
  | 4 => ("PenSwings", "held", "LPenSwings$Holdings;", true)
  | 5 => ("PenSwings", "pictured", "LPenSwings$Holdings;", true)
  | 6 => ("PenSwings", "hasImage", "Z", false)
  | 7 => ("PenSwings", "acts", "LPenSwings$Score;", false)
  | 8 => ("PenSwings", "spareActs", "LPenSwings$Score;", false)
  | 9 => ("PenSwings", "performance", "LPenSwings$Performance;", true)
  | 10 => ("PenSwings", "likeness", "LPenSwings$Likeness;", true)
  | 11 => ("PenSwings", "fitting", "LPenSwings$Fitting;", true)
  | 12 => ("PenSwings", "plan", "LPenSwings$Evening;", true)
  | 13 => ("PenSwings", "parish", "LPenSwings$Parish;", true)
  | 14 => ("PenSwings", "seen", "[I", true)
  | 15 => ("PenSwings", "refused", "[I", true)
  | _ => ("PenSwings", "changes", "I", false)
def tyX10 : Nat → FieldType := fun k => match k with
  | 0 => .object "PenSwings$Tape"
  | 1 => .object "PenSwings$Frame"
  | 2 => .object "PenSwings$Frame"
  | 3 => .object "PenSwings$Frame"
  | 4 => .object "PenSwings$Holdings"
  | 5 => .object "PenSwings$Holdings"
  | 6 => .boolean
  | 7 => .object "PenSwings$Score"
  | 8 => .object "PenSwings$Score"
  | 9 => .object "PenSwings$Performance"
  | 10 => .object "PenSwings$Likeness"
  | 11 => .object "PenSwings$Fitting"
  | 12 => .object "PenSwings$Evening"
  | 13 => .object "PenSwings$Parish"
  | 14 => .array .int
  | 15 => .array .int
  | _ => .int
abbrev wsX100 : List Cond := u_ws RX10 TX10 17
theorem nmX10 : ∀ a, a < 17 → ∀ b, b < 17 → a ≠ b → (TX10 a).2.1 ≠ (TX10 b).2.1 := by decide +kernel
theorem tyX10_ok : ∀ k, k < 17 → parseFieldDescriptor (TX10 k).2.2.1 = some (tyX10 k) := by decide +kernel
abbrev cX10_init : ByteArray := prog_1_method_1_code
def yX10_init : MethodName := ⟨RX10, "<init>", "()V"⟩
abbrev cX10_feed : ByteArray := prog_1_method_2_code
def yX10_feed : MethodName := ⟨RX10, "feed", "(IIIII)I"⟩
abbrev cX10_swings : ByteArray := prog_1_method_3_code
def yX10_swings : MethodName := ⟨RX10, "swings", "(I)I"⟩
abbrev cX10_score : ByteArray := prog_1_method_4_code
def yX10_score : MethodName := ⟨RX10, "score", "(I)I"⟩
abbrev cX10_performed : ByteArray := prog_1_method_5_code
def yX10_performed : MethodName := ⟨RX10, "performed", "(I)I"⟩
abbrev cX10_marks : ByteArray := prog_1_method_6_code
def yX10_marks : MethodName := ⟨RX10, "marks", "(I)I"⟩
abbrev cX10_fault : ByteArray := prog_1_method_7_code
def yX10_fault : MethodName := ⟨RX10, "fault", "()I"⟩
abbrev cX10_count : ByteArray := prog_1_method_8_code
def yX10_count : MethodName := ⟨RX10, "count", "(I)I"⟩
abbrev cX10_pendulum : ByteArray := prog_1_method_9_code
def yX10_pendulum : MethodName := ⟨RX10, "pendulum", "(II)I"⟩
abbrev cX10_set : ByteArray := prog_1_method_10_code
def yX10_set : MethodName := ⟨RX10, "set", "(III)I"⟩
abbrev cX10_swing : ByteArray := prog_1_method_11_code
def yX10_swing : MethodName := ⟨RX10, "swing", "(II)I"⟩
abbrev cX10_pen : ByteArray := prog_1_method_12_code
def yX10_pen : MethodName := ⟨RX10, "pen", "(II)I"⟩
abbrev cX10_drawn : ByteArray := prog_1_method_13_code
def yX10_drawn : MethodName := ⟨RX10, "drawn", "(II)I"⟩
abbrev cX10_inCell : ByteArray := prog_1_method_14_code
def yX10_inCell : MethodName := ⟨RX10, "inCell", "(III)I"⟩
abbrev cX10_round : ByteArray := prog_1_method_15_code
def yX10_round : MethodName := ⟨RX10, "round", "()I"⟩
abbrev cX10_off : ByteArray := prog_1_method_16_code
def yX10_off : MethodName := ⟨RX10, "off", "()I"⟩
abbrev cX10_keep : ByteArray := prog_1_method_17_code
def yX10_keep : MethodName := ⟨RX10, "keep", "()I"⟩
abbrev cX10_take : ByteArray := prog_1_method_18_code
def yX10_take : MethodName := ⟨RX10, "take", "(I)V"⟩
abbrev cX10_alike : ByteArray := prog_1_method_19_code
def yX10_alike : MethodName := ⟨RX10, "alike", "(II)I"⟩
abbrev cX10_kinds : ByteArray := prog_1_method_20_code
def yX10_kinds : MethodName := ⟨RX10, "kinds", "(I)I"⟩
abbrev cX10_point : ByteArray := prog_1_method_21_code
def yX10_point : MethodName := ⟨RX10, "point", "(III)I"⟩
abbrev cX10_unpoint : ByteArray := prog_1_method_22_code
def yX10_unpoint : MethodName := ⟨RX10, "unpoint", "()I"⟩
abbrev cX10_fits : ByteArray := prog_1_method_23_code
def yX10_fits : MethodName := ⟨RX10, "fits", "(III)I"⟩
abbrev cX10_chord : ByteArray := prog_1_method_24_code
def yX10_chord : MethodName := ⟨RX10, "chord", "(III)I"⟩
abbrev cX10_cart : ByteArray := prog_1_method_25_code
def yX10_cart : MethodName := ⟨RX10, "cart", "(I)I"⟩
abbrev cX10_birthday : ByteArray := prog_1_method_26_code
def yX10_birthday : MethodName := ⟨RX10, "birthday", "(I)I"⟩
abbrev cX10_forget : ByteArray := prog_1_method_27_code
def yX10_forget : MethodName := ⟨RX10, "forget", "()I"⟩
abbrev cX10_factor : ByteArray := prog_1_method_28_code
def yX10_factor : MethodName := ⟨RX10, "factor", "(I)I"⟩
abbrev cX10_laid : ByteArray := prog_1_method_29_code
def yX10_laid : MethodName := ⟨RX10, "laid", "(IIIII)I"⟩
abbrev cX10_evening : ByteArray := prog_1_method_30_code
def yX10_evening : MethodName := ⟨RX10, "evening", "(I)I"⟩
abbrev cX10_drawing : ByteArray := prog_1_method_31_code
def yX10_drawing : MethodName := ⟨RX10, "drawing", "(I)I"⟩
abbrev cX10_image : ByteArray := prog_1_method_32_code
def yX10_image : MethodName := ⟨RX10, "image", "()V"⟩
abbrev cX10_restore : ByteArray := prog_1_method_33_code
def yX10_restore : MethodName := ⟨RX10, "restore", "()Z"⟩
abbrev cX10_endOfText : ByteArray := prog_1_method_34_code
def yX10_endOfText : MethodName := ⟨RX10, "endOfText", "()I"⟩
abbrev cX10_refuse : ByteArray := prog_1_method_35_code
def yX10_refuse : MethodName := ⟨RX10, "refuse", "(I)I"⟩
abbrev cX10_takeInto : ByteArray := prog_1_method_36_code
def yX10_takeInto : MethodName := ⟨RX10, "takeInto", "(ILPenSwings$Frame;)V"⟩
abbrev cX10_copyWith : ByteArray := prog_1_method_37_code
def yX10_copyWith : MethodName := ⟨RX10, "copyWith", "(ILPenSwings$Frame;)V"⟩
abbrev cX10_compare : ByteArray := prog_1_method_38_code
def yX10_compare : MethodName := ⟨RX10, "compare", "(II)I"⟩
abbrev cX10_leastOfKind : ByteArray := prog_1_method_39_code
def yX10_leastOfKind : MethodName := ⟨RX10, "leastOfKind", "(I)I"⟩
abbrev cX10_markSeen : ByteArray := prog_1_method_40_code
def yX10_markSeen : MethodName := ⟨RX10, "markSeen", "(LPenSwings$Frame;III)V"⟩
abbrev cX10_markPortrait : ByteArray := prog_1_method_41_code
def yX10_markPortrait : MethodName := ⟨RX10, "markPortrait", "(IIII)V"⟩
abbrev cX10_cellsSeen : ByteArray := prog_1_method_42_code
def yX10_cellsSeen : MethodName := ⟨RX10, "cellsSeen", "(I)I"⟩
abbrev cX10_needBytes : ByteArray := prog_1_method_43_code
def yX10_needBytes : MethodName := ⟨RX10, "needBytes", "(I)V"⟩
abbrev cX10_needPortrait : ByteArray := prog_1_method_44_code
def yX10_needPortrait : MethodName := ⟨RX10, "needPortrait", "(I)V"⟩
abbrev cX10_needPendulum : ByteArray := prog_1_method_45_code
def yX10_needPendulum : MethodName := ⟨RX10, "needPendulum", "(I)V"⟩
abbrev cX10_needWhat : ByteArray := prog_1_method_46_code
def yX10_needWhat : MethodName := ⟨RX10, "needWhat", "(II)V"⟩
abbrev cX10_needCell : ByteArray := prog_1_method_47_code
def yX10_needCell : MethodName := ⟨RX10, "needCell", "(I)V"⟩
abbrev cX10_needTick : ByteArray := prog_1_method_48_code
def yX10_needTick : MethodName := ⟨RX10, "needTick", "(I)V"⟩
abbrev cX10_needSpan : ByteArray := prog_1_method_49_code
def yX10_needSpan : MethodName := ⟨RX10, "needSpan", "(II)V"⟩
abbrev cX10_needWithin : ByteArray := prog_1_method_50_code
def yX10_needWithin : MethodName := ⟨RX10, "needWithin", "(III)V"⟩
abbrev cX10_isTick : ByteArray := prog_1_method_51_code
def yX10_isTick : MethodName := ⟨RX10, "isTick", "(I)Z"⟩
abbrev cX10_isCell : ByteArray := prog_1_method_52_code
def yX10_isCell : MethodName := ⟨RX10, "isCell", "(I)Z"⟩
abbrev cX10_isPlace : ByteArray := prog_1_method_53_code
def yX10_isPlace : MethodName := ⟨RX10, "isPlace", "(I)Z"⟩
abbrev cX10_mostOfSetting : ByteArray := prog_1_method_54_code
def yX10_mostOfSetting : MethodName := ⟨RX10, "mostOfSetting", "(I)I"⟩
abbrev cX10_cellOf : ByteArray := prog_1_method_55_code
def yX10_cellOf : MethodName := ⟨RX10, "cellOf", "(II)I"⟩
abbrev cX10_greatestCommon : ByteArray := prog_1_method_56_code
def yX10_greatestCommon : MethodName := ⟨RX10, "greatestCommon", "(II)I"⟩
def RX11 : String := "PenSwingsModel"
def TX11 : u_T := fun k => match k with
  | 0 => ("PenSwingsModel", "thrown", "I", false)
  | 1 => ("PenSwingsModel", "told", "I", false)
  | 2 => ("PenSwingsModel", "carts", "I", false)
  | 3 => ("PenSwingsModel", "kind", "[I", true)
  | 4 => ("PenSwingsModel", "length", "[I", true)
  | 5 => ("PenSwingsModel", "loss", "[I", true)
  | 6 => ("PenSwingsModel", "sets", "[I", true)
  | 7 => ("PenSwingsModel", "cart", "[I", true)
  | 8 => ("PenSwingsModel", "tape", "[I", true)
  | 9 => ("PenSwingsModel", "taped", "I", false)
  | 10 => ("PenSwingsModel", "faultKind", "I", false)
  | 11 => ("PenSwingsModel", "faultPlace", "I", false)
  | 12 => ("PenSwingsModel", "refused", "[I", true)
  | 13 => ("PenSwingsModel", "long1", "I", false)
  | 14 => ("PenSwingsModel", "next", "I", false)
  | 15 => ("PenSwingsModel", "sort", "I", false)
  | 16 => ("PenSwingsModel", "place", "I", false)
  | 17 => ("PenSwingsModel", "long0", "I", false)
  | 18 => ("PenSwingsModel", "value", "I", false)
  | 19 => ("PenSwingsModel", "sign", "I", false)
  | 20 => ("PenSwingsModel", "word", "J", false)
  | 21 => ("PenSwingsModel", "newTold", "I", false)
  | 22 => ("PenSwingsModel", "newCarts", "I", false)
  | 23 => ("PenSwingsModel", "hasPennies", "Z", false)
  | 24 => ("PenSwingsModel", "newKind", "[I", true)
  | 25 => ("PenSwingsModel", "newLength", "[I", true)
  | 26 => ("PenSwingsModel", "newLoss", "[I", true)
  | 27 => ("PenSwingsModel", "newSets", "[I", true)
  | 28 => ("PenSwingsModel", "newCart", "[I", true)
  | 29 => ("PenSwingsModel", "marks", "[I", true)
  | 30 => ("PenSwingsModel", "portraits", "I", false)
  | 31 => ("PenSwingsModel", "portrait", "[I", true)
  | 32 => ("PenSwingsModel", "head", "[I", true)
  | 33 => ("PenSwingsModel", "points", "I", false)
  | 34 => ("PenSwingsModel", "point", "[I", true)
  | 35 => ("PenSwingsModel", "trying", "[I", true)
  | 36 => ("PenSwingsModel", "birthdays", "I", false)
  | 37 => ("PenSwingsModel", "birthday", "[I", true)
  | 38 => ("PenSwingsModel", "order", "[I", true)
  | 39 => ("PenSwingsModel", "evening", "[I", true)
  | 40 => ("PenSwingsModel", "evenLong", "I", false)
  | 41 => ("PenSwingsModel", "tea", "I", false)
  | 42 => ("PenSwingsModel", "code", "[I", true)
  | 43 => ("PenSwingsModel", "newCode", "[I", true)
  | 44 => ("PenSwingsModel", "openKind", "[I", true)
  | 45 => ("PenSwingsModel", "openAt", "[I", true)
  | 46 => ("PenSwingsModel", "counts", "[I", true)
  | 47 => ("PenSwingsModel", "top", "I", false)
  | 48 => ("PenSwingsModel", "opened", "I", false)
  | 49 => ("PenSwingsModel", "marked", "[I", true)
  | 50 => ("PenSwingsModel", "going", "[I", true)
  | 51 => ("PenSwingsModel", "began", "I", false)
  | 52 => ("PenSwingsModel", "tick", "I", false)
  | 53 => ("PenSwingsModel", "isTurned", "Z", false)
  | 54 => ("PenSwingsModel", "isSpent", "Z", false)
  | 55 => ("PenSwingsModel", "hasImage", "Z", false)
  | 56 => ("PenSwingsModel", "imageOf", "[I", true)
  | 57 => ("PenSwingsModel", "imageSets", "[I", true)
  | 58 => ("PenSwingsModel", "imagePortrait", "[I", true)
  | 59 => ("PenSwingsModel", "imagePoint", "[I", true)
  | _ => ("PenSwingsModel", "imageBirthday", "[I", true)
def tyX11 : Nat → FieldType := fun k => match k with
  | 0 => .int
  | 1 => .int
  | 2 => .int
  | 3 => .array .int
  | 4 => .array .int
  | 5 => .array .int
  | 6 => .array .int
  | 7 => .array .int
  | 8 => .array .int
  | 9 => .int
  | 10 => .int
  | 11 => .int
  | 12 => .array .int
  | 13 => .int
  | 14 => .int
  | 15 => .int
  | 16 => .int
  | 17 => .int
  | 18 => .int
  | 19 => .int
  | 20 => .long
  | 21 => .int
  | 22 => .int
  | 23 => .boolean
  | 24 => .array .int
  | 25 => .array .int
  | 26 => .array .int
  | 27 => .array .int
  | 28 => .array .int
  | 29 => .array .int
  | 30 => .int
  | 31 => .array .int
  | 32 => .array .int
  | 33 => .int
  | 34 => .array .int
  | 35 => .array .int
  | 36 => .int
  | 37 => .array .int
  | 38 => .array .int
  | 39 => .array .int
  | 40 => .int
  | 41 => .int
  | 42 => .array .int
  | 43 => .array .int
  | 44 => .array .int
  | 45 => .array .int
  | 46 => .array .int
  | 47 => .int
  | 48 => .int
  | 49 => .array .int
  | 50 => .array .int
  | 51 => .int
  | 52 => .int
  | 53 => .boolean
  | 54 => .boolean
  | 55 => .boolean
  | 56 => .array .int
  | 57 => .array .int
  | 58 => .array .int
  | 59 => .array .int
  | _ => .array .int
abbrev wsX110 : List Cond := u_ws RX11 TX11 61
theorem nmX11 : ∀ a, a < 61 → ∀ b, b < 61 → a ≠ b → (TX11 a).2.1 ≠ (TX11 b).2.1 := by decide +kernel
theorem tyX11_ok : ∀ k, k < 61 → parseFieldDescriptor (TX11 k).2.2.1 = some (tyX11 k) := by decide +kernel
abbrev cX11_init : ByteArray := prog_13_method_1_code
def yX11_init : MethodName := ⟨RX11, "<init>", "()V"⟩
abbrev cX11_thrown : ByteArray := prog_13_method_2_code
def yX11_thrown : MethodName := ⟨RX11, "thrown", "()I"⟩
abbrev cX11_right : ByteArray := prog_13_method_3_code
def yX11_right : MethodName := ⟨RX11, "right", "(ZI)Z"⟩
abbrev cX11_within : ByteArray := prog_13_method_4_code
def yX11_within : MethodName := ⟨RX11, "within", "(III)Z"⟩
abbrev cX11_size : ByteArray := prog_13_method_5_code
def yX11_size : MethodName := ⟨RX11, "size", "(I)I"⟩
abbrev cX11_copies : ByteArray := prog_13_method_7_code
def yX11_copies : MethodName := ⟨RX11, "copies", "([I[I)V"⟩
abbrev cX11_feed : ByteArray := prog_13_method_8_code
def yX11_feed : MethodName := ⟨RX11, "feed", "(IIIII)I"⟩
abbrev cX11_lays : ByteArray := prog_13_method_9_code
def yX11_lays : MethodName := ⟨RX11, "lays", "(I)V"⟩
abbrev cX11_byteAt : ByteArray := prog_13_method_10_code
def yX11_byteAt : MethodName := ⟨RX11, "byteAt", "(I)I"⟩
abbrev cX11_isLetter : ByteArray := prog_13_method_11_code
def yX11_isLetter : MethodName := ⟨RX11, "isLetter", "(I)Z"⟩
abbrev cX11_isDigit : ByteArray := prog_13_method_12_code
def yX11_isDigit : MethodName := ⟨RX11, "isDigit", "(I)Z"⟩
abbrev cX11_steps : ByteArray := prog_13_method_13_code
def yX11_steps : MethodName := ⟨RX11, "steps", "()V"⟩
abbrev cX11_spelled : ByteArray := prog_13_method_14_code
def yX11_spelled : MethodName := ⟨RX11, "spelled", "(IIIIIIII)J"⟩
abbrev cX11_letters : ByteArray := prog_13_method_15_code
def yX11_letters : MethodName := ⟨RX11, "letters", "(I)J"⟩
abbrev cX11_is : ByteArray := prog_13_method_16_code
def yX11_is : MethodName := ⟨RX11, "is", "(I)Z"⟩
abbrev cX11_wrong : ByteArray := prog_13_method_17_code
def yX11_wrong : MethodName := ⟨RX11, "wrong", "(I)V"⟩
abbrev cX11_isGood : ByteArray := prog_13_method_18_code
def yX11_isGood : MethodName := ⟨RX11, "isGood", "()Z"⟩
abbrev cX11_need : ByteArray := prog_13_method_19_code
def yX11_need : MethodName := ⟨RX11, "need", "(Z)V"⟩
abbrev cX11_number : ByteArray := prog_13_method_20_code
def yX11_number : MethodName := ⟨RX11, "number", "(II)I"⟩
abbrev cX11_signed : ByteArray := prog_13_method_21_code
def yX11_signed : MethodName := ⟨RX11, "signed", "(I)I"⟩
abbrev cX11_readsPendulum : ByteArray := prog_13_method_22_code
def yX11_readsPendulum : MethodName := ⟨RX11, "readsPendulum", "()V"⟩
abbrev cX11_line : ByteArray := prog_13_method_23_code
def yX11_line : MethodName := ⟨RX11, "line", "()V"⟩
abbrev cX11_swings : ByteArray := prog_13_method_24_code
def yX11_swings : MethodName := ⟨RX11, "swings", "(I)I"⟩
abbrev cX11_fault : ByteArray := prog_13_method_25_code
def yX11_fault : MethodName := ⟨RX11, "fault", "()I"⟩
abbrev cX11_count : ByteArray := prog_13_method_26_code
def yX11_count : MethodName := ⟨RX11, "count", "(I)I"⟩
abbrev cX11_isPendulum : ByteArray := prog_13_method_27_code
def yX11_isPendulum : MethodName := ⟨RX11, "isPendulum", "(I)Z"⟩
abbrev cX11_isTick : ByteArray := prog_13_method_28_code
def yX11_isTick : MethodName := ⟨RX11, "isTick", "(II)Z"⟩
abbrev cX11_period : ByteArray := prog_13_method_29_code
def yX11_period : MethodName := ⟨RX11, "period", "([III)I"⟩
abbrev cX11_pendulum : ByteArray := prog_13_method_30_code
def yX11_pendulum : MethodName := ⟨RX11, "pendulum", "(II)I"⟩
abbrev cX11_refuses : ByteArray := prog_13_method_31_code
def yX11_refuses : MethodName := ⟨RX11, "refuses", "(I)I"⟩
abbrev cX11_set : ByteArray := prog_13_method_32_code
def yX11_set : MethodName := ⟨RX11, "set", "(III)I"⟩
abbrev cX11_at : ByteArray := prog_13_method_33_code
def yX11_at : MethodName := ⟨RX11, "at", "([IIII)I"⟩
abbrev cX11_penOf : ByteArray := prog_13_method_34_code
def yX11_penOf : MethodName := ⟨RX11, "penOf", "([IIII)I"⟩
abbrev cX11_penNow : ByteArray := prog_13_method_35_code
def yX11_penNow : MethodName := ⟨RX11, "penNow", "(II)I"⟩
abbrev cX11_swing : ByteArray := prog_13_method_36_code
def yX11_swing : MethodName := ⟨RX11, "swing", "(II)I"⟩
abbrev cX11_pen : ByteArray := prog_13_method_37_code
def yX11_pen : MethodName := ⟨RX11, "pen", "(II)I"⟩
abbrev cX11_cellOf : ByteArray := prog_13_method_38_code
def yX11_cellOf : MethodName := ⟨RX11, "cellOf", "(II)I"⟩
abbrev cX11_isSpan : ByteArray := prog_13_method_39_code
def yX11_isSpan : MethodName := ⟨RX11, "isSpan", "(III)Z"⟩
abbrev cX11_clears : ByteArray := prog_13_method_40_code
def yX11_clears : MethodName := ⟨RX11, "clears", "()V"⟩
abbrev cX11_drawn : ByteArray := prog_13_method_41_code
def yX11_drawn : MethodName := ⟨RX11, "drawn", "(II)I"⟩
abbrev cX11_inCell : ByteArray := prog_13_method_42_code
def yX11_inCell : MethodName := ⟨RX11, "inCell", "(III)I"⟩
abbrev cX11_roundOf : ByteArray := prog_13_method_43_code
def yX11_roundOf : MethodName := ⟨RX11, "roundOf", "([II)I"⟩
abbrev cX11_round : ByteArray := prog_13_method_44_code
def yX11_round : MethodName := ⟨RX11, "round", "()I"⟩
abbrev cX11_off : ByteArray := prog_13_method_45_code
def yX11_off : MethodName := ⟨RX11, "off", "()I"⟩
abbrev cX11_isPortrait : ByteArray := prog_13_method_46_code
def yX11_isPortrait : MethodName := ⟨RX11, "isPortrait", "(I)Z"⟩
abbrev cX11_keep : ByteArray := prog_13_method_47_code
def yX11_keep : MethodName := ⟨RX11, "keep", "()I"⟩
abbrev cX11_take : ByteArray := prog_13_method_48_code
def yX11_take : MethodName := ⟨RX11, "take", "(I)V"⟩
abbrev cX11_becomes : ByteArray := prog_13_method_49_code
def yX11_becomes : MethodName := ⟨RX11, "becomes", "(II)I"⟩
abbrev cX11_sizeOf : ByteArray := prog_13_method_50_code
def yX11_sizeOf : MethodName := ⟨RX11, "sizeOf", "(II)I"⟩
abbrev cX11_isWay : ByteArray := prog_13_method_51_code
def yX11_isWay : MethodName := ⟨RX11, "isWay", "(III)Z"⟩
abbrev cX11_isTime : ByteArray := prog_13_method_52_code
def yX11_isTime : MethodName := ⟨RX11, "isTime", "(IIIII)Z"⟩
abbrev cX11_alikeOf : ByteArray := prog_13_method_53_code
def yX11_alikeOf : MethodName := ⟨RX11, "alikeOf", "(II)I"⟩
abbrev cX11_alike : ByteArray := prog_13_method_54_code
def yX11_alike : MethodName := ⟨RX11, "alike", "(II)I"⟩
abbrev cX11_kinds : ByteArray := prog_13_method_55_code
def yX11_kinds : MethodName := ⟨RX11, "kinds", "(I)I"⟩
abbrev cX11_point : ByteArray := prog_13_method_56_code
def yX11_point : MethodName := ⟨RX11, "point", "(III)I"⟩
abbrev cX11_unpoint : ByteArray := prog_13_method_57_code
def yX11_unpoint : MethodName := ⟨RX11, "unpoint", "()I"⟩
abbrev cX11_offOf : ByteArray := prog_13_method_58_code
def yX11_offOf : MethodName := ⟨RX11, "offOf", "(I)I"⟩
abbrev cX11_fits : ByteArray := prog_13_method_59_code
def yX11_fits : MethodName := ⟨RX11, "fits", "(III)I"⟩
abbrev cX11_chord : ByteArray := prog_13_method_60_code
def yX11_chord : MethodName := ⟨RX11, "chord", "(III)I"⟩
abbrev cX11_wayOf : ByteArray := prog_13_method_61_code
def yX11_wayOf : MethodName := ⟨RX11, "wayOf", "(II)I"⟩
abbrev cX11_shows : ByteArray := prog_13_method_62_code
def yX11_shows : MethodName := ⟨RX11, "shows", "(I)I"⟩
abbrev cX11_cart : ByteArray := prog_13_method_63_code
def yX11_cart : MethodName := ⟨RX11, "cart", "(I)I"⟩
abbrev cX11_birthday : ByteArray := prog_13_method_64_code
def yX11_birthday : MethodName := ⟨RX11, "birthday", "(I)I"⟩
abbrev cX11_forget : ByteArray := prog_13_method_65_code
def yX11_forget : MethodName := ⟨RX11, "forget", "()I"⟩
abbrev cX11_unlike : ByteArray := prog_13_method_66_code
def yX11_unlike : MethodName := ⟨RX11, "unlike", "(II)I"⟩
abbrev cX11_fewest : ByteArray := prog_13_method_67_code
def yX11_fewest : MethodName := ⟨RX11, "fewest", "(I)I"⟩
abbrev cX11_factor : ByteArray := prog_13_method_68_code
def yX11_factor : MethodName := ⟨RX11, "factor", "(I)I"⟩
abbrev cX11_laid : ByteArray := prog_13_method_69_code
def yX11_laid : MethodName := ⟨RX11, "laid", "(IIIII)I"⟩
abbrev cX11_moved : ByteArray := prog_13_method_70_code
def yX11_moved : MethodName := ⟨RX11, "moved", "(II)I"⟩
abbrev cX11_allMoved : ByteArray := prog_13_method_71_code
def yX11_allMoved : MethodName := ⟨RX11, "allMoved", "(II)I"⟩
abbrev cX11_countsUp : ByteArray := prog_13_method_72_code
def yX11_countsUp : MethodName := ⟨RX11, "countsUp", "(I)Z"⟩
abbrev cX11_evening : ByteArray := prog_13_method_73_code
def yX11_evening : MethodName := ⟨RX11, "evening", "(I)I"⟩
abbrev cX11_drawing : ByteArray := prog_13_method_74_code
def yX11_drawing : MethodName := ⟨RX11, "drawing", "(I)I"⟩
abbrev cX11_puts : ByteArray := prog_13_method_75_code
def yX11_puts : MethodName := ⟨RX11, "puts", "(I)V"⟩
abbrev cX11_isSign : ByteArray := prog_13_method_76_code
def yX11_isSign : MethodName := ⟨RX11, "isSign", "(I)Z"⟩
abbrev cX11_opens : ByteArray := prog_13_method_77_code
def yX11_opens : MethodName := ⟨RX11, "opens", "(II)V"⟩
abbrev cX11_test : ByteArray := prog_13_method_78_code
def yX11_test : MethodName := ⟨RX11, "test", "()V"⟩
abbrev cX11_closes : ByteArray := prog_13_method_79_code
def yX11_closes : MethodName := ⟨RX11, "closes", "()V"⟩
abbrev cX11_act : ByteArray := prog_13_method_80_code
def yX11_act : MethodName := ⟨RX11, "act", "()V"⟩
abbrev cX11_score : ByteArray := prog_13_method_81_code
def yX11_score : MethodName := ⟨RX11, "score", "(I)I"⟩
abbrev cX11_penGoing : ByteArray := prog_13_method_82_code
def yX11_penGoing : MethodName := ⟨RX11, "penGoing", "(I)I"⟩
abbrev cX11_cellGoing : ByteArray := prog_13_method_83_code
def yX11_cellGoing : MethodName := ⟨RX11, "cellGoing", "()I"⟩
abbrev cX11_holds : ByteArray := prog_13_method_84_code
def yX11_holds : MethodName := ⟨RX11, "holds", "(II)Z"⟩
abbrev cX11_draws : ByteArray := prog_13_method_85_code
def yX11_draws : MethodName := ⟨RX11, "draws", "(I)V"⟩
abbrev cX11_between : ByteArray := prog_13_method_86_code
def yX11_between : MethodName := ⟨RX11, "between", "(II)I"⟩
abbrev cX11_performs : ByteArray := prog_13_method_87_code
def yX11_performs : MethodName := ⟨RX11, "performs", "()V"⟩
abbrev cX11_performed : ByteArray := prog_13_method_88_code
def yX11_performed : MethodName := ⟨RX11, "performed", "(I)I"⟩
abbrev cX11_marks : ByteArray := prog_13_method_89_code
def yX11_marks : MethodName := ⟨RX11, "marks", "(I)I"⟩
abbrev cX11_image : ByteArray := prog_13_method_90_code
def yX11_image : MethodName := ⟨RX11, "image", "()V"⟩
abbrev cX11_restore : ByteArray := prog_13_method_91_code
def yX11_restore : MethodName := ⟨RX11, "restore", "()Z"⟩
def RJx145de : String := "java/io/Serializable"
def TJx145de : u_T := fun k => match k with
  | _ => ("", "", "", false)
def tyJx145de : Nat → FieldType := fun k => match k with
  | _ => .int
abbrev wsJx145de0 : List Cond := u_ws RJx145de TJx145de 0
theorem nmJx145de : ∀ a, a < 0 → ∀ b, b < 0 → a ≠ b → (TJx145de a).2.1 ≠ (TJx145de b).2.1 := by decide +kernel
theorem tyJx145de_ok : ∀ k, k < 0 → parseFieldDescriptor (TJx145de k).2.2.1 = some (tyJx145de k) := by decide +kernel
def RJx9f9b0 : String := "java/lang/CharSequence"
def TJx9f9b0 : u_T := fun k => match k with
  | _ => ("", "", "", false)
def tyJx9f9b0 : Nat → FieldType := fun k => match k with
  | _ => .int
abbrev wsJx9f9b00 : List Cond := u_ws RJx9f9b0 TJx9f9b0 0
theorem nmJx9f9b0 : ∀ a, a < 0 → ∀ b, b < 0 → a ≠ b → (TJx9f9b0 a).2.1 ≠ (TJx9f9b0 b).2.1 := by decide +kernel
theorem tyJx9f9b0_ok : ∀ k, k < 0 → parseFieldDescriptor (TJx9f9b0 k).2.2.1 = some (tyJx9f9b0 k) := by decide +kernel
def RJxb160c : String := "java/lang/Comparable"
def TJxb160c : u_T := fun k => match k with
  | _ => ("", "", "", false)
def tyJxb160c : Nat → FieldType := fun k => match k with
  | _ => .int
abbrev wsJxb160c0 : List Cond := u_ws RJxb160c TJxb160c 0
theorem nmJxb160c : ∀ a, a < 0 → ∀ b, b < 0 → a ≠ b → (TJxb160c a).2.1 ≠ (TJxb160c b).2.1 := by decide +kernel
theorem tyJxb160c_ok : ∀ k, k < 0 → parseFieldDescriptor (TJxb160c k).2.2.1 = some (tyJxb160c k) := by decide +kernel
def RJ9 : String := "java/lang/Math"
def TJ9 : u_T := fun k => match k with
  | _ => ("", "", "", false)
def tyJ9 : Nat → FieldType := fun k => match k with
  | _ => .int
abbrev wsJ90 : List Cond := u_ws RJ9 TJ9 0
theorem nmJ9 : ∀ a, a < 0 → ∀ b, b < 0 → a ≠ b → (TJ9 a).2.1 ≠ (TJ9 b).2.1 := by decide +kernel
theorem tyJ9_ok : ∀ k, k < 0 → parseFieldDescriptor (TJ9 k).2.2.1 = some (tyJ9 k) := by decide +kernel
abbrev cJ9_floorMod_7cf53 : ByteArray := prog_19_method_50_code
def yJ9_floorMod_7cf53 : MethodName := ⟨RJ9, "floorMod", "(II)I"⟩
abbrev cJ9_abs_0f7a4 : ByteArray := prog_19_method_59_code
def yJ9_abs_0f7a4 : MethodName := ⟨RJ9, "abs", "(I)I"⟩
abbrev cJ9_max_7cf53 : ByteArray := prog_19_method_65_code
def yJ9_max_7cf53 : MethodName := ⟨RJ9, "max", "(II)I"⟩
abbrev cJ9_min_7cf53 : ByteArray := prog_19_method_69_code
def yJ9_min_7cf53 : MethodName := ⟨RJ9, "min", "(II)I"⟩
def RJ0 : String := "java/lang/String"
def TJ0 : u_T := fun k => match k with
  | _ => ("", "", "", false)
def tyJ0 : Nat → FieldType := fun k => match k with
  | _ => .int
abbrev wsJ00 : List Cond := u_ws RJ0 TJ0 0
theorem nmJ0 : ∀ a, a < 0 → ∀ b, b < 0 → a ≠ b → (TJ0 a).2.1 ≠ (TJ0 b).2.1 := by decide +kernel
theorem tyJ0_ok : ∀ k, k < 0 → parseFieldDescriptor (TJ0 k).2.2.1 = some (tyJ0 k) := by decide +kernel
abbrev cJ0_length_8abf5 : ByteArray := prog_21_method_54_code
def yJ0_length_8abf5 : MethodName := ⟨RJ0, "length", "()I"⟩
abbrev cJ0_charAt_5068e : ByteArray := prog_21_method_56_code
def yJ0_charAt_5068e : MethodName := ⟨RJ0, "charAt", "(I)C"⟩
abbrev cJ0_coder_7d493 : ByteArray := prog_21_method_152_code
def yJ0_coder_7d493 : MethodName := ⟨RJ0, "coder", "()B"⟩
abbrev cJ0_isLatin1_aae02 : ByteArray := prog_21_method_154_code
def yJ0_isLatin1_aae02 : MethodName := ⟨RJ0, "isLatin1", "()Z"⟩
abbrev cJ0_checkIndex_df160 : ByteArray := prog_21_method_155_code
def yJ0_checkIndex_df160 : MethodName := ⟨RJ0, "checkIndex", "(II)V"⟩
def RJ1 : String := "java/lang/StringLatin1"
def TJ1 : u_T := fun k => match k with
  | _ => ("", "", "", false)
def tyJ1 : Nat → FieldType := fun k => match k with
  | _ => .int
abbrev wsJ10 : List Cond := u_ws RJ1 TJ1 0
theorem nmJ1 : ∀ a, a < 0 → ∀ b, b < 0 → a ≠ b → (TJ1 a).2.1 ≠ (TJ1 b).2.1 := by decide +kernel
theorem tyJ1_ok : ∀ k, k < 0 → parseFieldDescriptor (TJ1 k).2.2.1 = some (tyJ1 k) := by decide +kernel
abbrev cJ1_charAt_3b067 : ByteArray := prog_22_method_2_code
def yJ1_charAt_3b067 : MethodName := ⟨RJ1, "charAt", "([BI)C"⟩
def RJ2 : String := "java/lang/StringUTF16"
def TJ2 : u_T := fun k => match k with
  | _ => ("", "", "", false)
def tyJ2 : Nat → FieldType := fun k => match k with
  | _ => .int
abbrev wsJ20 : List Cond := u_ws RJ2 TJ2 0
theorem nmJ2 : ∀ a, a < 0 → ∀ b, b < 0 → a ≠ b → (TJ2 a).2.1 ≠ (TJ2 b).2.1 := by decide +kernel
theorem tyJ2_ok : ∀ k, k < 0 → parseFieldDescriptor (TJ2 k).2.2.1 = some (tyJ2 k) := by decide +kernel
abbrev cJ2_getChar_3b067 : ByteArray := prog_23_method_5_code
def yJ2_getChar_3b067 : MethodName := ⟨RJ2, "getChar", "([BI)C"⟩
abbrev cJ2_length_9d52b : ByteArray := prog_23_method_6_code
def yJ2_length_9d52b : MethodName := ⟨RJ2, "length", "([B)I"⟩
abbrev cJ2_charAt_3b067 : ByteArray := prog_23_method_83_code
def yJ2_charAt_3b067 : MethodName := ⟨RJ2, "charAt", "([BI)C"⟩
abbrev cJ2_checkIndex_2214a : ByteArray := prog_23_method_91_code
def yJ2_checkIndex_2214a : MethodName := ⟨RJ2, "checkIndex", "(I[B)V"⟩
def RJ10 : String := "java/lang/System"
def TJ10 : u_T := fun k => match k with
  | _ => ("", "", "", false)
def tyJ10 : Nat → FieldType := fun k => match k with
  | _ => .int
abbrev wsJ100 : List Cond := u_ws RJ10 TJ10 0
theorem nmJ10 : ∀ a, a < 0 → ∀ b, b < 0 → a ≠ b → (TJ10 a).2.1 ≠ (TJ10 b).2.1 := by decide +kernel
theorem tyJ10_ok : ∀ k, k < 0 → parseFieldDescriptor (TJ10 k).2.2.1 = some (tyJ10 k) := by decide +kernel
def RJxfd54e : String := "java/lang/constant/Constable"
def TJxfd54e : u_T := fun k => match k with
  | _ => ("", "", "", false)
def tyJxfd54e : Nat → FieldType := fun k => match k with
  | _ => .int
abbrev wsJxfd54e0 : List Cond := u_ws RJxfd54e TJxfd54e 0
theorem nmJxfd54e : ∀ a, a < 0 → ∀ b, b < 0 → a ≠ b → (TJxfd54e a).2.1 ≠ (TJxfd54e b).2.1 := by decide +kernel
theorem tyJxfd54e_ok : ∀ k, k < 0 → parseFieldDescriptor (TJxfd54e k).2.2.1 = some (tyJxfd54e k) := by decide +kernel
def RJx3cf43 : String := "java/lang/constant/ConstantDesc"
def TJx3cf43 : u_T := fun k => match k with
  | _ => ("", "", "", false)
def tyJx3cf43 : Nat → FieldType := fun k => match k with
  | _ => .int
abbrev wsJx3cf430 : List Cond := u_ws RJx3cf43 TJx3cf43 0
theorem nmJx3cf43 : ∀ a, a < 0 → ∀ b, b < 0 → a ≠ b → (TJx3cf43 a).2.1 ≠ (TJx3cf43 b).2.1 := by decide +kernel
theorem tyJx3cf43_ok : ∀ k, k < 0 → parseFieldDescriptor (TJx3cf43 k).2.2.1 = some (tyJx3cf43 k) := by decide +kernel
def RJ7 : String := "java/util/Arrays"
def TJ7 : u_T := fun k => match k with
  | _ => ("", "", "", false)
def tyJ7 : Nat → FieldType := fun k => match k with
  | _ => .int
abbrev wsJ70 : List Cond := u_ws RJ7 TJ7 0
theorem nmJ7 : ∀ a, a < 0 → ∀ b, b < 0 → a ≠ b → (TJ7 a).2.1 ≠ (TJ7 b).2.1 := by decide +kernel
theorem tyJ7_ok : ∀ k, k < 0 → parseFieldDescriptor (TJ7 k).2.2.1 = some (tyJ7 k) := by decide +kernel
abbrev cJ7_fill_53178 : ByteArray := prog_28_method_103_code
def yJ7_fill_53178 : MethodName := ⟨RJ7, "fill", "([II)V"⟩
def RJ3 : String := "jdk/internal/util/Preconditions"
def TJ3 : u_T := fun k => match k with
  | _ => ("", "", "", false)
def tyJ3 : Nat → FieldType := fun k => match k with
  | _ => .int
abbrev wsJ30 : List Cond := u_ws RJ3 TJ3 0
theorem nmJ3 : ∀ a, a < 0 → ∀ b, b < 0 → a ≠ b → (TJ3 a).2.1 ≠ (TJ3 b).2.1 := by decide +kernel
theorem tyJ3_ok : ∀ k, k < 0 → parseFieldDescriptor (TJ3 k).2.2.1 = some (tyJ3 k) := by decide +kernel
abbrev cJ3_checkIndex_8e157 : ByteArray := prog_30_method_11_code
def yJ3_checkIndex_8e157 : MethodName := ⟨RJ3, "checkIndex", "(IILjava/util/function/BiFunction;)I"⟩
def RL : String := "PenSwingsLaw"
abbrev cL_swings : ByteArray := method_3_code
def yL_swings : MethodName := ⟨RL, "swings", "(LPenSwings;I[J)I"⟩
abbrev cL_score : ByteArray := method_4_code
def yL_score : MethodName := ⟨RL, "score", "(LPenSwings;I[J)I"⟩
abbrev cL_performed : ByteArray := method_5_code
def yL_performed : MethodName := ⟨RL, "performed", "(LPenSwings;I[J)I"⟩
abbrev cL_marks : ByteArray := method_6_code
def yL_marks : MethodName := ⟨RL, "marks", "(LPenSwings;I[J)I"⟩
abbrev cL_count : ByteArray := method_7_code
def yL_count : MethodName := ⟨RL, "count", "(LPenSwings;I[J)I"⟩
abbrev cL_pendulum : ByteArray := method_8_code
def yL_pendulum : MethodName := ⟨RL, "pendulum", "(LPenSwings;II[J)I"⟩
abbrev cL_set : ByteArray := method_9_code
def yL_set : MethodName := ⟨RL, "set", "(LPenSwings;III[J)I"⟩
abbrev cL_swing : ByteArray := method_10_code
def yL_swing : MethodName := ⟨RL, "swing", "(LPenSwings;II[J)I"⟩
abbrev cL_pen : ByteArray := method_11_code
def yL_pen : MethodName := ⟨RL, "pen", "(LPenSwings;II[J)I"⟩
abbrev cL_drawn : ByteArray := method_12_code
def yL_drawn : MethodName := ⟨RL, "drawn", "(LPenSwings;II[J)I"⟩
abbrev cL_inCell : ByteArray := method_13_code
def yL_inCell : MethodName := ⟨RL, "inCell", "(LPenSwings;III[J)I"⟩
abbrev cL_take : ByteArray := method_14_code
def yL_take : MethodName := ⟨RL, "take", "(LPenSwings;I)I"⟩
abbrev cL_alike : ByteArray := method_15_code
def yL_alike : MethodName := ⟨RL, "alike", "(LPenSwings;II[J)I"⟩
abbrev cL_kinds : ByteArray := method_16_code
def yL_kinds : MethodName := ⟨RL, "kinds", "(LPenSwings;I[J)I"⟩
abbrev cL_fits : ByteArray := method_17_code
def yL_fits : MethodName := ⟨RL, "fits", "(LPenSwings;III[J)I"⟩
abbrev cL_chord : ByteArray := method_18_code
def yL_chord : MethodName := ⟨RL, "chord", "(LPenSwings;III[J)I"⟩
abbrev cL_cart : ByteArray := method_19_code
def yL_cart : MethodName := ⟨RL, "cart", "(LPenSwings;I[J)I"⟩
abbrev cL_factor : ByteArray := method_20_code
def yL_factor : MethodName := ⟨RL, "factor", "(LPenSwings;I[J)I"⟩
abbrev cL_laid : ByteArray := method_21_code
def yL_laid : MethodName := ⟨RL, "laid", "(LPenSwings;IIIII[J)I"⟩
abbrev cL_evening : ByteArray := method_22_code
def yL_evening : MethodName := ⟨RL, "evening", "(LPenSwings;I[J)I"⟩
abbrev cL_drawing : ByteArray := method_23_code
def yL_drawing : MethodName := ⟨RL, "drawing", "(LPenSwings;I[J)I"⟩
abbrev cL_law : ByteArray := code
def yL_law : MethodName := ⟨RL, "law", "([I)Z"⟩
end
section
/-! ===== the mini machine: heaps by shapes and contents, frames, steps ===== -/
abbrev mH : Type := List (Nat × Nat) × (Nat → Nat → Int32) × (Nat → Nat → Int64) × (Nat → Nat → Value)
abbrev mO : Type := Option Value ⊕ String
/-- launch; the first new address; old addresses by number; where fields lie; the array classes -/
abbrev GX : Type := Launch × Nat × (Nat → Nat) × va_G × (Nat → ClassId) × Nat × (Nat → Int32)
abbrev gL (G : GX) : Launch := G.1
abbrev gZ (G : GX) : Nat := G.2.1
abbrev gO (G : GX) : Nat → Nat := G.2.2.1
abbrev gD (G : GX) : va_G := G.2.2.2.1
abbrev gC (G : GX) : Nat → ClassId := G.2.2.2.2.1
abbrev gN (G : GX) : Nat := G.2.2.2.2.2.1
abbrev gX (G : GX) : Nat → Int32 := G.2.2.2.2.2.2
def gA (G : GX) : Nat → Prop := fun q => gZ G ≤ q
def NC : Nat := 1150
def NS : Nat := 21356
def sl (h : mH) : Nat := (h.1.map Prod.snd).sum
/-- a value of the mini machine as the machine has it: references count from the first new address; floats stand for old addresses -/
def rv (G : GX) (v : Value) : Value := match v with
  | .ref k => .ref (gZ G + k)
  | .float n => .ref (gO G n.toNat)
  | v => v
abbrev mCl : List vw_C := [(RX0, TX0, 6), (RX1, TX1, 11), (RX2, TX2, 11), (RX3, TX3, 7), (RX4, TX4, 2), (RX5, TX5, 3), (RX6, TX6, 9), (RX7, TX7, 7), (RX9, TX9, 10), (RX10, TX10, 17), (RX11, TX11, 61)]
def mTy (c : Nat) : Nat → FieldType := match c with
  | 0 => tyX0
  | 1 => tyX1
  | 2 => tyX2
  | 3 => tyX3
  | 4 => tyX4
  | 5 => tyX5
  | 6 => tyX6
  | 7 => tyX7
  | 8 => tyX9
  | 9 => tyX10
  | _ => tyX11
def fvT (t : FieldType) (h : mH) (o k : Nat) : Value := match t with
  | .int => .int (h.2.1 o k)
  | .boolean => .int (h.2.1 o k)
  | .long => .long (h.2.2.1 o k)
  | _ => h.2.2.2 o k
def fv (h : mH) (o c k : Nat) : Value := fvT (mTy c k) h o k
def mCell (G : GX) (h : mH) (o c n : Nat) (ce : Cell) : Prop :=
  ce.slots.size = n ∧ (c < 200 → ce.vm = .none) ∧
  (c < 11 → ce.cls = (gD G).1 c ∧ (∃ r, mCl[c]? = some r ∧ r.2.2 = n) ∧ ∀ k, k < n → ce.slots[(gD G).2 c k]? = some (rv G (fv h o c k))) ∧
  (c = 100 → ce = arrV (gC G 0) n (fun i => .int (h.2.1 o i))) ∧
  (c = 101 → ce = arrV (gC G 1) n (fun i => .int (h.2.1 o i))) ∧
  (c = 102 → ce = arrV (gC G 2) n (fun i => .long (h.2.2.1 o i)))
def Pic (G : GX) (h : mH) (H : Heap) : Prop := H.size = gZ G + h.1.length ∧ h.1.length ≤ NC ∧ sl h ≤ NS ∧ ∀ o c n, h.1[o]? = some (c, n) → ∃ ce, H[gZ G + o]? = some ce ∧ mCell G h o c n ce
def Ext (h h' : mH) : Prop := ∃ r, h'.1 = h.1 ++ r
def sTab : List (String × Nat × String) := [("PenSwings", 374, "the tape has not so many bytes"), ("PenSwings$SwingsText", 20, "pennies"), ("PenSwings$SwingsText", 40, "pendulum"), ("PenSwings$SwingsText", 85, "even"), ("PenSwings$SwingsText", 87, "bowl"), ("PenSwings$SwingsText", 89, "kick"), ("PenSwings$SwingsText", 45, "cart"), ("PenSwings$Score", 122, "else"), ("PenSwings$Score", 79, "draw"), ("PenSwings$Score", 85, "lift"), ("PenSwings$Score", 87, "penny"), ("PenSwings$Score", 89, "size"), ("PenSwings$Score", 90, "turn"), ("PenSwings$Score", 92, "repeat"), ("PenSwings$Score", 94, "when"), ("PenSwings$Score", 106, "not"), ("PenSwings$Score", 111, "marked"), ("PenSwings$Score", 113, "right"), ("PenSwings$Score", 115, "above"), ("PenSwings$Score", 117, "loud"), ("PenSwings", 381, "no such question"), ("PenSwings", 383, "no such cell"), ("PenSwings", 379, "no such pendulum"), ("PenSwings", 385, "no tick"), ("PenSwings", 387, "no such span of ticks"), ("PenSwings", 377, "no such portrait"), ("PenSwings", 389, "a number is not as told"), ("PenSwings", 344, "no such drawing is kept")]
/-- the strings: owner, entry, text -/
def gStr (G : GX) (U : State) : Prop := ∀ (n : Nat) (e : String × Nat × String), sTab[n]? = some e → vk_R e.1 e.2.1 e.2.2 (gO G n) U
/-- their contents: the byte array of string n is the old thing 100 + n -/
def gStx (G : GX) (U : State) (H : Heap) : Prop := ∀ (n : Nat) (e : String × Nat × String), sTab[n]? = some e → va_O "java/lang/String" (gO G n) (gA G) U H ∧ va_OF "java/lang/String" "coder" "B" (.int 0) (gO G n) (gA G) U H ∧ va_OF "java/lang/String" "value" "[B" (.ref (gO G (100 + n))) (gO G n) (gA G) U H ∧ va_T .byte (gO G (100 + n)) e.2.2.length (fun j => .int (Int32.ofNat (e.2.2.toList.getD j 'a').toNat)) (gA G) U H
/-- the formatter of the JDK's index check: null, or the old thing 1001 -/
def gFmt (G : GX) (U : State) (H : Heap) : Prop := va_Z "jdk/internal/util/Preconditions" "SIOOBE_FORMATTER" "Ljava/util/function/BiFunction;" .null (gA G) U H ∨ va_Z "jdk/internal/util/Preconditions" "SIOOBE_FORMATTER" "Ljava/util/function/BiFunction;" (.ref (gO G 1001)) (gA G) U H
def cNot : Cond := .not (.castable "java/lang/IllegalArgumentException" "java/util/NoSuchElementException")
def gCast (U : State) : Prop := cNot.before #[] U = true
theorem gFmt.move {G : GX} {s U : State} {H H1 : Heap} (h : gFmt G s H) (hv : s.vm.Alike U.vm) (hq : ∀ a : Nat, a < H.size → ¬ gA G a → H1[a]? = H[a]?) : gFmt G U H1 := h.elim (fun z => Or.inl ((z.moved hv).kept hq)) (fun z => Or.inr ((z.moved hv).kept hq))
theorem gCast.move {s U : State} (h : gCast s) (hv : s.vm.Alike U.vm) : gCast U := by
  have h1 : cNot.before #[] (s.setVm U.vm) = true := Cond.castAtom_setVm hv cNot rfl h
  exact h1
def mvb (w : Cond) : Bool := w.onTables && (w.keepsFace || (match w with | .methodLinkNest .. => true | _ => false))
/-- the words of the tables that stay true as the tables grow warmer -/
def gF (U : State) : Prop := ∀ w ∈ lw_tbl, mvb w = true → va_Nw w U
def gW (G : GX) (U : State) : Prop := va_K (gD G) mCl [(gC G 0, .int), (gC G 1, .byte), (gC G 2, .long)] U ∧ vx_Zq Bundle.tN "UNASSIGNED_STACK" Bundle.steD (gA G) U U.heap ∧ vx_Zq Bundle.tN "SUPPRESSED_SENTINEL" Bundle.listD (gA G) U U.heap ∧ (gL G).stackTraces = false ∧ gStr G U ∧ gStx G U U.heap ∧ gF U ∧ va_Z "java/lang/String" "COMPACT_STRINGS" "Z" (.int 1) (gA G) U U.heap ∧ (va_X (gO G 1000) (gN G) (gX G) U U.heap ∧ gO G 1000 < gZ G) ∧ gFmt G U U.heap ∧ gCast U
theorem mvb_move {w : Cond} {s U : State} (hm : mvb w = true) (hW : s.WarmedH U.vm) (h : va_Nw w s) : va_Nw w U := by
  unfold mvb at hm
  rw [Bool.and_eq_true, Bool.or_eq_true] at hm
  obtain ⟨h1, h2⟩ := hm
  rcases h2 with h2 | h2
  · exact va_tabs h1 (rfl : (s.setVm U.vm).vm = U.vm) (Cond.before_shiftedFace (State.Shifted.of_warmed hW) w h2 h)
  · split at h2
    · exact va_Nw.warmM hW h
    · cases h2
theorem gW.move {G : GX} {s U : State} (h : gW G s) (hW : s.WarmedH U.vm) (hz : gZ G ≤ s.heap.size) (ho : ∀ q, q < gZ G → U.heap[q]? = s.heap[q]?) : gW G U := by
  obtain ⟨h1, h2, h3, h4, h5, h6, h7, h8, ⟨h9, h10⟩, h11, h12⟩ := h
  have ok : ∀ a : Nat, a < s.heap.size → ¬ gA G a → U.heap[a]? = s.heap[a]? := fun a _ hn => ho a (Nat.not_le.mp hn)
  exact ⟨h1.moved hW.alike, (h2.moved hW.alike).kept ok, (h3.moved hW.alike).kept ok, h4, fun n e he => (h5 n e he).warm hW, fun n e he => ⟨((h6 n e he).1.moved hW.alike).kept ok, ((h6 n e he).2.1.moved hW.alike).kept ok, ((h6 n e he).2.2.1.moved hW.alike).kept ok, ((h6 n e he).2.2.2.moved hW.alike).kept ok⟩,
    fun w hw hm => mvb_move hm hW (h7 w hw hm), (h8.moved hW.alike).kept ok, ⟨(h9.moved hW.alike).kept (ho _ h10), h10⟩, h11.move hW.alike ok, h12.move hW.alike⟩
/-- methods: name, bytes, locals, answer's type, room (frames, words), handlers -/
abbrev MX : Type := MethodName × ByteArray × Nat × Option FieldType × (Nat × Nat) × List (Nat × Nat × Nat × Nat)
abbrev jY (j : MX) : MethodName := j.1
abbrev jC (j : MX) : ByteArray := j.2.1
abbrev jL (j : MX) : Nat := j.2.2.1
abbrev jR (j : MX) : Option FieldType := j.2.2.2.1
abbrev jF (j : MX) : Nat := j.2.2.2.2.1.1
abbrev jW (j : MX) : Nat := j.2.2.2.2.1.2
abbrev jT (j : MX) : List (Nat × Nat × Nat × Nat) := j.2.2.2.2.2
def gT : List Cond := lw_tbl.filter goodWord
theorem gT_in {w : Cond} (h : w ∈ lw_tbl) (hg : goodWord w = true) : w ∈ gT := List.mem_filter.mpr ⟨h, hg⟩
theorem gT_good {w : Cond} (h : w ∈ gT) : goodWord w = true := (List.mem_filter.mp h).2
def jK (j : MX) : Cond := match jT j with
  | [] => .code (jY j) (jC j) (jL j) (jR j)
  | hh => .codeWith (jY j) (jC j) (jL j) (jR j) hh
def jWs (j : MX) : List Cond := jK j :: gT
def jRm (j : MX) (h : mH) : Room := { frames := jF j, cells := NC - h.1.length, slots := NS - sl h, locals := jW j }
def Fr (G : GX) (j : MX) (h0 : mH) (p : Program) (s : State) (m : MethodId) (args : Array Value) (meth : Method) (c : Code) : Prop :=
  p.tables.exec = Jvm.exec ∧ c.code = jC j ∧ c.maxLocals = jL j ∧ meth.sig.returnType = jR j ∧ meth.locks = false ∧ s.vm.findClass (jY j).cls = some m.cls ∧ (∀ w ∈ gT, w.before args s = true) ∧ gW G s ∧ Pic G h0 s.heap ∧ meth.name = (jY j).name ∧ c.exceptionTable.toList = tableOf (jT j)
def qR (G : GX) (h0 : mH) (Q : mO → mH → Prop) : Array Value → State → Outcome → State → Prop := fun _ st o t => ∃ v h, o = .returned (Option.map (rv G) v) ∧ Q (.inl v) h ∧ Pic G h t.heap ∧ Ext h0 h ∧ ∀ q, q < gZ G → t.heap[q]? = st.heap[q]?
def qX (G : GX) (h0 : mH) (Q : mO → mH → Prop) : String → State → State → Prop := fun E st t => ∃ h, Q (.inr E) h ∧ Pic G h t.heap ∧ Ext h0 h ∧ ∀ q, q < gZ G → t.heap[q]? = st.heap[q]?
abbrev mL : Type := List (Option Value)
def mLs (G : GX) (nL : Nat) (ls : mL) (la : Array Slot) : Prop := la.size = nL ∧ lv_wf la ∧ ∀ (i : Nat) (v : Value), ls[i]? = some (some v) → la[i]? = some (Slot.val (rv G v))
/-- the method j at pc, with locals, stack and heap: it comes to an end with Q -/
def Vw (G : GX) (j : MX) (pc : Nat) (ls : mL) (st : List Value) (h : mH) (Q : mO → mH → Prop) : Prop :=
  ∀ (p : Program) (e : Env) (s : State) (m : MethodId) (args : Array Value) (below : List Frame) (meth : Method) (c : Code) (h0 : mH) (H : Heap) (locs : List Loc) (la : Array Slot),
    Fr G j h0 p s m args meth c → va_S (gA G) s.heap H locs → Pic G h H → Ext h0 h → mLs G (jL j) ls la →
    W p (gL G) e (jRm j h0) s m args below meth c H locs (h.1.length - h0.1.length) (sl h - sl h0) (vx_MQ below (qR G h0 Q) (qX G h0 Q) args s (NC - h0.1.length) (NS - sl h0) (gA G)) (F0 m pc la (st.map (rv G)))
/-- the method j, called: it comes to an end with Q -/
def WM (G : GX) (j : MX) (a : List Value) (h : mH) (Q : mO → mH → Prop) : Prop :=
  vx_Met (gL G) (jY j) (jWs j) (jRm j h) (fun v U => v = (a.map (rv G)).toArray ∧ gW G U ∧ Pic G h U.heap) (qR G h Q) (qX G h Q) (NC - h.1.length) (NS - sl h) (gA G)
end
section
theorem w_0 : Cond.selects RX2 yX2_fade yX2_fade ∈ gT := gT_in (List.mem_of_getElem? (i := 0) (by decide +kernel)) rfl
theorem w_1 : Cond.selects RX10 yX10_refuse yX10_refuse ∈ gT := gT_in (List.mem_of_getElem? (i := 1) (by decide +kernel)) rfl
theorem w_2 : Cond.selects RX10 yX10_needBytes yX10_needBytes ∈ gT := gT_in (List.mem_of_getElem? (i := 2) (by decide +kernel)) rfl
theorem w_3 : Cond.selects "java/lang/Throwable" ⟨"java/lang/Throwable", "fillInStackTrace", "(I)Ljava/lang/Throwable;"⟩ ⟨"java/lang/Throwable", "fillInStackTrace", "(I)Ljava/lang/Throwable;"⟩ ∈ gT := gT_in (List.mem_of_getElem? (i := 3) (by decide +kernel)) rfl
theorem w_4 : Cond.selects RX10 yX10_endOfText yX10_endOfText ∈ gT := gT_in (List.mem_of_getElem? (i := 4) (by decide +kernel)) rfl
theorem w_5 : Cond.selects RX7 yX7_closeBlock yX7_closeBlock ∈ gT := gT_in (List.mem_of_getElem? (i := 5) (by decide +kernel)) rfl
theorem w_6 : Cond.selects RX7 yX7_addStep yX7_addStep ∈ gT := gT_in (List.mem_of_getElem? (i := 6) (by decide +kernel)) rfl
theorem w_7 : Cond.selects RX7 yX7_openBlock yX7_openBlock ∈ gT := gT_in (List.mem_of_getElem? (i := 7) (by decide +kernel)) rfl
theorem w_8 : Cond.selects RX7 yX7_readAct yX7_readAct ∈ gT := gT_in (List.mem_of_getElem? (i := 8) (by decide +kernel)) rfl
theorem w_9 : Cond.selects RX7 yX7_readNumber yX7_readNumber ∈ gT := gT_in (List.mem_of_getElem? (i := 9) (by decide +kernel)) rfl
theorem w_10 : Cond.selects RX7 yX7_readChange yX7_readChange ∈ gT := gT_in (List.mem_of_getElem? (i := 10) (by decide +kernel)) rfl
theorem w_11 : Cond.selects RX7 yX7_readTest yX7_readTest ∈ gT := gT_in (List.mem_of_getElem? (i := 11) (by decide +kernel)) rfl
theorem w_12 : Cond.selects RX6 yX6_goesAside yX6_goesAside ∈ gT := gT_in (List.mem_of_getElem? (i := 12) (by decide +kernel)) rfl
theorem w_13 : Cond.selects RX6 yX6_draw yX6_draw ∈ gT := gT_in (List.mem_of_getElem? (i := 13) (by decide +kernel)) rfl
theorem w_14 : Cond.selects RX6 yX6_mark yX6_mark ∈ gT := gT_in (List.mem_of_getElem? (i := 14) (by decide +kernel)) rfl
theorem w_15 : Cond.selects RX6 yX6_lift yX6_lift ∈ gT := gT_in (List.mem_of_getElem? (i := 15) (by decide +kernel)) rfl
theorem w_16 : Cond.selects RX6 yX6_alter yX6_alter ∈ gT := gT_in (List.mem_of_getElem? (i := 16) (by decide +kernel)) rfl
theorem w_17 : Cond.selects RX6 yX6_holds yX6_holds ∈ gT := gT_in (List.mem_of_getElem? (i := 17) (by decide +kernel)) rfl
theorem w_18 : Cond.selects RX10 yX10_markSeen yX10_markSeen ∈ gT := gT_in (List.mem_of_getElem? (i := 18) (by decide +kernel)) rfl
theorem w_19 : Cond.selects RX10 yX10_cellsSeen yX10_cellsSeen ∈ gT := gT_in (List.mem_of_getElem? (i := 19) (by decide +kernel)) rfl
theorem w_20 : Cond.selects RX10 yX10_needPortrait yX10_needPortrait ∈ gT := gT_in (List.mem_of_getElem? (i := 20) (by decide +kernel)) rfl
theorem w_21 : Cond.selects RX10 yX10_takeInto yX10_takeInto ∈ gT := gT_in (List.mem_of_getElem? (i := 21) (by decide +kernel)) rfl
theorem w_22 : Cond.selects RX10 yX10_compare yX10_compare ∈ gT := gT_in (List.mem_of_getElem? (i := 22) (by decide +kernel)) rfl
theorem w_23 : Cond.selects RX10 yX10_copyWith yX10_copyWith ∈ gT := gT_in (List.mem_of_getElem? (i := 23) (by decide +kernel)) rfl
theorem w_24 : Cond.selects RX4 yX4_pair yX4_pair ∈ gT := gT_in (List.mem_of_getElem? (i := 24) (by decide +kernel)) rfl
theorem w_25 : Cond.selects RX4 yX4_agree yX4_agree ∈ gT := gT_in (List.mem_of_getElem? (i := 25) (by decide +kernel)) rfl
theorem w_26 : Cond.selects RX4 yX4_meet yX4_meet ∈ gT := gT_in (List.mem_of_getElem? (i := 26) (by decide +kernel)) rfl
theorem w_27 : Cond.selects RX4 yX4_findTimes yX4_findTimes ∈ gT := gT_in (List.mem_of_getElem? (i := 27) (by decide +kernel)) rfl
theorem w_28 : Cond.selects RX4 yX4_oneTimeForAll yX4_oneTimeForAll ∈ gT := gT_in (List.mem_of_getElem? (i := 28) (by decide +kernel)) rfl
theorem w_29 : Cond.selects RX10 yX10_leastOfKind yX10_leastOfKind ∈ gT := gT_in (List.mem_of_getElem? (i := 29) (by decide +kernel)) rfl
theorem w_30 : Cond.selects RX1 yX1_findPlaces yX1_findPlaces ∈ gT := gT_in (List.mem_of_getElem? (i := 30) (by decide +kernel)) rfl
theorem w_31 : Cond.selects RX1 yX1_findOffs yX1_findOffs ∈ gT := gT_in (List.mem_of_getElem? (i := 31) (by decide +kernel)) rfl
theorem w_32 : Cond.selects RX1 yX1_weighAll yX1_weighAll ∈ gT := gT_in (List.mem_of_getElem? (i := 32) (by decide +kernel)) rfl
theorem w_33 : Cond.selects RX1 yX1_weigh yX1_weigh ∈ gT := gT_in (List.mem_of_getElem? (i := 33) (by decide +kernel)) rfl
theorem w_34 : Cond.selects RX1 yX1_tryCart yX1_tryCart ∈ gT := gT_in (List.mem_of_getElem? (i := 34) (by decide +kernel)) rfl
theorem w_35 : Cond.selects RX1 yX1_modelOf yX1_modelOf ∈ gT := gT_in (List.mem_of_getElem? (i := 35) (by decide +kernel)) rfl
theorem w_36 : Cond.selects RX1 yX1_isStill yX1_isStill ∈ gT := gT_in (List.mem_of_getElem? (i := 36) (by decide +kernel)) rfl
theorem w_37 : Cond.selects RX1 yX1_isCartsWay yX1_isCartsWay ∈ gT := gT_in (List.mem_of_getElem? (i := 37) (by decide +kernel)) rfl
theorem w_38 : Cond.selects RX5 yX5_fewestUnlike yX5_fewestUnlike ∈ gT := gT_in (List.mem_of_getElem? (i := 38) (by decide +kernel)) rfl
theorem w_39 : Cond.selects RX10 yX10_markPortrait yX10_markPortrait ∈ gT := gT_in (List.mem_of_getElem? (i := 39) (by decide +kernel)) rfl
theorem w_40 : Cond.selects RX0 yX0_measure yX0_measure ∈ gT := gT_in (List.mem_of_getElem? (i := 40) (by decide +kernel)) rfl
theorem w_41 : Cond.selects RX0 yX0_weigh yX0_weigh ∈ gT := gT_in (List.mem_of_getElem? (i := 41) (by decide +kernel)) rfl
theorem w_42 : Cond.selects RX0 yX0_choose yX0_choose ∈ gT := gT_in (List.mem_of_getElem? (i := 42) (by decide +kernel)) rfl
theorem w_43 : Cond.selects RX0 yX0_through yX0_through ∈ gT := gT_in (List.mem_of_getElem? (i := 43) (by decide +kernel)) rfl
theorem w_44 : Cond.selects RX0 yX0_withTea yX0_withTea ∈ gT := gT_in (List.mem_of_getElem? (i := 44) (by decide +kernel)) rfl
theorem w_45 : Cond.selects RX0 yX0_soonestTea yX0_soonestTea ∈ gT := gT_in (List.mem_of_getElem? (i := 45) (by decide +kernel)) rfl
theorem w_46 : Cond.selects RX0 yX0_costWithTea yX0_costWithTea ∈ gT := gT_in (List.mem_of_getElem? (i := 46) (by decide +kernel)) rfl
theorem w_47 : Cond.selects RX11 yX11_lays yX11_lays ∈ gT := gT_in (List.mem_of_getElem? (i := 47) (by decide +kernel)) rfl
theorem w_48 : Cond.selects RX11 yX11_right yX11_right ∈ gT := gT_in (List.mem_of_getElem? (i := 48) (by decide +kernel)) rfl
theorem w_49 : Cond.selects RX11 yX11_steps yX11_steps ∈ gT := gT_in (List.mem_of_getElem? (i := 49) (by decide +kernel)) rfl
theorem w_50 : Cond.selects RX11 yX11_byteAt yX11_byteAt ∈ gT := gT_in (List.mem_of_getElem? (i := 50) (by decide +kernel)) rfl
theorem w_51 : Cond.selects RX11 yX11_isGood yX11_isGood ∈ gT := gT_in (List.mem_of_getElem? (i := 51) (by decide +kernel)) rfl
theorem w_52 : Cond.selects RX11 yX11_line yX11_line ∈ gT := gT_in (List.mem_of_getElem? (i := 52) (by decide +kernel)) rfl
theorem w_53 : Cond.selects RX11 yX11_is yX11_is ∈ gT := gT_in (List.mem_of_getElem? (i := 53) (by decide +kernel)) rfl
theorem w_54 : Cond.selects RX11 yX11_readsPendulum yX11_readsPendulum ∈ gT := gT_in (List.mem_of_getElem? (i := 54) (by decide +kernel)) rfl
theorem w_55 : Cond.selects RX11 yX11_wrong yX11_wrong ∈ gT := gT_in (List.mem_of_getElem? (i := 55) (by decide +kernel)) rfl
theorem w_56 : Cond.selects RX11 yX11_need yX11_need ∈ gT := gT_in (List.mem_of_getElem? (i := 56) (by decide +kernel)) rfl
theorem w_57 : Cond.selects RX11 yX11_number yX11_number ∈ gT := gT_in (List.mem_of_getElem? (i := 57) (by decide +kernel)) rfl
theorem w_58 : Cond.selects RX11 yX11_signed yX11_signed ∈ gT := gT_in (List.mem_of_getElem? (i := 58) (by decide +kernel)) rfl
theorem w_59 : Cond.selects RX11 yX11_copies yX11_copies ∈ gT := gT_in (List.mem_of_getElem? (i := 59) (by decide +kernel)) rfl
theorem w_60 : Cond.selects RX11 yX11_isPendulum yX11_isPendulum ∈ gT := gT_in (List.mem_of_getElem? (i := 60) (by decide +kernel)) rfl
theorem w_61 : Cond.selects RX11 yX11_period yX11_period ∈ gT := gT_in (List.mem_of_getElem? (i := 61) (by decide +kernel)) rfl
theorem w_62 : Cond.selects RX11 yX11_refuses yX11_refuses ∈ gT := gT_in (List.mem_of_getElem? (i := 62) (by decide +kernel)) rfl
theorem w_63 : Cond.selects RX11 yX11_isTick yX11_isTick ∈ gT := gT_in (List.mem_of_getElem? (i := 63) (by decide +kernel)) rfl
theorem w_64 : Cond.selects RX11 yX11_at yX11_at ∈ gT := gT_in (List.mem_of_getElem? (i := 64) (by decide +kernel)) rfl
theorem w_65 : Cond.selects RX11 yX11_penNow yX11_penNow ∈ gT := gT_in (List.mem_of_getElem? (i := 65) (by decide +kernel)) rfl
theorem w_66 : Cond.selects RX11 yX11_penOf yX11_penOf ∈ gT := gT_in (List.mem_of_getElem? (i := 66) (by decide +kernel)) rfl
theorem w_67 : Cond.selects RX11 yX11_isSpan yX11_isSpan ∈ gT := gT_in (List.mem_of_getElem? (i := 67) (by decide +kernel)) rfl
theorem w_68 : Cond.selects RX11 yX11_clears yX11_clears ∈ gT := gT_in (List.mem_of_getElem? (i := 68) (by decide +kernel)) rfl
theorem w_69 : Cond.selects RX11 yX11_roundOf yX11_roundOf ∈ gT := gT_in (List.mem_of_getElem? (i := 69) (by decide +kernel)) rfl
theorem w_70 : Cond.selects RX11 yX11_isPortrait yX11_isPortrait ∈ gT := gT_in (List.mem_of_getElem? (i := 70) (by decide +kernel)) rfl
theorem w_71 : Cond.selects RX11 yX11_alikeOf yX11_alikeOf ∈ gT := gT_in (List.mem_of_getElem? (i := 71) (by decide +kernel)) rfl
theorem w_72 : Cond.selects RX11 yX11_isWay yX11_isWay ∈ gT := gT_in (List.mem_of_getElem? (i := 72) (by decide +kernel)) rfl
theorem w_73 : Cond.selects RX11 yX11_sizeOf yX11_sizeOf ∈ gT := gT_in (List.mem_of_getElem? (i := 73) (by decide +kernel)) rfl
theorem w_74 : Cond.selects RX11 yX11_isTime yX11_isTime ∈ gT := gT_in (List.mem_of_getElem? (i := 74) (by decide +kernel)) rfl
theorem w_75 : Cond.selects RX11 yX11_offOf yX11_offOf ∈ gT := gT_in (List.mem_of_getElem? (i := 75) (by decide +kernel)) rfl
theorem w_76 : Cond.selects RX11 yX11_shows yX11_shows ∈ gT := gT_in (List.mem_of_getElem? (i := 76) (by decide +kernel)) rfl
theorem w_77 : Cond.selects RX11 yX11_wayOf yX11_wayOf ∈ gT := gT_in (List.mem_of_getElem? (i := 77) (by decide +kernel)) rfl
theorem w_78 : Cond.selects RX11 yX11_fewest yX11_fewest ∈ gT := gT_in (List.mem_of_getElem? (i := 78) (by decide +kernel)) rfl
theorem w_79 : Cond.selects RX11 yX11_allMoved yX11_allMoved ∈ gT := gT_in (List.mem_of_getElem? (i := 79) (by decide +kernel)) rfl
theorem w_80 : Cond.selects RX11 yX11_moved yX11_moved ∈ gT := gT_in (List.mem_of_getElem? (i := 80) (by decide +kernel)) rfl
theorem w_81 : Cond.selects RX11 yX11_countsUp yX11_countsUp ∈ gT := gT_in (List.mem_of_getElem? (i := 81) (by decide +kernel)) rfl
theorem w_82 : Cond.selects RX11 yX11_isSign yX11_isSign ∈ gT := gT_in (List.mem_of_getElem? (i := 82) (by decide +kernel)) rfl
theorem w_83 : Cond.selects RX11 yX11_closes yX11_closes ∈ gT := gT_in (List.mem_of_getElem? (i := 83) (by decide +kernel)) rfl
theorem w_84 : Cond.selects RX11 yX11_puts yX11_puts ∈ gT := gT_in (List.mem_of_getElem? (i := 84) (by decide +kernel)) rfl
theorem w_85 : Cond.selects RX11 yX11_opens yX11_opens ∈ gT := gT_in (List.mem_of_getElem? (i := 85) (by decide +kernel)) rfl
theorem w_86 : Cond.selects RX11 yX11_act yX11_act ∈ gT := gT_in (List.mem_of_getElem? (i := 86) (by decide +kernel)) rfl
theorem w_87 : Cond.selects RX11 yX11_test yX11_test ∈ gT := gT_in (List.mem_of_getElem? (i := 87) (by decide +kernel)) rfl
theorem w_88 : Cond.selects RX11 yX11_performs yX11_performs ∈ gT := gT_in (List.mem_of_getElem? (i := 88) (by decide +kernel)) rfl
theorem w_89 : Cond.selects RX11 yX11_draws yX11_draws ∈ gT := gT_in (List.mem_of_getElem? (i := 89) (by decide +kernel)) rfl
theorem w_90 : Cond.selects RX11 yX11_cellGoing yX11_cellGoing ∈ gT := gT_in (List.mem_of_getElem? (i := 90) (by decide +kernel)) rfl
theorem w_91 : Cond.selects RX11 yX11_penGoing yX11_penGoing ∈ gT := gT_in (List.mem_of_getElem? (i := 91) (by decide +kernel)) rfl
theorem w_92 : Cond.selects RX11 yX11_holds yX11_holds ∈ gT := gT_in (List.mem_of_getElem? (i := 92) (by decide +kernel)) rfl
theorem w_93 : Cond.initialized RL ∈ gT := gT_in (List.mem_of_getElem? (i := 93) (by decide +kernel)) rfl
theorem w_94 : Cond.initialized RX10 ∈ gT := gT_in (List.mem_of_getElem? (i := 94) (by decide +kernel)) rfl
theorem w_95 : Cond.initialized RX9 ∈ gT := gT_in (List.mem_of_getElem? (i := 95) (by decide +kernel)) rfl
theorem w_96 : Cond.initialized RX2 ∈ gT := gT_in (List.mem_of_getElem? (i := 96) (by decide +kernel)) rfl
theorem w_97 : Cond.initialized RJ7 ∈ gT := gT_in (List.mem_of_getElem? (i := 97) (by decide +kernel)) rfl
theorem w_98 : Cond.initialized RX3 ∈ gT := gT_in (List.mem_of_getElem? (i := 98) (by decide +kernel)) rfl
theorem w_99 : Cond.initialized RX7 ∈ gT := gT_in (List.mem_of_getElem? (i := 99) (by decide +kernel)) rfl
theorem w_100 : Cond.initialized RX6 ∈ gT := gT_in (List.mem_of_getElem? (i := 100) (by decide +kernel)) rfl
theorem w_101 : Cond.initialized RX4 ∈ gT := gT_in (List.mem_of_getElem? (i := 101) (by decide +kernel)) rfl
theorem w_102 : Cond.initialized RX1 ∈ gT := gT_in (List.mem_of_getElem? (i := 102) (by decide +kernel)) rfl
theorem w_103 : Cond.initialized RX0 ∈ gT := gT_in (List.mem_of_getElem? (i := 103) (by decide +kernel)) rfl
theorem w_104 : Cond.initialized RX5 ∈ gT := gT_in (List.mem_of_getElem? (i := 104) (by decide +kernel)) rfl
theorem w_105 : Cond.initialized RX11 ∈ gT := gT_in (List.mem_of_getElem? (i := 105) (by decide +kernel)) rfl
theorem w_106 : Cond.initialized "java/lang/Throwable" ∈ gT := gT_in (List.mem_of_getElem? (i := 106) (by decide +kernel)) rfl
theorem w_107 : Cond.initialized "java/lang/Exception" ∈ gT := gT_in (List.mem_of_getElem? (i := 107) (by decide +kernel)) rfl
theorem w_108 : Cond.initialized "java/lang/RuntimeException" ∈ gT := gT_in (List.mem_of_getElem? (i := 108) (by decide +kernel)) rfl
theorem w_109 : Cond.initialized "java/lang/IllegalArgumentException" ∈ gT := gT_in (List.mem_of_getElem? (i := 109) (by decide +kernel)) rfl
theorem w_110 : Cond.initialized RJ9 ∈ gT := gT_in (List.mem_of_getElem? (i := 110) (by decide +kernel)) rfl
theorem w_111 : Cond.initialized RX8 ∈ gT := gT_in (List.mem_of_getElem? (i := 111) (by decide +kernel)) rfl
theorem w_112 : Cond.initialized RJ0 ∈ gT := gT_in (List.mem_of_getElem? (i := 112) (by decide +kernel)) rfl
theorem w_113 : Cond.initialized RJ1 ∈ gT := gT_in (List.mem_of_getElem? (i := 113) (by decide +kernel)) rfl
theorem w_114 : Cond.initialized RJ3 ∈ gT := gT_in (List.mem_of_getElem? (i := 114) (by decide +kernel)) rfl
theorem w_115 : Cond.initialized RJ2 ∈ gT := gT_in (List.mem_of_getElem? (i := 115) (by decide +kernel)) rfl
theorem w_116 : Cond.initialized RJ10 ∈ gT := gT_in (List.mem_of_getElem? (i := 116) (by decide +kernel)) rfl
theorem w_117 : Cond.initialized "java/util/NoSuchElementException" ∈ gT := gT_in (List.mem_of_getElem? (i := 117) (by decide +kernel)) rfl
theorem w_118 : Cond.classLink RL 8 RX10 ∈ gT := gT_in (List.mem_of_getElem? (i := 118) (by decide +kernel)) rfl
theorem w_119 : Cond.instantiable RX10 17 ∈ gT := gT_in (List.mem_of_getElem? (i := 119) (by decide +kernel)) rfl
theorem w_120 : Cond.methodLink RL 81 yX10_init ∈ gT := gT_in (List.mem_of_getElem? (i := 120) (by decide +kernel)) rfl
theorem w_121 : Cond.instanceMethod yX10_init ∈ gT := gT_in (List.mem_of_getElem? (i := 121) (by decide +kernel)) rfl
theorem w_122 : Cond.code yX10_init cX10_init 1 none ∈ gT := gT_in (List.mem_of_getElem? (i := 122) (by decide +kernel)) rfl
theorem w_123 : Cond.methodLink RX10 3 ⟨"java/lang/Object", "<init>", "()V"⟩ ∈ gT := gT_in (List.mem_of_getElem? (i := 123) (by decide +kernel)) rfl
theorem w_124 : Cond.instanceMethod ⟨"java/lang/Object", "<init>", "()V"⟩ ∈ gT := gT_in (List.mem_of_getElem? (i := 124) (by decide +kernel)) rfl
theorem w_125 : Cond.code ⟨"java/lang/Object", "<init>", "()V"⟩ object_method_1_code 1 none ∈ gT := gT_in (List.mem_of_getElem? (i := 125) (by decide +kernel)) rfl
theorem w_126 : Cond.classLink RX10 9 RX9 ∈ gT := gT_in (List.mem_of_getElem? (i := 126) (by decide +kernel)) rfl
theorem w_127 : Cond.instantiable RX9 10 ∈ gT := gT_in (List.mem_of_getElem? (i := 127) (by decide +kernel)) rfl
theorem w_128 : Cond.methodLinkNest RX10 11 yX9_init "PenSwings" ∈ lw_tbl := List.mem_of_getElem? (i := 128) (by decide +kernel)
theorem w_129 : Cond.instanceMethod yX9_init ∈ gT := gT_in (List.mem_of_getElem? (i := 129) (by decide +kernel)) rfl
theorem w_130 : Cond.code yX9_init cX9_init 1 none ∈ gT := gT_in (List.mem_of_getElem? (i := 130) (by decide +kernel)) rfl
theorem w_131 : Cond.methodLink RX9 3 ⟨"java/lang/Object", "<init>", "()V"⟩ ∈ gT := gT_in (List.mem_of_getElem? (i := 131) (by decide +kernel)) rfl
theorem w_132 : Cond.fieldLink RX9 11 "PenSwings$Tape" "bytes" "[B" ∈ gT := gT_in (List.mem_of_getElem? (i := 132) (by decide +kernel)) rfl
theorem w_133 : Cond.fieldLink RX9 19 "PenSwings$Tape" "length" "I" ∈ gT := gT_in (List.mem_of_getElem? (i := 133) (by decide +kernel)) rfl
theorem w_134 : Cond.fieldLink RX10 107 "PenSwings$Tape" "length" "I" ∈ gT := gT_in (List.mem_of_getElem? (i := 134) (by decide +kernel)) rfl
theorem w_135 : Cond.fieldLink RX9 37 "PenSwings$Tape" "wrong" "I" ∈ gT := gT_in (List.mem_of_getElem? (i := 135) (by decide +kernel)) rfl
theorem w_136 : Cond.fieldLink RX10 359 "PenSwings$Tape" "wrong" "I" ∈ gT := gT_in (List.mem_of_getElem? (i := 136) (by decide +kernel)) rfl
theorem w_137 : Cond.fieldLink RX9 15 "PenSwings$Tape" "place" "I" ∈ gT := gT_in (List.mem_of_getElem? (i := 137) (by decide +kernel)) rfl
theorem w_138 : Cond.fieldLink RX10 169 "PenSwings$Tape" "place" "I" ∈ gT := gT_in (List.mem_of_getElem? (i := 138) (by decide +kernel)) rfl
theorem w_139 : Cond.fieldLink RX7 100 "PenSwings$Tape" "taken" "I" ∈ gT := gT_in (List.mem_of_getElem? (i := 139) (by decide +kernel)) rfl
theorem w_140 : Cond.fieldLink RX8 95 "PenSwings$Tape" "taken" "I" ∈ gT := gT_in (List.mem_of_getElem? (i := 140) (by decide +kernel)) rfl
theorem w_141 : Cond.fieldLink RX9 78 "PenSwings$Tape" "taken" "I" ∈ gT := gT_in (List.mem_of_getElem? (i := 141) (by decide +kernel)) rfl
theorem w_142 : Cond.fieldLink RX9 31 "PenSwings$Tape" "end" "I" ∈ gT := gT_in (List.mem_of_getElem? (i := 142) (by decide +kernel)) rfl
theorem w_143 : Cond.fieldLink RX9 34 "PenSwings$Tape" "at" "I" ∈ gT := gT_in (List.mem_of_getElem? (i := 143) (by decide +kernel)) rfl
theorem w_144 : Cond.fieldLink RX9 50 "PenSwings$Tape" "token" "I" ∈ gT := gT_in (List.mem_of_getElem? (i := 144) (by decide +kernel)) rfl
theorem w_145 : Cond.fieldLink RX9 47 "PenSwings$Tape" "first" "I" ∈ gT := gT_in (List.mem_of_getElem? (i := 145) (by decide +kernel)) rfl
theorem w_146 : Cond.fieldLink RX9 59 "PenSwings$Tape" "value" "I" ∈ gT := gT_in (List.mem_of_getElem? (i := 146) (by decide +kernel)) rfl
theorem w_168 : Cond.arrayClass .byte ∈ gT := gT_in (List.mem_of_getElem? (i := 168) (by decide +kernel)) rfl
theorem w_169 : Cond.classLink RX10 16 RX2 ∈ gT := gT_in (List.mem_of_getElem? (i := 169) (by decide +kernel)) rfl
theorem w_170 : Cond.instantiable RX2 11 ∈ gT := gT_in (List.mem_of_getElem? (i := 170) (by decide +kernel)) rfl
theorem w_171 : Cond.methodLink RX10 18 yX2_init ∈ gT := gT_in (List.mem_of_getElem? (i := 171) (by decide +kernel)) rfl
theorem w_172 : Cond.instanceMethod yX2_init ∈ gT := gT_in (List.mem_of_getElem? (i := 172) (by decide +kernel)) rfl
theorem w_173 : Cond.code yX2_init cX2_init 1 none ∈ gT := gT_in (List.mem_of_getElem? (i := 173) (by decide +kernel)) rfl
theorem w_174 : Cond.methodLink RX2 3 ⟨"java/lang/Object", "<init>", "()V"⟩ ∈ gT := gT_in (List.mem_of_getElem? (i := 174) (by decide +kernel)) rfl
theorem w_175 : Cond.methodLink RX2 39 yJ7_fill_53178 ∈ gT := gT_in (List.mem_of_getElem? (i := 175) (by decide +kernel)) rfl
theorem w_176 : Cond.static yJ7_fill_53178 ∈ gT := gT_in (List.mem_of_getElem? (i := 176) (by decide +kernel)) rfl
theorem w_177 : Cond.code yJ7_fill_53178 cJ7_fill_53178 4 none ∈ gT := gT_in (List.mem_of_getElem? (i := 177) (by decide +kernel)) rfl
theorem w_178 : Cond.fieldLink RX2 9 "PenSwings$Frame" "kinds" "[I" ∈ gT := gT_in (List.mem_of_getElem? (i := 178) (by decide +kernel)) rfl
theorem w_179 : Cond.fieldLink RX8 64 "PenSwings$Frame" "kinds" "[I" ∈ gT := gT_in (List.mem_of_getElem? (i := 179) (by decide +kernel)) rfl
theorem w_180 : Cond.fieldLink RX4 34 "PenSwings$Frame" "kinds" "[I" ∈ gT := gT_in (List.mem_of_getElem? (i := 180) (by decide +kernel)) rfl
theorem w_181 : Cond.fieldLink RX10 190 "PenSwings$Frame" "kinds" "[I" ∈ gT := gT_in (List.mem_of_getElem? (i := 181) (by decide +kernel)) rfl
theorem w_182 : Cond.fieldLink RX2 15 "PenSwings$Frame" "lengths" "[I" ∈ gT := gT_in (List.mem_of_getElem? (i := 182) (by decide +kernel)) rfl
theorem w_183 : Cond.fieldLink RX8 68 "PenSwings$Frame" "lengths" "[I" ∈ gT := gT_in (List.mem_of_getElem? (i := 183) (by decide +kernel)) rfl
theorem w_184 : Cond.fieldLink RX10 193 "PenSwings$Frame" "lengths" "[I" ∈ gT := gT_in (List.mem_of_getElem? (i := 184) (by decide +kernel)) rfl
theorem w_185 : Cond.fieldLink RX2 18 "PenSwings$Frame" "losses" "[I" ∈ gT := gT_in (List.mem_of_getElem? (i := 185) (by decide +kernel)) rfl
theorem w_186 : Cond.fieldLink RX8 78 "PenSwings$Frame" "losses" "[I" ∈ gT := gT_in (List.mem_of_getElem? (i := 186) (by decide +kernel)) rfl
theorem w_187 : Cond.fieldLink RX10 199 "PenSwings$Frame" "losses" "[I" ∈ gT := gT_in (List.mem_of_getElem? (i := 187) (by decide +kernel)) rfl
theorem w_188 : Cond.fieldLink RX2 21 "PenSwings$Frame" "settings" "[I" ∈ gT := gT_in (List.mem_of_getElem? (i := 188) (by decide +kernel)) rfl
theorem w_189 : Cond.fieldLink RX1 51 "PenSwings$Frame" "settings" "[I" ∈ gT := gT_in (List.mem_of_getElem? (i := 189) (by decide +kernel)) rfl
theorem w_190 : Cond.fieldLink RX4 29 "PenSwings$Frame" "settings" "[I" ∈ gT := gT_in (List.mem_of_getElem? (i := 190) (by decide +kernel)) rfl
theorem w_191 : Cond.fieldLink RX8 75 "PenSwings$Frame" "settings" "[I" ∈ gT := gT_in (List.mem_of_getElem? (i := 191) (by decide +kernel)) rfl
theorem w_192 : Cond.fieldLink RX6 102 "PenSwings$Frame" "settings" "[I" ∈ gT := gT_in (List.mem_of_getElem? (i := 192) (by decide +kernel)) rfl
theorem w_193 : Cond.fieldLink RX10 196 "PenSwings$Frame" "settings" "[I" ∈ gT := gT_in (List.mem_of_getElem? (i := 193) (by decide +kernel)) rfl
theorem w_194 : Cond.fieldLink RX2 45 "PenSwings$Frame" "told" "I" ∈ gT := gT_in (List.mem_of_getElem? (i := 194) (by decide +kernel)) rfl
theorem w_195 : Cond.fieldLink RX8 53 "PenSwings$Frame" "told" "I" ∈ gT := gT_in (List.mem_of_getElem? (i := 195) (by decide +kernel)) rfl
theorem w_196 : Cond.fieldLink RX10 172 "PenSwings$Frame" "told" "I" ∈ gT := gT_in (List.mem_of_getElem? (i := 196) (by decide +kernel)) rfl
theorem w_197 : Cond.fieldLink RX2 49 "PenSwings$Frame" "carts" "I" ∈ gT := gT_in (List.mem_of_getElem? (i := 197) (by decide +kernel)) rfl
theorem w_198 : Cond.fieldLink RX8 98 "PenSwings$Frame" "carts" "I" ∈ gT := gT_in (List.mem_of_getElem? (i := 198) (by decide +kernel)) rfl
theorem w_199 : Cond.fieldLink RX10 175 "PenSwings$Frame" "carts" "I" ∈ gT := gT_in (List.mem_of_getElem? (i := 199) (by decide +kernel)) rfl
theorem w_200 : Cond.fieldLink RX2 24 "PenSwings$Frame" "cartTicks" "[I" ∈ gT := gT_in (List.mem_of_getElem? (i := 200) (by decide +kernel)) rfl
theorem w_201 : Cond.fieldLink RX8 101 "PenSwings$Frame" "cartTicks" "[I" ∈ gT := gT_in (List.mem_of_getElem? (i := 201) (by decide +kernel)) rfl
theorem w_202 : Cond.fieldLink RX2 27 "PenSwings$Frame" "cartWays" "[I" ∈ gT := gT_in (List.mem_of_getElem? (i := 202) (by decide +kernel)) rfl
theorem w_203 : Cond.fieldLink RX8 107 "PenSwings$Frame" "cartWays" "[I" ∈ gT := gT_in (List.mem_of_getElem? (i := 203) (by decide +kernel)) rfl
theorem w_204 : Cond.fieldLink RX2 30 "PenSwings$Frame" "faded" "[I" ∈ gT := gT_in (List.mem_of_getElem? (i := 204) (by decide +kernel)) rfl
theorem w_205 : Cond.fieldLink RX2 33 "PenSwings$Frame" "fadedSizes" "[I" ∈ gT := gT_in (List.mem_of_getElem? (i := 205) (by decide +kernel)) rfl
theorem w_206 : Cond.fieldLink RX2 36 "PenSwings$Frame" "fadedLosses" "[I" ∈ gT := gT_in (List.mem_of_getElem? (i := 206) (by decide +kernel)) rfl
theorem w_230 : Cond.arrayClass .int ∈ gT := gT_in (List.mem_of_getElem? (i := 230) (by decide +kernel)) rfl
theorem w_231 : Cond.classLink RX10 29 RX3 ∈ gT := gT_in (List.mem_of_getElem? (i := 231) (by decide +kernel)) rfl
theorem w_232 : Cond.instantiable RX3 7 ∈ gT := gT_in (List.mem_of_getElem? (i := 232) (by decide +kernel)) rfl
theorem w_233 : Cond.methodLinkNest RX10 31 yX3_init "PenSwings" ∈ lw_tbl := List.mem_of_getElem? (i := 233) (by decide +kernel)
theorem w_234 : Cond.instanceMethod yX3_init ∈ gT := gT_in (List.mem_of_getElem? (i := 234) (by decide +kernel)) rfl
theorem w_235 : Cond.code yX3_init cX3_init 1 none ∈ gT := gT_in (List.mem_of_getElem? (i := 235) (by decide +kernel)) rfl
theorem w_236 : Cond.methodLink RX3 3 ⟨"java/lang/Object", "<init>", "()V"⟩ ∈ gT := gT_in (List.mem_of_getElem? (i := 236) (by decide +kernel)) rfl
theorem w_237 : Cond.fieldLink RX3 9 "PenSwings$Holdings" "settings" "[I" ∈ gT := gT_in (List.mem_of_getElem? (i := 237) (by decide +kernel)) rfl
theorem w_238 : Cond.fieldLink RX10 355 "PenSwings$Holdings" "settings" "[I" ∈ gT := gT_in (List.mem_of_getElem? (i := 238) (by decide +kernel)) rfl
theorem w_239 : Cond.fieldLink RX3 24 "PenSwings$Holdings" "portraits" "I" ∈ gT := gT_in (List.mem_of_getElem? (i := 239) (by decide +kernel)) rfl
theorem w_240 : Cond.fieldLink RX0 52 "PenSwings$Holdings" "portraits" "I" ∈ gT := gT_in (List.mem_of_getElem? (i := 240) (by decide +kernel)) rfl
theorem w_241 : Cond.fieldLink RX10 178 "PenSwings$Holdings" "portraits" "I" ∈ gT := gT_in (List.mem_of_getElem? (i := 241) (by decide +kernel)) rfl
theorem w_242 : Cond.fieldLink RX3 15 "PenSwings$Holdings" "portraitRows" "[I" ∈ gT := gT_in (List.mem_of_getElem? (i := 242) (by decide +kernel)) rfl
theorem w_243 : Cond.fieldLink RX0 47 "PenSwings$Holdings" "portraitRows" "[I" ∈ gT := gT_in (List.mem_of_getElem? (i := 243) (by decide +kernel)) rfl
theorem w_244 : Cond.fieldLink RX10 252 "PenSwings$Holdings" "portraitRows" "[I" ∈ gT := gT_in (List.mem_of_getElem? (i := 244) (by decide +kernel)) rfl
theorem w_245 : Cond.fieldLink RX3 28 "PenSwings$Holdings" "points" "I" ∈ gT := gT_in (List.mem_of_getElem? (i := 245) (by decide +kernel)) rfl
theorem w_246 : Cond.fieldLink RX1 42 "PenSwings$Holdings" "points" "I" ∈ gT := gT_in (List.mem_of_getElem? (i := 246) (by decide +kernel)) rfl
theorem w_247 : Cond.fieldLink RX10 181 "PenSwings$Holdings" "points" "I" ∈ gT := gT_in (List.mem_of_getElem? (i := 247) (by decide +kernel)) rfl
theorem w_248 : Cond.fieldLink RX3 18 "PenSwings$Holdings" "pointRows" "[I" ∈ gT := gT_in (List.mem_of_getElem? (i := 248) (by decide +kernel)) rfl
theorem w_249 : Cond.fieldLink RX1 60 "PenSwings$Holdings" "pointRows" "[I" ∈ gT := gT_in (List.mem_of_getElem? (i := 249) (by decide +kernel)) rfl
theorem w_250 : Cond.fieldLink RX10 281 "PenSwings$Holdings" "pointRows" "[I" ∈ gT := gT_in (List.mem_of_getElem? (i := 250) (by decide +kernel)) rfl
theorem w_251 : Cond.fieldLink RX3 31 "PenSwings$Holdings" "birthdays" "I" ∈ gT := gT_in (List.mem_of_getElem? (i := 251) (by decide +kernel)) rfl
theorem w_252 : Cond.fieldLink RX5 25 "PenSwings$Holdings" "birthdays" "I" ∈ gT := gT_in (List.mem_of_getElem? (i := 252) (by decide +kernel)) rfl
theorem w_253 : Cond.fieldLink RX10 184 "PenSwings$Holdings" "birthdays" "I" ∈ gT := gT_in (List.mem_of_getElem? (i := 253) (by decide +kernel)) rfl
theorem w_254 : Cond.fieldLink RX3 21 "PenSwings$Holdings" "days" "[I" ∈ gT := gT_in (List.mem_of_getElem? (i := 254) (by decide +kernel)) rfl
theorem w_255 : Cond.fieldLink RX5 30 "PenSwings$Holdings" "days" "[I" ∈ gT := gT_in (List.mem_of_getElem? (i := 255) (by decide +kernel)) rfl
theorem w_256 : Cond.fieldLink RX10 320 "PenSwings$Holdings" "days" "[I" ∈ gT := gT_in (List.mem_of_getElem? (i := 256) (by decide +kernel)) rfl
theorem w_272 : Cond.classLink RX10 43 RX7 ∈ gT := gT_in (List.mem_of_getElem? (i := 272) (by decide +kernel)) rfl
theorem w_273 : Cond.instantiable RX7 7 ∈ gT := gT_in (List.mem_of_getElem? (i := 273) (by decide +kernel)) rfl
theorem w_274 : Cond.methodLinkNest RX10 45 yX7_init "PenSwings" ∈ lw_tbl := List.mem_of_getElem? (i := 274) (by decide +kernel)
theorem w_275 : Cond.instanceMethod yX7_init ∈ gT := gT_in (List.mem_of_getElem? (i := 275) (by decide +kernel)) rfl
theorem w_276 : Cond.code yX7_init cX7_init 1 none ∈ gT := gT_in (List.mem_of_getElem? (i := 276) (by decide +kernel)) rfl
theorem w_277 : Cond.methodLink RX7 5 ⟨"java/lang/Object", "<init>", "()V"⟩ ∈ gT := gT_in (List.mem_of_getElem? (i := 277) (by decide +kernel)) rfl
theorem w_278 : Cond.fieldLink RX7 13 "PenSwings$Score" "verbs" "[I" ∈ gT := gT_in (List.mem_of_getElem? (i := 278) (by decide +kernel)) rfl
theorem w_279 : Cond.fieldLink RX6 61 "PenSwings$Score" "verbs" "[I" ∈ gT := gT_in (List.mem_of_getElem? (i := 279) (by decide +kernel)) rfl
theorem w_280 : Cond.fieldLink RX7 17 "PenSwings$Score" "numbers" "[I" ∈ gT := gT_in (List.mem_of_getElem? (i := 280) (by decide +kernel)) rfl
theorem w_281 : Cond.fieldLink RX6 71 "PenSwings$Score" "numbers" "[I" ∈ gT := gT_in (List.mem_of_getElem? (i := 281) (by decide +kernel)) rfl
theorem w_282 : Cond.fieldLink RX7 20 "PenSwings$Score" "changes" "[I" ∈ gT := gT_in (List.mem_of_getElem? (i := 282) (by decide +kernel)) rfl
theorem w_283 : Cond.fieldLink RX6 81 "PenSwings$Score" "changes" "[I" ∈ gT := gT_in (List.mem_of_getElem? (i := 283) (by decide +kernel)) rfl
theorem w_284 : Cond.fieldLink RX7 23 "PenSwings$Score" "jumps" "[I" ∈ gT := gT_in (List.mem_of_getElem? (i := 284) (by decide +kernel)) rfl
theorem w_285 : Cond.fieldLink RX6 68 "PenSwings$Score" "jumps" "[I" ∈ gT := gT_in (List.mem_of_getElem? (i := 285) (by decide +kernel)) rfl
theorem w_286 : Cond.fieldLink RX7 29 "PenSwings$Score" "size" "I" ∈ gT := gT_in (List.mem_of_getElem? (i := 286) (by decide +kernel)) rfl
theorem w_287 : Cond.fieldLink RX6 58 "PenSwings$Score" "size" "I" ∈ gT := gT_in (List.mem_of_getElem? (i := 287) (by decide +kernel)) rfl
theorem w_288 : Cond.fieldLink RX10 129 "PenSwings$Score" "size" "I" ∈ gT := gT_in (List.mem_of_getElem? (i := 288) (by decide +kernel)) rfl
theorem w_289 : Cond.fieldLink RX7 26 "PenSwings$Score" "open" "[I" ∈ gT := gT_in (List.mem_of_getElem? (i := 289) (by decide +kernel)) rfl
theorem w_290 : Cond.fieldLink RX7 33 "PenSwings$Score" "depth" "I" ∈ gT := gT_in (List.mem_of_getElem? (i := 290) (by decide +kernel)) rfl
theorem w_306 : Cond.classLink RX10 53 RX6 ∈ gT := gT_in (List.mem_of_getElem? (i := 306) (by decide +kernel)) rfl
theorem w_307 : Cond.instantiable RX6 9 ∈ gT := gT_in (List.mem_of_getElem? (i := 307) (by decide +kernel)) rfl
theorem w_308 : Cond.methodLinkNest RX10 55 yX6_init "PenSwings" ∈ lw_tbl := List.mem_of_getElem? (i := 308) (by decide +kernel)
theorem w_309 : Cond.instanceMethod yX6_init ∈ gT := gT_in (List.mem_of_getElem? (i := 309) (by decide +kernel)) rfl
theorem w_310 : Cond.code yX6_init cX6_init 1 none ∈ gT := gT_in (List.mem_of_getElem? (i := 310) (by decide +kernel)) rfl
theorem w_311 : Cond.methodLink RX6 3 ⟨"java/lang/Object", "<init>", "()V"⟩ ∈ gT := gT_in (List.mem_of_getElem? (i := 311) (by decide +kernel)) rfl
theorem w_312 : Cond.classLink RX6 9 RX2 ∈ gT := gT_in (List.mem_of_getElem? (i := 312) (by decide +kernel)) rfl
theorem w_313 : Cond.methodLink RX6 11 yX2_init ∈ gT := gT_in (List.mem_of_getElem? (i := 313) (by decide +kernel)) rfl
theorem w_314 : Cond.fieldLink RX6 12 "PenSwings$Performance" "frame" "LPenSwings$Frame;" ∈ gT := gT_in (List.mem_of_getElem? (i := 314) (by decide +kernel)) rfl
theorem w_315 : Cond.fieldLink RX6 18 "PenSwings$Performance" "marksOf" "[I" ∈ gT := gT_in (List.mem_of_getElem? (i := 315) (by decide +kernel)) rfl
theorem w_316 : Cond.fieldLink RX10 166 "PenSwings$Performance" "marksOf" "[I" ∈ gT := gT_in (List.mem_of_getElem? (i := 316) (by decide +kernel)) rfl
theorem w_317 : Cond.fieldLink RX6 41 "PenSwings$Performance" "markedCells" "I" ∈ gT := gT_in (List.mem_of_getElem? (i := 317) (by decide +kernel)) rfl
theorem w_318 : Cond.fieldLink RX10 154 "PenSwings$Performance" "markedCells" "I" ∈ gT := gT_in (List.mem_of_getElem? (i := 318) (by decide +kernel)) rfl
theorem w_319 : Cond.fieldLink RX6 44 "PenSwings$Performance" "begun" "I" ∈ gT := gT_in (List.mem_of_getElem? (i := 319) (by decide +kernel)) rfl
theorem w_320 : Cond.fieldLink RX10 151 "PenSwings$Performance" "begun" "I" ∈ gT := gT_in (List.mem_of_getElem? (i := 320) (by decide +kernel)) rfl
theorem w_321 : Cond.fieldLink RX6 47 "PenSwings$Performance" "tick" "I" ∈ gT := gT_in (List.mem_of_getElem? (i := 321) (by decide +kernel)) rfl
theorem w_322 : Cond.fieldLink RX10 157 "PenSwings$Performance" "tick" "I" ∈ gT := gT_in (List.mem_of_getElem? (i := 322) (by decide +kernel)) rfl
theorem w_323 : Cond.fieldLink RX6 54 "PenSwings$Performance" "spent" "Z" ∈ gT := gT_in (List.mem_of_getElem? (i := 323) (by decide +kernel)) rfl
theorem w_324 : Cond.fieldLink RX10 148 "PenSwings$Performance" "spent" "Z" ∈ gT := gT_in (List.mem_of_getElem? (i := 324) (by decide +kernel)) rfl
theorem w_325 : Cond.fieldLink RX6 50 "PenSwings$Performance" "turned" "Z" ∈ gT := gT_in (List.mem_of_getElem? (i := 325) (by decide +kernel)) rfl
theorem w_326 : Cond.fieldLink RX6 24 "PenSwings$Performance" "repeats" "[I" ∈ gT := gT_in (List.mem_of_getElem? (i := 326) (by decide +kernel)) rfl
theorem w_327 : Cond.fieldLink RX6 27 "PenSwings$Performance" "playedAt" "I" ∈ gT := gT_in (List.mem_of_getElem? (i := 327) (by decide +kernel)) rfl
theorem w_347 : Cond.classLink RX10 60 RX4 ∈ gT := gT_in (List.mem_of_getElem? (i := 347) (by decide +kernel)) rfl
theorem w_348 : Cond.instantiable RX4 2 ∈ gT := gT_in (List.mem_of_getElem? (i := 348) (by decide +kernel)) rfl
theorem w_349 : Cond.methodLinkNest RX10 62 yX4_init "PenSwings" ∈ lw_tbl := List.mem_of_getElem? (i := 349) (by decide +kernel)
theorem w_350 : Cond.instanceMethod yX4_init ∈ gT := gT_in (List.mem_of_getElem? (i := 350) (by decide +kernel)) rfl
theorem w_351 : Cond.code yX4_init cX4_init 1 none ∈ gT := gT_in (List.mem_of_getElem? (i := 351) (by decide +kernel)) rfl
theorem w_352 : Cond.methodLink RX4 3 ⟨"java/lang/Object", "<init>", "()V"⟩ ∈ gT := gT_in (List.mem_of_getElem? (i := 352) (by decide +kernel)) rfl
theorem w_353 : Cond.fieldLink RX4 9 "PenSwings$Likeness" "partners" "[I" ∈ gT := gT_in (List.mem_of_getElem? (i := 353) (by decide +kernel)) rfl
theorem w_354 : Cond.fieldLink RX4 15 "PenSwings$Likeness" "times" "[I" ∈ gT := gT_in (List.mem_of_getElem? (i := 354) (by decide +kernel)) rfl
theorem w_360 : Cond.classLink RX10 67 RX1 ∈ gT := gT_in (List.mem_of_getElem? (i := 360) (by decide +kernel)) rfl
theorem w_361 : Cond.instantiable RX1 11 ∈ gT := gT_in (List.mem_of_getElem? (i := 361) (by decide +kernel)) rfl
theorem w_362 : Cond.methodLinkNest RX10 69 yX1_init "PenSwings" ∈ lw_tbl := List.mem_of_getElem? (i := 362) (by decide +kernel)
theorem w_363 : Cond.instanceMethod yX1_init ∈ gT := gT_in (List.mem_of_getElem? (i := 363) (by decide +kernel)) rfl
theorem w_364 : Cond.code yX1_init cX1_init 1 none ∈ gT := gT_in (List.mem_of_getElem? (i := 364) (by decide +kernel)) rfl
theorem w_365 : Cond.methodLink RX1 5 ⟨"java/lang/Object", "<init>", "()V"⟩ ∈ gT := gT_in (List.mem_of_getElem? (i := 365) (by decide +kernel)) rfl
theorem w_366 : Cond.fieldLink RX1 29 "PenSwings$Fitting" "rows" "I" ∈ gT := gT_in (List.mem_of_getElem? (i := 366) (by decide +kernel)) rfl
theorem w_367 : Cond.fieldLink RX10 292 "PenSwings$Fitting" "rows" "I" ∈ gT := gT_in (List.mem_of_getElem? (i := 367) (by decide +kernel)) rfl
theorem w_368 : Cond.fieldLink RX1 33 "PenSwings$Fitting" "firstRow" "I" ∈ gT := gT_in (List.mem_of_getElem? (i := 368) (by decide +kernel)) rfl
theorem w_369 : Cond.fieldLink RX10 295 "PenSwings$Fitting" "firstRow" "I" ∈ gT := gT_in (List.mem_of_getElem? (i := 369) (by decide +kernel)) rfl
theorem w_370 : Cond.fieldLink RX1 36 "PenSwings$Fitting" "nearestRow" "I" ∈ gT := gT_in (List.mem_of_getElem? (i := 370) (by decide +kernel)) rfl
theorem w_371 : Cond.fieldLink RX10 298 "PenSwings$Fitting" "nearestRow" "I" ∈ gT := gT_in (List.mem_of_getElem? (i := 371) (by decide +kernel)) rfl
theorem w_372 : Cond.fieldLink RX1 39 "PenSwings$Fitting" "nearestOff" "I" ∈ gT := gT_in (List.mem_of_getElem? (i := 372) (by decide +kernel)) rfl
theorem w_373 : Cond.fieldLink RX10 301 "PenSwings$Fitting" "nearestOff" "I" ∈ gT := gT_in (List.mem_of_getElem? (i := 373) (by decide +kernel)) rfl
theorem w_374 : Cond.fieldLink RX1 87 "PenSwings$Fitting" "cartTicks" "I" ∈ gT := gT_in (List.mem_of_getElem? (i := 374) (by decide +kernel)) rfl
theorem w_375 : Cond.fieldLink RX10 308 "PenSwings$Fitting" "cartTicks" "I" ∈ gT := gT_in (List.mem_of_getElem? (i := 375) (by decide +kernel)) rfl
theorem w_376 : Cond.fieldLink RX1 90 "PenSwings$Fitting" "leastCart" "I" ∈ gT := gT_in (List.mem_of_getElem? (i := 376) (by decide +kernel)) rfl
theorem w_377 : Cond.fieldLink RX10 311 "PenSwings$Fitting" "leastCart" "I" ∈ gT := gT_in (List.mem_of_getElem? (i := 377) (by decide +kernel)) rfl
theorem w_378 : Cond.fieldLink RX1 93 "PenSwings$Fitting" "cartAlong" "I" ∈ gT := gT_in (List.mem_of_getElem? (i := 378) (by decide +kernel)) rfl
theorem w_379 : Cond.fieldLink RX10 314 "PenSwings$Fitting" "cartAlong" "I" ∈ gT := gT_in (List.mem_of_getElem? (i := 379) (by decide +kernel)) rfl
theorem w_380 : Cond.fieldLink RX1 96 "PenSwings$Fitting" "cartAcross" "I" ∈ gT := gT_in (List.mem_of_getElem? (i := 380) (by decide +kernel)) rfl
theorem w_381 : Cond.fieldLink RX10 317 "PenSwings$Fitting" "cartAcross" "I" ∈ gT := gT_in (List.mem_of_getElem? (i := 381) (by decide +kernel)) rfl
theorem w_382 : Cond.fieldLink RX1 11 "PenSwings$Fitting" "places" "[I" ∈ gT := gT_in (List.mem_of_getElem? (i := 382) (by decide +kernel)) rfl
theorem w_383 : Cond.fieldLink RX1 15 "PenSwings$Fitting" "offs" "[I" ∈ gT := gT_in (List.mem_of_getElem? (i := 383) (by decide +kernel)) rfl
theorem w_384 : Cond.fieldLink RX1 18 "PenSwings$Fitting" "ways" "[I" ∈ gT := gT_in (List.mem_of_getElem? (i := 384) (by decide +kernel)) rfl
theorem w_408 : Cond.classLink RX10 74 RX0 ∈ gT := gT_in (List.mem_of_getElem? (i := 408) (by decide +kernel)) rfl
theorem w_409 : Cond.instantiable RX0 6 ∈ gT := gT_in (List.mem_of_getElem? (i := 409) (by decide +kernel)) rfl
theorem w_410 : Cond.methodLinkNest RX10 76 yX0_init "PenSwings" ∈ lw_tbl := List.mem_of_getElem? (i := 410) (by decide +kernel)
theorem w_411 : Cond.instanceMethod yX0_init ∈ gT := gT_in (List.mem_of_getElem? (i := 411) (by decide +kernel)) rfl
theorem w_412 : Cond.code yX0_init cX0_init 1 none ∈ gT := gT_in (List.mem_of_getElem? (i := 412) (by decide +kernel)) rfl
theorem w_413 : Cond.methodLink RX0 3 ⟨"java/lang/Object", "<init>", "()V"⟩ ∈ gT := gT_in (List.mem_of_getElem? (i := 413) (by decide +kernel)) rfl
theorem w_414 : Cond.fieldLink RX0 9 "PenSwings$Evening" "order" "[I" ∈ gT := gT_in (List.mem_of_getElem? (i := 414) (by decide +kernel)) rfl
theorem w_415 : Cond.fieldLink RX10 352 "PenSwings$Evening" "order" "[I" ∈ gT := gT_in (List.mem_of_getElem? (i := 415) (by decide +kernel)) rfl
theorem w_416 : Cond.fieldLink RX0 24 "PenSwings$Evening" "length" "I" ∈ gT := gT_in (List.mem_of_getElem? (i := 416) (by decide +kernel)) rfl
theorem w_417 : Cond.fieldLink RX10 341 "PenSwings$Evening" "length" "I" ∈ gT := gT_in (List.mem_of_getElem? (i := 417) (by decide +kernel)) rfl
theorem w_418 : Cond.fieldLink RX0 28 "PenSwings$Evening" "tea" "I" ∈ gT := gT_in (List.mem_of_getElem? (i := 418) (by decide +kernel)) rfl
theorem w_419 : Cond.fieldLink RX10 349 "PenSwings$Evening" "tea" "I" ∈ gT := gT_in (List.mem_of_getElem? (i := 419) (by decide +kernel)) rfl
theorem w_420 : Cond.fieldLink RX0 15 "PenSwings$Evening" "apart" "[I" ∈ gT := gT_in (List.mem_of_getElem? (i := 420) (by decide +kernel)) rfl
theorem w_421 : Cond.fieldLink RX0 18 "PenSwings$Evening" "fresh" "[I" ∈ gT := gT_in (List.mem_of_getElem? (i := 421) (by decide +kernel)) rfl
theorem w_422 : Cond.fieldLink RX0 21 "PenSwings$Evening" "rested" "[I" ∈ gT := gT_in (List.mem_of_getElem? (i := 422) (by decide +kernel)) rfl
theorem w_436 : Cond.classLink RX10 81 RX5 ∈ gT := gT_in (List.mem_of_getElem? (i := 436) (by decide +kernel)) rfl
theorem w_437 : Cond.instantiable RX5 3 ∈ gT := gT_in (List.mem_of_getElem? (i := 437) (by decide +kernel)) rfl
theorem w_438 : Cond.methodLinkNest RX10 83 yX5_init "PenSwings" ∈ lw_tbl := List.mem_of_getElem? (i := 438) (by decide +kernel)
theorem w_439 : Cond.instanceMethod yX5_init ∈ gT := gT_in (List.mem_of_getElem? (i := 439) (by decide +kernel)) rfl
theorem w_440 : Cond.code yX5_init cX5_init 1 none ∈ gT := gT_in (List.mem_of_getElem? (i := 440) (by decide +kernel)) rfl
theorem w_441 : Cond.methodLink RX5 3 ⟨"java/lang/Object", "<init>", "()V"⟩ ∈ gT := gT_in (List.mem_of_getElem? (i := 441) (by decide +kernel)) rfl
theorem w_442 : Cond.fieldLink RX5 15 "PenSwings$Parish" "best" "I" ∈ gT := gT_in (List.mem_of_getElem? (i := 442) (by decide +kernel)) rfl
theorem w_443 : Cond.fieldLink RX10 327 "PenSwings$Parish" "best" "I" ∈ gT := gT_in (List.mem_of_getElem? (i := 443) (by decide +kernel)) rfl
theorem w_444 : Cond.fieldLink RX5 18 "PenSwings$Parish" "fewest" "I" ∈ gT := gT_in (List.mem_of_getElem? (i := 444) (by decide +kernel)) rfl
theorem w_445 : Cond.fieldLink RX10 330 "PenSwings$Parish" "fewest" "I" ∈ gT := gT_in (List.mem_of_getElem? (i := 445) (by decide +kernel)) rfl
theorem w_446 : Cond.fieldLink RX5 9 "PenSwings$Parish" "foundAt" "I" ∈ gT := gT_in (List.mem_of_getElem? (i := 446) (by decide +kernel)) rfl
theorem w_454 : Cond.fieldLink RX10 12 "PenSwings" "tape" "LPenSwings$Tape;" ∈ gT := gT_in (List.mem_of_getElem? (i := 454) (by decide +kernel)) rfl
theorem w_455 : Cond.fieldLink RX10 19 "PenSwings" "now" "LPenSwings$Frame;" ∈ gT := gT_in (List.mem_of_getElem? (i := 455) (by decide +kernel)) rfl
theorem w_456 : Cond.fieldLink RX10 23 "PenSwings" "spare" "LPenSwings$Frame;" ∈ gT := gT_in (List.mem_of_getElem? (i := 456) (by decide +kernel)) rfl
theorem w_457 : Cond.fieldLink RX10 26 "PenSwings" "other" "LPenSwings$Frame;" ∈ gT := gT_in (List.mem_of_getElem? (i := 457) (by decide +kernel)) rfl
theorem w_458 : Cond.fieldLink RX10 32 "PenSwings" "held" "LPenSwings$Holdings;" ∈ gT := gT_in (List.mem_of_getElem? (i := 458) (by decide +kernel)) rfl
theorem w_459 : Cond.fieldLink RX10 36 "PenSwings" "pictured" "LPenSwings$Holdings;" ∈ gT := gT_in (List.mem_of_getElem? (i := 459) (by decide +kernel)) rfl
theorem w_460 : Cond.fieldLink RX10 39 "PenSwings" "hasImage" "Z" ∈ gT := gT_in (List.mem_of_getElem? (i := 460) (by decide +kernel)) rfl
theorem w_461 : Cond.fieldLink RX10 46 "PenSwings" "acts" "LPenSwings$Score;" ∈ gT := gT_in (List.mem_of_getElem? (i := 461) (by decide +kernel)) rfl
theorem w_462 : Cond.fieldLink RX10 50 "PenSwings" "spareActs" "LPenSwings$Score;" ∈ gT := gT_in (List.mem_of_getElem? (i := 462) (by decide +kernel)) rfl
theorem w_463 : Cond.fieldLink RX10 56 "PenSwings" "performance" "LPenSwings$Performance;" ∈ gT := gT_in (List.mem_of_getElem? (i := 463) (by decide +kernel)) rfl
theorem w_464 : Cond.fieldLink RX10 63 "PenSwings" "likeness" "LPenSwings$Likeness;" ∈ gT := gT_in (List.mem_of_getElem? (i := 464) (by decide +kernel)) rfl
theorem w_465 : Cond.fieldLink RX10 70 "PenSwings" "fitting" "LPenSwings$Fitting;" ∈ gT := gT_in (List.mem_of_getElem? (i := 465) (by decide +kernel)) rfl
theorem w_466 : Cond.fieldLink RX10 77 "PenSwings" "plan" "LPenSwings$Evening;" ∈ gT := gT_in (List.mem_of_getElem? (i := 466) (by decide +kernel)) rfl
theorem w_467 : Cond.fieldLink RX10 84 "PenSwings" "parish" "LPenSwings$Parish;" ∈ gT := gT_in (List.mem_of_getElem? (i := 467) (by decide +kernel)) rfl
theorem w_468 : Cond.fieldLink RX10 88 "PenSwings" "seen" "[I" ∈ gT := gT_in (List.mem_of_getElem? (i := 468) (by decide +kernel)) rfl
theorem w_469 : Cond.fieldLink RX10 92 "PenSwings" "refused" "[I" ∈ gT := gT_in (List.mem_of_getElem? (i := 469) (by decide +kernel)) rfl
theorem w_470 : Cond.fieldLink RX10 95 "PenSwings" "changes" "I" ∈ gT := gT_in (List.mem_of_getElem? (i := 470) (by decide +kernel)) rfl
theorem w_506 : Cond.methodLink RL 85 yX10_feed ∈ gT := gT_in (List.mem_of_getElem? (i := 506) (by decide +kernel)) rfl
theorem w_507 : Cond.instanceMethod yX10_feed ∈ gT := gT_in (List.mem_of_getElem? (i := 507) (by decide +kernel)) rfl
theorem w_508 : Cond.selects RX10 yX10_feed yX10_feed ∈ gT := gT_in (List.mem_of_getElem? (i := 508) (by decide +kernel)) rfl
theorem w_509 : Cond.code yX10_feed cX10_feed 6 (some .int) ∈ gT := gT_in (List.mem_of_getElem? (i := 509) (by decide +kernel)) rfl
theorem w_510 : Cond.methodLink RX10 99 yX9_hasRoom ∈ gT := gT_in (List.mem_of_getElem? (i := 510) (by decide +kernel)) rfl
theorem w_511 : Cond.instanceMethod yX9_hasRoom ∈ gT := gT_in (List.mem_of_getElem? (i := 511) (by decide +kernel)) rfl
theorem w_512 : Cond.selects RX9 yX9_hasRoom yX9_hasRoom ∈ gT := gT_in (List.mem_of_getElem? (i := 512) (by decide +kernel)) rfl
theorem w_513 : Cond.code yX9_hasRoom cX9_hasRoom 1 (some .boolean) ∈ gT := gT_in (List.mem_of_getElem? (i := 513) (by decide +kernel)) rfl
theorem w_514 : Cond.methodLink RX10 103 yX9_lay ∈ gT := gT_in (List.mem_of_getElem? (i := 514) (by decide +kernel)) rfl
theorem w_515 : Cond.instanceMethod yX9_lay ∈ gT := gT_in (List.mem_of_getElem? (i := 515) (by decide +kernel)) rfl
theorem w_516 : Cond.selects RX9 yX9_lay yX9_lay ∈ gT := gT_in (List.mem_of_getElem? (i := 516) (by decide +kernel)) rfl
theorem w_517 : Cond.code yX9_lay cX9_lay 3 none ∈ gT := gT_in (List.mem_of_getElem? (i := 517) (by decide +kernel)) rfl
theorem w_518 : Cond.methodLink RL 108 yX10_fault ∈ gT := gT_in (List.mem_of_getElem? (i := 518) (by decide +kernel)) rfl
theorem w_519 : Cond.instanceMethod yX10_fault ∈ gT := gT_in (List.mem_of_getElem? (i := 519) (by decide +kernel)) rfl
end
section
theorem w_520 : Cond.selects RX10 yX10_fault yX10_fault ∈ gT := gT_in (List.mem_of_getElem? (i := 520) (by decide +kernel)) rfl
theorem w_521 : Cond.code yX10_fault cX10_fault 1 (some .int) ∈ gT := gT_in (List.mem_of_getElem? (i := 521) (by decide +kernel)) rfl
theorem w_522 : Cond.methodLink RL 135 yX10_round ∈ gT := gT_in (List.mem_of_getElem? (i := 522) (by decide +kernel)) rfl
theorem w_523 : Cond.instanceMethod yX10_round ∈ gT := gT_in (List.mem_of_getElem? (i := 523) (by decide +kernel)) rfl
theorem w_524 : Cond.selects RX10 yX10_round yX10_round ∈ gT := gT_in (List.mem_of_getElem? (i := 524) (by decide +kernel)) rfl
theorem w_525 : Cond.code yX10_round cX10_round 1 (some .int) ∈ gT := gT_in (List.mem_of_getElem? (i := 525) (by decide +kernel)) rfl
theorem w_526 : Cond.methodLink RX10 241 yX2_ticksRound ∈ gT := gT_in (List.mem_of_getElem? (i := 526) (by decide +kernel)) rfl
theorem w_527 : Cond.instanceMethod yX2_ticksRound ∈ gT := gT_in (List.mem_of_getElem? (i := 527) (by decide +kernel)) rfl
theorem w_528 : Cond.selects RX2 yX2_ticksRound yX2_ticksRound ∈ gT := gT_in (List.mem_of_getElem? (i := 528) (by decide +kernel)) rfl
theorem w_529 : Cond.code yX2_ticksRound cX2_ticksRound 4 (some .int) ∈ gT := gT_in (List.mem_of_getElem? (i := 529) (by decide +kernel)) rfl
theorem w_530 : Cond.methodLink RX2 58 yX2_period ∈ gT := gT_in (List.mem_of_getElem? (i := 530) (by decide +kernel)) rfl
theorem w_531 : Cond.instanceMethod yX2_period ∈ gT := gT_in (List.mem_of_getElem? (i := 531) (by decide +kernel)) rfl
theorem w_532 : Cond.selects RX2 yX2_period yX2_period ∈ gT := gT_in (List.mem_of_getElem? (i := 532) (by decide +kernel)) rfl
theorem w_533 : Cond.code yX2_period cX2_period 2 (some .int) ∈ gT := gT_in (List.mem_of_getElem? (i := 533) (by decide +kernel)) rfl
theorem w_534 : Cond.methodLinkNest RX2 85 yX10_greatestCommon "PenSwings" ∈ lw_tbl := List.mem_of_getElem? (i := 534) (by decide +kernel)
theorem w_535 : Cond.static yX10_greatestCommon ∈ gT := gT_in (List.mem_of_getElem? (i := 535) (by decide +kernel)) rfl
theorem w_536 : Cond.code yX10_greatestCommon cX10_greatestCommon 6 (some .int) ∈ gT := gT_in (List.mem_of_getElem? (i := 536) (by decide +kernel)) rfl
theorem w_537 : Cond.methodLink RL 139 yX10_off ∈ gT := gT_in (List.mem_of_getElem? (i := 537) (by decide +kernel)) rfl
theorem w_538 : Cond.instanceMethod yX10_off ∈ gT := gT_in (List.mem_of_getElem? (i := 538) (by decide +kernel)) rfl
theorem w_539 : Cond.selects RX10 yX10_off yX10_off ∈ gT := gT_in (List.mem_of_getElem? (i := 539) (by decide +kernel)) rfl
theorem w_540 : Cond.code yX10_off cX10_off 2 (some .int) ∈ gT := gT_in (List.mem_of_getElem? (i := 540) (by decide +kernel)) rfl
theorem w_541 : Cond.methodLink RX10 244 yX2_swungTo ∈ gT := gT_in (List.mem_of_getElem? (i := 541) (by decide +kernel)) rfl
theorem w_542 : Cond.instanceMethod yX2_swungTo ∈ gT := gT_in (List.mem_of_getElem? (i := 542) (by decide +kernel)) rfl
theorem w_543 : Cond.selects RX2 yX2_swungTo yX2_swungTo ∈ gT := gT_in (List.mem_of_getElem? (i := 543) (by decide +kernel)) rfl
theorem w_544 : Cond.code yX2_swungTo cX2_swungTo 3 (some .int) ∈ gT := gT_in (List.mem_of_getElem? (i := 544) (by decide +kernel)) rfl
theorem w_545 : Cond.methodLink RX2 73 yX2_where ∈ gT := gT_in (List.mem_of_getElem? (i := 545) (by decide +kernel)) rfl
theorem w_546 : Cond.instanceMethod yX2_where ∈ gT := gT_in (List.mem_of_getElem? (i := 546) (by decide +kernel)) rfl
theorem w_547 : Cond.selects RX2 yX2_where yX2_where ∈ gT := gT_in (List.mem_of_getElem? (i := 547) (by decide +kernel)) rfl
theorem w_548 : Cond.code yX2_where cX2_where 7 (some .int) ∈ gT := gT_in (List.mem_of_getElem? (i := 548) (by decide +kernel)) rfl
theorem w_549 : Cond.methodLink RX2 62 yX2_fade ∈ gT := gT_in (List.mem_of_getElem? (i := 549) (by decide +kernel)) rfl
theorem w_551 : Cond.instanceMethod yX2_fade ∈ gT := gT_in (List.mem_of_getElem? (i := 551) (by decide +kernel)) rfl
theorem w_552 : Cond.code yX2_fade cX2_fade 4 none ∈ gT := gT_in (List.mem_of_getElem? (i := 552) (by decide +kernel)) rfl
theorem w_553 : Cond.methodLink RX2 66 yX2_slope ∈ gT := gT_in (List.mem_of_getElem? (i := 553) (by decide +kernel)) rfl
theorem w_554 : Cond.static yX2_slope ∈ gT := gT_in (List.mem_of_getElem? (i := 554) (by decide +kernel)) rfl
theorem w_555 : Cond.code yX2_slope cX2_slope 2 (some .int) ∈ gT := gT_in (List.mem_of_getElem? (i := 555) (by decide +kernel)) rfl
theorem w_556 : Cond.methodLink RX2 70 yX2_arch ∈ gT := gT_in (List.mem_of_getElem? (i := 556) (by decide +kernel)) rfl
theorem w_557 : Cond.static yX2_arch ∈ gT := gT_in (List.mem_of_getElem? (i := 557) (by decide +kernel)) rfl
theorem w_558 : Cond.code yX2_arch cX2_arch 3 (some .int) ∈ gT := gT_in (List.mem_of_getElem? (i := 558) (by decide +kernel)) rfl
theorem w_559 : Cond.methodLink RX10 247 yJ9_abs_0f7a4 ∈ gT := gT_in (List.mem_of_getElem? (i := 559) (by decide +kernel)) rfl
theorem w_560 : Cond.static yJ9_abs_0f7a4 ∈ gT := gT_in (List.mem_of_getElem? (i := 560) (by decide +kernel)) rfl
theorem w_561 : Cond.code yJ9_abs_0f7a4 cJ9_abs_0f7a4 1 (some .int) ∈ gT := gT_in (List.mem_of_getElem? (i := 561) (by decide +kernel)) rfl
theorem w_562 : Cond.methodLink RL 143 yX10_keep ∈ gT := gT_in (List.mem_of_getElem? (i := 562) (by decide +kernel)) rfl
theorem w_563 : Cond.instanceMethod yX10_keep ∈ gT := gT_in (List.mem_of_getElem? (i := 563) (by decide +kernel)) rfl
theorem w_564 : Cond.selects RX10 yX10_keep yX10_keep ∈ gT := gT_in (List.mem_of_getElem? (i := 564) (by decide +kernel)) rfl
theorem w_565 : Cond.code yX10_keep cX10_keep 2 (some .int) ∈ gT := gT_in (List.mem_of_getElem? (i := 565) (by decide +kernel)) rfl
theorem w_566 : Cond.methodLink RX10 209 yX10_refuse ∈ gT := gT_in (List.mem_of_getElem? (i := 566) (by decide +kernel)) rfl
theorem w_568 : Cond.instanceMethod yX10_refuse ∈ gT := gT_in (List.mem_of_getElem? (i := 568) (by decide +kernel)) rfl
theorem w_569 : Cond.code yX10_refuse cX10_refuse 2 (some .int) ∈ gT := gT_in (List.mem_of_getElem? (i := 569) (by decide +kernel)) rfl
theorem w_570 : Cond.methodLink RX10 255 ⟨"java/lang/System", "arraycopy", "(Ljava/lang/Object;ILjava/lang/Object;II)V"⟩ ∈ gT := gT_in (List.mem_of_getElem? (i := 570) (by decide +kernel)) rfl
theorem w_571 : Cond.static ⟨"java/lang/System", "arraycopy", "(Ljava/lang/Object;ILjava/lang/Object;II)V"⟩ ∈ gT := gT_in (List.mem_of_getElem? (i := 571) (by decide +kernel)) rfl
theorem w_572 : Cond.native ⟨"java/lang/System", "arraycopy", "(Ljava/lang/Object;ILjava/lang/Object;II)V"⟩ ∈ gT := gT_in (List.mem_of_getElem? (i := 572) (by decide +kernel)) rfl
theorem w_573 : Cond.methodLink RL 157 yX10_point ∈ gT := gT_in (List.mem_of_getElem? (i := 573) (by decide +kernel)) rfl
theorem w_574 : Cond.instanceMethod yX10_point ∈ gT := gT_in (List.mem_of_getElem? (i := 574) (by decide +kernel)) rfl
theorem w_575 : Cond.selects RX10 yX10_point yX10_point ∈ gT := gT_in (List.mem_of_getElem? (i := 575) (by decide +kernel)) rfl
theorem w_576 : Cond.code yX10_point cX10_point 5 (some .int) ∈ gT := gT_in (List.mem_of_getElem? (i := 576) (by decide +kernel)) rfl
theorem w_577 : Cond.methodLink RX10 274 yX10_isTick ∈ gT := gT_in (List.mem_of_getElem? (i := 577) (by decide +kernel)) rfl
theorem w_578 : Cond.static yX10_isTick ∈ gT := gT_in (List.mem_of_getElem? (i := 578) (by decide +kernel)) rfl
theorem w_579 : Cond.code yX10_isTick cX10_isTick 1 (some .boolean) ∈ gT := gT_in (List.mem_of_getElem? (i := 579) (by decide +kernel)) rfl
theorem w_580 : Cond.methodLink RX10 278 yX10_isPlace ∈ gT := gT_in (List.mem_of_getElem? (i := 580) (by decide +kernel)) rfl
theorem w_581 : Cond.static yX10_isPlace ∈ gT := gT_in (List.mem_of_getElem? (i := 581) (by decide +kernel)) rfl
theorem w_582 : Cond.code yX10_isPlace cX10_isPlace 1 (some .boolean) ∈ gT := gT_in (List.mem_of_getElem? (i := 582) (by decide +kernel)) rfl
theorem w_583 : Cond.methodLink RL 161 yX10_unpoint ∈ gT := gT_in (List.mem_of_getElem? (i := 583) (by decide +kernel)) rfl
theorem w_584 : Cond.instanceMethod yX10_unpoint ∈ gT := gT_in (List.mem_of_getElem? (i := 584) (by decide +kernel)) rfl
theorem w_585 : Cond.selects RX10 yX10_unpoint yX10_unpoint ∈ gT := gT_in (List.mem_of_getElem? (i := 585) (by decide +kernel)) rfl
theorem w_586 : Cond.code yX10_unpoint cX10_unpoint 1 (some .int) ∈ gT := gT_in (List.mem_of_getElem? (i := 586) (by decide +kernel)) rfl
theorem w_587 : Cond.methodLink RL 174 yX10_birthday ∈ gT := gT_in (List.mem_of_getElem? (i := 587) (by decide +kernel)) rfl
theorem w_588 : Cond.instanceMethod yX10_birthday ∈ gT := gT_in (List.mem_of_getElem? (i := 588) (by decide +kernel)) rfl
theorem w_589 : Cond.selects RX10 yX10_birthday yX10_birthday ∈ gT := gT_in (List.mem_of_getElem? (i := 589) (by decide +kernel)) rfl
theorem w_590 : Cond.code yX10_birthday cX10_birthday 2 (some .int) ∈ gT := gT_in (List.mem_of_getElem? (i := 590) (by decide +kernel)) rfl
theorem w_591 : Cond.methodLink RL 178 yX10_forget ∈ gT := gT_in (List.mem_of_getElem? (i := 591) (by decide +kernel)) rfl
theorem w_592 : Cond.instanceMethod yX10_forget ∈ gT := gT_in (List.mem_of_getElem? (i := 592) (by decide +kernel)) rfl
theorem w_593 : Cond.selects RX10 yX10_forget yX10_forget ∈ gT := gT_in (List.mem_of_getElem? (i := 593) (by decide +kernel)) rfl
theorem w_594 : Cond.code yX10_forget cX10_forget 2 (some .int) ∈ gT := gT_in (List.mem_of_getElem? (i := 594) (by decide +kernel)) rfl
theorem w_595 : Cond.methodLink RL 195 yX10_image ∈ gT := gT_in (List.mem_of_getElem? (i := 595) (by decide +kernel)) rfl
theorem w_596 : Cond.instanceMethod yX10_image ∈ gT := gT_in (List.mem_of_getElem? (i := 596) (by decide +kernel)) rfl
theorem w_597 : Cond.selects RX10 yX10_image yX10_image ∈ gT := gT_in (List.mem_of_getElem? (i := 597) (by decide +kernel)) rfl
theorem w_598 : Cond.code yX10_image cX10_image 1 none ∈ gT := gT_in (List.mem_of_getElem? (i := 598) (by decide +kernel)) rfl
theorem w_599 : Cond.methodLink RX10 356 yX3_copy ∈ gT := gT_in (List.mem_of_getElem? (i := 599) (by decide +kernel)) rfl
theorem w_600 : Cond.instanceMethod yX3_copy ∈ gT := gT_in (List.mem_of_getElem? (i := 600) (by decide +kernel)) rfl
theorem w_601 : Cond.selects RX3 yX3_copy yX3_copy ∈ gT := gT_in (List.mem_of_getElem? (i := 601) (by decide +kernel)) rfl
theorem w_602 : Cond.code yX3_copy cX3_copy 2 none ∈ gT := gT_in (List.mem_of_getElem? (i := 602) (by decide +kernel)) rfl
theorem w_603 : Cond.methodLink RX3 34 ⟨"java/lang/System", "arraycopy", "(Ljava/lang/Object;ILjava/lang/Object;II)V"⟩ ∈ gT := gT_in (List.mem_of_getElem? (i := 603) (by decide +kernel)) rfl
theorem w_604 : Cond.methodLink RL 199 yX10_restore ∈ gT := gT_in (List.mem_of_getElem? (i := 604) (by decide +kernel)) rfl
theorem w_605 : Cond.instanceMethod yX10_restore ∈ gT := gT_in (List.mem_of_getElem? (i := 605) (by decide +kernel)) rfl
theorem w_606 : Cond.selects RX10 yX10_restore yX10_restore ∈ gT := gT_in (List.mem_of_getElem? (i := 606) (by decide +kernel)) rfl
theorem w_607 : Cond.code yX10_restore cX10_restore 1 (some .boolean) ∈ gT := gT_in (List.mem_of_getElem? (i := 607) (by decide +kernel)) rfl
theorem w_608 : Cond.methodLink RL 89 yL_swings ∈ gT := gT_in (List.mem_of_getElem? (i := 608) (by decide +kernel)) rfl
theorem w_609 : Cond.static yL_swings ∈ gT := gT_in (List.mem_of_getElem? (i := 609) (by decide +kernel)) rfl
theorem w_611 : Cond.classLink RL 13 "java/lang/IllegalArgumentException" ∈ gT := gT_in (List.mem_of_getElem? (i := 611) (by decide +kernel)) rfl
theorem w_612 : Cond.methodLink RL 7 yX10_swings ∈ gT := gT_in (List.mem_of_getElem? (i := 612) (by decide +kernel)) rfl
theorem w_613 : Cond.instanceMethod yX10_swings ∈ gT := gT_in (List.mem_of_getElem? (i := 613) (by decide +kernel)) rfl
theorem w_614 : Cond.selects RX10 yX10_swings yX10_swings ∈ gT := gT_in (List.mem_of_getElem? (i := 614) (by decide +kernel)) rfl
theorem w_615 : Cond.code yX10_swings cX10_swings 2 (some .int) ∈ gT := gT_in (List.mem_of_getElem? (i := 615) (by decide +kernel)) rfl
theorem w_616 : Cond.methodLink RX10 110 yX10_needBytes ∈ gT := gT_in (List.mem_of_getElem? (i := 616) (by decide +kernel)) rfl
theorem w_618 : Cond.instanceMethod yX10_needBytes ∈ gT := gT_in (List.mem_of_getElem? (i := 618) (by decide +kernel)) rfl
theorem w_619 : Cond.code yX10_needBytes cX10_needBytes 2 none ∈ gT := gT_in (List.mem_of_getElem? (i := 619) (by decide +kernel)) rfl
theorem w_620 : Cond.classLink RX10 372 "java/lang/IllegalArgumentException" ∈ gT := gT_in (List.mem_of_getElem? (i := 620) (by decide +kernel)) rfl
theorem w_621 : Cond.instantiable "java/lang/IllegalArgumentException" 6 ∈ gT := gT_in (List.mem_of_getElem? (i := 621) (by decide +kernel)) rfl
theorem w_629 : Cond.selects "java/lang/IllegalArgumentException" ⟨"java/lang/Throwable", "fillInStackTrace", "(I)Ljava/lang/Throwable;"⟩ ⟨"java/lang/Throwable", "fillInStackTrace", "(I)Ljava/lang/Throwable;"⟩ ∈ gT := gT_in (List.mem_of_getElem? (i := 629) (by decide +kernel)) rfl
theorem w_630 : Cond.selects "java/lang/IllegalArgumentException" ⟨"java/lang/Throwable", "fillInStackTrace", "()Ljava/lang/Throwable;"⟩ ⟨"java/lang/Throwable", "fillInStackTrace", "()Ljava/lang/Throwable;"⟩ ∈ gT := gT_in (List.mem_of_getElem? (i := 630) (by decide +kernel)) rfl
theorem w_673 : Cond.fieldLink "java/lang/Throwable" 198 "java/lang/Throwable" "backtrace" "Ljava/lang/Object;" ∈ gT := gT_in (List.mem_of_getElem? (i := 673) (by decide +kernel)) rfl
theorem w_643 : Cond.instanceMethod ⟨"java/lang/Throwable", "<init>", "()V"⟩ ∈ gT := gT_in (List.mem_of_getElem? (i := 643) (by decide +kernel)) rfl
theorem w_644 : Cond.code ⟨"java/lang/Throwable", "<init>", "()V"⟩ prog_25_method_1_code 1 none ∈ gT := gT_in (List.mem_of_getElem? (i := 644) (by decide +kernel)) rfl
theorem w_645 : Cond.methodLink "java/lang/Throwable" 1 ⟨"java/lang/Object", "<init>", "()V"⟩ ∈ gT := gT_in (List.mem_of_getElem? (i := 645) (by decide +kernel)) rfl
theorem w_646 : Cond.fieldLink "java/lang/Throwable" 13 "java/lang/Throwable" "UNASSIGNED_STACK" "[Ljava/lang/StackTraceElement;" ∈ gT := gT_in (List.mem_of_getElem? (i := 646) (by decide +kernel)) rfl
theorem w_648 : Cond.fieldLink "java/lang/Throwable" 20 "java/lang/Throwable" "SUPPRESSED_SENTINEL" "Ljava/util/List;" ∈ gT := gT_in (List.mem_of_getElem? (i := 648) (by decide +kernel)) rfl
theorem w_650 : Cond.methodLink "java/lang/Throwable" 27 ⟨"java/lang/Throwable", "fillInStackTrace", "()Ljava/lang/Throwable;"⟩ ∈ gT := gT_in (List.mem_of_getElem? (i := 650) (by decide +kernel)) rfl
theorem w_651 : Cond.instanceMethod ⟨"java/lang/Throwable", "fillInStackTrace", "()Ljava/lang/Throwable;"⟩ ∈ gT := gT_in (List.mem_of_getElem? (i := 651) (by decide +kernel)) rfl
theorem w_653 : Cond.selects "java/util/NoSuchElementException" ⟨"java/lang/Throwable", "fillInStackTrace", "()Ljava/lang/Throwable;"⟩ ⟨"java/lang/Throwable", "fillInStackTrace", "()Ljava/lang/Throwable;"⟩ ∈ gT := gT_in (List.mem_of_getElem? (i := 653) (by decide +kernel)) rfl
theorem w_655 : Cond.methodLink "java/lang/Throwable" 202 ⟨"java/lang/Throwable", "fillInStackTrace", "(I)Ljava/lang/Throwable;"⟩ ∈ gT := gT_in (List.mem_of_getElem? (i := 655) (by decide +kernel)) rfl
theorem w_657 : Cond.instanceMethod ⟨"java/lang/Throwable", "fillInStackTrace", "(I)Ljava/lang/Throwable;"⟩ ∈ gT := gT_in (List.mem_of_getElem? (i := 657) (by decide +kernel)) rfl
theorem w_658 : Cond.instantiable "java/lang/Throwable" 6 ∈ gT := gT_in (List.mem_of_getElem? (i := 658) (by decide +kernel)) rfl
theorem w_659 : Cond.native ⟨"java/lang/Throwable", "fillInStackTrace", "(I)Ljava/lang/Throwable;"⟩ ∈ gT := gT_in (List.mem_of_getElem? (i := 659) (by decide +kernel)) rfl
theorem w_661 : Cond.methodLink RX10 376 ⟨"java/lang/IllegalArgumentException", "<init>", "(Ljava/lang/String;)V"⟩ ∈ gT := gT_in (List.mem_of_getElem? (i := 661) (by decide +kernel)) rfl
theorem w_662 : Cond.instanceMethod ⟨"java/lang/IllegalArgumentException", "<init>", "(Ljava/lang/String;)V"⟩ ∈ gT := gT_in (List.mem_of_getElem? (i := 662) (by decide +kernel)) rfl
theorem w_663 : Cond.code ⟨"java/lang/IllegalArgumentException", "<init>", "(Ljava/lang/String;)V"⟩ prog_18_method_2_code 2 none ∈ gT := gT_in (List.mem_of_getElem? (i := 663) (by decide +kernel)) rfl
theorem w_664 : Cond.methodLink "java/lang/IllegalArgumentException" 7 ⟨"java/lang/RuntimeException", "<init>", "(Ljava/lang/String;)V"⟩ ∈ gT := gT_in (List.mem_of_getElem? (i := 664) (by decide +kernel)) rfl
theorem w_665 : Cond.instanceMethod ⟨"java/lang/RuntimeException", "<init>", "(Ljava/lang/String;)V"⟩ ∈ gT := gT_in (List.mem_of_getElem? (i := 665) (by decide +kernel)) rfl
theorem w_666 : Cond.code ⟨"java/lang/RuntimeException", "<init>", "(Ljava/lang/String;)V"⟩ prog_20_method_2_code 2 none ∈ gT := gT_in (List.mem_of_getElem? (i := 666) (by decide +kernel)) rfl
theorem w_667 : Cond.methodLink "java/lang/RuntimeException" 7 ⟨"java/lang/Exception", "<init>", "(Ljava/lang/String;)V"⟩ ∈ gT := gT_in (List.mem_of_getElem? (i := 667) (by decide +kernel)) rfl
theorem w_668 : Cond.instanceMethod ⟨"java/lang/Exception", "<init>", "(Ljava/lang/String;)V"⟩ ∈ gT := gT_in (List.mem_of_getElem? (i := 668) (by decide +kernel)) rfl
theorem w_669 : Cond.code ⟨"java/lang/Exception", "<init>", "(Ljava/lang/String;)V"⟩ prog_17_method_2_code 2 none ∈ gT := gT_in (List.mem_of_getElem? (i := 669) (by decide +kernel)) rfl
theorem w_670 : Cond.methodLink "java/lang/Exception" 7 ⟨"java/lang/Throwable", "<init>", "(Ljava/lang/String;)V"⟩ ∈ gT := gT_in (List.mem_of_getElem? (i := 670) (by decide +kernel)) rfl
theorem w_671 : Cond.instanceMethod ⟨"java/lang/Throwable", "<init>", "(Ljava/lang/String;)V"⟩ ∈ gT := gT_in (List.mem_of_getElem? (i := 671) (by decide +kernel)) rfl
theorem w_672 : Cond.code ⟨"java/lang/Throwable", "<init>", "(Ljava/lang/String;)V"⟩ prog_25_method_2_code 2 none ∈ gT := gT_in (List.mem_of_getElem? (i := 672) (by decide +kernel)) rfl
theorem w_674 : Cond.fieldLink "java/lang/Throwable" 31 "java/lang/Throwable" "detailMessage" "Ljava/lang/String;" ∈ gT := gT_in (List.mem_of_getElem? (i := 674) (by decide +kernel)) rfl
theorem w_675 : Cond.fieldLink "java/lang/Throwable" 7 "java/lang/Throwable" "cause" "Ljava/lang/Throwable;" ∈ gT := gT_in (List.mem_of_getElem? (i := 675) (by decide +kernel)) rfl
theorem w_676 : Cond.fieldLink "java/lang/Throwable" 17 "java/lang/Throwable" "stackTrace" "[Ljava/lang/StackTraceElement;" ∈ gT := gT_in (List.mem_of_getElem? (i := 676) (by decide +kernel)) rfl
theorem w_677 : Cond.fieldLink "java/lang/Throwable" 24 "java/lang/Throwable" "suppressedExceptions" "Ljava/util/List;" ∈ gT := gT_in (List.mem_of_getElem? (i := 677) (by decide +kernel)) rfl
theorem w_686 : Cond.methodLink RX10 113 yX9_begin ∈ gT := gT_in (List.mem_of_getElem? (i := 686) (by decide +kernel)) rfl
theorem w_687 : Cond.instanceMethod yX9_begin ∈ gT := gT_in (List.mem_of_getElem? (i := 687) (by decide +kernel)) rfl
theorem w_688 : Cond.selects RX9 yX9_begin yX9_begin ∈ gT := gT_in (List.mem_of_getElem? (i := 688) (by decide +kernel)) rfl
theorem w_689 : Cond.code yX9_begin cX9_begin 2 none ∈ gT := gT_in (List.mem_of_getElem? (i := 689) (by decide +kernel)) rfl
theorem w_690 : Cond.methodLink RX9 22 yJ9_min_7cf53 ∈ gT := gT_in (List.mem_of_getElem? (i := 690) (by decide +kernel)) rfl
theorem w_691 : Cond.static yJ9_min_7cf53 ∈ gT := gT_in (List.mem_of_getElem? (i := 691) (by decide +kernel)) rfl
theorem w_692 : Cond.code yJ9_min_7cf53 cJ9_min_7cf53 2 (some .int) ∈ gT := gT_in (List.mem_of_getElem? (i := 692) (by decide +kernel)) rfl
theorem w_693 : Cond.methodLink RX9 28 yJ9_max_7cf53 ∈ gT := gT_in (List.mem_of_getElem? (i := 693) (by decide +kernel)) rfl
theorem w_694 : Cond.static yJ9_max_7cf53 ∈ gT := gT_in (List.mem_of_getElem? (i := 694) (by decide +kernel)) rfl
theorem w_695 : Cond.code yJ9_max_7cf53 cJ9_max_7cf53 2 (some .int) ∈ gT := gT_in (List.mem_of_getElem? (i := 695) (by decide +kernel)) rfl
theorem w_696 : Cond.methodLink RX9 40 yX9_advance ∈ gT := gT_in (List.mem_of_getElem? (i := 696) (by decide +kernel)) rfl
theorem w_697 : Cond.instanceMethod yX9_advance ∈ gT := gT_in (List.mem_of_getElem? (i := 697) (by decide +kernel)) rfl
theorem w_698 : Cond.selects RX9 yX9_advance yX9_advance ∈ gT := gT_in (List.mem_of_getElem? (i := 698) (by decide +kernel)) rfl
theorem w_699 : Cond.code yX9_advance cX9_advance 2 none ∈ gT := gT_in (List.mem_of_getElem? (i := 699) (by decide +kernel)) rfl
theorem w_700 : Cond.methodLink RX9 43 yX9_isBlank ∈ gT := gT_in (List.mem_of_getElem? (i := 700) (by decide +kernel)) rfl
theorem w_701 : Cond.static yX9_isBlank ∈ gT := gT_in (List.mem_of_getElem? (i := 701) (by decide +kernel)) rfl
theorem w_702 : Cond.code yX9_isBlank cX9_isBlank 1 (some .boolean) ∈ gT := gT_in (List.mem_of_getElem? (i := 702) (by decide +kernel)) rfl
theorem w_703 : Cond.methodLink RX9 53 yX9_isLetter ∈ gT := gT_in (List.mem_of_getElem? (i := 703) (by decide +kernel)) rfl
theorem w_704 : Cond.static yX9_isLetter ∈ gT := gT_in (List.mem_of_getElem? (i := 704) (by decide +kernel)) rfl
theorem w_705 : Cond.code yX9_isLetter cX9_isLetter 1 (some .boolean) ∈ gT := gT_in (List.mem_of_getElem? (i := 705) (by decide +kernel)) rfl
theorem w_706 : Cond.methodLink RX9 56 yX9_isDigit ∈ gT := gT_in (List.mem_of_getElem? (i := 706) (by decide +kernel)) rfl
theorem w_707 : Cond.static yX9_isDigit ∈ gT := gT_in (List.mem_of_getElem? (i := 707) (by decide +kernel)) rfl
theorem w_708 : Cond.code yX9_isDigit cX9_isDigit 1 (some .boolean) ∈ gT := gT_in (List.mem_of_getElem? (i := 708) (by decide +kernel)) rfl
theorem w_709 : Cond.methodLink RX10 116 yX8_read ∈ gT := gT_in (List.mem_of_getElem? (i := 709) (by decide +kernel)) rfl
theorem w_710 : Cond.static yX8_read ∈ gT := gT_in (List.mem_of_getElem? (i := 710) (by decide +kernel)) rfl
theorem w_711 : Cond.code yX8_read cX8_read 4 (some .boolean) ∈ gT := gT_in (List.mem_of_getElem? (i := 711) (by decide +kernel)) rfl
theorem w_712 : Cond.methodLink RX8 9 yX2_clear ∈ gT := gT_in (List.mem_of_getElem? (i := 712) (by decide +kernel)) rfl
theorem w_713 : Cond.instanceMethod yX2_clear ∈ gT := gT_in (List.mem_of_getElem? (i := 713) (by decide +kernel)) rfl
theorem w_714 : Cond.selects RX2 yX2_clear yX2_clear ∈ gT := gT_in (List.mem_of_getElem? (i := 714) (by decide +kernel)) rfl
theorem w_715 : Cond.code yX2_clear cX2_clear 1 none ∈ gT := gT_in (List.mem_of_getElem? (i := 715) (by decide +kernel)) rfl
theorem w_716 : Cond.methodLink RX8 16 yX9_isEnd ∈ gT := gT_in (List.mem_of_getElem? (i := 716) (by decide +kernel)) rfl
theorem w_717 : Cond.instanceMethod yX9_isEnd ∈ gT := gT_in (List.mem_of_getElem? (i := 717) (by decide +kernel)) rfl
theorem w_718 : Cond.selects RX9 yX9_isEnd yX9_isEnd ∈ gT := gT_in (List.mem_of_getElem? (i := 718) (by decide +kernel)) rfl
theorem w_719 : Cond.code yX9_isEnd cX9_isEnd 1 (some .boolean) ∈ gT := gT_in (List.mem_of_getElem? (i := 719) (by decide +kernel)) rfl
theorem w_721 : Cond.methodLink RX8 22 yX9_isWord ∈ gT := gT_in (List.mem_of_getElem? (i := 721) (by decide +kernel)) rfl
theorem w_722 : Cond.instanceMethod yX9_isWord ∈ gT := gT_in (List.mem_of_getElem? (i := 722) (by decide +kernel)) rfl
theorem w_723 : Cond.selects RX9 yX9_isWord yX9_isWord ∈ gT := gT_in (List.mem_of_getElem? (i := 723) (by decide +kernel)) rfl
theorem w_724 : Cond.code yX9_isWord cX9_isWord 3 (some .boolean) ∈ gT := gT_in (List.mem_of_getElem? (i := 724) (by decide +kernel)) rfl
theorem w_725 : Cond.methodLink RX9 62 yJ0_length_8abf5 ∈ gT := gT_in (List.mem_of_getElem? (i := 725) (by decide +kernel)) rfl
theorem w_726 : Cond.instanceMethod yJ0_length_8abf5 ∈ gT := gT_in (List.mem_of_getElem? (i := 726) (by decide +kernel)) rfl
theorem w_727 : Cond.selects RJ0 yJ0_length_8abf5 yJ0_length_8abf5 ∈ gT := gT_in (List.mem_of_getElem? (i := 727) (by decide +kernel)) rfl
theorem w_728 : Cond.code yJ0_length_8abf5 cJ0_length_8abf5 1 (some .int) ∈ gT := gT_in (List.mem_of_getElem? (i := 728) (by decide +kernel)) rfl
theorem w_729 : Cond.methodLink RJ0 335 yJ0_coder_7d493 ∈ gT := gT_in (List.mem_of_getElem? (i := 729) (by decide +kernel)) rfl
theorem w_730 : Cond.instanceMethod yJ0_coder_7d493 ∈ gT := gT_in (List.mem_of_getElem? (i := 730) (by decide +kernel)) rfl
theorem w_731 : Cond.selects RJ0 yJ0_coder_7d493 yJ0_coder_7d493 ∈ gT := gT_in (List.mem_of_getElem? (i := 731) (by decide +kernel)) rfl
theorem w_732 : Cond.code yJ0_coder_7d493 cJ0_coder_7d493 1 (some .byte) ∈ gT := gT_in (List.mem_of_getElem? (i := 732) (by decide +kernel)) rfl
theorem w_733 : Cond.fieldLink RJ0 38 "java/lang/String" "COMPACT_STRINGS" "Z" ∈ gT := gT_in (List.mem_of_getElem? (i := 733) (by decide +kernel)) rfl
theorem w_735 : Cond.methodLink RX9 67 yJ0_charAt_5068e ∈ gT := gT_in (List.mem_of_getElem? (i := 735) (by decide +kernel)) rfl
theorem w_736 : Cond.instanceMethod yJ0_charAt_5068e ∈ gT := gT_in (List.mem_of_getElem? (i := 736) (by decide +kernel)) rfl
theorem w_737 : Cond.selects RJ0 yJ0_charAt_5068e yJ0_charAt_5068e ∈ gT := gT_in (List.mem_of_getElem? (i := 737) (by decide +kernel)) rfl
theorem w_738 : Cond.code yJ0_charAt_5068e cJ0_charAt_5068e 2 (some .char) ∈ gT := gT_in (List.mem_of_getElem? (i := 738) (by decide +kernel)) rfl
theorem w_739 : Cond.methodLink RJ0 492 yJ0_isLatin1_aae02 ∈ gT := gT_in (List.mem_of_getElem? (i := 739) (by decide +kernel)) rfl
theorem w_740 : Cond.instanceMethod yJ0_isLatin1_aae02 ∈ gT := gT_in (List.mem_of_getElem? (i := 740) (by decide +kernel)) rfl
theorem w_741 : Cond.selects RJ0 yJ0_isLatin1_aae02 yJ0_isLatin1_aae02 ∈ gT := gT_in (List.mem_of_getElem? (i := 741) (by decide +kernel)) rfl
theorem w_742 : Cond.code yJ0_isLatin1_aae02 cJ0_isLatin1_aae02 1 (some .boolean) ∈ gT := gT_in (List.mem_of_getElem? (i := 742) (by decide +kernel)) rfl
theorem w_743 : Cond.methodLink RJ0 495 yJ1_charAt_3b067 ∈ gT := gT_in (List.mem_of_getElem? (i := 743) (by decide +kernel)) rfl
theorem w_744 : Cond.static yJ1_charAt_3b067 ∈ gT := gT_in (List.mem_of_getElem? (i := 744) (by decide +kernel)) rfl
theorem w_745 : Cond.code yJ1_charAt_3b067 cJ1_charAt_3b067 2 (some .char) ∈ gT := gT_in (List.mem_of_getElem? (i := 745) (by decide +kernel)) rfl
theorem w_746 : Cond.methodLink RJ1 9 yJ0_checkIndex_df160 ∈ gT := gT_in (List.mem_of_getElem? (i := 746) (by decide +kernel)) rfl
theorem w_747 : Cond.static yJ0_checkIndex_df160 ∈ gT := gT_in (List.mem_of_getElem? (i := 747) (by decide +kernel)) rfl
theorem w_748 : Cond.code yJ0_checkIndex_df160 cJ0_checkIndex_df160 2 none ∈ gT := gT_in (List.mem_of_getElem? (i := 748) (by decide +kernel)) rfl
theorem w_749 : Cond.fieldLink RJ0 1053 "jdk/internal/util/Preconditions" "SIOOBE_FORMATTER" "Ljava/util/function/BiFunction;" ∈ gT := gT_in (List.mem_of_getElem? (i := 749) (by decide +kernel)) rfl
theorem w_751 : Cond.methodLink RJ0 1059 yJ3_checkIndex_8e157 ∈ gT := gT_in (List.mem_of_getElem? (i := 751) (by decide +kernel)) rfl
theorem w_752 : Cond.static yJ3_checkIndex_8e157 ∈ gT := gT_in (List.mem_of_getElem? (i := 752) (by decide +kernel)) rfl
theorem w_753 : Cond.code yJ3_checkIndex_8e157 cJ3_checkIndex_8e157 3 (some .int) ∈ gT := gT_in (List.mem_of_getElem? (i := 753) (by decide +kernel)) rfl
theorem w_754 : Cond.methodLink RJ0 498 yJ2_charAt_3b067 ∈ gT := gT_in (List.mem_of_getElem? (i := 754) (by decide +kernel)) rfl
theorem w_755 : Cond.static yJ2_charAt_3b067 ∈ gT := gT_in (List.mem_of_getElem? (i := 755) (by decide +kernel)) rfl
theorem w_756 : Cond.code yJ2_charAt_3b067 cJ2_charAt_3b067 2 (some .char) ∈ gT := gT_in (List.mem_of_getElem? (i := 756) (by decide +kernel)) rfl
theorem w_757 : Cond.methodLink RJ2 67 yJ2_checkIndex_2214a ∈ gT := gT_in (List.mem_of_getElem? (i := 757) (by decide +kernel)) rfl
theorem w_758 : Cond.static yJ2_checkIndex_2214a ∈ gT := gT_in (List.mem_of_getElem? (i := 758) (by decide +kernel)) rfl
theorem w_759 : Cond.code yJ2_checkIndex_2214a cJ2_checkIndex_2214a 2 none ∈ gT := gT_in (List.mem_of_getElem? (i := 759) (by decide +kernel)) rfl
theorem w_760 : Cond.methodLink RJ2 48 yJ2_length_9d52b ∈ gT := gT_in (List.mem_of_getElem? (i := 760) (by decide +kernel)) rfl
theorem w_761 : Cond.static yJ2_length_9d52b ∈ gT := gT_in (List.mem_of_getElem? (i := 761) (by decide +kernel)) rfl
theorem w_762 : Cond.code yJ2_length_9d52b cJ2_length_9d52b 1 (some .int) ∈ gT := gT_in (List.mem_of_getElem? (i := 762) (by decide +kernel)) rfl
theorem w_763 : Cond.methodLink RJ2 414 yJ0_checkIndex_df160 ∈ gT := gT_in (List.mem_of_getElem? (i := 763) (by decide +kernel)) rfl
theorem w_764 : Cond.methodLink RJ2 71 yJ2_getChar_3b067 ∈ gT := gT_in (List.mem_of_getElem? (i := 764) (by decide +kernel)) rfl
theorem w_765 : Cond.static yJ2_getChar_3b067 ∈ gT := gT_in (List.mem_of_getElem? (i := 765) (by decide +kernel)) rfl
theorem w_766 : Cond.code yJ2_getChar_3b067 cJ2_getChar_3b067 2 (some .char) ∈ gT := gT_in (List.mem_of_getElem? (i := 766) (by decide +kernel)) rfl
theorem w_767 : Cond.fieldLink RJ2 44 "java/lang/StringUTF16" "$assertionsDisabled" "Z" ∈ gT := gT_in (List.mem_of_getElem? (i := 767) (by decide +kernel)) rfl
theorem w_769 : Cond.fieldLink RJ2 59 "java/lang/StringUTF16" "HI_BYTE_SHIFT" "I" ∈ gT := gT_in (List.mem_of_getElem? (i := 769) (by decide +kernel)) rfl
theorem w_771 : Cond.fieldLink RJ2 63 "java/lang/StringUTF16" "LO_BYTE_SHIFT" "I" ∈ gT := gT_in (List.mem_of_getElem? (i := 771) (by decide +kernel)) rfl
theorem w_773 : Cond.methodLink RX8 26 yX9_refuse ∈ gT := gT_in (List.mem_of_getElem? (i := 773) (by decide +kernel)) rfl
theorem w_774 : Cond.instanceMethod yX9_refuse ∈ gT := gT_in (List.mem_of_getElem? (i := 774) (by decide +kernel)) rfl
theorem w_775 : Cond.selects RX9 yX9_refuse yX9_refuse ∈ gT := gT_in (List.mem_of_getElem? (i := 775) (by decide +kernel)) rfl
theorem w_776 : Cond.code yX9_refuse cX9_refuse 2 (some .boolean) ∈ gT := gT_in (List.mem_of_getElem? (i := 776) (by decide +kernel)) rfl
theorem w_777 : Cond.methodLink RX8 30 yX8_readLine ∈ gT := gT_in (List.mem_of_getElem? (i := 777) (by decide +kernel)) rfl
theorem w_778 : Cond.static yX8_readLine ∈ gT := gT_in (List.mem_of_getElem? (i := 778) (by decide +kernel)) rfl
theorem w_779 : Cond.code yX8_readLine cX8_readLine 2 (some .boolean) ∈ gT := gT_in (List.mem_of_getElem? (i := 779) (by decide +kernel)) rfl
theorem w_781 : Cond.methodLink RX8 42 yX8_readPendulum ∈ gT := gT_in (List.mem_of_getElem? (i := 781) (by decide +kernel)) rfl
theorem w_782 : Cond.static yX8_readPendulum ∈ gT := gT_in (List.mem_of_getElem? (i := 782) (by decide +kernel)) rfl
theorem w_783 : Cond.code yX8_readPendulum cX8_readPendulum 4 (some .boolean) ∈ gT := gT_in (List.mem_of_getElem? (i := 783) (by decide +kernel)) rfl
theorem w_784 : Cond.methodLink RX8 57 yX9_advance ∈ gT := gT_in (List.mem_of_getElem? (i := 784) (by decide +kernel)) rfl
theorem w_785 : Cond.methodLink RX8 60 yX8_kindTold ∈ gT := gT_in (List.mem_of_getElem? (i := 785) (by decide +kernel)) rfl
theorem w_786 : Cond.static yX8_kindTold ∈ gT := gT_in (List.mem_of_getElem? (i := 786) (by decide +kernel)) rfl
theorem w_787 : Cond.code yX8_kindTold cX8_kindTold 1 (some .int) ∈ gT := gT_in (List.mem_of_getElem? (i := 787) (by decide +kernel)) rfl
theorem w_791 : Cond.methodLink RX8 71 yX8_readInto ∈ gT := gT_in (List.mem_of_getElem? (i := 791) (by decide +kernel)) rfl
theorem w_792 : Cond.static yX8_readInto ∈ gT := gT_in (List.mem_of_getElem? (i := 792) (by decide +kernel)) rfl
theorem w_793 : Cond.code yX8_readInto cX8_readInto 5 (some .boolean) ∈ gT := gT_in (List.mem_of_getElem? (i := 793) (by decide +kernel)) rfl
theorem w_794 : Cond.methodLink RX8 91 yX9_takeNumber ∈ gT := gT_in (List.mem_of_getElem? (i := 794) (by decide +kernel)) rfl
theorem w_795 : Cond.instanceMethod yX9_takeNumber ∈ gT := gT_in (List.mem_of_getElem? (i := 795) (by decide +kernel)) rfl
theorem w_796 : Cond.selects RX9 yX9_takeNumber yX9_takeNumber ∈ gT := gT_in (List.mem_of_getElem? (i := 796) (by decide +kernel)) rfl
theorem w_797 : Cond.code yX9_takeNumber cX9_takeNumber 3 (some .boolean) ∈ gT := gT_in (List.mem_of_getElem? (i := 797) (by decide +kernel)) rfl
theorem w_798 : Cond.methodLink RX9 75 yX9_refuse ∈ gT := gT_in (List.mem_of_getElem? (i := 798) (by decide +kernel)) rfl
theorem w_799 : Cond.methodLink RX8 81 yX8_countPendulum ∈ gT := gT_in (List.mem_of_getElem? (i := 799) (by decide +kernel)) rfl
theorem w_800 : Cond.static yX8_countPendulum ∈ gT := gT_in (List.mem_of_getElem? (i := 800) (by decide +kernel)) rfl
theorem w_801 : Cond.code yX8_countPendulum cX8_countPendulum 1 (some .boolean) ∈ gT := gT_in (List.mem_of_getElem? (i := 801) (by decide +kernel)) rfl
theorem w_803 : Cond.methodLink RX8 47 yX8_readCart ∈ gT := gT_in (List.mem_of_getElem? (i := 803) (by decide +kernel)) rfl
theorem w_804 : Cond.static yX8_readCart ∈ gT := gT_in (List.mem_of_getElem? (i := 804) (by decide +kernel)) rfl
theorem w_805 : Cond.code yX8_readCart cX8_readCart 4 (some .boolean) ∈ gT := gT_in (List.mem_of_getElem? (i := 805) (by decide +kernel)) rfl
theorem w_806 : Cond.methodLink RX8 104 yX9_takeSigned ∈ gT := gT_in (List.mem_of_getElem? (i := 806) (by decide +kernel)) rfl
theorem w_807 : Cond.instanceMethod yX9_takeSigned ∈ gT := gT_in (List.mem_of_getElem? (i := 807) (by decide +kernel)) rfl
theorem w_808 : Cond.selects RX9 yX9_takeSigned yX9_takeSigned ∈ gT := gT_in (List.mem_of_getElem? (i := 808) (by decide +kernel)) rfl
theorem w_809 : Cond.code yX9_takeSigned cX9_takeSigned 3 (some .boolean) ∈ gT := gT_in (List.mem_of_getElem? (i := 809) (by decide +kernel)) rfl
theorem w_810 : Cond.methodLink RX9 71 yX9_isSign ∈ gT := gT_in (List.mem_of_getElem? (i := 810) (by decide +kernel)) rfl
theorem w_811 : Cond.instanceMethod yX9_isSign ∈ gT := gT_in (List.mem_of_getElem? (i := 811) (by decide +kernel)) rfl
theorem w_812 : Cond.selects RX9 yX9_isSign yX9_isSign ∈ gT := gT_in (List.mem_of_getElem? (i := 812) (by decide +kernel)) rfl
theorem w_813 : Cond.code yX9_isSign cX9_isSign 2 (some .boolean) ∈ gT := gT_in (List.mem_of_getElem? (i := 813) (by decide +kernel)) rfl
theorem w_814 : Cond.methodLink RX9 81 yX9_takeNumber ∈ gT := gT_in (List.mem_of_getElem? (i := 814) (by decide +kernel)) rfl
theorem w_815 : Cond.methodLink RX8 50 yX8_readPennies ∈ gT := gT_in (List.mem_of_getElem? (i := 815) (by decide +kernel)) rfl
theorem w_816 : Cond.static yX8_readPennies ∈ gT := gT_in (List.mem_of_getElem? (i := 816) (by decide +kernel)) rfl
theorem w_817 : Cond.code yX8_readPennies cX8_readPennies 3 (some .boolean) ∈ gT := gT_in (List.mem_of_getElem? (i := 817) (by decide +kernel)) rfl
theorem w_818 : Cond.methodLink RX8 36 yX9_takeSign ∈ gT := gT_in (List.mem_of_getElem? (i := 818) (by decide +kernel)) rfl
theorem w_819 : Cond.instanceMethod yX9_takeSign ∈ gT := gT_in (List.mem_of_getElem? (i := 819) (by decide +kernel)) rfl
theorem w_820 : Cond.selects RX9 yX9_takeSign yX9_takeSign ∈ gT := gT_in (List.mem_of_getElem? (i := 820) (by decide +kernel)) rfl
theorem w_821 : Cond.code yX9_takeSign cX9_takeSign 2 (some .boolean) ∈ gT := gT_in (List.mem_of_getElem? (i := 821) (by decide +kernel)) rfl
theorem w_822 : Cond.methodLink RX10 122 yX2_copy ∈ gT := gT_in (List.mem_of_getElem? (i := 822) (by decide +kernel)) rfl
theorem w_823 : Cond.instanceMethod yX2_copy ∈ gT := gT_in (List.mem_of_getElem? (i := 823) (by decide +kernel)) rfl
theorem w_824 : Cond.selects RX2 yX2_copy yX2_copy ∈ gT := gT_in (List.mem_of_getElem? (i := 824) (by decide +kernel)) rfl
theorem w_825 : Cond.code yX2_copy cX2_copy 2 none ∈ gT := gT_in (List.mem_of_getElem? (i := 825) (by decide +kernel)) rfl
theorem w_826 : Cond.methodLink RX2 52 ⟨"java/lang/System", "arraycopy", "(Ljava/lang/Object;ILjava/lang/Object;II)V"⟩ ∈ gT := gT_in (List.mem_of_getElem? (i := 826) (by decide +kernel)) rfl
theorem w_827 : Cond.methodLink RX10 126 yX3_clear ∈ gT := gT_in (List.mem_of_getElem? (i := 827) (by decide +kernel)) rfl
theorem w_828 : Cond.instanceMethod yX3_clear ∈ gT := gT_in (List.mem_of_getElem? (i := 828) (by decide +kernel)) rfl
theorem w_829 : Cond.selects RX3 yX3_clear yX3_clear ∈ gT := gT_in (List.mem_of_getElem? (i := 829) (by decide +kernel)) rfl
theorem w_830 : Cond.code yX3_clear cX3_clear 1 none ∈ gT := gT_in (List.mem_of_getElem? (i := 830) (by decide +kernel)) rfl
theorem w_831 : Cond.methodLink RX10 132 yX0_clear ∈ gT := gT_in (List.mem_of_getElem? (i := 831) (by decide +kernel)) rfl
theorem w_832 : Cond.instanceMethod yX0_clear ∈ gT := gT_in (List.mem_of_getElem? (i := 832) (by decide +kernel)) rfl
theorem w_833 : Cond.selects RX0 yX0_clear yX0_clear ∈ gT := gT_in (List.mem_of_getElem? (i := 833) (by decide +kernel)) rfl
theorem w_834 : Cond.code yX0_clear cX0_clear 1 none ∈ gT := gT_in (List.mem_of_getElem? (i := 834) (by decide +kernel)) rfl
theorem w_835 : Cond.methodLink RX10 133 yX10_endOfText ∈ gT := gT_in (List.mem_of_getElem? (i := 835) (by decide +kernel)) rfl
theorem w_837 : Cond.instanceMethod yX10_endOfText ∈ gT := gT_in (List.mem_of_getElem? (i := 837) (by decide +kernel)) rfl
theorem w_838 : Cond.code yX10_endOfText cX10_endOfText 1 (some .int) ∈ gT := gT_in (List.mem_of_getElem? (i := 838) (by decide +kernel)) rfl
theorem w_839 : Cond.methodLink RL 99 yL_score ∈ gT := gT_in (List.mem_of_getElem? (i := 839) (by decide +kernel)) rfl
theorem w_840 : Cond.static yL_score ∈ gT := gT_in (List.mem_of_getElem? (i := 840) (by decide +kernel)) rfl
theorem w_842 : Cond.methodLink RL 15 yX10_score ∈ gT := gT_in (List.mem_of_getElem? (i := 842) (by decide +kernel)) rfl
theorem w_843 : Cond.instanceMethod yX10_score ∈ gT := gT_in (List.mem_of_getElem? (i := 843) (by decide +kernel)) rfl
theorem w_844 : Cond.selects RX10 yX10_score yX10_score ∈ gT := gT_in (List.mem_of_getElem? (i := 844) (by decide +kernel)) rfl
theorem w_845 : Cond.code yX10_score cX10_score 3 (some .int) ∈ gT := gT_in (List.mem_of_getElem? (i := 845) (by decide +kernel)) rfl
theorem w_846 : Cond.methodLink RX10 137 yX7_read ∈ gT := gT_in (List.mem_of_getElem? (i := 846) (by decide +kernel)) rfl
theorem w_847 : Cond.instanceMethod yX7_read ∈ gT := gT_in (List.mem_of_getElem? (i := 847) (by decide +kernel)) rfl
theorem w_848 : Cond.selects RX7 yX7_read yX7_read ∈ gT := gT_in (List.mem_of_getElem? (i := 848) (by decide +kernel)) rfl
theorem w_849 : Cond.code yX7_read cX7_read 4 (some .boolean) ∈ gT := gT_in (List.mem_of_getElem? (i := 849) (by decide +kernel)) rfl
theorem w_850 : Cond.methodLink RX7 36 yX9_isEnd ∈ gT := gT_in (List.mem_of_getElem? (i := 850) (by decide +kernel)) rfl
theorem w_851 : Cond.methodLink RX7 40 yX9_isSign ∈ gT := gT_in (List.mem_of_getElem? (i := 851) (by decide +kernel)) rfl
theorem w_852 : Cond.methodLink RX7 44 yX7_closeBlock ∈ gT := gT_in (List.mem_of_getElem? (i := 852) (by decide +kernel)) rfl
theorem w_854 : Cond.instanceMethod yX7_closeBlock ∈ gT := gT_in (List.mem_of_getElem? (i := 854) (by decide +kernel)) rfl
theorem w_855 : Cond.code yX7_closeBlock cX7_closeBlock 5 (some .boolean) ∈ gT := gT_in (List.mem_of_getElem? (i := 855) (by decide +kernel)) rfl
theorem w_856 : Cond.methodLink RX7 62 yX9_advance ∈ gT := gT_in (List.mem_of_getElem? (i := 856) (by decide +kernel)) rfl
theorem w_858 : Cond.methodLink RX7 81 yX9_isWord ∈ gT := gT_in (List.mem_of_getElem? (i := 858) (by decide +kernel)) rfl
theorem w_859 : Cond.methodLink RX7 59 yX7_addStep ∈ gT := gT_in (List.mem_of_getElem? (i := 859) (by decide +kernel)) rfl
theorem w_861 : Cond.instanceMethod yX7_addStep ∈ gT := gT_in (List.mem_of_getElem? (i := 861) (by decide +kernel)) rfl
theorem w_862 : Cond.code yX7_addStep cX7_addStep 2 (some .boolean) ∈ gT := gT_in (List.mem_of_getElem? (i := 862) (by decide +kernel)) rfl
theorem w_863 : Cond.methodLink RX7 51 yX9_refuse ∈ gT := gT_in (List.mem_of_getElem? (i := 863) (by decide +kernel)) rfl
theorem w_864 : Cond.methodLink RX7 73 yX7_openBlock ∈ gT := gT_in (List.mem_of_getElem? (i := 864) (by decide +kernel)) rfl
theorem w_866 : Cond.instanceMethod yX7_openBlock ∈ gT := gT_in (List.mem_of_getElem? (i := 866) (by decide +kernel)) rfl
theorem w_867 : Cond.code yX7_openBlock cX7_openBlock 2 (some .boolean) ∈ gT := gT_in (List.mem_of_getElem? (i := 867) (by decide +kernel)) rfl
theorem w_868 : Cond.methodLink RX7 119 yX9_takeSign ∈ gT := gT_in (List.mem_of_getElem? (i := 868) (by decide +kernel)) rfl
theorem w_869 : Cond.methodLink RX7 48 yX7_readAct ∈ gT := gT_in (List.mem_of_getElem? (i := 869) (by decide +kernel)) rfl
theorem w_871 : Cond.instanceMethod yX7_readAct ∈ gT := gT_in (List.mem_of_getElem? (i := 871) (by decide +kernel)) rfl
theorem w_872 : Cond.code yX7_readAct cX7_readAct 3 (some .boolean) ∈ gT := gT_in (List.mem_of_getElem? (i := 872) (by decide +kernel)) rfl
theorem w_873 : Cond.methodLink RX7 55 yX7_verbTold ∈ gT := gT_in (List.mem_of_getElem? (i := 873) (by decide +kernel)) rfl
theorem w_874 : Cond.static yX7_verbTold ∈ gT := gT_in (List.mem_of_getElem? (i := 874) (by decide +kernel)) rfl
theorem w_875 : Cond.code yX7_verbTold cX7_verbTold 1 (some .int) ∈ gT := gT_in (List.mem_of_getElem? (i := 875) (by decide +kernel)) rfl
theorem w_883 : Cond.methodLink RX7 65 yX7_readNumber ∈ gT := gT_in (List.mem_of_getElem? (i := 883) (by decide +kernel)) rfl
theorem w_885 : Cond.instanceMethod yX7_readNumber ∈ gT := gT_in (List.mem_of_getElem? (i := 885) (by decide +kernel)) rfl
theorem w_886 : Cond.code yX7_readNumber cX7_readNumber 4 (some .boolean) ∈ gT := gT_in (List.mem_of_getElem? (i := 886) (by decide +kernel)) rfl
theorem w_887 : Cond.methodLink RX7 96 yX9_takeNumber ∈ gT := gT_in (List.mem_of_getElem? (i := 887) (by decide +kernel)) rfl
theorem w_888 : Cond.methodLink RX7 69 yX7_readChange ∈ gT := gT_in (List.mem_of_getElem? (i := 888) (by decide +kernel)) rfl
theorem w_890 : Cond.instanceMethod yX7_readChange ∈ gT := gT_in (List.mem_of_getElem? (i := 890) (by decide +kernel)) rfl
theorem w_891 : Cond.code yX7_readChange cX7_readChange 3 (some .boolean) ∈ gT := gT_in (List.mem_of_getElem? (i := 891) (by decide +kernel)) rfl
theorem w_892 : Cond.methodLink RX7 103 yX9_takeSigned ∈ gT := gT_in (List.mem_of_getElem? (i := 892) (by decide +kernel)) rfl
theorem w_893 : Cond.methodLink RX7 76 yX7_readTest ∈ gT := gT_in (List.mem_of_getElem? (i := 893) (by decide +kernel)) rfl
theorem w_895 : Cond.instanceMethod yX7_readTest ∈ gT := gT_in (List.mem_of_getElem? (i := 895) (by decide +kernel)) rfl
theorem w_896 : Cond.code yX7_readTest cX7_readTest 4 (some .boolean) ∈ gT := gT_in (List.mem_of_getElem? (i := 896) (by decide +kernel)) rfl
theorem w_898 : Cond.methodLink RX7 108 yX7_testTold ∈ gT := gT_in (List.mem_of_getElem? (i := 898) (by decide +kernel)) rfl
theorem w_899 : Cond.static yX7_testTold ∈ gT := gT_in (List.mem_of_getElem? (i := 899) (by decide +kernel)) rfl
theorem w_900 : Cond.code yX7_testTold cX7_testTold 1 (some .int) ∈ gT := gT_in (List.mem_of_getElem? (i := 900) (by decide +kernel)) rfl
theorem w_905 : Cond.methodLink RL 102 yL_performed ∈ gT := gT_in (List.mem_of_getElem? (i := 905) (by decide +kernel)) rfl
theorem w_906 : Cond.static yL_performed ∈ gT := gT_in (List.mem_of_getElem? (i := 906) (by decide +kernel)) rfl
theorem w_908 : Cond.classLink RL 21 "java/util/NoSuchElementException" ∈ gT := gT_in (List.mem_of_getElem? (i := 908) (by decide +kernel)) rfl
theorem w_909 : Cond.methodLink RL 18 yX10_performed ∈ gT := gT_in (List.mem_of_getElem? (i := 909) (by decide +kernel)) rfl
theorem w_910 : Cond.instanceMethod yX10_performed ∈ gT := gT_in (List.mem_of_getElem? (i := 910) (by decide +kernel)) rfl
theorem w_911 : Cond.selects RX10 yX10_performed yX10_performed ∈ gT := gT_in (List.mem_of_getElem? (i := 911) (by decide +kernel)) rfl
theorem w_912 : Cond.code yX10_performed cX10_performed 2 (some .int) ∈ gT := gT_in (List.mem_of_getElem? (i := 912) (by decide +kernel)) rfl
theorem w_913 : Cond.methodLink RX10 140 yX10_needWhat ∈ gT := gT_in (List.mem_of_getElem? (i := 913) (by decide +kernel)) rfl
theorem w_914 : Cond.static yX10_needWhat ∈ gT := gT_in (List.mem_of_getElem? (i := 914) (by decide +kernel)) rfl
theorem w_915 : Cond.code yX10_needWhat cX10_needWhat 2 none ∈ gT := gT_in (List.mem_of_getElem? (i := 915) (by decide +kernel)) rfl
theorem w_916 : Cond.classLink RX10 342 "java/util/NoSuchElementException" ∈ gT := gT_in (List.mem_of_getElem? (i := 916) (by decide +kernel)) rfl
theorem w_917 : Cond.instantiable "java/util/NoSuchElementException" 6 ∈ gT := gT_in (List.mem_of_getElem? (i := 917) (by decide +kernel)) rfl
theorem w_919 : Cond.selects "java/util/NoSuchElementException" ⟨"java/lang/Throwable", "fillInStackTrace", "(I)Ljava/lang/Throwable;"⟩ ⟨"java/lang/Throwable", "fillInStackTrace", "(I)Ljava/lang/Throwable;"⟩ ∈ gT := gT_in (List.mem_of_getElem? (i := 919) (by decide +kernel)) rfl
theorem w_926 : Cond.methodLink RX10 346 ⟨"java/util/NoSuchElementException", "<init>", "(Ljava/lang/String;)V"⟩ ∈ gT := gT_in (List.mem_of_getElem? (i := 926) (by decide +kernel)) rfl
theorem w_927 : Cond.instanceMethod ⟨"java/util/NoSuchElementException", "<init>", "(Ljava/lang/String;)V"⟩ ∈ gT := gT_in (List.mem_of_getElem? (i := 927) (by decide +kernel)) rfl
theorem w_928 : Cond.code ⟨"java/util/NoSuchElementException", "<init>", "(Ljava/lang/String;)V"⟩ prog_29_method_4_code 2 none ∈ gT := gT_in (List.mem_of_getElem? (i := 928) (by decide +kernel)) rfl
theorem w_929 : Cond.methodLink "java/util/NoSuchElementException" 13 ⟨"java/lang/RuntimeException", "<init>", "(Ljava/lang/String;)V"⟩ ∈ gT := gT_in (List.mem_of_getElem? (i := 929) (by decide +kernel)) rfl
theorem w_932 : Cond.methodLink RX10 144 yX6_play ∈ gT := gT_in (List.mem_of_getElem? (i := 932) (by decide +kernel)) rfl
theorem w_933 : Cond.instanceMethod yX6_play ∈ gT := gT_in (List.mem_of_getElem? (i := 933) (by decide +kernel)) rfl
theorem w_934 : Cond.selects RX6 yX6_play yX6_play ∈ gT := gT_in (List.mem_of_getElem? (i := 934) (by decide +kernel)) rfl
theorem w_935 : Cond.code yX6_play cX6_play 7 none ∈ gT := gT_in (List.mem_of_getElem? (i := 935) (by decide +kernel)) rfl
theorem w_936 : Cond.methodLink RX6 31 yX2_copy ∈ gT := gT_in (List.mem_of_getElem? (i := 936) (by decide +kernel)) rfl
theorem w_937 : Cond.methodLink RX6 35 yJ7_fill_53178 ∈ gT := gT_in (List.mem_of_getElem? (i := 937) (by decide +kernel)) rfl
theorem w_938 : Cond.constant RX6 57 (1000000) ∈ gT := gT_in (List.mem_of_getElem? (i := 938) (by decide +kernel)) rfl
theorem w_939 : Cond.methodLink RX6 64 yX6_goesAside ∈ gT := gT_in (List.mem_of_getElem? (i := 939) (by decide +kernel)) rfl
theorem w_941 : Cond.instanceMethod yX6_goesAside ∈ gT := gT_in (List.mem_of_getElem? (i := 941) (by decide +kernel)) rfl
theorem w_942 : Cond.code yX6_goesAside cX6_goesAside 4 (some .boolean) ∈ gT := gT_in (List.mem_of_getElem? (i := 942) (by decide +kernel)) rfl
theorem w_943 : Cond.methodLink RX6 74 yX6_draw ∈ gT := gT_in (List.mem_of_getElem? (i := 943) (by decide +kernel)) rfl
theorem w_945 : Cond.instanceMethod yX6_draw ∈ gT := gT_in (List.mem_of_getElem? (i := 945) (by decide +kernel)) rfl
end
section
theorem w_946 : Cond.code yX6_draw cX6_draw 3 none ∈ gT := gT_in (List.mem_of_getElem? (i := 946) (by decide +kernel)) rfl
theorem w_947 : Cond.methodLink RX6 92 yX6_cell ∈ gT := gT_in (List.mem_of_getElem? (i := 947) (by decide +kernel)) rfl
theorem w_948 : Cond.instanceMethod yX6_cell ∈ gT := gT_in (List.mem_of_getElem? (i := 948) (by decide +kernel)) rfl
theorem w_949 : Cond.selects RX6 yX6_cell yX6_cell ∈ gT := gT_in (List.mem_of_getElem? (i := 949) (by decide +kernel)) rfl
theorem w_950 : Cond.code yX6_cell cX6_cell 1 (some .int) ∈ gT := gT_in (List.mem_of_getElem? (i := 950) (by decide +kernel)) rfl
theorem w_951 : Cond.methodLink RX6 114 yX2_penAt ∈ gT := gT_in (List.mem_of_getElem? (i := 951) (by decide +kernel)) rfl
theorem w_952 : Cond.instanceMethod yX2_penAt ∈ gT := gT_in (List.mem_of_getElem? (i := 952) (by decide +kernel)) rfl
theorem w_953 : Cond.selects RX2 yX2_penAt yX2_penAt ∈ gT := gT_in (List.mem_of_getElem? (i := 953) (by decide +kernel)) rfl
theorem w_954 : Cond.code yX2_penAt cX2_penAt 3 (some .int) ∈ gT := gT_in (List.mem_of_getElem? (i := 954) (by decide +kernel)) rfl
theorem w_955 : Cond.methodLink RX2 76 yX2_shaken ∈ gT := gT_in (List.mem_of_getElem? (i := 955) (by decide +kernel)) rfl
theorem w_956 : Cond.instanceMethod yX2_shaken ∈ gT := gT_in (List.mem_of_getElem? (i := 956) (by decide +kernel)) rfl
theorem w_957 : Cond.selects RX2 yX2_shaken yX2_shaken ∈ gT := gT_in (List.mem_of_getElem? (i := 957) (by decide +kernel)) rfl
theorem w_958 : Cond.code yX2_shaken cX2_shaken 5 (some .int) ∈ gT := gT_in (List.mem_of_getElem? (i := 958) (by decide +kernel)) rfl
theorem w_959 : Cond.methodLinkNest RX6 120 yX10_cellOf "PenSwings" ∈ lw_tbl := List.mem_of_getElem? (i := 959) (by decide +kernel)
theorem w_960 : Cond.static yX10_cellOf ∈ gT := gT_in (List.mem_of_getElem? (i := 960) (by decide +kernel)) rfl
theorem w_961 : Cond.code yX10_cellOf cX10_cellOf 2 (some .int) ∈ gT := gT_in (List.mem_of_getElem? (i := 961) (by decide +kernel)) rfl
theorem w_962 : Cond.methodLink RX6 96 yX6_mark ∈ gT := gT_in (List.mem_of_getElem? (i := 962) (by decide +kernel)) rfl
theorem w_964 : Cond.instanceMethod yX6_mark ∈ gT := gT_in (List.mem_of_getElem? (i := 964) (by decide +kernel)) rfl
theorem w_965 : Cond.code yX6_mark cX6_mark 2 none ∈ gT := gT_in (List.mem_of_getElem? (i := 965) (by decide +kernel)) rfl
theorem w_966 : Cond.methodLinkNest RX6 99 yX10_isCell "PenSwings" ∈ lw_tbl := List.mem_of_getElem? (i := 966) (by decide +kernel)
theorem w_967 : Cond.static yX10_isCell ∈ gT := gT_in (List.mem_of_getElem? (i := 967) (by decide +kernel)) rfl
theorem w_968 : Cond.code yX10_isCell cX10_isCell 1 (some .boolean) ∈ gT := gT_in (List.mem_of_getElem? (i := 968) (by decide +kernel)) rfl
theorem w_969 : Cond.methodLink RX6 78 yX6_lift ∈ gT := gT_in (List.mem_of_getElem? (i := 969) (by decide +kernel)) rfl
theorem w_971 : Cond.instanceMethod yX6_lift ∈ gT := gT_in (List.mem_of_getElem? (i := 971) (by decide +kernel)) rfl
theorem w_972 : Cond.code yX6_lift cX6_lift 2 none ∈ gT := gT_in (List.mem_of_getElem? (i := 972) (by decide +kernel)) rfl
theorem w_973 : Cond.methodLink RX6 84 yX6_alter ∈ gT := gT_in (List.mem_of_getElem? (i := 973) (by decide +kernel)) rfl
theorem w_975 : Cond.instanceMethod yX6_alter ∈ gT := gT_in (List.mem_of_getElem? (i := 975) (by decide +kernel)) rfl
theorem w_976 : Cond.code yX6_alter cX6_alter 4 none ∈ gT := gT_in (List.mem_of_getElem? (i := 976) (by decide +kernel)) rfl
theorem w_977 : Cond.methodLink RX6 105 yJ9_min_7cf53 ∈ gT := gT_in (List.mem_of_getElem? (i := 977) (by decide +kernel)) rfl
theorem w_978 : Cond.methodLink RX6 111 yJ9_max_7cf53 ∈ gT := gT_in (List.mem_of_getElem? (i := 978) (by decide +kernel)) rfl
theorem w_979 : Cond.methodLink RX6 88 yX6_holds ∈ gT := gT_in (List.mem_of_getElem? (i := 979) (by decide +kernel)) rfl
theorem w_981 : Cond.instanceMethod yX6_holds ∈ gT := gT_in (List.mem_of_getElem? (i := 981) (by decide +kernel)) rfl
theorem w_982 : Cond.code yX6_holds cX6_holds 4 (some .boolean) ∈ gT := gT_in (List.mem_of_getElem? (i := 982) (by decide +kernel)) rfl
theorem w_983 : Cond.methodLink RX6 117 yX2_where ∈ gT := gT_in (List.mem_of_getElem? (i := 983) (by decide +kernel)) rfl
theorem w_984 : Cond.methodLink RX10 160 yX6_cell ∈ gT := gT_in (List.mem_of_getElem? (i := 984) (by decide +kernel)) rfl
theorem w_985 : Cond.methodLink RL 105 yL_marks ∈ gT := gT_in (List.mem_of_getElem? (i := 985) (by decide +kernel)) rfl
theorem w_986 : Cond.static yL_marks ∈ gT := gT_in (List.mem_of_getElem? (i := 986) (by decide +kernel)) rfl
theorem w_988 : Cond.methodLink RL 23 yX10_marks ∈ gT := gT_in (List.mem_of_getElem? (i := 988) (by decide +kernel)) rfl
theorem w_989 : Cond.instanceMethod yX10_marks ∈ gT := gT_in (List.mem_of_getElem? (i := 989) (by decide +kernel)) rfl
theorem w_990 : Cond.selects RX10 yX10_marks yX10_marks ∈ gT := gT_in (List.mem_of_getElem? (i := 990) (by decide +kernel)) rfl
theorem w_991 : Cond.code yX10_marks cX10_marks 2 (some .int) ∈ gT := gT_in (List.mem_of_getElem? (i := 991) (by decide +kernel)) rfl
theorem w_992 : Cond.methodLink RX10 163 yX10_needCell ∈ gT := gT_in (List.mem_of_getElem? (i := 992) (by decide +kernel)) rfl
theorem w_993 : Cond.static yX10_needCell ∈ gT := gT_in (List.mem_of_getElem? (i := 993) (by decide +kernel)) rfl
theorem w_994 : Cond.code yX10_needCell cX10_needCell 1 none ∈ gT := gT_in (List.mem_of_getElem? (i := 994) (by decide +kernel)) rfl
theorem w_995 : Cond.methodLink RX10 369 yX10_isCell ∈ gT := gT_in (List.mem_of_getElem? (i := 995) (by decide +kernel)) rfl
theorem w_997 : Cond.methodLink RL 112 yL_count ∈ gT := gT_in (List.mem_of_getElem? (i := 997) (by decide +kernel)) rfl
theorem w_998 : Cond.static yL_count ∈ gT := gT_in (List.mem_of_getElem? (i := 998) (by decide +kernel)) rfl
theorem w_1000 : Cond.methodLink RL 26 yX10_count ∈ gT := gT_in (List.mem_of_getElem? (i := 1000) (by decide +kernel)) rfl
theorem w_1001 : Cond.instanceMethod yX10_count ∈ gT := gT_in (List.mem_of_getElem? (i := 1001) (by decide +kernel)) rfl
theorem w_1002 : Cond.selects RX10 yX10_count yX10_count ∈ gT := gT_in (List.mem_of_getElem? (i := 1002) (by decide +kernel)) rfl
theorem w_1003 : Cond.code yX10_count cX10_count 2 (some .int) ∈ gT := gT_in (List.mem_of_getElem? (i := 1003) (by decide +kernel)) rfl
theorem w_1004 : Cond.methodLink RL 115 yL_pendulum ∈ gT := gT_in (List.mem_of_getElem? (i := 1004) (by decide +kernel)) rfl
theorem w_1005 : Cond.static yL_pendulum ∈ gT := gT_in (List.mem_of_getElem? (i := 1005) (by decide +kernel)) rfl
theorem w_1007 : Cond.methodLink RL 29 yX10_pendulum ∈ gT := gT_in (List.mem_of_getElem? (i := 1007) (by decide +kernel)) rfl
theorem w_1008 : Cond.instanceMethod yX10_pendulum ∈ gT := gT_in (List.mem_of_getElem? (i := 1008) (by decide +kernel)) rfl
theorem w_1009 : Cond.selects RX10 yX10_pendulum yX10_pendulum ∈ gT := gT_in (List.mem_of_getElem? (i := 1009) (by decide +kernel)) rfl
theorem w_1010 : Cond.code yX10_pendulum cX10_pendulum 3 (some .int) ∈ gT := gT_in (List.mem_of_getElem? (i := 1010) (by decide +kernel)) rfl
theorem w_1011 : Cond.methodLink RX10 187 yX10_needPendulum ∈ gT := gT_in (List.mem_of_getElem? (i := 1011) (by decide +kernel)) rfl
theorem w_1012 : Cond.static yX10_needPendulum ∈ gT := gT_in (List.mem_of_getElem? (i := 1012) (by decide +kernel)) rfl
theorem w_1013 : Cond.code yX10_needPendulum cX10_needPendulum 1 none ∈ gT := gT_in (List.mem_of_getElem? (i := 1013) (by decide +kernel)) rfl
theorem w_1015 : Cond.methodLink RX10 202 yX2_period ∈ gT := gT_in (List.mem_of_getElem? (i := 1015) (by decide +kernel)) rfl
theorem w_1016 : Cond.methodLink RL 119 yL_set ∈ gT := gT_in (List.mem_of_getElem? (i := 1016) (by decide +kernel)) rfl
theorem w_1017 : Cond.static yL_set ∈ gT := gT_in (List.mem_of_getElem? (i := 1017) (by decide +kernel)) rfl
theorem w_1019 : Cond.methodLink RL 33 yX10_set ∈ gT := gT_in (List.mem_of_getElem? (i := 1019) (by decide +kernel)) rfl
theorem w_1020 : Cond.instanceMethod yX10_set ∈ gT := gT_in (List.mem_of_getElem? (i := 1020) (by decide +kernel)) rfl
theorem w_1021 : Cond.selects RX10 yX10_set yX10_set ∈ gT := gT_in (List.mem_of_getElem? (i := 1021) (by decide +kernel)) rfl
theorem w_1022 : Cond.code yX10_set cX10_set 6 (some .int) ∈ gT := gT_in (List.mem_of_getElem? (i := 1022) (by decide +kernel)) rfl
theorem w_1023 : Cond.methodLink RX10 206 yX10_mostOfSetting ∈ gT := gT_in (List.mem_of_getElem? (i := 1023) (by decide +kernel)) rfl
theorem w_1024 : Cond.static yX10_mostOfSetting ∈ gT := gT_in (List.mem_of_getElem? (i := 1024) (by decide +kernel)) rfl
theorem w_1025 : Cond.code yX10_mostOfSetting cX10_mostOfSetting 1 (some .int) ∈ gT := gT_in (List.mem_of_getElem? (i := 1025) (by decide +kernel)) rfl
theorem w_1026 : Cond.methodLink RL 123 yL_swing ∈ gT := gT_in (List.mem_of_getElem? (i := 1026) (by decide +kernel)) rfl
theorem w_1027 : Cond.static yL_swing ∈ gT := gT_in (List.mem_of_getElem? (i := 1027) (by decide +kernel)) rfl
theorem w_1029 : Cond.methodLink RL 37 yX10_swing ∈ gT := gT_in (List.mem_of_getElem? (i := 1029) (by decide +kernel)) rfl
theorem w_1030 : Cond.instanceMethod yX10_swing ∈ gT := gT_in (List.mem_of_getElem? (i := 1030) (by decide +kernel)) rfl
theorem w_1031 : Cond.selects RX10 yX10_swing yX10_swing ∈ gT := gT_in (List.mem_of_getElem? (i := 1031) (by decide +kernel)) rfl
theorem w_1032 : Cond.code yX10_swing cX10_swing 3 (some .int) ∈ gT := gT_in (List.mem_of_getElem? (i := 1032) (by decide +kernel)) rfl
theorem w_1033 : Cond.methodLink RX10 212 yX10_needTick ∈ gT := gT_in (List.mem_of_getElem? (i := 1033) (by decide +kernel)) rfl
theorem w_1034 : Cond.static yX10_needTick ∈ gT := gT_in (List.mem_of_getElem? (i := 1034) (by decide +kernel)) rfl
theorem w_1035 : Cond.code yX10_needTick cX10_needTick 1 none ∈ gT := gT_in (List.mem_of_getElem? (i := 1035) (by decide +kernel)) rfl
theorem w_1037 : Cond.methodLink RX10 215 yX2_where ∈ gT := gT_in (List.mem_of_getElem? (i := 1037) (by decide +kernel)) rfl
theorem w_1038 : Cond.methodLink RL 126 yL_pen ∈ gT := gT_in (List.mem_of_getElem? (i := 1038) (by decide +kernel)) rfl
theorem w_1039 : Cond.static yL_pen ∈ gT := gT_in (List.mem_of_getElem? (i := 1039) (by decide +kernel)) rfl
theorem w_1041 : Cond.methodLink RL 40 yX10_pen ∈ gT := gT_in (List.mem_of_getElem? (i := 1041) (by decide +kernel)) rfl
theorem w_1042 : Cond.instanceMethod yX10_pen ∈ gT := gT_in (List.mem_of_getElem? (i := 1042) (by decide +kernel)) rfl
theorem w_1043 : Cond.selects RX10 yX10_pen yX10_pen ∈ gT := gT_in (List.mem_of_getElem? (i := 1043) (by decide +kernel)) rfl
theorem w_1044 : Cond.code yX10_pen cX10_pen 3 (some .int) ∈ gT := gT_in (List.mem_of_getElem? (i := 1044) (by decide +kernel)) rfl
theorem w_1045 : Cond.methodLink RX10 219 yX2_penAt ∈ gT := gT_in (List.mem_of_getElem? (i := 1045) (by decide +kernel)) rfl
theorem w_1046 : Cond.methodLink RL 129 yL_drawn ∈ gT := gT_in (List.mem_of_getElem? (i := 1046) (by decide +kernel)) rfl
theorem w_1047 : Cond.static yL_drawn ∈ gT := gT_in (List.mem_of_getElem? (i := 1047) (by decide +kernel)) rfl
theorem w_1049 : Cond.methodLink RL 43 yX10_drawn ∈ gT := gT_in (List.mem_of_getElem? (i := 1049) (by decide +kernel)) rfl
theorem w_1050 : Cond.instanceMethod yX10_drawn ∈ gT := gT_in (List.mem_of_getElem? (i := 1050) (by decide +kernel)) rfl
theorem w_1051 : Cond.selects RX10 yX10_drawn yX10_drawn ∈ gT := gT_in (List.mem_of_getElem? (i := 1051) (by decide +kernel)) rfl
theorem w_1052 : Cond.code yX10_drawn cX10_drawn 3 (some .int) ∈ gT := gT_in (List.mem_of_getElem? (i := 1052) (by decide +kernel)) rfl
theorem w_1053 : Cond.methodLink RX10 222 yX10_needSpan ∈ gT := gT_in (List.mem_of_getElem? (i := 1053) (by decide +kernel)) rfl
theorem w_1054 : Cond.static yX10_needSpan ∈ gT := gT_in (List.mem_of_getElem? (i := 1054) (by decide +kernel)) rfl
theorem w_1055 : Cond.code yX10_needSpan cX10_needSpan 2 none ∈ gT := gT_in (List.mem_of_getElem? (i := 1055) (by decide +kernel)) rfl
theorem w_1057 : Cond.methodLink RX10 225 yJ7_fill_53178 ∈ gT := gT_in (List.mem_of_getElem? (i := 1057) (by decide +kernel)) rfl
theorem w_1058 : Cond.methodLink RX10 231 yX10_markSeen ∈ gT := gT_in (List.mem_of_getElem? (i := 1058) (by decide +kernel)) rfl
theorem w_1060 : Cond.instanceMethod yX10_markSeen ∈ gT := gT_in (List.mem_of_getElem? (i := 1060) (by decide +kernel)) rfl
theorem w_1061 : Cond.code yX10_markSeen cX10_markSeen 7 none ∈ gT := gT_in (List.mem_of_getElem? (i := 1061) (by decide +kernel)) rfl
theorem w_1062 : Cond.methodLink RX10 238 yX2_cellAt ∈ gT := gT_in (List.mem_of_getElem? (i := 1062) (by decide +kernel)) rfl
theorem w_1063 : Cond.instanceMethod yX2_cellAt ∈ gT := gT_in (List.mem_of_getElem? (i := 1063) (by decide +kernel)) rfl
theorem w_1064 : Cond.selects RX2 yX2_cellAt yX2_cellAt ∈ gT := gT_in (List.mem_of_getElem? (i := 1064) (by decide +kernel)) rfl
theorem w_1065 : Cond.code yX2_cellAt cX2_cellAt 2 (some .int) ∈ gT := gT_in (List.mem_of_getElem? (i := 1065) (by decide +kernel)) rfl
theorem w_1066 : Cond.methodLink RX2 79 yX2_penAt ∈ gT := gT_in (List.mem_of_getElem? (i := 1066) (by decide +kernel)) rfl
theorem w_1067 : Cond.methodLinkNest RX2 82 yX10_cellOf "PenSwings" ∈ lw_tbl := List.mem_of_getElem? (i := 1067) (by decide +kernel)
theorem w_1068 : Cond.methodLink RX10 235 yX10_cellsSeen ∈ gT := gT_in (List.mem_of_getElem? (i := 1068) (by decide +kernel)) rfl
theorem w_1070 : Cond.instanceMethod yX10_cellsSeen ∈ gT := gT_in (List.mem_of_getElem? (i := 1070) (by decide +kernel)) rfl
theorem w_1071 : Cond.code yX10_cellsSeen cX10_cellsSeen 4 (some .int) ∈ gT := gT_in (List.mem_of_getElem? (i := 1071) (by decide +kernel)) rfl
theorem w_1072 : Cond.methodLink RL 132 yL_inCell ∈ gT := gT_in (List.mem_of_getElem? (i := 1072) (by decide +kernel)) rfl
theorem w_1073 : Cond.static yL_inCell ∈ gT := gT_in (List.mem_of_getElem? (i := 1073) (by decide +kernel)) rfl
theorem w_1075 : Cond.methodLink RL 46 yX10_inCell ∈ gT := gT_in (List.mem_of_getElem? (i := 1075) (by decide +kernel)) rfl
theorem w_1076 : Cond.instanceMethod yX10_inCell ∈ gT := gT_in (List.mem_of_getElem? (i := 1076) (by decide +kernel)) rfl
theorem w_1077 : Cond.selects RX10 yX10_inCell yX10_inCell ∈ gT := gT_in (List.mem_of_getElem? (i := 1077) (by decide +kernel)) rfl
theorem w_1078 : Cond.code yX10_inCell cX10_inCell 5 (some .int) ∈ gT := gT_in (List.mem_of_getElem? (i := 1078) (by decide +kernel)) rfl
theorem w_1079 : Cond.methodLink RL 147 yL_take ∈ gT := gT_in (List.mem_of_getElem? (i := 1079) (by decide +kernel)) rfl
theorem w_1080 : Cond.static yL_take ∈ gT := gT_in (List.mem_of_getElem? (i := 1080) (by decide +kernel)) rfl
theorem w_1082 : Cond.methodLink RL 49 yX10_take ∈ gT := gT_in (List.mem_of_getElem? (i := 1082) (by decide +kernel)) rfl
theorem w_1083 : Cond.instanceMethod yX10_take ∈ gT := gT_in (List.mem_of_getElem? (i := 1083) (by decide +kernel)) rfl
theorem w_1084 : Cond.selects RX10 yX10_take yX10_take ∈ gT := gT_in (List.mem_of_getElem? (i := 1084) (by decide +kernel)) rfl
theorem w_1085 : Cond.code yX10_take cX10_take 2 none ∈ gT := gT_in (List.mem_of_getElem? (i := 1085) (by decide +kernel)) rfl
theorem w_1086 : Cond.methodLink RX10 261 yX10_needPortrait ∈ gT := gT_in (List.mem_of_getElem? (i := 1086) (by decide +kernel)) rfl
theorem w_1088 : Cond.instanceMethod yX10_needPortrait ∈ gT := gT_in (List.mem_of_getElem? (i := 1088) (by decide +kernel)) rfl
theorem w_1089 : Cond.code yX10_needPortrait cX10_needPortrait 2 none ∈ gT := gT_in (List.mem_of_getElem? (i := 1089) (by decide +kernel)) rfl
theorem w_1091 : Cond.methodLink RX10 264 yX10_takeInto ∈ gT := gT_in (List.mem_of_getElem? (i := 1091) (by decide +kernel)) rfl
theorem w_1093 : Cond.instanceMethod yX10_takeInto ∈ gT := gT_in (List.mem_of_getElem? (i := 1093) (by decide +kernel)) rfl
theorem w_1094 : Cond.code yX10_takeInto cX10_takeInto 3 none ∈ gT := gT_in (List.mem_of_getElem? (i := 1094) (by decide +kernel)) rfl
theorem w_1095 : Cond.methodLink RL 151 yL_alike ∈ gT := gT_in (List.mem_of_getElem? (i := 1095) (by decide +kernel)) rfl
theorem w_1096 : Cond.static yL_alike ∈ gT := gT_in (List.mem_of_getElem? (i := 1096) (by decide +kernel)) rfl
theorem w_1098 : Cond.methodLink RL 53 yX10_alike ∈ gT := gT_in (List.mem_of_getElem? (i := 1098) (by decide +kernel)) rfl
theorem w_1099 : Cond.instanceMethod yX10_alike ∈ gT := gT_in (List.mem_of_getElem? (i := 1099) (by decide +kernel)) rfl
theorem w_1100 : Cond.selects RX10 yX10_alike yX10_alike ∈ gT := gT_in (List.mem_of_getElem? (i := 1100) (by decide +kernel)) rfl
theorem w_1101 : Cond.code yX10_alike cX10_alike 3 (some .int) ∈ gT := gT_in (List.mem_of_getElem? (i := 1101) (by decide +kernel)) rfl
theorem w_1102 : Cond.methodLink RX10 268 yX10_compare ∈ gT := gT_in (List.mem_of_getElem? (i := 1102) (by decide +kernel)) rfl
theorem w_1104 : Cond.instanceMethod yX10_compare ∈ gT := gT_in (List.mem_of_getElem? (i := 1104) (by decide +kernel)) rfl
theorem w_1105 : Cond.code yX10_compare cX10_compare 3 (some .int) ∈ gT := gT_in (List.mem_of_getElem? (i := 1105) (by decide +kernel)) rfl
theorem w_1106 : Cond.methodLink RX10 362 yX10_copyWith ∈ gT := gT_in (List.mem_of_getElem? (i := 1106) (by decide +kernel)) rfl
theorem w_1108 : Cond.instanceMethod yX10_copyWith ∈ gT := gT_in (List.mem_of_getElem? (i := 1108) (by decide +kernel)) rfl
theorem w_1109 : Cond.code yX10_copyWith cX10_copyWith 3 none ∈ gT := gT_in (List.mem_of_getElem? (i := 1109) (by decide +kernel)) rfl
theorem w_1110 : Cond.methodLink RX10 365 yX4_joins ∈ gT := gT_in (List.mem_of_getElem? (i := 1110) (by decide +kernel)) rfl
theorem w_1111 : Cond.instanceMethod yX4_joins ∈ gT := gT_in (List.mem_of_getElem? (i := 1111) (by decide +kernel)) rfl
theorem w_1112 : Cond.selects RX4 yX4_joins yX4_joins ∈ gT := gT_in (List.mem_of_getElem? (i := 1112) (by decide +kernel)) rfl
theorem w_1113 : Cond.code yX4_joins cX4_joins 4 (some .boolean) ∈ gT := gT_in (List.mem_of_getElem? (i := 1113) (by decide +kernel)) rfl
theorem w_1114 : Cond.methodLink RX4 18 yX4_pair ∈ gT := gT_in (List.mem_of_getElem? (i := 1114) (by decide +kernel)) rfl
theorem w_1116 : Cond.instanceMethod yX4_pair ∈ gT := gT_in (List.mem_of_getElem? (i := 1116) (by decide +kernel)) rfl
theorem w_1117 : Cond.code yX4_pair cX4_pair 5 none ∈ gT := gT_in (List.mem_of_getElem? (i := 1117) (by decide +kernel)) rfl
theorem w_1118 : Cond.methodLink RX4 22 yX4_agree ∈ gT := gT_in (List.mem_of_getElem? (i := 1118) (by decide +kernel)) rfl
theorem w_1120 : Cond.instanceMethod yX4_agree ∈ gT := gT_in (List.mem_of_getElem? (i := 1120) (by decide +kernel)) rfl
theorem w_1121 : Cond.code yX4_agree cX4_agree 11 (some .boolean) ∈ gT := gT_in (List.mem_of_getElem? (i := 1121) (by decide +kernel)) rfl
theorem w_1122 : Cond.methodLink RX4 37 yX2_period ∈ gT := gT_in (List.mem_of_getElem? (i := 1122) (by decide +kernel)) rfl
theorem w_1123 : Cond.methodLink RX4 26 yX4_meet ∈ gT := gT_in (List.mem_of_getElem? (i := 1123) (by decide +kernel)) rfl
theorem w_1125 : Cond.instanceMethod yX4_meet ∈ gT := gT_in (List.mem_of_getElem? (i := 1125) (by decide +kernel)) rfl
theorem w_1126 : Cond.code yX4_meet cX4_meet 4 (some .boolean) ∈ gT := gT_in (List.mem_of_getElem? (i := 1126) (by decide +kernel)) rfl
theorem w_1127 : Cond.methodLink RX4 41 yX4_findTimes ∈ gT := gT_in (List.mem_of_getElem? (i := 1127) (by decide +kernel)) rfl
theorem w_1129 : Cond.instanceMethod yX4_findTimes ∈ gT := gT_in (List.mem_of_getElem? (i := 1129) (by decide +kernel)) rfl
theorem w_1130 : Cond.code yX4_findTimes cX4_findTimes 9 (some .boolean) ∈ gT := gT_in (List.mem_of_getElem? (i := 1130) (by decide +kernel)) rfl
theorem w_1131 : Cond.methodLink RX4 49 yJ9_floorMod_7cf53 ∈ gT := gT_in (List.mem_of_getElem? (i := 1131) (by decide +kernel)) rfl
theorem w_1132 : Cond.static yJ9_floorMod_7cf53 ∈ gT := gT_in (List.mem_of_getElem? (i := 1132) (by decide +kernel)) rfl
theorem w_1133 : Cond.code yJ9_floorMod_7cf53 cJ9_floorMod_7cf53 3 (some .int) ∈ gT := gT_in (List.mem_of_getElem? (i := 1133) (by decide +kernel)) rfl
theorem w_1134 : Cond.methodLink RX4 45 yX4_oneTimeForAll ∈ gT := gT_in (List.mem_of_getElem? (i := 1134) (by decide +kernel)) rfl
theorem w_1136 : Cond.instanceMethod yX4_oneTimeForAll ∈ gT := gT_in (List.mem_of_getElem? (i := 1136) (by decide +kernel)) rfl
theorem w_1137 : Cond.code yX4_oneTimeForAll cX4_oneTimeForAll 6 (some .boolean) ∈ gT := gT_in (List.mem_of_getElem? (i := 1137) (by decide +kernel)) rfl
theorem w_1138 : Cond.methodLinkNest RX4 55 yX10_greatestCommon "PenSwings" ∈ lw_tbl := List.mem_of_getElem? (i := 1138) (by decide +kernel)
theorem w_1139 : Cond.methodLink RL 154 yL_kinds ∈ gT := gT_in (List.mem_of_getElem? (i := 1139) (by decide +kernel)) rfl
theorem w_1140 : Cond.static yL_kinds ∈ gT := gT_in (List.mem_of_getElem? (i := 1140) (by decide +kernel)) rfl
theorem w_1142 : Cond.methodLink RL 56 yX10_kinds ∈ gT := gT_in (List.mem_of_getElem? (i := 1142) (by decide +kernel)) rfl
theorem w_1143 : Cond.instanceMethod yX10_kinds ∈ gT := gT_in (List.mem_of_getElem? (i := 1143) (by decide +kernel)) rfl
theorem w_1144 : Cond.selects RX10 yX10_kinds yX10_kinds ∈ gT := gT_in (List.mem_of_getElem? (i := 1144) (by decide +kernel)) rfl
theorem w_1145 : Cond.code yX10_kinds cX10_kinds 4 (some .int) ∈ gT := gT_in (List.mem_of_getElem? (i := 1145) (by decide +kernel)) rfl
theorem w_1146 : Cond.methodLink RX10 271 yX10_leastOfKind ∈ gT := gT_in (List.mem_of_getElem? (i := 1146) (by decide +kernel)) rfl
theorem w_1148 : Cond.instanceMethod yX10_leastOfKind ∈ gT := gT_in (List.mem_of_getElem? (i := 1148) (by decide +kernel)) rfl
theorem w_1149 : Cond.code yX10_leastOfKind cX10_leastOfKind 3 (some .int) ∈ gT := gT_in (List.mem_of_getElem? (i := 1149) (by decide +kernel)) rfl
theorem w_1150 : Cond.methodLink RL 165 yL_fits ∈ gT := gT_in (List.mem_of_getElem? (i := 1150) (by decide +kernel)) rfl
theorem w_1151 : Cond.static yL_fits ∈ gT := gT_in (List.mem_of_getElem? (i := 1151) (by decide +kernel)) rfl
theorem w_1153 : Cond.methodLink RL 59 yX10_fits ∈ gT := gT_in (List.mem_of_getElem? (i := 1153) (by decide +kernel)) rfl
theorem w_1154 : Cond.instanceMethod yX10_fits ∈ gT := gT_in (List.mem_of_getElem? (i := 1154) (by decide +kernel)) rfl
theorem w_1155 : Cond.selects RX10 yX10_fits yX10_fits ∈ gT := gT_in (List.mem_of_getElem? (i := 1155) (by decide +kernel)) rfl
theorem w_1156 : Cond.code yX10_fits cX10_fits 4 (some .int) ∈ gT := gT_in (List.mem_of_getElem? (i := 1156) (by decide +kernel)) rfl
theorem w_1157 : Cond.methodLink RX10 284 yX10_needWithin ∈ gT := gT_in (List.mem_of_getElem? (i := 1157) (by decide +kernel)) rfl
theorem w_1158 : Cond.static yX10_needWithin ∈ gT := gT_in (List.mem_of_getElem? (i := 1158) (by decide +kernel)) rfl
theorem w_1159 : Cond.code yX10_needWithin cX10_needWithin 3 none ∈ gT := gT_in (List.mem_of_getElem? (i := 1159) (by decide +kernel)) rfl
theorem w_1161 : Cond.methodLink RX10 288 yX1_findRows ∈ gT := gT_in (List.mem_of_getElem? (i := 1161) (by decide +kernel)) rfl
theorem w_1162 : Cond.instanceMethod yX1_findRows ∈ gT := gT_in (List.mem_of_getElem? (i := 1162) (by decide +kernel)) rfl
theorem w_1163 : Cond.selects RX1 yX1_findRows yX1_findRows ∈ gT := gT_in (List.mem_of_getElem? (i := 1163) (by decide +kernel)) rfl
theorem w_1164 : Cond.code yX1_findRows cX1_findRows 7 none ∈ gT := gT_in (List.mem_of_getElem? (i := 1164) (by decide +kernel)) rfl
theorem w_1165 : Cond.methodLink RX1 21 yX1_findPlaces ∈ gT := gT_in (List.mem_of_getElem? (i := 1165) (by decide +kernel)) rfl
theorem w_1167 : Cond.instanceMethod yX1_findPlaces ∈ gT := gT_in (List.mem_of_getElem? (i := 1167) (by decide +kernel)) rfl
theorem w_1168 : Cond.code yX1_findPlaces cX1_findPlaces 7 none ∈ gT := gT_in (List.mem_of_getElem? (i := 1168) (by decide +kernel)) rfl
theorem w_1169 : Cond.methodLink RX1 56 yX1_placeOf ∈ gT := gT_in (List.mem_of_getElem? (i := 1169) (by decide +kernel)) rfl
theorem w_1170 : Cond.static yX1_placeOf ∈ gT := gT_in (List.mem_of_getElem? (i := 1170) (by decide +kernel)) rfl
theorem w_1171 : Cond.code yX1_placeOf cX1_placeOf 2 (some .int) ∈ gT := gT_in (List.mem_of_getElem? (i := 1171) (by decide +kernel)) rfl
theorem w_1172 : Cond.methodLink RX1 63 yX2_where ∈ gT := gT_in (List.mem_of_getElem? (i := 1172) (by decide +kernel)) rfl
theorem w_1173 : Cond.methodLink RX1 25 yX1_findOffs ∈ gT := gT_in (List.mem_of_getElem? (i := 1173) (by decide +kernel)) rfl
theorem w_1175 : Cond.instanceMethod yX1_findOffs ∈ gT := gT_in (List.mem_of_getElem? (i := 1175) (by decide +kernel)) rfl
theorem w_1176 : Cond.code yX1_findOffs cX1_findOffs 10 none ∈ gT := gT_in (List.mem_of_getElem? (i := 1176) (by decide +kernel)) rfl
theorem w_1177 : Cond.methodLink RX1 66 yX2_shaken ∈ gT := gT_in (List.mem_of_getElem? (i := 1177) (by decide +kernel)) rfl
theorem w_1178 : Cond.methodLink RX1 69 yX1_offOf ∈ gT := gT_in (List.mem_of_getElem? (i := 1178) (by decide +kernel)) rfl
theorem w_1179 : Cond.static yX1_offOf ∈ gT := gT_in (List.mem_of_getElem? (i := 1179) (by decide +kernel)) rfl
theorem w_1180 : Cond.code yX1_offOf cX1_offOf 2 (some .int) ∈ gT := gT_in (List.mem_of_getElem? (i := 1180) (by decide +kernel)) rfl
theorem w_1181 : Cond.methodLink RX1 72 yJ9_abs_0f7a4 ∈ gT := gT_in (List.mem_of_getElem? (i := 1181) (by decide +kernel)) rfl
theorem w_1182 : Cond.methodLink RX1 47 yX1_weighAll ∈ gT := gT_in (List.mem_of_getElem? (i := 1182) (by decide +kernel)) rfl
theorem w_1184 : Cond.instanceMethod yX1_weighAll ∈ gT := gT_in (List.mem_of_getElem? (i := 1184) (by decide +kernel)) rfl
theorem w_1185 : Cond.code yX1_weighAll cX1_weighAll 7 none ∈ gT := gT_in (List.mem_of_getElem? (i := 1185) (by decide +kernel)) rfl
theorem w_1186 : Cond.methodLink RX1 78 yX1_weigh ∈ gT := gT_in (List.mem_of_getElem? (i := 1186) (by decide +kernel)) rfl
theorem w_1188 : Cond.instanceMethod yX1_weigh ∈ gT := gT_in (List.mem_of_getElem? (i := 1188) (by decide +kernel)) rfl
theorem w_1189 : Cond.code yX1_weigh cX1_weigh 9 none ∈ gT := gT_in (List.mem_of_getElem? (i := 1189) (by decide +kernel)) rfl
theorem w_1190 : Cond.methodLink RX1 81 yX1_figures ∈ gT := gT_in (List.mem_of_getElem? (i := 1190) (by decide +kernel)) rfl
theorem w_1191 : Cond.static yX1_figures ∈ gT := gT_in (List.mem_of_getElem? (i := 1191) (by decide +kernel)) rfl
theorem w_1192 : Cond.code yX1_figures cX1_figures 1 (some .int) ∈ gT := gT_in (List.mem_of_getElem? (i := 1192) (by decide +kernel)) rfl
theorem w_1193 : Cond.methodLink RL 168 yL_chord ∈ gT := gT_in (List.mem_of_getElem? (i := 1193) (by decide +kernel)) rfl
theorem w_1194 : Cond.static yL_chord ∈ gT := gT_in (List.mem_of_getElem? (i := 1194) (by decide +kernel)) rfl
theorem w_1196 : Cond.methodLink RL 62 yX10_chord ∈ gT := gT_in (List.mem_of_getElem? (i := 1196) (by decide +kernel)) rfl
theorem w_1197 : Cond.instanceMethod yX10_chord ∈ gT := gT_in (List.mem_of_getElem? (i := 1197) (by decide +kernel)) rfl
theorem w_1198 : Cond.selects RX10 yX10_chord yX10_chord ∈ gT := gT_in (List.mem_of_getElem? (i := 1198) (by decide +kernel)) rfl
theorem w_1199 : Cond.code yX10_chord cX10_chord 10 (some .int) ∈ gT := gT_in (List.mem_of_getElem? (i := 1199) (by decide +kernel)) rfl
theorem w_1200 : Cond.methodLink RL 171 yL_cart ∈ gT := gT_in (List.mem_of_getElem? (i := 1200) (by decide +kernel)) rfl
theorem w_1201 : Cond.static yL_cart ∈ gT := gT_in (List.mem_of_getElem? (i := 1201) (by decide +kernel)) rfl
theorem w_1203 : Cond.methodLink RL 65 yX10_cart ∈ gT := gT_in (List.mem_of_getElem? (i := 1203) (by decide +kernel)) rfl
theorem w_1204 : Cond.instanceMethod yX10_cart ∈ gT := gT_in (List.mem_of_getElem? (i := 1204) (by decide +kernel)) rfl
theorem w_1205 : Cond.selects RX10 yX10_cart yX10_cart ∈ gT := gT_in (List.mem_of_getElem? (i := 1205) (by decide +kernel)) rfl
theorem w_1206 : Cond.code yX10_cart cX10_cart 2 (some .int) ∈ gT := gT_in (List.mem_of_getElem? (i := 1206) (by decide +kernel)) rfl
theorem w_1207 : Cond.methodLink RX10 304 yX1_findCart ∈ gT := gT_in (List.mem_of_getElem? (i := 1207) (by decide +kernel)) rfl
theorem w_1208 : Cond.instanceMethod yX1_findCart ∈ gT := gT_in (List.mem_of_getElem? (i := 1208) (by decide +kernel)) rfl
theorem w_1209 : Cond.selects RX1 yX1_findCart yX1_findCart ∈ gT := gT_in (List.mem_of_getElem? (i := 1209) (by decide +kernel)) rfl
theorem w_1210 : Cond.code yX1_findCart cX1_findCart 5 none ∈ gT := gT_in (List.mem_of_getElem? (i := 1210) (by decide +kernel)) rfl
theorem w_1211 : Cond.methodLink RX1 84 yX2_swungTo ∈ gT := gT_in (List.mem_of_getElem? (i := 1211) (by decide +kernel)) rfl
theorem w_1212 : Cond.methodLink RX1 99 yX1_tryCart ∈ gT := gT_in (List.mem_of_getElem? (i := 1212) (by decide +kernel)) rfl
theorem w_1214 : Cond.instanceMethod yX1_tryCart ∈ gT := gT_in (List.mem_of_getElem? (i := 1214) (by decide +kernel)) rfl
theorem w_1215 : Cond.code yX1_tryCart cX1_tryCart 4 none ∈ gT := gT_in (List.mem_of_getElem? (i := 1215) (by decide +kernel)) rfl
theorem w_1216 : Cond.methodLink RX1 103 yX1_modelOf ∈ gT := gT_in (List.mem_of_getElem? (i := 1216) (by decide +kernel)) rfl
theorem w_1218 : Cond.instanceMethod yX1_modelOf ∈ gT := gT_in (List.mem_of_getElem? (i := 1218) (by decide +kernel)) rfl
theorem w_1219 : Cond.code yX1_modelOf cX1_modelOf 5 (some .int) ∈ gT := gT_in (List.mem_of_getElem? (i := 1219) (by decide +kernel)) rfl
theorem w_1220 : Cond.methodLink RX1 107 yX1_isStill ∈ gT := gT_in (List.mem_of_getElem? (i := 1220) (by decide +kernel)) rfl
theorem w_1222 : Cond.instanceMethod yX1_isStill ∈ gT := gT_in (List.mem_of_getElem? (i := 1222) (by decide +kernel)) rfl
theorem w_1223 : Cond.code yX1_isStill cX1_isStill 2 (some .boolean) ∈ gT := gT_in (List.mem_of_getElem? (i := 1223) (by decide +kernel)) rfl
theorem w_1224 : Cond.methodLink RX1 111 yX1_isCartsWay ∈ gT := gT_in (List.mem_of_getElem? (i := 1224) (by decide +kernel)) rfl
theorem w_1226 : Cond.instanceMethod yX1_isCartsWay ∈ gT := gT_in (List.mem_of_getElem? (i := 1226) (by decide +kernel)) rfl
theorem w_1227 : Cond.code yX1_isCartsWay cX1_isCartsWay 2 (some .boolean) ∈ gT := gT_in (List.mem_of_getElem? (i := 1227) (by decide +kernel)) rfl
theorem w_1228 : Cond.methodLink RL 182 yL_factor ∈ gT := gT_in (List.mem_of_getElem? (i := 1228) (by decide +kernel)) rfl
theorem w_1229 : Cond.static yL_factor ∈ gT := gT_in (List.mem_of_getElem? (i := 1229) (by decide +kernel)) rfl
theorem w_1231 : Cond.methodLink RL 68 yX10_factor ∈ gT := gT_in (List.mem_of_getElem? (i := 1231) (by decide +kernel)) rfl
theorem w_1232 : Cond.instanceMethod yX10_factor ∈ gT := gT_in (List.mem_of_getElem? (i := 1232) (by decide +kernel)) rfl
theorem w_1233 : Cond.selects RX10 yX10_factor yX10_factor ∈ gT := gT_in (List.mem_of_getElem? (i := 1233) (by decide +kernel)) rfl
theorem w_1234 : Cond.code yX10_factor cX10_factor 2 (some .int) ∈ gT := gT_in (List.mem_of_getElem? (i := 1234) (by decide +kernel)) rfl
theorem w_1235 : Cond.methodLink RX10 323 yX5_findBest ∈ gT := gT_in (List.mem_of_getElem? (i := 1235) (by decide +kernel)) rfl
theorem w_1236 : Cond.instanceMethod yX5_findBest ∈ gT := gT_in (List.mem_of_getElem? (i := 1236) (by decide +kernel)) rfl
theorem w_1237 : Cond.selects RX5 yX5_findBest yX5_findBest ∈ gT := gT_in (List.mem_of_getElem? (i := 1237) (by decide +kernel)) rfl
theorem w_1238 : Cond.code yX5_findBest cX5_findBest 5 none ∈ gT := gT_in (List.mem_of_getElem? (i := 1238) (by decide +kernel)) rfl
theorem w_1239 : Cond.methodLink RX5 21 yX5_fewestUnlike ∈ gT := gT_in (List.mem_of_getElem? (i := 1239) (by decide +kernel)) rfl
theorem w_1241 : Cond.instanceMethod yX5_fewestUnlike ∈ gT := gT_in (List.mem_of_getElem? (i := 1241) (by decide +kernel)) rfl
theorem w_1242 : Cond.code yX5_fewestUnlike cX5_fewestUnlike 7 (some .int) ∈ gT := gT_in (List.mem_of_getElem? (i := 1242) (by decide +kernel)) rfl
theorem w_1243 : Cond.methodLink RX5 34 yJ9_abs_0f7a4 ∈ gT := gT_in (List.mem_of_getElem? (i := 1243) (by decide +kernel)) rfl
theorem w_1244 : Cond.methodLink RX5 40 yX5_unlikeFigures ∈ gT := gT_in (List.mem_of_getElem? (i := 1244) (by decide +kernel)) rfl
theorem w_1245 : Cond.static yX5_unlikeFigures ∈ gT := gT_in (List.mem_of_getElem? (i := 1245) (by decide +kernel)) rfl
theorem w_1246 : Cond.code yX5_unlikeFigures cX5_unlikeFigures 6 (some .int) ∈ gT := gT_in (List.mem_of_getElem? (i := 1246) (by decide +kernel)) rfl
theorem w_1247 : Cond.methodLink RX5 44 yJ9_min_7cf53 ∈ gT := gT_in (List.mem_of_getElem? (i := 1247) (by decide +kernel)) rfl
theorem w_1248 : Cond.methodLink RL 185 yL_laid ∈ gT := gT_in (List.mem_of_getElem? (i := 1248) (by decide +kernel)) rfl
theorem w_1249 : Cond.static yL_laid ∈ gT := gT_in (List.mem_of_getElem? (i := 1249) (by decide +kernel)) rfl
theorem w_1251 : Cond.methodLink RL 71 yX10_laid ∈ gT := gT_in (List.mem_of_getElem? (i := 1251) (by decide +kernel)) rfl
theorem w_1252 : Cond.instanceMethod yX10_laid ∈ gT := gT_in (List.mem_of_getElem? (i := 1252) (by decide +kernel)) rfl
theorem w_1253 : Cond.selects RX10 yX10_laid yX10_laid ∈ gT := gT_in (List.mem_of_getElem? (i := 1253) (by decide +kernel)) rfl
theorem w_1254 : Cond.code yX10_laid cX10_laid 6 (some .int) ∈ gT := gT_in (List.mem_of_getElem? (i := 1254) (by decide +kernel)) rfl
theorem w_1255 : Cond.methodLink RX10 333 yX10_markPortrait ∈ gT := gT_in (List.mem_of_getElem? (i := 1255) (by decide +kernel)) rfl
theorem w_1257 : Cond.instanceMethod yX10_markPortrait ∈ gT := gT_in (List.mem_of_getElem? (i := 1257) (by decide +kernel)) rfl
theorem w_1258 : Cond.code yX10_markPortrait cX10_markPortrait 5 none ∈ gT := gT_in (List.mem_of_getElem? (i := 1258) (by decide +kernel)) rfl
theorem w_1259 : Cond.methodLink RL 189 yL_evening ∈ gT := gT_in (List.mem_of_getElem? (i := 1259) (by decide +kernel)) rfl
theorem w_1260 : Cond.static yL_evening ∈ gT := gT_in (List.mem_of_getElem? (i := 1260) (by decide +kernel)) rfl
theorem w_1262 : Cond.methodLink RL 75 yX10_evening ∈ gT := gT_in (List.mem_of_getElem? (i := 1262) (by decide +kernel)) rfl
theorem w_1263 : Cond.instanceMethod yX10_evening ∈ gT := gT_in (List.mem_of_getElem? (i := 1263) (by decide +kernel)) rfl
theorem w_1264 : Cond.selects RX10 yX10_evening yX10_evening ∈ gT := gT_in (List.mem_of_getElem? (i := 1264) (by decide +kernel)) rfl
theorem w_1265 : Cond.code yX10_evening cX10_evening 2 (some .int) ∈ gT := gT_in (List.mem_of_getElem? (i := 1265) (by decide +kernel)) rfl
theorem w_1266 : Cond.methodLink RX10 337 yX0_make ∈ gT := gT_in (List.mem_of_getElem? (i := 1266) (by decide +kernel)) rfl
theorem w_1267 : Cond.instanceMethod yX0_make ∈ gT := gT_in (List.mem_of_getElem? (i := 1267) (by decide +kernel)) rfl
theorem w_1268 : Cond.selects RX0 yX0_make yX0_make ∈ gT := gT_in (List.mem_of_getElem? (i := 1268) (by decide +kernel)) rfl
theorem w_1269 : Cond.code yX0_make cX0_make 6 (some .int) ∈ gT := gT_in (List.mem_of_getElem? (i := 1269) (by decide +kernel)) rfl
theorem w_1270 : Cond.methodLink RX0 31 yX0_measure ∈ gT := gT_in (List.mem_of_getElem? (i := 1270) (by decide +kernel)) rfl
theorem w_1272 : Cond.instanceMethod yX0_measure ∈ gT := gT_in (List.mem_of_getElem? (i := 1272) (by decide +kernel)) rfl
theorem w_1273 : Cond.code yX0_measure cX0_measure 7 none ∈ gT := gT_in (List.mem_of_getElem? (i := 1273) (by decide +kernel)) rfl
theorem w_1274 : Cond.methodLink RX0 55 yX0_apartOf ∈ gT := gT_in (List.mem_of_getElem? (i := 1274) (by decide +kernel)) rfl
theorem w_1275 : Cond.static yX0_apartOf ∈ gT := gT_in (List.mem_of_getElem? (i := 1275) (by decide +kernel)) rfl
theorem w_1276 : Cond.code yX0_apartOf cX0_apartOf 2 (some .int) ∈ gT := gT_in (List.mem_of_getElem? (i := 1276) (by decide +kernel)) rfl
theorem w_1277 : Cond.methodLink RX0 59 yX0_pennies ∈ gT := gT_in (List.mem_of_getElem? (i := 1277) (by decide +kernel)) rfl
theorem w_1278 : Cond.static yX0_pennies ∈ gT := gT_in (List.mem_of_getElem? (i := 1278) (by decide +kernel)) rfl
theorem w_1279 : Cond.code yX0_pennies cX0_pennies 6 (some .int) ∈ gT := gT_in (List.mem_of_getElem? (i := 1279) (by decide +kernel)) rfl
theorem w_1280 : Cond.methodLink RX0 63 yJ9_abs_0f7a4 ∈ gT := gT_in (List.mem_of_getElem? (i := 1280) (by decide +kernel)) rfl
theorem w_1281 : Cond.methodLink RX0 35 yX0_has ∈ gT := gT_in (List.mem_of_getElem? (i := 1281) (by decide +kernel)) rfl
theorem w_1282 : Cond.static yX0_has ∈ gT := gT_in (List.mem_of_getElem? (i := 1282) (by decide +kernel)) rfl
theorem w_1283 : Cond.code yX0_has cX0_has 2 (some .boolean) ∈ gT := gT_in (List.mem_of_getElem? (i := 1283) (by decide +kernel)) rfl
theorem w_1284 : Cond.methodLink RX0 39 yX0_weigh ∈ gT := gT_in (List.mem_of_getElem? (i := 1284) (by decide +kernel)) rfl
theorem w_1286 : Cond.instanceMethod yX0_weigh ∈ gT := gT_in (List.mem_of_getElem? (i := 1286) (by decide +kernel)) rfl
theorem w_1287 : Cond.code yX0_weigh cX0_weigh 9 none ∈ gT := gT_in (List.mem_of_getElem? (i := 1287) (by decide +kernel)) rfl
theorem w_1288 : Cond.constant RX0 68 (1000000) ∈ gT := gT_in (List.mem_of_getElem? (i := 1288) (by decide +kernel)) rfl
theorem w_1289 : Cond.methodLink RX0 69 yX0_stateOf ∈ gT := gT_in (List.mem_of_getElem? (i := 1289) (by decide +kernel)) rfl
theorem w_1290 : Cond.static yX0_stateOf ∈ gT := gT_in (List.mem_of_getElem? (i := 1290) (by decide +kernel)) rfl
theorem w_1291 : Cond.code yX0_stateOf cX0_stateOf 2 (some .int) ∈ gT := gT_in (List.mem_of_getElem? (i := 1291) (by decide +kernel)) rfl
theorem w_1292 : Cond.methodLink RX0 72 yJ9_min_7cf53 ∈ gT := gT_in (List.mem_of_getElem? (i := 1292) (by decide +kernel)) rfl
theorem w_1293 : Cond.methodLink RX0 43 yX0_choose ∈ gT := gT_in (List.mem_of_getElem? (i := 1293) (by decide +kernel)) rfl
theorem w_1295 : Cond.instanceMethod yX0_choose ∈ gT := gT_in (List.mem_of_getElem? (i := 1295) (by decide +kernel)) rfl
theorem w_1296 : Cond.code yX0_choose cX0_choose 10 (some .int) ∈ gT := gT_in (List.mem_of_getElem? (i := 1296) (by decide +kernel)) rfl
theorem w_1297 : Cond.methodLink RX0 75 yX0_through ∈ gT := gT_in (List.mem_of_getElem? (i := 1297) (by decide +kernel)) rfl
theorem w_1299 : Cond.instanceMethod yX0_through ∈ gT := gT_in (List.mem_of_getElem? (i := 1299) (by decide +kernel)) rfl
theorem w_1300 : Cond.code yX0_through cX0_through 8 (some .int) ∈ gT := gT_in (List.mem_of_getElem? (i := 1300) (by decide +kernel)) rfl
theorem w_1301 : Cond.methodLink RX0 79 yX0_withTea ∈ gT := gT_in (List.mem_of_getElem? (i := 1301) (by decide +kernel)) rfl
theorem w_1303 : Cond.instanceMethod yX0_withTea ∈ gT := gT_in (List.mem_of_getElem? (i := 1303) (by decide +kernel)) rfl
theorem w_1304 : Cond.code yX0_withTea cX0_withTea 6 (some .int) ∈ gT := gT_in (List.mem_of_getElem? (i := 1304) (by decide +kernel)) rfl
theorem w_1305 : Cond.methodLink RX0 83 yX0_soonestTea ∈ gT := gT_in (List.mem_of_getElem? (i := 1305) (by decide +kernel)) rfl
theorem w_1307 : Cond.instanceMethod yX0_soonestTea ∈ gT := gT_in (List.mem_of_getElem? (i := 1307) (by decide +kernel)) rfl
theorem w_1308 : Cond.code yX0_soonestTea cX0_soonestTea 3 (some .int) ∈ gT := gT_in (List.mem_of_getElem? (i := 1308) (by decide +kernel)) rfl
theorem w_1309 : Cond.methodLink RX0 86 yX0_costWithTea ∈ gT := gT_in (List.mem_of_getElem? (i := 1309) (by decide +kernel)) rfl
theorem w_1311 : Cond.instanceMethod yX0_costWithTea ∈ gT := gT_in (List.mem_of_getElem? (i := 1311) (by decide +kernel)) rfl
theorem w_1312 : Cond.code yX0_costWithTea cX0_costWithTea 5 (some .int) ∈ gT := gT_in (List.mem_of_getElem? (i := 1312) (by decide +kernel)) rfl
theorem w_1313 : Cond.methodLink RL 192 yL_drawing ∈ gT := gT_in (List.mem_of_getElem? (i := 1313) (by decide +kernel)) rfl
theorem w_1314 : Cond.static yL_drawing ∈ gT := gT_in (List.mem_of_getElem? (i := 1314) (by decide +kernel)) rfl
theorem w_1316 : Cond.methodLink RL 78 yX10_drawing ∈ gT := gT_in (List.mem_of_getElem? (i := 1316) (by decide +kernel)) rfl
theorem w_1317 : Cond.instanceMethod yX10_drawing ∈ gT := gT_in (List.mem_of_getElem? (i := 1317) (by decide +kernel)) rfl
theorem w_1318 : Cond.selects RX10 yX10_drawing yX10_drawing ∈ gT := gT_in (List.mem_of_getElem? (i := 1318) (by decide +kernel)) rfl
theorem w_1319 : Cond.code yX10_drawing cX10_drawing 2 (some .int) ∈ gT := gT_in (List.mem_of_getElem? (i := 1319) (by decide +kernel)) rfl
theorem w_1321 : Cond.classLink RL 82 RX11 ∈ gT := gT_in (List.mem_of_getElem? (i := 1321) (by decide +kernel)) rfl
theorem w_1322 : Cond.instantiable RX11 61 ∈ gT := gT_in (List.mem_of_getElem? (i := 1322) (by decide +kernel)) rfl
theorem w_1323 : Cond.methodLink RL 84 yX11_init ∈ gT := gT_in (List.mem_of_getElem? (i := 1323) (by decide +kernel)) rfl
theorem w_1324 : Cond.instanceMethod yX11_init ∈ gT := gT_in (List.mem_of_getElem? (i := 1324) (by decide +kernel)) rfl
theorem w_1325 : Cond.code yX11_init cX11_init 1 none ∈ gT := gT_in (List.mem_of_getElem? (i := 1325) (by decide +kernel)) rfl
theorem w_1326 : Cond.methodLink RX11 1 ⟨"java/lang/Object", "<init>", "()V"⟩ ∈ gT := gT_in (List.mem_of_getElem? (i := 1326) (by decide +kernel)) rfl
theorem w_1327 : Cond.fieldLink RX11 113 "PenSwingsModel" "thrown" "I" ∈ gT := gT_in (List.mem_of_getElem? (i := 1327) (by decide +kernel)) rfl
theorem w_1328 : Cond.fieldLink RX11 216 "PenSwingsModel" "told" "I" ∈ gT := gT_in (List.mem_of_getElem? (i := 1328) (by decide +kernel)) rfl
theorem w_1329 : Cond.fieldLink RX11 219 "PenSwingsModel" "carts" "I" ∈ gT := gT_in (List.mem_of_getElem? (i := 1329) (by decide +kernel)) rfl
theorem w_1330 : Cond.fieldLink RX11 7 "PenSwingsModel" "kind" "[I" ∈ gT := gT_in (List.mem_of_getElem? (i := 1330) (by decide +kernel)) rfl
theorem w_1331 : Cond.fieldLink RX11 13 "PenSwingsModel" "length" "[I" ∈ gT := gT_in (List.mem_of_getElem? (i := 1331) (by decide +kernel)) rfl
theorem w_1332 : Cond.fieldLink RX11 16 "PenSwingsModel" "loss" "[I" ∈ gT := gT_in (List.mem_of_getElem? (i := 1332) (by decide +kernel)) rfl
theorem w_1333 : Cond.fieldLink RX11 19 "PenSwingsModel" "sets" "[I" ∈ gT := gT_in (List.mem_of_getElem? (i := 1333) (by decide +kernel)) rfl
theorem w_1334 : Cond.fieldLink RX11 22 "PenSwingsModel" "cart" "[I" ∈ gT := gT_in (List.mem_of_getElem? (i := 1334) (by decide +kernel)) rfl
theorem w_1335 : Cond.fieldLink RX11 25 "PenSwingsModel" "tape" "[I" ∈ gT := gT_in (List.mem_of_getElem? (i := 1335) (by decide +kernel)) rfl
theorem w_1336 : Cond.fieldLink RX11 116 "PenSwingsModel" "taped" "I" ∈ gT := gT_in (List.mem_of_getElem? (i := 1336) (by decide +kernel)) rfl
theorem w_1337 : Cond.fieldLink RX11 169 "PenSwingsModel" "faultKind" "I" ∈ gT := gT_in (List.mem_of_getElem? (i := 1337) (by decide +kernel)) rfl
theorem w_1338 : Cond.fieldLink RX11 28 "PenSwingsModel" "faultPlace" "I" ∈ gT := gT_in (List.mem_of_getElem? (i := 1338) (by decide +kernel)) rfl
theorem w_1339 : Cond.fieldLink RX11 32 "PenSwingsModel" "refused" "[I" ∈ gT := gT_in (List.mem_of_getElem? (i := 1339) (by decide +kernel)) rfl
theorem w_1340 : Cond.fieldLink RX11 123 "PenSwingsModel" "long1" "I" ∈ gT := gT_in (List.mem_of_getElem? (i := 1340) (by decide +kernel)) rfl
theorem w_1341 : Cond.fieldLink RX11 126 "PenSwingsModel" "next" "I" ∈ gT := gT_in (List.mem_of_getElem? (i := 1341) (by decide +kernel)) rfl
theorem w_1342 : Cond.fieldLink RX11 146 "PenSwingsModel" "sort" "I" ∈ gT := gT_in (List.mem_of_getElem? (i := 1342) (by decide +kernel)) rfl
theorem w_1343 : Cond.fieldLink RX11 133 "PenSwingsModel" "place" "I" ∈ gT := gT_in (List.mem_of_getElem? (i := 1343) (by decide +kernel)) rfl
theorem w_1344 : Cond.fieldLink RX11 156 "PenSwingsModel" "long0" "I" ∈ gT := gT_in (List.mem_of_getElem? (i := 1344) (by decide +kernel)) rfl
theorem w_1345 : Cond.fieldLink RX11 140 "PenSwingsModel" "value" "I" ∈ gT := gT_in (List.mem_of_getElem? (i := 1345) (by decide +kernel)) rfl
theorem w_1346 : Cond.fieldLink RX11 143 "PenSwingsModel" "sign" "I" ∈ gT := gT_in (List.mem_of_getElem? (i := 1346) (by decide +kernel)) rfl
theorem w_1347 : Cond.fieldLink RX11 136 "PenSwingsModel" "word" "J" ∈ gT := gT_in (List.mem_of_getElem? (i := 1347) (by decide +kernel)) rfl
end
section
theorem w_1348 : Cond.fieldLink RX11 186 "PenSwingsModel" "newTold" "I" ∈ gT := gT_in (List.mem_of_getElem? (i := 1348) (by decide +kernel)) rfl
theorem w_1349 : Cond.fieldLink RX11 199 "PenSwingsModel" "newCarts" "I" ∈ gT := gT_in (List.mem_of_getElem? (i := 1349) (by decide +kernel)) rfl
theorem w_1350 : Cond.fieldLink RX11 205 "PenSwingsModel" "hasPennies" "Z" ∈ gT := gT_in (List.mem_of_getElem? (i := 1350) (by decide +kernel)) rfl
theorem w_1351 : Cond.fieldLink RX11 35 "PenSwingsModel" "newKind" "[I" ∈ gT := gT_in (List.mem_of_getElem? (i := 1351) (by decide +kernel)) rfl
theorem w_1352 : Cond.fieldLink RX11 38 "PenSwingsModel" "newLength" "[I" ∈ gT := gT_in (List.mem_of_getElem? (i := 1352) (by decide +kernel)) rfl
theorem w_1353 : Cond.fieldLink RX11 41 "PenSwingsModel" "newLoss" "[I" ∈ gT := gT_in (List.mem_of_getElem? (i := 1353) (by decide +kernel)) rfl
theorem w_1354 : Cond.fieldLink RX11 44 "PenSwingsModel" "newSets" "[I" ∈ gT := gT_in (List.mem_of_getElem? (i := 1354) (by decide +kernel)) rfl
theorem w_1355 : Cond.fieldLink RX11 47 "PenSwingsModel" "newCart" "[I" ∈ gT := gT_in (List.mem_of_getElem? (i := 1355) (by decide +kernel)) rfl
theorem w_1356 : Cond.fieldLink RX11 50 "PenSwingsModel" "marks" "[I" ∈ gT := gT_in (List.mem_of_getElem? (i := 1356) (by decide +kernel)) rfl
theorem w_1357 : Cond.fieldLink RX11 226 "PenSwingsModel" "portraits" "I" ∈ gT := gT_in (List.mem_of_getElem? (i := 1357) (by decide +kernel)) rfl
theorem w_1358 : Cond.fieldLink RX11 53 "PenSwingsModel" "portrait" "[I" ∈ gT := gT_in (List.mem_of_getElem? (i := 1358) (by decide +kernel)) rfl
theorem w_1359 : Cond.fieldLink RX11 56 "PenSwingsModel" "head" "[I" ∈ gT := gT_in (List.mem_of_getElem? (i := 1359) (by decide +kernel)) rfl
theorem w_1360 : Cond.fieldLink RX11 229 "PenSwingsModel" "points" "I" ∈ gT := gT_in (List.mem_of_getElem? (i := 1360) (by decide +kernel)) rfl
theorem w_1361 : Cond.fieldLink RX11 59 "PenSwingsModel" "point" "[I" ∈ gT := gT_in (List.mem_of_getElem? (i := 1361) (by decide +kernel)) rfl
theorem w_1362 : Cond.fieldLink RX11 62 "PenSwingsModel" "trying" "[I" ∈ gT := gT_in (List.mem_of_getElem? (i := 1362) (by decide +kernel)) rfl
theorem w_1363 : Cond.fieldLink RX11 232 "PenSwingsModel" "birthdays" "I" ∈ gT := gT_in (List.mem_of_getElem? (i := 1363) (by decide +kernel)) rfl
theorem w_1364 : Cond.fieldLink RX11 65 "PenSwingsModel" "birthday" "[I" ∈ gT := gT_in (List.mem_of_getElem? (i := 1364) (by decide +kernel)) rfl
theorem w_1365 : Cond.fieldLink RX11 68 "PenSwingsModel" "order" "[I" ∈ gT := gT_in (List.mem_of_getElem? (i := 1365) (by decide +kernel)) rfl
theorem w_1366 : Cond.fieldLink RX11 71 "PenSwingsModel" "evening" "[I" ∈ gT := gT_in (List.mem_of_getElem? (i := 1366) (by decide +kernel)) rfl
theorem w_1367 : Cond.fieldLink RX11 74 "PenSwingsModel" "evenLong" "I" ∈ gT := gT_in (List.mem_of_getElem? (i := 1367) (by decide +kernel)) rfl
theorem w_1368 : Cond.fieldLink RX11 322 "PenSwingsModel" "tea" "I" ∈ gT := gT_in (List.mem_of_getElem? (i := 1368) (by decide +kernel)) rfl
theorem w_1369 : Cond.fieldLink RX11 77 "PenSwingsModel" "code" "[I" ∈ gT := gT_in (List.mem_of_getElem? (i := 1369) (by decide +kernel)) rfl
theorem w_1370 : Cond.fieldLink RX11 80 "PenSwingsModel" "newCode" "[I" ∈ gT := gT_in (List.mem_of_getElem? (i := 1370) (by decide +kernel)) rfl
theorem w_1371 : Cond.fieldLink RX11 83 "PenSwingsModel" "openKind" "[I" ∈ gT := gT_in (List.mem_of_getElem? (i := 1371) (by decide +kernel)) rfl
theorem w_1372 : Cond.fieldLink RX11 86 "PenSwingsModel" "openAt" "[I" ∈ gT := gT_in (List.mem_of_getElem? (i := 1372) (by decide +kernel)) rfl
theorem w_1373 : Cond.fieldLink RX11 89 "PenSwingsModel" "counts" "[I" ∈ gT := gT_in (List.mem_of_getElem? (i := 1373) (by decide +kernel)) rfl
theorem w_1374 : Cond.fieldLink RX11 328 "PenSwingsModel" "top" "I" ∈ gT := gT_in (List.mem_of_getElem? (i := 1374) (by decide +kernel)) rfl
theorem w_1375 : Cond.fieldLink RX11 334 "PenSwingsModel" "opened" "I" ∈ gT := gT_in (List.mem_of_getElem? (i := 1375) (by decide +kernel)) rfl
theorem w_1376 : Cond.fieldLink RX11 92 "PenSwingsModel" "marked" "[I" ∈ gT := gT_in (List.mem_of_getElem? (i := 1376) (by decide +kernel)) rfl
theorem w_1377 : Cond.fieldLink RX11 95 "PenSwingsModel" "going" "[I" ∈ gT := gT_in (List.mem_of_getElem? (i := 1377) (by decide +kernel)) rfl
theorem w_1378 : Cond.fieldLink RX11 369 "PenSwingsModel" "began" "I" ∈ gT := gT_in (List.mem_of_getElem? (i := 1378) (by decide +kernel)) rfl
theorem w_1379 : Cond.fieldLink RX11 356 "PenSwingsModel" "tick" "I" ∈ gT := gT_in (List.mem_of_getElem? (i := 1379) (by decide +kernel)) rfl
theorem w_1380 : Cond.fieldLink RX11 353 "PenSwingsModel" "isTurned" "Z" ∈ gT := gT_in (List.mem_of_getElem? (i := 1380) (by decide +kernel)) rfl
theorem w_1381 : Cond.fieldLink RX11 366 "PenSwingsModel" "isSpent" "Z" ∈ gT := gT_in (List.mem_of_getElem? (i := 1381) (by decide +kernel)) rfl
theorem w_1382 : Cond.fieldLink RX11 235 "PenSwingsModel" "hasImage" "Z" ∈ gT := gT_in (List.mem_of_getElem? (i := 1382) (by decide +kernel)) rfl
theorem w_1383 : Cond.fieldLink RX11 98 "PenSwingsModel" "imageOf" "[I" ∈ gT := gT_in (List.mem_of_getElem? (i := 1383) (by decide +kernel)) rfl
theorem w_1384 : Cond.fieldLink RX11 101 "PenSwingsModel" "imageSets" "[I" ∈ gT := gT_in (List.mem_of_getElem? (i := 1384) (by decide +kernel)) rfl
theorem w_1385 : Cond.fieldLink RX11 104 "PenSwingsModel" "imagePortrait" "[I" ∈ gT := gT_in (List.mem_of_getElem? (i := 1385) (by decide +kernel)) rfl
theorem w_1386 : Cond.fieldLink RX11 107 "PenSwingsModel" "imagePoint" "[I" ∈ gT := gT_in (List.mem_of_getElem? (i := 1386) (by decide +kernel)) rfl
theorem w_1387 : Cond.fieldLink RX11 110 "PenSwingsModel" "imageBirthday" "[I" ∈ gT := gT_in (List.mem_of_getElem? (i := 1387) (by decide +kernel)) rfl
theorem w_1511 : Cond.methodLink RL 95 yX11_thrown ∈ gT := gT_in (List.mem_of_getElem? (i := 1511) (by decide +kernel)) rfl
theorem w_1512 : Cond.instanceMethod yX11_thrown ∈ gT := gT_in (List.mem_of_getElem? (i := 1512) (by decide +kernel)) rfl
theorem w_1513 : Cond.selects RX11 yX11_thrown yX11_thrown ∈ gT := gT_in (List.mem_of_getElem? (i := 1513) (by decide +kernel)) rfl
theorem w_1514 : Cond.code yX11_thrown cX11_thrown 1 (some .int) ∈ gT := gT_in (List.mem_of_getElem? (i := 1514) (by decide +kernel)) rfl
theorem w_1515 : Cond.methodLink RL 88 yX11_feed ∈ gT := gT_in (List.mem_of_getElem? (i := 1515) (by decide +kernel)) rfl
theorem w_1516 : Cond.instanceMethod yX11_feed ∈ gT := gT_in (List.mem_of_getElem? (i := 1516) (by decide +kernel)) rfl
theorem w_1517 : Cond.selects RX11 yX11_feed yX11_feed ∈ gT := gT_in (List.mem_of_getElem? (i := 1517) (by decide +kernel)) rfl
theorem w_1518 : Cond.code yX11_feed cX11_feed 6 (some .int) ∈ gT := gT_in (List.mem_of_getElem? (i := 1518) (by decide +kernel)) rfl
theorem w_1519 : Cond.methodLink RX11 119 yX11_lays ∈ gT := gT_in (List.mem_of_getElem? (i := 1519) (by decide +kernel)) rfl
theorem w_1521 : Cond.instanceMethod yX11_lays ∈ gT := gT_in (List.mem_of_getElem? (i := 1521) (by decide +kernel)) rfl
theorem w_1522 : Cond.code yX11_lays cX11_lays 3 none ∈ gT := gT_in (List.mem_of_getElem? (i := 1522) (by decide +kernel)) rfl
theorem w_1523 : Cond.methodLink RL 94 yX11_swings ∈ gT := gT_in (List.mem_of_getElem? (i := 1523) (by decide +kernel)) rfl
theorem w_1524 : Cond.instanceMethod yX11_swings ∈ gT := gT_in (List.mem_of_getElem? (i := 1524) (by decide +kernel)) rfl
theorem w_1525 : Cond.selects RX11 yX11_swings yX11_swings ∈ gT := gT_in (List.mem_of_getElem? (i := 1525) (by decide +kernel)) rfl
theorem w_1526 : Cond.code yX11_swings cX11_swings 3 (some .int) ∈ gT := gT_in (List.mem_of_getElem? (i := 1526) (by decide +kernel)) rfl
theorem w_1527 : Cond.methodLink RX11 209 yX11_right ∈ gT := gT_in (List.mem_of_getElem? (i := 1527) (by decide +kernel)) rfl
theorem w_1529 : Cond.instanceMethod yX11_right ∈ gT := gT_in (List.mem_of_getElem? (i := 1529) (by decide +kernel)) rfl
theorem w_1530 : Cond.code yX11_right cX11_right 3 (some .boolean) ∈ gT := gT_in (List.mem_of_getElem? (i := 1530) (by decide +kernel)) rfl
theorem w_1531 : Cond.methodLink RX11 176 yX11_steps ∈ gT := gT_in (List.mem_of_getElem? (i := 1531) (by decide +kernel)) rfl
theorem w_1533 : Cond.instanceMethod yX11_steps ∈ gT := gT_in (List.mem_of_getElem? (i := 1533) (by decide +kernel)) rfl
theorem w_1534 : Cond.code yX11_steps cX11_steps 2 none ∈ gT := gT_in (List.mem_of_getElem? (i := 1534) (by decide +kernel)) rfl
theorem w_1535 : Cond.methodLink RX11 129 yX11_byteAt ∈ gT := gT_in (List.mem_of_getElem? (i := 1535) (by decide +kernel)) rfl
theorem w_1537 : Cond.instanceMethod yX11_byteAt ∈ gT := gT_in (List.mem_of_getElem? (i := 1537) (by decide +kernel)) rfl
theorem w_1538 : Cond.code yX11_byteAt cX11_byteAt 2 (some .int) ∈ gT := gT_in (List.mem_of_getElem? (i := 1538) (by decide +kernel)) rfl
theorem w_1539 : Cond.methodLink RX11 149 yX11_isLetter ∈ gT := gT_in (List.mem_of_getElem? (i := 1539) (by decide +kernel)) rfl
theorem w_1540 : Cond.static yX11_isLetter ∈ gT := gT_in (List.mem_of_getElem? (i := 1540) (by decide +kernel)) rfl
theorem w_1541 : Cond.code yX11_isLetter cX11_isLetter 1 (some .boolean) ∈ gT := gT_in (List.mem_of_getElem? (i := 1541) (by decide +kernel)) rfl
theorem w_1542 : Cond.methodLink RX11 153 yX11_isDigit ∈ gT := gT_in (List.mem_of_getElem? (i := 1542) (by decide +kernel)) rfl
theorem w_1543 : Cond.static yX11_isDigit ∈ gT := gT_in (List.mem_of_getElem? (i := 1543) (by decide +kernel)) rfl
theorem w_1544 : Cond.code yX11_isDigit cX11_isDigit 1 (some .boolean) ∈ gT := gT_in (List.mem_of_getElem? (i := 1544) (by decide +kernel)) rfl
theorem w_1545 : Cond.methodLink RX11 172 yX11_isGood ∈ gT := gT_in (List.mem_of_getElem? (i := 1545) (by decide +kernel)) rfl
theorem w_1547 : Cond.instanceMethod yX11_isGood ∈ gT := gT_in (List.mem_of_getElem? (i := 1547) (by decide +kernel)) rfl
theorem w_1548 : Cond.code yX11_isGood cX11_isGood 1 (some .boolean) ∈ gT := gT_in (List.mem_of_getElem? (i := 1548) (by decide +kernel)) rfl
theorem w_1549 : Cond.methodLink RX11 213 yX11_line ∈ gT := gT_in (List.mem_of_getElem? (i := 1549) (by decide +kernel)) rfl
theorem w_1551 : Cond.instanceMethod yX11_line ∈ gT := gT_in (List.mem_of_getElem? (i := 1551) (by decide +kernel)) rfl
theorem w_1552 : Cond.code yX11_line cX11_line 2 none ∈ gT := gT_in (List.mem_of_getElem? (i := 1552) (by decide +kernel)) rfl
theorem w_1553 : Cond.methodLink RX11 189 yX11_is ∈ gT := gT_in (List.mem_of_getElem? (i := 1553) (by decide +kernel)) rfl
theorem w_1555 : Cond.instanceMethod yX11_is ∈ gT := gT_in (List.mem_of_getElem? (i := 1555) (by decide +kernel)) rfl
theorem w_1556 : Cond.code yX11_is cX11_is 2 (some .boolean) ∈ gT := gT_in (List.mem_of_getElem? (i := 1556) (by decide +kernel)) rfl
theorem w_1557 : Cond.methodLink RX11 165 yX11_letters ∈ gT := gT_in (List.mem_of_getElem? (i := 1557) (by decide +kernel)) rfl
theorem w_1558 : Cond.static yX11_letters ∈ gT := gT_in (List.mem_of_getElem? (i := 1558) (by decide +kernel)) rfl
theorem w_1559 : Cond.code yX11_letters cX11_letters 1 (some .long) ∈ gT := gT_in (List.mem_of_getElem? (i := 1559) (by decide +kernel)) rfl
theorem w_1560 : Cond.methodLink RX11 161 yX11_spelled ∈ gT := gT_in (List.mem_of_getElem? (i := 1560) (by decide +kernel)) rfl
theorem w_1561 : Cond.static yX11_spelled ∈ gT := gT_in (List.mem_of_getElem? (i := 1561) (by decide +kernel)) rfl
theorem w_1562 : Cond.code yX11_spelled cX11_spelled 10 (some .long) ∈ gT := gT_in (List.mem_of_getElem? (i := 1562) (by decide +kernel)) rfl
theorem w_1563 : Cond.constantLong RX11 159 (96) ∈ gT := gT_in (List.mem_of_getElem? (i := 1563) (by decide +kernel)) rfl
theorem w_1564 : Cond.methodLink RX11 196 yX11_readsPendulum ∈ gT := gT_in (List.mem_of_getElem? (i := 1564) (by decide +kernel)) rfl
theorem w_1566 : Cond.instanceMethod yX11_readsPendulum ∈ gT := gT_in (List.mem_of_getElem? (i := 1566) (by decide +kernel)) rfl
theorem w_1567 : Cond.code yX11_readsPendulum cX11_readsPendulum 3 none ∈ gT := gT_in (List.mem_of_getElem? (i := 1567) (by decide +kernel)) rfl
theorem w_1568 : Cond.methodLink RX11 179 yX11_wrong ∈ gT := gT_in (List.mem_of_getElem? (i := 1568) (by decide +kernel)) rfl
theorem w_1570 : Cond.instanceMethod yX11_wrong ∈ gT := gT_in (List.mem_of_getElem? (i := 1570) (by decide +kernel)) rfl
theorem w_1571 : Cond.code yX11_wrong cX11_wrong 2 none ∈ gT := gT_in (List.mem_of_getElem? (i := 1571) (by decide +kernel)) rfl
theorem w_1572 : Cond.methodLink RX11 192 yX11_need ∈ gT := gT_in (List.mem_of_getElem? (i := 1572) (by decide +kernel)) rfl
theorem w_1574 : Cond.instanceMethod yX11_need ∈ gT := gT_in (List.mem_of_getElem? (i := 1574) (by decide +kernel)) rfl
theorem w_1575 : Cond.code yX11_need cX11_need 2 none ∈ gT := gT_in (List.mem_of_getElem? (i := 1575) (by decide +kernel)) rfl
theorem w_1576 : Cond.methodLink RX11 182 yX11_number ∈ gT := gT_in (List.mem_of_getElem? (i := 1576) (by decide +kernel)) rfl
theorem w_1578 : Cond.instanceMethod yX11_number ∈ gT := gT_in (List.mem_of_getElem? (i := 1578) (by decide +kernel)) rfl
theorem w_1579 : Cond.code yX11_number cX11_number 4 (some .int) ∈ gT := gT_in (List.mem_of_getElem? (i := 1579) (by decide +kernel)) rfl
theorem w_1580 : Cond.methodLink RX11 202 yX11_signed ∈ gT := gT_in (List.mem_of_getElem? (i := 1580) (by decide +kernel)) rfl
theorem w_1582 : Cond.instanceMethod yX11_signed ∈ gT := gT_in (List.mem_of_getElem? (i := 1582) (by decide +kernel)) rfl
theorem w_1583 : Cond.code yX11_signed cX11_signed 4 (some .int) ∈ gT := gT_in (List.mem_of_getElem? (i := 1583) (by decide +kernel)) rfl
theorem w_1584 : Cond.methodLink RX11 222 yX11_copies ∈ gT := gT_in (List.mem_of_getElem? (i := 1584) (by decide +kernel)) rfl
theorem w_1586 : Cond.instanceMethod yX11_copies ∈ gT := gT_in (List.mem_of_getElem? (i := 1586) (by decide +kernel)) rfl
theorem w_1587 : Cond.code yX11_copies cX11_copies 4 none ∈ gT := gT_in (List.mem_of_getElem? (i := 1587) (by decide +kernel)) rfl
theorem w_1588 : Cond.methodLink RL 111 yX11_fault ∈ gT := gT_in (List.mem_of_getElem? (i := 1588) (by decide +kernel)) rfl
theorem w_1589 : Cond.instanceMethod yX11_fault ∈ gT := gT_in (List.mem_of_getElem? (i := 1589) (by decide +kernel)) rfl
theorem w_1590 : Cond.selects RX11 yX11_fault yX11_fault ∈ gT := gT_in (List.mem_of_getElem? (i := 1590) (by decide +kernel)) rfl
theorem w_1591 : Cond.code yX11_fault cX11_fault 1 (some .int) ∈ gT := gT_in (List.mem_of_getElem? (i := 1591) (by decide +kernel)) rfl
theorem w_1592 : Cond.methodLink RL 114 yX11_count ∈ gT := gT_in (List.mem_of_getElem? (i := 1592) (by decide +kernel)) rfl
theorem w_1593 : Cond.instanceMethod yX11_count ∈ gT := gT_in (List.mem_of_getElem? (i := 1593) (by decide +kernel)) rfl
theorem w_1594 : Cond.selects RX11 yX11_count yX11_count ∈ gT := gT_in (List.mem_of_getElem? (i := 1594) (by decide +kernel)) rfl
theorem w_1595 : Cond.code yX11_count cX11_count 2 (some .int) ∈ gT := gT_in (List.mem_of_getElem? (i := 1595) (by decide +kernel)) rfl
theorem w_1596 : Cond.methodLink RX11 238 yX11_within ∈ gT := gT_in (List.mem_of_getElem? (i := 1596) (by decide +kernel)) rfl
theorem w_1597 : Cond.static yX11_within ∈ gT := gT_in (List.mem_of_getElem? (i := 1597) (by decide +kernel)) rfl
theorem w_1598 : Cond.code yX11_within cX11_within 3 (some .boolean) ∈ gT := gT_in (List.mem_of_getElem? (i := 1598) (by decide +kernel)) rfl
theorem w_1599 : Cond.methodLink RL 118 yX11_pendulum ∈ gT := gT_in (List.mem_of_getElem? (i := 1599) (by decide +kernel)) rfl
theorem w_1600 : Cond.instanceMethod yX11_pendulum ∈ gT := gT_in (List.mem_of_getElem? (i := 1600) (by decide +kernel)) rfl
theorem w_1601 : Cond.selects RX11 yX11_pendulum yX11_pendulum ∈ gT := gT_in (List.mem_of_getElem? (i := 1601) (by decide +kernel)) rfl
theorem w_1602 : Cond.code yX11_pendulum cX11_pendulum 3 (some .int) ∈ gT := gT_in (List.mem_of_getElem? (i := 1602) (by decide +kernel)) rfl
theorem w_1603 : Cond.methodLink RX11 242 yX11_isPendulum ∈ gT := gT_in (List.mem_of_getElem? (i := 1603) (by decide +kernel)) rfl
theorem w_1605 : Cond.instanceMethod yX11_isPendulum ∈ gT := gT_in (List.mem_of_getElem? (i := 1605) (by decide +kernel)) rfl
theorem w_1606 : Cond.code yX11_isPendulum cX11_isPendulum 2 (some .boolean) ∈ gT := gT_in (List.mem_of_getElem? (i := 1606) (by decide +kernel)) rfl
theorem w_1607 : Cond.methodLink RX11 245 yX11_period ∈ gT := gT_in (List.mem_of_getElem? (i := 1607) (by decide +kernel)) rfl
theorem w_1609 : Cond.instanceMethod yX11_period ∈ gT := gT_in (List.mem_of_getElem? (i := 1609) (by decide +kernel)) rfl
theorem w_1610 : Cond.code yX11_period cX11_period 4 (some .int) ∈ gT := gT_in (List.mem_of_getElem? (i := 1610) (by decide +kernel)) rfl
theorem w_1611 : Cond.methodLink RL 122 yX11_set ∈ gT := gT_in (List.mem_of_getElem? (i := 1611) (by decide +kernel)) rfl
theorem w_1612 : Cond.instanceMethod yX11_set ∈ gT := gT_in (List.mem_of_getElem? (i := 1612) (by decide +kernel)) rfl
theorem w_1613 : Cond.selects RX11 yX11_set yX11_set ∈ gT := gT_in (List.mem_of_getElem? (i := 1613) (by decide +kernel)) rfl
theorem w_1614 : Cond.code yX11_set cX11_set 5 (some .int) ∈ gT := gT_in (List.mem_of_getElem? (i := 1614) (by decide +kernel)) rfl
theorem w_1615 : Cond.methodLink RX11 249 yX11_refuses ∈ gT := gT_in (List.mem_of_getElem? (i := 1615) (by decide +kernel)) rfl
theorem w_1617 : Cond.instanceMethod yX11_refuses ∈ gT := gT_in (List.mem_of_getElem? (i := 1617) (by decide +kernel)) rfl
theorem w_1618 : Cond.code yX11_refuses cX11_refuses 2 (some .int) ∈ gT := gT_in (List.mem_of_getElem? (i := 1618) (by decide +kernel)) rfl
theorem w_1619 : Cond.methodLink RL 125 yX11_swing ∈ gT := gT_in (List.mem_of_getElem? (i := 1619) (by decide +kernel)) rfl
theorem w_1620 : Cond.instanceMethod yX11_swing ∈ gT := gT_in (List.mem_of_getElem? (i := 1620) (by decide +kernel)) rfl
theorem w_1621 : Cond.selects RX11 yX11_swing yX11_swing ∈ gT := gT_in (List.mem_of_getElem? (i := 1621) (by decide +kernel)) rfl
theorem w_1622 : Cond.code yX11_swing cX11_swing 3 (some .int) ∈ gT := gT_in (List.mem_of_getElem? (i := 1622) (by decide +kernel)) rfl
theorem w_1623 : Cond.methodLink RX11 259 yX11_isTick ∈ gT := gT_in (List.mem_of_getElem? (i := 1623) (by decide +kernel)) rfl
theorem w_1625 : Cond.instanceMethod yX11_isTick ∈ gT := gT_in (List.mem_of_getElem? (i := 1625) (by decide +kernel)) rfl
theorem w_1626 : Cond.code yX11_isTick cX11_isTick 3 (some .boolean) ∈ gT := gT_in (List.mem_of_getElem? (i := 1626) (by decide +kernel)) rfl
theorem w_1627 : Cond.methodLink RX11 252 yX11_at ∈ gT := gT_in (List.mem_of_getElem? (i := 1627) (by decide +kernel)) rfl
theorem w_1629 : Cond.instanceMethod yX11_at ∈ gT := gT_in (List.mem_of_getElem? (i := 1629) (by decide +kernel)) rfl
theorem w_1630 : Cond.code yX11_at cX11_at 9 (some .int) ∈ gT := gT_in (List.mem_of_getElem? (i := 1630) (by decide +kernel)) rfl
theorem w_1631 : Cond.methodLink RL 128 yX11_pen ∈ gT := gT_in (List.mem_of_getElem? (i := 1631) (by decide +kernel)) rfl
theorem w_1632 : Cond.instanceMethod yX11_pen ∈ gT := gT_in (List.mem_of_getElem? (i := 1632) (by decide +kernel)) rfl
theorem w_1633 : Cond.selects RX11 yX11_pen yX11_pen ∈ gT := gT_in (List.mem_of_getElem? (i := 1633) (by decide +kernel)) rfl
theorem w_1634 : Cond.code yX11_pen cX11_pen 3 (some .int) ∈ gT := gT_in (List.mem_of_getElem? (i := 1634) (by decide +kernel)) rfl
theorem w_1635 : Cond.methodLink RX11 263 yX11_penNow ∈ gT := gT_in (List.mem_of_getElem? (i := 1635) (by decide +kernel)) rfl
theorem w_1637 : Cond.instanceMethod yX11_penNow ∈ gT := gT_in (List.mem_of_getElem? (i := 1637) (by decide +kernel)) rfl
theorem w_1638 : Cond.code yX11_penNow cX11_penNow 5 (some .int) ∈ gT := gT_in (List.mem_of_getElem? (i := 1638) (by decide +kernel)) rfl
theorem w_1639 : Cond.methodLink RX11 256 yX11_penOf ∈ gT := gT_in (List.mem_of_getElem? (i := 1639) (by decide +kernel)) rfl
theorem w_1641 : Cond.instanceMethod yX11_penOf ∈ gT := gT_in (List.mem_of_getElem? (i := 1641) (by decide +kernel)) rfl
theorem w_1642 : Cond.code yX11_penOf cX11_penOf 5 (some .int) ∈ gT := gT_in (List.mem_of_getElem? (i := 1642) (by decide +kernel)) rfl
theorem w_1643 : Cond.methodLink RL 131 yX11_drawn ∈ gT := gT_in (List.mem_of_getElem? (i := 1643) (by decide +kernel)) rfl
theorem w_1644 : Cond.instanceMethod yX11_drawn ∈ gT := gT_in (List.mem_of_getElem? (i := 1644) (by decide +kernel)) rfl
theorem w_1645 : Cond.selects RX11 yX11_drawn yX11_drawn ∈ gT := gT_in (List.mem_of_getElem? (i := 1645) (by decide +kernel)) rfl
theorem w_1646 : Cond.code yX11_drawn cX11_drawn 6 (some .int) ∈ gT := gT_in (List.mem_of_getElem? (i := 1646) (by decide +kernel)) rfl
theorem w_1647 : Cond.methodLink RX11 266 yX11_isSpan ∈ gT := gT_in (List.mem_of_getElem? (i := 1647) (by decide +kernel)) rfl
theorem w_1649 : Cond.instanceMethod yX11_isSpan ∈ gT := gT_in (List.mem_of_getElem? (i := 1649) (by decide +kernel)) rfl
theorem w_1650 : Cond.code yX11_isSpan cX11_isSpan 4 (some .boolean) ∈ gT := gT_in (List.mem_of_getElem? (i := 1650) (by decide +kernel)) rfl
theorem w_1651 : Cond.methodLink RX11 269 yX11_clears ∈ gT := gT_in (List.mem_of_getElem? (i := 1651) (by decide +kernel)) rfl
theorem w_1653 : Cond.instanceMethod yX11_clears ∈ gT := gT_in (List.mem_of_getElem? (i := 1653) (by decide +kernel)) rfl
theorem w_1654 : Cond.code yX11_clears cX11_clears 2 none ∈ gT := gT_in (List.mem_of_getElem? (i := 1654) (by decide +kernel)) rfl
theorem w_1655 : Cond.methodLink RX11 272 yX11_cellOf ∈ gT := gT_in (List.mem_of_getElem? (i := 1655) (by decide +kernel)) rfl
theorem w_1656 : Cond.static yX11_cellOf ∈ gT := gT_in (List.mem_of_getElem? (i := 1656) (by decide +kernel)) rfl
theorem w_1657 : Cond.code yX11_cellOf cX11_cellOf 2 (some .int) ∈ gT := gT_in (List.mem_of_getElem? (i := 1657) (by decide +kernel)) rfl
theorem w_1658 : Cond.methodLink RL 134 yX11_inCell ∈ gT := gT_in (List.mem_of_getElem? (i := 1658) (by decide +kernel)) rfl
theorem w_1659 : Cond.instanceMethod yX11_inCell ∈ gT := gT_in (List.mem_of_getElem? (i := 1659) (by decide +kernel)) rfl
theorem w_1660 : Cond.selects RX11 yX11_inCell yX11_inCell ∈ gT := gT_in (List.mem_of_getElem? (i := 1660) (by decide +kernel)) rfl
theorem w_1661 : Cond.code yX11_inCell cX11_inCell 5 (some .int) ∈ gT := gT_in (List.mem_of_getElem? (i := 1661) (by decide +kernel)) rfl
theorem w_1662 : Cond.methodLink RL 138 yX11_round ∈ gT := gT_in (List.mem_of_getElem? (i := 1662) (by decide +kernel)) rfl
theorem w_1663 : Cond.instanceMethod yX11_round ∈ gT := gT_in (List.mem_of_getElem? (i := 1663) (by decide +kernel)) rfl
theorem w_1664 : Cond.selects RX11 yX11_round yX11_round ∈ gT := gT_in (List.mem_of_getElem? (i := 1664) (by decide +kernel)) rfl
theorem w_1665 : Cond.code yX11_round cX11_round 1 (some .int) ∈ gT := gT_in (List.mem_of_getElem? (i := 1665) (by decide +kernel)) rfl
theorem w_1666 : Cond.methodLink RX11 275 yX11_roundOf ∈ gT := gT_in (List.mem_of_getElem? (i := 1666) (by decide +kernel)) rfl
theorem w_1668 : Cond.instanceMethod yX11_roundOf ∈ gT := gT_in (List.mem_of_getElem? (i := 1668) (by decide +kernel)) rfl
theorem w_1669 : Cond.code yX11_roundOf cX11_roundOf 6 (some .int) ∈ gT := gT_in (List.mem_of_getElem? (i := 1669) (by decide +kernel)) rfl
theorem w_1670 : Cond.methodLink RL 142 yX11_off ∈ gT := gT_in (List.mem_of_getElem? (i := 1670) (by decide +kernel)) rfl
theorem w_1671 : Cond.instanceMethod yX11_off ∈ gT := gT_in (List.mem_of_getElem? (i := 1671) (by decide +kernel)) rfl
theorem w_1672 : Cond.selects RX11 yX11_off yX11_off ∈ gT := gT_in (List.mem_of_getElem? (i := 1672) (by decide +kernel)) rfl
theorem w_1673 : Cond.code yX11_off cX11_off 2 (some .int) ∈ gT := gT_in (List.mem_of_getElem? (i := 1673) (by decide +kernel)) rfl
theorem w_1674 : Cond.methodLink RX11 279 yX11_size ∈ gT := gT_in (List.mem_of_getElem? (i := 1674) (by decide +kernel)) rfl
theorem w_1675 : Cond.static yX11_size ∈ gT := gT_in (List.mem_of_getElem? (i := 1675) (by decide +kernel)) rfl
theorem w_1676 : Cond.code yX11_size cX11_size 1 (some .int) ∈ gT := gT_in (List.mem_of_getElem? (i := 1676) (by decide +kernel)) rfl
theorem w_1677 : Cond.methodLink RL 146 yX11_keep ∈ gT := gT_in (List.mem_of_getElem? (i := 1677) (by decide +kernel)) rfl
theorem w_1678 : Cond.instanceMethod yX11_keep ∈ gT := gT_in (List.mem_of_getElem? (i := 1678) (by decide +kernel)) rfl
theorem w_1679 : Cond.selects RX11 yX11_keep yX11_keep ∈ gT := gT_in (List.mem_of_getElem? (i := 1679) (by decide +kernel)) rfl
theorem w_1680 : Cond.code yX11_keep cX11_keep 2 (some .int) ∈ gT := gT_in (List.mem_of_getElem? (i := 1680) (by decide +kernel)) rfl
theorem w_1681 : Cond.methodLink RL 150 yX11_take ∈ gT := gT_in (List.mem_of_getElem? (i := 1681) (by decide +kernel)) rfl
theorem w_1682 : Cond.instanceMethod yX11_take ∈ gT := gT_in (List.mem_of_getElem? (i := 1682) (by decide +kernel)) rfl
theorem w_1683 : Cond.selects RX11 yX11_take yX11_take ∈ gT := gT_in (List.mem_of_getElem? (i := 1683) (by decide +kernel)) rfl
theorem w_1684 : Cond.code yX11_take cX11_take 3 none ∈ gT := gT_in (List.mem_of_getElem? (i := 1684) (by decide +kernel)) rfl
theorem w_1685 : Cond.methodLink RX11 282 yX11_isPortrait ∈ gT := gT_in (List.mem_of_getElem? (i := 1685) (by decide +kernel)) rfl
theorem w_1687 : Cond.instanceMethod yX11_isPortrait ∈ gT := gT_in (List.mem_of_getElem? (i := 1687) (by decide +kernel)) rfl
theorem w_1688 : Cond.code yX11_isPortrait cX11_isPortrait 2 (some .boolean) ∈ gT := gT_in (List.mem_of_getElem? (i := 1688) (by decide +kernel)) rfl
theorem w_1689 : Cond.methodLink RL 153 yX11_alike ∈ gT := gT_in (List.mem_of_getElem? (i := 1689) (by decide +kernel)) rfl
theorem w_1690 : Cond.instanceMethod yX11_alike ∈ gT := gT_in (List.mem_of_getElem? (i := 1690) (by decide +kernel)) rfl
theorem w_1691 : Cond.selects RX11 yX11_alike yX11_alike ∈ gT := gT_in (List.mem_of_getElem? (i := 1691) (by decide +kernel)) rfl
theorem w_1692 : Cond.code yX11_alike cX11_alike 3 (some .int) ∈ gT := gT_in (List.mem_of_getElem? (i := 1692) (by decide +kernel)) rfl
theorem w_1693 : Cond.methodLink RX11 298 yX11_alikeOf ∈ gT := gT_in (List.mem_of_getElem? (i := 1693) (by decide +kernel)) rfl
theorem w_1695 : Cond.instanceMethod yX11_alikeOf ∈ gT := gT_in (List.mem_of_getElem? (i := 1695) (by decide +kernel)) rfl
theorem w_1696 : Cond.code yX11_alikeOf cX11_alikeOf 6 (some .int) ∈ gT := gT_in (List.mem_of_getElem? (i := 1696) (by decide +kernel)) rfl
theorem w_1697 : Cond.methodLink RX11 291 yX11_isWay ∈ gT := gT_in (List.mem_of_getElem? (i := 1697) (by decide +kernel)) rfl
theorem w_1699 : Cond.instanceMethod yX11_isWay ∈ gT := gT_in (List.mem_of_getElem? (i := 1699) (by decide +kernel)) rfl
theorem w_1700 : Cond.code yX11_isWay cX11_isWay 7 (some .boolean) ∈ gT := gT_in (List.mem_of_getElem? (i := 1700) (by decide +kernel)) rfl
theorem w_1701 : Cond.methodLink RX11 285 yX11_becomes ∈ gT := gT_in (List.mem_of_getElem? (i := 1701) (by decide +kernel)) rfl
theorem w_1702 : Cond.static yX11_becomes ∈ gT := gT_in (List.mem_of_getElem? (i := 1702) (by decide +kernel)) rfl
theorem w_1703 : Cond.code yX11_becomes cX11_becomes 4 (some .int) ∈ gT := gT_in (List.mem_of_getElem? (i := 1703) (by decide +kernel)) rfl
theorem w_1704 : Cond.methodLink RX11 288 yX11_sizeOf ∈ gT := gT_in (List.mem_of_getElem? (i := 1704) (by decide +kernel)) rfl
theorem w_1706 : Cond.instanceMethod yX11_sizeOf ∈ gT := gT_in (List.mem_of_getElem? (i := 1706) (by decide +kernel)) rfl
theorem w_1707 : Cond.code yX11_sizeOf cX11_sizeOf 3 (some .int) ∈ gT := gT_in (List.mem_of_getElem? (i := 1707) (by decide +kernel)) rfl
theorem w_1708 : Cond.methodLink RX11 294 yX11_isTime ∈ gT := gT_in (List.mem_of_getElem? (i := 1708) (by decide +kernel)) rfl
theorem w_1710 : Cond.instanceMethod yX11_isTime ∈ gT := gT_in (List.mem_of_getElem? (i := 1710) (by decide +kernel)) rfl
theorem w_1711 : Cond.code yX11_isTime cX11_isTime 11 (some .boolean) ∈ gT := gT_in (List.mem_of_getElem? (i := 1711) (by decide +kernel)) rfl
theorem w_1712 : Cond.methodLink RL 156 yX11_kinds ∈ gT := gT_in (List.mem_of_getElem? (i := 1712) (by decide +kernel)) rfl
theorem w_1713 : Cond.instanceMethod yX11_kinds ∈ gT := gT_in (List.mem_of_getElem? (i := 1713) (by decide +kernel)) rfl
theorem w_1714 : Cond.selects RX11 yX11_kinds yX11_kinds ∈ gT := gT_in (List.mem_of_getElem? (i := 1714) (by decide +kernel)) rfl
theorem w_1715 : Cond.code yX11_kinds cX11_kinds 5 (some .int) ∈ gT := gT_in (List.mem_of_getElem? (i := 1715) (by decide +kernel)) rfl
theorem w_1716 : Cond.methodLink RL 160 yX11_point ∈ gT := gT_in (List.mem_of_getElem? (i := 1716) (by decide +kernel)) rfl
theorem w_1717 : Cond.instanceMethod yX11_point ∈ gT := gT_in (List.mem_of_getElem? (i := 1717) (by decide +kernel)) rfl
theorem w_1718 : Cond.selects RX11 yX11_point yX11_point ∈ gT := gT_in (List.mem_of_getElem? (i := 1718) (by decide +kernel)) rfl
theorem w_1719 : Cond.code yX11_point cX11_point 4 (some .int) ∈ gT := gT_in (List.mem_of_getElem? (i := 1719) (by decide +kernel)) rfl
theorem w_1720 : Cond.methodLink RL 164 yX11_unpoint ∈ gT := gT_in (List.mem_of_getElem? (i := 1720) (by decide +kernel)) rfl
theorem w_1721 : Cond.instanceMethod yX11_unpoint ∈ gT := gT_in (List.mem_of_getElem? (i := 1721) (by decide +kernel)) rfl
theorem w_1722 : Cond.selects RX11 yX11_unpoint yX11_unpoint ∈ gT := gT_in (List.mem_of_getElem? (i := 1722) (by decide +kernel)) rfl
theorem w_1723 : Cond.code yX11_unpoint cX11_unpoint 1 (some .int) ∈ gT := gT_in (List.mem_of_getElem? (i := 1723) (by decide +kernel)) rfl
theorem w_1724 : Cond.methodLink RL 167 yX11_fits ∈ gT := gT_in (List.mem_of_getElem? (i := 1724) (by decide +kernel)) rfl
theorem w_1725 : Cond.instanceMethod yX11_fits ∈ gT := gT_in (List.mem_of_getElem? (i := 1725) (by decide +kernel)) rfl
theorem w_1726 : Cond.selects RX11 yX11_fits yX11_fits ∈ gT := gT_in (List.mem_of_getElem? (i := 1726) (by decide +kernel)) rfl
theorem w_1727 : Cond.code yX11_fits cX11_fits 14 (some .int) ∈ gT := gT_in (List.mem_of_getElem? (i := 1727) (by decide +kernel)) rfl
theorem w_1728 : Cond.methodLink RX11 301 yX11_offOf ∈ gT := gT_in (List.mem_of_getElem? (i := 1728) (by decide +kernel)) rfl
theorem w_1730 : Cond.instanceMethod yX11_offOf ∈ gT := gT_in (List.mem_of_getElem? (i := 1730) (by decide +kernel)) rfl
theorem w_1731 : Cond.code yX11_offOf cX11_offOf 6 (some .int) ∈ gT := gT_in (List.mem_of_getElem? (i := 1731) (by decide +kernel)) rfl
theorem w_1732 : Cond.methodLink RL 170 yX11_chord ∈ gT := gT_in (List.mem_of_getElem? (i := 1732) (by decide +kernel)) rfl
theorem w_1733 : Cond.instanceMethod yX11_chord ∈ gT := gT_in (List.mem_of_getElem? (i := 1733) (by decide +kernel)) rfl
theorem w_1734 : Cond.selects RX11 yX11_chord yX11_chord ∈ gT := gT_in (List.mem_of_getElem? (i := 1734) (by decide +kernel)) rfl
theorem w_1735 : Cond.code yX11_chord cX11_chord 8 (some .int) ∈ gT := gT_in (List.mem_of_getElem? (i := 1735) (by decide +kernel)) rfl
theorem w_1736 : Cond.methodLink RL 173 yX11_cart ∈ gT := gT_in (List.mem_of_getElem? (i := 1736) (by decide +kernel)) rfl
theorem w_1737 : Cond.instanceMethod yX11_cart ∈ gT := gT_in (List.mem_of_getElem? (i := 1737) (by decide +kernel)) rfl
theorem w_1738 : Cond.selects RX11 yX11_cart yX11_cart ∈ gT := gT_in (List.mem_of_getElem? (i := 1738) (by decide +kernel)) rfl
theorem w_1739 : Cond.code yX11_cart cX11_cart 5 (some .int) ∈ gT := gT_in (List.mem_of_getElem? (i := 1739) (by decide +kernel)) rfl
theorem w_1740 : Cond.methodLink RX11 307 yX11_shows ∈ gT := gT_in (List.mem_of_getElem? (i := 1740) (by decide +kernel)) rfl
theorem w_1742 : Cond.instanceMethod yX11_shows ∈ gT := gT_in (List.mem_of_getElem? (i := 1742) (by decide +kernel)) rfl
theorem w_1743 : Cond.code yX11_shows cX11_shows 4 (some .int) ∈ gT := gT_in (List.mem_of_getElem? (i := 1743) (by decide +kernel)) rfl
theorem w_1744 : Cond.methodLink RX11 304 yX11_wayOf ∈ gT := gT_in (List.mem_of_getElem? (i := 1744) (by decide +kernel)) rfl
theorem w_1746 : Cond.instanceMethod yX11_wayOf ∈ gT := gT_in (List.mem_of_getElem? (i := 1746) (by decide +kernel)) rfl
theorem w_1747 : Cond.code yX11_wayOf cX11_wayOf 3 (some .int) ∈ gT := gT_in (List.mem_of_getElem? (i := 1747) (by decide +kernel)) rfl
theorem w_1748 : Cond.methodLink RL 177 yX11_birthday ∈ gT := gT_in (List.mem_of_getElem? (i := 1748) (by decide +kernel)) rfl
theorem w_1749 : Cond.instanceMethod yX11_birthday ∈ gT := gT_in (List.mem_of_getElem? (i := 1749) (by decide +kernel)) rfl
theorem w_1750 : Cond.selects RX11 yX11_birthday yX11_birthday ∈ gT := gT_in (List.mem_of_getElem? (i := 1750) (by decide +kernel)) rfl
theorem w_1751 : Cond.code yX11_birthday cX11_birthday 2 (some .int) ∈ gT := gT_in (List.mem_of_getElem? (i := 1751) (by decide +kernel)) rfl
theorem w_1752 : Cond.methodLink RL 181 yX11_forget ∈ gT := gT_in (List.mem_of_getElem? (i := 1752) (by decide +kernel)) rfl
theorem w_1753 : Cond.instanceMethod yX11_forget ∈ gT := gT_in (List.mem_of_getElem? (i := 1753) (by decide +kernel)) rfl
theorem w_1754 : Cond.selects RX11 yX11_forget yX11_forget ∈ gT := gT_in (List.mem_of_getElem? (i := 1754) (by decide +kernel)) rfl
theorem w_1755 : Cond.code yX11_forget cX11_forget 2 (some .int) ∈ gT := gT_in (List.mem_of_getElem? (i := 1755) (by decide +kernel)) rfl
theorem w_1756 : Cond.methodLink RL 184 yX11_factor ∈ gT := gT_in (List.mem_of_getElem? (i := 1756) (by decide +kernel)) rfl
theorem w_1757 : Cond.instanceMethod yX11_factor ∈ gT := gT_in (List.mem_of_getElem? (i := 1757) (by decide +kernel)) rfl
theorem w_1758 : Cond.selects RX11 yX11_factor yX11_factor ∈ gT := gT_in (List.mem_of_getElem? (i := 1758) (by decide +kernel)) rfl
theorem w_1759 : Cond.code yX11_factor cX11_factor 6 (some .int) ∈ gT := gT_in (List.mem_of_getElem? (i := 1759) (by decide +kernel)) rfl
theorem w_1760 : Cond.methodLink RX11 313 yX11_fewest ∈ gT := gT_in (List.mem_of_getElem? (i := 1760) (by decide +kernel)) rfl
theorem w_1762 : Cond.instanceMethod yX11_fewest ∈ gT := gT_in (List.mem_of_getElem? (i := 1762) (by decide +kernel)) rfl
theorem w_1763 : Cond.code yX11_fewest cX11_fewest 6 (some .int) ∈ gT := gT_in (List.mem_of_getElem? (i := 1763) (by decide +kernel)) rfl
theorem w_1764 : Cond.methodLink RX11 310 yX11_unlike ∈ gT := gT_in (List.mem_of_getElem? (i := 1764) (by decide +kernel)) rfl
theorem w_1765 : Cond.static yX11_unlike ∈ gT := gT_in (List.mem_of_getElem? (i := 1765) (by decide +kernel)) rfl
theorem w_1766 : Cond.code yX11_unlike cX11_unlike 6 (some .int) ∈ gT := gT_in (List.mem_of_getElem? (i := 1766) (by decide +kernel)) rfl
theorem w_1767 : Cond.methodLink RL 188 yX11_laid ∈ gT := gT_in (List.mem_of_getElem? (i := 1767) (by decide +kernel)) rfl
theorem w_1768 : Cond.instanceMethod yX11_laid ∈ gT := gT_in (List.mem_of_getElem? (i := 1768) (by decide +kernel)) rfl
theorem w_1769 : Cond.selects RX11 yX11_laid yX11_laid ∈ gT := gT_in (List.mem_of_getElem? (i := 1769) (by decide +kernel)) rfl
theorem w_1770 : Cond.code yX11_laid cX11_laid 8 (some .int) ∈ gT := gT_in (List.mem_of_getElem? (i := 1770) (by decide +kernel)) rfl
theorem w_1771 : Cond.methodLink RL 191 yX11_evening ∈ gT := gT_in (List.mem_of_getElem? (i := 1771) (by decide +kernel)) rfl
theorem w_1772 : Cond.instanceMethod yX11_evening ∈ gT := gT_in (List.mem_of_getElem? (i := 1772) (by decide +kernel)) rfl
theorem w_1773 : Cond.selects RX11 yX11_evening yX11_evening ∈ gT := gT_in (List.mem_of_getElem? (i := 1773) (by decide +kernel)) rfl
theorem w_1774 : Cond.code yX11_evening cX11_evening 7 (some .int) ∈ gT := gT_in (List.mem_of_getElem? (i := 1774) (by decide +kernel)) rfl
theorem w_1775 : Cond.methodLink RX11 319 yX11_allMoved ∈ gT := gT_in (List.mem_of_getElem? (i := 1775) (by decide +kernel)) rfl
theorem w_1777 : Cond.instanceMethod yX11_allMoved ∈ gT := gT_in (List.mem_of_getElem? (i := 1777) (by decide +kernel)) rfl
theorem w_1778 : Cond.code yX11_allMoved cX11_allMoved 5 (some .int) ∈ gT := gT_in (List.mem_of_getElem? (i := 1778) (by decide +kernel)) rfl
theorem w_1779 : Cond.methodLink RX11 316 yX11_moved ∈ gT := gT_in (List.mem_of_getElem? (i := 1779) (by decide +kernel)) rfl
theorem w_1781 : Cond.instanceMethod yX11_moved ∈ gT := gT_in (List.mem_of_getElem? (i := 1781) (by decide +kernel)) rfl
theorem w_1782 : Cond.code yX11_moved cX11_moved 5 (some .int) ∈ gT := gT_in (List.mem_of_getElem? (i := 1782) (by decide +kernel)) rfl
theorem w_1783 : Cond.methodLink RX11 325 yX11_countsUp ∈ gT := gT_in (List.mem_of_getElem? (i := 1783) (by decide +kernel)) rfl
theorem w_1785 : Cond.instanceMethod yX11_countsUp ∈ gT := gT_in (List.mem_of_getElem? (i := 1785) (by decide +kernel)) rfl
theorem w_1786 : Cond.code yX11_countsUp cX11_countsUp 8 (some .boolean) ∈ gT := gT_in (List.mem_of_getElem? (i := 1786) (by decide +kernel)) rfl
theorem w_1787 : Cond.methodLink RL 194 yX11_drawing ∈ gT := gT_in (List.mem_of_getElem? (i := 1787) (by decide +kernel)) rfl
theorem w_1788 : Cond.instanceMethod yX11_drawing ∈ gT := gT_in (List.mem_of_getElem? (i := 1788) (by decide +kernel)) rfl
theorem w_1789 : Cond.selects RX11 yX11_drawing yX11_drawing ∈ gT := gT_in (List.mem_of_getElem? (i := 1789) (by decide +kernel)) rfl
theorem w_1790 : Cond.code yX11_drawing cX11_drawing 2 (some .int) ∈ gT := gT_in (List.mem_of_getElem? (i := 1790) (by decide +kernel)) rfl
theorem w_1791 : Cond.methodLink RL 101 yX11_score ∈ gT := gT_in (List.mem_of_getElem? (i := 1791) (by decide +kernel)) rfl
theorem w_1792 : Cond.instanceMethod yX11_score ∈ gT := gT_in (List.mem_of_getElem? (i := 1792) (by decide +kernel)) rfl
theorem w_1793 : Cond.selects RX11 yX11_score yX11_score ∈ gT := gT_in (List.mem_of_getElem? (i := 1793) (by decide +kernel)) rfl
theorem w_1794 : Cond.code yX11_score cX11_score 2 (some .int) ∈ gT := gT_in (List.mem_of_getElem? (i := 1794) (by decide +kernel)) rfl
theorem w_1795 : Cond.methodLink RX11 331 yX11_isSign ∈ gT := gT_in (List.mem_of_getElem? (i := 1795) (by decide +kernel)) rfl
theorem w_1797 : Cond.instanceMethod yX11_isSign ∈ gT := gT_in (List.mem_of_getElem? (i := 1797) (by decide +kernel)) rfl
theorem w_1798 : Cond.code yX11_isSign cX11_isSign 2 (some .boolean) ∈ gT := gT_in (List.mem_of_getElem? (i := 1798) (by decide +kernel)) rfl
theorem w_1799 : Cond.methodLink RX11 347 yX11_closes ∈ gT := gT_in (List.mem_of_getElem? (i := 1799) (by decide +kernel)) rfl
theorem w_1801 : Cond.instanceMethod yX11_closes ∈ gT := gT_in (List.mem_of_getElem? (i := 1801) (by decide +kernel)) rfl
theorem w_1802 : Cond.code yX11_closes cX11_closes 2 none ∈ gT := gT_in (List.mem_of_getElem? (i := 1802) (by decide +kernel)) rfl
theorem w_1803 : Cond.methodLink RX11 337 yX11_puts ∈ gT := gT_in (List.mem_of_getElem? (i := 1803) (by decide +kernel)) rfl
theorem w_1805 : Cond.instanceMethod yX11_puts ∈ gT := gT_in (List.mem_of_getElem? (i := 1805) (by decide +kernel)) rfl
theorem w_1806 : Cond.code yX11_puts cX11_puts 2 none ∈ gT := gT_in (List.mem_of_getElem? (i := 1806) (by decide +kernel)) rfl
theorem w_1807 : Cond.methodLink RX11 340 yX11_opens ∈ gT := gT_in (List.mem_of_getElem? (i := 1807) (by decide +kernel)) rfl
theorem w_1809 : Cond.instanceMethod yX11_opens ∈ gT := gT_in (List.mem_of_getElem? (i := 1809) (by decide +kernel)) rfl
theorem w_1810 : Cond.code yX11_opens cX11_opens 3 none ∈ gT := gT_in (List.mem_of_getElem? (i := 1810) (by decide +kernel)) rfl
theorem w_1811 : Cond.methodLink RX11 350 yX11_act ∈ gT := gT_in (List.mem_of_getElem? (i := 1811) (by decide +kernel)) rfl
theorem w_1813 : Cond.instanceMethod yX11_act ∈ gT := gT_in (List.mem_of_getElem? (i := 1813) (by decide +kernel)) rfl
theorem w_1814 : Cond.code yX11_act cX11_act 3 none ∈ gT := gT_in (List.mem_of_getElem? (i := 1814) (by decide +kernel)) rfl
theorem w_1815 : Cond.methodLink RX11 344 yX11_test ∈ gT := gT_in (List.mem_of_getElem? (i := 1815) (by decide +kernel)) rfl
theorem w_1817 : Cond.instanceMethod yX11_test ∈ gT := gT_in (List.mem_of_getElem? (i := 1817) (by decide +kernel)) rfl
theorem w_1818 : Cond.code yX11_test cX11_test 4 none ∈ gT := gT_in (List.mem_of_getElem? (i := 1818) (by decide +kernel)) rfl
theorem w_1819 : Cond.methodLink RL 104 yX11_performed ∈ gT := gT_in (List.mem_of_getElem? (i := 1819) (by decide +kernel)) rfl
theorem w_1820 : Cond.instanceMethod yX11_performed ∈ gT := gT_in (List.mem_of_getElem? (i := 1820) (by decide +kernel)) rfl
theorem w_1821 : Cond.selects RX11 yX11_performed yX11_performed ∈ gT := gT_in (List.mem_of_getElem? (i := 1821) (by decide +kernel)) rfl
theorem w_1822 : Cond.code yX11_performed cX11_performed 4 (some .int) ∈ gT := gT_in (List.mem_of_getElem? (i := 1822) (by decide +kernel)) rfl
theorem w_1823 : Cond.methodLink RX11 381 yX11_performs ∈ gT := gT_in (List.mem_of_getElem? (i := 1823) (by decide +kernel)) rfl
theorem w_1825 : Cond.instanceMethod yX11_performs ∈ gT := gT_in (List.mem_of_getElem? (i := 1825) (by decide +kernel)) rfl
theorem w_1826 : Cond.code yX11_performs cX11_performs 5 none ∈ gT := gT_in (List.mem_of_getElem? (i := 1826) (by decide +kernel)) rfl
theorem w_1827 : Cond.methodLink RX11 372 yX11_draws ∈ gT := gT_in (List.mem_of_getElem? (i := 1827) (by decide +kernel)) rfl
theorem w_1829 : Cond.instanceMethod yX11_draws ∈ gT := gT_in (List.mem_of_getElem? (i := 1829) (by decide +kernel)) rfl
theorem w_1830 : Cond.code yX11_draws cX11_draws 3 none ∈ gT := gT_in (List.mem_of_getElem? (i := 1830) (by decide +kernel)) rfl
theorem w_1831 : Cond.methodLink RX11 362 yX11_cellGoing ∈ gT := gT_in (List.mem_of_getElem? (i := 1831) (by decide +kernel)) rfl
theorem w_1833 : Cond.instanceMethod yX11_cellGoing ∈ gT := gT_in (List.mem_of_getElem? (i := 1833) (by decide +kernel)) rfl
theorem w_1834 : Cond.code yX11_cellGoing cX11_cellGoing 1 (some .int) ∈ gT := gT_in (List.mem_of_getElem? (i := 1834) (by decide +kernel)) rfl
theorem w_1835 : Cond.methodLink RX11 359 yX11_penGoing ∈ gT := gT_in (List.mem_of_getElem? (i := 1835) (by decide +kernel)) rfl
theorem w_1837 : Cond.instanceMethod yX11_penGoing ∈ gT := gT_in (List.mem_of_getElem? (i := 1837) (by decide +kernel)) rfl
theorem w_1838 : Cond.code yX11_penGoing cX11_penGoing 5 (some .int) ∈ gT := gT_in (List.mem_of_getElem? (i := 1838) (by decide +kernel)) rfl
theorem w_1839 : Cond.methodLink RX11 375 yX11_between ∈ gT := gT_in (List.mem_of_getElem? (i := 1839) (by decide +kernel)) rfl
theorem w_1840 : Cond.static yX11_between ∈ gT := gT_in (List.mem_of_getElem? (i := 1840) (by decide +kernel)) rfl
theorem w_1841 : Cond.code yX11_between cX11_between 2 (some .int) ∈ gT := gT_in (List.mem_of_getElem? (i := 1841) (by decide +kernel)) rfl
theorem w_1842 : Cond.methodLink RX11 378 yX11_holds ∈ gT := gT_in (List.mem_of_getElem? (i := 1842) (by decide +kernel)) rfl
theorem w_1844 : Cond.instanceMethod yX11_holds ∈ gT := gT_in (List.mem_of_getElem? (i := 1844) (by decide +kernel)) rfl
theorem w_1845 : Cond.code yX11_holds cX11_holds 3 (some .boolean) ∈ gT := gT_in (List.mem_of_getElem? (i := 1845) (by decide +kernel)) rfl
theorem w_1846 : Cond.methodLink RL 107 yX11_marks ∈ gT := gT_in (List.mem_of_getElem? (i := 1846) (by decide +kernel)) rfl
theorem w_1847 : Cond.instanceMethod yX11_marks ∈ gT := gT_in (List.mem_of_getElem? (i := 1847) (by decide +kernel)) rfl
theorem w_1848 : Cond.selects RX11 yX11_marks yX11_marks ∈ gT := gT_in (List.mem_of_getElem? (i := 1848) (by decide +kernel)) rfl
theorem w_1849 : Cond.code yX11_marks cX11_marks 2 (some .int) ∈ gT := gT_in (List.mem_of_getElem? (i := 1849) (by decide +kernel)) rfl
theorem w_1850 : Cond.methodLink RL 198 yX11_image ∈ gT := gT_in (List.mem_of_getElem? (i := 1850) (by decide +kernel)) rfl
theorem w_1851 : Cond.instanceMethod yX11_image ∈ gT := gT_in (List.mem_of_getElem? (i := 1851) (by decide +kernel)) rfl
theorem w_1852 : Cond.selects RX11 yX11_image yX11_image ∈ gT := gT_in (List.mem_of_getElem? (i := 1852) (by decide +kernel)) rfl
theorem w_1853 : Cond.code yX11_image cX11_image 1 none ∈ gT := gT_in (List.mem_of_getElem? (i := 1853) (by decide +kernel)) rfl
theorem w_1854 : Cond.methodLink RL 203 yX11_restore ∈ gT := gT_in (List.mem_of_getElem? (i := 1854) (by decide +kernel)) rfl
theorem w_1855 : Cond.instanceMethod yX11_restore ∈ gT := gT_in (List.mem_of_getElem? (i := 1855) (by decide +kernel)) rfl
theorem w_1856 : Cond.selects RX11 yX11_restore yX11_restore ∈ gT := gT_in (List.mem_of_getElem? (i := 1856) (by decide +kernel)) rfl
theorem w_1857 : Cond.code yX11_restore cX11_restore 1 (some .boolean) ∈ gT := gT_in (List.mem_of_getElem? (i := 1857) (by decide +kernel)) rfl
theorem w_1858 : Cond.arrayClass .long ∈ gT := gT_in (List.mem_of_getElem? (i := 1858) (by decide +kernel)) rfl
theorem w_1875 : Cond.fieldLink RJ0 9 "java/lang/String" "value" "[B" ∈ gT := gT_in (List.mem_of_getElem? (i := 1875) (by decide +kernel)) rfl
theorem w_1876 : Cond.fieldLink RJ0 15 "java/lang/String" "coder" "B" ∈ gT := gT_in (List.mem_of_getElem? (i := 1876) (by decide +kernel)) rfl
end
section
section RULES
variable {G : GX} {j : MX} {pc : Nat} {ls : mL} {st : List Value} {h : mH} {Q : mO → mH → Prop}
theorem Vw.same {pc' : Nat} {st' : List Value} (f : ∀ (p : Program) (e : Env) (s : State) (m : MethodId) (args : Array Value) (below : List Frame) (meth : Method) (c : Code) (h0 : mH) (H : Heap) (locs : List Loc) (la : Array Slot) (Q : State → Prop) (cells slots : Nat), Fr G j h0 p s m args meth c → mLs G (jL j) ls la →
    W p (gL G) e (jRm j h0) s m args below meth c H locs cells slots Q (F0 m pc' la (st'.map (rv G))) → W p (gL G) e (jRm j h0) s m args below meth c H locs cells slots Q (F0 m pc la (st.map (rv G)))) (k : Vw G j pc' ls st' h Q) : Vw G j pc ls st h Q :=
  fun p e s m args below meth c h0 H locs la F hS hP hE hl => f p e s m args below meth c h0 H locs la _ _ _ F hl (k p e s m args below meth c h0 H locs la F hS hP hE hl)
/-- fewer locals known -/
theorem Vw.drop {ls' : mL} (hs : ∀ (i : Nat) (v : Value), ls'[i]? = some (some v) → ls[i]? = some (some v)) (k : Vw G j pc ls' st h Q) : Vw G j pc ls st h Q :=
  fun p e s m args below meth c h0 H locs la F hS hP hE hl => k p e s m args below meth c h0 H locs la F hS hP hE ⟨hl.1, hl.2.1, fun i v hi => hl.2.2 i v (hs i v hi)⟩
theorem Vw.mono {Q' : mO → mH → Prop} (hq : ∀ o h, Q o h → Q' o h) (k : Vw G j pc ls st h Q) : Vw G j pc ls st h Q' := by
  intro p e s m args below meth c h0 H locs la F hS hP hE hl T hT X
  obtain ⟨t, a1, o, b1, b2, b3⟩ := k p e s m args below meth c h0 H locs la F hS hP hE hl T hT X
  refine ⟨t, a1, o, b1, b2, ?_⟩
  rcases b3 with ⟨⟨v, h', c1, c2, c3⟩, b4⟩ | ⟨q, c0, E, ce, L, ⟨h', c2, c3⟩, b4⟩
  · exact Or.inl ⟨⟨v, h', c1, hq _ _ c2, c3⟩, b4⟩
  · exact Or.inr ⟨q, c0, E, ce, L, ⟨h', hq _ _ c2, c3⟩, b4⟩
theorem lv_of {nL : Nat} {la : Array Slot} (hl : mLs G nL ls la) {i : Nat} {v : Value} (hi : ls[i]? = some (some v)) : la[i]? = some (.val (rv G v)) := hl.2.2 i v hi
theorem s_iadd {x y : Int32} (hd : decode (jC j) pc = .ok (.iadd, 1)) (k : Vw G j (pc + 1) ls (.int (x + y) :: st) h Q) : Vw G j pc ls (.int y :: .int x :: st) h Q := Vw.same (fun p e s m args below meth c h0 H locs la Q cells slots F hl k => lv_iadd F.1 F.2.1 hd k) k
theorem s_isub {x y : Int32} (hd : decode (jC j) pc = .ok (.isub, 1)) (k : Vw G j (pc + 1) ls (.int (x - y) :: st) h Q) : Vw G j pc ls (.int y :: .int x :: st) h Q := Vw.same (fun p e s m args below meth c h0 H locs la Q cells slots F hl k => lv_isub F.1 F.2.1 hd k) k
theorem s_imul {x y : Int32} (hd : decode (jC j) pc = .ok (.imul, 1)) (k : Vw G j (pc + 1) ls (.int (x * y) :: st) h Q) : Vw G j pc ls (.int y :: .int x :: st) h Q := Vw.same (fun p e s m args below meth c h0 H locs la Q cells slots F hl k => lv_imul F.1 F.2.1 hd k) k
theorem s_iand {x y : Int32} (hd : decode (jC j) pc = .ok (.iand, 1)) (k : Vw G j (pc + 1) ls (.int (x &&& y) :: st) h Q) : Vw G j pc ls (.int y :: .int x :: st) h Q := Vw.same (fun p e s m args below meth c h0 H locs la Q cells slots F hl k => lv_iand F.1 F.2.1 hd k) k
theorem s_ior {x y : Int32} (hd : decode (jC j) pc = .ok (.ior, 1)) (k : Vw G j (pc + 1) ls (.int (x ||| y) :: st) h Q) : Vw G j pc ls (.int y :: .int x :: st) h Q := Vw.same (fun p e s m args below meth c h0 H locs la Q cells slots F hl k => lv_ior F.1 F.2.1 hd k) k
theorem s_ixor {x y : Int32} (hd : decode (jC j) pc = .ok (.ixor, 1)) (k : Vw G j (pc + 1) ls (.int (x ^^^ y) :: st) h Q) : Vw G j pc ls (.int y :: .int x :: st) h Q := Vw.same (fun p e s m args below meth c h0 H locs la Q cells slots F hl k => lv_ixor F.1 F.2.1 hd k) k
theorem s_ishl {x y : Int32} (hd : decode (jC j) pc = .ok (.ishl, 1)) (k : Vw G j (pc + 1) ls (.int (x <<< (y &&& 31)) :: st) h Q) : Vw G j pc ls (.int y :: .int x :: st) h Q := Vw.same (fun p e s m args below meth c h0 H locs la Q cells slots F hl k => lv_ishl F.1 F.2.1 hd k) k
theorem s_ishr {x y : Int32} (hd : decode (jC j) pc = .ok (.ishr, 1)) (k : Vw G j (pc + 1) ls (.int (x >>> (y &&& 31)) :: st) h Q) : Vw G j pc ls (.int y :: .int x :: st) h Q := Vw.same (fun p e s m args below meth c h0 H locs la Q cells slots F hl k => lv_ishr F.1 F.2.1 hd k) k
theorem s_idiv {x y : Int32} (hd : decode (jC j) pc = .ok (.idiv, 1)) (hne : ¬ y = 0) (k : Vw G j (pc + 1) ls (.int (x / y) :: st) h Q) : Vw G j pc ls (.int y :: .int x :: st) h Q := Vw.same (fun p e s m args below meth c h0 H locs la Q cells slots F hl k => lv_idiv F.1 F.2.1 hd hne k) k
theorem s_irem {x y : Int32} (hd : decode (jC j) pc = .ok (.irem, 1)) (hne : ¬ y = 0) (k : Vw G j (pc + 1) ls (.int (x - x / y * y) :: st) h Q) : Vw G j pc ls (.int y :: .int x :: st) h Q := Vw.same (fun p e s m args below meth c h0 H locs la Q cells slots F hl k => lv_irem F.1 F.2.1 hd hne k) k
theorem s_iushr {x y : Int32} (hd : decode (jC j) pc = .ok (.iushr, 1)) (k : Vw G j (pc + 1) ls (.int (x.toUInt32 >>> (y.toUInt32 &&& Int32.toUInt32 31)).toInt32 :: st) h Q) : Vw G j pc ls (.int y :: .int x :: st) h Q := Vw.same (fun p e s m args below meth c h0 H locs la Q cells slots F hl k => lv_iushr F.1 F.2.1 hd rfl k) k
theorem s_ineg {x : Int32} (hd : decode (jC j) pc = .ok (.ineg, 1)) (k : Vw G j (pc + 1) ls (.int (-x) :: st) h Q) : Vw G j pc ls (.int x :: st) h Q := Vw.same (fun p e s m args below meth c h0 H locs la Q cells slots F hl k => lv_ineg F.1 F.2.1 hd k) k
theorem s_lsub {x y : Int64} (hd : decode (jC j) pc = .ok (.lsub, 1)) (k : Vw G j (pc + 1) ls (.long (x - y) :: st) h Q) : Vw G j pc ls (.long y :: .long x :: st) h Q := Vw.same (fun p e s m args below meth c h0 H locs la Q cells slots F hl k => lv_lsub F.1 F.2.1 hd k) k
theorem s_lor {x y : Int64} (hd : decode (jC j) pc = .ok (.lor, 1)) (k : Vw G j (pc + 1) ls (.long (x ||| y) :: st) h Q) : Vw G j pc ls (.long y :: .long x :: st) h Q := Vw.same (fun p e s m args below meth c h0 H locs la Q cells slots F hl k => lv_lor F.1 F.2.1 hd k) k
theorem s_lshl {x : Int64} {y : Int32} (hd : decode (jC j) pc = .ok (.lshl, 1)) (k : Vw G j (pc + 1) ls (.long (x <<< (y.toInt64 &&& 63)) :: st) h Q) : Vw G j pc ls (.int y :: .long x :: st) h Q := Vw.same (fun p e s m args below meth c h0 H locs la Q cells slots F hl k => lv_lshl F.1 F.2.1 hd rfl k) k
theorem s_lcmp {x y : Int64} (hd : decode (jC j) pc = .ok (.lcmp, 1)) (k : Vw G j (pc + 1) ls (.int (lg_cmp x y) :: st) h Q) : Vw G j pc ls (.long y :: .long x :: st) h Q := Vw.same (fun p e s m args below meth c h0 H locs la Q cells slots F hl k => W.lcmp F.1 F.2.1 hd k) k
theorem s_i2l {x : Int32} (hd : decode (jC j) pc = .ok (.i2l, 1)) (k : Vw G j (pc + 1) ls (.long x.toInt64 :: st) h Q) : Vw G j pc ls (.int x :: st) h Q := Vw.same (fun p e s m args below meth c h0 H locs la Q cells slots F hl k => lv_i2l F.1 F.2.1 hd rfl k) k
theorem s_i2c {x : Int32} (hd : decode (jC j) pc = .ok (.i2c, 1)) (k : Vw G j (pc + 1) ls (.int (x.toUInt32 % 65536).toInt32 :: st) h Q) : Vw G j pc ls (.int x :: st) h Q := Vw.same (fun p e s m args below meth c h0 H locs la Q cells slots F hl k => lv_i2c F.1 F.2.1 hd rfl k) k
theorem s_i2b {x : Int32} (hd : decode (jC j) pc = .ok (.i2b, 1)) (k : Vw G j (pc + 1) ls (.int x.toInt8.toInt32 :: st) h Q) : Vw G j pc ls (.int x :: st) h Q := Vw.same (fun p e s m args below meth c h0 H locs la Q cells slots F hl k => lv_i2b F.1 F.2.1 hd rfl k) k
theorem s_iconst {n : Int} (v : Int32) (hd : decode (jC j) pc = .ok (.iconst n, 1)) (hv : Int32.ofInt n = v) (k : Vw G j (pc + 1) ls (.int v :: st) h Q) : Vw G j pc ls st h Q := Vw.same (fun p e s m args below meth c h0 H locs la Q cells slots F hl k => lv_iconst F.1 F.2.1 hd hv k) k
theorem s_bipush {n : Int} (v : Int32) (hd : decode (jC j) pc = .ok (.bipush n, 2)) (hv : (Int8.ofInt n).toInt32 = v) (k : Vw G j (pc + 2) ls (.int v :: st) h Q) : Vw G j pc ls st h Q := Vw.same (fun p e s m args below meth c h0 H locs la Q cells slots F hl k => lv_bipush F.1 F.2.1 hd hv k) k
theorem s_sipush {n : Int} (v : Int32) (hd : decode (jC j) pc = .ok (.sipush n, 3)) (hv : (Int16.ofInt n).toInt32 = v) (k : Vw G j (pc + 3) ls (.int v :: st) h Q) : Vw G j pc ls st h Q := Vw.same (fun p e s m args below meth c h0 H locs la Q cells slots F hl k => lv_sipush F.1 F.2.1 hd hv k) k
theorem s_lconst {n : Fin 2} (v : Int64) (hd : decode (jC j) pc = .ok (.lconst n, 1)) (hv : Int64.ofNat (n : Nat) = v) (k : Vw G j (pc + 1) ls (.long v :: st) h Q) : Vw G j pc ls st h Q := Vw.same (fun p e s m args below meth c h0 H locs la Q cells slots F hl k => lv_lconst F.1 F.2.1 hd hv k) k
theorem s_ldc {i : Nat} {v : Int32} (hd : decode (jC j) pc = .ok (.ldc i, 2)) (hw : Cond.constant (jY j).cls i v ∈ gT) (k : Vw G j (pc + 2) ls (.int v :: st) h Q) : Vw G j pc ls st h Q := Vw.same (fun p e s m args below meth c h0 H locs la Q cells slots F hl k => lv_ldc F.1 F.2.1 F.2.2.2.2.2.1 (F.2.2.2.2.2.2.1 _ hw) hd k) k
theorem s_ldc2 {i : Nat} {v : Int64} (hd : decode (jC j) pc = .ok (.ldc2_w i, 3)) (hw : Cond.constantLong (jY j).cls i v ∈ gT) (k : Vw G j (pc + 3) ls (.long v :: st) h Q) : Vw G j pc ls st h Q := Vw.same (fun p e s m args below meth c h0 H locs la Q cells slots F hl k => lv_ldc2 F.1 F.2.1 F.2.2.2.2.2.1 (F.2.2.2.2.2.2.1 _ hw) hd k) k
theorem s_iload {i : Nat} {x : Int32} (hd : decode (jC j) pc = .ok (.iload i, 2)) (hi : ls[i]? = some (some (.int x))) (k : Vw G j (pc + 2) ls (.int x :: st) h Q) : Vw G j pc ls st h Q := Vw.same (fun p e s m args below meth c h0 H locs la Q cells slots F hl k => lv_iload F.1 F.2.1 hd (lv_of hl hi) k) k
theorem s_iload_n {i : Fin 4} {x : Int32} (hd : decode (jC j) pc = .ok (.iload_n i, 1)) (hi : ls[(i : Nat)]? = some (some (.int x))) (k : Vw G j (pc + 1) ls (.int x :: st) h Q) : Vw G j pc ls st h Q := Vw.same (fun p e s m args below meth c h0 H locs la Q cells slots F hl k => lv_iload_n F.1 F.2.1 hd rfl (lv_of hl hi) k) k
theorem s_lload {i : Nat} {x : Int64} (hd : decode (jC j) pc = .ok (.lload i, 2)) (hi : ls[i]? = some (some (.long x))) (k : Vw G j (pc + 2) ls (.long x :: st) h Q) : Vw G j pc ls st h Q := Vw.same (fun p e s m args below meth c h0 H locs la Q cells slots F hl k => lv_lload F.1 F.2.1 hd (lv_of hl hi) k) k
theorem s_aload {i : Nat} {x : Nat} (hd : decode (jC j) pc = .ok (.aload i, 2)) (hi : ls[i]? = some (some (.ref x))) (k : Vw G j (pc + 2) ls (.ref x :: st) h Q) : Vw G j pc ls st h Q := Vw.same (fun p e s m args below meth c h0 H locs la Q cells slots F hl k => lv_aload F.1 F.2.1 hd (lv_of hl hi) k) k
theorem s_aload_n {i : Fin 4} {x : Nat} (hd : decode (jC j) pc = .ok (.aload_n i, 1)) (hi : ls[(i : Nat)]? = some (some (.ref x))) (k : Vw G j (pc + 1) ls (.ref x :: st) h Q) : Vw G j pc ls st h Q := Vw.same (fun p e s m args below meth c h0 H locs la Q cells slots F hl k => lv_aload_n F.1 F.2.1 hd rfl (lv_of hl hi) k) k
theorem s_aloadS {i : Nat} {x : UInt32} (hd : decode (jC j) pc = .ok (.aload i, 2)) (hi : ls[i]? = some (some (.float x))) (k : Vw G j (pc + 2) ls (.float x :: st) h Q) : Vw G j pc ls st h Q := Vw.same (fun p e s m args below meth c h0 H locs la Q cells slots F hl k => lv_aload F.1 F.2.1 hd (lv_of hl hi) k) k
theorem s_aloadS_n {i : Fin 4} {x : UInt32} (hd : decode (jC j) pc = .ok (.aload_n i, 1)) (hi : ls[(i : Nat)]? = some (some (.float x))) (k : Vw G j (pc + 1) ls (.float x :: st) h Q) : Vw G j pc ls st h Q := Vw.same (fun p e s m args below meth c h0 H locs la Q cells slots F hl k => lv_aload_n F.1 F.2.1 hd rfl (lv_of hl hi) k) k
theorem s_dupi {x : Int32} (hd : decode (jC j) pc = .ok (.dup, 1)) (k : Vw G j (pc + 1) ls (.int x :: .int x :: st) h Q) : Vw G j pc ls (.int x :: st) h Q := Vw.same (fun p e s m args below meth c h0 H locs la Q cells slots F hl k => lv_dup F.1 F.2.1 hd rfl k) k
theorem s_popi {x : Int32} (hd : decode (jC j) pc = .ok (.pop, 1)) (k : Vw G j (pc + 1) ls st h Q) : Vw G j pc ls (.int x :: st) h Q := Vw.same (fun p e s m args below meth c h0 H locs la Q cells slots F hl k => lv_pop F.1 F.2.1 hd rfl k) k
theorem s_dupr {x : Nat} (hd : decode (jC j) pc = .ok (.dup, 1)) (k : Vw G j (pc + 1) ls (.ref x :: .ref x :: st) h Q) : Vw G j pc ls (.ref x :: st) h Q := Vw.same (fun p e s m args below meth c h0 H locs la Q cells slots F hl k => lv_dup F.1 F.2.1 hd rfl k) k
theorem s_popr {x : Nat} (hd : decode (jC j) pc = .ok (.pop, 1)) (k : Vw G j (pc + 1) ls st h Q) : Vw G j pc ls (.ref x :: st) h Q := Vw.same (fun p e s m args below meth c h0 H locs la Q cells slots F hl k => lv_pop F.1 F.2.1 hd rfl k) k
theorem s_dup2ir {x : Int32} {a : Nat} (hd : decode (jC j) pc = .ok (.dup2, 1)) (k : Vw G j (pc + 1) ls (.int x :: .ref a :: .int x :: .ref a :: st) h Q) : Vw G j pc ls (.int x :: .ref a :: st) h Q := Vw.same (fun p e s m args below meth c h0 H locs la Q cells slots F hl k => lv_dup2_11 F.1 F.2.1 hd rfl rfl k) k
theorem s_if_eq {x : Int32} {off : Int} (t : Nat) (hd : decode (jC j) pc = .ok (.ifCond .eq off, 3)) (ht : (pc : Int) + off = (t : Int)) (kt : x = 0 → Vw G j t ls st h Q) (kf : ¬ x = 0 → Vw G j (pc + 3) ls st h Q) : Vw G j pc ls (.int x :: st) h Q :=
  fun p e s m args below meth c h0 H locs la F hS hP hE hl => lv_if_eq F.1 F.2.1 hd ht (fun q => kt q p e s m args below meth c h0 H locs la F hS hP hE hl) (fun q => kf q p e s m args below meth c h0 H locs la F hS hP hE hl)
theorem s_if_ne {x : Int32} {off : Int} (t : Nat) (hd : decode (jC j) pc = .ok (.ifCond .ne off, 3)) (ht : (pc : Int) + off = (t : Int)) (kt : ¬ x = 0 → Vw G j t ls st h Q) (kf : x = 0 → Vw G j (pc + 3) ls st h Q) : Vw G j pc ls (.int x :: st) h Q :=
  fun p e s m args below meth c h0 H locs la F hS hP hE hl => lv_if_ne F.1 F.2.1 hd ht (fun q => kt q p e s m args below meth c h0 H locs la F hS hP hE hl) (fun q => kf q p e s m args below meth c h0 H locs la F hS hP hE hl)
theorem s_if_lt {x : Int32} {off : Int} (t : Nat) (hd : decode (jC j) pc = .ok (.ifCond .lt off, 3)) (ht : (pc : Int) + off = (t : Int)) (kt : x < 0 → Vw G j t ls st h Q) (kf : ¬ x < 0 → Vw G j (pc + 3) ls st h Q) : Vw G j pc ls (.int x :: st) h Q :=
  fun p e s m args below meth c h0 H locs la F hS hP hE hl => lv_if_lt F.1 F.2.1 hd ht (fun q => kt q p e s m args below meth c h0 H locs la F hS hP hE hl) (fun q => kf q p e s m args below meth c h0 H locs la F hS hP hE hl)
theorem s_if_ge {x : Int32} {off : Int} (t : Nat) (hd : decode (jC j) pc = .ok (.ifCond .ge off, 3)) (ht : (pc : Int) + off = (t : Int)) (kt : 0 ≤ x → Vw G j t ls st h Q) (kf : ¬ 0 ≤ x → Vw G j (pc + 3) ls st h Q) : Vw G j pc ls (.int x :: st) h Q :=
  fun p e s m args below meth c h0 H locs la F hS hP hE hl => lv_if_ge F.1 F.2.1 hd ht (fun q => kt q p e s m args below meth c h0 H locs la F hS hP hE hl) (fun q => kf q p e s m args below meth c h0 H locs la F hS hP hE hl)
theorem s_if_gt {x : Int32} {off : Int} (t : Nat) (hd : decode (jC j) pc = .ok (.ifCond .gt off, 3)) (ht : (pc : Int) + off = (t : Int)) (kt : 0 < x → Vw G j t ls st h Q) (kf : ¬ 0 < x → Vw G j (pc + 3) ls st h Q) : Vw G j pc ls (.int x :: st) h Q :=
  fun p e s m args below meth c h0 H locs la F hS hP hE hl => lv_if_gt F.1 F.2.1 hd ht (fun q => kt q p e s m args below meth c h0 H locs la F hS hP hE hl) (fun q => kf q p e s m args below meth c h0 H locs la F hS hP hE hl)
theorem s_if_le {x : Int32} {off : Int} (t : Nat) (hd : decode (jC j) pc = .ok (.ifCond .le off, 3)) (ht : (pc : Int) + off = (t : Int)) (kt : x ≤ 0 → Vw G j t ls st h Q) (kf : ¬ x ≤ 0 → Vw G j (pc + 3) ls st h Q) : Vw G j pc ls (.int x :: st) h Q :=
  fun p e s m args below meth c h0 H locs la F hS hP hE hl => lv_if_le F.1 F.2.1 hd ht (fun q => kt q p e s m args below meth c h0 H locs la F hS hP hE hl) (fun q => kf q p e s m args below meth c h0 H locs la F hS hP hE hl)
theorem s_icmp_eq {x y : Int32} {off : Int} (t : Nat) (hd : decode (jC j) pc = .ok (.if_icmp .eq off, 3)) (ht : (pc : Int) + off = (t : Int)) (kt : x = y → Vw G j t ls st h Q) (kf : ¬ x = y → Vw G j (pc + 3) ls st h Q) : Vw G j pc ls (.int y :: .int x :: st) h Q :=
  fun p e s m args below meth c h0 H locs la F hS hP hE hl => lv_icmp_eq F.1 F.2.1 hd ht (fun q => kt q p e s m args below meth c h0 H locs la F hS hP hE hl) (fun q => kf q p e s m args below meth c h0 H locs la F hS hP hE hl)
theorem s_icmp_ne {x y : Int32} {off : Int} (t : Nat) (hd : decode (jC j) pc = .ok (.if_icmp .ne off, 3)) (ht : (pc : Int) + off = (t : Int)) (kt : ¬ x = y → Vw G j t ls st h Q) (kf : x = y → Vw G j (pc + 3) ls st h Q) : Vw G j pc ls (.int y :: .int x :: st) h Q :=
  fun p e s m args below meth c h0 H locs la F hS hP hE hl => lv_icmp_ne F.1 F.2.1 hd ht (fun q => kt q p e s m args below meth c h0 H locs la F hS hP hE hl) (fun q => kf q p e s m args below meth c h0 H locs la F hS hP hE hl)
theorem s_icmp_lt {x y : Int32} {off : Int} (t : Nat) (hd : decode (jC j) pc = .ok (.if_icmp .lt off, 3)) (ht : (pc : Int) + off = (t : Int)) (kt : x < y → Vw G j t ls st h Q) (kf : ¬ x < y → Vw G j (pc + 3) ls st h Q) : Vw G j pc ls (.int y :: .int x :: st) h Q :=
  fun p e s m args below meth c h0 H locs la F hS hP hE hl => lv_icmp_lt F.1 F.2.1 hd ht (fun q => kt q p e s m args below meth c h0 H locs la F hS hP hE hl) (fun q => kf q p e s m args below meth c h0 H locs la F hS hP hE hl)
theorem s_icmp_ge {x y : Int32} {off : Int} (t : Nat) (hd : decode (jC j) pc = .ok (.if_icmp .ge off, 3)) (ht : (pc : Int) + off = (t : Int)) (kt : y ≤ x → Vw G j t ls st h Q) (kf : ¬ y ≤ x → Vw G j (pc + 3) ls st h Q) : Vw G j pc ls (.int y :: .int x :: st) h Q :=
  fun p e s m args below meth c h0 H locs la F hS hP hE hl => lv_icmp_ge F.1 F.2.1 hd ht (fun q => kt q p e s m args below meth c h0 H locs la F hS hP hE hl) (fun q => kf q p e s m args below meth c h0 H locs la F hS hP hE hl)
theorem s_icmp_gt {x y : Int32} {off : Int} (t : Nat) (hd : decode (jC j) pc = .ok (.if_icmp .gt off, 3)) (ht : (pc : Int) + off = (t : Int)) (kt : y < x → Vw G j t ls st h Q) (kf : ¬ y < x → Vw G j (pc + 3) ls st h Q) : Vw G j pc ls (.int y :: .int x :: st) h Q :=
  fun p e s m args below meth c h0 H locs la F hS hP hE hl => lv_icmp_gt F.1 F.2.1 hd ht (fun q => kt q p e s m args below meth c h0 H locs la F hS hP hE hl) (fun q => kf q p e s m args below meth c h0 H locs la F hS hP hE hl)
theorem s_icmp_le {x y : Int32} {off : Int} (t : Nat) (hd : decode (jC j) pc = .ok (.if_icmp .le off, 3)) (ht : (pc : Int) + off = (t : Int)) (kt : x ≤ y → Vw G j t ls st h Q) (kf : ¬ x ≤ y → Vw G j (pc + 3) ls st h Q) : Vw G j pc ls (.int y :: .int x :: st) h Q :=
  fun p e s m args below meth c h0 H locs la F hS hP hE hl => lv_icmp_le F.1 F.2.1 hd ht (fun q => kt q p e s m args below meth c h0 H locs la F hS hP hE hl) (fun q => kf q p e s m args below meth c h0 H locs la F hS hP hE hl)
theorem s_goto {off : Int} (t : Nat) (hd : decode (jC j) pc = .ok (.goto off, 3)) (ht : (pc : Int) + off = (t : Int)) (k : Vw G j t ls st h Q) : Vw G j pc ls st h Q := Vw.same (fun p e s m args below meth c h0 H locs la Q cells slots F hl k => lv_goto F.1 F.2.1 hd ht k) k
theorem s_tableIn {dflt lo hi : Int} {offs : Array Int} {len : Nat} {x : Int32} {off : Int} (t : Nat) (hd : decode (jC j) pc = .ok (.tableswitch dflt lo hi offs, len)) (h1 : ¬ x.toInt < lo) (h2 : ¬ hi < x.toInt) (ho : offs[(x.toInt - lo).toNat]? = some off) (ht : (pc : Int) + off = (t : Int)) (k : Vw G j t ls st h Q) : Vw G j pc ls (.int x :: st) h Q := Vw.same (fun p e s m args below meth c h0 H locs la Q cells slots F hl k => lv_tableIn F.1 F.2.1 hd h1 h2 ho ht k) k
theorem s_tableOut {dflt lo hi : Int} {offs : Array Int} {len : Nat} {x : Int32} (t : Nat) (hd : decode (jC j) pc = .ok (.tableswitch dflt lo hi offs, len)) (h1 : x.toInt < lo ∨ hi < x.toInt) (ht : (pc : Int) + dflt = (t : Int)) (k : Vw G j t ls st h Q) : Vw G j pc ls (.int x :: st) h Q := Vw.same (fun p e s m args below meth c h0 H locs la Q cells slots F hl k => lv_tableOut F.1 F.2.1 hd h1 ht k) k
theorem s_lookup {dflt : Int} {ps : Array (Int × Int)} {len : Nat} {x : Int32} {off : Int} (t : Nat) (hd : decode (jC j) pc = .ok (.lookupswitch dflt ps, len)) (hp : (ps.toList.zip (ps.toList.drop 1)).all (fun (a, next) => a.1 < next.1) = true) (ho : Op.lookupswitch.offset ps.toList dflt x.toInt = off) (ht : (pc : Int) + off = (t : Int)) (k : Vw G j t ls st h Q) : Vw G j pc ls (.int x :: st) h Q := Vw.same (fun p e s m args below meth c h0 H locs la Q cells slots F hl k => lv_lookup F.1 F.2.1 hd hp ho ht k) k
def lvl (G : GX) (ls : mL) : List (Nat × Value) := (List.range ls.length).filterMap (fun i => match ls[i]? with | some (some v) => some (i, rv G v) | _ => none)
theorem lvl_mem {i : Nat} {v : Value} : (i, v) ∈ lvl G ls ↔ ∃ w, ls[i]? = some (some w) ∧ rv G w = v := by
  unfold lvl
  rw [List.mem_filterMap]
  constructor
  · rintro ⟨a, -, ha⟩
    split at ha
    · rename_i w hw
      cases ha
      exact ⟨w, hw, rfl⟩
    · cases ha
  · rintro ⟨w, hw, rfl⟩
    refine ⟨i, List.mem_range.mpr (List.getElem?_eq_some_iff.mp hw).1, ?_⟩
    rw [hw]
theorem mLs.has {nL : Nat} {la : Array Slot} (hl : mLs G nL ls la) : lv_has la nL (lvl G ls) := ⟨hl.1, hl.2.1, fun q hq => by
  obtain ⟨i, v⟩ := q
  obtain ⟨w, hw, rfl⟩ := lvl_mem.mp hq
  exact hl.2.2 i w hw⟩
def mOk (ls : mL) (i : Nat) : Bool := match i with
  | 0 => true
  | k + 1 => match ls[k]? with
    | some (some (.long _)) => false
    | some (some (.double _)) => false
    | _ => true
theorem mOk_cat {i k : Nat} {w : Value} (h : mOk ls i = true) (hk : ls[k]? = some (some w)) (hi : k + 1 = i) : (rv G w).category ≠ 2 := by
  subst hi
  cases w <;> simp_all [mOk, rv, Value.category]
theorem mLs.set {nL i : Nat} {la : Array Slot} {v w : Value} (ho : mOk ls i = true) (hw : rv G v = w) (hl : lv_has la nL ((i, w) :: (lvl G ls).filter (fun q => !(q.1 == i) && !(q.1 + 1 == i && q.2.category == 2)))) : mLs G nL (ls.set i (some v)) la := by
  refine ⟨hl.1, hl.2.1, fun k u hk => ?_⟩
  by_cases hki : k = i
  · subst hki
    by_cases hlt : k < ls.length
    · rw [List.getElem?_set_self hlt] at hk
      cases hk
      rw [hw]
      exact hl.2.2 (k, w) List.mem_cons_self
    · rw [List.getElem?_eq_none (by simp; omega)] at hk
      cases hk
  · rw [List.getElem?_set_ne (fun q => hki q.symm)] at hk
    refine hl.2.2 (k, rv G u) (List.mem_cons_of_mem _ (List.mem_filter.mpr ⟨lvl_mem.mpr ⟨u, hk, rfl⟩, ?_⟩))
    have h1 : (k == i) = false := by simpa using hki
    by_cases h2 : k + 1 = i
    · have := mOk_cat (G := G) ho hk h2
      simp [h1, this]
    · simp [h1, h2]
theorem mLs.setL {nL i : Nat} {la : Array Slot} {v w : Value} (ho : mOk ls i = true) (hw : rv G v = w) (hl : lv_has la nL ((i, w) :: (lvl G ls).filter (fun q => !(q.1 == i) && (!(q.1 == i + 1) && !(q.1 + 1 == i && q.2.category == 2))))) : mLs G nL ((ls.set i (some v)).set (i + 1) none) la := by
  refine ⟨hl.1, hl.2.1, fun k u hk => ?_⟩
  by_cases hk1 : k = i + 1
  · subst hk1
    by_cases hlt : i + 1 < ls.length
    · rw [List.getElem?_set_self (by simpa using hlt)] at hk
      cases hk
    · rw [List.getElem?_eq_none (by simp; omega)] at hk
      cases hk
  · rw [List.getElem?_set_ne (fun q => hk1 q.symm)] at hk
    by_cases hki : k = i
    · subst hki
      by_cases hlt : k < ls.length
      · rw [List.getElem?_set_self hlt] at hk
        cases hk
        rw [hw]
        exact hl.2.2 (k, w) List.mem_cons_self
      · rw [List.getElem?_eq_none (by simp; omega)] at hk
        cases hk
    · rw [List.getElem?_set_ne (fun q => hki q.symm)] at hk
      refine hl.2.2 (k, rv G u) (List.mem_cons_of_mem _ (List.mem_filter.mpr ⟨lvl_mem.mpr ⟨u, hk, rfl⟩, ?_⟩))
      have h1 : (k == i) = false := by simpa using hki
      have h3 : (k == i + 1) = false := by simpa using hk1
      by_cases h2 : k + 1 = i
      · have := mOk_cat (G := G) ho hk h2
        simp [h1, h3, this]
      · simp [h1, h3, h2]
theorem s_istore {i : Nat} {x : Int32} (hd : decode (jC j) pc = .ok (.istore i, 2)) (hn : i < jL j) (ho : mOk ls i = true) (k : Vw G j (pc + 2) (ls.set i (some (.int x))) st h Q) : Vw G j pc ls (.int x :: st) h Q :=
  fun p e s m args below meth c h0 H locs la F hS hP hE hl => lv_istore F.1 F.2.1 hd hl.has hn rfl (fun la2 hl2 => k p e s m args below meth c h0 H locs la2 F hS hP hE (mLs.set ho rfl hl2))
theorem s_istore_n {i : Fin 4} {x : Int32} (hd : decode (jC j) pc = .ok (.istore_n i, 1)) (hn : (i : Nat) < jL j) (ho : mOk ls (i : Nat) = true) (k : Vw G j (pc + 1) (ls.set (i : Nat) (some (.int x))) st h Q) : Vw G j pc ls (.int x :: st) h Q :=
  fun p e s m args below meth c h0 H locs la F hS hP hE hl => lv_istore_n F.1 F.2.1 hd rfl hl.has hn rfl (fun la2 hl2 => k p e s m args below meth c h0 H locs la2 F hS hP hE (mLs.set ho rfl hl2))
theorem s_astore {i : Nat} {x : Nat} (hd : decode (jC j) pc = .ok (.astore i, 2)) (hn : i < jL j) (ho : mOk ls i = true) (k : Vw G j (pc + 2) (ls.set i (some (.ref x))) st h Q) : Vw G j pc ls (.ref x :: st) h Q :=
  fun p e s m args below meth c h0 H locs la F hS hP hE hl => lv_astore F.1 F.2.1 hd hl.has hn rfl (fun la2 hl2 => k p e s m args below meth c h0 H locs la2 F hS hP hE (mLs.set ho rfl hl2))
theorem s_astore_n {i : Fin 4} {x : Nat} (hd : decode (jC j) pc = .ok (.astore_n i, 1)) (hn : (i : Nat) < jL j) (ho : mOk ls (i : Nat) = true) (k : Vw G j (pc + 1) (ls.set (i : Nat) (some (.ref x))) st h Q) : Vw G j pc ls (.ref x :: st) h Q :=
  fun p e s m args below meth c h0 H locs la F hS hP hE hl => lv_astore_n F.1 F.2.1 hd rfl hl.has hn rfl (fun la2 hl2 => k p e s m args below meth c h0 H locs la2 F hS hP hE (mLs.set ho rfl hl2))
theorem s_lstore {i : Nat} {x : Int64} (hd : decode (jC j) pc = .ok (.lstore i, 2)) (hn : i + 1 < jL j) (ho : mOk ls i = true) (k : Vw G j (pc + 2) ((ls.set i (some (.long x))).set (i + 1) none) st h Q) : Vw G j pc ls (.long x :: st) h Q :=
  fun p e s m args below meth c h0 H locs la F hS hP hE hl => lv_lstore F.1 F.2.1 hd hl.has hn rfl (fun la2 hl2 => k p e s m args below meth c h0 H locs la2 F hS hP hE (mLs.setL ho rfl hl2))
theorem s_iinc {i : Nat} {n : Int} {x : Int32} (v : Int32) (hd : decode (jC j) pc = .ok (.iinc i n, 3)) (hi : ls[i]? = some (some (.int x))) (hv : Int32.ofInt n = v) (hn : i < jL j) (ho : mOk ls i = true) (k : Vw G j (pc + 3) (ls.set i (some (.int (x + v)))) st h Q) : Vw G j pc ls st h Q := by
  intro p e s m args below meth c h0 H locs la F hS hP hE hl
  obtain ⟨kk, hkk⟩ := List.getElem?_of_mem (lvl_mem.mpr ⟨_, hi, (rfl : rv G (.int x) = .int x)⟩)
  exact lv_iinc (v := x + v) F.1 F.2.1 hd hl.has hkk (by rw [hv]) hn rfl (fun la2 hl2 => k p e s m args below meth c h0 H locs la2 F hS hP hE (mLs.set ho rfl hl2))
end RULES
end
section
section HEAPS
def gI (h : mH) (o k : Nat) : Int32 := h.2.1 o k
def gJ (h : mH) (o k : Nat) : Int64 := h.2.2.1 o k
def gR (h : mH) (o k : Nat) : Value := h.2.2.2 o k
/-- a row of ints anew -/
def pA (h : mH) (o : Nat) (f : Nat → Int32) : mH := (h.1, fun o' => if o' = o then f else h.2.1 o', h.2.2.1, h.2.2.2)
def pI (h : mH) (o k : Nat) (v : Int32) : mH := pA h o (upd (h.2.1 o) k v)
def pJ (h : mH) (o k : Nat) (v : Int64) : mH := (h.1, h.2.1, fun o' => if o' = o then vp_updL (h.2.2.1 o) k v else h.2.2.1 o', h.2.2.2)
def pR (h : mH) (o k : Nat) (v : Value) : mH := (h.1, h.2.1, h.2.2.1, fun o' => if o' = o then updV (h.2.2.2 o) k v else h.2.2.2 o')
variable {G : GX} {j : MX} {pc : Nat} {ls : mL} {st : List Value} {h : mH} {Q : mO → mH → Prop}
theorem fv_congr {h h' : mH} {o : Nat} (h1 : h'.2.1 o = h.2.1 o) (h2 : h'.2.2.1 o = h.2.2.1 o) (h3 : h'.2.2.2 o = h.2.2.2 o) (c k : Nat) : fv h' o c k = fv h o c k := by
  unfold fv fvT
  rw [h1, h2, h3]
theorem mCell.congr {h h' : mH} {o c n : Nat} {ce : Cell} (h1 : h'.2.1 o = h.2.1 o) (h2 : h'.2.2.1 o = h.2.2.1 o) (h3 : h'.2.2.2 o = h.2.2.2 o) (m : mCell G h o c n ce) : mCell G h' o c n ce := by
  obtain ⟨a1, a2, a3, a4, a5, a6⟩ := m
  refine ⟨a1, a2, fun hc => ⟨(a3 hc).1, (a3 hc).2.1, fun k hk => ?_⟩, ?_, ?_, ?_⟩
  · rw [fv_congr h1 h2 h3]; exact (a3 hc).2.2 k hk
  · rw [h1]; exact a4
  · rw [h1]; exact a5
  · rw [h2]; exact a6
theorem Pic.upd {h h' : mH} {H H' : Heap} {o c n : Nat} (hP : Pic G h H) (hs : h'.1 = h.1) (ho : h.1[o]? = some (c, n)) (hother : ∀ o', o' ≠ o → h'.2.1 o' = h.2.1 o' ∧ h'.2.2.1 o' = h.2.2.1 o' ∧ h'.2.2.2 o' = h.2.2.2 o') (z : H'.size = H.size) (oq : ∀ q : Nat, q ≠ gZ G + o → H'[q]? = H[q]?) {ce : Cell} (hce : H'[gZ G + o]? = some ce) (hm : mCell G h' o c n ce) : Pic G h' H' := by
  obtain ⟨p1, p2, p3, p4⟩ := hP
  refine ⟨by rw [z, hs]; exact p1, by rw [hs]; exact p2, by unfold sl; rw [hs]; exact p3, fun o' c' n' ho' => ?_⟩
  rw [hs] at ho'
  by_cases e : o' = o
  · subst e
    cases ho.symm.trans ho'
    exact ⟨ce, hce, hm⟩
  · obtain ⟨ce', q1, q2⟩ := p4 o' c' n' ho'
    obtain ⟨e1, e2, e3⟩ := hother o' e
    exact ⟨ce', by rw [oq _ (by omega)]; exact q1, q2.congr e1 e2 e3⟩
theorem gA_in {o : Nat} : gA G (gZ G + o) := Nat.le_add_right _ _
/-- a class of the mini machine: its fields' table, its words -/
def CL (c : Nat) (C : String) (T : u_T) (N : Nat) : Prop := c < 11 ∧ mCl[c]? = some (C, T, N) ∧ (∀ w ∈ u_ws C T N, w ∈ gT) ∧ (∀ k, k < N → parseFieldDescriptor (T k).2.2.1 = some (mTy c k)) ∧ (∀ a, a < N → ∀ b, b < N → a ≠ b → (T a).2.1 ≠ (T b).2.1)
/-- an entry of own's pool is field k of class c -/
def FL (own : String) (i c k : Nat) : Prop := ∃ C T N, CL c C T N ∧ k < N ∧ Cond.fieldLink own i (T k).1 (T k).2.1 (T k).2.2.1 ∈ gT
def FF (c k : Nat) (b : Bool) : Prop := ∀ C T N, mCl[c]? = some (C, T, N) → (T k).2.2.2 = b
theorem s_get {i c n k o : Nat} {v : Value} (hd : decode (jC j) pc = .ok (.getfield i, 3)) (hf : FL (jY j).cls i c k) (ho : h.1[o]? = some (c, n)) (hv : fv h o c k = v) (kk : Vw G j (pc + 3) ls (v :: st) h Q) : Vw G j pc ls (.ref o :: st) h Q := by
  intro p e s m args below meth c' h0 H locs la F hS hP hE hl
  obtain ⟨C, T, N, ⟨hc, hcl, hin, hty, hnm⟩, hk, hlk⟩ := hf
  obtain ⟨ce, q1, q2, q3, q4, -⟩ := hP.2.2.2 o c n ho
  obtain ⟨g1, ⟨r, g2, g3⟩, g4⟩ := q4 hc
  cases hcl.symm.trans g2
  have hN : N = n := g3
  subst hN
  have hts := F.2.2.2.2.2.2.1
  have hK := F.2.2.2.2.2.2.2.1.1
  obtain ⟨hSl, hfc, kC, hkC, hkind⟩ := hK.1 c _ hcl
  obtain ⟨cf, kf, fi, f, hi, hsl⟩ := hSl k hk
  refine W.getf F.1 F.2.1 F.2.2.2.2.2.1 (hts _ hlk) hi (u_facts hfc hkC (u_lays hts hin hk) hi).1 q1 (by rw [q3 (by omega)]; exact fun h => by cases h) (v := rv G v) ?_ rfl rfl hd (kk p e s m args below meth c' h0 H locs la F hS hP hE hl)
  rw [hsl, g4 k hk, hv]
theorem s_getI {i c n k o : Nat} (hd : decode (jC j) pc = .ok (.getfield i, 3)) (hf : FL (jY j).cls i c k) (ht : mTy c k = .int ∨ mTy c k = .boolean) (ho : h.1[o]? = some (c, n)) (kk : Vw G j (pc + 3) ls (.int (gI h o k) :: st) h Q) : Vw G j pc ls (.ref o :: st) h Q :=
  s_get hd hf ho (by unfold fv fvT; rcases ht with e | e <;> rw [e] <;> rfl) kk
theorem s_getJ {i c n k o : Nat} (hd : decode (jC j) pc = .ok (.getfield i, 3)) (hf : FL (jY j).cls i c k) (ht : mTy c k = .long) (ho : h.1[o]? = some (c, n)) (kk : Vw G j (pc + 3) ls (.long (gJ h o k) :: st) h Q) : Vw G j pc ls (.ref o :: st) h Q :=
  s_get hd hf ho (by unfold fv fvT; rw [ht]; rfl) kk
def isRefT (t : FieldType) : Bool := match t with
  | .array _ => true
  | .object _ => true
  | _ => false
theorem fvT_ref {t : FieldType} (ht : isRefT t = true) (h : mH) (o k : Nat) : fvT t h o k = gR h o k := by
  cases t <;> first | rfl | cases ht
theorem s_getR {i c n k o : Nat} {v : Value} (hd : decode (jC j) pc = .ok (.getfield i, 3)) (hf : FL (jY j).cls i c k) (ht : isRefT (mTy c k) = true) (ho : h.1[o]? = some (c, n)) (hr : gR h o k = v) (kk : Vw G j (pc + 3) ls (v :: st) h Q) : Vw G j pc ls (.ref o :: st) h Q :=
  s_get hd hf ho (by unfold fv; rw [fvT_ref ht]; exact hr) kk
/-- a field is written: the new heap has v there, and all else as it was -/
theorem s_put {i c n k o : Nat} {v : Value} {h' : mH} (b : Bool) (hd : decode (jC j) pc = .ok (.putfield i, 3)) (hf : FL (jY j).cls i c k) (hb : FF c k b) (hbi : b = true → (jY j).name = "<init>" ∧ ∀ C T N, mCl[c]? = some (C, T, N) → (T k).1 = (jY j).cls) (ho : h.1[o]? = some (c, n))
    (hn : narrow (mTy c k) (rv G v) = rv G v) (hfit : fits (mTy c k) (rv G v) = true)
    (hs : h'.1 = h.1) (hother : ∀ o', o' ≠ o → h'.2.1 o' = h.2.1 o' ∧ h'.2.2.1 o' = h.2.2.1 o' ∧ h'.2.2.2 o' = h.2.2.2 o') (hk1 : fv h' o c k = v) (hk2 : ∀ k', k' ≠ k → fv h' o c k' = fv h o c k')
    (kk : Vw G j (pc + 3) ls st h' Q) : Vw G j pc ls (v :: .ref o :: st) h Q := by
  intro p e s m args below meth c' h0 H locs la F hS hP hE hl
  obtain ⟨C, T, N, ⟨hc, hcl, hin, hty, hnm⟩, hk, hlk⟩ := hf
  obtain ⟨ce, q1, q2, q3, q4, q5, q6, q7⟩ := hP.2.2.2 o c n ho
  obtain ⟨g1, ⟨r, g2, g3⟩, g4⟩ := q4 hc
  cases hcl.symm.trans g2
  have hN : N = n := g3
  subst hN
  have hts := F.2.2.2.2.2.2.1
  have hK := F.2.2.2.2.2.2.2.1.1
  have hap := va_apart (own := "") hts hin (mTy c) hty hnm hK hcl
  obtain ⟨hSl, hfc, kC, hkC, hkind⟩ := hK.1 c _ hcl
  obtain ⟨cf, kf, fi, f, hi, hsl⟩ := hSl k hk
  have hlay := hts _ (hin _ (u_in_lay hk))
  have hst := (u_facts hfc hkC (u_lays hts hin hk) hi).1
  have hlt : f.slot < ce.slots.size := by rw [hsl]; exact k2_hasslot (g4 k hk)
  have fin : ∀ H' : Heap, H'[gZ G + o]? = some (ce.setSlot f.slot (rv G v)) → H'.size = H.size → (∀ q, q ≠ gZ G + o → H'[q]? = H[q]?) → W p (gL G) e (jRm j h0) s m args below meth c' H' (locs ++ [⟨gZ G + o, f.slot⟩]) (h.1.length - h0.1.length) (sl h - sl h0) (vx_MQ below (qR G h0 Q) (qX G h0 Q) args s (NC - h0.1.length) (NS - sl h0) (gA G)) (F0 m (pc + 3) la (st.map (rv G))) := by
    intro H' e1 e2 e3
    have hP' : Pic G h' H' := by
      refine hP.upd hs ho hother e2 e3 e1 ⟨by rw [← q2]; simp [Cell.setSlot], q3, fun _ => ⟨g1, ⟨_, hcl, rfl⟩, fun k' hk' => ?_⟩, fun z => ?_, fun z => ?_, fun z => ?_⟩
      · have := t_set g4 hap hk (rv G v) k' hk'
        rw [hsl, this]
        unfold updV
        by_cases e : k' = k
        · subst e; rw [if_pos rfl, hk1]
        · rw [if_neg e, hk2 k' e]
      · omega
      · omega
      · omega
    have hsl' : sl h' = sl h := by unfold sl; rw [hs]
    have := kk p e s m args below meth c' h0 H' (locs ++ [⟨gZ G + o, f.slot⟩]) la F (hS.put e2 e3 gA_in) hP' (by obtain ⟨r, hr⟩ := hE; exact ⟨r, by rw [hs]; exact hr⟩) hl
    rw [hs, hsl'] at this
    exact this
  cases b with
  | false =>
    unfold u_lay at hlay
    rw [if_neg (by rw [hb C T N hcl]; decide)] at hlay
    have h6 := u_store hfc hkC hkind hlay hi (hty k hk) hn hfit
    exact W.putK F.1 F.2.1 (f := f) ⟨F.2.2.2.2.2.1, hts _ hlk, ⟨_, _, _, hi⟩, hst⟩ (by rw [g1]; exact h6) q1 (q3 (by omega)) hlt rfl rfl hd fin
  | true =>
    unfold u_lay at hlay
    rw [if_pos (hb C T N hcl)] at hlay
    obtain ⟨hin2, hdecl⟩ := hbi rfl
    have hcf : m.cls = cf := by
      obtain ⟨_, _, c9, _, _, _, -, -, hf', -, -, -, hown2, -⟩ := Cond.laysFinal_spec hlay
      have e1 : c9 = cf := by have := hi.symm.trans hf'; simp at this; exact this.1.symm
      rw [hdecl C T N hcl] at hown2
      rw [← e1]; exact Option.some.inj (F.2.2.2.2.2.1.symm.trans hown2)
    have h6 := u_fits hfc hkC hkind (Or.inr hlay) hi (hty k hk) hn hfit
    exact W.putFinK F.1 F.2.1 F.2.2.2.2.2.1 (hts _ hlk) hi hst hcf (F.2.2.2.2.2.2.2.2.2.1.trans hin2) (by rw [g1]; exact h6) q1 (q3 (by omega)) hlt rfl rfl hd fin
end HEAPS
end
section
section HEAPS2
variable {G : GX} {j : MX} {pc : Nat} {ls : mL} {st : List Value} {h : mH} {Q : mO → mH → Prop}
theorem pA_other (h : mH) (o : Nat) (f : Nat → Int32) : ∀ o', o' ≠ o → (pA h o f).2.1 o' = h.2.1 o' ∧ (pA h o f).2.2.1 o' = h.2.2.1 o' ∧ (pA h o f).2.2.2 o' = h.2.2.2 o' := fun o' e => ⟨by simp [pA, e], rfl, rfl⟩
theorem pA_self (h : mH) (o : Nat) (f : Nat → Int32) : (pA h o f).2.1 o = f := by simp [pA]
theorem pJ_other (h : mH) (o k : Nat) (v : Int64) : ∀ o', o' ≠ o → (pJ h o k v).2.1 o' = h.2.1 o' ∧ (pJ h o k v).2.2.1 o' = h.2.2.1 o' ∧ (pJ h o k v).2.2.2 o' = h.2.2.2 o' := fun o' e => ⟨rfl, by simp [pJ, e], rfl⟩
theorem pR_other (h : mH) (o k : Nat) (v : Value) : ∀ o', o' ≠ o → (pR h o k v).2.1 o' = h.2.1 o' ∧ (pR h o k v).2.2.1 o' = h.2.2.1 o' ∧ (pR h o k v).2.2.2 o' = h.2.2.2 o' := fun o' e => ⟨rfl, rfl, by simp [pR, e]⟩
theorem fv_pI {h : mH} {o c k : Nat} {v : Int32} (ht : mTy c k = .int ∨ mTy c k = .boolean) : fv (pI h o k v) o c k = .int v ∧ ∀ k', k' ≠ k → fv (pI h o k v) o c k' = fv h o c k' := by
  refine ⟨?_, fun k' e => ?_⟩
  · unfold fv fvT pI
    rcases ht with q | q <;> rw [q] <;> simp [pA, upd]
  · unfold fv fvT pI
    have : (pA h o (upd (h.2.1 o) k v)).2.1 o k' = h.2.1 o k' := by simp [pA, upd, e]
    rw [this]
    rfl
theorem fv_pJ {h : mH} {o c k : Nat} {v : Int64} (ht : mTy c k = .long) : fv (pJ h o k v) o c k = .long v ∧ ∀ k', k' ≠ k → fv (pJ h o k v) o c k' = fv h o c k' := by
  refine ⟨?_, fun k' e => ?_⟩
  · unfold fv fvT
    rw [ht]
    simp [pJ, vp_updL]
  · unfold fv fvT
    have : (pJ h o k v).2.2.1 o k' = h.2.2.1 o k' := by simp [pJ, vp_updL, e]
    rw [this]
    rfl
theorem fv_pR {h : mH} {o c k : Nat} {v : Value} (ht : isRefT (mTy c k) = true) : fv (pR h o k v) o c k = v ∧ ∀ k', k' ≠ k → fv (pR h o k v) o c k' = fv h o c k' := by
  refine ⟨?_, fun k' e => ?_⟩
  · unfold fv
    rw [fvT_ref ht]
    simp [gR, pR, updV]
  · unfold fv fvT
    have : (pR h o k v).2.2.2 o k' = h.2.2.2 o k' := by simp [pR, updV, e]
    rw [this]
    rfl
theorem s_putI {i c n k o : Nat} {x : Int32} (hd : decode (jC j) pc = .ok (.putfield i, 3)) (hf : FL (jY j).cls i c k) (hb : FF c k false) (ht : mTy c k = .int) (ho : h.1[o]? = some (c, n)) (kk : Vw G j (pc + 3) ls st (pI h o k x) Q) : Vw G j pc ls (.int x :: .ref o :: st) h Q :=
  s_put (h' := pI h o k x) false hd hf hb (fun z => by cases z) ho (by rw [ht]; rfl) (by rw [ht]; rfl) rfl (pA_other h o _) (fv_pI (Or.inl ht)).1 (fv_pI (Or.inl ht)).2 kk
theorem s_putZ {i c n k o : Nat} {x : Int32} (hd : decode (jC j) pc = .ok (.putfield i, 3)) (hf : FL (jY j).cls i c k) (hb : FF c k false) (ht : mTy c k = .boolean) (ho : h.1[o]? = some (c, n)) (hx : x = 0 ∨ x = 1) (kk : Vw G j (pc + 3) ls st (pI h o k x) Q) : Vw G j pc ls (.int x :: .ref o :: st) h Q :=
  s_put (h' := pI h o k x) false hd hf hb (fun z => by cases z) ho (by rw [ht]; rcases hx with e | e <;> subst e <;> rfl) (by rw [ht]; rcases hx with e | e <;> subst e <;> rfl) rfl (pA_other h o _) (fv_pI (Or.inr ht)).1 (fv_pI (Or.inr ht)).2 kk
theorem s_putJ {i c n k o : Nat} {x : Int64} (hd : decode (jC j) pc = .ok (.putfield i, 3)) (hf : FL (jY j).cls i c k) (hb : FF c k false) (ht : mTy c k = .long) (ho : h.1[o]? = some (c, n)) (kk : Vw G j (pc + 3) ls st (pJ h o k x) Q) : Vw G j pc ls (.long x :: .ref o :: st) h Q :=
  s_put (h' := pJ h o k x) false hd hf hb (fun z => by cases z) ho (by rw [ht]; rfl) (by rw [ht]; rfl) rfl (pJ_other h o k _) (fv_pJ ht).1 (fv_pJ ht).2 kk
theorem isRefT_nar {t : FieldType} (ht : isRefT t = true) (a : Nat) : narrow t (.ref a) = .ref a ∧ fits t (.ref a) = true := by
  cases t <;> first | exact ⟨rfl, rfl⟩ | cases ht
theorem s_putR {i c n k o r : Nat} (b : Bool) (hd : decode (jC j) pc = .ok (.putfield i, 3)) (hf : FL (jY j).cls i c k) (hb : FF c k b) (hbi : b = true → (jY j).name = "<init>" ∧ ∀ C T N, mCl[c]? = some (C, T, N) → (T k).1 = (jY j).cls) (ht : isRefT (mTy c k) = true) (ho : h.1[o]? = some (c, n)) (kk : Vw G j (pc + 3) ls st (pR h o k (.ref r)) Q) : Vw G j pc ls (.ref r :: .ref o :: st) h Q :=
  s_put (h' := pR h o k (.ref r)) b hd hf hb hbi ho (isRefT_nar ht _).1 (isRefT_nar ht _).2 rfl (pR_other h o k _) (fv_pR ht).1 (fv_pR ht).2 kk
/-- arrays -/
theorem s_iaload {i : Int32} {a n : Nat} (hd : decode (jC j) pc = .ok (.iaload, 1)) (ho : h.1[a]? = some (100, n)) (hi : vp_in i n) (kk : Vw G j (pc + 1) ls (.int (gI h a i.toNatClampNeg) :: st) h Q) : Vw G j pc ls (.int i :: .ref a :: st) h Q := by
  intro p e s m args below meth c' h0 H locs la F hS hP hE hl
  obtain ⟨ce, q1, q2, q3, -, q5, -⟩ := hP.2.2.2 a _ n ho
  rw [q5 rfl] at q1
  have hK := F.2.2.2.2.2.2.2.1.1
  exact va_iald (ws := [(gZ G + a, .inl (gC G 0, n, .inl (fun i => h.2.1 a i)))]) F.1 F.2.1 hK (fun k q hk => by cases k with | zero => cases hk; exact q1 | succ k => cases hk) 0 0 rfl rfl hi hd (kk p e s m args below meth c' h0 H locs la F hS hP hE hl)
theorem s_baload {i : Int32} {a n : Nat} (hd : decode (jC j) pc = .ok (.baload, 1)) (ho : h.1[a]? = some (101, n)) (hi : vp_in i n) (kk : Vw G j (pc + 1) ls (.int (gI h a i.toNatClampNeg) :: st) h Q) : Vw G j pc ls (.int i :: .ref a :: st) h Q := by
  intro p e s m args below meth c' h0 H locs la F hS hP hE hl
  obtain ⟨ce, q1, q2, q3, -, -, q6, -⟩ := hP.2.2.2 a _ n ho
  rw [q6 rfl] at q1
  have hK := F.2.2.2.2.2.2.2.1.1
  exact va_bald (ws := [(gZ G + a, .inl (gC G 1, n, .inl (fun i => h.2.1 a i)))]) F.1 F.2.1 hK (fun k q hk => by cases k with | zero => cases hk; exact q1 | succ k => cases hk) 0 1 rfl rfl hi hd (kk p e s m args below meth c' h0 H locs la F hS hP hE hl)
theorem s_laload {i : Int32} {a n : Nat} (hd : decode (jC j) pc = .ok (.laload, 1)) (ho : h.1[a]? = some (102, n)) (hi : vp_in i n) (kk : Vw G j (pc + 1) ls (.long (gJ h a i.toNatClampNeg) :: st) h Q) : Vw G j pc ls (.int i :: .ref a :: st) h Q := by
  intro p e s m args below meth c' h0 H locs la F hS hP hE hl
  obtain ⟨ce, q1, q2, q3, -, -, -, q7⟩ := hP.2.2.2 a _ n ho
  rw [q7 rfl] at q1
  have hK := F.2.2.2.2.2.2.2.1.1
  exact va_lald (ws := [(gZ G + a, .inl (gC G 2, n, .inr (.inl (fun i => h.2.2.1 a i))))]) F.1 F.2.1 hK (fun k q hk => by cases k with | zero => cases hk; exact q1 | succ k => cases hk) 0 2 rfl rfl hi hd (kk p e s m args below meth c' h0 H locs la F hS hP hE hl)
theorem s_alen {a n c : Nat} (hd : decode (jC j) pc = .ok (.arraylength, 1)) (ho : h.1[a]? = some (c, n)) (hc : c = 100 ∨ c = 101 ∨ c = 102) (kk : Vw G j (pc + 1) ls (.int (Int32.ofNat n) :: st) h Q) : Vw G j pc ls (.ref a :: st) h Q := by
  intro p e s m args below meth c' h0 H locs la F hS hP hE hl
  obtain ⟨ce, q1, q2, q3, -, q5, q6, q7⟩ := hP.2.2.2 a _ n ho
  have hK := F.2.2.2.2.2.2.2.1.1
  rcases hc with e9 | e9 | e9 <;> subst e9
  · rw [q5 rfl] at q1
    exact va_alen (ws := [(gZ G + a, .inl (gC G 0, n, .inl (fun i => h.2.1 a i)))]) F.1 F.2.1 hK (fun k q hk => by cases k with | zero => cases hk; exact q1 | succ k => cases hk) 0 0 rfl (ty := .int) rfl rfl hd (kk p e s m args below meth c' h0 H locs la F hS hP hE hl)
  · rw [q6 rfl] at q1
    exact va_alen (ws := [(gZ G + a, .inl (gC G 1, n, .inl (fun i => h.2.1 a i)))]) F.1 F.2.1 hK (fun k q hk => by cases k with | zero => cases hk; exact q1 | succ k => cases hk) 0 1 rfl (ty := .byte) rfl rfl hd (kk p e s m args below meth c' h0 H locs la F hS hP hE hl)
  · rw [q7 rfl] at q1
    exact va_alen (ws := [(gZ G + a, .inl (gC G 2, n, .inr (.inl (fun i => h.2.2.1 a i))))]) F.1 F.2.1 hK (fun k q hk => by cases k with | zero => cases hk; exact q1 | succ k => cases hk) 0 2 rfl (ty := .long) rfl rfl hd (kk p e s m args below meth c' h0 H locs la F hS hP hE hl)
theorem s_iastore {i x : Int32} {a n : Nat} (hd : decode (jC j) pc = .ok (.iastore, 1)) (ho : h.1[a]? = some (100, n)) (hi : vp_in i n) (kk : Vw G j (pc + 1) ls st (pI h a i.toNatClampNeg x) Q) : Vw G j pc ls (.int x :: .int i :: .ref a :: st) h Q := by
  intro p e s m args below meth c' h0 H locs la F hS hP hE hl
  obtain ⟨ce, q1, q2, q3, q4, q5, q6, q7⟩ := hP.2.2.2 a _ n ho
  have hce := q5 rfl
  subst hce
  have hK := F.2.2.2.2.2.2.2.1.1
  refine W.iast F.1 F.2.1 q1 ((hK.2 0 _ rfl).1 n _) (fun z => by cases z) (by rw [arrV_size]; exact hi) rfl rfl hd (fun H' e1 e2 e3 => ?_)
  refine kk p e s m args below meth c' h0 H' _ la F (hS.put e2 e3 gA_in) (hP.upd rfl ho (pA_other h a _) e2 e3 e1 ?_) hE hl
  rw [arrV_store]
  refine ⟨arrV_size _ _ _, fun _ => rfl, fun z => by omega, fun _ => ?_, fun z => by omega, fun z => by omega⟩
  congr 1
  funext q
  by_cases hq : q = i.toNatClampNeg <;> simp [updV, pI, pA, upd, hq]
theorem s_bastore {i x : Int32} {a n : Nat} (hd : decode (jC j) pc = .ok (.bastore, 1)) (ho : h.1[a]? = some (101, n)) (hi : vp_in i n) (kk : Vw G j (pc + 1) ls st (pI h a i.toNatClampNeg x.toInt8.toInt32) Q) : Vw G j pc ls (.int x :: .int i :: .ref a :: st) h Q := by
  intro p e s m args below meth c' h0 H locs la F hS hP hE hl
  obtain ⟨ce, q1, q2, q3, q4, q5, q6, q7⟩ := hP.2.2.2 a _ n ho
  have hce := q6 rfl
  subst hce
  have hK := F.2.2.2.2.2.2.2.1.1
  refine W.bast F.1 F.2.1 q1 ((hK.2 1 _ rfl).1 n _) (fun z => by cases z) (by rw [arrV_size]; exact hi) rfl rfl hd (fun H' e1 e2 e3 => ?_)
  refine kk p e s m args below meth c' h0 H' _ la F (hS.put e2 e3 gA_in) (hP.upd rfl ho (pA_other h a _) e2 e3 e1 ?_) hE hl
  rw [arrV_store]
  refine ⟨arrV_size _ _ _, fun _ => rfl, fun z => by omega, fun z => by omega, fun _ => ?_, fun z => by omega⟩
  congr 1
  funext q
  have hnb : narrow .byte (.int x) = .int x.toInt8.toInt32 := by
    have := vp_nar_byte x
    simp [narrow] at this ⊢
  by_cases hq : q = i.toNatClampNeg <;> simp [updV, pI, pA, upd, hq, hnb]
theorem s_lastore {i : Int32} {x : Int64} {a n : Nat} (hd : decode (jC j) pc = .ok (.lastore, 1)) (ho : h.1[a]? = some (102, n)) (hi : vp_in i n) (kk : Vw G j (pc + 1) ls st (pJ h a i.toNatClampNeg x) Q) : Vw G j pc ls (.long x :: .int i :: .ref a :: st) h Q := by
  intro p e s m args below meth c' h0 H locs la F hS hP hE hl
  obtain ⟨ce, q1, q2, q3, q4, q5, q6, q7⟩ := hP.2.2.2 a _ n ho
  have hce := q7 rfl
  subst hce
  have hK := F.2.2.2.2.2.2.2.1.1
  refine W.last F.1 F.2.1 q1 ((hK.2 2 _ rfl).1 n _) (fun z => by cases z) (by rw [arrV_size]; exact hi) rfl rfl hd (fun H' e1 e2 e3 => ?_)
  refine kk p e s m args below meth c' h0 H' _ la F (hS.put e2 e3 gA_in) (hP.upd rfl ho (pJ_other h a _ _) e2 e3 e1 ?_) hE hl
  rw [arrV_store]
  refine ⟨arrV_size _ _ _, fun _ => rfl, fun z => by omega, fun z => by omega, fun z => by omega, fun _ => ?_⟩
  congr 1
  funext q
  by_cases hq : q = i.toNatClampNeg <;> simp [updV, pJ, vp_updL, hq]
/-- returns -/
theorem Vw.ret {v : Option Value} (hq : Q (.inl v) h) (row : ∀ (p : Program) (e : Env) (s : State) (m : MethodId) (args : Array Value) (below : List Frame) (meth : Method) (c : Code) (R : Room) (H : Heap) (locs : List Loc) (la : Array Slot) (cells slots : Nat) (Qc : Array Value → State → Outcome → State → Prop) (h0 : mH), Fr G j h0 p s m args meth c → (∀ t : State, t.heap = H → s.WarmedH t.vm → Qc args s (.returned (Option.map (rv G) v)) t) → (∀ q ∈ locs, gA G q.base) →
    W p (gL G) e R s m args below meth c H locs cells slots (MQ below Qc args s cells slots (gA G)) (F0 m pc la (st.map (rv G)))) : Vw G j pc ls st h Q := by
  intro p e s m args below meth c h0 H locs la F hS hP hE hl
  obtain ⟨r, hr⟩ := id hE
  have hlen : h.1.length - h0.1.length ≤ NC - h0.1.length := Nat.sub_le_sub_right hP.2.1 _
  have hsl : sl h - sl h0 ≤ NS - sl h0 := Nat.sub_le_sub_right hP.2.2.1 _
  refine W.widen hlen hsl (vx_ret (row p e s m args below meth c _ H locs la _ _ _ h0 F (fun t ht hW => ⟨v, h, rfl, hq, by rw [ht]; exact hP, hE, fun q hq => ?_⟩) hS.2.2))
  rw [ht]
  have hz : q < s.heap.size := by rw [F.2.2.2.2.2.2.2.2.1.1]; omega
  exact hS.2.1 q hz (fun z => absurd z (Nat.not_le.mpr hq))
theorem s_ireturn {v : Int32} (hd : decode (jC j) pc = .ok (.ireturn, 1)) (hr : jR j = some .int) (hq : Q (.inl (some (.int v))) h) : Vw G j pc ls [.int v] h Q :=
  Vw.ret hq (fun p e s m args below meth c R H locs la cells slots Qc h0 F q1 q2 => W.iret F.1 F.2.1 (F.2.2.2.1.trans hr) q1 q2 hd F.2.2.2.2.1)
theorem s_zreturn {v : Int32} (hd : decode (jC j) pc = .ok (.ireturn, 1)) (hr : jR j = some .boolean) (hv : v = 0 ∨ v = 1) (hq : Q (.inl (some (.int v))) h) : Vw G j pc ls [.int v] h Q :=
  Vw.ret hq (fun p e s m args below meth c R H locs la cells slots Qc h0 F q1 q2 => W.zret F.1 F.2.1 (F.2.2.2.1.trans hr) (by rcases hv with e | e <;> subst e <;> rfl) q1 q2 hd F.2.2.2.2.1)
theorem s_lreturn {v : Int64} (hd : decode (jC j) pc = .ok (.lreturn, 1)) (hr : jR j = some .long) (hq : Q (.inl (some (.long v))) h) : Vw G j pc ls [.long v] h Q :=
  Vw.ret hq (fun p e s m args below meth c R H locs la cells slots Qc h0 F q1 q2 => W.lret F.1 F.2.1 (F.2.2.2.1.trans hr) q1 q2 hd F.2.2.2.2.1)
theorem s_return (hd : decode (jC j) pc = .ok (.return_, 1)) (hr : jR j = none) (hq : Q (.inl none) h) : Vw G j pc ls [] h Q :=
  Vw.ret hq (fun p e s m args below meth c R H locs la cells slots Qc h0 F q1 q2 => W.vret F.1 F.2.1 (F.2.2.2.1.trans hr) q1 q2 hd F.2.2.2.2.1)
end HEAPS2
end
section
section CALLS
variable {G : GX} {j : MX} {pc : Nat} {ls : mL} {st : List Value} {h : mH} {Q : mO → mH → Prop}
theorem lv_args_cat1 : ∀ (a : List Value) (k i : Nat) (v : Value), (∀ v ∈ a, v.category = 1) → a[i]? = some v → (k + i, v) ∈ lv_args k a := by
  intro a
  induction a with
  | nil => intro k i v _ h; simp at h
  | cons x a ih =>
    intro k i v hc h
    have hx : x.category = 1 := hc x List.mem_cons_self
    cases i with
    | zero =>
      simp at h
      subst h
      exact List.mem_cons_self
    | succ i =>
      simp at h
      have := ih (k + 1) i v (fun v hv => hc v (List.mem_cons_of_mem _ hv)) h
      unfold lv_args
      rw [hx]
      rw [show k + (i + 1) = k + 1 + i by omega]
      exact List.mem_cons_of_mem _ this
theorem lg_sl_len : ∀ (a : List Value), (∀ v ∈ a, v.category = 1) → (lg_sl a).length = a.length := by
  intro a
  induction a with
  | nil => intro _; rfl
  | cons x a ih =>
    intro hc
    have hx : x.category = 1 := hc x List.mem_cons_self
    have := ih (fun v hv => hc v (List.mem_cons_of_mem _ hv))
    unfold lg_sl at this ⊢
    simp [List.flatMap_cons, hx, this]
def cat1 (v : Value) : Bool := match v with
  | .long _ => false
  | .double _ => false
  | _ => true
theorem cat1_rv {v : Value} (h : cat1 v = true) : (rv G v).category = 1 := by cases v <;> first | rfl | cases h
theorem ofWF {l : Launch} {y : MethodName} {ws ws' : List Cond} {rm : Room} {Pc : Array Value → State → Prop} {Qc : Array Value → State → Outcome → State → Prop} {XC : String → State → State → Prop} {mc ms : Nat} {free : Addr → Prop} {cc : ByteArray} {maxL : Nat} {ret : Option FieldType}
    (hy : plainFor y = true) (hw : ws = Cond.code y cc maxL ret :: ws')
    (body : ∀ p e s m args below meth c s₁, BodyLoose p l y (headSpec ws rm) cc maxL ret e s m args below meth c s₁ → c.maxLocals = maxL → (∀ x ∈ c.exceptionTable.toList, False) → Pc args s →
      W p l e (headSpec ws rm).room s m args below meth c s.heap [] 0 0 (vx_MQ below Qc XC args s mc ms free) (entryFrame m args maxL)) : vx_Met l y ws rm Pc Qc XC mc ms free := by
  refine MetFree.of_bodySF (code := cc) (maxLocals := maxL) (ret := ret) hy ?_ ?_
  · intro args s m h hn
    obtain ⟨meth, c, h1, h2, h3, h4, h5, h6, -, -⟩ := Cond.code_spec hn (atoms_spec (ws := ws) h _ (by rw [hw]; exact List.mem_cons_self))
    exact ⟨meth, c, h1, h2, h3, h4, h5, h6⟩
  · intro p e s m args below meth c s₁ B hml hP _
    have hh0 : s₁.heap = s.heap := by rw [B.state]; rfl
    have ht : ∀ x ∈ c.exceptionTable.toList, False := by
      obtain ⟨meth9, c9, h1, h2, -, -, -, -, h7, -⟩ := Cond.code_spec B.named (atoms_spec (ws := ws) B.pre _ (by rw [hw]; exact List.mem_cons_self))
      cases Option.some.inj (h1.symm.trans B.method)
      cases Option.some.inj (h2.symm.trans (Stand.of_body B).code)
      intro x hx
      rw [Array.isEmpty_iff.mp h7] at hx
      cases hx
    obtain ⟨t, a1, o, b1, b2, b3⟩ := body p e s m args below meth c s₁ B hml ht hP s₁ hh0 (Stand.of_body B)
    exact ⟨t, o, a1, b1, b2, b3⟩
/-- a method by its body -/
theorem WM.body {a : List Value} (hT : jT j = []) (hy : plainFor (jY j) = true) (hc : a.all cat1 = true) (hn : a.length ≤ jL j) (hls : ls = a.map some ++ List.replicate (jL j - a.length) none) (k : Vw G j 0 ls [] h Q) : WM G j a h Q := by
  have hw : jWs j = Cond.code (jY j) (jC j) (jL j) (jR j) :: gT := by unfold jWs jK; rw [hT]
  refine ofWF (cc := jC j) (maxL := jL j) (ret := jR j) hy hw ?_
  intro p e s m args below meth c s₁ B hml ht hv
  obtain ⟨rfl, hg, hP⟩ := hv
  have hts : ∀ w ∈ gT, w.before _ s = true := fun w hw2 => atoms_spec (ws := jWs j) B.pre w (by rw [hw]; exact List.mem_cons_of_mem _ hw2)
  have hF : Fr G j h p s m (a.map (rv G)).toArray meth c := ⟨B.exec, B.bytes, hml, B.returns, B.notSynchronized, findClass_of_methodNamed B.named, hts, hg, hP, (name_of_methodNamed B.named B.method).1, by
    rw [hT]
    cases h9 : c.exceptionTable.toList with
    | nil => rfl
    | cons x l => exact (ht x (by rw [h9]; exact List.mem_cons_self)).elim⟩
  have hc1 : ∀ v ∈ a.map (rv G), v.category = 1 := by
    intro v hv
    obtain ⟨w, hw2, rfl⟩ := List.mem_map.mp hv
    exact cat1_rv (List.all_eq_true.mp hc w hw2)
  have hl := lv_entry (a.map (rv G)) (n := jL j) (by rw [lg_sl_len _ hc1, List.length_map]; exact hn)
  rw [lg_entry_eq]
  have hls2 : mLs G (jL j) ls ((lg_sl (a.map (rv G)) ++ List.replicate (jL j - (lg_sl (a.map (rv G))).length) Slot.unset).toArray) := by
    refine ⟨hl.1, hl.2.1, fun i v hi => ?_⟩
    rw [hls] at hi
    by_cases hi2 : i < a.length
    · rw [List.getElem?_append_left (by simpa using hi2), List.getElem?_map] at hi
      cases ha : a[i]? with
      | none => rw [ha] at hi; cases hi
      | some w =>
        rw [ha] at hi
        cases hi
        have := lv_args_cat1 (a.map (rv G)) 0 i (rv G v) hc1 (by rw [List.getElem?_map, ha]; rfl)
        have h3 := hl.2.2 _ this
        simpa using h3
    · rw [List.getElem?_append_right (by simpa using hi2)] at hi
      have := List.mem_of_getElem? hi
      have := (List.mem_replicate.mp this).2
      cases this
  have := k p e s m _ below meth c h s.heap [] _ hF va_S.rf hP ⟨[], by simp⟩ hls2
  simp only [Nat.sub_self] at this
  exact this
theorem WM.mono {a : List Value} {Q' : mO → mH → Prop} (hq : ∀ o h, Q o h → Q' o h) (k : WM G j a h Q) : WM G j a h Q' := by
  intro p e h1 h2 h3 s m args below h4 h5 h6 h7
  obtain ⟨n, o, a1, a2, a3, a4⟩ := k p e h1 h2 h3 s m args below h4 h5 h6 h7
  refine ⟨n, o, a1, a2, a3, ?_⟩
  rcases a4 with ⟨⟨v, h', c1, c2, c3⟩, b4⟩ | ⟨q, c0, E, ce, L, ⟨h', c2, c3⟩, b4⟩
  · exact Or.inl ⟨⟨v, h', c1, hq _ _ c2, c3⟩, b4⟩
  · exact Or.inr ⟨q, c0, E, ce, L, ⟨h', hq _ _ c2, c3⟩, b4⟩
/-- what was made is counted exactly -/
theorem tight {p : Program} {l : Launch} {e : Env} {R : Room} {s T : State} {m : MethodId} {args : Array Value} {below : List Frame} {meth : Method} {c : Code} {locs : List Loc} {k n : Nat} {h0 h : mH} (X : Stand p l e R s m args below meth c T locs k n) (h1 : Pic G h0 s.heap) (h2 : Pic G h T.heap) (hE : Ext h0 h) : Stand p l e R s m args below meth c T locs (h.1.length - h0.1.length) (sl h - sl h0) := by
  obtain ⟨r, hr⟩ := hE
  obtain ⟨e1, e2, e3, e4, e5, e6⟩ := X.same
  have hlen : h.1.length = h0.1.length + r.length := by rw [hr, List.length_append]
  have hsum : sl h = sl h0 + (r.map Prod.snd).sum := by unfold sl; rw [hr, List.map_append, List.sum_append]
  have hl : ((T.setVm s.vm).heap.toList.drop s.heap.size).map (fun x : Cell => x.slots.size) = r.map Prod.snd := by
    apply List.ext_getElem?
    intro i
    rw [List.getElem?_map, List.getElem?_map, List.getElem?_drop]
    show Option.map _ (T.heap.toList[s.heap.size + i]?) = _
    rw [Array.getElem?_toList, h1.1]
    cases hi : r[i]? with
    | none =>
      have : r.length ≤ i := by simpa using hi
      have hz : T.heap.size ≤ gZ G + h0.1.length + i := by rw [h2.1, hlen]; omega
      rw [Array.getElem?_eq_none hz]
      rfl
    | some q =>
      obtain ⟨c9, n9⟩ := q
      have : h.1[h0.1.length + i]? = some (c9, n9) := by rw [hr, List.getElem?_append_right (by omega)]; simpa using hi
      obtain ⟨ce, g1, g2⟩ := h2.2.2.2 _ c9 n9 this
      rw [Nat.add_assoc, g1]
      show some ce.slots.size = some n9
      rw [g2.1]
  exact { X with same := ⟨e1, e2, by
    show T.heap.size ≤ _
    rw [h2.1, h1.1]; omega, e4, by rw [hl]; omega, e6⟩ }
theorem Ext.trans {a b c : mH} (h1 : Ext a b) (h2 : Ext b c) : Ext a c := by
  obtain ⟨r, hr⟩ := h1
  obtain ⟨q, hq⟩ := h2
  exact ⟨r ++ q, by rw [hq, hr, List.append_assoc]⟩
/-- what a call of j' wants of the tables -/
def kLB (own : String) (i : Nat) (j' : MX) (n : Nat) : Prop := jT j' = [] ∧ jK j' ∈ gT ∧ Cond.initialized (jY j').cls ∈ gT ∧ ((jY j').cls ≠ "java/lang/invoke/MethodHandle" ∧ (jY j').cls ≠ "java/lang/invoke/VarHandle") ∧ (parseMethodDescriptor (jY j').desc).map (fun d => d.parameters.length) = some n
def kLV (own : String) (i : Nat) (j' : MX) (n : Nat) : Prop := kLB own i j' n ∧ Cond.methodLink own i (jY j') ∈ gT ∧ Cond.instanceMethod (jY j') ∈ gT ∧ Cond.selects (jY j').cls (jY j') (jY j') ∈ gT
def kLS (own : String) (i : Nat) (j' : MX) (n : Nat) : Prop := kLB own i j' n ∧ Cond.methodLink own i (jY j') ∈ gT ∧ Cond.static (jY j') ∈ gT
def Fits (j j' : MX) : Prop := jF j' + 1 ≤ jF j ∧ 8 + (jL j' + 11) + jW j' ≤ jW j
/-- behind a call: where it came back, and where it threw -/
def Aft (G : GX) (j : MX) (pc : Nat) (ls : mL) (st : List Value) (Q : mO → mH → Prop) : mO → mH → Prop := fun o h => match o with
  | .inl v => Vw G j (pc + 3) ls (v.toList ++ st) h Q
  | .inr E => Q (.inr E) h
theorem gT_warm {s U : State} {args a' : Array Value} {w : Cond} (hW : s.WarmedH U.vm) (hw : w ∈ gT) (h : w.before args s = true) : w.before a' U = true := word_at hW (good_of_word (gT_good hw)) h
theorem callB {R : Room} {s : State} {args : Array Value} {own : String} {i n : Nat} {j' : MX} (hts : ∀ w ∈ gT, w.before args s = true) (hl : kLB own i j' n) (hlk : Cond.methodLink own i (jY j') ∈ gT) (hR : jF j' + 1 ≤ R.frames ∧ 8 + (jL j' + 11) + jW j' ≤ R.locals) : CallB R s args own i (jY j') (jC j') (jL j') (jR j') (jWs j') (jRm j' h) (NC - h.1.length) (NS - sl h) n := by
  obtain ⟨l1, l2, l3, l4, l5⟩ := hl
  have hk : jK j' = Cond.code (jY j') (jC j') (jL j') (jR j') := by unfold jK; rw [l1]
  refine ⟨rfl, rfl, hR.1, hR.2, fun w hw a' U hW => ?_, by unfold jWs; rw [hk]; exact List.mem_cons_self, by rw [← hk]; exact hts _ l2, hts _ l3, l4, fun sig hs => ?_, hts _ hlk⟩
  · rcases List.mem_cons.mp hw with e | e
    · rw [e]; exact gT_warm hW l2 (hts _ l2)
    · exact gT_warm hW e (hts _ e)
  · rw [hs] at l5
    exact (Option.some.inj l5).symm
theorem blind {a : List Value} : FrameBlind (fun v U => v = (a.map (rv G)).toArray ∧ gW G U ∧ Pic G h U.heap) := fun a' U g mk hp => ⟨hp.1, hp.2.1.move (State.WarmedH.refl _) (by rw [hp.2.2.1]; omega) (fun _ _ => rfl), hp.2.2⟩
theorem rest_room {m : MethodId} {la : Array Slot} {stk : List Value} (h : (st.map Value.category).sum ≤ 8) : 2 * (F0 m pc la stk).monitorRoom + ((st.map (rv G)).map fun v => v.category).sum ≤ 8 := by
  refine lv_room ?_
  have : (st.map (rv G)).map (fun v => v.category) = st.map Value.category := by
    rw [List.map_map]
    apply List.map_congr_left
    intro v _
    cases v <;> rfl
  rw [this]; exact h
/-- the run of a call, walked on -/
theorem Vw.call {a : List Value} {stk : List Value} (hout : jT j = []) (run : ∀ (p : Program) (e : Env) (s : State) (m : MethodId) (args : Array Value) (below : List Frame) (meth : Method) (c : Code) (h0 : mH) (H : Heap) (locs : List Loc) (la : Array Slot), Fr G j h0 p s m args meth c → va_S (gA G) s.heap H locs → Pic G h H → Ext h0 h → la.size = jL j →
    (h.1.length - h0.1.length) + (NC - h.1.length) ≤ NC - h0.1.length → (sl h - sl h0) + (NS - sl h) ≤ NS - sl h0 → (∀ U : State, U.heap = H → s.WarmedH U.vm → gW G U) →
    vx_Run p (gL G) e (jRm j h0) s m args below meth c H locs (h.1.length - h0.1.length) (sl h - sl h0) (NC - h.1.length) (NS - sl h) (F0 m pc la (stk.map (rv G))) (st.map (rv G)) (qR G h (Aft G j pc ls st Q) (a.map (rv G)).toArray) (qX G h (Aft G j pc ls st Q)) (gA G)) : Vw G j pc ls stk h Q := by
  intro p e s m args below meth c h0 H locs la F hS hP hE hl
  obtain ⟨r, hr⟩ := id hE
  have hlen : h.1.length = h0.1.length + r.length := by rw [hr, List.length_append]
  have hsum : sl h = sl h0 + (r.map Prod.snd).sum := by unfold sl; rw [hr, List.map_append, List.sum_append]
  have b1 := hP.2.1
  have b2 := hP.2.2.1
  have hsz : gZ G ≤ s.heap.size := by rw [F.2.2.2.2.2.2.2.2.1.1]; omega
  have hold : ∀ q, q < gZ G → H[q]? = s.heap[q]? := fun q hq => hS.2.1 q (by omega) (fun z => absurd z (Nat.not_le.mpr hq))
  have R0 := run p e s m args below meth c h0 H locs la F hS hP hE hl.1 (by omega) (by omega) (fun U hU hW => F.2.2.2.2.2.2.2.1.move hW hsz (fun q hq => by rw [hU]; exact hold q hq))
  intro T hT X
  have put : ∀ (st₀ t T' : State) (L : List Loc) (h' : mH), st₀.heap = H → (∀ q ∈ L, gA G q.base) → T'.heap = t.heap → Pic G h' t.heap → Ext h h' → (∀ q, q < gZ G → t.heap[q]? = st₀.heap[q]?) → va_S (gA G) s.heap T'.heap (locs ++ L) := by
    intro st₀ t T' L h' k0 kL k1 kP kE kO
    refine ⟨?_, fun q h1 h2 => ?_, fun z hz => ?_⟩
    · obtain ⟨r', hr'⟩ := kE
      have : h'.1.length = h.1.length + r'.length := by rw [hr', List.length_append]
      rw [k1, kP.1, F.2.2.2.2.2.2.2.2.1.1]; omega
    · have hq : q < gZ G := Nat.not_le.mp h2
      rw [k1, kO q hq, k0]; exact hold q hq
    · rcases List.mem_append.mp hz with q | q
      · exact hS.2.2 z q
      · exact kL z q
  rcases R0 T hT X with ⟨v, st₀, t, T', L, k0, X', kL, k1, k2, ⟨w, h', c1, c2, c3, c4, c5⟩, go⟩ | ⟨q, st₀, t, T', L, E, ce, k0, X', kL, k1, k2, ⟨h', c2, c3, c4, c5⟩, hce, hcv, hcl, go⟩
  · cases c1
    have X2 := tight (G := G) X' F.2.2.2.2.2.2.2.2.1 (by rw [k1]; exact c3) (hE.trans c4)
    obtain ⟨t2, a1, b1⟩ := c2 p e s m args below meth c h0 T'.heap (locs ++ L) la F (put st₀ t T' L h' k0 kL k1 c3 c4 c5) (by rw [k1]; exact c3) (hE.trans c4) hl T' rfl X2
    refine ⟨t2, go t2 ?_, b1⟩
    have he : (Option.map (rv G) w).toList ++ st.map (rv G) = (w.toList ++ st).map (rv G) := by cases w <;> rfl
    show Steps _ _ _ (T'.setTop (F0 m (pc + 3) la ((Option.map (rv G) w).toList ++ st.map (rv G)))) t2
    rw [he]
    exact a1
  · have X2 := tight (G := G) X' F.2.2.2.2.2.2.2.2.1 (by rw [k1]; exact c3) (hE.trans c4)
    have hS' := put st₀ t T' L h' k0 kL k1 c3 c4 c5
    have ho : ∀ x ∈ c.exceptionTable.toList, covers x pc = false := by
      rw [F.2.2.2.2.2.2.2.2.2.2, hout]
      intro x hx
      cases hx
    have hle1 : h'.1.length - h0.1.length ≤ NC - h0.1.length := Nat.sub_le_sub_right c3.2.1 _
    have hle2 : sl h' - sl h0 ≤ NS - sl h0 := Nat.sub_le_sub_right c3.2.2.1 _
    obtain ⟨t2, a1, b1⟩ := vx_out (p := p) (l := gL G) (e := e) (R := jRm j h0) (args := args) (below := below) (ls := la) (rest := st.map (rv G)) (Qc := qR G h0 Q) (XC := qX G h0 Q) (free := gA G) (E := E) (ce := ce) (q := q) (pc := pc) ho F.2.2.2.2.1 (H := T'.heap) (by rw [k1]; exact hce) hcv hcl
      (fun u hu _ => ⟨h', c2, by rw [hu, k1]; exact c3, hE.trans c4, fun q hq => by rw [hu, k1, c5 q hq, k0]; exact hold q hq⟩) hS'.2.2 hle1 hle2 T' rfl X2
    exact ⟨t2, go.trans a1, b1⟩
/-- an instance's method -/
theorem s_callV {i n o c nn : Nat} {j' : MX} {As : List Value} (hd : decode (jC j) pc = .ok (.invokevirtual i, 3)) (hout : jT j = []) (hl : kLV (jY j).cls i j' n) (hF : Fits j j') (ho : h.1[o]? = some (c, nn)) (hc : ∃ T N, c < 11 ∧ mCl[c]? = some ((jY j').cls, T, N)) (hn : As.length = n) (hst : (st.map Value.category).sum ≤ 8)
    (k : WM G j' (.ref o :: As) h (Aft G j pc ls st Q)) : Vw G j pc ls (As.reverse ++ .ref o :: st) h Q := by
  refine Vw.call (a := .ref o :: As) (st := st) hout ?_
  intro p e s m args below meth c' h0 H locs la F hS hP hE hla b1 b2 hg
  obtain ⟨hB, h1, h2, h3⟩ := hl
  have hts := F.2.2.2.2.2.2.1
  obtain ⟨T, N, hc1, hc2⟩ := hc
  obtain ⟨ce, q1, q2, q3, q4, -⟩ := hP.2.2.2 o c nn ho
  have hfc := (F.2.2.2.2.2.2.2.1.1.1 c _ hc2).2.1
  have := vx_runV (n := n) (rest := st.map (rv G)) (b := gZ G + o) (As := As.map (rv G)) (H := H) (p := p) (e := e) (below := below) (meth := meth) (locs := locs) (cells := h.1.length - h0.1.length) (slots := sl h - sl h0) (g := F0 m pc la ((As.reverse ++ .ref o :: st).map (rv G))) (C := (jY j').cls) (R := jRm j h0) ⟨F.1, F.2.1, F.2.2.1, F.2.2.2.2.2.1, hts⟩ k ⟨callB (h := h) hts hB h1 hF, hts _ h2, hts _ h3⟩
    ⟨blind, ⟨ce, q1, by rw [q3 (by omega)]; rfl, by rw [(q4 hc1).1]; exact hfc⟩, fun U hU hW => ⟨rfl, hg U hU hW, by rw [hU]; exact hP⟩⟩ rfl (by rw [List.length_map]; exact hn) hla (by simp [rv]) (rest_room hst) hd ⟨b1, b2⟩
  exact this
/-- a static method -/
theorem s_callS {i n : Nat} {j' : MX} {As : List Value} (hd : decode (jC j) pc = .ok (.invokestatic i, 3)) (hout : jT j = []) (hl : kLS (jY j).cls i j' n) (hF : Fits j j') (hn : As.length = n) (hst : (st.map Value.category).sum ≤ 8)
    (k : WM G j' As h (Aft G j pc ls st Q)) : Vw G j pc ls (As.reverse ++ st) h Q := by
  refine Vw.call (a := As) (st := st) hout ?_
  intro p e s m args below meth c' h0 H locs la F hS hP hE hla b1 b2 hg
  obtain ⟨hB, h1, h2⟩ := hl
  have hts := F.2.2.2.2.2.2.1
  have := vx_runS (n := n) (rest := st.map (rv G)) (As := As.map (rv G)) (H := H) (p := p) (e := e) (below := below) (meth := meth) (locs := locs) (cells := h.1.length - h0.1.length) (slots := sl h - sl h0) (g := F0 m pc la ((As.reverse ++ st).map (rv G))) (R := jRm j h0) ⟨F.1, F.2.1, F.2.2.1, F.2.2.2.2.2.1, hts⟩ k ⟨callB (h := h) hts hB h1 hF, hts _ h2⟩
    ⟨blind, fun U hU hW => ⟨rfl, hg U hU hW, by rw [hU]; exact hP⟩⟩ rfl (by rw [List.length_map]; exact hn) hla (by simp) (rest_room hst) hd ⟨b1, b2⟩
  exact this
end CALLS
end
section
section MAKES
variable {G : GX} {j : MX} {pc : Nat} {ls : mL} {st : List Value} {h : mH} {Q : mO → mH → Prop}
theorem WM.met {a : List Value} {K0 K1 : mO → mH → Prop} (h1 : ∀ v h, K0 (.inl v) h → K1 (.inl v) h) (h2 : ∀ E h, ¬ K0 (.inr E) h) (k : WM G j a h K0) : Met (gL G) (jY j) (jWs j) (jRm j h) (fun v U => v = (a.map (rv G)).toArray ∧ gW G U ∧ Pic G h U.heap) (qR G h K1) (NC - h.1.length) (NS - sl h) (gA G) := by
  intro p e q1 q2 q3 s m args below q4 q5 q6 q7
  obtain ⟨n, o, a1, a2, a3, a4⟩ := k p e q1 q2 q3 s m args below q4 q5 q6 q7
  refine ⟨n, o, a1, a2, a3, ?_⟩
  rcases a4 with ⟨⟨v, h', c1, c2, c3⟩, b4⟩ | ⟨q, c0, E, ce, L, ⟨h', c2, c3⟩, b4⟩
  · exact ⟨⟨v, h', c1, h1 _ _ c2, c3⟩, b4⟩
  · exact absurd c2 (h2 _ _)
/-- behind a call that never throws -/
def Aft0 (G : GX) (j : MX) (pc : Nat) (ls : mL) (st : List Value) (Q : mO → mH → Prop) : mO → mH → Prop := fun o h => match o with
  | .inl v => Vw G j (pc + 3) ls (v.toList ++ st) h Q
  | .inr _ => False
theorem aft0_met {a : List Value} {j' : MX} (k : WM G j' a h (Aft0 G j pc ls st Q)) : Met (gL G) (jY j') (jWs j') (jRm j' h) (fun v U => v = (a.map (rv G)).toArray ∧ gW G U ∧ Pic G h U.heap) (qR G h (Aft G j pc ls st Q)) (NC - h.1.length) (NS - sl h) (gA G) := WM.met (K0 := Aft0 G j pc ls st Q) (K1 := Aft G j pc ls st Q) (fun _ _ z => z) (fun _ _ z => z) k
def kLN (own : String) (i : Nat) (j' : MX) (n : Nat) (host : String) : Prop := kLB own i j' n ∧ Cond.methodLinkNest own i (jY j') host ∈ lw_tbl
theorem callN {R : Room} {s : State} {args : Array Value} {own host : String} {i n : Nat} {j' : MX} (hts : ∀ w ∈ gT, w.before args s = true) (hg : gF s) (hl : kLN own i j' n host) (hR : jF j' + 1 ≤ R.frames ∧ 8 + (jL j' + 11) + jW j' ≤ R.locals) : va_CN R s args own i (jY j') host (jC j') (jL j') (jR j') (jWs j') (jRm j' h) (NC - h.1.length) (NS - sl h) n := by
  obtain ⟨⟨l1, l2, l3, l4, l5⟩, hlk⟩ := hl
  have hk : jK j' = Cond.code (jY j') (jC j') (jL j') (jR j') := by unfold jK; rw [l1]
  refine ⟨⟨rfl, rfl, hR.1, hR.2, fun w hw a' U hW => ?_, by unfold jWs; rw [hk]; exact List.mem_cons_self⟩, by rw [← hk]; exact hts _ l2, hts _ l3, l4, fun sig hs => ?_, va_Nw.use rfl (hg _ hlk rfl)⟩
  · rcases List.mem_cons.mp hw with e | e
    · rw [e]; exact gT_warm hW l2 (hts _ l2)
    · exact gT_warm hW e (hts _ e)
  · rw [hs] at l5
    exact (Option.some.inj l5).symm
theorem vx_of_va {p : Program} {l : Launch} {e : Env} {R : Room} {s : State} {m : MethodId} {args : Array Value} {below : List Frame} {meth : Method} {c : Code} {H : Heap} {locs : List Loc} {cells slots mc ms : Nat} {g : JFrame} {rest : List Value} {Qa : State → Outcome → State → Prop} {XC : String → State → State → Prop} {free : Addr → Prop} (hr : va_Run p l e R s m args below meth c H locs cells slots mc ms g rest Qa free) : vx_Run p l e R s m args below meth c H locs cells slots mc ms g rest Qa XC free := fun T hT X => Or.inl (hr T hT X)
/-- a nest mate's static method -/
theorem s_callSN {i n : Nat} {j' : MX} {As : List Value} {host : String} (hd : decode (jC j) pc = .ok (.invokestatic i, 3)) (hout : jT j = []) (hl : kLN (jY j).cls i j' n host) (hs : Cond.static (jY j') ∈ gT) (hF : Fits j j') (hn : As.length = n) (hst : (st.map Value.category).sum ≤ 8)
    (k : WM G j' As h (Aft0 G j pc ls st Q)) : Vw G j pc ls (As.reverse ++ st) h Q := by
  refine Vw.call (a := As) (st := st) hout ?_
  intro p e s m args below meth c' h0 H locs la F hS hP hE hla b1 b2 hg
  have hts := F.2.2.2.2.2.2.1
  exact vx_of_va (va_runSN (n := n) (rest := st.map (rv G)) (As := As.map (rv G)) (H := H) (p := p) (e := e) (below := below) (meth := meth) (locs := locs) (cells := h.1.length - h0.1.length) (slots := sl h - sl h0) (g := F0 m pc la ((As.reverse ++ st).map (rv G))) (R := jRm j h0) ⟨F.1, F.2.1, F.2.2.1, F.2.2.2.2.2.1, hts⟩ (aft0_met k) ⟨callN (h := h) hts F.2.2.2.2.2.2.2.1.2.2.2.2.2.2.1 hl hF, hts _ hs, trivial⟩
    ⟨blind, fun U hU hW => ⟨rfl, hg U hU hW, by rw [hU]; exact hP⟩⟩ rfl (by rw [List.length_map]; exact hn) hla (by simp) (rest_room hst) hd ⟨b1, b2⟩)
/-- a nest mate's constructor -/
theorem s_callIN {i n o : Nat} {j' : MX} {As : List Value} {host : String} (hd : decode (jC j) pc = .ok (.invokespecial i, 3)) (hout : jT j = []) (hl : kLN (jY j).cls i j' n host) (hs : Cond.instanceMethod (jY j') ∈ gT) (hin : (jY j').name = "<init>") (hret : jR j' = none) (hF : Fits j j') (hn : As.length = n) (hst : (st.map Value.category).sum ≤ 8)
    (k : WM G j' (.ref o :: As) h (Aft0 G j pc ls st Q)) : Vw G j pc ls (As.reverse ++ .ref o :: st) h Q := by
  refine Vw.call (a := .ref o :: As) (st := st) hout ?_
  intro p e s m args below meth c' h0 H locs la F hS hP hE hla b1 b2 hg
  have hts := F.2.2.2.2.2.2.1
  have hcn := callN (h := h) (R := jRm j h0) hts F.2.2.2.2.2.2.2.1.2.2.2.2.2.2.1 hl hF
  rw [hret] at hcn
  exact vx_of_va (va_runIN (n := n) (rest := st.map (rv G)) (b := gZ G + o) (As := As.map (rv G)) (H := H) (p := p) (e := e) (below := below) (meth := meth) (locs := locs) (cells := h.1.length - h0.1.length) (slots := sl h - sl h0) (g := F0 m pc la ((As.reverse ++ .ref o :: st).map (rv G))) (R := jRm j h0) ⟨F.1, F.2.1, F.2.2.1, F.2.2.2.2.2.1, hts⟩ (aft0_met k) ⟨hcn, hin, hts _ hs⟩
    ⟨blind, fun U hU hW => ⟨rfl, hg U hU hW, by rw [hU]; exact hP⟩⟩ rfl (by rw [List.length_map]; exact hn) hla (by simp [rv]) (rest_room hst) hd ⟨b1, b2⟩)
/-- a constructor -/
theorem s_callI {i n o : Nat} {j' : MX} {As : List Value} (hd : decode (jC j) pc = .ok (.invokespecial i, 3)) (hout : jT j = []) (hl : kLB (jY j).cls i j' n) (hlk : Cond.methodLink (jY j).cls i (jY j') ∈ gT) (hs : Cond.instanceMethod (jY j') ∈ gT) (hin : (jY j').name = "<init>") (hret : jR j' = none) (hF : Fits j j') (hn : As.length = n) (hst : (st.map Value.category).sum ≤ 8)
    (k : WM G j' (.ref o :: As) h (Aft0 G j pc ls st Q)) : Vw G j pc ls (As.reverse ++ .ref o :: st) h Q := by
  refine Vw.call (a := .ref o :: As) (st := st) hout ?_
  intro p e s m args below meth c' h0 H locs la F hS hP hE hla b1 b2 hg
  have hts := F.2.2.2.2.2.2.1
  have hcn := callB (h := h) (R := jRm j h0) hts hl hlk hF
  rw [hret] at hcn
  exact vx_of_va (va_runI (n := n) (rest := st.map (rv G)) (b := gZ G + o) (As := As.map (rv G)) (H := H) (p := p) (e := e) (below := below) (meth := meth) (locs := locs) (cells := h.1.length - h0.1.length) (slots := sl h - sl h0) (g := F0 m pc la ((As.reverse ++ .ref o :: st).map (rv G))) (R := jRm j h0) ⟨F.1, F.2.1, F.2.2.1, F.2.2.2.2.2.1, hts⟩ (aft0_met k) ⟨hcn, hin, hts _ hs⟩
    ⟨blind, fun U hU hW => ⟨rfl, hg U hU hW, by rw [hU]; exact hP⟩⟩ rfl (by rw [List.length_map]; exact hn) hla (by simp [rv]) (rest_room hst) hd ⟨b1, b2⟩)
theorem s_objInit {i o : Nat} (hd : decode (jC j) pc = .ok (.invokespecial i, 3)) (hlk : Cond.methodLink (jY j).cls i Lib.objectInit ∈ gT) (h1 : Cond.instanceMethod Lib.objectInit ∈ gT) (h2 : Cond.code Lib.objectInit ⟨#[0xb1]⟩ 1 none ∈ gT) (hf : 1 ≤ jF j) (hw : (st.map Value.category).sum + 12 ≤ jW j) (k : Vw G j (pc + 3) ls st h Q) : Vw G j pc ls (.ref o :: st) h Q := by
  refine Vw.same (fun p e s m args below meth c h0 H locs la Q cells slots F hl k => ?_) k
  have hts := F.2.2.2.2.2.2.1
  refine W.objInit (rest := st.map (rv G)) (a := gZ G + o) (g := F0 m pc la ((.ref o :: st).map (rv G))) F.1 F.2.1 F.2.2.2.2.2.1 (hts _ hlk) (hts _ h1) (hts _ h2) rfl (by rw [F.2.2.1]; exact hl.1) rfl hd hf ?_ k
  have : (st.map (rv G)).map (fun v => v.category) = st.map Value.category := by
    rw [List.map_map]
    apply List.map_congr_left
    intro v _
    cases v <;> rfl
  rw [this]
  show 2 * 0 + _ + 12 ≤ jW j
  omega
/-- a new thing of kind c with n cells -/
def aN (h : mH) (c n : Nat) : mH := (h.1 ++ [(c, n)], fun o => if o = h.1.length then (fun _ => 0) else h.2.1 o, fun o => if o = h.1.length then (fun _ => 0) else h.2.2.1 o, fun o => if o = h.1.length then (fun _ => .null) else h.2.2.2 o)
theorem aN_len (h : mH) (c n : Nat) : (aN h c n).1.length = h.1.length + 1 := by simp [aN]
theorem aN_sl (h : mH) (c n : Nat) : sl (aN h c n) = sl h + n := by simp [aN, sl]
theorem Pic.new {H H' : Heap} {c n : Nat} (hP : Pic G h H) (b1 : h.1.length + 1 ≤ NC) (b2 : sl h + n ≤ NS) (z : H'.size = H.size + 1) (oq : ∀ q : Nat, q < H.size → H'[q]? = H[q]?) {ce : Cell} (hce : H'[H.size]? = some ce) (hm : mCell G (aN h c n) h.1.length c n ce) : Pic G (aN h c n) H' := by
  obtain ⟨p1, p2, p3, p4⟩ := hP
  refine ⟨by rw [z, p1, aN_len]; omega, by rw [aN_len]; exact b1, by rw [aN_sl]; exact b2, fun o c' n' ho => ?_⟩
  by_cases e : o < h.1.length
  · have ho' : h.1[o]? = some (c', n') := by
      rw [← ho]
      exact (List.getElem?_append_left e).symm
    obtain ⟨ce', q1, q2⟩ := p4 o c' n' ho'
    have e2 : o ≠ h.1.length := by omega
    exact ⟨ce', by rw [oq _ (by omega)]; exact q1, q2.congr (by simp [aN, e2]) (by simp [aN, e2]) (by simp [aN, e2])⟩
  · have hl := (List.getElem?_eq_some_iff.mp ho).1
    rw [aN_len] at hl
    have e2 : o = h.1.length := by omega
    subst e2
    have : (c, n) = (c', n') := by
      have : (h.1 ++ [(c, n)])[h.1.length]? = some (c', n') := ho
      rw [List.getElem?_append_right (Nat.le_refl _)] at this
      simpa using this
    cases this
    exact ⟨ce, by rw [← p1]; exact hce, hm⟩
def okT (t : FieldType) : Bool := match t with
  | .int => true
  | .boolean => true
  | .long => true
  | .array _ => true
  | .object _ => true
  | _ => false
theorem okT_dflt {t : FieldType} (ht : okT t = true) (c n k : Nat) : rv G (fvT t (aN h c n) h.1.length k) = defaultValue t := by
  cases t <;> first | (simp [fvT, aN, rv, defaultValue]; done) | cases ht
theorem Ext.new {h0 : mH} {c n : Nat} (hE : Ext h0 h) : Ext h0 (aN h c n) := by
  obtain ⟨r, hr⟩ := hE
  exact ⟨r ++ [(c, n)], by simp [aN, hr]⟩
theorem cnt_new {h0 : mH} {c n : Nat} (hE : Ext h0 h) : (aN h c n).1.length - h0.1.length = h.1.length - h0.1.length + 1 ∧ sl (aN h c n) - sl h0 = sl h - sl h0 + n := by
  obtain ⟨r, hr⟩ := hE
  have hlen : h.1.length = h0.1.length + r.length := by rw [hr, List.length_append]
  have hsum : sl h = sl h0 + (r.map Prod.snd).sum := by unfold sl; rw [hr, List.map_append, List.sum_append]
  rw [aN_len, aN_sl]
  omega
theorem s_new {i c N : Nat} {C : String} {T : u_T} (hd : decode (jC j) pc = .ok (.new i, 3)) (hc : CL c C T N) (hok : ∀ k, k < N → okT (mTy c k) = true) (hlk : Cond.classLink (jY j).cls i C ∈ gT) (hins : Cond.instantiable C N ∈ gT) (hini : Cond.initialized C ∈ gT) (b1 : h.1.length + 1 ≤ NC) (b2 : sl h + N ≤ NS) (k : Vw G j (pc + 3) ls (.ref h.1.length :: st) (aN h c N) Q) : Vw G j pc ls st h Q := by
  intro p e s m args below meth c' h0 H locs la F hS hP hE hl
  have hts := F.2.2.2.2.2.2.1
  obtain ⟨hc1, hcl, hin, hty, hnm⟩ := hc
  have hKn := F.2.2.2.2.2.2.2.1.1.1 c _ hcl
  obtain ⟨n1, n2⟩ := cnt_new (c := c) (n := N) hE
  obtain ⟨r, hr⟩ := id hE
  have hlen : h.1.length = h0.1.length + r.length := by rw [hr, List.length_append]
  have hsum : sl h = sl h0 + (r.map Prod.snd).sum := by unfold sl; rw [hr, List.map_append, List.sum_append]
  refine W.newc F.1 F.2.1 F.2.2.2.2.2.1 (hts _ hlk) (hts _ hins) (hts _ hini) (g := F0 m pc la (st.map (rv G))) rfl hd (by show _ + 1 ≤ NC - h0.1.length; omega) (by show _ + N ≤ NS - sl h0; omega) (fun cC kC g1 g2 g3 g4 => ?_)
  cases hKn.2.1.symm.trans g1
  have hsz : (H.push { cls := (gD G).1 c, slots := kC.instanceTypes.map defaultValue, vm := .none }).size = H.size + 1 := by simp
  have hoq : ∀ q : Nat, q < H.size → (H.push { cls := (gD G).1 c, slots := kC.instanceTypes.map defaultValue, vm := .none })[q]? = H[q]? := fun q hq => by rw [Array.getElem?_push, if_neg (Nat.ne_of_lt hq)]
  have hce : (H.push (blank ((gD G).1 c) kC))[H.size]? = some (blank ((gD G).1 c) kC) := by simp
  have hob := u_born (mTy c) hts hin hKn g2 hce hty
  have hP' : Pic G (aN h c N) (H.push { cls := (gD G).1 c, slots := kC.instanceTypes.map defaultValue, vm := .none }) := by
    refine hP.new b1 b2 hsz hoq hce ⟨by simp [blank, g4], fun _ => rfl, fun _ => ⟨rfl, ⟨_, hcl, rfl⟩, fun k hk => ?_⟩, fun z => by omega, fun z => by omega, fun z => by omega⟩
    obtain ⟨ce, o1, o2, o3, o4⟩ := hob
    rw [hce] at o1
    cases o1
    rw [o4 k hk]
    unfold fv
    rw [okT_dflt (hok k hk)]
  have := k p e s m args below meth c' h0 _ locs la F ⟨by rw [hsz]; exact Nat.le_succ_of_le hS.1, fun q q1 q2 => (hoq q (Nat.lt_of_lt_of_le q1 hS.1)).trans (hS.2.1 q q1 q2), hS.2.2⟩ hP' hE.new hl
  rw [n1, n2] at this
  have hHs : rv G (.ref h.1.length) = .ref H.size := by rw [hP.1]; rfl
  rw [List.map_cons, hHs] at this
  exact this
theorem s_newarray {at9 : ArrayType} {c t0 : Nat} {n : Int32} {N : Nat} (hd : decode (jC j) pc = .ok (.newarray at9, 2)) (hat : (at9 = .int ∧ c = 100) ∨ (at9 = .byte ∧ c = 101) ∨ (at9 = .long ∧ c = 102)) (hw : Cond.arrayClass (newarray.typeOf at9) ∈ gT) (hn : ¬ n < 0) (hN : n.toNatClampNeg = N) (hB : N ≤ 100000) (b1 : h.1.length + 1 ≤ NC) (b2 : sl h + N ≤ NS) (k : Vw G j (pc + 2) ls (.ref h.1.length :: st) (aN h c N) Q) : Vw G j pc ls (.int n :: st) h Q := by
  intro p e s m args below meth c' h0 H locs la F hS hP hE hl
  have hts := F.2.2.2.2.2.2.1
  have hK := F.2.2.2.2.2.2.2.1.1
  obtain ⟨n1, n2⟩ := cnt_new (c := c) (n := N) hE
  obtain ⟨r, hr⟩ := id hE
  have hlen : h.1.length = h0.1.length + r.length := by rw [hr, List.length_append]
  have hsum : sl h = sl h0 + (r.map Prod.snd).sum := by unfold sl; rw [hr, List.map_append, List.sum_append]
  refine va_newaK (R := jRm j h0) (cells := h.1.length - h0.1.length) (slots := sl h - sl h0) F.1 F.2.1 (hts _ hw) (g := F0 m pc la ((.int n :: st).map (rv G))) rfl hd rfl hn hN (by rcases hat with ⟨e, -⟩ | ⟨e, -⟩ | ⟨e, -⟩ <;> subst e <;> simp [componentBytes, newarray.typeOf] <;> omega) (by show _ + 1 ≤ NC - h0.1.length; omega) (by show _ + N ≤ NS - sl h0; omega) rfl (fun H' cA e1 z1 o1 hAr hNm => ?_)
  have hP' : Pic G (aN h c N) H' := by
    refine hP.new b1 b2 z1 o1 e1 ⟨arrV_size _ _ _, fun _ => rfl, ?_, ?_, ?_, ?_⟩ <;> rcases hat with ⟨e, e'⟩ | ⟨e, e'⟩ | ⟨e, e'⟩ <;> subst e <;> subst e' <;> intro z
    all_goals first | omega | skip
    · have hc0 : s.vm.findClass ("[" ++ FieldType.int.toString) = some (gC G 0) := (hK.2 0 _ rfl).2
      cases hc0.symm.trans hNm
      congr 1
      funext i
      simp [aN, defaultValue, newarray.typeOf]
    · have hc0 : s.vm.findClass ("[" ++ FieldType.byte.toString) = some (gC G 1) := (hK.2 1 _ rfl).2
      cases hc0.symm.trans hNm
      congr 1
      funext i
      simp [aN, defaultValue, newarray.typeOf]
    · have hc0 : s.vm.findClass ("[" ++ FieldType.long.toString) = some (gC G 2) := (hK.2 2 _ rfl).2
      cases hc0.symm.trans hNm
      congr 1
      funext i
      simp [aN, defaultValue, newarray.typeOf]
  have := k p e s m args below meth c' h0 _ locs la F ⟨by rw [z1]; exact Nat.le_succ_of_le hS.1, fun q q1 q2 => (o1 q (Nat.lt_of_lt_of_le q1 hS.1)).trans (hS.2.1 q q1 q2), hS.2.2⟩ hP' hE.new hl
  rw [n1, n2] at this
  have hHs : rv G (.ref h.1.length) = .ref H.size := by rw [hP.1]; rfl
  rw [List.map_cons, hHs] at this
  exact this
end MAKES
end
section
/-! An exception whose constructor names its parent's by another entry than 7: the library's law of 'throw new E(text)' (BundleOwnThrow) with the first link told by entry and bytes; the pieces are the library's own laws. -/
section MZ
def mzChain (X : String) (ix : Nat) (rx : ByteArray) : List String → List Cond
  | [] => Bundle.passSAtoms X Bundle.tN ix rx
  | Y :: r => Bundle.passSAtoms X Y ix rx ++ Bundle.chainSAtoms Y r
def mzRest (own : String) (ic : Nat) (X : String) : List Cond := [.methodLink own ic (Bundle.initS X), .instantiable X 6, .selects X Bundle.tFill0 Bundle.tFill0, .selects X Bundle.tFill Bundle.tFill, .lays X Bundle.tN "cause" "Ljava/lang/Throwable;", .lays X Bundle.tN "stackTrace" Bundle.steD, .lays X Bundle.tN "suppressedExceptions" Bundle.listD, .lays X Bundle.tN "detailMessage" "Ljava/lang/String;", .isRef (.static Bundle.tN "UNASSIGNED_STACK" Bundle.steD), .isRef (.static Bundle.tN "SUPPRESSED_SENTINEL" Bundle.listD), .fieldLink Bundle.tN 198 Bundle.tN "backtrace" "Ljava/lang/Object;", .lays Bundle.tN Bundle.tN "backtrace" "Ljava/lang/Object;", .lays X Bundle.tN "backtrace" "Ljava/lang/Object;"]
def mzAtoms (own : String) (ic : Nat) (X : String) (ix : Nat) (rx : ByteArray) (names : List String) : List Cond := Bundle.throwableAtoms ++ Bundle.throwableSAtoms ++ mzChain X ix rx names ++ mzRest own ic X
theorem mz_links {args : Array Value} {s : State} {pl : Platform} (hpl : pl.magicAccessors = ({} : Platform).magicAccessors) {top : MethodId} (htop : s.methodNamed? (Bundle.initS Bundle.tN) = some top) {ix : Nat} {rx : ByteArray} (x0 : decode rx 0 = .ok (.aload_n 0, 1)) (x1 : decode rx 1 = .ok (.aload_n 1, 1)) (x2 : decode rx 2 = .ok (.invokespecial ix, 3)) (x5 : decode rx 5 = .ok (.return_, 1)) (X : String) (Y : String) (r : List String) (hX : Bundle.fit X = true) (hn : ∀ n ∈ Y :: r, Bundle.fit n = true) (h : ∀ c ∈ mzChain X ix rx (Y :: r), c.before args s = true) :
    ∃ (P1 : PassC) (Ps : List PassC), Ps.length = r.length + 1 ∧ P1.LinksS pl s ∧ (∀ P, P ∈ Ps → P.LinksS pl s) ∧ s.methodNamed? (Bundle.initS X) = some P1.m ∧ P1.sup = firstOf top (Ps.map (·.toPassT)) ∧ PassesOn top (Ps.map (·.toPassT)) := by
  obtain ⟨P, L, hm, hs⟩ := PassC.ofS_atoms (args := args) (s := s) hpl (X := X) (Y := Y) (Bundle.fit_spec hX).1 (Bundle.fit_spec (hn Y List.mem_cons_self)).2 x0 x1 x2 x5 (fun c hc => h c (List.mem_append_left _ hc))
  obtain ⟨P', Ps, hlen, L', hL, hm', hsup, hpass⟩ := Bundle.chainS (args := args) hpl htop r Y (hn Y List.mem_cons_self) (fun n hn' => hn n (List.mem_cons_of_mem _ hn')) (fun c hc => h c (List.mem_append_right _ hc))
  refine ⟨P, P' :: Ps, by simp [hlen], L, fun Q hQ => ?_, hm, Option.some.inj (hs.symm.trans hm'), hsup, hpass⟩
  rcases List.mem_cons.mp hQ with rfl | hQ
  · exact L'
  · exact hL Q hQ
variable {p : Program} {l : Launch} {e : Env} {R : Room} {s : State} {m₀ : MethodId} {args : Array Value} {below : List Frame} {meth : Method} {c : Code} {W : State} {locs : List Loc} {cells slots : Nat}
set_option maxHeartbeats 2000000 in
theorem mz_ctor (X : Stand p l e R s m₀ args below meth c W locs cells slots) (hexec : p.tables.exec = Jvm.exec) (htr : e.platform.stackTraces = false) {own cls Y : String} {r : List String} {ic ix : Nat} {rx : ByteArray} (x0 : decode rx 0 = .ok (.aload_n 0, 1)) (x1 : decode rx 1 = .ok (.aload_n 1, 1)) (x2 : decode rx 2 = .ok (.invokespecial ix, 3)) (x5 : decode rx 5 = .ok (.return_, 1))
    (hown : s.vm.findClass own = some m₀.cls) (hcls : Bundle.fit cls = true) (hnames : ∀ n ∈ Y :: r, Bundle.fit n = true)
    (h : ∀ a ∈ mzAtoms own ic cls ix rx (Y :: r), a.before args s = true)
    (hlocs : ∀ x ∈ locs, ∀ cell, s.heap[x.base]? = some cell → cell.vm.isStatics = false)
    {a : Addr} {cX : ClassId} {kX : Class} (hfoundX : s.vm.findClass cls = some cX) (hkX : s.vm.classes[cX]? = some kX) (hcell : W.heap[a]? = some (freshCell cX kX)) (hnew : s.heap.size ≤ a)
    {msg : Value} (hmsg : msg.isRef = true)
    {g : JFrame} (hg : g.method = m₀) (hsize : g.locals.size = c.maxLocals) (hlocked : g.locked = none) (hentered : g.entered = []) {rest : List Value} (hstack : g.stack = msg :: .ref a :: .ref a :: rest)
    (hd6 : decode c.code g.pc = .ok (.invokespecial ic, 3)) (hd9 : decode c.code (g.pc + 3) = .ok (.athrow, 1)) (hout : ∀ x ∈ c.exceptionTable.toList, covers x (g.pc + 3) = false)
    (hRframes : r.length + 4 < R.frames) (hRlocals : 2 * g.monitorRoom + ((Value.ref a :: rest).map fun v => v.category).sum + (13 * (r.length + 2) + 42) ≤ R.locals) (hlocks : meth.locks = false) :
    ∃ U : State, Steps p.tables e below (W.setTop g) U ∧ U.status = .running ∧ Ended U below (.threw a) ∧ s.WarmedH U.vm ∧ s.sameButNew ({ U with vm := s.vm } : State) locs cells slots ∧ ∃ ce, U.heap[a]? = some ce ∧ s.vm.findClass cls = some ce.cls ∧ ce.vm = .none := by
  have howns : e.platform.frameOwnsMonitors = true := by rw [X.admits.platform]
  have hfin : e.platform.finalization = false := by rw [X.admits.platform]
  have hpl : e.platform.magicAccessors = ({} : Platform).magicAccessors := by rw [X.admits.platform]
  have hR : ∀ x ∈ mzRest own ic cls, x.before args s = true := fun x hx => h x (List.mem_append_right _ hx)
  have hC : ∀ x ∈ mzChain cls ix rx (Y :: r), x.before args s = true := fun x hx => h x (List.mem_append_left _ (List.mem_append_right _ hx))
  obtain ⟨T, Z0, L, -, Yt⟩ := ThrowableC.of_atoms (args := args) howns hfin hpl (fun x hx => h x (List.mem_append_left _ (List.mem_append_left _ (List.mem_append_left _ hx))))
  obtain ⟨Z, M, LZ, LM, hnZ⟩ := Init0T.ofS_atoms (args := args) hpl L Yt (fun x hx => h x (List.mem_append_left _ (List.mem_append_left _ (List.mem_append_right _ hx))))
  obtain ⟨P1, Ps, hlen, L1, hL, hP1m, hlink1, hlink⟩ := mz_links (args := args) hpl hnZ x0 x1 x2 x5 cls Y r hcls hnames hC
  have hfound : s.vm.findClass cls = some P1.m.cls := findClass_of_methodNamed hP1m
  cases Option.some.inj (hfoundX.symm.trans hfound)
  obtain ⟨c1, kX', hc1, hk, hord, -, -, hn6⟩ := Cond.instantiable_spec (hR (.instantiable cls 6) (by simp [mzRest]))
  cases Option.some.inj (hc1.symm.trans hfound)
  cases Option.some.inj (hkX.symm.trans hk)
  have hsel : ∀ (f : MethodName) (mf : MethodId), s.methodNamed? f = some mf → (f.cls ≠ "java/lang/invoke/MethodHandle" ∧ f.cls ≠ "java/lang/invoke/VarHandle") → (Cond.selects cls f f).before args s = true → selectMethod e.platform s.vm P1.m.cls mf = .method mf := by
    intro f mf hf hne hs
    obtain ⟨c2, r2, m2, q1, q2, q3, q4, -⟩ := Cond.selects_spec hs
    cases Option.some.inj (q1.symm.trans hfound)
    cases Option.some.inj (q2.symm.trans (State.methodFound?_of_named hf hne))
    cases Option.some.inj (q3.symm.trans hf)
    rw [Launch.admits_selectMethod X.admits]; exact q4
  have hsel0 := hsel _ _ Yt.fill0 (by decide) (hR (.selects cls Bundle.tFill0 Bundle.tFill0) (by simp [mzRest]))
  have hselF := hsel _ _ Yt.fill (by decide) (hR (.selects cls Bundle.tFill Bundle.tFill) (by simp [mzRest]))
  obtain ⟨cellS0, hcS0, hiss⟩ := Yt.statics
  obtain ⟨u0, hu0⟩ := Cond.staticRefV Yt.unassigned L.unassignedStatic L.statics hcS0 hiss (hR (.isRef (.static Bundle.tN "UNASSIGNED_STACK" Bundle.steD)) (by simp [mzRest]))
  obtain ⟨sen, hsen⟩ := Cond.staticRefV Yt.sentinel L.sentinelStatic L.statics hcS0 hiss (hR (.isRef (.static Bundle.tN "SUPPRESSED_SENTINEL" Bundle.listD)) (by simp [mzRest]))
  obtain ⟨ci198, i198, fB, hk198, hg198, ha198, hsB, -, hnB, htB, hffB⟩ := Cond.ownField (t := .object "java/lang/Object") Yt.found L.cls (by decide +kernel) (hR (.fieldLink Bundle.tN 198 Bundle.tN "backtrace" "Ljava/lang/Object;") (by simp [mzRest])) (hR (.lays Bundle.tN Bundle.tN "backtrace" "Ljava/lang/Object;") (by simp [mzRest])) e.platform hpl
  obtain ⟨cellS, hcS', heS, -, hkeep⟩ := X.same.2.2.2.2.2 T.aS cellS0 hcS0
  have hcellS : W.heap[T.aS]? = some cellS := hcS'
  have hout' : ∀ i, (⟨T.aS, i⟩ : Loc) ∉ locs := fun i hmem => by
    have := hlocs _ hmem cellS0 hcS0
    rw [hiss] at this; cases this
  have hknownS : cellS.vm ≠ .unknown := by
    rw [heS]; intro hu
    rw [show cellS0.vm = .unknown from hu] at hiss
    cases hiss
  have hneS : T.aS ≠ a := Nat.ne_of_lt (Nat.lt_of_lt_of_le (Array.getElem?_eq_some_iff.mp hcS0).1 hnew)
  obtain ⟨iM, hffM⟩ := Yt.msg
  obtain ⟨tyC, dC, hdC, hdnC⟩ := Cond.laysAt hfound hk Yt.cause (hR (.lays cls Bundle.tN "cause" "Ljava/lang/Throwable;") (by simp [mzRest]))
  obtain ⟨tyS, dS, hdS, hdnS⟩ := Cond.laysAt hfound hk Yt.stack (hR (.lays cls Bundle.tN "stackTrace" Bundle.steD) (by simp [mzRest]))
  obtain ⟨tyP, dP, hdP, hdnP⟩ := Cond.laysAt hfound hk Yt.supp (hR (.lays cls Bundle.tN "suppressedExceptions" Bundle.listD) (by simp [mzRest]))
  obtain ⟨tyM, dM, hdM, hdnM⟩ := Cond.laysAt hfound hk hffM (hR (.lays cls Bundle.tN "detailMessage" "Ljava/lang/String;") (by simp [mzRest]))
  obtain ⟨tyB, dB, hdB, hdnB⟩ := Cond.laysAt hfound hk hffB (hR (.lays cls Bundle.tN "backtrace" "Ljava/lang/Object;") (by simp [mzRest]))
  have bC := Cond.laysApart hdB hdC hdnB hdnC (by rw [hnB, Yt.causeName]; decide)
  have bS := Cond.laysApart hdB hdS hdnB hdnS (by rw [hnB, Yt.stackName]; decide)
  have bP := Cond.laysApart hdB hdP hdnB hdnP (by rw [hnB, Yt.suppName]; decide)
  have hskip : SkipFacts T e.platform s (fun u => u) u0 ((preparedCellV T.toThrowableT (freshCell P1.m.cls kX) a u0 sen).withEntry W.cur) :=
    ⟨{ ci198 := ci198, i198 := i198, fBack := fB }, ⟨hk198, hg198, ha198, hsB⟩, by
      have := fresh_default (c := P1.m.cls) tyB
      rw [htB] at this
      simpa [preparedCellV, Cell.setSlot, Cell.withEntry, Array.getElem?_setIfInBounds, bC, bS, bP, bC.symm, bS.symm, bP.symm, defaultValue] using this, fun _ _ => rfl⟩
  obtain ⟨tm, methC, cdC, kC, vm₁, hnC, -, -, -, -, -, -, -, hW₁, st1⟩ := Steps.initColdS (tb := p.tables) (e := e) (below := below) (s := s) (U := W) X.here hexec X.warmed hpl hown (t := Bundle.initS cls) rfl rfl (Bundle.fit_spec hcls).2
    (hR (.methodLink own ic (Bundle.initS cls)) (by simp [mzRest])) (hC (.instanceMethod (Bundle.initS cls)) (by simp [mzChain, Bundle.passSAtoms])) (bytes := rx) (maxL := 2) (hC (.code (Bundle.initS cls) rx 2 none) (by simp [mzChain, Bundle.passSAtoms]))
    (f := g) hg (a := a) (msg := msg) (rest := .ref a :: rest) hstack hd6
  cases Option.some.inj (hnC.symm.trans hP1m)
  have X₁ := X.noted hW₁
  obtain ⟨vm₂, X₂, st2⟩ := X₁.ctorMessageOffV hexec (g := { g with stack := .ref a :: rest }) hg hsize T L Z LZ M LM (P1 :: Ps)
    (fun P hP => by rcases List.mem_cons.mp hP with rfl | hP; exact L1; exact hL P hP) ⟨hlink1, hlink⟩ (u0 := u0) (sen := sen) (self := a) hmsg (cell := freshCell P1.m.cls kX) (cellS := cellS)
    hcell (fun _ => by simp) (by simp) rfl rfl hsel0 hselF hcellS hneS hknownS (by rw [hkeep _ (hout' _)]; exact hu0) (by rw [hkeep _ (hout' _)]; exact hsen)
    (Takes.of_laid hk hord tyC (by rw [Yt.causeType]; rfl)) (Takes.of_laid hk hord tyS (by rw [Yt.stackType]; exact fits_refV_array _ u0)) (Takes.of_laid hk hord tyP (by rw [Yt.suppType]; exact fits_refV_object _ sen))
    (Takes.of_laid hk hord tyM (by rw [Yt.msgType]; exact fits_refV_object _ ⟨msg, hmsg⟩)) Yt.objLocals hskip htr [] hd6
    (by simp only [List.length_cons, hlen]; omega) (by simp only [List.length_cons, hlen]; exact hRlocals)
  obtain ⟨hwalk, hrun, hended, hWU, hsame⟩ := X₂.athrowLeaves hexec (g := { g with stack := .ref a :: rest, pc := g.pc + 3 }) hg hlocked hentered hout (a := a) (rest := rest) rfl hd9
  have hlt : a < ((W.setVm vm₁).setVm vm₂).heap.size := (Array.getElem?_eq_some_iff.mp hcell).1
  have hU := heapAt_setCell_self (s := (W.setVm vm₁).setVm vm₂) (plainBareV T.toThrowableT (freshCell P1.m.cls kX) a u0 sen msg) hlt
  refine ⟨_, st1 _ (fun acts => ?_), hrun, hended, hWU, hsame.weaken (fun y hy hlt' => ?_) (Nat.le_refl _) (Nat.le_refl _), _, hU, hfound, rfl⟩
  · rw [doInvoke_state]
    exact st2 _ hwalk
  · rcases List.mem_append.mp hy with h1 | h1
    · exact h1
    · exfalso
      have hb : y.base = a := by
        simp only [List.mem_cons, List.not_mem_nil, or_false] at h1
        rcases h1 with rfl | rfl | rfl | rfl | rfl <;> rfl
      rw [hb] at hlt'
      exact Nat.not_lt.mpr hnew hlt'
end MZ
end
section
section THROWS
variable {G : GX} {j : MX} {pc : Nat} {ls : mL} {st : List Value} {h : mH} {Q : mO → mH → Prop}
theorem W.weaken {p : Program} {l : Launch} {e : Env} {R : Room} {s : State} {m : MethodId} {args : Array Value} {below : List Frame} {meth : Method} {c : Code} {H : Heap} {locs : List Loc} {cells slots : Nat} {Q1 Q2 : State → Prop} {g : JFrame} (hq : ∀ t, Q1 t → Q2 t) (k : W p l e R s m args below meth c H locs cells slots Q1 g) : W p l e R s m args below meth c H locs cells slots Q2 g := by
  intro T hT X
  obtain ⟨t, a, b⟩ := k T hT X
  exact ⟨t, a, hq t b⟩
def exNames : List String := ["java/lang/RuntimeException", "java/lang/Exception"]
set_option maxHeartbeats 2000000 in
/-- 'throw new E("text")', the first link told by entry and bytes (as vx_throwSW, over mz_ctor) -/
theorem mz_throw {p : Program} {l : Launch} {e : Env} {R : Room} {s : State} {m : MethodId} {args : Array Value} {below : List Frame} {meth : Method} {c : Code} {H : Heap} {locs : List Loc} {cells slots : Nat} {Qc : Array Value → State → Outcome → State → Prop} {XC : String → State → State → Prop} {free : Addr → Prop} {la : Array Slot} {rest : List Value} {cc : ByteArray} {pc : Nat} (hexec : p.tables.exec = Jvm.exec) (hb : c.code = cc) (hl : l.stackTraces = false) {own cls text Y : String} {r : List String} {ik is ic ix mc ms sa : Nat} {rx : ByteArray} {A : Nat → Prop}
    (x0 : decode rx 0 = .ok (.aload_n 0, 1)) (x1 : decode rx 1 = .ok (.aload_n 1, 1)) (x2 : decode rx 2 = .ok (.invokespecial ix, 3)) (x5 : decode rx 5 = .ok (.return_, 1))
    (hown : s.vm.findClass own = some m.cls) (hcls : Bundle.fit cls = true) (hnames : ∀ n ∈ Y :: r, Bundle.fit n = true)
    (hk : (Cond.classLink own ik cls).before args s = true) (hini : (Cond.initialized cls).before args s = true) (hstr : vk_R own is text sa s) (hat : ∀ w ∈ (mzAtoms own ic cls ix rx (Y :: r)).filter vx_no, w.before args s = true)
    (hgood : ∀ w ∈ Cond.classLink own ik cls :: Cond.initialized cls :: (mzAtoms own ic cls ix rx (Y :: r)).filter vx_no, vx_ot w = true)
    (hU : vx_Zq Bundle.tN "UNASSIGNED_STACK" Bundle.steD A s s.heap) (hN : vx_Zq Bundle.tN "SUPPRESSED_SENTINEL" Bundle.listD A s s.heap) (hS : va_S A s.heap H locs) (hsize : la.size = c.maxLocals)
    (d0 : decode cc pc = .ok (.new ik, 3)) (d3 : decode cc (pc + 3) = .ok (.dup, 1)) (d4 : decode cc (pc + 4) = .ok (.ldc_w is, 3)) (d7 : decode cc (pc + 7) = .ok (.invokespecial ic, 3)) (d10 : decode cc (pc + 10) = .ok (.athrow, 1))
    (hout : ∀ x ∈ c.exceptionTable.toList, covers x (pc + 10) = false)
    (hRframes : r.length + 4 < R.frames) (hRlocals : (rest.map fun v => v.category).sum + (13 * (r.length + 2) + 43) ≤ R.locals) (hRcells : cells + 1 ≤ R.cells) (hRslots : slots + 6 ≤ R.slots) (hlocks : meth.locks = false)
    (hx : ∀ t : State, s.vm.Alike t.vm → H.size ≤ t.heap.size → (∀ q : Nat, q < H.size → t.heap[q]? = H[q]?) → XC cls s t)
    (hf : ∀ z ∈ locs, free z.base) (hc : cells + 1 ≤ mc) (hs : slots + 6 ≤ ms) :
    W p l e R s m args below meth c H locs cells slots (vx_MQ below Qc XC args s mc ms free) (F0 m pc la rest) := by
  intro T hT X
  have htr : e.platform.stackTraces = false := (show e.platform.stackTraces = l.stackTraces by rw [X.admits.platform]).trans hl
  have Y9 := vx_rebase X (R' := { frames := R.frames, locals := R.locals, cells := 1, slots := 6 }) (Nat.le_refl _) (Nat.le_refl _) hRcells hRslots
  obtain ⟨s', hA⟩ : ∃ z, z = (T.setVm s.vm).setFrames (.invoking m args :: below) := ⟨_, rfl⟩
  rw [← hA] at Y9
  have hvm : s'.vm = s.vm := by rw [hA]; rfl
  have hhp : s'.heap = H := by rw [hA]; exact hT
  have hW0 : s.WarmedH s'.vm := by rw [hvm]; exact State.WarmedH.refl s
  have hat' : ∀ w ∈ (mzAtoms own ic cls ix rx (Y :: r)).filter vx_no, w.before args s' = true := fun w hw => vx_ot_at hW0 hvm.symm (hgood w (List.mem_cons_of_mem _ (List.mem_cons_of_mem _ hw))) (hat w hw)
  have hk' : (Cond.classLink own ik cls).before args s' = true := vx_ot_at hW0 hvm.symm (hgood _ List.mem_cons_self) hk
  have hini' : (Cond.initialized cls).before args s' = true := vx_ot_at hW0 hvm.symm (hgood _ (List.mem_cons_of_mem _ List.mem_cons_self)) hini
  have hU' : vx_Zq Bundle.tN "UNASSIGNED_STACK" Bundle.steD A s' s'.heap := by rw [hhp]; exact vx_Zq.moved hW0.alike (hU.kept hS.2.1)
  have hN' : vx_Zq Bundle.tN "SUPPRESSED_SENTINEL" Bundle.listD A s' s'.heap := by rw [hhp]; exact vx_Zq.moved hW0.alike (hN.kept hS.2.1)
  have h : ∀ w ∈ mzAtoms own ic cls ix rx (Y :: r), w.before args s' = true := vx_own hat' (vx_isRefq hU'.1) (vx_isRefq hN'.1) hU'.2.word hN'.2.word
  have hown' : s'.vm.findClass own = some m.cls := by rw [hvm]; exact hown
  have hins : (Cond.instantiable cls 6).before args s' = true := h _ (List.mem_append_right _ (by simp [mzRest]))
  obtain ⟨vm₁, cX, kX, hfX, hkX, -, -, X₁, st1⟩ := Y9.newCold hexec (own := own) (C := cls) (index := ik) (n := 6) hown' hk' hins hini'
    (g := F0 m pc la rest) rfl (by rw [hb]; exact d0) (Nat.le_refl _) (Nat.le_refl _)
  generalize hT1 : (T.setVm vm₁).pushCell { cls := cX, slots := kX.instanceTypes.map defaultValue, vm := .none } = T1 at X₁ st1
  have hcat : (Value.ref T.heap.size).category = 1 := rfl
  have hcellA : T1.heap[T.heap.size]? = some (freshCell cX kX) := by rw [← hT1]; exact State.heap_pushCell_size _ _
  have d3' : decode c.code (pc + 3) = .ok (.dup, 1) := by rw [hb]; exact d3
  have d4' : decode c.code (pc + 4) = .ok (.ldc_w is, 3) := by rw [hb]; exact d4
  have hstr' : vk_R own is text sa s' := vk_R.warm hW0 hstr
  obtain ⟨U, hsteps, hrun, hend, hW, hsame, ce, hce, hO1, hO2⟩ := mz_ctor X₁ hexec htr x0 x1 x2 x5 (own := own) (cls := cls) (ic := ic) hown' hcls hnames h (fun x hx => nomatch hx) hfX hkX hcellA (by rw [hhp, hT]; exact Nat.le_refl _) (msg := .ref sa) rfl
    (g := { method := m, pc := pc + 7, locals := la, stack := .ref sa :: .ref T.heap.size :: .ref T.heap.size :: rest, locked := none }) rfl hsize rfl rfl (rest := rest) rfl
    (by rw [hb]; exact d7) (by rw [hb]; exact d10) hout hRframes (by simp only [List.map_cons, List.sum_cons, hcat]; omega) hlocks
  obtain ⟨f1, f2⟩ := vx_frame hsame
  rw [hhp] at f1 f2
  have hWs : s.WarmedH U.vm := State.WarmedH.trans hW0 hW
  have hcl : s.vm.findClass cls = some ce.cls := by
    rw [hvm] at hO1
    exact hO1
  have hall : s.sameButNew ({ U with vm := s.vm } : State) locs mc ms := by
    subst hA
    obtain ⟨e1, e2⟩ := hsame
    rw [State.setFrames_setFrames] at e1
    have h2 : (T.setVm s.vm).sameButNew ({ U with vm := s.vm } : State) [] (0 + 1) (0 + 6) := ⟨e1, e2⟩
    have h3 := X.same.trans h2
    rw [List.append_nil] at h3
    exact h3.mono hc hs
  refine ⟨U, ?_, .threw T.heap.size, hrun, hend, Or.inr ⟨T.heap.size, rfl, cls, ce, locs, hx U hWs.alike f1 (fun q hq => f2 q hq (fun z hz => nomatch hz)), hce, hO2, hcl, hWs, hall, hf⟩⟩
  refine st1 _ ?_
  show Steps p.tables e below (T1.setTop { method := m, pc := pc + 3, locals := la, stack := .ref T.heap.size :: rest, locked := none }) _
  jvm_step X₁.here [X₁.here.top, hexec, d3', Value.category]
  exact X₁.ldcStringW hexec (own := own) (text := text) (index := is) (a := sa) hown' hstr'.1 hstr'.2
    (g := { method := m, pc := pc + 4, locals := la, stack := .ref T.heap.size :: .ref T.heap.size :: rest, locked := none }) rfl d4' _ hsteps
/-- what 'throw new E("text")' wants of the tables -/
def kLT (own E : String) (ik ic is ix : Nat) (rx : ByteArray) (n : Nat) (text : String) : Prop := Bundle.fit E = true ∧ Cond.classLink own ik E ∈ gT ∧ Cond.initialized E ∈ gT ∧ sTab[n]? = some (own, is, text) ∧ (∀ w ∈ (mzAtoms own ic E ix rx exNames).filter vx_no, w ∈ lw_tbl ∧ mvb w = true) ∧ (∀ w ∈ Cond.classLink own ik E :: Cond.initialized E :: (mzAtoms own ic E ix rx exNames).filter vx_no, vx_ot w = true) ∧ decode rx 0 = .ok (.aload_n 0, 1) ∧ decode rx 1 = .ok (.aload_n 1, 1) ∧ decode rx 2 = .ok (.invokespecial ix, 3) ∧ decode rx 5 = .ok (.return_, 1)
theorem exNames_fit : ∀ n ∈ "java/lang/RuntimeException" :: ["java/lang/Exception"], Bundle.fit n = true := by decide +kernel
/-- 'throw new E("text")': a thing of six cells at most comes, nothing else changes -/
theorem s_throw {E text : String} {ik ic is ix n : Nat} {rx : ByteArray} (d0 : decode (jC j) pc = .ok (.new ik, 3)) (d3 : decode (jC j) (pc + 3) = .ok (.dup, 1)) (d4 : decode (jC j) (pc + 4) = .ok (.ldc_w is, 3)) (d7 : decode (jC j) (pc + 7) = .ok (.invokespecial ic, 3)) (d10 : decode (jC j) (pc + 10) = .ok (.athrow, 1)) (hout : jT j = []) (hl : kLT (jY j).cls E ik ic is ix rx n text) (hf : 6 ≤ jF j) (hw : (st.map Value.category).sum + 82 ≤ jW j) (b1 : h.1.length + 1 ≤ NC) (b2 : sl h + 6 ≤ NS) (k0 : Q (.inr E) h) (k : ∀ n, n ≤ 6 → Q (.inr E) (aN h 200 n)) : Vw G j pc ls st h Q := by
  intro p e s m args below meth c' h0 H locs la F hS hP hE hl9
  have hts := F.2.2.2.2.2.2.1
  have hg := F.2.2.2.2.2.2.2.1
  obtain ⟨l1, l2, l3, l4, l5, l6, y0, y1, y2, y5⟩ := hl
  obtain ⟨r, hr⟩ := id hE
  have hlen : h.1.length = h0.1.length + r.length := by rw [hr, List.length_append]
  have hsum : sl h = sl h0 + (r.map Prod.snd).sum := by unfold sl; rw [hr, List.map_append, List.sum_append]
  have hcat : ((st.map (rv G)).map fun v => v.category) = st.map Value.category := by
    rw [List.map_map]
    apply List.map_congr_left
    intro v _
    cases v <;> rfl
  have hsz : gZ G ≤ s.heap.size := by rw [F.2.2.2.2.2.2.2.2.1.1]; omega
  have hold : ∀ q, q < gZ G → H[q]? = s.heap[q]? := fun q hq => hS.2.1 q (by omega) (fun z => absurd z (Nat.not_le.mpr hq))
  have key := mz_throw (Y := "java/lang/RuntimeException") (r := ["java/lang/Exception"]) (Qc := qR G h0 Q) (XC := fun E' s' t => E' = E ∧ s' = s ∧ H.size ≤ t.heap.size ∧ ∀ q : Nat, q < H.size → t.heap[q]? = H[q]?) (p := p) (l := gL G) (e := e) (R := jRm j h0) (s := s) (m := m) (args := args) (below := below) (meth := meth) (c := c') (H := H) (locs := locs) (cells := h.1.length - h0.1.length) (slots := sl h - sl h0) (la := la) (rest := st.map (rv G)) (mc := h.1.length - h0.1.length + 1) (ms := sl h - sl h0 + 6) (free := gA G) (A := gA G) (sa := gO G n) (text := text) (own := (jY j).cls) (cls := E) (ik := ik) (is := is) (ic := ic) (ix := ix) (rx := rx)
    F.1 F.2.1 hg.2.2.2.1 y0 y1 y2 y5 F.2.2.2.2.2.1 l1 exNames_fit (hts _ l2) (hts _ l3) (hg.2.2.2.2.1 n _ l4) (fun w hw => va_Nw.use (by have := (l5 w hw).2; unfold mvb at this; rw [Bool.and_eq_true] at this; exact this.1) (hg.2.2.2.2.2.2.1 w (l5 w hw).1 (l5 w hw).2)) l6 hg.2.1 hg.2.2.1 hS (by rw [F.2.2.1]; exact hl9.1)
    d0 d3 d4 d7 d10 (by rw [F.2.2.2.2.2.2.2.2.2.2, hout]; intro x hx; cases hx) (by show 1 + 4 < jF j; omega) (by rw [hcat]; show _ + (13 * (1 + 2) + 43) ≤ jW j; omega) (by show _ + 1 ≤ NC - h0.1.length; omega) (by show _ + 6 ≤ NS - sl h0; omega) F.2.2.2.2.1
    (fun t _ t1 t2 => ⟨rfl, rfl, t1, t2⟩) hS.2.2 (Nat.le_refl _) (Nat.le_refl _)
  refine W.weaken ?_ key
  intro t ht
  obtain ⟨o, a1, a2, a3⟩ := ht
  refine ⟨o, a1, a2, ?_⟩
  rcases a3 with ⟨⟨v, h', c1, c2, c3⟩, L, hFE, hL⟩ | ⟨q, c0, E', ce, L, ⟨rfl, -, t1, t2⟩, c2, c3, c4, c5, c6, c7⟩
  · obtain ⟨q1, q2, q3⟩ := hFE
    exact Or.inl ⟨⟨v, h', c1, c2, c3⟩, L, ⟨q1, q2, q3.mono (by omega) (by omega)⟩, hL⟩
  · refine Or.inr ⟨q, c0, E', ce, L, ?_, c2, c3, c4, c5, c6.mono (by omega) (by omega), c7⟩
    obtain ⟨x1, x2, x3, x4, x5, x6⟩ := c6
    have y1 : t.heap.size ≤ s.heap.size + (h.1.length - h0.1.length + 1) := x3
    have y5 : ((t.heap.toList.drop s.heap.size).map (fun x : Cell => x.slots.size)).sum ≤ sl h - sl h0 + 6 := x5
    have z0 := F.2.2.2.2.2.2.2.2.1.1
    have zH := hP.1
    have hob : ∀ q, q < gZ G → t.heap[q]? = s.heap[q]? := fun q hq => (t2 q (by omega)).trans (hold q hq)
    by_cases hz : t.heap.size = H.size
    · have he : t.heap = H := by
        apply Array.ext_getElem?
        intro i
        by_cases hi : i < H.size
        · exact t2 i hi
        · rw [Array.getElem?_eq_none (by omega), Array.getElem?_eq_none (by omega)]
      exact ⟨h, k0, by rw [he]; exact hP, hE, hob⟩
    · have hs1 : t.heap.size = H.size + 1 := by omega
      obtain ⟨ce9, hce9⟩ : ∃ ce9, t.heap[H.size]? = some ce9 := ⟨_, Array.getElem?_eq_getElem (by omega)⟩
      have hl : (t.heap.toList.drop s.heap.size).map (fun x : Cell => x.slots.size) = r.map Prod.snd ++ [ce9.slots.size] := by
        apply List.ext_getElem?
        intro i
        rw [List.getElem?_map, List.getElem?_drop, Array.getElem?_toList]
        by_cases hi : i < r.length
        · rw [List.getElem?_append_left (by simpa using hi), List.getElem?_map, t2 _ (by omega)]
          obtain ⟨⟨c9, n9⟩, hq9⟩ : ∃ q, r[i]? = some q := ⟨_, List.getElem?_eq_getElem hi⟩
          have : h.1[h0.1.length + i]? = some (c9, n9) := by rw [hr, List.getElem?_append_right (by omega)]; simpa using hq9
          obtain ⟨ce8, g1, g2⟩ := hP.2.2.2 _ c9 n9 this
          rw [z0, Nat.add_assoc, g1, hq9]
          show some ce8.slots.size = some n9
          rw [g2.1]
        · rw [List.getElem?_append_right (by simpa using hi)]
          by_cases hi2 : i = r.length
          · subst hi2
            rw [show s.heap.size + r.length = H.size by omega, hce9]
            simp
          · rw [Array.getElem?_eq_none (by omega), List.getElem?_eq_none (by simp; omega)]
            rfl
      rw [hl, List.sum_append] at y5
      have hn6 : ce9.slots.size ≤ 6 := by simp at y5; omega
      refine ⟨aN h 200 ce9.slots.size, k _ hn6, ?_, hE.new, hob⟩
      exact hP.new b1 (by omega) hs1 t2 hce9 ⟨rfl, fun z => by omega, fun z => by omega, fun z => by omega, fun z => by omega, fun z => by omega⟩
end THROWS
end
section
section MORE
variable {G : GX} {j : MX} {pc : Nat} {ls : mL} {st : List Value} {h : mH} {Q : mO → mH → Prop}
/-- System.arraycopy of ints between two rows -/
theorem s_acopy {i a b na nb : Nat} {sp dp n : Int32} (hd : decode (jC j) pc = .ok (.invokestatic i, 3)) (hlk : Cond.methodLink (jY j).cls i arraycopyName ∈ gT) (h1 : Cond.native arraycopyName ∈ gT) (h2 : Cond.static arraycopyName ∈ gT) (h3 : Cond.initialized "java/lang/System" ∈ gT)
    (ha : h.1[a]? = some (100, na)) (hb : h.1[b]? = some (100, nb)) (k1 : ¬ sp < 0) (k2 : ¬ dp < 0) (k3 : ¬ n < 0) (k4 : sp.toNatClampNeg + n.toNatClampNeg ≤ na) (k5 : dp.toNatClampNeg + n.toNatClampNeg ≤ nb) (hf : 1 ≤ jF j) (hw : (st.map Value.category).sum + (nativeFrameWords "java/lang/System" "arraycopy" 5 + 11) ≤ jW j)
    (k : Vw G j (pc + 3) ls st (pA h b (va_cpy (gI h a) (gI h b) sp.toNatClampNeg dp.toNatClampNeg n.toNatClampNeg)) Q) : Vw G j pc ls (.int n :: .int dp :: .ref b :: .int sp :: .ref a :: st) h Q := by
  intro p e s m args below meth c' h0 H locs la F hS hP hE hl
  have hts := F.2.2.2.2.2.2.1
  have hK := F.2.2.2.2.2.2.2.1.1
  have nn : ∀ z : Int32, ¬ z < 0 → z.toInt = (z.toNatClampNeg : Int) := by
    intro z hz
    have hz0 : (0 : Int) ≤ z.toInt := by
      have := Int32.not_lt.mp hz
      simpa using Int32.le_iff_toInt_le.mp this
    show z.toInt = ((z.toInt.toNat : Nat) : Int)
    omega
  have hcat : ((st.map (rv G)).map fun v => v.category) = st.map Value.category := by
    rw [List.map_map]
    apply List.map_congr_left
    intro v _
    cases v <;> rfl
  intro T hT X
  obtain ⟨ca, qa1, -, -, -, qa5, -⟩ := hP.2.2.2 a _ na ha
  obtain ⟨cb, qb1, -, -, -, qb5, -⟩ := hP.2.2.2 b _ nb hb
  rw [qa5 rfl] at qa1
  rw [qb5 rfl] at qb1
  obtain ⟨-, kk0, hk0, cm0, hkk0⟩ := (hK.2 0 _ rfl).1 na (fun i => .int (h.2.1 a i))
  obtain ⟨-, kk1, hk1, cm1, hkk1⟩ := (hK.2 0 _ rfl).1 nb (fun i => .int (h.2.1 b i))
  obtain ⟨vm', X', step⟩ := X.arraycopy F.1 F.2.2.2.2.2.1 (hts _ hlk) (hts _ h1) (hts _ h2) (hts _ h3) (src := gZ G + a) (dst := gZ G + b) (cs := vp_cell (gC G 0) (na, .inl (h.2.1 a))) (cd := vp_cell (gC G 0) (nb, .inl (h.2.1 b))) (srcPos := sp) (destPos := dp) (n := n) (by rw [hT]; exact qa1) (by rw [hT]; exact qb1)
    (fun _ h => by cases h) (fun _ h => by cases h) (fun h => by cases h) (fun h => by cases h) hk0 hk1 hkk0 hkk1 (by simp [refKind]) k1 k2 k3
    (by rw [nn sp k1, nn n k3]; show ¬ _ > ((arrV (gC G 0) na (fun i => .int (h.2.1 a i))).slots.size : Int); rw [arrV_size]; omega)
    (by rw [nn dp k2, nn n k3]; show ¬ _ > ((arrV (gC G 0) nb (fun i => .int (h.2.1 b i))).slots.size : Int); rw [arrV_size]; omega)
    (fun vm₁ _ i hi => by
      have e : (vp_cell (gC G 0) (na, .inl (h.2.1 a))).slots.getD (sp.toNatClampNeg + i) .null = .int (h.2.1 a (sp.toNatClampNeg + i)) := by
        show (arrV (gC G 0) na (fun j => .int (h.2.1 a j))).slots.getD _ _ = _
        rw [Array.getD_eq_getD_getElem?, arrV_read _ _ (by omega)]
        rfl
      refine ⟨?_, ?_⟩
      · rw [e]; rfl
      · rw [e]; exact trivial)
    (g := F0 m pc la (.int n :: .int dp :: .ref (gZ G + b) :: .int sp :: .ref (gZ G + a) :: st.map (rv G))) rfl (by rw [F.2.2.1]; exact hl.1) (rest := st.map (rv G)) rfl (by rw [F.2.1]; exact hd) hf (by show 2 * 0 + _ + _ ≤ jW j; rw [hcat]; omega)
  have e1 : copied (vp_cell (gC G 0) (na, .inl (h.2.1 a))) (vp_cell (gC G 0) (nb, .inl (h.2.1 b))) sp dp n = vp_cell (gC G 0) (nb, .inl (va_cpy (h.2.1 a) (h.2.1 b) sp.toNatClampNeg dp.toNatClampNeg n.toNatClampNeg)) := va_copied (fun z => .int z) _ _ _ _ k4
  rw [e1] at X' step
  have hbl : gZ G + b < H.size := (Array.getElem?_eq_some_iff.mp qb1).1
  generalize hce : vp_cell (gC G 0) (nb, .inl (va_cpy (h.2.1 a) (h.2.1 b) sp.toNatClampNeg dp.toNatClampNeg n.toNatClampNeg)) = ce at X' step
  have hheap : ((T.setVm vm').setCell (gZ G + b) ce).heap = H.setIfInBounds (gZ G + b) ce := by rw [← hT]; rfl
  have oq : ∀ q : Nat, q ≠ gZ G + b → (H.setIfInBounds (gZ G + b) ce)[q]? = H[q]? := fun q hq => by simp [Array.getElem?_setIfInBounds, Ne.symm hq]
  have hsz : (H.setIfInBounds (gZ G + b) ce).size = H.size := by simp
  have hat : (H.setIfInBounds (gZ G + b) ce)[gZ G + b]? = some ce := by simp [Array.getElem?_setIfInBounds, hbl]
  have hP' : Pic G (pA h b (va_cpy (gI h a) (gI h b) sp.toNatClampNeg dp.toNatClampNeg n.toNatClampNeg)) (H.setIfInBounds (gZ G + b) ce) := by
    refine hP.upd rfl hb (pA_other h b _) hsz oq hat ?_
    rw [← hce]
    exact ⟨arrV_size _ _ _, fun _ => rfl, fun z => by omega, fun _ => by rw [pA_self]; rfl, fun z => by omega, fun z => by omega⟩
  obtain ⟨t, a1, b1⟩ := k p e s m args below meth c' h0 _ _ la F ⟨by rw [hsz]; exact hS.1, fun q g1 g2 => by
      rw [oq q (fun e => g2 (by rw [e]; exact gA_in))]
      exact hS.2.1 q g1 g2, fun q hq => by
      rcases List.mem_append.mp hq with h | h
      · exact hS.2.2 q h
      · obtain ⟨z, -, hz⟩ := List.mem_map.mp h
        rw [← hz]
        exact gA_in⟩ hP' hE hl _ hheap X'
  exact ⟨t, step t a1, b1⟩
/-- the script of the law: the old thing 1000 -/
theorem s_sload {i : Int32} (hd : decode (jC j) pc = .ok (.iaload, 1)) (hi : vp_in i (gN G)) (kk : Vw G j (pc + 1) ls (.int (gX G i.toNatClampNeg) :: st) h Q) : Vw G j pc ls (.int i :: .float 1000 :: st) h Q := by
  intro p e s m args below meth c' h0 H locs la F hS hP hE hl
  have hx := F.2.2.2.2.2.2.2.1.2.2.2.2.2.2.2.2.1
  have hb : gO G 1000 < s.heap.size := by rw [F.2.2.2.2.2.2.2.2.1.1]; have := hx.2; omega
  exact va_sld F.1 F.2.1 hx.1 hb (fun z => absurd z (Nat.not_le.mpr hx.2)) hS hi hd (kk p e s m args below meth c' h0 H locs la F hS hP hE hl)
theorem s_slen (hd : decode (jC j) pc = .ok (.arraylength, 1)) (kk : Vw G j (pc + 1) ls (.int (Int32.ofNat (gN G)) :: st) h Q) : Vw G j pc ls (.float 1000 :: st) h Q := by
  intro p e s m args below meth c' h0 H locs la F hS hP hE hl
  have hx := F.2.2.2.2.2.2.2.1.2.2.2.2.2.2.2.2.1
  have hb : gO G 1000 < s.heap.size := by rw [F.2.2.2.2.2.2.2.2.1.1]; have := hx.2; omega
  exact va_slen F.1 F.2.1 hx.1 hb (fun z => absurd z (Nat.not_le.mpr hx.2)) hS hd (kk p e s m args below meth c' h0 H locs la F hS hP hE hl)
end MORE
end
section
/-- the kinds of the things of the world, by their numbers -/
def kdL : List (Nat × Nat) := [(9, 17), (8, 10), (101, 400), (2, 11), (100, 4), (100, 4), (100, 4), (100, 12), (100, 4), (100, 8), (100, 364), (100, 4), (100, 4), (2, 11), (100, 4), (100, 4), (100, 4), (100, 12), (100, 4), (100, 8), (100, 364), (100, 4), (100, 4), (2, 11), (100, 4), (100, 4), (100, 4), (100, 12), (100, 4), (100, 8), (100, 364), (100, 4), (100, 4), (3, 7), (100, 12), (100, 96), (100, 18), (100, 10), (3, 7), (100, 12), (100, 96), (100, 18), (100, 10), (7, 7), (100, 100), (100, 100), (100, 100), (100, 100), (100, 5), (7, 7), (100, 100), (100, 100), (100, 100), (100, 100), (100, 5), (6, 9), (2, 11), (100, 4), (100, 4), (100, 4), (100, 12), (100, 4), (100, 8), (100, 364), (100, 4), (100, 4), (100, 729), (100, 100), (4, 2), (100, 4), (100, 4), (1, 11), (100, 144), (100, 432), (100, 12), (0, 6), (100, 8), (100, 80), (100, 2048), (100, 2048), (5, 3), (100, 729), (100, 5), (10, 61), (100, 4), (100, 4), (100, 4), (100, 12), (100, 12), (100, 400), (100, 5), (100, 4), (100, 4), (100, 4), (100, 12), (100, 12), (100, 729), (100, 96), (100, 8), (100, 18), (100, 12), (100, 10), (100, 8), (100, 8), (100, 600), (100, 600), (100, 5), (100, 5), (100, 5), (100, 729), (100, 12), (100, 3), (100, 12), (100, 96), (100, 18), (100, 10), (102, 1)]
def kd (o : Nat) : Nat × Nat := kdL.getD o (300, 0)
/-- the offsets of what final fields hold -/
def rOff (c k : Nat) : Option Nat := match c, k with
  | 0, 0 => some 1
  | 0, 3 => some 2
  | 0, 4 => some 3
  | 0, 5 => some 4
  | 1, 8 => some 1
  | 1, 9 => some 2
  | 1, 10 => some 3
  | 2, 0 => some 1
  | 2, 1 => some 2
  | 2, 2 => some 3
  | 2, 3 => some 4
  | 2, 6 => some 5
  | 2, 7 => some 6
  | 2, 8 => some 7
  | 2, 9 => some 8
  | 2, 10 => some 9
  | 3, 0 => some 1
  | 3, 2 => some 2
  | 3, 4 => some 3
  | 3, 6 => some 4
  | 4, 0 => some 1
  | 4, 1 => some 2
  | 6, 0 => some 1
  | 6, 1 => some 11
  | 6, 7 => some 12
  | 7, 0 => some 1
  | 7, 1 => some 2
  | 7, 2 => some 3
  | 7, 3 => some 4
  | 7, 5 => some 5
  | 8, 0 => some 1
  | 9, 0 => some 1
  | 9, 1 => some 3
  | 9, 2 => some 13
  | 9, 3 => some 23
  | 9, 4 => some 33
  | 9, 5 => some 38
  | 9, 9 => some 55
  | 9, 10 => some 68
  | 9, 11 => some 71
  | 9, 12 => some 75
  | 9, 13 => some 80
  | 9, 14 => some 81
  | 9, 15 => some 82
  | 10, 3 => some 1
  | 10, 4 => some 2
  | 10, 5 => some 3
  | 10, 6 => some 4
  | 10, 7 => some 5
  | 10, 8 => some 6
  | 10, 12 => some 7
  | 10, 24 => some 8
  | 10, 25 => some 9
  | 10, 26 => some 10
  | 10, 27 => some 11
  | 10, 28 => some 12
  | 10, 29 => some 13
  | 10, 31 => some 14
  | 10, 32 => some 15
  | 10, 34 => some 16
  | 10, 35 => some 17
  | 10, 37 => some 18
  | 10, 38 => some 19
  | 10, 39 => some 20
  | 10, 42 => some 21
  | 10, 43 => some 22
  | 10, 44 => some 23
  | 10, 45 => some 24
  | 10, 46 => some 25
  | 10, 49 => some 26
  | 10, 50 => some 27
  | 10, 56 => some 28
  | 10, 57 => some 29
  | 10, 58 => some 30
  | 10, 59 => some 31
  | 10, 60 => some 32
  | _, _ => none
def Iv (h : mH) : Prop := (∀ o c n, kd o = (c, n) → Nat.blt c 300 = true → h.1[o]? = some (c, n)) ∧ ∀ o c n k d, kd o = (c, n) → rOff c k = some d → h.2.2.2 o k = .ref (o + d)
theorem Iv.sh {h : mH} (hi : Iv h) {o c n : Nat} (hk : kd o = (c, n)) (hc : Nat.blt c 300 = true) : h.1[o]? = some (c, n) := hi.1 o c n hk hc
theorem Iv.rf {h : mH} (hi : Iv h) {o c n k d : Nat} (hk : kd o = (c, n)) (hr : rOff c k = some d) : gR h o k = .ref (o + d) := hi.2 o c n k d hk hr
theorem kd_lt {o c n : Nat} (h : kd o = (c, n)) (hc : Nat.blt c 300 = true) : o < 117 := by
  rcases Nat.lt_or_ge o 117 with q | q
  · exact q
  · unfold kd at h
    rw [List.getD_eq_getElem?_getD, List.getElem?_eq_none (by exact q)] at h
    cases h
    cases hc
def offOk (o c k d : Nat) : Bool := (kd o).1 == c && (rOff c k == some d)
theorem kd2_0 {r : Nat} (h : kd r = (2, 11)) : kd (r + 1) = (100, 4) := by
  have hl := kd_lt h rfl
  revert h
  revert hl
  revert r
  decide +kernel
theorem kd2_1 {r : Nat} (h : kd r = (2, 11)) : kd (r + 2) = (100, 4) := by
  have hl := kd_lt h rfl
  revert h
  revert hl
  revert r
  decide +kernel
theorem kd2_2 {r : Nat} (h : kd r = (2, 11)) : kd (r + 3) = (100, 4) := by
  have hl := kd_lt h rfl
  revert h
  revert hl
  revert r
  decide +kernel
theorem kd2_3 {r : Nat} (h : kd r = (2, 11)) : kd (r + 4) = (100, 12) := by
  have hl := kd_lt h rfl
  revert h
  revert hl
  revert r
  decide +kernel
theorem kd2_6 {r : Nat} (h : kd r = (2, 11)) : kd (r + 5) = (100, 4) := by
  have hl := kd_lt h rfl
  revert h
  revert hl
  revert r
  decide +kernel
theorem kd2_7 {r : Nat} (h : kd r = (2, 11)) : kd (r + 6) = (100, 8) := by
  have hl := kd_lt h rfl
  revert h
  revert hl
  revert r
  decide +kernel
theorem kd2_8 {r : Nat} (h : kd r = (2, 11)) : kd (r + 7) = (100, 364) := by
  have hl := kd_lt h rfl
  revert h
  revert hl
  revert r
  decide +kernel
theorem kd2_9 {r : Nat} (h : kd r = (2, 11)) : kd (r + 8) = (100, 4) := by
  have hl := kd_lt h rfl
  revert h
  revert hl
  revert r
  decide +kernel
theorem kd2_10 {r : Nat} (h : kd r = (2, 11)) : kd (r + 9) = (100, 4) := by
  have hl := kd_lt h rfl
  revert h
  revert hl
  revert r
  decide +kernel
theorem kd3_0 {r : Nat} (h : kd r = (3, 7)) : kd (r + 1) = (100, 12) := by
  have hl := kd_lt h rfl
  revert h
  revert hl
  revert r
  decide +kernel
theorem kd3_2 {r : Nat} (h : kd r = (3, 7)) : kd (r + 2) = (100, 96) := by
  have hl := kd_lt h rfl
  revert h
  revert hl
  revert r
  decide +kernel
theorem kd3_4 {r : Nat} (h : kd r = (3, 7)) : kd (r + 3) = (100, 18) := by
  have hl := kd_lt h rfl
  revert h
  revert hl
  revert r
  decide +kernel
theorem kd3_6 {r : Nat} (h : kd r = (3, 7)) : kd (r + 4) = (100, 10) := by
  have hl := kd_lt h rfl
  revert h
  revert hl
  revert r
  decide +kernel
theorem kd7_0 {r : Nat} (h : kd r = (7, 7)) : kd (r + 1) = (100, 100) := by
  have hl := kd_lt h rfl
  revert h
  revert hl
  revert r
  decide +kernel
theorem kd7_1 {r : Nat} (h : kd r = (7, 7)) : kd (r + 2) = (100, 100) := by
  have hl := kd_lt h rfl
  revert h
  revert hl
  revert r
  decide +kernel
theorem kd7_2 {r : Nat} (h : kd r = (7, 7)) : kd (r + 3) = (100, 100) := by
  have hl := kd_lt h rfl
  revert h
  revert hl
  revert r
  decide +kernel
theorem kd7_3 {r : Nat} (h : kd r = (7, 7)) : kd (r + 4) = (100, 100) := by
  have hl := kd_lt h rfl
  revert h
  revert hl
  revert r
  decide +kernel
theorem kd7_5 {r : Nat} (h : kd r = (7, 7)) : kd (r + 5) = (100, 5) := by
  have hl := kd_lt h rfl
  revert h
  revert hl
  revert r
  decide +kernel
set_option maxRecDepth 20000 in
theorem cl0_in : ∀ w ∈ u_ws RX0 TX0 6, w ∈ gT := fun w h => by
  obtain ⟨g1, g2⟩ := (goodIn_r (big := lw_tbl) (u_ws RX0 TX0 6) [423, 425, 427, 429, 431, 433] (by decide +kernel) (by decide +kernel)) w h
  exact gT_in g1 (by obtain ⟨k, -, rfl⟩ := List.mem_map.mp h; unfold u_lay; split <;> rfl)
theorem cl0 : CL 0 RX0 TX0 6 := ⟨by decide, rfl, cl0_in, by decide +kernel, nmX0⟩
set_option maxRecDepth 20000 in
theorem cl1_in : ∀ w ∈ u_ws RX1 TX1 11, w ∈ gT := fun w h => by
  obtain ⟨g1, g2⟩ := (goodIn_r (big := lw_tbl) (u_ws RX1 TX1 11) [385, 387, 389, 391, 393, 395, 397, 399, 401, 403, 405] (by decide +kernel) (by decide +kernel)) w h
  exact gT_in g1 (by obtain ⟨k, -, rfl⟩ := List.mem_map.mp h; unfold u_lay; split <;> rfl)
theorem cl1 : CL 1 RX1 TX1 11 := ⟨by decide, rfl, cl1_in, by decide +kernel, nmX1⟩
set_option maxRecDepth 20000 in
theorem cl2_in : ∀ w ∈ u_ws RX2 TX2 11, w ∈ gT := fun w h => by
  obtain ⟨g1, g2⟩ := (goodIn_r (big := lw_tbl) (u_ws RX2 TX2 11) [207, 209, 211, 213, 215, 217, 219, 221, 223, 225, 227] (by decide +kernel) (by decide +kernel)) w h
  exact gT_in g1 (by obtain ⟨k, -, rfl⟩ := List.mem_map.mp h; unfold u_lay; split <;> rfl)
theorem cl2 : CL 2 RX2 TX2 11 := ⟨by decide, rfl, cl2_in, by decide +kernel, nmX2⟩
set_option maxRecDepth 20000 in
theorem cl3_in : ∀ w ∈ u_ws RX3 TX3 7, w ∈ gT := fun w h => by
  obtain ⟨g1, g2⟩ := (goodIn_r (big := lw_tbl) (u_ws RX3 TX3 7) [257, 259, 261, 263, 265, 267, 269] (by decide +kernel) (by decide +kernel)) w h
  exact gT_in g1 (by obtain ⟨k, -, rfl⟩ := List.mem_map.mp h; unfold u_lay; split <;> rfl)
theorem cl3 : CL 3 RX3 TX3 7 := ⟨by decide, rfl, cl3_in, by decide +kernel, nmX3⟩
set_option maxRecDepth 20000 in
theorem cl4_in : ∀ w ∈ u_ws RX4 TX4 2, w ∈ gT := fun w h => by
  obtain ⟨g1, g2⟩ := (goodIn_r (big := lw_tbl) (u_ws RX4 TX4 2) [355, 357] (by decide +kernel) (by decide +kernel)) w h
  exact gT_in g1 (by obtain ⟨k, -, rfl⟩ := List.mem_map.mp h; unfold u_lay; split <;> rfl)
theorem cl4 : CL 4 RX4 TX4 2 := ⟨by decide, rfl, cl4_in, by decide +kernel, nmX4⟩
set_option maxRecDepth 20000 in
theorem cl5_in : ∀ w ∈ u_ws RX5 TX5 3, w ∈ gT := fun w h => by
  obtain ⟨g1, g2⟩ := (goodIn_r (big := lw_tbl) (u_ws RX5 TX5 3) [447, 449, 451] (by decide +kernel) (by decide +kernel)) w h
  exact gT_in g1 (by obtain ⟨k, -, rfl⟩ := List.mem_map.mp h; unfold u_lay; split <;> rfl)
theorem cl5 : CL 5 RX5 TX5 3 := ⟨by decide, rfl, cl5_in, by decide +kernel, nmX5⟩
set_option maxRecDepth 20000 in
theorem cl6_in : ∀ w ∈ u_ws RX6 TX6 9, w ∈ gT := fun w h => by
  obtain ⟨g1, g2⟩ := (goodIn_r (big := lw_tbl) (u_ws RX6 TX6 9) [328, 330, 332, 334, 336, 338, 340, 342, 344] (by decide +kernel) (by decide +kernel)) w h
  exact gT_in g1 (by obtain ⟨k, -, rfl⟩ := List.mem_map.mp h; unfold u_lay; split <;> rfl)
theorem cl6 : CL 6 RX6 TX6 9 := ⟨by decide, rfl, cl6_in, by decide +kernel, nmX6⟩
set_option maxRecDepth 20000 in
theorem cl7_in : ∀ w ∈ u_ws RX7 TX7 7, w ∈ gT := fun w h => by
  obtain ⟨g1, g2⟩ := (goodIn_r (big := lw_tbl) (u_ws RX7 TX7 7) [291, 293, 295, 297, 299, 301, 303] (by decide +kernel) (by decide +kernel)) w h
  exact gT_in g1 (by obtain ⟨k, -, rfl⟩ := List.mem_map.mp h; unfold u_lay; split <;> rfl)
theorem cl7 : CL 7 RX7 TX7 7 := ⟨by decide, rfl, cl7_in, by decide +kernel, nmX7⟩
set_option maxRecDepth 20000 in
theorem cl8_in : ∀ w ∈ u_ws RX9 TX9 10, w ∈ gT := fun w h => by
  obtain ⟨g1, g2⟩ := (goodIn_r (big := lw_tbl) (u_ws RX9 TX9 10) [147, 149, 151, 153, 155, 157, 159, 161, 163, 165] (by decide +kernel) (by decide +kernel)) w h
  exact gT_in g1 (by obtain ⟨k, -, rfl⟩ := List.mem_map.mp h; unfold u_lay; split <;> rfl)
theorem cl8 : CL 8 RX9 TX9 10 := ⟨by decide, rfl, cl8_in, by decide +kernel, nmX9⟩
set_option maxRecDepth 20000 in
theorem cl9_in : ∀ w ∈ u_ws RX10 TX10 17, w ∈ gT := fun w h => by
  obtain ⟨g1, g2⟩ := (goodIn_r (big := lw_tbl) (u_ws RX10 TX10 17) [471, 473, 475, 477, 479, 481, 483, 485, 487, 489, 491, 493, 495, 497, 499, 501, 503] (by decide +kernel) (by decide +kernel)) w h
  exact gT_in g1 (by obtain ⟨k, -, rfl⟩ := List.mem_map.mp h; unfold u_lay; split <;> rfl)
theorem cl9 : CL 9 RX10 TX10 17 := ⟨by decide, rfl, cl9_in, by decide +kernel, nmX10⟩
set_option maxRecDepth 20000 in
theorem cl10_in : ∀ w ∈ u_ws RX11 TX11 61, w ∈ gT := fun w h => by
  obtain ⟨g1, g2⟩ := (goodIn_r (big := lw_tbl) (u_ws RX11 TX11 61) [1388, 1390, 1392, 1394, 1396, 1398, 1400, 1402, 1404, 1406, 1408, 1410, 1412, 1414, 1416, 1418, 1420, 1422, 1424, 1426, 1428, 1430, 1432, 1434, 1436, 1438, 1440, 1442, 1444, 1446, 1448, 1450, 1452, 1454, 1456, 1458, 1460, 1462, 1464, 1466, 1468, 1470, 1472, 1474, 1476, 1478, 1480, 1482, 1484, 1486, 1488, 1490, 1492, 1494, 1496, 1498, 1500, 1502, 1504, 1506, 1508] (by decide +kernel) (by decide +kernel)) w h
  exact gT_in g1 (by obtain ⟨k, -, rfl⟩ := List.mem_map.mp h; unfold u_lay; split <;> rfl)
theorem cl10 : CL 10 RX11 TX11 61 := ⟨by decide, rfl, cl10_in, by decide +kernel, nmX11⟩
theorem flX9_11 : FL RX9 11 8 0 := ⟨_, _, _, cl8, by decide, w_132⟩
theorem flX9_19 : FL RX9 19 8 1 := ⟨_, _, _, cl8, by decide, w_133⟩
theorem flX10_107 : FL RX10 107 8 1 := ⟨_, _, _, cl8, by decide, w_134⟩
theorem flX9_37 : FL RX9 37 8 2 := ⟨_, _, _, cl8, by decide, w_135⟩
theorem flX10_359 : FL RX10 359 8 2 := ⟨_, _, _, cl8, by decide, w_136⟩
theorem flX9_15 : FL RX9 15 8 3 := ⟨_, _, _, cl8, by decide, w_137⟩
theorem flX10_169 : FL RX10 169 8 3 := ⟨_, _, _, cl8, by decide, w_138⟩
theorem flX7_100 : FL RX7 100 8 4 := ⟨_, _, _, cl8, by decide, w_139⟩
theorem flX8_95 : FL RX8 95 8 4 := ⟨_, _, _, cl8, by decide, w_140⟩
theorem flX9_78 : FL RX9 78 8 4 := ⟨_, _, _, cl8, by decide, w_141⟩
theorem flX9_31 : FL RX9 31 8 5 := ⟨_, _, _, cl8, by decide, w_142⟩
theorem flX9_34 : FL RX9 34 8 6 := ⟨_, _, _, cl8, by decide, w_143⟩
theorem flX9_50 : FL RX9 50 8 7 := ⟨_, _, _, cl8, by decide, w_144⟩
theorem flX9_47 : FL RX9 47 8 8 := ⟨_, _, _, cl8, by decide, w_145⟩
theorem flX9_59 : FL RX9 59 8 9 := ⟨_, _, _, cl8, by decide, w_146⟩
theorem flX2_9 : FL RX2 9 2 0 := ⟨_, _, _, cl2, by decide, w_178⟩
theorem flX8_64 : FL RX8 64 2 0 := ⟨_, _, _, cl2, by decide, w_179⟩
theorem flX4_34 : FL RX4 34 2 0 := ⟨_, _, _, cl2, by decide, w_180⟩
theorem flX10_190 : FL RX10 190 2 0 := ⟨_, _, _, cl2, by decide, w_181⟩
theorem flX2_15 : FL RX2 15 2 1 := ⟨_, _, _, cl2, by decide, w_182⟩
theorem flX8_68 : FL RX8 68 2 1 := ⟨_, _, _, cl2, by decide, w_183⟩
theorem flX10_193 : FL RX10 193 2 1 := ⟨_, _, _, cl2, by decide, w_184⟩
theorem flX2_18 : FL RX2 18 2 2 := ⟨_, _, _, cl2, by decide, w_185⟩
theorem flX8_78 : FL RX8 78 2 2 := ⟨_, _, _, cl2, by decide, w_186⟩
theorem flX10_199 : FL RX10 199 2 2 := ⟨_, _, _, cl2, by decide, w_187⟩
theorem flX2_21 : FL RX2 21 2 3 := ⟨_, _, _, cl2, by decide, w_188⟩
theorem flX1_51 : FL RX1 51 2 3 := ⟨_, _, _, cl2, by decide, w_189⟩
theorem flX4_29 : FL RX4 29 2 3 := ⟨_, _, _, cl2, by decide, w_190⟩
theorem flX8_75 : FL RX8 75 2 3 := ⟨_, _, _, cl2, by decide, w_191⟩
theorem flX6_102 : FL RX6 102 2 3 := ⟨_, _, _, cl2, by decide, w_192⟩
theorem flX10_196 : FL RX10 196 2 3 := ⟨_, _, _, cl2, by decide, w_193⟩
theorem flX2_45 : FL RX2 45 2 4 := ⟨_, _, _, cl2, by decide, w_194⟩
theorem flX8_53 : FL RX8 53 2 4 := ⟨_, _, _, cl2, by decide, w_195⟩
theorem flX10_172 : FL RX10 172 2 4 := ⟨_, _, _, cl2, by decide, w_196⟩
theorem flX2_49 : FL RX2 49 2 5 := ⟨_, _, _, cl2, by decide, w_197⟩
theorem flX8_98 : FL RX8 98 2 5 := ⟨_, _, _, cl2, by decide, w_198⟩
theorem flX10_175 : FL RX10 175 2 5 := ⟨_, _, _, cl2, by decide, w_199⟩
theorem flX2_24 : FL RX2 24 2 6 := ⟨_, _, _, cl2, by decide, w_200⟩
theorem flX8_101 : FL RX8 101 2 6 := ⟨_, _, _, cl2, by decide, w_201⟩
theorem flX2_27 : FL RX2 27 2 7 := ⟨_, _, _, cl2, by decide, w_202⟩
theorem flX8_107 : FL RX8 107 2 7 := ⟨_, _, _, cl2, by decide, w_203⟩
theorem flX2_30 : FL RX2 30 2 8 := ⟨_, _, _, cl2, by decide, w_204⟩
theorem flX2_33 : FL RX2 33 2 9 := ⟨_, _, _, cl2, by decide, w_205⟩
theorem flX2_36 : FL RX2 36 2 10 := ⟨_, _, _, cl2, by decide, w_206⟩
theorem flX3_9 : FL RX3 9 3 0 := ⟨_, _, _, cl3, by decide, w_237⟩
theorem flX10_355 : FL RX10 355 3 0 := ⟨_, _, _, cl3, by decide, w_238⟩
theorem flX3_24 : FL RX3 24 3 1 := ⟨_, _, _, cl3, by decide, w_239⟩
theorem flX0_52 : FL RX0 52 3 1 := ⟨_, _, _, cl3, by decide, w_240⟩
theorem flX10_178 : FL RX10 178 3 1 := ⟨_, _, _, cl3, by decide, w_241⟩
theorem flX3_15 : FL RX3 15 3 2 := ⟨_, _, _, cl3, by decide, w_242⟩
theorem flX0_47 : FL RX0 47 3 2 := ⟨_, _, _, cl3, by decide, w_243⟩
theorem flX10_252 : FL RX10 252 3 2 := ⟨_, _, _, cl3, by decide, w_244⟩
theorem flX3_28 : FL RX3 28 3 3 := ⟨_, _, _, cl3, by decide, w_245⟩
theorem flX1_42 : FL RX1 42 3 3 := ⟨_, _, _, cl3, by decide, w_246⟩
theorem flX10_181 : FL RX10 181 3 3 := ⟨_, _, _, cl3, by decide, w_247⟩
theorem flX3_18 : FL RX3 18 3 4 := ⟨_, _, _, cl3, by decide, w_248⟩
theorem flX1_60 : FL RX1 60 3 4 := ⟨_, _, _, cl3, by decide, w_249⟩
theorem flX10_281 : FL RX10 281 3 4 := ⟨_, _, _, cl3, by decide, w_250⟩
theorem flX3_31 : FL RX3 31 3 5 := ⟨_, _, _, cl3, by decide, w_251⟩
theorem flX5_25 : FL RX5 25 3 5 := ⟨_, _, _, cl3, by decide, w_252⟩
theorem flX10_184 : FL RX10 184 3 5 := ⟨_, _, _, cl3, by decide, w_253⟩
theorem flX3_21 : FL RX3 21 3 6 := ⟨_, _, _, cl3, by decide, w_254⟩
theorem flX5_30 : FL RX5 30 3 6 := ⟨_, _, _, cl3, by decide, w_255⟩
theorem flX10_320 : FL RX10 320 3 6 := ⟨_, _, _, cl3, by decide, w_256⟩
theorem flX7_13 : FL RX7 13 7 0 := ⟨_, _, _, cl7, by decide, w_278⟩
theorem flX6_61 : FL RX6 61 7 0 := ⟨_, _, _, cl7, by decide, w_279⟩
theorem flX7_17 : FL RX7 17 7 1 := ⟨_, _, _, cl7, by decide, w_280⟩
theorem flX6_71 : FL RX6 71 7 1 := ⟨_, _, _, cl7, by decide, w_281⟩
theorem flX7_20 : FL RX7 20 7 2 := ⟨_, _, _, cl7, by decide, w_282⟩
theorem flX6_81 : FL RX6 81 7 2 := ⟨_, _, _, cl7, by decide, w_283⟩
theorem flX7_23 : FL RX7 23 7 3 := ⟨_, _, _, cl7, by decide, w_284⟩
theorem flX6_68 : FL RX6 68 7 3 := ⟨_, _, _, cl7, by decide, w_285⟩
theorem flX7_29 : FL RX7 29 7 4 := ⟨_, _, _, cl7, by decide, w_286⟩
theorem flX6_58 : FL RX6 58 7 4 := ⟨_, _, _, cl7, by decide, w_287⟩
theorem flX10_129 : FL RX10 129 7 4 := ⟨_, _, _, cl7, by decide, w_288⟩
theorem flX7_26 : FL RX7 26 7 5 := ⟨_, _, _, cl7, by decide, w_289⟩
theorem flX7_33 : FL RX7 33 7 6 := ⟨_, _, _, cl7, by decide, w_290⟩
theorem flX6_12 : FL RX6 12 6 0 := ⟨_, _, _, cl6, by decide, w_314⟩
theorem flX6_18 : FL RX6 18 6 1 := ⟨_, _, _, cl6, by decide, w_315⟩
theorem flX10_166 : FL RX10 166 6 1 := ⟨_, _, _, cl6, by decide, w_316⟩
theorem flX6_41 : FL RX6 41 6 2 := ⟨_, _, _, cl6, by decide, w_317⟩
theorem flX10_154 : FL RX10 154 6 2 := ⟨_, _, _, cl6, by decide, w_318⟩
theorem flX6_44 : FL RX6 44 6 3 := ⟨_, _, _, cl6, by decide, w_319⟩
theorem flX10_151 : FL RX10 151 6 3 := ⟨_, _, _, cl6, by decide, w_320⟩
theorem flX6_47 : FL RX6 47 6 4 := ⟨_, _, _, cl6, by decide, w_321⟩
theorem flX10_157 : FL RX10 157 6 4 := ⟨_, _, _, cl6, by decide, w_322⟩
theorem flX6_54 : FL RX6 54 6 5 := ⟨_, _, _, cl6, by decide, w_323⟩
theorem flX10_148 : FL RX10 148 6 5 := ⟨_, _, _, cl6, by decide, w_324⟩
theorem flX6_50 : FL RX6 50 6 6 := ⟨_, _, _, cl6, by decide, w_325⟩
theorem flX6_24 : FL RX6 24 6 7 := ⟨_, _, _, cl6, by decide, w_326⟩
theorem flX6_27 : FL RX6 27 6 8 := ⟨_, _, _, cl6, by decide, w_327⟩
theorem flX4_9 : FL RX4 9 4 0 := ⟨_, _, _, cl4, by decide, w_353⟩
theorem flX4_15 : FL RX4 15 4 1 := ⟨_, _, _, cl4, by decide, w_354⟩
theorem flX1_29 : FL RX1 29 1 0 := ⟨_, _, _, cl1, by decide, w_366⟩
theorem flX10_292 : FL RX10 292 1 0 := ⟨_, _, _, cl1, by decide, w_367⟩
theorem flX1_33 : FL RX1 33 1 1 := ⟨_, _, _, cl1, by decide, w_368⟩
theorem flX10_295 : FL RX10 295 1 1 := ⟨_, _, _, cl1, by decide, w_369⟩
theorem flX1_36 : FL RX1 36 1 2 := ⟨_, _, _, cl1, by decide, w_370⟩
theorem flX10_298 : FL RX10 298 1 2 := ⟨_, _, _, cl1, by decide, w_371⟩
theorem flX1_39 : FL RX1 39 1 3 := ⟨_, _, _, cl1, by decide, w_372⟩
theorem flX10_301 : FL RX10 301 1 3 := ⟨_, _, _, cl1, by decide, w_373⟩
theorem flX1_87 : FL RX1 87 1 4 := ⟨_, _, _, cl1, by decide, w_374⟩
theorem flX10_308 : FL RX10 308 1 4 := ⟨_, _, _, cl1, by decide, w_375⟩
theorem flX1_90 : FL RX1 90 1 5 := ⟨_, _, _, cl1, by decide, w_376⟩
theorem flX10_311 : FL RX10 311 1 5 := ⟨_, _, _, cl1, by decide, w_377⟩
theorem flX1_93 : FL RX1 93 1 6 := ⟨_, _, _, cl1, by decide, w_378⟩
theorem flX10_314 : FL RX10 314 1 6 := ⟨_, _, _, cl1, by decide, w_379⟩
theorem flX1_96 : FL RX1 96 1 7 := ⟨_, _, _, cl1, by decide, w_380⟩
theorem flX10_317 : FL RX10 317 1 7 := ⟨_, _, _, cl1, by decide, w_381⟩
theorem flX1_11 : FL RX1 11 1 8 := ⟨_, _, _, cl1, by decide, w_382⟩
theorem flX1_15 : FL RX1 15 1 9 := ⟨_, _, _, cl1, by decide, w_383⟩
theorem flX1_18 : FL RX1 18 1 10 := ⟨_, _, _, cl1, by decide, w_384⟩
theorem flX0_9 : FL RX0 9 0 0 := ⟨_, _, _, cl0, by decide, w_414⟩
theorem flX10_352 : FL RX10 352 0 0 := ⟨_, _, _, cl0, by decide, w_415⟩
theorem flX0_24 : FL RX0 24 0 1 := ⟨_, _, _, cl0, by decide, w_416⟩
theorem flX10_341 : FL RX10 341 0 1 := ⟨_, _, _, cl0, by decide, w_417⟩
theorem flX0_28 : FL RX0 28 0 2 := ⟨_, _, _, cl0, by decide, w_418⟩
theorem flX10_349 : FL RX10 349 0 2 := ⟨_, _, _, cl0, by decide, w_419⟩
theorem flX0_15 : FL RX0 15 0 3 := ⟨_, _, _, cl0, by decide, w_420⟩
theorem flX0_18 : FL RX0 18 0 4 := ⟨_, _, _, cl0, by decide, w_421⟩
theorem flX0_21 : FL RX0 21 0 5 := ⟨_, _, _, cl0, by decide, w_422⟩
theorem flX5_15 : FL RX5 15 5 0 := ⟨_, _, _, cl5, by decide, w_442⟩
theorem flX10_327 : FL RX10 327 5 0 := ⟨_, _, _, cl5, by decide, w_443⟩
theorem flX5_18 : FL RX5 18 5 1 := ⟨_, _, _, cl5, by decide, w_444⟩
theorem flX10_330 : FL RX10 330 5 1 := ⟨_, _, _, cl5, by decide, w_445⟩
theorem flX5_9 : FL RX5 9 5 2 := ⟨_, _, _, cl5, by decide, w_446⟩
theorem flX10_12 : FL RX10 12 9 0 := ⟨_, _, _, cl9, by decide, w_454⟩
theorem flX10_19 : FL RX10 19 9 1 := ⟨_, _, _, cl9, by decide, w_455⟩
theorem flX10_23 : FL RX10 23 9 2 := ⟨_, _, _, cl9, by decide, w_456⟩
theorem flX10_26 : FL RX10 26 9 3 := ⟨_, _, _, cl9, by decide, w_457⟩
theorem flX10_32 : FL RX10 32 9 4 := ⟨_, _, _, cl9, by decide, w_458⟩
theorem flX10_36 : FL RX10 36 9 5 := ⟨_, _, _, cl9, by decide, w_459⟩
theorem flX10_39 : FL RX10 39 9 6 := ⟨_, _, _, cl9, by decide, w_460⟩
theorem flX10_46 : FL RX10 46 9 7 := ⟨_, _, _, cl9, by decide, w_461⟩
theorem flX10_50 : FL RX10 50 9 8 := ⟨_, _, _, cl9, by decide, w_462⟩
theorem flX10_56 : FL RX10 56 9 9 := ⟨_, _, _, cl9, by decide, w_463⟩
theorem flX10_63 : FL RX10 63 9 10 := ⟨_, _, _, cl9, by decide, w_464⟩
theorem flX10_70 : FL RX10 70 9 11 := ⟨_, _, _, cl9, by decide, w_465⟩
theorem flX10_77 : FL RX10 77 9 12 := ⟨_, _, _, cl9, by decide, w_466⟩
theorem flX10_84 : FL RX10 84 9 13 := ⟨_, _, _, cl9, by decide, w_467⟩
theorem flX10_88 : FL RX10 88 9 14 := ⟨_, _, _, cl9, by decide, w_468⟩
theorem flX10_92 : FL RX10 92 9 15 := ⟨_, _, _, cl9, by decide, w_469⟩
theorem flX10_95 : FL RX10 95 9 16 := ⟨_, _, _, cl9, by decide, w_470⟩
theorem flX11_113 : FL RX11 113 10 0 := ⟨_, _, _, cl10, by decide, w_1327⟩
theorem flX11_216 : FL RX11 216 10 1 := ⟨_, _, _, cl10, by decide, w_1328⟩
theorem flX11_219 : FL RX11 219 10 2 := ⟨_, _, _, cl10, by decide, w_1329⟩
theorem flX11_7 : FL RX11 7 10 3 := ⟨_, _, _, cl10, by decide, w_1330⟩
theorem flX11_13 : FL RX11 13 10 4 := ⟨_, _, _, cl10, by decide, w_1331⟩
theorem flX11_16 : FL RX11 16 10 5 := ⟨_, _, _, cl10, by decide, w_1332⟩
theorem flX11_19 : FL RX11 19 10 6 := ⟨_, _, _, cl10, by decide, w_1333⟩
theorem flX11_22 : FL RX11 22 10 7 := ⟨_, _, _, cl10, by decide, w_1334⟩
theorem flX11_25 : FL RX11 25 10 8 := ⟨_, _, _, cl10, by decide, w_1335⟩
theorem flX11_116 : FL RX11 116 10 9 := ⟨_, _, _, cl10, by decide, w_1336⟩
theorem flX11_169 : FL RX11 169 10 10 := ⟨_, _, _, cl10, by decide, w_1337⟩
theorem flX11_28 : FL RX11 28 10 11 := ⟨_, _, _, cl10, by decide, w_1338⟩
theorem flX11_32 : FL RX11 32 10 12 := ⟨_, _, _, cl10, by decide, w_1339⟩
theorem flX11_123 : FL RX11 123 10 13 := ⟨_, _, _, cl10, by decide, w_1340⟩
theorem flX11_126 : FL RX11 126 10 14 := ⟨_, _, _, cl10, by decide, w_1341⟩
theorem flX11_146 : FL RX11 146 10 15 := ⟨_, _, _, cl10, by decide, w_1342⟩
theorem flX11_133 : FL RX11 133 10 16 := ⟨_, _, _, cl10, by decide, w_1343⟩
theorem flX11_156 : FL RX11 156 10 17 := ⟨_, _, _, cl10, by decide, w_1344⟩
theorem flX11_140 : FL RX11 140 10 18 := ⟨_, _, _, cl10, by decide, w_1345⟩
theorem flX11_143 : FL RX11 143 10 19 := ⟨_, _, _, cl10, by decide, w_1346⟩
theorem flX11_136 : FL RX11 136 10 20 := ⟨_, _, _, cl10, by decide, w_1347⟩
theorem flX11_186 : FL RX11 186 10 21 := ⟨_, _, _, cl10, by decide, w_1348⟩
theorem flX11_199 : FL RX11 199 10 22 := ⟨_, _, _, cl10, by decide, w_1349⟩
theorem flX11_205 : FL RX11 205 10 23 := ⟨_, _, _, cl10, by decide, w_1350⟩
theorem flX11_35 : FL RX11 35 10 24 := ⟨_, _, _, cl10, by decide, w_1351⟩
theorem flX11_38 : FL RX11 38 10 25 := ⟨_, _, _, cl10, by decide, w_1352⟩
theorem flX11_41 : FL RX11 41 10 26 := ⟨_, _, _, cl10, by decide, w_1353⟩
theorem flX11_44 : FL RX11 44 10 27 := ⟨_, _, _, cl10, by decide, w_1354⟩
theorem flX11_47 : FL RX11 47 10 28 := ⟨_, _, _, cl10, by decide, w_1355⟩
theorem flX11_50 : FL RX11 50 10 29 := ⟨_, _, _, cl10, by decide, w_1356⟩
theorem flX11_226 : FL RX11 226 10 30 := ⟨_, _, _, cl10, by decide, w_1357⟩
theorem flX11_53 : FL RX11 53 10 31 := ⟨_, _, _, cl10, by decide, w_1358⟩
theorem flX11_56 : FL RX11 56 10 32 := ⟨_, _, _, cl10, by decide, w_1359⟩
theorem flX11_229 : FL RX11 229 10 33 := ⟨_, _, _, cl10, by decide, w_1360⟩
theorem flX11_59 : FL RX11 59 10 34 := ⟨_, _, _, cl10, by decide, w_1361⟩
theorem flX11_62 : FL RX11 62 10 35 := ⟨_, _, _, cl10, by decide, w_1362⟩
theorem flX11_232 : FL RX11 232 10 36 := ⟨_, _, _, cl10, by decide, w_1363⟩
theorem flX11_65 : FL RX11 65 10 37 := ⟨_, _, _, cl10, by decide, w_1364⟩
theorem flX11_68 : FL RX11 68 10 38 := ⟨_, _, _, cl10, by decide, w_1365⟩
theorem flX11_71 : FL RX11 71 10 39 := ⟨_, _, _, cl10, by decide, w_1366⟩
theorem flX11_74 : FL RX11 74 10 40 := ⟨_, _, _, cl10, by decide, w_1367⟩
theorem flX11_322 : FL RX11 322 10 41 := ⟨_, _, _, cl10, by decide, w_1368⟩
theorem flX11_77 : FL RX11 77 10 42 := ⟨_, _, _, cl10, by decide, w_1369⟩
theorem flX11_80 : FL RX11 80 10 43 := ⟨_, _, _, cl10, by decide, w_1370⟩
theorem flX11_83 : FL RX11 83 10 44 := ⟨_, _, _, cl10, by decide, w_1371⟩
theorem flX11_86 : FL RX11 86 10 45 := ⟨_, _, _, cl10, by decide, w_1372⟩
theorem flX11_89 : FL RX11 89 10 46 := ⟨_, _, _, cl10, by decide, w_1373⟩
theorem flX11_328 : FL RX11 328 10 47 := ⟨_, _, _, cl10, by decide, w_1374⟩
theorem flX11_334 : FL RX11 334 10 48 := ⟨_, _, _, cl10, by decide, w_1375⟩
theorem flX11_92 : FL RX11 92 10 49 := ⟨_, _, _, cl10, by decide, w_1376⟩
theorem flX11_95 : FL RX11 95 10 50 := ⟨_, _, _, cl10, by decide, w_1377⟩
theorem flX11_369 : FL RX11 369 10 51 := ⟨_, _, _, cl10, by decide, w_1378⟩
theorem flX11_356 : FL RX11 356 10 52 := ⟨_, _, _, cl10, by decide, w_1379⟩
theorem flX11_353 : FL RX11 353 10 53 := ⟨_, _, _, cl10, by decide, w_1380⟩
theorem flX11_366 : FL RX11 366 10 54 := ⟨_, _, _, cl10, by decide, w_1381⟩
theorem flX11_235 : FL RX11 235 10 55 := ⟨_, _, _, cl10, by decide, w_1382⟩
theorem flX11_98 : FL RX11 98 10 56 := ⟨_, _, _, cl10, by decide, w_1383⟩
theorem flX11_101 : FL RX11 101 10 57 := ⟨_, _, _, cl10, by decide, w_1384⟩
theorem flX11_104 : FL RX11 104 10 58 := ⟨_, _, _, cl10, by decide, w_1385⟩
theorem flX11_107 : FL RX11 107 10 59 := ⟨_, _, _, cl10, by decide, w_1386⟩
theorem flX11_110 : FL RX11 110 10 60 := ⟨_, _, _, cl10, by decide, w_1387⟩
theorem ff0_0 : FF 0 0 true := fun _ _ _ h => by cases h; rfl
theorem ff0_1 : FF 0 1 false := fun _ _ _ h => by cases h; rfl
theorem ff0_2 : FF 0 2 false := fun _ _ _ h => by cases h; rfl
theorem ff0_3 : FF 0 3 true := fun _ _ _ h => by cases h; rfl
theorem ff0_4 : FF 0 4 true := fun _ _ _ h => by cases h; rfl
theorem ff0_5 : FF 0 5 true := fun _ _ _ h => by cases h; rfl
theorem ff1_0 : FF 1 0 false := fun _ _ _ h => by cases h; rfl
theorem ff1_1 : FF 1 1 false := fun _ _ _ h => by cases h; rfl
theorem ff1_2 : FF 1 2 false := fun _ _ _ h => by cases h; rfl
theorem ff1_3 : FF 1 3 false := fun _ _ _ h => by cases h; rfl
theorem ff1_4 : FF 1 4 false := fun _ _ _ h => by cases h; rfl
theorem ff1_5 : FF 1 5 false := fun _ _ _ h => by cases h; rfl
theorem ff1_6 : FF 1 6 false := fun _ _ _ h => by cases h; rfl
theorem ff1_7 : FF 1 7 false := fun _ _ _ h => by cases h; rfl
theorem ff1_8 : FF 1 8 true := fun _ _ _ h => by cases h; rfl
theorem ff1_9 : FF 1 9 true := fun _ _ _ h => by cases h; rfl
theorem ff1_10 : FF 1 10 true := fun _ _ _ h => by cases h; rfl
theorem ff2_0 : FF 2 0 true := fun _ _ _ h => by cases h; rfl
theorem ff2_1 : FF 2 1 true := fun _ _ _ h => by cases h; rfl
theorem ff2_2 : FF 2 2 true := fun _ _ _ h => by cases h; rfl
theorem ff2_3 : FF 2 3 true := fun _ _ _ h => by cases h; rfl
theorem ff2_4 : FF 2 4 false := fun _ _ _ h => by cases h; rfl
theorem ff2_5 : FF 2 5 false := fun _ _ _ h => by cases h; rfl
theorem ff2_6 : FF 2 6 true := fun _ _ _ h => by cases h; rfl
theorem ff2_7 : FF 2 7 true := fun _ _ _ h => by cases h; rfl
theorem ff2_8 : FF 2 8 true := fun _ _ _ h => by cases h; rfl
theorem ff2_9 : FF 2 9 true := fun _ _ _ h => by cases h; rfl
theorem ff2_10 : FF 2 10 true := fun _ _ _ h => by cases h; rfl
theorem ff3_0 : FF 3 0 true := fun _ _ _ h => by cases h; rfl
theorem ff3_1 : FF 3 1 false := fun _ _ _ h => by cases h; rfl
theorem ff3_2 : FF 3 2 true := fun _ _ _ h => by cases h; rfl
theorem ff3_3 : FF 3 3 false := fun _ _ _ h => by cases h; rfl
theorem ff3_4 : FF 3 4 true := fun _ _ _ h => by cases h; rfl
theorem ff3_5 : FF 3 5 false := fun _ _ _ h => by cases h; rfl
theorem ff3_6 : FF 3 6 true := fun _ _ _ h => by cases h; rfl
theorem ff4_0 : FF 4 0 true := fun _ _ _ h => by cases h; rfl
theorem ff4_1 : FF 4 1 true := fun _ _ _ h => by cases h; rfl
theorem ff5_0 : FF 5 0 false := fun _ _ _ h => by cases h; rfl
theorem ff5_1 : FF 5 1 false := fun _ _ _ h => by cases h; rfl
theorem ff5_2 : FF 5 2 false := fun _ _ _ h => by cases h; rfl
theorem ff6_0 : FF 6 0 true := fun _ _ _ h => by cases h; rfl
theorem ff6_1 : FF 6 1 true := fun _ _ _ h => by cases h; rfl
theorem ff6_2 : FF 6 2 false := fun _ _ _ h => by cases h; rfl
theorem ff6_3 : FF 6 3 false := fun _ _ _ h => by cases h; rfl
theorem ff6_4 : FF 6 4 false := fun _ _ _ h => by cases h; rfl
theorem ff6_5 : FF 6 5 false := fun _ _ _ h => by cases h; rfl
theorem ff6_6 : FF 6 6 false := fun _ _ _ h => by cases h; rfl
theorem ff6_7 : FF 6 7 true := fun _ _ _ h => by cases h; rfl
theorem ff6_8 : FF 6 8 false := fun _ _ _ h => by cases h; rfl
theorem ff7_0 : FF 7 0 true := fun _ _ _ h => by cases h; rfl
theorem ff7_1 : FF 7 1 true := fun _ _ _ h => by cases h; rfl
theorem ff7_2 : FF 7 2 true := fun _ _ _ h => by cases h; rfl
theorem ff7_3 : FF 7 3 true := fun _ _ _ h => by cases h; rfl
theorem ff7_4 : FF 7 4 false := fun _ _ _ h => by cases h; rfl
theorem ff7_5 : FF 7 5 true := fun _ _ _ h => by cases h; rfl
theorem ff7_6 : FF 7 6 false := fun _ _ _ h => by cases h; rfl
theorem ff8_0 : FF 8 0 true := fun _ _ _ h => by cases h; rfl
theorem ff8_1 : FF 8 1 false := fun _ _ _ h => by cases h; rfl
theorem ff8_2 : FF 8 2 false := fun _ _ _ h => by cases h; rfl
theorem ff8_3 : FF 8 3 false := fun _ _ _ h => by cases h; rfl
theorem ff8_4 : FF 8 4 false := fun _ _ _ h => by cases h; rfl
theorem ff8_5 : FF 8 5 false := fun _ _ _ h => by cases h; rfl
theorem ff8_6 : FF 8 6 false := fun _ _ _ h => by cases h; rfl
theorem ff8_7 : FF 8 7 false := fun _ _ _ h => by cases h; rfl
theorem ff8_8 : FF 8 8 false := fun _ _ _ h => by cases h; rfl
theorem ff8_9 : FF 8 9 false := fun _ _ _ h => by cases h; rfl
theorem ff9_0 : FF 9 0 true := fun _ _ _ h => by cases h; rfl
theorem ff9_1 : FF 9 1 true := fun _ _ _ h => by cases h; rfl
theorem ff9_2 : FF 9 2 true := fun _ _ _ h => by cases h; rfl
theorem ff9_3 : FF 9 3 true := fun _ _ _ h => by cases h; rfl
theorem ff9_4 : FF 9 4 true := fun _ _ _ h => by cases h; rfl
theorem ff9_5 : FF 9 5 true := fun _ _ _ h => by cases h; rfl
theorem ff9_6 : FF 9 6 false := fun _ _ _ h => by cases h; rfl
theorem ff9_7 : FF 9 7 false := fun _ _ _ h => by cases h; rfl
theorem ff9_8 : FF 9 8 false := fun _ _ _ h => by cases h; rfl
theorem ff9_9 : FF 9 9 true := fun _ _ _ h => by cases h; rfl
theorem ff9_10 : FF 9 10 true := fun _ _ _ h => by cases h; rfl
theorem ff9_11 : FF 9 11 true := fun _ _ _ h => by cases h; rfl
theorem ff9_12 : FF 9 12 true := fun _ _ _ h => by cases h; rfl
theorem ff9_13 : FF 9 13 true := fun _ _ _ h => by cases h; rfl
theorem ff9_14 : FF 9 14 true := fun _ _ _ h => by cases h; rfl
theorem ff9_15 : FF 9 15 true := fun _ _ _ h => by cases h; rfl
theorem ff9_16 : FF 9 16 false := fun _ _ _ h => by cases h; rfl
theorem ff10_0 : FF 10 0 false := fun _ _ _ h => by cases h; rfl
theorem ff10_1 : FF 10 1 false := fun _ _ _ h => by cases h; rfl
theorem ff10_2 : FF 10 2 false := fun _ _ _ h => by cases h; rfl
theorem ff10_3 : FF 10 3 true := fun _ _ _ h => by cases h; rfl
theorem ff10_4 : FF 10 4 true := fun _ _ _ h => by cases h; rfl
theorem ff10_5 : FF 10 5 true := fun _ _ _ h => by cases h; rfl
theorem ff10_6 : FF 10 6 true := fun _ _ _ h => by cases h; rfl
theorem ff10_7 : FF 10 7 true := fun _ _ _ h => by cases h; rfl
theorem ff10_8 : FF 10 8 true := fun _ _ _ h => by cases h; rfl
theorem ff10_9 : FF 10 9 false := fun _ _ _ h => by cases h; rfl
theorem ff10_10 : FF 10 10 false := fun _ _ _ h => by cases h; rfl
theorem ff10_11 : FF 10 11 false := fun _ _ _ h => by cases h; rfl
theorem ff10_12 : FF 10 12 true := fun _ _ _ h => by cases h; rfl
theorem ff10_13 : FF 10 13 false := fun _ _ _ h => by cases h; rfl
theorem ff10_14 : FF 10 14 false := fun _ _ _ h => by cases h; rfl
theorem ff10_15 : FF 10 15 false := fun _ _ _ h => by cases h; rfl
theorem ff10_16 : FF 10 16 false := fun _ _ _ h => by cases h; rfl
theorem ff10_17 : FF 10 17 false := fun _ _ _ h => by cases h; rfl
theorem ff10_18 : FF 10 18 false := fun _ _ _ h => by cases h; rfl
theorem ff10_19 : FF 10 19 false := fun _ _ _ h => by cases h; rfl
theorem ff10_20 : FF 10 20 false := fun _ _ _ h => by cases h; rfl
theorem ff10_21 : FF 10 21 false := fun _ _ _ h => by cases h; rfl
theorem ff10_22 : FF 10 22 false := fun _ _ _ h => by cases h; rfl
theorem ff10_23 : FF 10 23 false := fun _ _ _ h => by cases h; rfl
theorem ff10_24 : FF 10 24 true := fun _ _ _ h => by cases h; rfl
theorem ff10_25 : FF 10 25 true := fun _ _ _ h => by cases h; rfl
theorem ff10_26 : FF 10 26 true := fun _ _ _ h => by cases h; rfl
theorem ff10_27 : FF 10 27 true := fun _ _ _ h => by cases h; rfl
theorem ff10_28 : FF 10 28 true := fun _ _ _ h => by cases h; rfl
theorem ff10_29 : FF 10 29 true := fun _ _ _ h => by cases h; rfl
theorem ff10_30 : FF 10 30 false := fun _ _ _ h => by cases h; rfl
theorem ff10_31 : FF 10 31 true := fun _ _ _ h => by cases h; rfl
theorem ff10_32 : FF 10 32 true := fun _ _ _ h => by cases h; rfl
theorem ff10_33 : FF 10 33 false := fun _ _ _ h => by cases h; rfl
theorem ff10_34 : FF 10 34 true := fun _ _ _ h => by cases h; rfl
theorem ff10_35 : FF 10 35 true := fun _ _ _ h => by cases h; rfl
theorem ff10_36 : FF 10 36 false := fun _ _ _ h => by cases h; rfl
theorem ff10_37 : FF 10 37 true := fun _ _ _ h => by cases h; rfl
theorem ff10_38 : FF 10 38 true := fun _ _ _ h => by cases h; rfl
theorem ff10_39 : FF 10 39 true := fun _ _ _ h => by cases h; rfl
theorem ff10_40 : FF 10 40 false := fun _ _ _ h => by cases h; rfl
theorem ff10_41 : FF 10 41 false := fun _ _ _ h => by cases h; rfl
theorem ff10_42 : FF 10 42 true := fun _ _ _ h => by cases h; rfl
theorem ff10_43 : FF 10 43 true := fun _ _ _ h => by cases h; rfl
theorem ff10_44 : FF 10 44 true := fun _ _ _ h => by cases h; rfl
theorem ff10_45 : FF 10 45 true := fun _ _ _ h => by cases h; rfl
theorem ff10_46 : FF 10 46 true := fun _ _ _ h => by cases h; rfl
theorem ff10_47 : FF 10 47 false := fun _ _ _ h => by cases h; rfl
theorem ff10_48 : FF 10 48 false := fun _ _ _ h => by cases h; rfl
theorem ff10_49 : FF 10 49 true := fun _ _ _ h => by cases h; rfl
theorem ff10_50 : FF 10 50 true := fun _ _ _ h => by cases h; rfl
theorem ff10_51 : FF 10 51 false := fun _ _ _ h => by cases h; rfl
theorem ff10_52 : FF 10 52 false := fun _ _ _ h => by cases h; rfl
theorem ff10_53 : FF 10 53 false := fun _ _ _ h => by cases h; rfl
theorem ff10_54 : FF 10 54 false := fun _ _ _ h => by cases h; rfl
theorem ff10_55 : FF 10 55 false := fun _ _ _ h => by cases h; rfl
theorem ff10_56 : FF 10 56 true := fun _ _ _ h => by cases h; rfl
theorem ff10_57 : FF 10 57 true := fun _ _ _ h => by cases h; rfl
theorem ff10_58 : FF 10 58 true := fun _ _ _ h => by cases h; rfl
theorem ff10_59 : FF 10 59 true := fun _ _ _ h => by cases h; rfl
theorem ff10_60 : FF 10 60 true := fun _ _ _ h => by cases h; rfl
def jX0_init : MX := (yX0_init, cX0_init, 1, none, (1, 20), [])
def jX0_clear : MX := (yX0_clear, cX0_clear, 1, none, (0, 0), [])
def jX0_apartOf : MX := (yX0_apartOf, cX0_apartOf, 2, (some .int), (0, 0), [])
def jJ9_abs_0f7a4 : MX := (yJ9_abs_0f7a4, cJ9_abs_0f7a4, 1, (some .int), (0, 0), [])
def jX0_pennies : MX := (yX0_pennies, cX0_pennies, 6, (some .int), (1, 20), [])
def jX0_measure : MX := (yX0_measure, cX0_measure, 7, none, (2, 45), [])
def jX0_has : MX := (yX0_has, cX0_has, 2, (some .boolean), (0, 0), [])
def jX0_stateOf : MX := (yX0_stateOf, cX0_stateOf, 2, (some .int), (0, 0), [])
def jJ9_min_7cf53 : MX := (yJ9_min_7cf53, cJ9_min_7cf53, 2, (some .int), (0, 0), [])
def jX0_weigh : MX := (yX0_weigh, cX0_weigh, 9, none, (1, 21), [])
def jX0_withTea : MX := (yX0_withTea, cX0_withTea, 6, (some .int), (1, 21), [])
def jX0_through : MX := (yX0_through, cX0_through, 8, (some .int), (2, 46), [])
def jX0_costWithTea : MX := (yX0_costWithTea, cX0_costWithTea, 5, (some .int), (1, 21), [])
def jX0_soonestTea : MX := (yX0_soonestTea, cX0_soonestTea, 3, (some .int), (2, 45), [])
def jX0_choose : MX := (yX0_choose, cX0_choose, 10, (some .int), (3, 73), [])
def jX0_make : MX := (yX0_make, cX0_make, 6, (some .int), (4, 102), [])
def jX1_init : MX := (yX1_init, cX1_init, 1, none, (1, 20), [])
def jX1_placeOf : MX := (yX1_placeOf, cX1_placeOf, 2, (some .int), (0, 0), [])
def jX2_period : MX := (yX2_period, cX2_period, 2, (some .int), (0, 0), [])
def jX2_fade : MX := (yX2_fade, cX2_fade, 4, none, (0, 0), [])
def jX2_slope : MX := (yX2_slope, cX2_slope, 2, (some .int), (0, 0), [])
def jX2_arch : MX := (yX2_arch, cX2_arch, 3, (some .int), (0, 0), [])
def jX2_where : MX := (yX2_where, cX2_where, 7, (some .int), (1, 23), [])
def jX1_findPlaces : MX := (yX1_findPlaces, cX1_findPlaces, 7, none, (2, 49), [])
def jX2_shaken : MX := (yX2_shaken, cX2_shaken, 5, (some .int), (0, 0), [])
def jX1_offOf : MX := (yX1_offOf, cX1_offOf, 2, (some .int), (0, 0), [])
def jX1_findOffs : MX := (yX1_findOffs, cX1_findOffs, 10, none, (1, 24), [])
def jX1_figures : MX := (yX1_figures, cX1_figures, 1, (some .int), (0, 0), [])
def jX1_weigh : MX := (yX1_weigh, cX1_weigh, 9, none, (1, 21), [])
def jX1_weighAll : MX := (yX1_weighAll, cX1_weighAll, 7, none, (2, 49), [])
def jX1_findRows : MX := (yX1_findRows, cX1_findRows, 7, none, (3, 75), [])
def jX2_swungTo : MX := (yX2_swungTo, cX2_swungTo, 3, (some .int), (2, 49), [])
def jX1_isStill : MX := (yX1_isStill, cX1_isStill, 2, (some .boolean), (0, 0), [])
def jX1_isCartsWay : MX := (yX1_isCartsWay, cX1_isCartsWay, 2, (some .boolean), (1, 21), [])
def jX1_modelOf : MX := (yX1_modelOf, cX1_modelOf, 5, (some .int), (2, 42), [])
def jX1_tryCart : MX := (yX1_tryCart, cX1_tryCart, 4, none, (3, 66), [])
def jX1_findCart : MX := (yX1_findCart, cX1_findCart, 5, none, (4, 89), [])
def jJ7_fill_53178 : MX := (yJ7_fill_53178, cJ7_fill_53178, 4, none, (0, 0), [])
def jX2_init : MX := (yX2_init, cX2_init, 1, none, (1, 23), [])
def jX2_clear : MX := (yX2_clear, cX2_clear, 1, none, (1, 23), [])
def jX2_copy : MX := (yX2_copy, cX2_copy, 2, none, (1, 60), [])
def jX2_penAt : MX := (yX2_penAt, cX2_penAt, 3, (some .int), (2, 49), [])
def jX10_cellOf : MX := (yX10_cellOf, cX10_cellOf, 2, (some .int), (0, 0), [])
def jX2_cellAt : MX := (yX2_cellAt, cX2_cellAt, 2, (some .int), (3, 71), [])
def jX10_greatestCommon : MX := (yX10_greatestCommon, cX10_greatestCommon, 6, (some .int), (0, 0), [])
def jX2_ticksRound : MX := (yX2_ticksRound, cX2_ticksRound, 4, (some .int), (1, 25), [])
def jX3_init : MX := (yX3_init, cX3_init, 1, none, (1, 20), [])
def jX3_clear : MX := (yX3_clear, cX3_clear, 1, none, (0, 0), [])
def jX3_copy : MX := (yX3_copy, cX3_copy, 2, none, (1, 60), [])
def jX4_init : MX := (yX4_init, cX4_init, 1, none, (1, 20), [])
def jX4_pair : MX := (yX4_pair, cX4_pair, 5, none, (0, 0), [])
def jX4_agree : MX := (yX4_agree, cX4_agree, 11, (some .boolean), (1, 21), [])
def jJ9_floorMod_7cf53 : MX := (yJ9_floorMod_7cf53, cJ9_floorMod_7cf53, 3, (some .int), (0, 0), [])
def jX4_findTimes : MX := (yX4_findTimes, cX4_findTimes, 9, (some .boolean), (1, 22), [])
def jX4_oneTimeForAll : MX := (yX4_oneTimeForAll, cX4_oneTimeForAll, 6, (some .boolean), (1, 25), [])
def jX4_meet : MX := (yX4_meet, cX4_meet, 4, (some .boolean), (2, 50), [])
def jX4_joins : MX := (yX4_joins, cX4_joins, 4, (some .boolean), (3, 73), [])
def jX5_init : MX := (yX5_init, cX5_init, 1, none, (1, 20), [])
def jX5_unlikeFigures : MX := (yX5_unlikeFigures, cX5_unlikeFigures, 6, (some .int), (0, 0), [])
def jX5_fewestUnlike : MX := (yX5_fewestUnlike, cX5_fewestUnlike, 7, (some .int), (1, 25), [])
def jX5_findBest : MX := (yX5_findBest, cX5_findBest, 5, none, (2, 51), [])
def jX6_init : MX := (yX6_init, cX6_init, 1, none, (2, 43), [])
def jX6_cell : MX := (yX6_cell, cX6_cell, 1, (some .int), (3, 71), [])
def jX10_isCell : MX := (yX10_isCell, cX10_isCell, 1, (some .boolean), (0, 0), [])
def jX6_mark : MX := (yX6_mark, cX6_mark, 2, none, (1, 20), [])
def jX6_draw : MX := (yX6_draw, cX6_draw, 3, none, (4, 91), [])
def jX6_lift : MX := (yX6_lift, cX6_lift, 2, none, (0, 0), [])
def jJ9_max_7cf53 : MX := (yJ9_max_7cf53, cJ9_max_7cf53, 2, (some .int), (0, 0), [])
def jX6_alter : MX := (yX6_alter, cX6_alter, 4, none, (1, 21), [])
def jX6_holds : MX := (yX6_holds, cX6_holds, 4, (some .boolean), (4, 91), [])
def jX6_goesAside : MX := (yX6_goesAside, cX6_goesAside, 4, (some .boolean), (5, 114), [])
def jX6_play : MX := (yX6_play, cX6_play, 7, none, (6, 137), [])
def jX7_init : MX := (yX7_init, cX7_init, 1, none, (1, 20), [])
def jX9_isEnd : MX := (yX9_isEnd, cX9_isEnd, 1, (some .boolean), (0, 0), [])
def jX9_isSign : MX := (yX9_isSign, cX9_isSign, 2, (some .boolean), (0, 0), [])
def jX9_isBlank : MX := (yX9_isBlank, cX9_isBlank, 1, (some .boolean), (0, 0), [])
def jX9_isLetter : MX := (yX9_isLetter, cX9_isLetter, 1, (some .boolean), (0, 0), [])
def jX9_isDigit : MX := (yX9_isDigit, cX9_isDigit, 1, (some .boolean), (0, 0), [])
def jX9_advance : MX := (yX9_advance, cX9_advance, 2, none, (1, 20), [])
def jJ0_coder_7d493 : MX := (yJ0_coder_7d493, cJ0_coder_7d493, 1, (some .byte), (0, 0), [])
def jJ0_length_8abf5 : MX := (yJ0_length_8abf5, cJ0_length_8abf5, 1, (some .int), (1, 20), [])
def jJ0_isLatin1_aae02 : MX := (yJ0_isLatin1_aae02, cJ0_isLatin1_aae02, 1, (some .boolean), (0, 0), [])
def jJ3_checkIndex_8e157 : MX := (yJ3_checkIndex_8e157, cJ3_checkIndex_8e157, 3, (some .int), (0, 0), [])
def jJ0_checkIndex_df160 : MX := (yJ0_checkIndex_df160, cJ0_checkIndex_df160, 2, none, (1, 22), [])
def jJ1_charAt_3b067 : MX := (yJ1_charAt_3b067, cJ1_charAt_3b067, 2, (some .char), (2, 43), [])
def jJ2_length_9d52b : MX := (yJ2_length_9d52b, cJ2_length_9d52b, 1, (some .int), (0, 0), [])
def jJ2_checkIndex_2214a : MX := (yJ2_checkIndex_2214a, cJ2_checkIndex_2214a, 2, none, (2, 43), [])
def jJ2_getChar_3b067 : MX := (yJ2_getChar_3b067, cJ2_getChar_3b067, 2, (some .char), (6, 90), [])
def jJ2_charAt_3b067 : MX := (yJ2_charAt_3b067, cJ2_charAt_3b067, 2, (some .char), (0, 0), [])
def jJ0_charAt_5068e : MX := (yJ0_charAt_5068e, cJ0_charAt_5068e, 2, (some .char), (3, 64), [])
def jX9_isWord : MX := (yX9_isWord, cX9_isWord, 3, (some .boolean), (4, 85), [])
def jX7_addStep : MX := (yX7_addStep, cX7_addStep, 2, (some .boolean), (0, 0), [])
def jX9_refuse : MX := (yX9_refuse, cX9_refuse, 2, (some .boolean), (0, 0), [])
def jX9_takeSign : MX := (yX9_takeSign, cX9_takeSign, 2, (some .boolean), (2, 41), [])
def jX7_openBlock : MX := (yX7_openBlock, cX7_openBlock, 2, (some .boolean), (3, 62), [])
def jX7_closeBlock : MX := (yX7_closeBlock, cX7_closeBlock, 5, (some .boolean), (5, 107), [])
def jX7_verbTold : MX := (yX7_verbTold, cX7_verbTold, 1, (some .int), (5, 107), [])
def jX9_takeNumber : MX := (yX9_takeNumber, cX9_takeNumber, 3, (some .boolean), (2, 41), [])
def jX7_readNumber : MX := (yX7_readNumber, cX7_readNumber, 4, (some .boolean), (3, 63), [])
def jX9_takeSigned : MX := (yX9_takeSigned, cX9_takeSigned, 3, (some .boolean), (3, 63), [])
def jX7_readChange : MX := (yX7_readChange, cX7_readChange, 3, (some .boolean), (4, 86), [])
def jX7_testTold : MX := (yX7_testTold, cX7_testTold, 1, (some .int), (5, 107), [])
def jX7_readTest : MX := (yX7_readTest, cX7_readTest, 4, (some .boolean), (6, 127), [])
def jX7_readAct : MX := (yX7_readAct, cX7_readAct, 3, (some .boolean), (7, 150), [])
def jX7_read : MX := (yX7_read, cX7_read, 4, (some .boolean), (8, 172), [])
def jX8_kindTold : MX := (yX8_kindTold, cX8_kindTold, 1, (some .int), (5, 107), [])
def jX8_readInto : MX := (yX8_readInto, cX8_readInto, 5, (some .boolean), (3, 63), [])
def jX8_countPendulum : MX := (yX8_countPendulum, cX8_countPendulum, 1, (some .boolean), (0, 0), [])
def jX8_readPendulum : MX := (yX8_readPendulum, cX8_readPendulum, 4, (some .boolean), (6, 127), [])
def jX8_readCart : MX := (yX8_readCart, cX8_readCart, 4, (some .boolean), (4, 87), [])
def jX8_readPennies : MX := (yX8_readPennies, cX8_readPennies, 3, (some .boolean), (4, 87), [])
def jX8_readLine : MX := (yX8_readLine, cX8_readLine, 2, (some .boolean), (7, 150), [])
def jX8_read : MX := (yX8_read, cX8_read, 4, (some .boolean), (8, 171), [])
def jX9_init : MX := (yX9_init, cX9_init, 1, none, (1, 20), [])
def jX9_hasRoom : MX := (yX9_hasRoom, cX9_hasRoom, 1, (some .boolean), (0, 0), [])
def jX9_lay : MX := (yX9_lay, cX9_lay, 3, none, (0, 0), [])
def jX9_begin : MX := (yX9_begin, cX9_begin, 2, none, (2, 41), [])
def jX10_init : MX := (yX10_init, cX10_init, 1, none, (3, 63), [])
def jX10_feed : MX := (yX10_feed, cX10_feed, 6, (some .int), (1, 22), [])
def jX10_needBytes : MX := (yX10_needBytes, cX10_needBytes, 2, none, (6, 90), [])
def jX10_endOfText : MX := (yX10_endOfText, cX10_endOfText, 1, (some .int), (0, 0), [])
def jX10_swings : MX := (yX10_swings, cX10_swings, 2, (some .int), (9, 194), [])
def jX10_score : MX := (yX10_score, cX10_score, 3, (some .int), (9, 195), [])
def jX10_needWhat : MX := (yX10_needWhat, cX10_needWhat, 2, none, (6, 90), [])
def jX10_performed : MX := (yX10_performed, cX10_performed, 2, (some .int), (7, 163), [])
def jX10_needCell : MX := (yX10_needCell, cX10_needCell, 1, none, (6, 90), [])
def jX10_marks : MX := (yX10_marks, cX10_marks, 2, (some .int), (7, 163), [])
def jX10_fault : MX := (yX10_fault, cX10_fault, 1, (some .int), (0, 0), [])
def jX10_count : MX := (yX10_count, cX10_count, 2, (some .int), (7, 111), [])
def jX10_needPendulum : MX := (yX10_needPendulum, cX10_needPendulum, 1, none, (6, 90), [])
def jX10_pendulum : MX := (yX10_pendulum, cX10_pendulum, 3, (some .int), (7, 111), [])
def jX10_mostOfSetting : MX := (yX10_mostOfSetting, cX10_mostOfSetting, 1, (some .int), (0, 0), [])
def jX10_refuse : MX := (yX10_refuse, cX10_refuse, 2, (some .int), (0, 0), [])
def jX10_set : MX := (yX10_set, cX10_set, 6, (some .int), (7, 111), [])
def jX10_isTick : MX := (yX10_isTick, cX10_isTick, 1, (some .boolean), (0, 0), [])
def jX10_needTick : MX := (yX10_needTick, cX10_needTick, 1, none, (6, 90), [])
def jX10_swing : MX := (yX10_swing, cX10_swing, 3, (some .int), (7, 110), [])
def jX10_pen : MX := (yX10_pen, cX10_pen, 3, (some .int), (7, 111), [])
def jX10_needSpan : MX := (yX10_needSpan, cX10_needSpan, 2, none, (7, 110), [])
def jX10_markSeen : MX := (yX10_markSeen, cX10_markSeen, 7, none, (4, 92), [])
def jX10_cellsSeen : MX := (yX10_cellsSeen, cX10_cellsSeen, 4, (some .int), (0, 0), [])
def jX10_drawn : MX := (yX10_drawn, cX10_drawn, 3, (some .int), (8, 131), [])
def jX10_inCell : MX := (yX10_inCell, cX10_inCell, 5, (some .int), (8, 131), [])
def jX10_round : MX := (yX10_round, cX10_round, 1, (some .int), (2, 48), [])
def jX10_off : MX := (yX10_off, cX10_off, 2, (some .int), (3, 71), [])
def jX10_keep : MX := (yX10_keep, cX10_keep, 2, (some .int), (1, 60), [])
def jX10_needPortrait : MX := (yX10_needPortrait, cX10_needPortrait, 2, none, (6, 90), [])
def jX10_takeInto : MX := (yX10_takeInto, cX10_takeInto, 3, none, (1, 60), [])
def jX10_take : MX := (yX10_take, cX10_take, 2, none, (7, 111), [])
def jX10_copyWith : MX := (yX10_copyWith, cX10_copyWith, 3, none, (2, 82), [])
def jX10_compare : MX := (yX10_compare, cX10_compare, 3, (some .int), (4, 104), [])
def jX10_alike : MX := (yX10_alike, cX10_alike, 3, (some .int), (7, 126), [])
def jX10_leastOfKind : MX := (yX10_leastOfKind, cX10_leastOfKind, 3, (some .int), (5, 126), [])
def jX10_kinds : MX := (yX10_kinds, cX10_kinds, 4, (some .int), (7, 148), [])
def jX10_isPlace : MX := (yX10_isPlace, cX10_isPlace, 1, (some .boolean), (0, 0), [])
def jX10_point : MX := (yX10_point, cX10_point, 5, (some .int), (1, 21), [])
def jX10_unpoint : MX := (yX10_unpoint, cX10_unpoint, 1, (some .int), (0, 0), [])
def jX10_needWithin : MX := (yX10_needWithin, cX10_needWithin, 3, none, (6, 90), [])
def jX10_fits : MX := (yX10_fits, cX10_fits, 4, (some .int), (7, 112), [])
def jX10_chord : MX := (yX10_chord, cX10_chord, 10, (some .int), (7, 112), [])
def jX10_cart : MX := (yX10_cart, cX10_cart, 2, (some .int), (7, 113), [])
def jX10_birthday : MX := (yX10_birthday, cX10_birthday, 2, (some .int), (1, 21), [])
def jX10_forget : MX := (yX10_forget, cX10_forget, 2, (some .int), (0, 0), [])
def jX10_factor : MX := (yX10_factor, cX10_factor, 2, (some .int), (7, 111), [])
def jX10_markPortrait : MX := (yX10_markPortrait, cX10_markPortrait, 5, none, (5, 118), [])
def jX10_laid : MX := (yX10_laid, cX10_laid, 6, (some .int), (8, 142), [])
def jX10_evening : MX := (yX10_evening, cX10_evening, 2, (some .int), (7, 127), [])
def jX10_drawing : MX := (yX10_drawing, cX10_drawing, 2, (some .int), (6, 90), [])
def jX10_image : MX := (yX10_image, cX10_image, 1, none, (2, 81), [])
def jX10_restore : MX := (yX10_restore, cX10_restore, 1, (some .boolean), (2, 81), [])
def jX11_init : MX := (yX11_init, cX11_init, 1, none, (1, 20), [])
def jX11_thrown : MX := (yX11_thrown, cX11_thrown, 1, (some .int), (0, 0), [])
def jX11_right : MX := (yX11_right, cX11_right, 3, (some .boolean), (0, 0), [])
def jX11_within : MX := (yX11_within, cX11_within, 3, (some .boolean), (0, 0), [])
def jX11_size : MX := (yX11_size, cX11_size, 1, (some .int), (0, 0), [])
def jX11_copies : MX := (yX11_copies, cX11_copies, 4, none, (0, 0), [])
def jX11_lays : MX := (yX11_lays, cX11_lays, 3, none, (0, 0), [])
def jX11_feed : MX := (yX11_feed, cX11_feed, 6, (some .int), (1, 22), [])
def jX11_byteAt : MX := (yX11_byteAt, cX11_byteAt, 2, (some .int), (0, 0), [])
def jX11_isLetter : MX := (yX11_isLetter, cX11_isLetter, 1, (some .boolean), (0, 0), [])
def jX11_isDigit : MX := (yX11_isDigit, cX11_isDigit, 1, (some .boolean), (0, 0), [])
def jX11_steps : MX := (yX11_steps, cX11_steps, 2, none, (1, 21), [])
def jX11_spelled : MX := (yX11_spelled, cX11_spelled, 10, (some .long), (0, 0), [])
def jX11_letters : MX := (yX11_letters, cX11_letters, 1, (some .long), (1, 29), [])
def jX11_is : MX := (yX11_is, cX11_is, 2, (some .boolean), (2, 49), [])
def jX11_wrong : MX := (yX11_wrong, cX11_wrong, 2, none, (0, 0), [])
def jX11_isGood : MX := (yX11_isGood, cX11_isGood, 1, (some .boolean), (0, 0), [])
def jX11_need : MX := (yX11_need, cX11_need, 2, none, (2, 42), [])
def jX11_number : MX := (yX11_number, cX11_number, 4, (some .int), (2, 42), [])
def jX11_signed : MX := (yX11_signed, cX11_signed, 4, (some .int), (3, 65), [])
def jX11_readsPendulum : MX := (yX11_readsPendulum, cX11_readsPendulum, 3, none, (3, 70), [])
def jX11_line : MX := (yX11_line, cX11_line, 2, none, (4, 92), [])
def jX11_swings : MX := (yX11_swings, cX11_swings, 3, (some .int), (5, 113), [])
def jX11_fault : MX := (yX11_fault, cX11_fault, 1, (some .int), (0, 0), [])
def jX11_count : MX := (yX11_count, cX11_count, 2, (some .int), (1, 22), [])
def jX11_isPendulum : MX := (yX11_isPendulum, cX11_isPendulum, 2, (some .boolean), (1, 22), [])
def jX11_isTick : MX := (yX11_isTick, cX11_isTick, 3, (some .boolean), (1, 22), [])
def jX11_period : MX := (yX11_period, cX11_period, 4, (some .int), (0, 0), [])
def jX11_pendulum : MX := (yX11_pendulum, cX11_pendulum, 3, (some .int), (2, 43), [])
def jX11_refuses : MX := (yX11_refuses, cX11_refuses, 2, (some .int), (0, 0), [])
def jX11_set : MX := (yX11_set, cX11_set, 5, (some .int), (2, 43), [])
def jX11_at : MX := (yX11_at, cX11_at, 9, (some .int), (1, 23), [])
def jX11_penOf : MX := (yX11_penOf, cX11_penOf, 5, (some .int), (2, 51), [])
def jX11_penNow : MX := (yX11_penNow, cX11_penNow, 5, (some .int), (3, 75), [])
def jX11_swing : MX := (yX11_swing, cX11_swing, 3, (some .int), (2, 51), [])
def jX11_pen : MX := (yX11_pen, cX11_pen, 3, (some .int), (4, 99), [])
def jX11_cellOf : MX := (yX11_cellOf, cX11_cellOf, 2, (some .int), (0, 0), [])
def jX11_isSpan : MX := (yX11_isSpan, cX11_isSpan, 4, (some .boolean), (1, 22), [])
def jX11_clears : MX := (yX11_clears, cX11_clears, 2, none, (0, 0), [])
def jX11_drawn : MX := (yX11_drawn, cX11_drawn, 6, (some .int), (4, 99), [])
def jX11_inCell : MX := (yX11_inCell, cX11_inCell, 5, (some .int), (4, 99), [])
def jX11_roundOf : MX := (yX11_roundOf, cX11_roundOf, 6, (some .int), (1, 23), [])
def jX11_round : MX := (yX11_round, cX11_round, 1, (some .int), (2, 48), [])
def jX11_off : MX := (yX11_off, cX11_off, 2, (some .int), (3, 75), [])
def jX11_isPortrait : MX := (yX11_isPortrait, cX11_isPortrait, 2, (some .boolean), (1, 22), [])
def jX11_keep : MX := (yX11_keep, cX11_keep, 2, (some .int), (1, 21), [])
def jX11_take : MX := (yX11_take, cX11_take, 3, none, (2, 43), [])
def jX11_becomes : MX := (yX11_becomes, cX11_becomes, 4, (some .int), (0, 0), [])
def jX11_sizeOf : MX := (yX11_sizeOf, cX11_sizeOf, 3, (some .int), (0, 0), [])
def jX11_isWay : MX := (yX11_isWay, cX11_isWay, 7, (some .boolean), (1, 23), [])
def jX11_isTime : MX := (yX11_isTime, cX11_isTime, 11, (some .boolean), (1, 23), [])
def jX11_alikeOf : MX := (yX11_alikeOf, cX11_alikeOf, 6, (some .int), (2, 53), [])
def jX11_alike : MX := (yX11_alike, cX11_alike, 3, (some .int), (3, 78), [])
def jX11_kinds : MX := (yX11_kinds, cX11_kinds, 5, (some .int), (3, 78), [])
def jX11_point : MX := (yX11_point, cX11_point, 4, (some .int), (1, 22), [])
def jX11_unpoint : MX := (yX11_unpoint, cX11_unpoint, 1, (some .int), (0, 0), [])
def jX11_offOf : MX := (yX11_offOf, cX11_offOf, 6, (some .int), (3, 75), [])
def jX11_fits : MX := (yX11_fits, cX11_fits, 14, (some .int), (4, 100), [])
def jX11_chord : MX := (yX11_chord, cX11_chord, 8, (some .int), (1, 22), [])
def jX11_wayOf : MX := (yX11_wayOf, cX11_wayOf, 3, (some .int), (3, 75), [])
def jX11_shows : MX := (yX11_shows, cX11_shows, 4, (some .int), (4, 97), [])
def jX11_cart : MX := (yX11_cart, cX11_cart, 5, (some .int), (5, 120), [])
def jX11_birthday : MX := (yX11_birthday, cX11_birthday, 2, (some .int), (1, 22), [])
def jX11_forget : MX := (yX11_forget, cX11_forget, 2, (some .int), (0, 0), [])
def jX11_unlike : MX := (yX11_unlike, cX11_unlike, 6, (some .int), (0, 0), [])
def jX11_fewest : MX := (yX11_fewest, cX11_fewest, 6, (some .int), (1, 25), [])
def jX11_factor : MX := (yX11_factor, cX11_factor, 6, (some .int), (2, 50), [])
def jX11_laid : MX := (yX11_laid, cX11_laid, 8, (some .int), (3, 75), [])
def jX11_moved : MX := (yX11_moved, cX11_moved, 5, (some .int), (1, 20), [])
def jX11_allMoved : MX := (yX11_allMoved, cX11_allMoved, 5, (some .int), (2, 44), [])
def jX11_countsUp : MX := (yX11_countsUp, cX11_countsUp, 8, (some .boolean), (0, 0), [])
def jX11_evening : MX := (yX11_evening, cX11_evening, 7, (some .int), (3, 68), [])
def jX11_drawing : MX := (yX11_drawing, cX11_drawing, 2, (some .int), (1, 22), [])
def jX11_puts : MX := (yX11_puts, cX11_puts, 2, none, (0, 0), [])
def jX11_isSign : MX := (yX11_isSign, cX11_isSign, 2, (some .boolean), (0, 0), [])
def jX11_opens : MX := (yX11_opens, cX11_opens, 3, none, (3, 63), [])
def jX11_test : MX := (yX11_test, cX11_test, 4, none, (3, 70), [])
def jX11_closes : MX := (yX11_closes, cX11_closes, 2, none, (4, 85), [])
def jX11_act : MX := (yX11_act, cX11_act, 3, none, (4, 93), [])
def jX11_score : MX := (yX11_score, cX11_score, 2, (some .int), (5, 115), [])
def jX11_penGoing : MX := (yX11_penGoing, cX11_penGoing, 5, (some .int), (3, 75), [])
def jX11_cellGoing : MX := (yX11_cellGoing, cX11_cellGoing, 1, (some .int), (4, 99), [])
def jX11_holds : MX := (yX11_holds, cX11_holds, 3, (some .boolean), (5, 119), [])
def jX11_draws : MX := (yX11_draws, cX11_draws, 3, none, (5, 119), [])
def jX11_between : MX := (yX11_between, cX11_between, 2, (some .int), (0, 0), [])
def jX11_performs : MX := (yX11_performs, cX11_performs, 5, none, (6, 141), [])
def jX11_performed : MX := (yX11_performed, cX11_performed, 4, (some .int), (7, 165), [])
def jX11_marks : MX := (yX11_marks, cX11_marks, 2, (some .int), (7, 165), [])
def jX11_image : MX := (yX11_image, cX11_image, 1, none, (1, 23), [])
def jX11_restore : MX := (yX11_restore, cX11_restore, 1, (some .boolean), (1, 23), [])
def jL_swings : MX := (yL_swings, cL_swings, 4, (some .int), (10, 215), [(0, 9, 12, 13)])
def jL_score : MX := (yL_score, cL_score, 4, (some .int), (10, 217), [(0, 9, 12, 13)])
def jL_performed : MX := (yL_performed, cL_performed, 4, (some .int), (8, 184), [(0, 9, 12, 21)])
def jL_marks : MX := (yL_marks, cL_marks, 4, (some .int), (8, 184), [(0, 9, 12, 21)])
def jL_count : MX := (yL_count, cL_count, 4, (some .int), (8, 132), [(0, 9, 12, 21)])
def jL_pendulum : MX := (yL_pendulum, cL_pendulum, 5, (some .int), (8, 133), [(0, 10, 13, 21)])
def jL_set : MX := (yL_set, cL_set, 6, (some .int), (8, 136), [(0, 12, 15, 21)])
def jL_swing : MX := (yL_swing, cL_swing, 5, (some .int), (8, 132), [(0, 10, 13, 21), (0, 10, 17, 13)])
def jL_pen : MX := (yL_pen, cL_pen, 5, (some .int), (8, 133), [(0, 10, 13, 21), (0, 10, 17, 13)])
def jL_drawn : MX := (yL_drawn, cL_drawn, 5, (some .int), (9, 153), [(0, 10, 13, 13)])
def jL_inCell : MX := (yL_inCell, cL_inCell, 6, (some .int), (9, 155), [(0, 12, 15, 21), (0, 12, 19, 13)])
def jL_take : MX := (yL_take, cL_take, 3, (some .int), (8, 132), [(0, 5, 8, 21)])
def jL_alike : MX := (yL_alike, cL_alike, 5, (some .int), (8, 148), [(0, 10, 13, 21)])
def jL_kinds : MX := (yL_kinds, cL_kinds, 4, (some .int), (8, 171), [(0, 9, 12, 21)])
def jL_fits : MX := (yL_fits, cL_fits, 6, (some .int), (8, 135), [(0, 12, 15, 21), (0, 12, 19, 13)])
def jL_chord : MX := (yL_chord, cL_chord, 6, (some .int), (8, 141), [(0, 12, 15, 21), (0, 12, 19, 13)])
def jL_cart : MX := (yL_cart, cL_cart, 4, (some .int), (8, 134), [(0, 9, 12, 21)])
def jL_factor : MX := (yL_factor, cL_factor, 4, (some .int), (8, 132), [(0, 9, 12, 21)])
def jL_laid : MX := (yL_laid, cL_laid, 8, (some .int), (9, 167), [(0, 16, 19, 21), (0, 16, 23, 13)])
def jL_evening : MX := (yL_evening, cL_evening, 4, (some .int), (8, 148), [(0, 9, 12, 13)])
def jL_drawing : MX := (yL_drawing, cL_drawing, 4, (some .int), (7, 111), [(0, 9, 12, 21)])
def jL_law : MX := (yL_law, cL_law, 7, (some .boolean), (11, 240), [])
theorem lsX0_63 : kLS RX0 63 jJ9_abs_0f7a4 1 := ⟨⟨rfl, w_561, w_110, ⟨by decide +kernel, by decide +kernel⟩, by decide +kernel⟩, w_1280, w_560⟩
theorem lsX0_55 : kLS RX0 55 jX0_apartOf 2 := ⟨⟨rfl, w_1276, w_103, ⟨by decide +kernel, by decide +kernel⟩, by decide +kernel⟩, w_1274, w_1275⟩
theorem lsX0_59 : kLS RX0 59 jX0_pennies 4 := ⟨⟨rfl, w_1279, w_103, ⟨by decide +kernel, by decide +kernel⟩, by decide +kernel⟩, w_1277, w_1278⟩
theorem lsX0_35 : kLS RX0 35 jX0_has 2 := ⟨⟨rfl, w_1283, w_103, ⟨by decide +kernel, by decide +kernel⟩, by decide +kernel⟩, w_1281, w_1282⟩
theorem lsX0_69 : kLS RX0 69 jX0_stateOf 2 := ⟨⟨rfl, w_1291, w_103, ⟨by decide +kernel, by decide +kernel⟩, by decide +kernel⟩, w_1289, w_1290⟩
theorem lsX0_72 : kLS RX0 72 jJ9_min_7cf53 2 := ⟨⟨rfl, w_692, w_110, ⟨by decide +kernel, by decide +kernel⟩, by decide +kernel⟩, w_1292, w_691⟩
theorem lvX0_79 : kLV RX0 79 jX0_withTea 4 := ⟨⟨rfl, w_1304, w_103, ⟨by decide +kernel, by decide +kernel⟩, by decide +kernel⟩, w_1301, w_1303, w_44⟩
theorem lvX0_86 : kLV RX0 86 jX0_costWithTea 1 := ⟨⟨rfl, w_1312, w_103, ⟨by decide +kernel, by decide +kernel⟩, by decide +kernel⟩, w_1309, w_1311, w_46⟩
theorem lvX0_75 : kLV RX0 75 jX0_through 5 := ⟨⟨rfl, w_1300, w_103, ⟨by decide +kernel, by decide +kernel⟩, by decide +kernel⟩, w_1297, w_1299, w_43⟩
theorem lvX0_83 : kLV RX0 83 jX0_soonestTea 1 := ⟨⟨rfl, w_1308, w_103, ⟨by decide +kernel, by decide +kernel⟩, by decide +kernel⟩, w_1305, w_1307, w_45⟩
theorem lvX0_31 : kLV RX0 31 jX0_measure 2 := ⟨⟨rfl, w_1273, w_103, ⟨by decide +kernel, by decide +kernel⟩, by decide +kernel⟩, w_1270, w_1272, w_40⟩
theorem lvX0_39 : kLV RX0 39 jX0_weigh 2 := ⟨⟨rfl, w_1287, w_103, ⟨by decide +kernel, by decide +kernel⟩, by decide +kernel⟩, w_1284, w_1286, w_41⟩
theorem lvX0_43 : kLV RX0 43 jX0_choose 1 := ⟨⟨rfl, w_1296, w_103, ⟨by decide +kernel, by decide +kernel⟩, by decide +kernel⟩, w_1293, w_1295, w_42⟩
theorem lvX2_58 : kLV RX2 58 jX2_period 1 := ⟨⟨rfl, w_533, w_96, ⟨by decide +kernel, by decide +kernel⟩, by decide +kernel⟩, w_530, w_531, w_532⟩
theorem lvX2_62 : kLV RX2 62 jX2_fade 1 := ⟨⟨rfl, w_552, w_96, ⟨by decide +kernel, by decide +kernel⟩, by decide +kernel⟩, w_549, w_551, w_0⟩
theorem lsX2_66 : kLS RX2 66 jX2_slope 2 := ⟨⟨rfl, w_555, w_96, ⟨by decide +kernel, by decide +kernel⟩, by decide +kernel⟩, w_553, w_554⟩
theorem lsX2_70 : kLS RX2 70 jX2_arch 2 := ⟨⟨rfl, w_558, w_96, ⟨by decide +kernel, by decide +kernel⟩, by decide +kernel⟩, w_556, w_557⟩
theorem lsX1_56 : kLS RX1 56 jX1_placeOf 2 := ⟨⟨rfl, w_1171, w_102, ⟨by decide +kernel, by decide +kernel⟩, by decide +kernel⟩, w_1169, w_1170⟩
theorem lvX1_63 : kLV RX1 63 jX2_where 2 := ⟨⟨rfl, w_548, w_96, ⟨by decide +kernel, by decide +kernel⟩, by decide +kernel⟩, w_1172, w_546, w_547⟩
theorem lvX1_66 : kLV RX1 66 jX2_shaken 2 := ⟨⟨rfl, w_958, w_96, ⟨by decide +kernel, by decide +kernel⟩, by decide +kernel⟩, w_1177, w_956, w_957⟩
theorem lsX1_69 : kLS RX1 69 jX1_offOf 2 := ⟨⟨rfl, w_1180, w_102, ⟨by decide +kernel, by decide +kernel⟩, by decide +kernel⟩, w_1178, w_1179⟩
theorem lsX1_72 : kLS RX1 72 jJ9_abs_0f7a4 1 := ⟨⟨rfl, w_561, w_110, ⟨by decide +kernel, by decide +kernel⟩, by decide +kernel⟩, w_1181, w_560⟩
theorem lsX1_81 : kLS RX1 81 jX1_figures 1 := ⟨⟨rfl, w_1192, w_102, ⟨by decide +kernel, by decide +kernel⟩, by decide +kernel⟩, w_1190, w_1191⟩
theorem lvX1_78 : kLV RX1 78 jX1_weigh 4 := ⟨⟨rfl, w_1189, w_102, ⟨by decide +kernel, by decide +kernel⟩, by decide +kernel⟩, w_1186, w_1188, w_33⟩
theorem lvX1_21 : kLV RX1 21 jX1_findPlaces 3 := ⟨⟨rfl, w_1168, w_102, ⟨by decide +kernel, by decide +kernel⟩, by decide +kernel⟩, w_1165, w_1167, w_30⟩
theorem lvX1_25 : kLV RX1 25 jX1_findOffs 4 := ⟨⟨rfl, w_1176, w_102, ⟨by decide +kernel, by decide +kernel⟩, by decide +kernel⟩, w_1173, w_1175, w_31⟩
theorem lvX1_47 : kLV RX1 47 jX1_weighAll 4 := ⟨⟨rfl, w_1185, w_102, ⟨by decide +kernel, by decide +kernel⟩, by decide +kernel⟩, w_1182, w_1184, w_32⟩
theorem lvX2_73 : kLV RX2 73 jX2_where 2 := ⟨⟨rfl, w_548, w_96, ⟨by decide +kernel, by decide +kernel⟩, by decide +kernel⟩, w_545, w_546, w_547⟩
theorem lvX1_107 : kLV RX1 107 jX1_isStill 1 := ⟨⟨rfl, w_1223, w_102, ⟨by decide +kernel, by decide +kernel⟩, by decide +kernel⟩, w_1220, w_1222, w_36⟩
theorem lvX1_111 : kLV RX1 111 jX1_isCartsWay 1 := ⟨⟨rfl, w_1227, w_102, ⟨by decide +kernel, by decide +kernel⟩, by decide +kernel⟩, w_1224, w_1226, w_37⟩
theorem lvX1_103 : kLV RX1 103 jX1_modelOf 2 := ⟨⟨rfl, w_1219, w_102, ⟨by decide +kernel, by decide +kernel⟩, by decide +kernel⟩, w_1216, w_1218, w_35⟩
theorem lvX1_84 : kLV RX1 84 jX2_swungTo 2 := ⟨⟨rfl, w_544, w_96, ⟨by decide +kernel, by decide +kernel⟩, by decide +kernel⟩, w_1211, w_542, w_543⟩
theorem lvX1_99 : kLV RX1 99 jX1_tryCart 2 := ⟨⟨rfl, w_1215, w_102, ⟨by decide +kernel, by decide +kernel⟩, by decide +kernel⟩, w_1212, w_1214, w_34⟩
theorem lsX2_39 : kLS RX2 39 jJ7_fill_53178 2 := ⟨⟨rfl, w_177, w_97, ⟨by decide +kernel, by decide +kernel⟩, by decide +kernel⟩, w_175, w_176⟩
theorem lvX2_76 : kLV RX2 76 jX2_shaken 2 := ⟨⟨rfl, w_958, w_96, ⟨by decide +kernel, by decide +kernel⟩, by decide +kernel⟩, w_955, w_956, w_957⟩
theorem lvX2_79 : kLV RX2 79 jX2_penAt 2 := ⟨⟨rfl, w_954, w_96, ⟨by decide +kernel, by decide +kernel⟩, by decide +kernel⟩, w_1066, w_952, w_953⟩
theorem lnX2_82 : kLN RX2 82 jX10_cellOf 2 "PenSwings" := ⟨⟨rfl, w_961, w_94, ⟨by decide +kernel, by decide +kernel⟩, by decide +kernel⟩, w_1067⟩
theorem lnX2_85 : kLN RX2 85 jX10_greatestCommon 2 "PenSwings" := ⟨⟨rfl, w_536, w_94, ⟨by decide +kernel, by decide +kernel⟩, by decide +kernel⟩, w_534⟩
theorem lvX4_37 : kLV RX4 37 jX2_period 1 := ⟨⟨rfl, w_533, w_96, ⟨by decide +kernel, by decide +kernel⟩, by decide +kernel⟩, w_1122, w_531, w_532⟩
theorem lsX4_49 : kLS RX4 49 jJ9_floorMod_7cf53 2 := ⟨⟨rfl, w_1133, w_110, ⟨by decide +kernel, by decide +kernel⟩, by decide +kernel⟩, w_1131, w_1132⟩
theorem lnX4_55 : kLN RX4 55 jX10_greatestCommon 2 "PenSwings" := ⟨⟨rfl, w_536, w_94, ⟨by decide +kernel, by decide +kernel⟩, by decide +kernel⟩, w_1138⟩
theorem lvX4_41 : kLV RX4 41 jX4_findTimes 3 := ⟨⟨rfl, w_1130, w_101, ⟨by decide +kernel, by decide +kernel⟩, by decide +kernel⟩, w_1127, w_1129, w_27⟩
theorem lvX4_45 : kLV RX4 45 jX4_oneTimeForAll 1 := ⟨⟨rfl, w_1137, w_101, ⟨by decide +kernel, by decide +kernel⟩, by decide +kernel⟩, w_1134, w_1136, w_28⟩
theorem lvX4_18 : kLV RX4 18 jX4_pair 1 := ⟨⟨rfl, w_1117, w_101, ⟨by decide +kernel, by decide +kernel⟩, by decide +kernel⟩, w_1114, w_1116, w_24⟩
theorem lvX4_22 : kLV RX4 22 jX4_agree 2 := ⟨⟨rfl, w_1121, w_101, ⟨by decide +kernel, by decide +kernel⟩, by decide +kernel⟩, w_1118, w_1120, w_25⟩
theorem lvX4_26 : kLV RX4 26 jX4_meet 2 := ⟨⟨rfl, w_1126, w_101, ⟨by decide +kernel, by decide +kernel⟩, by decide +kernel⟩, w_1123, w_1125, w_26⟩
theorem lsX5_34 : kLS RX5 34 jJ9_abs_0f7a4 1 := ⟨⟨rfl, w_561, w_110, ⟨by decide +kernel, by decide +kernel⟩, by decide +kernel⟩, w_1243, w_560⟩
theorem lsX5_40 : kLS RX5 40 jX5_unlikeFigures 2 := ⟨⟨rfl, w_1246, w_104, ⟨by decide +kernel, by decide +kernel⟩, by decide +kernel⟩, w_1244, w_1245⟩
theorem lsX5_44 : kLS RX5 44 jJ9_min_7cf53 2 := ⟨⟨rfl, w_692, w_110, ⟨by decide +kernel, by decide +kernel⟩, by decide +kernel⟩, w_1247, w_691⟩
theorem lvX5_21 : kLV RX5 21 jX5_fewestUnlike 2 := ⟨⟨rfl, w_1242, w_104, ⟨by decide +kernel, by decide +kernel⟩, by decide +kernel⟩, w_1239, w_1241, w_38⟩
theorem liX6_11 : kLB RX6 11 jX2_init 0 := ⟨rfl, w_173, w_96, ⟨by decide +kernel, by decide +kernel⟩, by decide +kernel⟩
theorem lvX6_114 : kLV RX6 114 jX2_penAt 2 := ⟨⟨rfl, w_954, w_96, ⟨by decide +kernel, by decide +kernel⟩, by decide +kernel⟩, w_951, w_952, w_953⟩
theorem lnX6_120 : kLN RX6 120 jX10_cellOf 2 "PenSwings" := ⟨⟨rfl, w_961, w_94, ⟨by decide +kernel, by decide +kernel⟩, by decide +kernel⟩, w_959⟩
theorem lnX6_99 : kLN RX6 99 jX10_isCell 1 "PenSwings" := ⟨⟨rfl, w_968, w_94, ⟨by decide +kernel, by decide +kernel⟩, by decide +kernel⟩, w_966⟩
theorem lvX6_92 : kLV RX6 92 jX6_cell 0 := ⟨⟨rfl, w_950, w_100, ⟨by decide +kernel, by decide +kernel⟩, by decide +kernel⟩, w_947, w_948, w_949⟩
theorem lvX6_96 : kLV RX6 96 jX6_mark 1 := ⟨⟨rfl, w_965, w_100, ⟨by decide +kernel, by decide +kernel⟩, by decide +kernel⟩, w_962, w_964, w_14⟩
theorem lsX6_105 : kLS RX6 105 jJ9_min_7cf53 2 := ⟨⟨rfl, w_692, w_110, ⟨by decide +kernel, by decide +kernel⟩, by decide +kernel⟩, w_977, w_691⟩
theorem lsX6_111 : kLS RX6 111 jJ9_max_7cf53 2 := ⟨⟨rfl, w_695, w_110, ⟨by decide +kernel, by decide +kernel⟩, by decide +kernel⟩, w_978, w_694⟩
theorem lvX6_117 : kLV RX6 117 jX2_where 2 := ⟨⟨rfl, w_548, w_96, ⟨by decide +kernel, by decide +kernel⟩, by decide +kernel⟩, w_983, w_546, w_547⟩
theorem lvX6_74 : kLV RX6 74 jX6_draw 1 := ⟨⟨rfl, w_946, w_100, ⟨by decide +kernel, by decide +kernel⟩, by decide +kernel⟩, w_943, w_945, w_13⟩
theorem lvX6_78 : kLV RX6 78 jX6_lift 1 := ⟨⟨rfl, w_972, w_100, ⟨by decide +kernel, by decide +kernel⟩, by decide +kernel⟩, w_969, w_971, w_15⟩
theorem lvX6_84 : kLV RX6 84 jX6_alter 3 := ⟨⟨rfl, w_976, w_100, ⟨by decide +kernel, by decide +kernel⟩, by decide +kernel⟩, w_973, w_975, w_16⟩
theorem lvX6_88 : kLV RX6 88 jX6_holds 1 := ⟨⟨rfl, w_982, w_100, ⟨by decide +kernel, by decide +kernel⟩, by decide +kernel⟩, w_979, w_981, w_17⟩
theorem lvX6_31 : kLV RX6 31 jX2_copy 1 := ⟨⟨rfl, w_825, w_96, ⟨by decide +kernel, by decide +kernel⟩, by decide +kernel⟩, w_936, w_823, w_824⟩
theorem lsX6_35 : kLS RX6 35 jJ7_fill_53178 2 := ⟨⟨rfl, w_177, w_97, ⟨by decide +kernel, by decide +kernel⟩, by decide +kernel⟩, w_937, w_176⟩
theorem lvX6_64 : kLV RX6 64 jX6_goesAside 2 := ⟨⟨rfl, w_942, w_100, ⟨by decide +kernel, by decide +kernel⟩, by decide +kernel⟩, w_939, w_941, w_12⟩
theorem lsX9_43 : kLS RX9 43 jX9_isBlank 1 := ⟨⟨rfl, w_702, w_95, ⟨by decide +kernel, by decide +kernel⟩, by decide +kernel⟩, w_700, w_701⟩
theorem lsX9_53 : kLS RX9 53 jX9_isLetter 1 := ⟨⟨rfl, w_705, w_95, ⟨by decide +kernel, by decide +kernel⟩, by decide +kernel⟩, w_703, w_704⟩
theorem lsX9_56 : kLS RX9 56 jX9_isDigit 1 := ⟨⟨rfl, w_708, w_95, ⟨by decide +kernel, by decide +kernel⟩, by decide +kernel⟩, w_706, w_707⟩
theorem lvJ0_335 : kLV RJ0 335 jJ0_coder_7d493 0 := ⟨⟨rfl, w_732, w_112, ⟨by decide +kernel, by decide +kernel⟩, by decide +kernel⟩, w_729, w_730, w_731⟩
theorem lsJ0_1059 : kLS RJ0 1059 jJ3_checkIndex_8e157 3 := ⟨⟨rfl, w_753, w_114, ⟨by decide +kernel, by decide +kernel⟩, by decide +kernel⟩, w_751, w_752⟩
theorem lsJ1_9 : kLS RJ1 9 jJ0_checkIndex_df160 2 := ⟨⟨rfl, w_748, w_112, ⟨by decide +kernel, by decide +kernel⟩, by decide +kernel⟩, w_746, w_747⟩
theorem lsJ2_48 : kLS RJ2 48 jJ2_length_9d52b 1 := ⟨⟨rfl, w_762, w_115, ⟨by decide +kernel, by decide +kernel⟩, by decide +kernel⟩, w_760, w_761⟩
theorem lsJ2_414 : kLS RJ2 414 jJ0_checkIndex_df160 2 := ⟨⟨rfl, w_748, w_112, ⟨by decide +kernel, by decide +kernel⟩, by decide +kernel⟩, w_763, w_747⟩
theorem lsJ2_67 : kLS RJ2 67 jJ2_checkIndex_2214a 2 := ⟨⟨rfl, w_759, w_115, ⟨by decide +kernel, by decide +kernel⟩, by decide +kernel⟩, w_757, w_758⟩
theorem lsJ2_71 : kLS RJ2 71 jJ2_getChar_3b067 2 := ⟨⟨rfl, w_766, w_115, ⟨by decide +kernel, by decide +kernel⟩, by decide +kernel⟩, w_764, w_765⟩
theorem lvJ0_492 : kLV RJ0 492 jJ0_isLatin1_aae02 0 := ⟨⟨rfl, w_742, w_112, ⟨by decide +kernel, by decide +kernel⟩, by decide +kernel⟩, w_739, w_740, w_741⟩
theorem lsJ0_495 : kLS RJ0 495 jJ1_charAt_3b067 2 := ⟨⟨rfl, w_745, w_113, ⟨by decide +kernel, by decide +kernel⟩, by decide +kernel⟩, w_743, w_744⟩
theorem lsJ0_498 : kLS RJ0 498 jJ2_charAt_3b067 2 := ⟨⟨rfl, w_756, w_115, ⟨by decide +kernel, by decide +kernel⟩, by decide +kernel⟩, w_754, w_755⟩
theorem lvX9_62 : kLV RX9 62 jJ0_length_8abf5 0 := ⟨⟨rfl, w_728, w_112, ⟨by decide +kernel, by decide +kernel⟩, by decide +kernel⟩, w_725, w_726, w_727⟩
theorem lvX9_67 : kLV RX9 67 jJ0_charAt_5068e 1 := ⟨⟨rfl, w_738, w_112, ⟨by decide +kernel, by decide +kernel⟩, by decide +kernel⟩, w_735, w_736, w_737⟩
theorem lvX9_71 : kLV RX9 71 jX9_isSign 1 := ⟨⟨rfl, w_813, w_95, ⟨by decide +kernel, by decide +kernel⟩, by decide +kernel⟩, w_810, w_811, w_812⟩
theorem lvX9_75 : kLV RX9 75 jX9_refuse 1 := ⟨⟨rfl, w_776, w_95, ⟨by decide +kernel, by decide +kernel⟩, by decide +kernel⟩, w_798, w_774, w_775⟩
theorem lvX9_40 : kLV RX9 40 jX9_advance 0 := ⟨⟨rfl, w_699, w_95, ⟨by decide +kernel, by decide +kernel⟩, by decide +kernel⟩, w_696, w_697, w_698⟩
theorem lvX7_119 : kLV RX7 119 jX9_takeSign 1 := ⟨⟨rfl, w_821, w_95, ⟨by decide +kernel, by decide +kernel⟩, by decide +kernel⟩, w_868, w_819, w_820⟩
theorem lvX7_62 : kLV RX7 62 jX9_advance 0 := ⟨⟨rfl, w_699, w_95, ⟨by decide +kernel, by decide +kernel⟩, by decide +kernel⟩, w_856, w_697, w_698⟩
theorem lvX7_81 : kLV RX7 81 jX9_isWord 1 := ⟨⟨rfl, w_724, w_95, ⟨by decide +kernel, by decide +kernel⟩, by decide +kernel⟩, w_858, w_722, w_723⟩
theorem lvX7_59 : kLV RX7 59 jX7_addStep 1 := ⟨⟨rfl, w_862, w_99, ⟨by decide +kernel, by decide +kernel⟩, by decide +kernel⟩, w_859, w_861, w_6⟩
theorem lvX7_51 : kLV RX7 51 jX9_refuse 1 := ⟨⟨rfl, w_776, w_95, ⟨by decide +kernel, by decide +kernel⟩, by decide +kernel⟩, w_863, w_774, w_775⟩
theorem lvX7_73 : kLV RX7 73 jX7_openBlock 1 := ⟨⟨rfl, w_867, w_99, ⟨by decide +kernel, by decide +kernel⟩, by decide +kernel⟩, w_864, w_866, w_7⟩
theorem lvX7_96 : kLV RX7 96 jX9_takeNumber 2 := ⟨⟨rfl, w_797, w_95, ⟨by decide +kernel, by decide +kernel⟩, by decide +kernel⟩, w_887, w_795, w_796⟩
theorem lvX9_81 : kLV RX9 81 jX9_takeNumber 2 := ⟨⟨rfl, w_797, w_95, ⟨by decide +kernel, by decide +kernel⟩, by decide +kernel⟩, w_814, w_795, w_796⟩
theorem lvX7_65 : kLV RX7 65 jX7_readNumber 3 := ⟨⟨rfl, w_886, w_99, ⟨by decide +kernel, by decide +kernel⟩, by decide +kernel⟩, w_883, w_885, w_9⟩
theorem lvX7_103 : kLV RX7 103 jX9_takeSigned 1 := ⟨⟨rfl, w_809, w_95, ⟨by decide +kernel, by decide +kernel⟩, by decide +kernel⟩, w_892, w_807, w_808⟩
theorem lsX7_108 : kLS RX7 108 jX7_testTold 1 := ⟨⟨rfl, w_900, w_99, ⟨by decide +kernel, by decide +kernel⟩, by decide +kernel⟩, w_898, w_899⟩
theorem lsX7_55 : kLS RX7 55 jX7_verbTold 1 := ⟨⟨rfl, w_875, w_99, ⟨by decide +kernel, by decide +kernel⟩, by decide +kernel⟩, w_873, w_874⟩
theorem lvX7_69 : kLV RX7 69 jX7_readChange 2 := ⟨⟨rfl, w_891, w_99, ⟨by decide +kernel, by decide +kernel⟩, by decide +kernel⟩, w_888, w_890, w_10⟩
theorem lvX7_76 : kLV RX7 76 jX7_readTest 1 := ⟨⟨rfl, w_896, w_99, ⟨by decide +kernel, by decide +kernel⟩, by decide +kernel⟩, w_893, w_895, w_11⟩
theorem lvX7_36 : kLV RX7 36 jX9_isEnd 0 := ⟨⟨rfl, w_719, w_95, ⟨by decide +kernel, by decide +kernel⟩, by decide +kernel⟩, w_850, w_717, w_718⟩
theorem lvX7_40 : kLV RX7 40 jX9_isSign 1 := ⟨⟨rfl, w_813, w_95, ⟨by decide +kernel, by decide +kernel⟩, by decide +kernel⟩, w_851, w_811, w_812⟩
theorem lvX7_44 : kLV RX7 44 jX7_closeBlock 1 := ⟨⟨rfl, w_855, w_99, ⟨by decide +kernel, by decide +kernel⟩, by decide +kernel⟩, w_852, w_854, w_5⟩
theorem lvX7_48 : kLV RX7 48 jX7_readAct 1 := ⟨⟨rfl, w_872, w_99, ⟨by decide +kernel, by decide +kernel⟩, by decide +kernel⟩, w_869, w_871, w_8⟩
theorem lvX8_22 : kLV RX8 22 jX9_isWord 1 := ⟨⟨rfl, w_724, w_95, ⟨by decide +kernel, by decide +kernel⟩, by decide +kernel⟩, w_721, w_722, w_723⟩
theorem lvX8_91 : kLV RX8 91 jX9_takeNumber 2 := ⟨⟨rfl, w_797, w_95, ⟨by decide +kernel, by decide +kernel⟩, by decide +kernel⟩, w_794, w_795, w_796⟩
theorem lvX8_26 : kLV RX8 26 jX9_refuse 1 := ⟨⟨rfl, w_776, w_95, ⟨by decide +kernel, by decide +kernel⟩, by decide +kernel⟩, w_773, w_774, w_775⟩
theorem lvX8_57 : kLV RX8 57 jX9_advance 0 := ⟨⟨rfl, w_699, w_95, ⟨by decide +kernel, by decide +kernel⟩, by decide +kernel⟩, w_784, w_697, w_698⟩
theorem lsX8_60 : kLS RX8 60 jX8_kindTold 1 := ⟨⟨rfl, w_787, w_111, ⟨by decide +kernel, by decide +kernel⟩, by decide +kernel⟩, w_785, w_786⟩
theorem lsX8_71 : kLS RX8 71 jX8_readInto 5 := ⟨⟨rfl, w_793, w_111, ⟨by decide +kernel, by decide +kernel⟩, by decide +kernel⟩, w_791, w_792⟩
theorem lsX8_81 : kLS RX8 81 jX8_countPendulum 1 := ⟨⟨rfl, w_801, w_111, ⟨by decide +kernel, by decide +kernel⟩, by decide +kernel⟩, w_799, w_800⟩
theorem lvX8_104 : kLV RX8 104 jX9_takeSigned 1 := ⟨⟨rfl, w_809, w_95, ⟨by decide +kernel, by decide +kernel⟩, by decide +kernel⟩, w_806, w_807, w_808⟩
theorem lsX8_42 : kLS RX8 42 jX8_readPendulum 2 := ⟨⟨rfl, w_783, w_111, ⟨by decide +kernel, by decide +kernel⟩, by decide +kernel⟩, w_781, w_782⟩
theorem lsX8_47 : kLS RX8 47 jX8_readCart 2 := ⟨⟨rfl, w_805, w_111, ⟨by decide +kernel, by decide +kernel⟩, by decide +kernel⟩, w_803, w_804⟩
theorem lsX8_50 : kLS RX8 50 jX8_readPennies 2 := ⟨⟨rfl, w_817, w_111, ⟨by decide +kernel, by decide +kernel⟩, by decide +kernel⟩, w_815, w_816⟩
theorem lvX8_9 : kLV RX8 9 jX2_clear 0 := ⟨⟨rfl, w_715, w_96, ⟨by decide +kernel, by decide +kernel⟩, by decide +kernel⟩, w_712, w_713, w_714⟩
theorem lvX8_16 : kLV RX8 16 jX9_isEnd 0 := ⟨⟨rfl, w_719, w_95, ⟨by decide +kernel, by decide +kernel⟩, by decide +kernel⟩, w_716, w_717, w_718⟩
theorem lsX8_30 : kLS RX8 30 jX8_readLine 2 := ⟨⟨rfl, w_779, w_111, ⟨by decide +kernel, by decide +kernel⟩, by decide +kernel⟩, w_777, w_778⟩
theorem lvX8_36 : kLV RX8 36 jX9_takeSign 1 := ⟨⟨rfl, w_821, w_95, ⟨by decide +kernel, by decide +kernel⟩, by decide +kernel⟩, w_818, w_819, w_820⟩
theorem lsX9_22 : kLS RX9 22 jJ9_min_7cf53 2 := ⟨⟨rfl, w_692, w_110, ⟨by decide +kernel, by decide +kernel⟩, by decide +kernel⟩, w_690, w_691⟩
theorem lsX9_28 : kLS RX9 28 jJ9_max_7cf53 2 := ⟨⟨rfl, w_695, w_110, ⟨by decide +kernel, by decide +kernel⟩, by decide +kernel⟩, w_693, w_694⟩
theorem lnX10_11 : kLN RX10 11 jX9_init 0 "PenSwings" := ⟨⟨rfl, w_130, w_95, ⟨by decide +kernel, by decide +kernel⟩, by decide +kernel⟩, w_128⟩
theorem liX10_18 : kLB RX10 18 jX2_init 0 := ⟨rfl, w_173, w_96, ⟨by decide +kernel, by decide +kernel⟩, by decide +kernel⟩
theorem lnX10_31 : kLN RX10 31 jX3_init 0 "PenSwings" := ⟨⟨rfl, w_235, w_98, ⟨by decide +kernel, by decide +kernel⟩, by decide +kernel⟩, w_233⟩
theorem lnX10_45 : kLN RX10 45 jX7_init 0 "PenSwings" := ⟨⟨rfl, w_276, w_99, ⟨by decide +kernel, by decide +kernel⟩, by decide +kernel⟩, w_274⟩
theorem lnX10_55 : kLN RX10 55 jX6_init 0 "PenSwings" := ⟨⟨rfl, w_310, w_100, ⟨by decide +kernel, by decide +kernel⟩, by decide +kernel⟩, w_308⟩
theorem lnX10_62 : kLN RX10 62 jX4_init 0 "PenSwings" := ⟨⟨rfl, w_351, w_101, ⟨by decide +kernel, by decide +kernel⟩, by decide +kernel⟩, w_349⟩
theorem lnX10_69 : kLN RX10 69 jX1_init 0 "PenSwings" := ⟨⟨rfl, w_364, w_102, ⟨by decide +kernel, by decide +kernel⟩, by decide +kernel⟩, w_362⟩
theorem lnX10_76 : kLN RX10 76 jX0_init 0 "PenSwings" := ⟨⟨rfl, w_412, w_103, ⟨by decide +kernel, by decide +kernel⟩, by decide +kernel⟩, w_410⟩
theorem lnX10_83 : kLN RX10 83 jX5_init 0 "PenSwings" := ⟨⟨rfl, w_440, w_104, ⟨by decide +kernel, by decide +kernel⟩, by decide +kernel⟩, w_438⟩
theorem lvX10_99 : kLV RX10 99 jX9_hasRoom 0 := ⟨⟨rfl, w_513, w_95, ⟨by decide +kernel, by decide +kernel⟩, by decide +kernel⟩, w_510, w_511, w_512⟩
theorem lvX10_103 : kLV RX10 103 jX9_lay 1 := ⟨⟨rfl, w_517, w_95, ⟨by decide +kernel, by decide +kernel⟩, by decide +kernel⟩, w_514, w_515, w_516⟩
theorem lvX10_110 : kLV RX10 110 jX10_needBytes 1 := ⟨⟨rfl, w_619, w_94, ⟨by decide +kernel, by decide +kernel⟩, by decide +kernel⟩, w_616, w_618, w_2⟩
theorem lvX10_113 : kLV RX10 113 jX9_begin 1 := ⟨⟨rfl, w_689, w_95, ⟨by decide +kernel, by decide +kernel⟩, by decide +kernel⟩, w_686, w_687, w_688⟩
theorem lsX10_116 : kLS RX10 116 jX8_read 2 := ⟨⟨rfl, w_711, w_111, ⟨by decide +kernel, by decide +kernel⟩, by decide +kernel⟩, w_709, w_710⟩
theorem lvX10_122 : kLV RX10 122 jX2_copy 1 := ⟨⟨rfl, w_825, w_96, ⟨by decide +kernel, by decide +kernel⟩, by decide +kernel⟩, w_822, w_823, w_824⟩
theorem lvX10_126 : kLV RX10 126 jX3_clear 0 := ⟨⟨rfl, w_830, w_98, ⟨by decide +kernel, by decide +kernel⟩, by decide +kernel⟩, w_827, w_828, w_829⟩
theorem lvX10_132 : kLV RX10 132 jX0_clear 0 := ⟨⟨rfl, w_834, w_103, ⟨by decide +kernel, by decide +kernel⟩, by decide +kernel⟩, w_831, w_832, w_833⟩
theorem lvX10_133 : kLV RX10 133 jX10_endOfText 0 := ⟨⟨rfl, w_838, w_94, ⟨by decide +kernel, by decide +kernel⟩, by decide +kernel⟩, w_835, w_837, w_4⟩
theorem lvX10_137 : kLV RX10 137 jX7_read 1 := ⟨⟨rfl, w_849, w_99, ⟨by decide +kernel, by decide +kernel⟩, by decide +kernel⟩, w_846, w_847, w_848⟩
theorem lsX10_140 : kLS RX10 140 jX10_needWhat 2 := ⟨⟨rfl, w_915, w_94, ⟨by decide +kernel, by decide +kernel⟩, by decide +kernel⟩, w_913, w_914⟩
theorem lvX10_144 : kLV RX10 144 jX6_play 3 := ⟨⟨rfl, w_935, w_100, ⟨by decide +kernel, by decide +kernel⟩, by decide +kernel⟩, w_932, w_933, w_934⟩
theorem lvX10_160 : kLV RX10 160 jX6_cell 0 := ⟨⟨rfl, w_950, w_100, ⟨by decide +kernel, by decide +kernel⟩, by decide +kernel⟩, w_984, w_948, w_949⟩
theorem lsX10_369 : kLS RX10 369 jX10_isCell 1 := ⟨⟨rfl, w_968, w_94, ⟨by decide +kernel, by decide +kernel⟩, by decide +kernel⟩, w_995, w_967⟩
theorem lsX10_163 : kLS RX10 163 jX10_needCell 1 := ⟨⟨rfl, w_994, w_94, ⟨by decide +kernel, by decide +kernel⟩, by decide +kernel⟩, w_992, w_993⟩
theorem lsX10_187 : kLS RX10 187 jX10_needPendulum 1 := ⟨⟨rfl, w_1013, w_94, ⟨by decide +kernel, by decide +kernel⟩, by decide +kernel⟩, w_1011, w_1012⟩
theorem lvX10_202 : kLV RX10 202 jX2_period 1 := ⟨⟨rfl, w_533, w_96, ⟨by decide +kernel, by decide +kernel⟩, by decide +kernel⟩, w_1015, w_531, w_532⟩
theorem lsX10_206 : kLS RX10 206 jX10_mostOfSetting 1 := ⟨⟨rfl, w_1025, w_94, ⟨by decide +kernel, by decide +kernel⟩, by decide +kernel⟩, w_1023, w_1024⟩
theorem lvX10_209 : kLV RX10 209 jX10_refuse 1 := ⟨⟨rfl, w_569, w_94, ⟨by decide +kernel, by decide +kernel⟩, by decide +kernel⟩, w_566, w_568, w_1⟩
theorem lsX10_274 : kLS RX10 274 jX10_isTick 1 := ⟨⟨rfl, w_579, w_94, ⟨by decide +kernel, by decide +kernel⟩, by decide +kernel⟩, w_577, w_578⟩
theorem lsX10_212 : kLS RX10 212 jX10_needTick 1 := ⟨⟨rfl, w_1035, w_94, ⟨by decide +kernel, by decide +kernel⟩, by decide +kernel⟩, w_1033, w_1034⟩
theorem lvX10_215 : kLV RX10 215 jX2_where 2 := ⟨⟨rfl, w_548, w_96, ⟨by decide +kernel, by decide +kernel⟩, by decide +kernel⟩, w_1037, w_546, w_547⟩
theorem lvX10_219 : kLV RX10 219 jX2_penAt 2 := ⟨⟨rfl, w_954, w_96, ⟨by decide +kernel, by decide +kernel⟩, by decide +kernel⟩, w_1045, w_952, w_953⟩
theorem lvX10_238 : kLV RX10 238 jX2_cellAt 1 := ⟨⟨rfl, w_1065, w_96, ⟨by decide +kernel, by decide +kernel⟩, by decide +kernel⟩, w_1062, w_1063, w_1064⟩
theorem lsX10_222 : kLS RX10 222 jX10_needSpan 2 := ⟨⟨rfl, w_1055, w_94, ⟨by decide +kernel, by decide +kernel⟩, by decide +kernel⟩, w_1053, w_1054⟩
theorem lsX10_225 : kLS RX10 225 jJ7_fill_53178 2 := ⟨⟨rfl, w_177, w_97, ⟨by decide +kernel, by decide +kernel⟩, by decide +kernel⟩, w_1057, w_176⟩
theorem lvX10_231 : kLV RX10 231 jX10_markSeen 4 := ⟨⟨rfl, w_1061, w_94, ⟨by decide +kernel, by decide +kernel⟩, by decide +kernel⟩, w_1058, w_1060, w_18⟩
theorem lvX10_235 : kLV RX10 235 jX10_cellsSeen 1 := ⟨⟨rfl, w_1071, w_94, ⟨by decide +kernel, by decide +kernel⟩, by decide +kernel⟩, w_1068, w_1070, w_19⟩
theorem lvX10_241 : kLV RX10 241 jX2_ticksRound 0 := ⟨⟨rfl, w_529, w_96, ⟨by decide +kernel, by decide +kernel⟩, by decide +kernel⟩, w_526, w_527, w_528⟩
theorem lvX10_244 : kLV RX10 244 jX2_swungTo 2 := ⟨⟨rfl, w_544, w_96, ⟨by decide +kernel, by decide +kernel⟩, by decide +kernel⟩, w_541, w_542, w_543⟩
theorem lsX10_247 : kLS RX10 247 jJ9_abs_0f7a4 1 := ⟨⟨rfl, w_561, w_110, ⟨by decide +kernel, by decide +kernel⟩, by decide +kernel⟩, w_559, w_560⟩
theorem lvX10_261 : kLV RX10 261 jX10_needPortrait 1 := ⟨⟨rfl, w_1089, w_94, ⟨by decide +kernel, by decide +kernel⟩, by decide +kernel⟩, w_1086, w_1088, w_20⟩
theorem lvX10_264 : kLV RX10 264 jX10_takeInto 2 := ⟨⟨rfl, w_1094, w_94, ⟨by decide +kernel, by decide +kernel⟩, by decide +kernel⟩, w_1091, w_1093, w_21⟩
theorem lvX10_362 : kLV RX10 362 jX10_copyWith 2 := ⟨⟨rfl, w_1109, w_94, ⟨by decide +kernel, by decide +kernel⟩, by decide +kernel⟩, w_1106, w_1108, w_23⟩
theorem lvX10_365 : kLV RX10 365 jX4_joins 2 := ⟨⟨rfl, w_1113, w_101, ⟨by decide +kernel, by decide +kernel⟩, by decide +kernel⟩, w_1110, w_1111, w_1112⟩
theorem lvX10_268 : kLV RX10 268 jX10_compare 2 := ⟨⟨rfl, w_1105, w_94, ⟨by decide +kernel, by decide +kernel⟩, by decide +kernel⟩, w_1102, w_1104, w_22⟩
theorem lvX10_271 : kLV RX10 271 jX10_leastOfKind 1 := ⟨⟨rfl, w_1149, w_94, ⟨by decide +kernel, by decide +kernel⟩, by decide +kernel⟩, w_1146, w_1148, w_29⟩
theorem lsX10_278 : kLS RX10 278 jX10_isPlace 1 := ⟨⟨rfl, w_582, w_94, ⟨by decide +kernel, by decide +kernel⟩, by decide +kernel⟩, w_580, w_581⟩
theorem lsX10_284 : kLS RX10 284 jX10_needWithin 3 := ⟨⟨rfl, w_1159, w_94, ⟨by decide +kernel, by decide +kernel⟩, by decide +kernel⟩, w_1157, w_1158⟩
theorem lvX10_288 : kLV RX10 288 jX1_findRows 4 := ⟨⟨rfl, w_1164, w_102, ⟨by decide +kernel, by decide +kernel⟩, by decide +kernel⟩, w_1161, w_1162, w_1163⟩
theorem lvX10_304 : kLV RX10 304 jX1_findCart 2 := ⟨⟨rfl, w_1210, w_102, ⟨by decide +kernel, by decide +kernel⟩, by decide +kernel⟩, w_1207, w_1208, w_1209⟩
theorem lvX10_323 : kLV RX10 323 jX5_findBest 2 := ⟨⟨rfl, w_1238, w_104, ⟨by decide +kernel, by decide +kernel⟩, by decide +kernel⟩, w_1235, w_1236, w_1237⟩
theorem lvX10_333 : kLV RX10 333 jX10_markPortrait 4 := ⟨⟨rfl, w_1258, w_94, ⟨by decide +kernel, by decide +kernel⟩, by decide +kernel⟩, w_1255, w_1257, w_39⟩
theorem lvX10_337 : kLV RX10 337 jX0_make 3 := ⟨⟨rfl, w_1269, w_103, ⟨by decide +kernel, by decide +kernel⟩, by decide +kernel⟩, w_1266, w_1267, w_1268⟩
theorem lvX10_356 : kLV RX10 356 jX3_copy 1 := ⟨⟨rfl, w_602, w_98, ⟨by decide +kernel, by decide +kernel⟩, by decide +kernel⟩, w_599, w_600, w_601⟩
theorem lvX11_119 : kLV RX11 119 jX11_lays 1 := ⟨⟨rfl, w_1522, w_105, ⟨by decide +kernel, by decide +kernel⟩, by decide +kernel⟩, w_1519, w_1521, w_47⟩
theorem lvX11_129 : kLV RX11 129 jX11_byteAt 1 := ⟨⟨rfl, w_1538, w_105, ⟨by decide +kernel, by decide +kernel⟩, by decide +kernel⟩, w_1535, w_1537, w_50⟩
theorem lsX11_149 : kLS RX11 149 jX11_isLetter 1 := ⟨⟨rfl, w_1541, w_105, ⟨by decide +kernel, by decide +kernel⟩, by decide +kernel⟩, w_1539, w_1540⟩
theorem lsX11_153 : kLS RX11 153 jX11_isDigit 1 := ⟨⟨rfl, w_1544, w_105, ⟨by decide +kernel, by decide +kernel⟩, by decide +kernel⟩, w_1542, w_1543⟩
theorem lsX11_161 : kLS RX11 161 jX11_spelled 8 := ⟨⟨rfl, w_1562, w_105, ⟨by decide +kernel, by decide +kernel⟩, by decide +kernel⟩, w_1560, w_1561⟩
theorem lsX11_165 : kLS RX11 165 jX11_letters 1 := ⟨⟨rfl, w_1559, w_105, ⟨by decide +kernel, by decide +kernel⟩, by decide +kernel⟩, w_1557, w_1558⟩
theorem lvX11_172 : kLV RX11 172 jX11_isGood 0 := ⟨⟨rfl, w_1548, w_105, ⟨by decide +kernel, by decide +kernel⟩, by decide +kernel⟩, w_1545, w_1547, w_51⟩
theorem lvX11_176 : kLV RX11 176 jX11_steps 0 := ⟨⟨rfl, w_1534, w_105, ⟨by decide +kernel, by decide +kernel⟩, by decide +kernel⟩, w_1531, w_1533, w_49⟩
theorem lvX11_179 : kLV RX11 179 jX11_wrong 1 := ⟨⟨rfl, w_1571, w_105, ⟨by decide +kernel, by decide +kernel⟩, by decide +kernel⟩, w_1568, w_1570, w_55⟩
theorem lvX11_182 : kLV RX11 182 jX11_number 2 := ⟨⟨rfl, w_1579, w_105, ⟨by decide +kernel, by decide +kernel⟩, by decide +kernel⟩, w_1576, w_1578, w_57⟩
theorem lvX11_189 : kLV RX11 189 jX11_is 1 := ⟨⟨rfl, w_1556, w_105, ⟨by decide +kernel, by decide +kernel⟩, by decide +kernel⟩, w_1553, w_1555, w_53⟩
theorem lvX11_192 : kLV RX11 192 jX11_need 1 := ⟨⟨rfl, w_1575, w_105, ⟨by decide +kernel, by decide +kernel⟩, by decide +kernel⟩, w_1572, w_1574, w_56⟩
theorem lvX11_196 : kLV RX11 196 jX11_readsPendulum 0 := ⟨⟨rfl, w_1567, w_105, ⟨by decide +kernel, by decide +kernel⟩, by decide +kernel⟩, w_1564, w_1566, w_54⟩
theorem lvX11_202 : kLV RX11 202 jX11_signed 1 := ⟨⟨rfl, w_1583, w_105, ⟨by decide +kernel, by decide +kernel⟩, by decide +kernel⟩, w_1580, w_1582, w_58⟩
theorem lvX11_209 : kLV RX11 209 jX11_right 2 := ⟨⟨rfl, w_1530, w_105, ⟨by decide +kernel, by decide +kernel⟩, by decide +kernel⟩, w_1527, w_1529, w_48⟩
theorem lvX11_213 : kLV RX11 213 jX11_line 0 := ⟨⟨rfl, w_1552, w_105, ⟨by decide +kernel, by decide +kernel⟩, by decide +kernel⟩, w_1549, w_1551, w_52⟩
theorem lvX11_222 : kLV RX11 222 jX11_copies 2 := ⟨⟨rfl, w_1587, w_105, ⟨by decide +kernel, by decide +kernel⟩, by decide +kernel⟩, w_1584, w_1586, w_59⟩
theorem lsX11_238 : kLS RX11 238 jX11_within 3 := ⟨⟨rfl, w_1598, w_105, ⟨by decide +kernel, by decide +kernel⟩, by decide +kernel⟩, w_1596, w_1597⟩
theorem lvX11_242 : kLV RX11 242 jX11_isPendulum 1 := ⟨⟨rfl, w_1606, w_105, ⟨by decide +kernel, by decide +kernel⟩, by decide +kernel⟩, w_1603, w_1605, w_60⟩
theorem lvX11_245 : kLV RX11 245 jX11_period 3 := ⟨⟨rfl, w_1610, w_105, ⟨by decide +kernel, by decide +kernel⟩, by decide +kernel⟩, w_1607, w_1609, w_61⟩
theorem lvX11_249 : kLV RX11 249 jX11_refuses 1 := ⟨⟨rfl, w_1618, w_105, ⟨by decide +kernel, by decide +kernel⟩, by decide +kernel⟩, w_1615, w_1617, w_62⟩
theorem lvX11_252 : kLV RX11 252 jX11_at 4 := ⟨⟨rfl, w_1630, w_105, ⟨by decide +kernel, by decide +kernel⟩, by decide +kernel⟩, w_1627, w_1629, w_64⟩
theorem lvX11_256 : kLV RX11 256 jX11_penOf 4 := ⟨⟨rfl, w_1642, w_105, ⟨by decide +kernel, by decide +kernel⟩, by decide +kernel⟩, w_1639, w_1641, w_66⟩
theorem lvX11_259 : kLV RX11 259 jX11_isTick 2 := ⟨⟨rfl, w_1626, w_105, ⟨by decide +kernel, by decide +kernel⟩, by decide +kernel⟩, w_1623, w_1625, w_63⟩
theorem lvX11_263 : kLV RX11 263 jX11_penNow 2 := ⟨⟨rfl, w_1638, w_105, ⟨by decide +kernel, by decide +kernel⟩, by decide +kernel⟩, w_1635, w_1637, w_65⟩
theorem lvX11_266 : kLV RX11 266 jX11_isSpan 3 := ⟨⟨rfl, w_1650, w_105, ⟨by decide +kernel, by decide +kernel⟩, by decide +kernel⟩, w_1647, w_1649, w_67⟩
theorem lvX11_269 : kLV RX11 269 jX11_clears 0 := ⟨⟨rfl, w_1654, w_105, ⟨by decide +kernel, by decide +kernel⟩, by decide +kernel⟩, w_1651, w_1653, w_68⟩
theorem lsX11_272 : kLS RX11 272 jX11_cellOf 2 := ⟨⟨rfl, w_1657, w_105, ⟨by decide +kernel, by decide +kernel⟩, by decide +kernel⟩, w_1655, w_1656⟩
theorem lvX11_275 : kLV RX11 275 jX11_roundOf 2 := ⟨⟨rfl, w_1669, w_105, ⟨by decide +kernel, by decide +kernel⟩, by decide +kernel⟩, w_1666, w_1668, w_69⟩
theorem lsX11_279 : kLS RX11 279 jX11_size 1 := ⟨⟨rfl, w_1676, w_105, ⟨by decide +kernel, by decide +kernel⟩, by decide +kernel⟩, w_1674, w_1675⟩
theorem lvX11_282 : kLV RX11 282 jX11_isPortrait 1 := ⟨⟨rfl, w_1688, w_105, ⟨by decide +kernel, by decide +kernel⟩, by decide +kernel⟩, w_1685, w_1687, w_70⟩
theorem lsX11_285 : kLS RX11 285 jX11_becomes 2 := ⟨⟨rfl, w_1703, w_105, ⟨by decide +kernel, by decide +kernel⟩, by decide +kernel⟩, w_1701, w_1702⟩
theorem lvX11_288 : kLV RX11 288 jX11_sizeOf 2 := ⟨⟨rfl, w_1707, w_105, ⟨by decide +kernel, by decide +kernel⟩, by decide +kernel⟩, w_1704, w_1706, w_73⟩
theorem lvX11_291 : kLV RX11 291 jX11_isWay 3 := ⟨⟨rfl, w_1700, w_105, ⟨by decide +kernel, by decide +kernel⟩, by decide +kernel⟩, w_1697, w_1699, w_72⟩
theorem lvX11_294 : kLV RX11 294 jX11_isTime 5 := ⟨⟨rfl, w_1711, w_105, ⟨by decide +kernel, by decide +kernel⟩, by decide +kernel⟩, w_1708, w_1710, w_74⟩
theorem lvX11_298 : kLV RX11 298 jX11_alikeOf 2 := ⟨⟨rfl, w_1696, w_105, ⟨by decide +kernel, by decide +kernel⟩, by decide +kernel⟩, w_1693, w_1695, w_71⟩
theorem lvX11_301 : kLV RX11 301 jX11_offOf 1 := ⟨⟨rfl, w_1731, w_105, ⟨by decide +kernel, by decide +kernel⟩, by decide +kernel⟩, w_1728, w_1730, w_75⟩
theorem lvX11_304 : kLV RX11 304 jX11_wayOf 2 := ⟨⟨rfl, w_1747, w_105, ⟨by decide +kernel, by decide +kernel⟩, by decide +kernel⟩, w_1744, w_1746, w_77⟩
theorem lvX11_307 : kLV RX11 307 jX11_shows 1 := ⟨⟨rfl, w_1743, w_105, ⟨by decide +kernel, by decide +kernel⟩, by decide +kernel⟩, w_1740, w_1742, w_76⟩
theorem lsX11_310 : kLS RX11 310 jX11_unlike 2 := ⟨⟨rfl, w_1766, w_105, ⟨by decide +kernel, by decide +kernel⟩, by decide +kernel⟩, w_1764, w_1765⟩
theorem lvX11_313 : kLV RX11 313 jX11_fewest 1 := ⟨⟨rfl, w_1763, w_105, ⟨by decide +kernel, by decide +kernel⟩, by decide +kernel⟩, w_1760, w_1762, w_78⟩
theorem lvX11_316 : kLV RX11 316 jX11_moved 2 := ⟨⟨rfl, w_1782, w_105, ⟨by decide +kernel, by decide +kernel⟩, by decide +kernel⟩, w_1779, w_1781, w_80⟩
theorem lvX11_319 : kLV RX11 319 jX11_allMoved 2 := ⟨⟨rfl, w_1778, w_105, ⟨by decide +kernel, by decide +kernel⟩, by decide +kernel⟩, w_1775, w_1777, w_79⟩
theorem lvX11_325 : kLV RX11 325 jX11_countsUp 1 := ⟨⟨rfl, w_1786, w_105, ⟨by decide +kernel, by decide +kernel⟩, by decide +kernel⟩, w_1783, w_1785, w_81⟩
theorem lvX11_331 : kLV RX11 331 jX11_isSign 1 := ⟨⟨rfl, w_1798, w_105, ⟨by decide +kernel, by decide +kernel⟩, by decide +kernel⟩, w_1795, w_1797, w_82⟩
theorem lvX11_337 : kLV RX11 337 jX11_puts 1 := ⟨⟨rfl, w_1806, w_105, ⟨by decide +kernel, by decide +kernel⟩, by decide +kernel⟩, w_1803, w_1805, w_84⟩
theorem lvX11_340 : kLV RX11 340 jX11_opens 2 := ⟨⟨rfl, w_1810, w_105, ⟨by decide +kernel, by decide +kernel⟩, by decide +kernel⟩, w_1807, w_1809, w_85⟩
theorem lvX11_344 : kLV RX11 344 jX11_test 0 := ⟨⟨rfl, w_1818, w_105, ⟨by decide +kernel, by decide +kernel⟩, by decide +kernel⟩, w_1815, w_1817, w_87⟩
theorem lvX11_347 : kLV RX11 347 jX11_closes 0 := ⟨⟨rfl, w_1802, w_105, ⟨by decide +kernel, by decide +kernel⟩, by decide +kernel⟩, w_1799, w_1801, w_83⟩
theorem lvX11_350 : kLV RX11 350 jX11_act 0 := ⟨⟨rfl, w_1814, w_105, ⟨by decide +kernel, by decide +kernel⟩, by decide +kernel⟩, w_1811, w_1813, w_86⟩
theorem lvX11_359 : kLV RX11 359 jX11_penGoing 1 := ⟨⟨rfl, w_1838, w_105, ⟨by decide +kernel, by decide +kernel⟩, by decide +kernel⟩, w_1835, w_1837, w_91⟩
theorem lvX11_362 : kLV RX11 362 jX11_cellGoing 0 := ⟨⟨rfl, w_1834, w_105, ⟨by decide +kernel, by decide +kernel⟩, by decide +kernel⟩, w_1831, w_1833, w_90⟩
theorem lvX11_372 : kLV RX11 372 jX11_draws 1 := ⟨⟨rfl, w_1830, w_105, ⟨by decide +kernel, by decide +kernel⟩, by decide +kernel⟩, w_1827, w_1829, w_89⟩
theorem lsX11_375 : kLS RX11 375 jX11_between 2 := ⟨⟨rfl, w_1841, w_105, ⟨by decide +kernel, by decide +kernel⟩, by decide +kernel⟩, w_1839, w_1840⟩
theorem lvX11_378 : kLV RX11 378 jX11_holds 2 := ⟨⟨rfl, w_1845, w_105, ⟨by decide +kernel, by decide +kernel⟩, by decide +kernel⟩, w_1842, w_1844, w_92⟩
theorem lvX11_381 : kLV RX11 381 jX11_performs 0 := ⟨⟨rfl, w_1826, w_105, ⟨by decide +kernel, by decide +kernel⟩, by decide +kernel⟩, w_1823, w_1825, w_88⟩
theorem lvL_7 : kLV RL 7 jX10_swings 1 := ⟨⟨rfl, w_615, w_94, ⟨by decide +kernel, by decide +kernel⟩, by decide +kernel⟩, w_612, w_613, w_614⟩
theorem lvL_15 : kLV RL 15 jX10_score 1 := ⟨⟨rfl, w_845, w_94, ⟨by decide +kernel, by decide +kernel⟩, by decide +kernel⟩, w_842, w_843, w_844⟩
theorem lvL_18 : kLV RL 18 jX10_performed 1 := ⟨⟨rfl, w_912, w_94, ⟨by decide +kernel, by decide +kernel⟩, by decide +kernel⟩, w_909, w_910, w_911⟩
theorem lvL_23 : kLV RL 23 jX10_marks 1 := ⟨⟨rfl, w_991, w_94, ⟨by decide +kernel, by decide +kernel⟩, by decide +kernel⟩, w_988, w_989, w_990⟩
theorem lvL_26 : kLV RL 26 jX10_count 1 := ⟨⟨rfl, w_1003, w_94, ⟨by decide +kernel, by decide +kernel⟩, by decide +kernel⟩, w_1000, w_1001, w_1002⟩
theorem lvL_29 : kLV RL 29 jX10_pendulum 2 := ⟨⟨rfl, w_1010, w_94, ⟨by decide +kernel, by decide +kernel⟩, by decide +kernel⟩, w_1007, w_1008, w_1009⟩
theorem lvL_33 : kLV RL 33 jX10_set 3 := ⟨⟨rfl, w_1022, w_94, ⟨by decide +kernel, by decide +kernel⟩, by decide +kernel⟩, w_1019, w_1020, w_1021⟩
theorem lvL_37 : kLV RL 37 jX10_swing 2 := ⟨⟨rfl, w_1032, w_94, ⟨by decide +kernel, by decide +kernel⟩, by decide +kernel⟩, w_1029, w_1030, w_1031⟩
theorem lvL_40 : kLV RL 40 jX10_pen 2 := ⟨⟨rfl, w_1044, w_94, ⟨by decide +kernel, by decide +kernel⟩, by decide +kernel⟩, w_1041, w_1042, w_1043⟩
theorem lvL_43 : kLV RL 43 jX10_drawn 2 := ⟨⟨rfl, w_1052, w_94, ⟨by decide +kernel, by decide +kernel⟩, by decide +kernel⟩, w_1049, w_1050, w_1051⟩
theorem lvL_46 : kLV RL 46 jX10_inCell 3 := ⟨⟨rfl, w_1078, w_94, ⟨by decide +kernel, by decide +kernel⟩, by decide +kernel⟩, w_1075, w_1076, w_1077⟩
theorem lvL_49 : kLV RL 49 jX10_take 1 := ⟨⟨rfl, w_1085, w_94, ⟨by decide +kernel, by decide +kernel⟩, by decide +kernel⟩, w_1082, w_1083, w_1084⟩
theorem lvL_53 : kLV RL 53 jX10_alike 2 := ⟨⟨rfl, w_1101, w_94, ⟨by decide +kernel, by decide +kernel⟩, by decide +kernel⟩, w_1098, w_1099, w_1100⟩
theorem lvL_56 : kLV RL 56 jX10_kinds 1 := ⟨⟨rfl, w_1145, w_94, ⟨by decide +kernel, by decide +kernel⟩, by decide +kernel⟩, w_1142, w_1143, w_1144⟩
theorem lvL_59 : kLV RL 59 jX10_fits 3 := ⟨⟨rfl, w_1156, w_94, ⟨by decide +kernel, by decide +kernel⟩, by decide +kernel⟩, w_1153, w_1154, w_1155⟩
theorem lvL_62 : kLV RL 62 jX10_chord 3 := ⟨⟨rfl, w_1199, w_94, ⟨by decide +kernel, by decide +kernel⟩, by decide +kernel⟩, w_1196, w_1197, w_1198⟩
theorem lvL_65 : kLV RL 65 jX10_cart 1 := ⟨⟨rfl, w_1206, w_94, ⟨by decide +kernel, by decide +kernel⟩, by decide +kernel⟩, w_1203, w_1204, w_1205⟩
theorem lvL_68 : kLV RL 68 jX10_factor 1 := ⟨⟨rfl, w_1234, w_94, ⟨by decide +kernel, by decide +kernel⟩, by decide +kernel⟩, w_1231, w_1232, w_1233⟩
theorem lvL_71 : kLV RL 71 jX10_laid 5 := ⟨⟨rfl, w_1254, w_94, ⟨by decide +kernel, by decide +kernel⟩, by decide +kernel⟩, w_1251, w_1252, w_1253⟩
theorem lvL_75 : kLV RL 75 jX10_evening 1 := ⟨⟨rfl, w_1265, w_94, ⟨by decide +kernel, by decide +kernel⟩, by decide +kernel⟩, w_1262, w_1263, w_1264⟩
theorem lvL_78 : kLV RL 78 jX10_drawing 1 := ⟨⟨rfl, w_1319, w_94, ⟨by decide +kernel, by decide +kernel⟩, by decide +kernel⟩, w_1316, w_1317, w_1318⟩
theorem liL_81 : kLB RL 81 jX10_init 0 := ⟨rfl, w_122, w_94, ⟨by decide +kernel, by decide +kernel⟩, by decide +kernel⟩
theorem liL_84 : kLB RL 84 jX11_init 0 := ⟨rfl, w_1325, w_105, ⟨by decide +kernel, by decide +kernel⟩, by decide +kernel⟩
theorem lvL_85 : kLV RL 85 jX10_feed 5 := ⟨⟨rfl, w_509, w_94, ⟨by decide +kernel, by decide +kernel⟩, by decide +kernel⟩, w_506, w_507, w_508⟩
theorem lvL_88 : kLV RL 88 jX11_feed 5 := ⟨⟨rfl, w_1518, w_105, ⟨by decide +kernel, by decide +kernel⟩, by decide +kernel⟩, w_1515, w_1516, w_1517⟩
theorem lvL_94 : kLV RL 94 jX11_swings 1 := ⟨⟨rfl, w_1526, w_105, ⟨by decide +kernel, by decide +kernel⟩, by decide +kernel⟩, w_1523, w_1524, w_1525⟩
theorem lvL_95 : kLV RL 95 jX11_thrown 0 := ⟨⟨rfl, w_1514, w_105, ⟨by decide +kernel, by decide +kernel⟩, by decide +kernel⟩, w_1511, w_1512, w_1513⟩
theorem lvL_101 : kLV RL 101 jX11_score 1 := ⟨⟨rfl, w_1794, w_105, ⟨by decide +kernel, by decide +kernel⟩, by decide +kernel⟩, w_1791, w_1792, w_1793⟩
theorem lvL_104 : kLV RL 104 jX11_performed 1 := ⟨⟨rfl, w_1822, w_105, ⟨by decide +kernel, by decide +kernel⟩, by decide +kernel⟩, w_1819, w_1820, w_1821⟩
theorem lvL_107 : kLV RL 107 jX11_marks 1 := ⟨⟨rfl, w_1849, w_105, ⟨by decide +kernel, by decide +kernel⟩, by decide +kernel⟩, w_1846, w_1847, w_1848⟩
theorem lvL_108 : kLV RL 108 jX10_fault 0 := ⟨⟨rfl, w_521, w_94, ⟨by decide +kernel, by decide +kernel⟩, by decide +kernel⟩, w_518, w_519, w_520⟩
theorem lvL_111 : kLV RL 111 jX11_fault 0 := ⟨⟨rfl, w_1591, w_105, ⟨by decide +kernel, by decide +kernel⟩, by decide +kernel⟩, w_1588, w_1589, w_1590⟩
theorem lvL_114 : kLV RL 114 jX11_count 1 := ⟨⟨rfl, w_1595, w_105, ⟨by decide +kernel, by decide +kernel⟩, by decide +kernel⟩, w_1592, w_1593, w_1594⟩
theorem lvL_118 : kLV RL 118 jX11_pendulum 2 := ⟨⟨rfl, w_1602, w_105, ⟨by decide +kernel, by decide +kernel⟩, by decide +kernel⟩, w_1599, w_1600, w_1601⟩
theorem lvL_122 : kLV RL 122 jX11_set 3 := ⟨⟨rfl, w_1614, w_105, ⟨by decide +kernel, by decide +kernel⟩, by decide +kernel⟩, w_1611, w_1612, w_1613⟩
theorem lvL_125 : kLV RL 125 jX11_swing 2 := ⟨⟨rfl, w_1622, w_105, ⟨by decide +kernel, by decide +kernel⟩, by decide +kernel⟩, w_1619, w_1620, w_1621⟩
theorem lvL_128 : kLV RL 128 jX11_pen 2 := ⟨⟨rfl, w_1634, w_105, ⟨by decide +kernel, by decide +kernel⟩, by decide +kernel⟩, w_1631, w_1632, w_1633⟩
theorem lvL_131 : kLV RL 131 jX11_drawn 2 := ⟨⟨rfl, w_1646, w_105, ⟨by decide +kernel, by decide +kernel⟩, by decide +kernel⟩, w_1643, w_1644, w_1645⟩
theorem lvL_134 : kLV RL 134 jX11_inCell 3 := ⟨⟨rfl, w_1661, w_105, ⟨by decide +kernel, by decide +kernel⟩, by decide +kernel⟩, w_1658, w_1659, w_1660⟩
theorem lvL_135 : kLV RL 135 jX10_round 0 := ⟨⟨rfl, w_525, w_94, ⟨by decide +kernel, by decide +kernel⟩, by decide +kernel⟩, w_522, w_523, w_524⟩
theorem lvL_138 : kLV RL 138 jX11_round 0 := ⟨⟨rfl, w_1665, w_105, ⟨by decide +kernel, by decide +kernel⟩, by decide +kernel⟩, w_1662, w_1663, w_1664⟩
theorem lvL_139 : kLV RL 139 jX10_off 0 := ⟨⟨rfl, w_540, w_94, ⟨by decide +kernel, by decide +kernel⟩, by decide +kernel⟩, w_537, w_538, w_539⟩
theorem lvL_142 : kLV RL 142 jX11_off 0 := ⟨⟨rfl, w_1673, w_105, ⟨by decide +kernel, by decide +kernel⟩, by decide +kernel⟩, w_1670, w_1671, w_1672⟩
theorem lvL_143 : kLV RL 143 jX10_keep 0 := ⟨⟨rfl, w_565, w_94, ⟨by decide +kernel, by decide +kernel⟩, by decide +kernel⟩, w_562, w_563, w_564⟩
theorem lvL_146 : kLV RL 146 jX11_keep 0 := ⟨⟨rfl, w_1680, w_105, ⟨by decide +kernel, by decide +kernel⟩, by decide +kernel⟩, w_1677, w_1678, w_1679⟩
theorem lvL_150 : kLV RL 150 jX11_take 1 := ⟨⟨rfl, w_1684, w_105, ⟨by decide +kernel, by decide +kernel⟩, by decide +kernel⟩, w_1681, w_1682, w_1683⟩
theorem lvL_153 : kLV RL 153 jX11_alike 2 := ⟨⟨rfl, w_1692, w_105, ⟨by decide +kernel, by decide +kernel⟩, by decide +kernel⟩, w_1689, w_1690, w_1691⟩
theorem lvL_156 : kLV RL 156 jX11_kinds 1 := ⟨⟨rfl, w_1715, w_105, ⟨by decide +kernel, by decide +kernel⟩, by decide +kernel⟩, w_1712, w_1713, w_1714⟩
theorem lvL_157 : kLV RL 157 jX10_point 3 := ⟨⟨rfl, w_576, w_94, ⟨by decide +kernel, by decide +kernel⟩, by decide +kernel⟩, w_573, w_574, w_575⟩
theorem lvL_160 : kLV RL 160 jX11_point 3 := ⟨⟨rfl, w_1719, w_105, ⟨by decide +kernel, by decide +kernel⟩, by decide +kernel⟩, w_1716, w_1717, w_1718⟩
theorem lvL_161 : kLV RL 161 jX10_unpoint 0 := ⟨⟨rfl, w_586, w_94, ⟨by decide +kernel, by decide +kernel⟩, by decide +kernel⟩, w_583, w_584, w_585⟩
theorem lvL_164 : kLV RL 164 jX11_unpoint 0 := ⟨⟨rfl, w_1723, w_105, ⟨by decide +kernel, by decide +kernel⟩, by decide +kernel⟩, w_1720, w_1721, w_1722⟩
theorem lvL_167 : kLV RL 167 jX11_fits 3 := ⟨⟨rfl, w_1727, w_105, ⟨by decide +kernel, by decide +kernel⟩, by decide +kernel⟩, w_1724, w_1725, w_1726⟩
theorem lvL_170 : kLV RL 170 jX11_chord 3 := ⟨⟨rfl, w_1735, w_105, ⟨by decide +kernel, by decide +kernel⟩, by decide +kernel⟩, w_1732, w_1733, w_1734⟩
theorem lvL_173 : kLV RL 173 jX11_cart 1 := ⟨⟨rfl, w_1739, w_105, ⟨by decide +kernel, by decide +kernel⟩, by decide +kernel⟩, w_1736, w_1737, w_1738⟩
theorem lvL_174 : kLV RL 174 jX10_birthday 1 := ⟨⟨rfl, w_590, w_94, ⟨by decide +kernel, by decide +kernel⟩, by decide +kernel⟩, w_587, w_588, w_589⟩
theorem lvL_177 : kLV RL 177 jX11_birthday 1 := ⟨⟨rfl, w_1751, w_105, ⟨by decide +kernel, by decide +kernel⟩, by decide +kernel⟩, w_1748, w_1749, w_1750⟩
theorem lvL_178 : kLV RL 178 jX10_forget 0 := ⟨⟨rfl, w_594, w_94, ⟨by decide +kernel, by decide +kernel⟩, by decide +kernel⟩, w_591, w_592, w_593⟩
theorem lvL_181 : kLV RL 181 jX11_forget 0 := ⟨⟨rfl, w_1755, w_105, ⟨by decide +kernel, by decide +kernel⟩, by decide +kernel⟩, w_1752, w_1753, w_1754⟩
theorem lvL_184 : kLV RL 184 jX11_factor 1 := ⟨⟨rfl, w_1759, w_105, ⟨by decide +kernel, by decide +kernel⟩, by decide +kernel⟩, w_1756, w_1757, w_1758⟩
theorem lvL_188 : kLV RL 188 jX11_laid 5 := ⟨⟨rfl, w_1770, w_105, ⟨by decide +kernel, by decide +kernel⟩, by decide +kernel⟩, w_1767, w_1768, w_1769⟩
theorem lvL_191 : kLV RL 191 jX11_evening 1 := ⟨⟨rfl, w_1774, w_105, ⟨by decide +kernel, by decide +kernel⟩, by decide +kernel⟩, w_1771, w_1772, w_1773⟩
theorem lvL_194 : kLV RL 194 jX11_drawing 1 := ⟨⟨rfl, w_1790, w_105, ⟨by decide +kernel, by decide +kernel⟩, by decide +kernel⟩, w_1787, w_1788, w_1789⟩
theorem lvL_195 : kLV RL 195 jX10_image 0 := ⟨⟨rfl, w_598, w_94, ⟨by decide +kernel, by decide +kernel⟩, by decide +kernel⟩, w_595, w_596, w_597⟩
theorem lvL_198 : kLV RL 198 jX11_image 0 := ⟨⟨rfl, w_1853, w_105, ⟨by decide +kernel, by decide +kernel⟩, by decide +kernel⟩, w_1850, w_1851, w_1852⟩
theorem lvL_199 : kLV RL 199 jX10_restore 0 := ⟨⟨rfl, w_607, w_94, ⟨by decide +kernel, by decide +kernel⟩, by decide +kernel⟩, w_604, w_605, w_606⟩
theorem lvL_203 : kLV RL 203 jX11_restore 0 := ⟨⟨rfl, w_1857, w_105, ⟨by decide +kernel, by decide +kernel⟩, by decide +kernel⟩, w_1854, w_1855, w_1856⟩
end
section
section AUX
variable {G : GX} {j : MX} {pc : Nat} {ls : mL} {st : List Value} {h : mH} {Q : mO → mH → Prop}
def mask : List Bool → mL → mL
  | b :: bs, v :: vs => (if b then v else none) :: mask bs vs
  | _, vs => vs
theorem mask_sub : ∀ (bs : List Bool) (ls : mL) (i : Nat) (v : Value), (mask bs ls)[i]? = some (some v) → ls[i]? = some (some v)
  | [], ls, i, v, h => by unfold mask at h; exact h
  | b :: bs, [], i, v, h => by unfold mask at h; exact h
  | b :: bs, x :: vs, 0, v, h => by
    unfold mask at h
    cases b
    · simp at h
    · simpa using h
  | b :: bs, x :: vs, i + 1, v, h => by
    unfold mask at h
    rw [List.getElem?_cons_succ] at h ⊢
    exact mask_sub bs vs i v h
theorem Vw.mask (bs : List Bool) (k : Vw G j pc (mask bs ls) st h Q) : Vw G j pc ls st h Q := k.drop (mask_sub bs ls)
theorem i32_ne {x c : Int32} {k : Int} (h : ¬ x = c) (hc : c.toInt = k) : ¬ x.toInt = k := fun e => h (Int32.toInt_inj.mp (e.trans hc.symm))
theorem sw_out {x : Int32} {lo hi : Int} (L : List Int32) (h : ∀ v ∈ L, ¬ x = v) (hL : ∀ k : Int, lo ≤ k → k ≤ hi → Int32.ofInt k ∈ L) : x.toInt < lo ∨ hi < x.toInt := by
  rcases Int.lt_or_le x.toInt lo with q | q
  · exact Or.inl q
  · rcases Int.lt_or_le hi x.toInt with r | r
    · exact Or.inr r
    · exact absurd (by rw [Int32.ofInt_toInt]) (h _ (hL _ q r))
theorem lk_out {ps : List (Int × Int)} {d x : Int} (h : ∀ q ∈ ps, ¬ x = q.1) : Op.lookupswitch.offset ps d x = d := by
  induction ps with
  | nil => rfl
  | cons a l ih =>
    obtain ⟨a, b⟩ := a
    have h1 := h (a, b) List.mem_cons_self
    rw [Op.lookupswitch.offset_cons, if_neg (fun e => h1 e.symm)]
    exact ih (fun q hq => h q (List.mem_cons_of_mem _ hq))
theorem s_ldcS {i n : Nat} {text : String} (hd : decode (jC j) pc = .ok (.ldc i, 2)) (hn : sTab[n]? = some ((jY j).cls, i, text)) (hb : (UInt32.ofNat n).toNat = n) (k : Vw G j (pc + 2) ls (.float (UInt32.ofNat n) :: st) h Q) : Vw G j pc ls st h Q := by
  refine Vw.same (fun p e s m args below meth c h0 H locs la Q cells slots F hl k => ?_) k
  intro T hT X
  obtain ⟨t, a, b⟩ := k T hT X
  have hv := vk_R.same (U := s) rfl (F.2.2.2.2.2.2.2.1.2.2.2.2.1 n _ hn)
  have hr : rv G (.float (UInt32.ofNat n)) = .ref (gO G n) := by show Value.ref (gO G (UInt32.ofNat n).toNat) = _; rw [hb]
  rw [List.map_cons, hr] at a
  refine ⟨t, ?_, b⟩
  have hc1 : (Cond.stringRef (jY j).cls i text).before args s = true := hv.1
  exact X.ldcString F.1 F.2.2.2.2.2.1 hv.1 hv.2 (g := F0 m pc la (st.map (rv G))) rfl (by rw [F.2.1]; exact hd) t a
theorem Iv.dyn {h : mH} (hi : Iv h) {k : Nat} (hk : rOff 9 k = none) (v : Value) : Iv (pR h 0 k v) := by
  refine ⟨hi.1, fun o c n k' d ho hd => ?_⟩
  have h1 := hi.2 o c n k' d ho hd
  show (pR h 0 k v).2.2.2 o k' = _
  by_cases e : o = 0
  · subst e
    have hc : c = 9 := by
      have : kd 0 = (9, 17) := rfl
      rw [this] at ho
      cases ho
      rfl
    subst hc
    have : k' ≠ k := fun e => by rw [e, hk] at hd; cases hd
    rw [← h1]
    simp [pR, updV, this]
  · rw [← h1]
    simp [pR, e]
theorem Iv.dy7 {h : mH} {v : Value} (hi : Iv h) : Iv (pR h 0 7 v) := hi.dyn rfl v
theorem Iv.dy8 {h : mH} {v : Value} (hi : Iv h) : Iv (pR h 0 8 v) := hi.dyn rfl v
theorem gI_pA (h : mH) (o o' k : Nat) (f : Nat → Int32) : gI (pA h o f) o' k = if o' = o then f k else gI h o' k := by
  unfold gI pA
  by_cases e : o' = o <;> simp [e]
theorem gI_pI (h : mH) (o k o' k' : Nat) (v : Int32) : gI (pI h o k v) o' k' = if o' = o ∧ k' = k then v else gI h o' k' := by
  unfold pI
  rw [gI_pA]
  by_cases e : o' = o <;> by_cases e2 : k' = k <;> simp [e, e2, upd, gI]
theorem gI_pJ (h : mH) (o k o' k' : Nat) (v : Int64) : gI (pJ h o k v) o' k' = gI h o' k' := rfl
theorem gI_pR (h : mH) (o k o' k' : Nat) (v : Value) : gI (pR h o k v) o' k' = gI h o' k' := rfl
theorem gJ_pA (h : mH) (o o' k : Nat) (f : Nat → Int32) : gJ (pA h o f) o' k = gJ h o' k := rfl
theorem gJ_pI (h : mH) (o k o' k' : Nat) (v : Int32) : gJ (pI h o k v) o' k' = gJ h o' k' := rfl
theorem gJ_pJ (h : mH) (o k o' k' : Nat) (v : Int64) : gJ (pJ h o k v) o' k' = if o' = o ∧ k' = k then v else gJ h o' k' := by
  unfold gJ pJ
  by_cases e : o' = o <;> by_cases e2 : k' = k <;> simp [e, e2, vp_updL]
theorem gR_pA (h : mH) (o o' k : Nat) (f : Nat → Int32) : gR (pA h o f) o' k = gR h o' k := rfl
theorem gR_pI (h : mH) (o k o' k' : Nat) (v : Int32) : gR (pI h o k v) o' k' = gR h o' k' := rfl
theorem gR_pR (h : mH) (o k o' k' : Nat) (v : Value) : gR (pR h o k v) o' k' = if o' = o ∧ k' = k then v else gR h o' k' := by
  unfold gR pR
  by_cases e : o' = o <;> by_cases e2 : k' = k <;> simp [e, e2, updV]
set_option maxRecDepth 100000 in
theorem kat_346 : ∀ w ∈ (mzAtoms RX10 346 "java/util/NoSuchElementException" 13 prog_29_method_4_code exNames).filter vx_no, w ∈ lw_tbl ∧ mvb w = true := by decide +kernel
set_option maxRecDepth 100000 in
theorem kao_346 : ∀ w ∈ Cond.classLink RX10 342 "java/util/NoSuchElementException" :: Cond.initialized "java/util/NoSuchElementException" :: (mzAtoms RX10 346 "java/util/NoSuchElementException" 13 prog_29_method_4_code exNames).filter vx_no, vx_ot w = true := by decide +kernel
set_option maxRecDepth 100000 in
theorem kat_376 : ∀ w ∈ (mzAtoms RX10 376 "java/lang/IllegalArgumentException" 7 prog_18_method_2_code exNames).filter vx_no, w ∈ lw_tbl ∧ mvb w = true := by decide +kernel
set_option maxRecDepth 100000 in
theorem kao_376 : ∀ w ∈ Cond.classLink RX10 372 "java/lang/IllegalArgumentException" :: Cond.initialized "java/lang/IllegalArgumentException" :: (mzAtoms RX10 376 "java/lang/IllegalArgumentException" 7 prog_18_method_2_code exNames).filter vx_no, vx_ot w = true := by decide +kernel
theorem ktX10_344 : kLT RX10 "java/util/NoSuchElementException" 342 346 344 13 prog_29_method_4_code 27 "no such drawing is kept" := ⟨by decide +kernel, w_916, w_117, rfl, kat_346, kao_346, by decide +kernel, by decide +kernel, by decide +kernel, by decide +kernel⟩
theorem ktX10_374 : kLT RX10 "java/lang/IllegalArgumentException" 372 376 374 7 prog_18_method_2_code 0 "the tape has not so many bytes" := ⟨by decide +kernel, w_620, w_109, rfl, kat_376, kao_376, by decide +kernel, by decide +kernel, by decide +kernel, by decide +kernel⟩
theorem ktX10_377 : kLT RX10 "java/util/NoSuchElementException" 342 346 377 13 prog_29_method_4_code 25 "no such portrait" := ⟨by decide +kernel, w_916, w_117, rfl, kat_346, kao_346, by decide +kernel, by decide +kernel, by decide +kernel, by decide +kernel⟩
theorem ktX10_379 : kLT RX10 "java/util/NoSuchElementException" 342 346 379 13 prog_29_method_4_code 22 "no such pendulum" := ⟨by decide +kernel, w_916, w_117, rfl, kat_346, kao_346, by decide +kernel, by decide +kernel, by decide +kernel, by decide +kernel⟩
theorem ktX10_381 : kLT RX10 "java/util/NoSuchElementException" 342 346 381 13 prog_29_method_4_code 20 "no such question" := ⟨by decide +kernel, w_916, w_117, rfl, kat_346, kao_346, by decide +kernel, by decide +kernel, by decide +kernel, by decide +kernel⟩
theorem ktX10_383 : kLT RX10 "java/util/NoSuchElementException" 342 346 383 13 prog_29_method_4_code 21 "no such cell" := ⟨by decide +kernel, w_916, w_117, rfl, kat_346, kao_346, by decide +kernel, by decide +kernel, by decide +kernel, by decide +kernel⟩
theorem ktX10_385 : kLT RX10 "java/lang/IllegalArgumentException" 372 376 385 7 prog_18_method_2_code 23 "no tick" := ⟨by decide +kernel, w_620, w_109, rfl, kat_376, kao_376, by decide +kernel, by decide +kernel, by decide +kernel, by decide +kernel⟩
theorem ktX10_387 : kLT RX10 "java/lang/IllegalArgumentException" 372 376 387 7 prog_18_method_2_code 24 "no such span of ticks" := ⟨by decide +kernel, w_620, w_109, rfl, kat_376, kao_376, by decide +kernel, by decide +kernel, by decide +kernel, by decide +kernel⟩
theorem ktX10_389 : kLT RX10 "java/lang/IllegalArgumentException" 372 376 389 7 prog_18_method_2_code 26 "a number is not as told" := ⟨by decide +kernel, w_620, w_109, rfl, kat_376, kao_376, by decide +kernel, by decide +kernel, by decide +kernel, by decide +kernel⟩
end AUX
theorem it_t {α : Type} {c : Prop} [Decidable c] {a b : α} {P : α → Prop} (q : c) (k : P (if c then a else b)) : P a := by rw [if_pos q] at k; exact k
theorem it_f {α : Type} {c : Prop} [Decidable c] {a b : α} {P : α → Prop} (q : ¬ c) (k : P (if c then a else b)) : P b := by rw [if_neg q] at k; exact k
theorem sw_at {α : Type} {a b : α} {P : α → Prop} (q : b = a) (k : P b) : P a := q ▸ k
end
section
theorem dJ9_abs_0f7a4_0 : decode cJ9_abs_0f7a4 0 = .ok (.iload_n 0, 1) := by decide +kernel
theorem dJ9_abs_0f7a4_1 : decode cJ9_abs_0f7a4 1 = .ok (.ifCond .ge 8, 3) := by decide +kernel
theorem dJ9_abs_0f7a4_4 : decode cJ9_abs_0f7a4 4 = .ok (.iload_n 0, 1) := by decide +kernel
theorem dJ9_abs_0f7a4_5 : decode cJ9_abs_0f7a4 5 = .ok (.ineg, 1) := by decide +kernel
theorem dJ9_abs_0f7a4_6 : decode cJ9_abs_0f7a4 6 = .ok (.goto 4, 3) := by decide +kernel
theorem dJ9_abs_0f7a4_9 : decode cJ9_abs_0f7a4 9 = .ok (.iload_n 0, 1) := by decide +kernel
theorem dJ9_abs_0f7a4_10 : decode cJ9_abs_0f7a4 10 = .ok (.ireturn, 1) := by decide +kernel
def fJ9_abs_0f7a4 (v0 : Int32) : Int32 := if 0 ≤ v0 then v0 else -v0
theorem mJ9_abs_0f7a4 {G : GX} {h : mH} {Q : mO → mH → Prop} {v0 : Int32} (k : Q (.inl (some (.int (fJ9_abs_0f7a4 v0)))) h) : WM G jJ9_abs_0f7a4 [.int v0] h Q :=
  WM.body (ls := [some (.int v0)]) rfl (by decide +kernel) rfl (Nat.le_of_ble_eq_true rfl) rfl (((fun (K : (0 ≤ v0 → Q (.inl (some (.int v0))) h) ∧ (¬ 0 ≤ v0 → Q (.inl (some (.int (-v0)))) h)) => show Vw G jJ9_abs_0f7a4 0 [some (.int v0)] [] h Q from s_iload_n dJ9_abs_0f7a4_0 rfl (s_if_ge 9 dJ9_abs_0f7a4_1 rfl (fun q1 => s_iload_n dJ9_abs_0f7a4_9 rfl (s_ireturn dJ9_abs_0f7a4_10 rfl (K.1 q1))) (fun q1 => s_iload_n dJ9_abs_0f7a4_4 rfl (s_ineg dJ9_abs_0f7a4_5 (s_goto 10 dJ9_abs_0f7a4_6 rfl (s_ireturn dJ9_abs_0f7a4_10 rfl (K.2 q1))))))) ⟨fun z0 => (it_t (P := fun x => Q (.inl (some (.int x))) h) z0 k), fun z0 => (it_f (P := fun x => Q (.inl (some (.int x))) h) z0 k)⟩))
theorem dJ9_min_7cf53_0 : decode cJ9_min_7cf53 0 = .ok (.iload_n 0, 1) := by decide +kernel
theorem dJ9_min_7cf53_1 : decode cJ9_min_7cf53 1 = .ok (.iload_n 1, 1) := by decide +kernel
theorem dJ9_min_7cf53_2 : decode cJ9_min_7cf53 2 = .ok (.if_icmp .gt 7, 3) := by decide +kernel
theorem dJ9_min_7cf53_5 : decode cJ9_min_7cf53 5 = .ok (.iload_n 0, 1) := by decide +kernel
theorem dJ9_min_7cf53_6 : decode cJ9_min_7cf53 6 = .ok (.goto 4, 3) := by decide +kernel
theorem dJ9_min_7cf53_9 : decode cJ9_min_7cf53 9 = .ok (.iload_n 1, 1) := by decide +kernel
theorem dJ9_min_7cf53_10 : decode cJ9_min_7cf53 10 = .ok (.ireturn, 1) := by decide +kernel
def fJ9_min_7cf53 (v0 : Int32) (v1 : Int32) : Int32 := if v1 < v0 then v1 else v0
theorem mJ9_min_7cf53 {G : GX} {h : mH} {Q : mO → mH → Prop} {v0 : Int32} {v1 : Int32} (k : Q (.inl (some (.int (fJ9_min_7cf53 v0 v1)))) h) : WM G jJ9_min_7cf53 [.int v0, .int v1] h Q :=
  WM.body (ls := [some (.int v0), some (.int v1)]) rfl (by decide +kernel) rfl (Nat.le_of_ble_eq_true rfl) rfl (((fun (K : (v1 < v0 → Q (.inl (some (.int v1))) h) ∧ (¬ v1 < v0 → Q (.inl (some (.int v0))) h)) => show Vw G jJ9_min_7cf53 0 [some (.int v0), some (.int v1)] [] h Q from s_iload_n dJ9_min_7cf53_0 rfl (s_iload_n dJ9_min_7cf53_1 rfl (s_icmp_gt 9 dJ9_min_7cf53_2 rfl (fun q2 => s_iload_n dJ9_min_7cf53_9 rfl (s_ireturn dJ9_min_7cf53_10 rfl (K.1 q2))) (fun q2 => s_iload_n dJ9_min_7cf53_5 rfl (s_goto 10 dJ9_min_7cf53_6 rfl (s_ireturn dJ9_min_7cf53_10 rfl (K.2 q2))))))) ⟨fun z0 => (it_t (P := fun x => Q (.inl (some (.int x))) h) z0 k), fun z0 => (it_f (P := fun x => Q (.inl (some (.int x))) h) z0 k)⟩))
theorem dJ9_max_7cf53_0 : decode cJ9_max_7cf53 0 = .ok (.iload_n 0, 1) := by decide +kernel
theorem dJ9_max_7cf53_1 : decode cJ9_max_7cf53 1 = .ok (.iload_n 1, 1) := by decide +kernel
theorem dJ9_max_7cf53_2 : decode cJ9_max_7cf53 2 = .ok (.if_icmp .lt 7, 3) := by decide +kernel
theorem dJ9_max_7cf53_5 : decode cJ9_max_7cf53 5 = .ok (.iload_n 0, 1) := by decide +kernel
theorem dJ9_max_7cf53_6 : decode cJ9_max_7cf53 6 = .ok (.goto 4, 3) := by decide +kernel
theorem dJ9_max_7cf53_9 : decode cJ9_max_7cf53 9 = .ok (.iload_n 1, 1) := by decide +kernel
theorem dJ9_max_7cf53_10 : decode cJ9_max_7cf53 10 = .ok (.ireturn, 1) := by decide +kernel
def fJ9_max_7cf53 (v0 : Int32) (v1 : Int32) : Int32 := if v0 < v1 then v1 else v0
theorem mJ9_max_7cf53 {G : GX} {h : mH} {Q : mO → mH → Prop} {v0 : Int32} {v1 : Int32} (k : Q (.inl (some (.int (fJ9_max_7cf53 v0 v1)))) h) : WM G jJ9_max_7cf53 [.int v0, .int v1] h Q :=
  WM.body (ls := [some (.int v0), some (.int v1)]) rfl (by decide +kernel) rfl (Nat.le_of_ble_eq_true rfl) rfl (((fun (K : (v0 < v1 → Q (.inl (some (.int v1))) h) ∧ (¬ v0 < v1 → Q (.inl (some (.int v0))) h)) => show Vw G jJ9_max_7cf53 0 [some (.int v0), some (.int v1)] [] h Q from s_iload_n dJ9_max_7cf53_0 rfl (s_iload_n dJ9_max_7cf53_1 rfl (s_icmp_lt 9 dJ9_max_7cf53_2 rfl (fun q2 => s_iload_n dJ9_max_7cf53_9 rfl (s_ireturn dJ9_max_7cf53_10 rfl (K.1 q2))) (fun q2 => s_iload_n dJ9_max_7cf53_5 rfl (s_goto 10 dJ9_max_7cf53_6 rfl (s_ireturn dJ9_max_7cf53_10 rfl (K.2 q2))))))) ⟨fun z0 => (it_t (P := fun x => Q (.inl (some (.int x))) h) z0 k), fun z0 => (it_f (P := fun x => Q (.inl (some (.int x))) h) z0 k)⟩))
theorem dX11_within_0 : decode cX11_within 0 = .ok (.iload_n 0, 1) := by decide +kernel
theorem dX11_within_1 : decode cX11_within 1 = .ok (.iload_n 1, 1) := by decide +kernel
theorem dX11_within_2 : decode cX11_within 2 = .ok (.if_icmp .lt 12, 3) := by decide +kernel
theorem dX11_within_5 : decode cX11_within 5 = .ok (.iload_n 0, 1) := by decide +kernel
theorem dX11_within_6 : decode cX11_within 6 = .ok (.iload_n 2, 1) := by decide +kernel
theorem dX11_within_7 : decode cX11_within 7 = .ok (.if_icmp .gt 7, 3) := by decide +kernel
theorem dX11_within_10 : decode cX11_within 10 = .ok (.iconst 1, 1) := by decide +kernel
theorem dX11_within_11 : decode cX11_within 11 = .ok (.goto 4, 3) := by decide +kernel
theorem dX11_within_14 : decode cX11_within 14 = .ok (.iconst 0, 1) := by decide +kernel
theorem dX11_within_15 : decode cX11_within 15 = .ok (.ireturn, 1) := by decide +kernel
def fX11_within (v0 : Int32) (v1 : Int32) (v2 : Int32) : Int32 := if v0 < v1 then 0 else if v2 < v0 then 0 else 1
theorem mX11_within {G : GX} {h : mH} {Q : mO → mH → Prop} {v0 : Int32} {v1 : Int32} {v2 : Int32} (k : Q (.inl (some (.int (fX11_within v0 v1 v2)))) h) : WM G jX11_within [.int v0, .int v1, .int v2] h Q :=
  WM.body (ls := [some (.int v0), some (.int v1), some (.int v2)]) rfl (by decide +kernel) rfl (Nat.le_of_ble_eq_true rfl) rfl (((fun (K : (v0 < v1 → Q (.inl (some (.int 0))) h) ∧ (¬ v0 < v1 → ((v2 < v0 → Q (.inl (some (.int 0))) h) ∧ (¬ v2 < v0 → Q (.inl (some (.int 1))) h)))) => show Vw G jX11_within 0 [some (.int v0), some (.int v1), some (.int v2)] [] h Q from s_iload_n dX11_within_0 rfl (s_iload_n dX11_within_1 rfl (s_icmp_lt 14 dX11_within_2 rfl (fun q2 => s_iconst 0 dX11_within_14 (by decide) (s_zreturn dX11_within_15 rfl (by decide) (K.1 q2))) (fun q2 => s_iload_n dX11_within_5 rfl (s_iload_n dX11_within_6 rfl (s_icmp_gt 14 dX11_within_7 rfl (fun q5 => s_iconst 0 dX11_within_14 (by decide) (s_zreturn dX11_within_15 rfl (by decide) ((K.2 q2).1 q5))) (fun q5 => s_iconst 1 dX11_within_10 (by decide) (s_goto 15 dX11_within_11 rfl (s_zreturn dX11_within_15 rfl (by decide) ((K.2 q2).2 q5)))))))))) ⟨fun z0 => (it_t (P := fun x => Q (.inl (some (.int x))) h) z0 k), fun z0 => ⟨fun z1 => (it_t (P := fun x => Q (.inl (some (.int x))) h) z1 (it_f (P := fun x => Q (.inl (some (.int x))) h) z0 k)), fun z1 => (it_f (P := fun x => Q (.inl (some (.int x))) h) z1 (it_f (P := fun x => Q (.inl (some (.int x))) h) z0 k))⟩⟩))
theorem dX11_size_0 : decode cX11_size 0 = .ok (.iload_n 0, 1) := by decide +kernel
theorem dX11_size_1 : decode cX11_size 1 = .ok (.ifCond .ge 9, 3) := by decide +kernel
theorem dX11_size_4 : decode cX11_size 4 = .ok (.iconst 0, 1) := by decide +kernel
theorem dX11_size_5 : decode cX11_size 5 = .ok (.iload_n 0, 1) := by decide +kernel
theorem dX11_size_6 : decode cX11_size 6 = .ok (.isub, 1) := by decide +kernel
theorem dX11_size_7 : decode cX11_size 7 = .ok (.goto 4, 3) := by decide +kernel
theorem dX11_size_10 : decode cX11_size 10 = .ok (.iload_n 0, 1) := by decide +kernel
theorem dX11_size_11 : decode cX11_size 11 = .ok (.ireturn, 1) := by decide +kernel
def fX11_size (v0 : Int32) : Int32 := if 0 ≤ v0 then v0 else 0 - v0
theorem mX11_size {G : GX} {h : mH} {Q : mO → mH → Prop} {v0 : Int32} (k : Q (.inl (some (.int (fX11_size v0)))) h) : WM G jX11_size [.int v0] h Q :=
  WM.body (ls := [some (.int v0)]) rfl (by decide +kernel) rfl (Nat.le_of_ble_eq_true rfl) rfl (((fun (K : (0 ≤ v0 → Q (.inl (some (.int v0))) h) ∧ (¬ 0 ≤ v0 → Q (.inl (some (.int (0 - v0)))) h)) => show Vw G jX11_size 0 [some (.int v0)] [] h Q from s_iload_n dX11_size_0 rfl (s_if_ge 10 dX11_size_1 rfl (fun q1 => s_iload_n dX11_size_10 rfl (s_ireturn dX11_size_11 rfl (K.1 q1))) (fun q1 => s_iconst 0 dX11_size_4 (by decide) (s_iload_n dX11_size_5 rfl (s_isub dX11_size_6 (s_goto 11 dX11_size_7 rfl (s_ireturn dX11_size_11 rfl (K.2 q1)))))))) ⟨fun z0 => (it_t (P := fun x => Q (.inl (some (.int x))) h) z0 k), fun z0 => (it_f (P := fun x => Q (.inl (some (.int x))) h) z0 k)⟩))
theorem dX11_isLetter_0 : decode cX11_isLetter 0 = .ok (.iload_n 0, 1) := by decide +kernel
theorem dX11_isLetter_1 : decode cX11_isLetter 1 = .ok (.bipush 97, 2) := by decide +kernel
theorem dX11_isLetter_3 : decode cX11_isLetter 3 = .ok (.if_icmp .lt 13, 3) := by decide +kernel
theorem dX11_isLetter_6 : decode cX11_isLetter 6 = .ok (.iload_n 0, 1) := by decide +kernel
theorem dX11_isLetter_7 : decode cX11_isLetter 7 = .ok (.bipush 122, 2) := by decide +kernel
theorem dX11_isLetter_9 : decode cX11_isLetter 9 = .ok (.if_icmp .gt 7, 3) := by decide +kernel
theorem dX11_isLetter_12 : decode cX11_isLetter 12 = .ok (.iconst 1, 1) := by decide +kernel
theorem dX11_isLetter_13 : decode cX11_isLetter 13 = .ok (.goto 4, 3) := by decide +kernel
theorem dX11_isLetter_16 : decode cX11_isLetter 16 = .ok (.iconst 0, 1) := by decide +kernel
theorem dX11_isLetter_17 : decode cX11_isLetter 17 = .ok (.ireturn, 1) := by decide +kernel
def fX11_isLetter (v0 : Int32) : Int32 := if v0 < 97 then 0 else if 122 < v0 then 0 else 1
theorem mX11_isLetter {G : GX} {h : mH} {Q : mO → mH → Prop} {v0 : Int32} (k : Q (.inl (some (.int (fX11_isLetter v0)))) h) : WM G jX11_isLetter [.int v0] h Q :=
  WM.body (ls := [some (.int v0)]) rfl (by decide +kernel) rfl (Nat.le_of_ble_eq_true rfl) rfl (((fun (K : (v0 < 97 → Q (.inl (some (.int 0))) h) ∧ (¬ v0 < 97 → ((122 < v0 → Q (.inl (some (.int 0))) h) ∧ (¬ 122 < v0 → Q (.inl (some (.int 1))) h)))) => show Vw G jX11_isLetter 0 [some (.int v0)] [] h Q from s_iload_n dX11_isLetter_0 rfl (s_bipush 97 dX11_isLetter_1 (by decide) (s_icmp_lt 16 dX11_isLetter_3 rfl (fun q2 => s_iconst 0 dX11_isLetter_16 (by decide) (s_zreturn dX11_isLetter_17 rfl (by decide) (K.1 q2))) (fun q2 => s_iload_n dX11_isLetter_6 rfl (s_bipush 122 dX11_isLetter_7 (by decide) (s_icmp_gt 16 dX11_isLetter_9 rfl (fun q5 => s_iconst 0 dX11_isLetter_16 (by decide) (s_zreturn dX11_isLetter_17 rfl (by decide) ((K.2 q2).1 q5))) (fun q5 => s_iconst 1 dX11_isLetter_12 (by decide) (s_goto 17 dX11_isLetter_13 rfl (s_zreturn dX11_isLetter_17 rfl (by decide) ((K.2 q2).2 q5)))))))))) ⟨fun z0 => (it_t (P := fun x => Q (.inl (some (.int x))) h) z0 k), fun z0 => ⟨fun z1 => (it_t (P := fun x => Q (.inl (some (.int x))) h) z1 (it_f (P := fun x => Q (.inl (some (.int x))) h) z0 k)), fun z1 => (it_f (P := fun x => Q (.inl (some (.int x))) h) z1 (it_f (P := fun x => Q (.inl (some (.int x))) h) z0 k))⟩⟩))
theorem dX11_isDigit_0 : decode cX11_isDigit 0 = .ok (.iload_n 0, 1) := by decide +kernel
theorem dX11_isDigit_1 : decode cX11_isDigit 1 = .ok (.bipush 48, 2) := by decide +kernel
theorem dX11_isDigit_3 : decode cX11_isDigit 3 = .ok (.if_icmp .lt 13, 3) := by decide +kernel
theorem dX11_isDigit_6 : decode cX11_isDigit 6 = .ok (.iload_n 0, 1) := by decide +kernel
theorem dX11_isDigit_7 : decode cX11_isDigit 7 = .ok (.bipush 57, 2) := by decide +kernel
theorem dX11_isDigit_9 : decode cX11_isDigit 9 = .ok (.if_icmp .gt 7, 3) := by decide +kernel
theorem dX11_isDigit_12 : decode cX11_isDigit 12 = .ok (.iconst 1, 1) := by decide +kernel
theorem dX11_isDigit_13 : decode cX11_isDigit 13 = .ok (.goto 4, 3) := by decide +kernel
theorem dX11_isDigit_16 : decode cX11_isDigit 16 = .ok (.iconst 0, 1) := by decide +kernel
theorem dX11_isDigit_17 : decode cX11_isDigit 17 = .ok (.ireturn, 1) := by decide +kernel
def fX11_isDigit (v0 : Int32) : Int32 := if v0 < 48 then 0 else if 57 < v0 then 0 else 1
theorem mX11_isDigit {G : GX} {h : mH} {Q : mO → mH → Prop} {v0 : Int32} (k : Q (.inl (some (.int (fX11_isDigit v0)))) h) : WM G jX11_isDigit [.int v0] h Q :=
  WM.body (ls := [some (.int v0)]) rfl (by decide +kernel) rfl (Nat.le_of_ble_eq_true rfl) rfl (((fun (K : (v0 < 48 → Q (.inl (some (.int 0))) h) ∧ (¬ v0 < 48 → ((57 < v0 → Q (.inl (some (.int 0))) h) ∧ (¬ 57 < v0 → Q (.inl (some (.int 1))) h)))) => show Vw G jX11_isDigit 0 [some (.int v0)] [] h Q from s_iload_n dX11_isDigit_0 rfl (s_bipush 48 dX11_isDigit_1 (by decide) (s_icmp_lt 16 dX11_isDigit_3 rfl (fun q2 => s_iconst 0 dX11_isDigit_16 (by decide) (s_zreturn dX11_isDigit_17 rfl (by decide) (K.1 q2))) (fun q2 => s_iload_n dX11_isDigit_6 rfl (s_bipush 57 dX11_isDigit_7 (by decide) (s_icmp_gt 16 dX11_isDigit_9 rfl (fun q5 => s_iconst 0 dX11_isDigit_16 (by decide) (s_zreturn dX11_isDigit_17 rfl (by decide) ((K.2 q2).1 q5))) (fun q5 => s_iconst 1 dX11_isDigit_12 (by decide) (s_goto 17 dX11_isDigit_13 rfl (s_zreturn dX11_isDigit_17 rfl (by decide) ((K.2 q2).2 q5)))))))))) ⟨fun z0 => (it_t (P := fun x => Q (.inl (some (.int x))) h) z0 k), fun z0 => ⟨fun z1 => (it_t (P := fun x => Q (.inl (some (.int x))) h) z1 (it_f (P := fun x => Q (.inl (some (.int x))) h) z0 k)), fun z1 => (it_f (P := fun x => Q (.inl (some (.int x))) h) z1 (it_f (P := fun x => Q (.inl (some (.int x))) h) z0 k))⟩⟩))
theorem dX11_cellOf_0 : decode cX11_cellOf 0 = .ok (.bipush 27, 2) := by decide +kernel
theorem dX11_cellOf_2 : decode cX11_cellOf 2 = .ok (.iload_n 1, 1) := by decide +kernel
theorem dX11_cellOf_3 : decode cX11_cellOf 3 = .ok (.sipush 260, 3) := by decide +kernel
theorem dX11_cellOf_6 : decode cX11_cellOf 6 = .ok (.iadd, 1) := by decide +kernel
theorem dX11_cellOf_7 : decode cX11_cellOf 7 = .ok (.bipush 20, 2) := by decide +kernel
theorem dX11_cellOf_9 : decode cX11_cellOf 9 = .ok (.idiv, 1) := by decide +kernel
theorem dX11_cellOf_10 : decode cX11_cellOf 10 = .ok (.imul, 1) := by decide +kernel
theorem dX11_cellOf_11 : decode cX11_cellOf 11 = .ok (.iload_n 0, 1) := by decide +kernel
theorem dX11_cellOf_12 : decode cX11_cellOf 12 = .ok (.sipush 260, 3) := by decide +kernel
theorem dX11_cellOf_15 : decode cX11_cellOf 15 = .ok (.iadd, 1) := by decide +kernel
theorem dX11_cellOf_16 : decode cX11_cellOf 16 = .ok (.bipush 20, 2) := by decide +kernel
theorem dX11_cellOf_18 : decode cX11_cellOf 18 = .ok (.idiv, 1) := by decide +kernel
theorem dX11_cellOf_19 : decode cX11_cellOf 19 = .ok (.iadd, 1) := by decide +kernel
theorem dX11_cellOf_20 : decode cX11_cellOf 20 = .ok (.ireturn, 1) := by decide +kernel
def fX11_cellOf (v0 : Int32) (v1 : Int32) : Int32 := (27 * ((v1 + 260) / (20 : Int32))) + ((v0 + 260) / (20 : Int32))
theorem mX11_cellOf {G : GX} {h : mH} {Q : mO → mH → Prop} {v0 : Int32} {v1 : Int32} (k : Q (.inl (some (.int (fX11_cellOf v0 v1)))) h) : WM G jX11_cellOf [.int v0, .int v1] h Q :=
  WM.body (ls := [some (.int v0), some (.int v1)]) rfl (by decide +kernel) rfl (Nat.le_of_ble_eq_true rfl) rfl (((fun (K : Q (.inl (some (.int ((27 * ((v1 + 260) / (20 : Int32))) + ((v0 + 260) / (20 : Int32)))))) h) => show Vw G jX11_cellOf 0 [some (.int v0), some (.int v1)] [] h Q from s_bipush 27 dX11_cellOf_0 (by decide) (s_iload_n dX11_cellOf_2 rfl (s_sipush 260 dX11_cellOf_3 (by decide) (s_iadd dX11_cellOf_6 (s_bipush 20 dX11_cellOf_7 (by decide) (s_idiv dX11_cellOf_9 (by decide) (s_imul dX11_cellOf_10 (s_iload_n dX11_cellOf_11 rfl (s_sipush 260 dX11_cellOf_12 (by decide) (s_iadd dX11_cellOf_15 (s_bipush 20 dX11_cellOf_16 (by decide) (s_idiv dX11_cellOf_18 (by decide) (s_iadd dX11_cellOf_19 (s_ireturn dX11_cellOf_20 rfl K)))))))))))))) k))
theorem dX11_becomes_0 : decode cX11_becomes 0 = .ok (.iload_n 0, 1) := by decide +kernel
theorem dX11_becomes_1 : decode cX11_becomes 1 = .ok (.iconst 2, 1) := by decide +kernel
theorem dX11_becomes_2 : decode cX11_becomes 2 = .ok (.idiv, 1) := by decide +kernel
theorem dX11_becomes_3 : decode cX11_becomes 3 = .ok (.iload_n 1, 1) := by decide +kernel
theorem dX11_becomes_4 : decode cX11_becomes 4 = .ok (.iconst 1, 1) := by decide +kernel
theorem dX11_becomes_5 : decode cX11_becomes 5 = .ok (.iand, 1) := by decide +kernel
theorem dX11_becomes_6 : decode cX11_becomes 6 = .ok (.ixor, 1) := by decide +kernel
theorem dX11_becomes_7 : decode cX11_becomes 7 = .ok (.istore_n 2, 1) := by decide +kernel
theorem dX11_becomes_8 : decode cX11_becomes 8 = .ok (.iload_n 2, 1) := by decide +kernel
theorem dX11_becomes_9 : decode cX11_becomes 9 = .ok (.ifCond .ne 11, 3) := by decide +kernel
theorem dX11_becomes_12 : decode cX11_becomes 12 = .ok (.iload_n 1, 1) := by decide +kernel
theorem dX11_becomes_13 : decode cX11_becomes 13 = .ok (.iconst 1, 1) := by decide +kernel
theorem dX11_becomes_14 : decode cX11_becomes 14 = .ok (.ishr, 1) := by decide +kernel
theorem dX11_becomes_15 : decode cX11_becomes 15 = .ok (.iconst 1, 1) := by decide +kernel
theorem dX11_becomes_16 : decode cX11_becomes 16 = .ok (.iand, 1) := by decide +kernel
theorem dX11_becomes_17 : decode cX11_becomes 17 = .ok (.goto 8, 3) := by decide +kernel
theorem dX11_becomes_20 : decode cX11_becomes 20 = .ok (.iload_n 1, 1) := by decide +kernel
theorem dX11_becomes_21 : decode cX11_becomes 21 = .ok (.iconst 2, 1) := by decide +kernel
theorem dX11_becomes_22 : decode cX11_becomes 22 = .ok (.ishr, 1) := by decide +kernel
theorem dX11_becomes_23 : decode cX11_becomes 23 = .ok (.iconst 1, 1) := by decide +kernel
theorem dX11_becomes_24 : decode cX11_becomes 24 = .ok (.iand, 1) := by decide +kernel
theorem dX11_becomes_25 : decode cX11_becomes 25 = .ok (.istore_n 3, 1) := by decide +kernel
theorem dX11_becomes_26 : decode cX11_becomes 26 = .ok (.iconst 2, 1) := by decide +kernel
theorem dX11_becomes_27 : decode cX11_becomes 27 = .ok (.iload_n 2, 1) := by decide +kernel
theorem dX11_becomes_28 : decode cX11_becomes 28 = .ok (.imul, 1) := by decide +kernel
theorem dX11_becomes_29 : decode cX11_becomes 29 = .ok (.iload_n 0, 1) := by decide +kernel
theorem dX11_becomes_30 : decode cX11_becomes 30 = .ok (.iconst 2, 1) := by decide +kernel
theorem dX11_becomes_31 : decode cX11_becomes 31 = .ok (.irem, 1) := by decide +kernel
theorem dX11_becomes_32 : decode cX11_becomes 32 = .ok (.iload_n 3, 1) := by decide +kernel
theorem dX11_becomes_33 : decode cX11_becomes 33 = .ok (.ixor, 1) := by decide +kernel
theorem dX11_becomes_34 : decode cX11_becomes 34 = .ok (.iadd, 1) := by decide +kernel
theorem dX11_becomes_35 : decode cX11_becomes 35 = .ok (.ireturn, 1) := by decide +kernel
def fX11_becomes (v0 : Int32) (v1 : Int32) : Int32 := if ((v0 / (2 : Int32)) ^^^ (v1 &&& (1 : Int32))) = 0 then (2 * ((v0 / (2 : Int32)) ^^^ (v1 &&& (1 : Int32)))) + ((v0 - v0 / (2 : Int32) * (2 : Int32)) ^^^ ((v1 >>> ((1 : Int32) &&& 31)) &&& (1 : Int32))) else (2 * ((v0 / (2 : Int32)) ^^^ (v1 &&& (1 : Int32)))) + ((v0 - v0 / (2 : Int32) * (2 : Int32)) ^^^ ((v1 >>> ((2 : Int32) &&& 31)) &&& (1 : Int32)))
theorem mX11_becomes {G : GX} {h : mH} {Q : mO → mH → Prop} {v0 : Int32} {v1 : Int32} (k : Q (.inl (some (.int (fX11_becomes v0 v1)))) h) : WM G jX11_becomes [.int v0, .int v1] h Q :=
  WM.body (ls := [some (.int v0), some (.int v1), none, none]) rfl (by decide +kernel) rfl (Nat.le_of_ble_eq_true rfl) rfl (((fun (K : (¬ ((v0 / (2 : Int32)) ^^^ (v1 &&& (1 : Int32))) = 0 → Q (.inl (some (.int ((2 * ((v0 / (2 : Int32)) ^^^ (v1 &&& (1 : Int32)))) + ((v0 - v0 / (2 : Int32) * (2 : Int32)) ^^^ ((v1 >>> ((2 : Int32) &&& 31)) &&& (1 : Int32))))))) h) ∧ (((v0 / (2 : Int32)) ^^^ (v1 &&& (1 : Int32))) = 0 → Q (.inl (some (.int ((2 * ((v0 / (2 : Int32)) ^^^ (v1 &&& (1 : Int32)))) + ((v0 - v0 / (2 : Int32) * (2 : Int32)) ^^^ ((v1 >>> ((1 : Int32) &&& 31)) &&& (1 : Int32))))))) h)) => show Vw G jX11_becomes 0 [some (.int v0), some (.int v1), none, none] [] h Q from s_iload_n dX11_becomes_0 rfl (s_iconst 2 dX11_becomes_1 (by decide) (s_idiv dX11_becomes_2 (by decide) (s_iload_n dX11_becomes_3 rfl (s_iconst 1 dX11_becomes_4 (by decide) (s_iand dX11_becomes_5 (s_ixor dX11_becomes_6 (s_istore_n dX11_becomes_7 (Nat.le_of_ble_eq_true rfl) rfl (s_iload_n dX11_becomes_8 rfl (s_if_ne 20 dX11_becomes_9 rfl (fun q9 => s_iload_n dX11_becomes_20 rfl (s_iconst 2 dX11_becomes_21 (by decide) (s_ishr dX11_becomes_22 (s_iconst 1 dX11_becomes_23 (by decide) (s_iand dX11_becomes_24 (s_istore_n dX11_becomes_25 (Nat.le_of_ble_eq_true rfl) rfl (s_iconst 2 dX11_becomes_26 (by decide) (s_iload_n dX11_becomes_27 rfl (s_imul dX11_becomes_28 (s_iload_n dX11_becomes_29 rfl (s_iconst 2 dX11_becomes_30 (by decide) (s_irem dX11_becomes_31 (by decide) (s_iload_n dX11_becomes_32 rfl (s_ixor dX11_becomes_33 (s_iadd dX11_becomes_34 (s_ireturn dX11_becomes_35 rfl (K.1 q9))))))))))))))))) (fun q9 => s_iload_n dX11_becomes_12 rfl (s_iconst 1 dX11_becomes_13 (by decide) (s_ishr dX11_becomes_14 (s_iconst 1 dX11_becomes_15 (by decide) (s_iand dX11_becomes_16 (s_goto 25 dX11_becomes_17 rfl (s_istore_n dX11_becomes_25 (Nat.le_of_ble_eq_true rfl) rfl (s_iconst 2 dX11_becomes_26 (by decide) (s_iload_n dX11_becomes_27 rfl (s_imul dX11_becomes_28 (s_iload_n dX11_becomes_29 rfl (s_iconst 2 dX11_becomes_30 (by decide) (s_irem dX11_becomes_31 (by decide) (s_iload_n dX11_becomes_32 rfl (s_ixor dX11_becomes_33 (s_iadd dX11_becomes_34 (s_ireturn dX11_becomes_35 rfl (K.2 q9)))))))))))))))))))))))))))) ⟨fun z0 => (it_f (P := fun x => Q (.inl (some (.int x))) h) z0 k), fun z0 => (it_t (P := fun x => Q (.inl (some (.int x))) h) z0 k)⟩))
theorem dX11_between_0 : decode cX11_between 0 = .ok (.iload_n 0, 1) := by decide +kernel
theorem dX11_between_1 : decode cX11_between 1 = .ok (.ifCond .ge 7, 3) := by decide +kernel
theorem dX11_between_4 : decode cX11_between 4 = .ok (.iconst 0, 1) := by decide +kernel
theorem dX11_between_5 : decode cX11_between 5 = .ok (.goto 13, 3) := by decide +kernel
theorem dX11_between_8 : decode cX11_between 8 = .ok (.iload_n 0, 1) := by decide +kernel
theorem dX11_between_9 : decode cX11_between 9 = .ok (.iload_n 1, 1) := by decide +kernel
theorem dX11_between_10 : decode cX11_between 10 = .ok (.if_icmp .le 7, 3) := by decide +kernel
theorem dX11_between_13 : decode cX11_between 13 = .ok (.iload_n 1, 1) := by decide +kernel
theorem dX11_between_14 : decode cX11_between 14 = .ok (.goto 4, 3) := by decide +kernel
theorem dX11_between_17 : decode cX11_between 17 = .ok (.iload_n 0, 1) := by decide +kernel
theorem dX11_between_18 : decode cX11_between 18 = .ok (.ireturn, 1) := by decide +kernel
def fX11_between (v0 : Int32) (v1 : Int32) : Int32 := if 0 ≤ v0 then if v0 ≤ v1 then v0 else v1 else 0
theorem mX11_between {G : GX} {h : mH} {Q : mO → mH → Prop} {v0 : Int32} {v1 : Int32} (k : Q (.inl (some (.int (fX11_between v0 v1)))) h) : WM G jX11_between [.int v0, .int v1] h Q :=
  WM.body (ls := [some (.int v0), some (.int v1)]) rfl (by decide +kernel) rfl (Nat.le_of_ble_eq_true rfl) rfl (((fun (K : (0 ≤ v0 → ((v0 ≤ v1 → Q (.inl (some (.int v0))) h) ∧ (¬ v0 ≤ v1 → Q (.inl (some (.int v1))) h))) ∧ (¬ 0 ≤ v0 → Q (.inl (some (.int 0))) h)) => show Vw G jX11_between 0 [some (.int v0), some (.int v1)] [] h Q from s_iload_n dX11_between_0 rfl (s_if_ge 8 dX11_between_1 rfl (fun q1 => s_iload_n dX11_between_8 rfl (s_iload_n dX11_between_9 rfl (s_icmp_le 17 dX11_between_10 rfl (fun q4 => s_iload_n dX11_between_17 rfl (s_ireturn dX11_between_18 rfl ((K.1 q1).1 q4))) (fun q4 => s_iload_n dX11_between_13 rfl (s_goto 18 dX11_between_14 rfl (s_ireturn dX11_between_18 rfl ((K.1 q1).2 q4))))))) (fun q1 => s_iconst 0 dX11_between_4 (by decide) (s_goto 18 dX11_between_5 rfl (s_ireturn dX11_between_18 rfl (K.2 q1)))))) ⟨fun z0 => ⟨fun z1 => (it_t (P := fun x => Q (.inl (some (.int x))) h) z1 (it_t (P := fun x => Q (.inl (some (.int x))) h) z0 k)), fun z1 => (it_f (P := fun x => Q (.inl (some (.int x))) h) z1 (it_t (P := fun x => Q (.inl (some (.int x))) h) z0 k))⟩, fun z0 => (it_f (P := fun x => Q (.inl (some (.int x))) h) z0 k)⟩))
theorem dX11_isGood_0 : decode cX11_isGood 0 = .ok (.aload_n 0, 1) := by decide +kernel
theorem dX11_isGood_1 : decode cX11_isGood 1 = .ok (.getfield 169, 3) := by decide +kernel
theorem dX11_isGood_4 : decode cX11_isGood 4 = .ok (.ifCond .ne 7, 3) := by decide +kernel
theorem dX11_isGood_7 : decode cX11_isGood 7 = .ok (.iconst 1, 1) := by decide +kernel
theorem dX11_isGood_8 : decode cX11_isGood 8 = .ok (.goto 4, 3) := by decide +kernel
theorem dX11_isGood_11 : decode cX11_isGood 11 = .ok (.iconst 0, 1) := by decide +kernel
theorem dX11_isGood_12 : decode cX11_isGood 12 = .ok (.ireturn, 1) := by decide +kernel
def fX11_isGood (h : mH) : Int32 := if (gI h 83 10) = 0 then 1 else 0
theorem mX11_isGood {G : GX} {h : mH} {Q : mO → mH → Prop} (hi : Iv h) (k : Q (.inl (some (.int (fX11_isGood h)))) h) : WM G jX11_isGood [.ref 83] h Q :=
  WM.body (ls := [some (.ref 83)]) rfl (by decide +kernel) rfl (Nat.le_of_ble_eq_true rfl) rfl (((fun (K : (¬ (gI h 83 10) = 0 → Q (.inl (some (.int 0))) h) ∧ ((gI h 83 10) = 0 → Q (.inl (some (.int 1))) h)) => show Vw G jX11_isGood 0 [some (.ref 83)] [] h Q from s_aload_n dX11_isGood_0 rfl (s_getI dX11_isGood_1 flX11_169 (Or.inl rfl) (hi.sh rfl rfl) (s_if_ne 11 dX11_isGood_4 rfl (fun q2 => s_iconst 0 dX11_isGood_11 (by decide) (s_zreturn dX11_isGood_12 rfl (by decide) (K.1 q2))) (fun q2 => s_iconst 1 dX11_isGood_7 (by decide) (s_goto 12 dX11_isGood_8 rfl (s_zreturn dX11_isGood_12 rfl (by decide) (K.2 q2))))))) ⟨fun z0 => (it_f (P := fun x => Q (.inl (some (.int x))) h) z0 k), fun z0 => (it_t (P := fun x => Q (.inl (some (.int x))) h) z0 k)⟩))
theorem dX11_isSign_0 : decode cX11_isSign 0 = .ok (.aload_n 0, 1) := by decide +kernel
theorem dX11_isSign_1 : decode cX11_isSign 1 = .ok (.getfield 146, 3) := by decide +kernel
theorem dX11_isSign_4 : decode cX11_isSign 4 = .ok (.iconst 3, 1) := by decide +kernel
theorem dX11_isSign_5 : decode cX11_isSign 5 = .ok (.if_icmp .ne 15, 3) := by decide +kernel
theorem dX11_isSign_8 : decode cX11_isSign 8 = .ok (.aload_n 0, 1) := by decide +kernel
theorem dX11_isSign_9 : decode cX11_isSign 9 = .ok (.getfield 143, 3) := by decide +kernel
theorem dX11_isSign_12 : decode cX11_isSign 12 = .ok (.iload_n 1, 1) := by decide +kernel
theorem dX11_isSign_13 : decode cX11_isSign 13 = .ok (.if_icmp .ne 7, 3) := by decide +kernel
theorem dX11_isSign_16 : decode cX11_isSign 16 = .ok (.iconst 1, 1) := by decide +kernel
theorem dX11_isSign_17 : decode cX11_isSign 17 = .ok (.goto 4, 3) := by decide +kernel
theorem dX11_isSign_20 : decode cX11_isSign 20 = .ok (.iconst 0, 1) := by decide +kernel
theorem dX11_isSign_21 : decode cX11_isSign 21 = .ok (.ireturn, 1) := by decide +kernel
def fX11_isSign (h : mH) (v1 : Int32) : Int32 := if (gI h 83 15) = 3 then if (gI h 83 19) = v1 then 1 else 0 else 0
theorem mX11_isSign {G : GX} {h : mH} {Q : mO → mH → Prop} {v1 : Int32} (hi : Iv h) (k : Q (.inl (some (.int (fX11_isSign h v1)))) h) : WM G jX11_isSign [.ref 83, .int v1] h Q :=
  WM.body (ls := [some (.ref 83), some (.int v1)]) rfl (by decide +kernel) rfl (Nat.le_of_ble_eq_true rfl) rfl (((fun (K : (¬ (gI h 83 15) = 3 → Q (.inl (some (.int 0))) h) ∧ ((gI h 83 15) = 3 → ((¬ (gI h 83 19) = v1 → Q (.inl (some (.int 0))) h) ∧ ((gI h 83 19) = v1 → Q (.inl (some (.int 1))) h)))) => show Vw G jX11_isSign 0 [some (.ref 83), some (.int v1)] [] h Q from s_aload_n dX11_isSign_0 rfl (s_getI dX11_isSign_1 flX11_146 (Or.inl rfl) (hi.sh rfl rfl) (s_iconst 3 dX11_isSign_4 (by decide) (s_icmp_ne 20 dX11_isSign_5 rfl (fun q3 => s_iconst 0 dX11_isSign_20 (by decide) (s_zreturn dX11_isSign_21 rfl (by decide) (K.1 q3))) (fun q3 => s_aload_n dX11_isSign_8 rfl (s_getI dX11_isSign_9 flX11_143 (Or.inl rfl) (hi.sh rfl rfl) (s_iload_n dX11_isSign_12 rfl (s_icmp_ne 20 dX11_isSign_13 rfl (fun q7 => s_iconst 0 dX11_isSign_20 (by decide) (s_zreturn dX11_isSign_21 rfl (by decide) ((K.2 q3).1 q7))) (fun q7 => s_iconst 1 dX11_isSign_16 (by decide) (s_goto 21 dX11_isSign_17 rfl (s_zreturn dX11_isSign_21 rfl (by decide) ((K.2 q3).2 q7)))))))))))) ⟨fun z0 => (it_f (P := fun x => Q (.inl (some (.int x))) h) z0 k), fun z0 => ⟨fun z1 => (it_f (P := fun x => Q (.inl (some (.int x))) h) z1 (it_t (P := fun x => Q (.inl (some (.int x))) h) z0 k)), fun z1 => (it_t (P := fun x => Q (.inl (some (.int x))) h) z1 (it_t (P := fun x => Q (.inl (some (.int x))) h) z0 k))⟩⟩))
theorem dX9_isBlank_0 : decode cX9_isBlank 0 = .ok (.iload_n 0, 1) := by decide +kernel
theorem dX9_isBlank_1 : decode cX9_isBlank 1 = .ok (.bipush 32, 2) := by decide +kernel
theorem dX9_isBlank_3 : decode cX9_isBlank 3 = .ok (.if_icmp .eq 9, 3) := by decide +kernel
theorem dX9_isBlank_6 : decode cX9_isBlank 6 = .ok (.iload_n 0, 1) := by decide +kernel
theorem dX9_isBlank_7 : decode cX9_isBlank 7 = .ok (.bipush 10, 2) := by decide +kernel
theorem dX9_isBlank_9 : decode cX9_isBlank 9 = .ok (.if_icmp .ne 7, 3) := by decide +kernel
theorem dX9_isBlank_12 : decode cX9_isBlank 12 = .ok (.iconst 1, 1) := by decide +kernel
theorem dX9_isBlank_13 : decode cX9_isBlank 13 = .ok (.goto 4, 3) := by decide +kernel
theorem dX9_isBlank_16 : decode cX9_isBlank 16 = .ok (.iconst 0, 1) := by decide +kernel
theorem dX9_isBlank_17 : decode cX9_isBlank 17 = .ok (.ireturn, 1) := by decide +kernel
def fX9_isBlank (v0 : Int32) : Int32 := if v0 = 32 then 1 else if v0 = 10 then 1 else 0
theorem mX9_isBlank {G : GX} {h : mH} {Q : mO → mH → Prop} {v0 : Int32} (k : Q (.inl (some (.int (fX9_isBlank v0)))) h) : WM G jX9_isBlank [.int v0] h Q :=
  WM.body (ls := [some (.int v0)]) rfl (by decide +kernel) rfl (Nat.le_of_ble_eq_true rfl) rfl (((fun (K : (v0 = 32 → Q (.inl (some (.int 1))) h) ∧ (¬ v0 = 32 → ((¬ v0 = 10 → Q (.inl (some (.int 0))) h) ∧ (v0 = 10 → Q (.inl (some (.int 1))) h)))) => show Vw G jX9_isBlank 0 [some (.int v0)] [] h Q from s_iload_n dX9_isBlank_0 rfl (s_bipush 32 dX9_isBlank_1 (by decide) (s_icmp_eq 12 dX9_isBlank_3 rfl (fun q2 => s_iconst 1 dX9_isBlank_12 (by decide) (s_goto 17 dX9_isBlank_13 rfl (s_zreturn dX9_isBlank_17 rfl (by decide) (K.1 q2)))) (fun q2 => s_iload_n dX9_isBlank_6 rfl (s_bipush 10 dX9_isBlank_7 (by decide) (s_icmp_ne 16 dX9_isBlank_9 rfl (fun q5 => s_iconst 0 dX9_isBlank_16 (by decide) (s_zreturn dX9_isBlank_17 rfl (by decide) ((K.2 q2).1 q5))) (fun q5 => s_iconst 1 dX9_isBlank_12 (by decide) (s_goto 17 dX9_isBlank_13 rfl (s_zreturn dX9_isBlank_17 rfl (by decide) ((K.2 q2).2 q5)))))))))) ⟨fun z0 => (it_t (P := fun x => Q (.inl (some (.int x))) h) z0 k), fun z0 => ⟨fun z1 => (it_f (P := fun x => Q (.inl (some (.int x))) h) z1 (it_f (P := fun x => Q (.inl (some (.int x))) h) z0 k)), fun z1 => (it_t (P := fun x => Q (.inl (some (.int x))) h) z1 (it_f (P := fun x => Q (.inl (some (.int x))) h) z0 k))⟩⟩))
theorem dX9_isLetter_0 : decode cX9_isLetter 0 = .ok (.iload_n 0, 1) := by decide +kernel
theorem dX9_isLetter_1 : decode cX9_isLetter 1 = .ok (.bipush 97, 2) := by decide +kernel
theorem dX9_isLetter_3 : decode cX9_isLetter 3 = .ok (.if_icmp .lt 13, 3) := by decide +kernel
theorem dX9_isLetter_6 : decode cX9_isLetter 6 = .ok (.iload_n 0, 1) := by decide +kernel
theorem dX9_isLetter_7 : decode cX9_isLetter 7 = .ok (.bipush 122, 2) := by decide +kernel
theorem dX9_isLetter_9 : decode cX9_isLetter 9 = .ok (.if_icmp .gt 7, 3) := by decide +kernel
theorem dX9_isLetter_12 : decode cX9_isLetter 12 = .ok (.iconst 1, 1) := by decide +kernel
theorem dX9_isLetter_13 : decode cX9_isLetter 13 = .ok (.goto 4, 3) := by decide +kernel
theorem dX9_isLetter_16 : decode cX9_isLetter 16 = .ok (.iconst 0, 1) := by decide +kernel
theorem dX9_isLetter_17 : decode cX9_isLetter 17 = .ok (.ireturn, 1) := by decide +kernel
def fX9_isLetter (v0 : Int32) : Int32 := if v0 < 97 then 0 else if 122 < v0 then 0 else 1
theorem mX9_isLetter {G : GX} {h : mH} {Q : mO → mH → Prop} {v0 : Int32} (k : Q (.inl (some (.int (fX9_isLetter v0)))) h) : WM G jX9_isLetter [.int v0] h Q :=
  WM.body (ls := [some (.int v0)]) rfl (by decide +kernel) rfl (Nat.le_of_ble_eq_true rfl) rfl (((fun (K : (v0 < 97 → Q (.inl (some (.int 0))) h) ∧ (¬ v0 < 97 → ((122 < v0 → Q (.inl (some (.int 0))) h) ∧ (¬ 122 < v0 → Q (.inl (some (.int 1))) h)))) => show Vw G jX9_isLetter 0 [some (.int v0)] [] h Q from s_iload_n dX9_isLetter_0 rfl (s_bipush 97 dX9_isLetter_1 (by decide) (s_icmp_lt 16 dX9_isLetter_3 rfl (fun q2 => s_iconst 0 dX9_isLetter_16 (by decide) (s_zreturn dX9_isLetter_17 rfl (by decide) (K.1 q2))) (fun q2 => s_iload_n dX9_isLetter_6 rfl (s_bipush 122 dX9_isLetter_7 (by decide) (s_icmp_gt 16 dX9_isLetter_9 rfl (fun q5 => s_iconst 0 dX9_isLetter_16 (by decide) (s_zreturn dX9_isLetter_17 rfl (by decide) ((K.2 q2).1 q5))) (fun q5 => s_iconst 1 dX9_isLetter_12 (by decide) (s_goto 17 dX9_isLetter_13 rfl (s_zreturn dX9_isLetter_17 rfl (by decide) ((K.2 q2).2 q5)))))))))) ⟨fun z0 => (it_t (P := fun x => Q (.inl (some (.int x))) h) z0 k), fun z0 => ⟨fun z1 => (it_t (P := fun x => Q (.inl (some (.int x))) h) z1 (it_f (P := fun x => Q (.inl (some (.int x))) h) z0 k)), fun z1 => (it_f (P := fun x => Q (.inl (some (.int x))) h) z1 (it_f (P := fun x => Q (.inl (some (.int x))) h) z0 k))⟩⟩))
theorem dX9_isDigit_0 : decode cX9_isDigit 0 = .ok (.iload_n 0, 1) := by decide +kernel
theorem dX9_isDigit_1 : decode cX9_isDigit 1 = .ok (.bipush 48, 2) := by decide +kernel
theorem dX9_isDigit_3 : decode cX9_isDigit 3 = .ok (.if_icmp .lt 13, 3) := by decide +kernel
theorem dX9_isDigit_6 : decode cX9_isDigit 6 = .ok (.iload_n 0, 1) := by decide +kernel
theorem dX9_isDigit_7 : decode cX9_isDigit 7 = .ok (.bipush 57, 2) := by decide +kernel
theorem dX9_isDigit_9 : decode cX9_isDigit 9 = .ok (.if_icmp .gt 7, 3) := by decide +kernel
theorem dX9_isDigit_12 : decode cX9_isDigit 12 = .ok (.iconst 1, 1) := by decide +kernel
theorem dX9_isDigit_13 : decode cX9_isDigit 13 = .ok (.goto 4, 3) := by decide +kernel
theorem dX9_isDigit_16 : decode cX9_isDigit 16 = .ok (.iconst 0, 1) := by decide +kernel
theorem dX9_isDigit_17 : decode cX9_isDigit 17 = .ok (.ireturn, 1) := by decide +kernel
def fX9_isDigit (v0 : Int32) : Int32 := if v0 < 48 then 0 else if 57 < v0 then 0 else 1
theorem mX9_isDigit {G : GX} {h : mH} {Q : mO → mH → Prop} {v0 : Int32} (k : Q (.inl (some (.int (fX9_isDigit v0)))) h) : WM G jX9_isDigit [.int v0] h Q :=
  WM.body (ls := [some (.int v0)]) rfl (by decide +kernel) rfl (Nat.le_of_ble_eq_true rfl) rfl (((fun (K : (v0 < 48 → Q (.inl (some (.int 0))) h) ∧ (¬ v0 < 48 → ((57 < v0 → Q (.inl (some (.int 0))) h) ∧ (¬ 57 < v0 → Q (.inl (some (.int 1))) h)))) => show Vw G jX9_isDigit 0 [some (.int v0)] [] h Q from s_iload_n dX9_isDigit_0 rfl (s_bipush 48 dX9_isDigit_1 (by decide) (s_icmp_lt 16 dX9_isDigit_3 rfl (fun q2 => s_iconst 0 dX9_isDigit_16 (by decide) (s_zreturn dX9_isDigit_17 rfl (by decide) (K.1 q2))) (fun q2 => s_iload_n dX9_isDigit_6 rfl (s_bipush 57 dX9_isDigit_7 (by decide) (s_icmp_gt 16 dX9_isDigit_9 rfl (fun q5 => s_iconst 0 dX9_isDigit_16 (by decide) (s_zreturn dX9_isDigit_17 rfl (by decide) ((K.2 q2).1 q5))) (fun q5 => s_iconst 1 dX9_isDigit_12 (by decide) (s_goto 17 dX9_isDigit_13 rfl (s_zreturn dX9_isDigit_17 rfl (by decide) ((K.2 q2).2 q5)))))))))) ⟨fun z0 => (it_t (P := fun x => Q (.inl (some (.int x))) h) z0 k), fun z0 => ⟨fun z1 => (it_t (P := fun x => Q (.inl (some (.int x))) h) z1 (it_f (P := fun x => Q (.inl (some (.int x))) h) z0 k)), fun z1 => (it_f (P := fun x => Q (.inl (some (.int x))) h) z1 (it_f (P := fun x => Q (.inl (some (.int x))) h) z0 k))⟩⟩))
theorem dX9_isEnd_0 : decode cX9_isEnd 0 = .ok (.aload_n 0, 1) := by decide +kernel
theorem dX9_isEnd_1 : decode cX9_isEnd 1 = .ok (.getfield 50, 3) := by decide +kernel
theorem dX9_isEnd_4 : decode cX9_isEnd 4 = .ok (.ifCond .ne 7, 3) := by decide +kernel
theorem dX9_isEnd_7 : decode cX9_isEnd 7 = .ok (.iconst 1, 1) := by decide +kernel
theorem dX9_isEnd_8 : decode cX9_isEnd 8 = .ok (.goto 4, 3) := by decide +kernel
theorem dX9_isEnd_11 : decode cX9_isEnd 11 = .ok (.iconst 0, 1) := by decide +kernel
theorem dX9_isEnd_12 : decode cX9_isEnd 12 = .ok (.ireturn, 1) := by decide +kernel
def fX9_isEnd (h : mH) : Int32 := if (gI h 1 7) = 0 then 1 else 0
theorem mX9_isEnd {G : GX} {h : mH} {Q : mO → mH → Prop} (hi : Iv h) (k : Q (.inl (some (.int (fX9_isEnd h)))) h) : WM G jX9_isEnd [.ref 1] h Q :=
  WM.body (ls := [some (.ref 1)]) rfl (by decide +kernel) rfl (Nat.le_of_ble_eq_true rfl) rfl (((fun (K : (¬ (gI h 1 7) = 0 → Q (.inl (some (.int 0))) h) ∧ ((gI h 1 7) = 0 → Q (.inl (some (.int 1))) h)) => show Vw G jX9_isEnd 0 [some (.ref 1)] [] h Q from s_aload_n dX9_isEnd_0 rfl (s_getI dX9_isEnd_1 flX9_50 (Or.inl rfl) (hi.sh rfl rfl) (s_if_ne 11 dX9_isEnd_4 rfl (fun q2 => s_iconst 0 dX9_isEnd_11 (by decide) (s_zreturn dX9_isEnd_12 rfl (by decide) (K.1 q2))) (fun q2 => s_iconst 1 dX9_isEnd_7 (by decide) (s_goto 12 dX9_isEnd_8 rfl (s_zreturn dX9_isEnd_12 rfl (by decide) (K.2 q2))))))) ⟨fun z0 => (it_f (P := fun x => Q (.inl (some (.int x))) h) z0 k), fun z0 => (it_t (P := fun x => Q (.inl (some (.int x))) h) z0 k)⟩))
theorem dX9_isSign_0 : decode cX9_isSign 0 = .ok (.aload_n 0, 1) := by decide +kernel
theorem dX9_isSign_1 : decode cX9_isSign 1 = .ok (.getfield 50, 3) := by decide +kernel
theorem dX9_isSign_4 : decode cX9_isSign 4 = .ok (.iconst 3, 1) := by decide +kernel
theorem dX9_isSign_5 : decode cX9_isSign 5 = .ok (.if_icmp .ne 15, 3) := by decide +kernel
theorem dX9_isSign_8 : decode cX9_isSign 8 = .ok (.aload_n 0, 1) := by decide +kernel
theorem dX9_isSign_9 : decode cX9_isSign 9 = .ok (.getfield 59, 3) := by decide +kernel
theorem dX9_isSign_12 : decode cX9_isSign 12 = .ok (.iload_n 1, 1) := by decide +kernel
theorem dX9_isSign_13 : decode cX9_isSign 13 = .ok (.if_icmp .ne 7, 3) := by decide +kernel
theorem dX9_isSign_16 : decode cX9_isSign 16 = .ok (.iconst 1, 1) := by decide +kernel
theorem dX9_isSign_17 : decode cX9_isSign 17 = .ok (.goto 4, 3) := by decide +kernel
theorem dX9_isSign_20 : decode cX9_isSign 20 = .ok (.iconst 0, 1) := by decide +kernel
theorem dX9_isSign_21 : decode cX9_isSign 21 = .ok (.ireturn, 1) := by decide +kernel
def fX9_isSign (h : mH) (v1 : Int32) : Int32 := if (gI h 1 7) = 3 then if (gI h 1 9) = v1 then 1 else 0 else 0
theorem mX9_isSign {G : GX} {h : mH} {Q : mO → mH → Prop} {v1 : Int32} (hi : Iv h) (k : Q (.inl (some (.int (fX9_isSign h v1)))) h) : WM G jX9_isSign [.ref 1, .int v1] h Q :=
  WM.body (ls := [some (.ref 1), some (.int v1)]) rfl (by decide +kernel) rfl (Nat.le_of_ble_eq_true rfl) rfl (((fun (K : (¬ (gI h 1 7) = 3 → Q (.inl (some (.int 0))) h) ∧ ((gI h 1 7) = 3 → ((¬ (gI h 1 9) = v1 → Q (.inl (some (.int 0))) h) ∧ ((gI h 1 9) = v1 → Q (.inl (some (.int 1))) h)))) => show Vw G jX9_isSign 0 [some (.ref 1), some (.int v1)] [] h Q from s_aload_n dX9_isSign_0 rfl (s_getI dX9_isSign_1 flX9_50 (Or.inl rfl) (hi.sh rfl rfl) (s_iconst 3 dX9_isSign_4 (by decide) (s_icmp_ne 20 dX9_isSign_5 rfl (fun q3 => s_iconst 0 dX9_isSign_20 (by decide) (s_zreturn dX9_isSign_21 rfl (by decide) (K.1 q3))) (fun q3 => s_aload_n dX9_isSign_8 rfl (s_getI dX9_isSign_9 flX9_59 (Or.inl rfl) (hi.sh rfl rfl) (s_iload_n dX9_isSign_12 rfl (s_icmp_ne 20 dX9_isSign_13 rfl (fun q7 => s_iconst 0 dX9_isSign_20 (by decide) (s_zreturn dX9_isSign_21 rfl (by decide) ((K.2 q3).1 q7))) (fun q7 => s_iconst 1 dX9_isSign_16 (by decide) (s_goto 21 dX9_isSign_17 rfl (s_zreturn dX9_isSign_21 rfl (by decide) ((K.2 q3).2 q7)))))))))))) ⟨fun z0 => (it_f (P := fun x => Q (.inl (some (.int x))) h) z0 k), fun z0 => ⟨fun z1 => (it_f (P := fun x => Q (.inl (some (.int x))) h) z1 (it_t (P := fun x => Q (.inl (some (.int x))) h) z0 k)), fun z1 => (it_t (P := fun x => Q (.inl (some (.int x))) h) z1 (it_t (P := fun x => Q (.inl (some (.int x))) h) z0 k))⟩⟩))
theorem dX9_hasRoom_0 : decode cX9_hasRoom 0 = .ok (.aload_n 0, 1) := by decide +kernel
theorem dX9_hasRoom_1 : decode cX9_hasRoom 1 = .ok (.getfield 19, 3) := by decide +kernel
theorem dX9_hasRoom_4 : decode cX9_hasRoom 4 = .ok (.bipush 20, 2) := by decide +kernel
theorem dX9_hasRoom_6 : decode cX9_hasRoom 6 = .ok (.iadd, 1) := by decide +kernel
theorem dX9_hasRoom_7 : decode cX9_hasRoom 7 = .ok (.sipush 400, 3) := by decide +kernel
theorem dX9_hasRoom_10 : decode cX9_hasRoom 10 = .ok (.if_icmp .gt 7, 3) := by decide +kernel
theorem dX9_hasRoom_13 : decode cX9_hasRoom 13 = .ok (.iconst 1, 1) := by decide +kernel
theorem dX9_hasRoom_14 : decode cX9_hasRoom 14 = .ok (.goto 4, 3) := by decide +kernel
theorem dX9_hasRoom_17 : decode cX9_hasRoom 17 = .ok (.iconst 0, 1) := by decide +kernel
theorem dX9_hasRoom_18 : decode cX9_hasRoom 18 = .ok (.ireturn, 1) := by decide +kernel
def fX9_hasRoom (h : mH) : Int32 := if 400 < ((gI h 1 1) + 20) then 0 else 1
theorem mX9_hasRoom {G : GX} {h : mH} {Q : mO → mH → Prop} (hi : Iv h) (k : Q (.inl (some (.int (fX9_hasRoom h)))) h) : WM G jX9_hasRoom [.ref 1] h Q :=
  WM.body (ls := [some (.ref 1)]) rfl (by decide +kernel) rfl (Nat.le_of_ble_eq_true rfl) rfl (((fun (K : (400 < ((gI h 1 1) + 20) → Q (.inl (some (.int 0))) h) ∧ (¬ 400 < ((gI h 1 1) + 20) → Q (.inl (some (.int 1))) h)) => show Vw G jX9_hasRoom 0 [some (.ref 1)] [] h Q from s_aload_n dX9_hasRoom_0 rfl (s_getI dX9_hasRoom_1 flX9_19 (Or.inl rfl) (hi.sh rfl rfl) (s_bipush 20 dX9_hasRoom_4 (by decide) (s_iadd dX9_hasRoom_6 (s_sipush 400 dX9_hasRoom_7 (by decide) (s_icmp_gt 17 dX9_hasRoom_10 rfl (fun q5 => s_iconst 0 dX9_hasRoom_17 (by decide) (s_zreturn dX9_hasRoom_18 rfl (by decide) (K.1 q5))) (fun q5 => s_iconst 1 dX9_hasRoom_13 (by decide) (s_goto 18 dX9_hasRoom_14 rfl (s_zreturn dX9_hasRoom_18 rfl (by decide) (K.2 q5)))))))))) ⟨fun z0 => (it_t (P := fun x => Q (.inl (some (.int x))) h) z0 k), fun z0 => (it_f (P := fun x => Q (.inl (some (.int x))) h) z0 k)⟩))
theorem dX10_isTick_0 : decode cX10_isTick 0 = .ok (.iload_n 0, 1) := by decide +kernel
theorem dX10_isTick_1 : decode cX10_isTick 1 = .ok (.ifCond .lt 14, 3) := by decide +kernel
theorem dX10_isTick_4 : decode cX10_isTick 4 = .ok (.iload_n 0, 1) := by decide +kernel
theorem dX10_isTick_5 : decode cX10_isTick 5 = .ok (.sipush 9999, 3) := by decide +kernel
theorem dX10_isTick_8 : decode cX10_isTick 8 = .ok (.if_icmp .gt 7, 3) := by decide +kernel
theorem dX10_isTick_11 : decode cX10_isTick 11 = .ok (.iconst 1, 1) := by decide +kernel
theorem dX10_isTick_12 : decode cX10_isTick 12 = .ok (.goto 4, 3) := by decide +kernel
theorem dX10_isTick_15 : decode cX10_isTick 15 = .ok (.iconst 0, 1) := by decide +kernel
theorem dX10_isTick_16 : decode cX10_isTick 16 = .ok (.ireturn, 1) := by decide +kernel
def fX10_isTick (v0 : Int32) : Int32 := if v0 < 0 then 0 else if 9999 < v0 then 0 else 1
theorem mX10_isTick {G : GX} {h : mH} {Q : mO → mH → Prop} {v0 : Int32} (k : Q (.inl (some (.int (fX10_isTick v0)))) h) : WM G jX10_isTick [.int v0] h Q :=
  WM.body (ls := [some (.int v0)]) rfl (by decide +kernel) rfl (Nat.le_of_ble_eq_true rfl) rfl (((fun (K : (v0 < 0 → Q (.inl (some (.int 0))) h) ∧ (¬ v0 < 0 → ((9999 < v0 → Q (.inl (some (.int 0))) h) ∧ (¬ 9999 < v0 → Q (.inl (some (.int 1))) h)))) => show Vw G jX10_isTick 0 [some (.int v0)] [] h Q from s_iload_n dX10_isTick_0 rfl (s_if_lt 15 dX10_isTick_1 rfl (fun q1 => s_iconst 0 dX10_isTick_15 (by decide) (s_zreturn dX10_isTick_16 rfl (by decide) (K.1 q1))) (fun q1 => s_iload_n dX10_isTick_4 rfl (s_sipush 9999 dX10_isTick_5 (by decide) (s_icmp_gt 15 dX10_isTick_8 rfl (fun q4 => s_iconst 0 dX10_isTick_15 (by decide) (s_zreturn dX10_isTick_16 rfl (by decide) ((K.2 q1).1 q4))) (fun q4 => s_iconst 1 dX10_isTick_11 (by decide) (s_goto 16 dX10_isTick_12 rfl (s_zreturn dX10_isTick_16 rfl (by decide) ((K.2 q1).2 q4))))))))) ⟨fun z0 => (it_t (P := fun x => Q (.inl (some (.int x))) h) z0 k), fun z0 => ⟨fun z1 => (it_t (P := fun x => Q (.inl (some (.int x))) h) z1 (it_f (P := fun x => Q (.inl (some (.int x))) h) z0 k)), fun z1 => (it_f (P := fun x => Q (.inl (some (.int x))) h) z1 (it_f (P := fun x => Q (.inl (some (.int x))) h) z0 k))⟩⟩))
theorem dX10_isCell_0 : decode cX10_isCell 0 = .ok (.iload_n 0, 1) := by decide +kernel
theorem dX10_isCell_1 : decode cX10_isCell 1 = .ok (.ifCond .lt 14, 3) := by decide +kernel
theorem dX10_isCell_4 : decode cX10_isCell 4 = .ok (.iload_n 0, 1) := by decide +kernel
theorem dX10_isCell_5 : decode cX10_isCell 5 = .ok (.sipush 729, 3) := by decide +kernel
theorem dX10_isCell_8 : decode cX10_isCell 8 = .ok (.if_icmp .ge 7, 3) := by decide +kernel
theorem dX10_isCell_11 : decode cX10_isCell 11 = .ok (.iconst 1, 1) := by decide +kernel
theorem dX10_isCell_12 : decode cX10_isCell 12 = .ok (.goto 4, 3) := by decide +kernel
theorem dX10_isCell_15 : decode cX10_isCell 15 = .ok (.iconst 0, 1) := by decide +kernel
theorem dX10_isCell_16 : decode cX10_isCell 16 = .ok (.ireturn, 1) := by decide +kernel
def fX10_isCell (v0 : Int32) : Int32 := if v0 < 0 then 0 else if 729 ≤ v0 then 0 else 1
theorem mX10_isCell {G : GX} {h : mH} {Q : mO → mH → Prop} {v0 : Int32} (k : Q (.inl (some (.int (fX10_isCell v0)))) h) : WM G jX10_isCell [.int v0] h Q :=
  WM.body (ls := [some (.int v0)]) rfl (by decide +kernel) rfl (Nat.le_of_ble_eq_true rfl) rfl (((fun (K : (v0 < 0 → Q (.inl (some (.int 0))) h) ∧ (¬ v0 < 0 → ((729 ≤ v0 → Q (.inl (some (.int 0))) h) ∧ (¬ 729 ≤ v0 → Q (.inl (some (.int 1))) h)))) => show Vw G jX10_isCell 0 [some (.int v0)] [] h Q from s_iload_n dX10_isCell_0 rfl (s_if_lt 15 dX10_isCell_1 rfl (fun q1 => s_iconst 0 dX10_isCell_15 (by decide) (s_zreturn dX10_isCell_16 rfl (by decide) (K.1 q1))) (fun q1 => s_iload_n dX10_isCell_4 rfl (s_sipush 729 dX10_isCell_5 (by decide) (s_icmp_ge 15 dX10_isCell_8 rfl (fun q4 => s_iconst 0 dX10_isCell_15 (by decide) (s_zreturn dX10_isCell_16 rfl (by decide) ((K.2 q1).1 q4))) (fun q4 => s_iconst 1 dX10_isCell_11 (by decide) (s_goto 16 dX10_isCell_12 rfl (s_zreturn dX10_isCell_16 rfl (by decide) ((K.2 q1).2 q4))))))))) ⟨fun z0 => (it_t (P := fun x => Q (.inl (some (.int x))) h) z0 k), fun z0 => ⟨fun z1 => (it_t (P := fun x => Q (.inl (some (.int x))) h) z1 (it_f (P := fun x => Q (.inl (some (.int x))) h) z0 k)), fun z1 => (it_f (P := fun x => Q (.inl (some (.int x))) h) z1 (it_f (P := fun x => Q (.inl (some (.int x))) h) z0 k))⟩⟩))
theorem dX10_isPlace_0 : decode cX10_isPlace 0 = .ok (.iload_n 0, 1) := by decide +kernel
theorem dX10_isPlace_1 : decode cX10_isPlace 1 = .ok (.sipush (-260), 3) := by decide +kernel
theorem dX10_isPlace_4 : decode cX10_isPlace 4 = .ok (.if_icmp .lt 14, 3) := by decide +kernel
theorem dX10_isPlace_7 : decode cX10_isPlace 7 = .ok (.iload_n 0, 1) := by decide +kernel
theorem dX10_isPlace_8 : decode cX10_isPlace 8 = .ok (.sipush 260, 3) := by decide +kernel
theorem dX10_isPlace_11 : decode cX10_isPlace 11 = .ok (.if_icmp .gt 7, 3) := by decide +kernel
theorem dX10_isPlace_14 : decode cX10_isPlace 14 = .ok (.iconst 1, 1) := by decide +kernel
theorem dX10_isPlace_15 : decode cX10_isPlace 15 = .ok (.goto 4, 3) := by decide +kernel
theorem dX10_isPlace_18 : decode cX10_isPlace 18 = .ok (.iconst 0, 1) := by decide +kernel
theorem dX10_isPlace_19 : decode cX10_isPlace 19 = .ok (.ireturn, 1) := by decide +kernel
def fX10_isPlace (v0 : Int32) : Int32 := if v0 < (-260) then 0 else if 260 < v0 then 0 else 1
theorem mX10_isPlace {G : GX} {h : mH} {Q : mO → mH → Prop} {v0 : Int32} (k : Q (.inl (some (.int (fX10_isPlace v0)))) h) : WM G jX10_isPlace [.int v0] h Q :=
  WM.body (ls := [some (.int v0)]) rfl (by decide +kernel) rfl (Nat.le_of_ble_eq_true rfl) rfl (((fun (K : (v0 < (-260) → Q (.inl (some (.int 0))) h) ∧ (¬ v0 < (-260) → ((260 < v0 → Q (.inl (some (.int 0))) h) ∧ (¬ 260 < v0 → Q (.inl (some (.int 1))) h)))) => show Vw G jX10_isPlace 0 [some (.int v0)] [] h Q from s_iload_n dX10_isPlace_0 rfl (s_sipush (-260) dX10_isPlace_1 (by decide) (s_icmp_lt 18 dX10_isPlace_4 rfl (fun q2 => s_iconst 0 dX10_isPlace_18 (by decide) (s_zreturn dX10_isPlace_19 rfl (by decide) (K.1 q2))) (fun q2 => s_iload_n dX10_isPlace_7 rfl (s_sipush 260 dX10_isPlace_8 (by decide) (s_icmp_gt 18 dX10_isPlace_11 rfl (fun q5 => s_iconst 0 dX10_isPlace_18 (by decide) (s_zreturn dX10_isPlace_19 rfl (by decide) ((K.2 q2).1 q5))) (fun q5 => s_iconst 1 dX10_isPlace_14 (by decide) (s_goto 19 dX10_isPlace_15 rfl (s_zreturn dX10_isPlace_19 rfl (by decide) ((K.2 q2).2 q5)))))))))) ⟨fun z0 => (it_t (P := fun x => Q (.inl (some (.int x))) h) z0 k), fun z0 => ⟨fun z1 => (it_t (P := fun x => Q (.inl (some (.int x))) h) z1 (it_f (P := fun x => Q (.inl (some (.int x))) h) z0 k)), fun z1 => (it_f (P := fun x => Q (.inl (some (.int x))) h) z1 (it_f (P := fun x => Q (.inl (some (.int x))) h) z0 k))⟩⟩))
theorem dX10_mostOfSetting_0 : decode cX10_mostOfSetting 0 = .ok (.iload_n 0, 1) := by decide +kernel
theorem dX10_mostOfSetting_1 : decode cX10_mostOfSetting 1 = .ok (.lookupswitch 33 #[(0, 27), (1, 30)], 27) := by decide +kernel
theorem dX10_mostOfSetting_28 : decode cX10_mostOfSetting 28 = .ok (.bipush 9, 2) := by decide +kernel
theorem dX10_mostOfSetting_30 : decode cX10_mostOfSetting 30 = .ok (.ireturn, 1) := by decide +kernel
theorem dX10_mostOfSetting_31 : decode cX10_mostOfSetting 31 = .ok (.bipush 99, 2) := by decide +kernel
theorem dX10_mostOfSetting_33 : decode cX10_mostOfSetting 33 = .ok (.ireturn, 1) := by decide +kernel
theorem dX10_mostOfSetting_34 : decode cX10_mostOfSetting 34 = .ok (.bipush 90, 2) := by decide +kernel
theorem dX10_mostOfSetting_36 : decode cX10_mostOfSetting 36 = .ok (.ireturn, 1) := by decide +kernel
def fX10_mostOfSetting (v0 : Int32) : Int32 := if v0 = 0 then 9 else (if v0 = 1 then 99 else (90))
theorem mX10_mostOfSetting {G : GX} {h : mH} {Q : mO → mH → Prop} {v0 : Int32} (k : Q (.inl (some (.int (fX10_mostOfSetting v0)))) h) : WM G jX10_mostOfSetting [.int v0] h Q :=
  WM.body (ls := [some (.int v0)]) rfl (by decide +kernel) rfl (Nat.le_of_ble_eq_true rfl) rfl (((fun (K : (v0 = 0 → Q (.inl (some (.int 9))) h) ∧ (v0 = 1 → Q (.inl (some (.int 99))) h) ∧ (¬ v0 = 0 → ¬ v0 = 1 → Q (.inl (some (.int 90))) h)) => show Vw G jX10_mostOfSetting 0 [some (.int v0)] [] h Q from s_iload_n dX10_mostOfSetting_0 rfl (Decidable.byCases (fun e1_0 => s_lookup 28 dX10_mostOfSetting_1 (by decide) (by rw [e1_0] <;> decide) rfl (s_bipush 9 dX10_mostOfSetting_28 (by decide) (s_ireturn dX10_mostOfSetting_30 rfl (K.1 e1_0)))) (fun e1_0 => Decidable.byCases (fun e1_1 => s_lookup 31 dX10_mostOfSetting_1 (by decide) (by rw [e1_1] <;> decide) rfl (s_bipush 99 dX10_mostOfSetting_31 (by decide) (s_ireturn dX10_mostOfSetting_33 rfl (K.2.1 e1_1)))) (fun e1_1 => s_lookup 34 dX10_mostOfSetting_1 (by decide) (lk_out (by simp only [List.forall_mem_cons]; exact ⟨i32_ne e1_0 (by decide), i32_ne e1_1 (by decide), fun _ hh => nomatch hh⟩)) rfl (s_bipush 90 dX10_mostOfSetting_34 (by decide) (s_ireturn dX10_mostOfSetting_36 rfl (K.2.2 e1_0 e1_1))))))) ⟨fun z0 => (sw_at (P := fun x => Q (.inl (some (.int x))) h) (by simp [fX10_mostOfSetting, z0]) k), fun z1 => (sw_at (P := fun x => Q (.inl (some (.int x))) h) (by simp [fX10_mostOfSetting, z1]) k), fun y0_0 y0_1 => (it_f (P := fun x => Q (.inl (some (.int x))) h) y0_1 (it_f (P := fun x => Q (.inl (some (.int x))) h) y0_0 k))⟩))
theorem dX10_cellOf_0 : decode cX10_cellOf 0 = .ok (.bipush 27, 2) := by decide +kernel
theorem dX10_cellOf_2 : decode cX10_cellOf 2 = .ok (.iload_n 1, 1) := by decide +kernel
theorem dX10_cellOf_3 : decode cX10_cellOf 3 = .ok (.sipush 260, 3) := by decide +kernel
theorem dX10_cellOf_6 : decode cX10_cellOf 6 = .ok (.iadd, 1) := by decide +kernel
theorem dX10_cellOf_7 : decode cX10_cellOf 7 = .ok (.bipush 20, 2) := by decide +kernel
theorem dX10_cellOf_9 : decode cX10_cellOf 9 = .ok (.idiv, 1) := by decide +kernel
theorem dX10_cellOf_10 : decode cX10_cellOf 10 = .ok (.imul, 1) := by decide +kernel
theorem dX10_cellOf_11 : decode cX10_cellOf 11 = .ok (.iload_n 0, 1) := by decide +kernel
theorem dX10_cellOf_12 : decode cX10_cellOf 12 = .ok (.sipush 260, 3) := by decide +kernel
theorem dX10_cellOf_15 : decode cX10_cellOf 15 = .ok (.iadd, 1) := by decide +kernel
theorem dX10_cellOf_16 : decode cX10_cellOf 16 = .ok (.bipush 20, 2) := by decide +kernel
theorem dX10_cellOf_18 : decode cX10_cellOf 18 = .ok (.idiv, 1) := by decide +kernel
theorem dX10_cellOf_19 : decode cX10_cellOf 19 = .ok (.iadd, 1) := by decide +kernel
theorem dX10_cellOf_20 : decode cX10_cellOf 20 = .ok (.ireturn, 1) := by decide +kernel
def fX10_cellOf (v0 : Int32) (v1 : Int32) : Int32 := (27 * ((v1 + 260) / (20 : Int32))) + ((v0 + 260) / (20 : Int32))
theorem mX10_cellOf {G : GX} {h : mH} {Q : mO → mH → Prop} {v0 : Int32} {v1 : Int32} (k : Q (.inl (some (.int (fX10_cellOf v0 v1)))) h) : WM G jX10_cellOf [.int v0, .int v1] h Q :=
  WM.body (ls := [some (.int v0), some (.int v1)]) rfl (by decide +kernel) rfl (Nat.le_of_ble_eq_true rfl) rfl (((fun (K : Q (.inl (some (.int ((27 * ((v1 + 260) / (20 : Int32))) + ((v0 + 260) / (20 : Int32)))))) h) => show Vw G jX10_cellOf 0 [some (.int v0), some (.int v1)] [] h Q from s_bipush 27 dX10_cellOf_0 (by decide) (s_iload_n dX10_cellOf_2 rfl (s_sipush 260 dX10_cellOf_3 (by decide) (s_iadd dX10_cellOf_6 (s_bipush 20 dX10_cellOf_7 (by decide) (s_idiv dX10_cellOf_9 (by decide) (s_imul dX10_cellOf_10 (s_iload_n dX10_cellOf_11 rfl (s_sipush 260 dX10_cellOf_12 (by decide) (s_iadd dX10_cellOf_15 (s_bipush 20 dX10_cellOf_16 (by decide) (s_idiv dX10_cellOf_18 (by decide) (s_iadd dX10_cellOf_19 (s_ireturn dX10_cellOf_20 rfl K)))))))))))))) k))
theorem dX0_apartOf_0 : decode cX0_apartOf 0 = .ok (.bipush 8, 2) := by decide +kernel
theorem dX0_apartOf_2 : decode cX0_apartOf 2 = .ok (.iload_n 0, 1) := by decide +kernel
theorem dX0_apartOf_3 : decode cX0_apartOf 3 = .ok (.imul, 1) := by decide +kernel
theorem dX0_apartOf_4 : decode cX0_apartOf 4 = .ok (.iload_n 1, 1) := by decide +kernel
theorem dX0_apartOf_5 : decode cX0_apartOf 5 = .ok (.iadd, 1) := by decide +kernel
theorem dX0_apartOf_6 : decode cX0_apartOf 6 = .ok (.ireturn, 1) := by decide +kernel
def fX0_apartOf (v0 : Int32) (v1 : Int32) : Int32 := (8 * v0) + v1
theorem mX0_apartOf {G : GX} {h : mH} {Q : mO → mH → Prop} {v0 : Int32} {v1 : Int32} (k : Q (.inl (some (.int (fX0_apartOf v0 v1)))) h) : WM G jX0_apartOf [.int v0, .int v1] h Q :=
  WM.body (ls := [some (.int v0), some (.int v1)]) rfl (by decide +kernel) rfl (Nat.le_of_ble_eq_true rfl) rfl (((fun (K : Q (.inl (some (.int ((8 * v0) + v1)))) h) => show Vw G jX0_apartOf 0 [some (.int v0), some (.int v1)] [] h Q from s_bipush 8 dX0_apartOf_0 (by decide) (s_iload_n dX0_apartOf_2 rfl (s_imul dX0_apartOf_3 (s_iload_n dX0_apartOf_4 rfl (s_iadd dX0_apartOf_5 (s_ireturn dX0_apartOf_6 rfl K)))))) k))
theorem dX0_has_0 : decode cX0_has 0 = .ok (.iload_n 0, 1) := by decide +kernel
theorem dX0_has_1 : decode cX0_has 1 = .ok (.iload_n 1, 1) := by decide +kernel
theorem dX0_has_2 : decode cX0_has 2 = .ok (.ishr, 1) := by decide +kernel
theorem dX0_has_3 : decode cX0_has 3 = .ok (.iconst 1, 1) := by decide +kernel
theorem dX0_has_4 : decode cX0_has 4 = .ok (.iand, 1) := by decide +kernel
theorem dX0_has_5 : decode cX0_has 5 = .ok (.iconst 1, 1) := by decide +kernel
theorem dX0_has_6 : decode cX0_has 6 = .ok (.if_icmp .ne 7, 3) := by decide +kernel
theorem dX0_has_9 : decode cX0_has 9 = .ok (.iconst 1, 1) := by decide +kernel
theorem dX0_has_10 : decode cX0_has 10 = .ok (.goto 4, 3) := by decide +kernel
theorem dX0_has_13 : decode cX0_has 13 = .ok (.iconst 0, 1) := by decide +kernel
theorem dX0_has_14 : decode cX0_has 14 = .ok (.ireturn, 1) := by decide +kernel
def fX0_has (v0 : Int32) (v1 : Int32) : Int32 := if ((v0 >>> (v1 &&& 31)) &&& (1 : Int32)) = 1 then 1 else 0
theorem mX0_has {G : GX} {h : mH} {Q : mO → mH → Prop} {v0 : Int32} {v1 : Int32} (k : Q (.inl (some (.int (fX0_has v0 v1)))) h) : WM G jX0_has [.int v0, .int v1] h Q :=
  WM.body (ls := [some (.int v0), some (.int v1)]) rfl (by decide +kernel) rfl (Nat.le_of_ble_eq_true rfl) rfl (((fun (K : (¬ ((v0 >>> (v1 &&& 31)) &&& (1 : Int32)) = 1 → Q (.inl (some (.int 0))) h) ∧ (((v0 >>> (v1 &&& 31)) &&& (1 : Int32)) = 1 → Q (.inl (some (.int 1))) h)) => show Vw G jX0_has 0 [some (.int v0), some (.int v1)] [] h Q from s_iload_n dX0_has_0 rfl (s_iload_n dX0_has_1 rfl (s_ishr dX0_has_2 (s_iconst 1 dX0_has_3 (by decide) (s_iand dX0_has_4 (s_iconst 1 dX0_has_5 (by decide) (s_icmp_ne 13 dX0_has_6 rfl (fun q6 => s_iconst 0 dX0_has_13 (by decide) (s_zreturn dX0_has_14 rfl (by decide) (K.1 q6))) (fun q6 => s_iconst 1 dX0_has_9 (by decide) (s_goto 14 dX0_has_10 rfl (s_zreturn dX0_has_14 rfl (by decide) (K.2 q6))))))))))) ⟨fun z0 => (it_f (P := fun x => Q (.inl (some (.int x))) h) z0 k), fun z0 => (it_t (P := fun x => Q (.inl (some (.int x))) h) z0 k)⟩))
theorem dX0_stateOf_0 : decode cX0_stateOf 0 = .ok (.bipush 8, 2) := by decide +kernel
theorem dX0_stateOf_2 : decode cX0_stateOf 2 = .ok (.iload_n 0, 1) := by decide +kernel
theorem dX0_stateOf_3 : decode cX0_stateOf 3 = .ok (.imul, 1) := by decide +kernel
theorem dX0_stateOf_4 : decode cX0_stateOf 4 = .ok (.iload_n 1, 1) := by decide +kernel
theorem dX0_stateOf_5 : decode cX0_stateOf 5 = .ok (.iadd, 1) := by decide +kernel
theorem dX0_stateOf_6 : decode cX0_stateOf 6 = .ok (.ireturn, 1) := by decide +kernel
def fX0_stateOf (v0 : Int32) (v1 : Int32) : Int32 := (8 * v0) + v1
theorem mX0_stateOf {G : GX} {h : mH} {Q : mO → mH → Prop} {v0 : Int32} {v1 : Int32} (k : Q (.inl (some (.int (fX0_stateOf v0 v1)))) h) : WM G jX0_stateOf [.int v0, .int v1] h Q :=
  WM.body (ls := [some (.int v0), some (.int v1)]) rfl (by decide +kernel) rfl (Nat.le_of_ble_eq_true rfl) rfl (((fun (K : Q (.inl (some (.int ((8 * v0) + v1)))) h) => show Vw G jX0_stateOf 0 [some (.int v0), some (.int v1)] [] h Q from s_bipush 8 dX0_stateOf_0 (by decide) (s_iload_n dX0_stateOf_2 rfl (s_imul dX0_stateOf_3 (s_iload_n dX0_stateOf_4 rfl (s_iadd dX0_stateOf_5 (s_ireturn dX0_stateOf_6 rfl K)))))) k))
theorem dX1_placeOf_0 : decode cX1_placeOf 0 = .ok (.bipush 6, 2) := by decide +kernel
theorem dX1_placeOf_2 : decode cX1_placeOf 2 = .ok (.bipush 6, 2) := by decide +kernel
theorem dX1_placeOf_4 : decode cX1_placeOf 4 = .ok (.iload_n 0, 1) := by decide +kernel
theorem dX1_placeOf_5 : decode cX1_placeOf 5 = .ok (.imul, 1) := by decide +kernel
theorem dX1_placeOf_6 : decode cX1_placeOf 6 = .ok (.iload_n 1, 1) := by decide +kernel
theorem dX1_placeOf_7 : decode cX1_placeOf 7 = .ok (.iadd, 1) := by decide +kernel
theorem dX1_placeOf_8 : decode cX1_placeOf 8 = .ok (.imul, 1) := by decide +kernel
theorem dX1_placeOf_9 : decode cX1_placeOf 9 = .ok (.ireturn, 1) := by decide +kernel
def fX1_placeOf (v0 : Int32) (v1 : Int32) : Int32 := 6 * ((6 * v0) + v1)
theorem mX1_placeOf {G : GX} {h : mH} {Q : mO → mH → Prop} {v0 : Int32} {v1 : Int32} (k : Q (.inl (some (.int (fX1_placeOf v0 v1)))) h) : WM G jX1_placeOf [.int v0, .int v1] h Q :=
  WM.body (ls := [some (.int v0), some (.int v1)]) rfl (by decide +kernel) rfl (Nat.le_of_ble_eq_true rfl) rfl (((fun (K : Q (.inl (some (.int (6 * ((6 * v0) + v1))))) h) => show Vw G jX1_placeOf 0 [some (.int v0), some (.int v1)] [] h Q from s_bipush 6 dX1_placeOf_0 (by decide) (s_bipush 6 dX1_placeOf_2 (by decide) (s_iload_n dX1_placeOf_4 rfl (s_imul dX1_placeOf_5 (s_iload_n dX1_placeOf_6 rfl (s_iadd dX1_placeOf_7 (s_imul dX1_placeOf_8 (s_ireturn dX1_placeOf_9 rfl K)))))))) k))
theorem dX1_offOf_0 : decode cX1_offOf 0 = .ok (.bipush 6, 2) := by decide +kernel
theorem dX1_offOf_2 : decode cX1_offOf 2 = .ok (.bipush 36, 2) := by decide +kernel
theorem dX1_offOf_4 : decode cX1_offOf 4 = .ok (.iload_n 0, 1) := by decide +kernel
theorem dX1_offOf_5 : decode cX1_offOf 5 = .ok (.imul, 1) := by decide +kernel
theorem dX1_offOf_6 : decode cX1_offOf 6 = .ok (.iload_n 1, 1) := by decide +kernel
theorem dX1_offOf_7 : decode cX1_offOf 7 = .ok (.iadd, 1) := by decide +kernel
theorem dX1_offOf_8 : decode cX1_offOf 8 = .ok (.imul, 1) := by decide +kernel
theorem dX1_offOf_9 : decode cX1_offOf 9 = .ok (.ireturn, 1) := by decide +kernel
def fX1_offOf (v0 : Int32) (v1 : Int32) : Int32 := 6 * ((36 * v0) + v1)
theorem mX1_offOf {G : GX} {h : mH} {Q : mO → mH → Prop} {v0 : Int32} {v1 : Int32} (k : Q (.inl (some (.int (fX1_offOf v0 v1)))) h) : WM G jX1_offOf [.int v0, .int v1] h Q :=
  WM.body (ls := [some (.int v0), some (.int v1)]) rfl (by decide +kernel) rfl (Nat.le_of_ble_eq_true rfl) rfl (((fun (K : Q (.inl (some (.int (6 * ((36 * v0) + v1))))) h) => show Vw G jX1_offOf 0 [some (.int v0), some (.int v1)] [] h Q from s_bipush 6 dX1_offOf_0 (by decide) (s_bipush 36 dX1_offOf_2 (by decide) (s_iload_n dX1_offOf_4 rfl (s_imul dX1_offOf_5 (s_iload_n dX1_offOf_6 rfl (s_iadd dX1_offOf_7 (s_imul dX1_offOf_8 (s_ireturn dX1_offOf_9 rfl K)))))))) k))
theorem dX1_figures_0 : decode cX1_figures 0 = .ok (.bipush 10, 2) := by decide +kernel
theorem dX1_figures_2 : decode cX1_figures 2 = .ok (.iload_n 0, 1) := by decide +kernel
theorem dX1_figures_3 : decode cX1_figures 3 = .ok (.bipush 6, 2) := by decide +kernel
theorem dX1_figures_5 : decode cX1_figures 5 = .ok (.idiv, 1) := by decide +kernel
theorem dX1_figures_6 : decode cX1_figures 6 = .ok (.imul, 1) := by decide +kernel
theorem dX1_figures_7 : decode cX1_figures 7 = .ok (.iload_n 0, 1) := by decide +kernel
theorem dX1_figures_8 : decode cX1_figures 8 = .ok (.bipush 6, 2) := by decide +kernel
theorem dX1_figures_10 : decode cX1_figures 10 = .ok (.irem, 1) := by decide +kernel
theorem dX1_figures_11 : decode cX1_figures 11 = .ok (.iadd, 1) := by decide +kernel
theorem dX1_figures_12 : decode cX1_figures 12 = .ok (.ireturn, 1) := by decide +kernel
def fX1_figures (v0 : Int32) : Int32 := (10 * (v0 / (6 : Int32))) + (v0 - v0 / (6 : Int32) * (6 : Int32))
theorem mX1_figures {G : GX} {h : mH} {Q : mO → mH → Prop} {v0 : Int32} (k : Q (.inl (some (.int (fX1_figures v0)))) h) : WM G jX1_figures [.int v0] h Q :=
  WM.body (ls := [some (.int v0)]) rfl (by decide +kernel) rfl (Nat.le_of_ble_eq_true rfl) rfl (((fun (K : Q (.inl (some (.int ((10 * (v0 / (6 : Int32))) + (v0 - v0 / (6 : Int32) * (6 : Int32)))))) h) => show Vw G jX1_figures 0 [some (.int v0)] [] h Q from s_bipush 10 dX1_figures_0 (by decide) (s_iload_n dX1_figures_2 rfl (s_bipush 6 dX1_figures_3 (by decide) (s_idiv dX1_figures_5 (by decide) (s_imul dX1_figures_6 (s_iload_n dX1_figures_7 rfl (s_bipush 6 dX1_figures_8 (by decide) (s_irem dX1_figures_10 (by decide) (s_iadd dX1_figures_11 (s_ireturn dX1_figures_12 rfl K)))))))))) k))
theorem dX2_slope_0 : decode cX2_slope 0 = .ok (.iload_n 0, 1) := by decide +kernel
theorem dX2_slope_1 : decode cX2_slope 1 = .ok (.iload_n 1, 1) := by decide +kernel
theorem dX2_slope_2 : decode cX2_slope 2 = .ok (.if_icmp .gt 5, 3) := by decide +kernel
theorem dX2_slope_5 : decode cX2_slope 5 = .ok (.iload_n 0, 1) := by decide +kernel
theorem dX2_slope_6 : decode cX2_slope 6 = .ok (.ireturn, 1) := by decide +kernel
theorem dX2_slope_7 : decode cX2_slope 7 = .ok (.iload_n 0, 1) := by decide +kernel
theorem dX2_slope_8 : decode cX2_slope 8 = .ok (.iconst 3, 1) := by decide +kernel
theorem dX2_slope_9 : decode cX2_slope 9 = .ok (.iload_n 1, 1) := by decide +kernel
theorem dX2_slope_10 : decode cX2_slope 10 = .ok (.imul, 1) := by decide +kernel
theorem dX2_slope_11 : decode cX2_slope 11 = .ok (.if_icmp .gt 11, 3) := by decide +kernel
theorem dX2_slope_14 : decode cX2_slope 14 = .ok (.iconst 2, 1) := by decide +kernel
theorem dX2_slope_15 : decode cX2_slope 15 = .ok (.iload_n 1, 1) := by decide +kernel
theorem dX2_slope_16 : decode cX2_slope 16 = .ok (.imul, 1) := by decide +kernel
theorem dX2_slope_17 : decode cX2_slope 17 = .ok (.iload_n 0, 1) := by decide +kernel
theorem dX2_slope_18 : decode cX2_slope 18 = .ok (.isub, 1) := by decide +kernel
theorem dX2_slope_19 : decode cX2_slope 19 = .ok (.goto 8, 3) := by decide +kernel
theorem dX2_slope_22 : decode cX2_slope 22 = .ok (.iload_n 0, 1) := by decide +kernel
theorem dX2_slope_23 : decode cX2_slope 23 = .ok (.iconst 4, 1) := by decide +kernel
theorem dX2_slope_24 : decode cX2_slope 24 = .ok (.iload_n 1, 1) := by decide +kernel
theorem dX2_slope_25 : decode cX2_slope 25 = .ok (.imul, 1) := by decide +kernel
theorem dX2_slope_26 : decode cX2_slope 26 = .ok (.isub, 1) := by decide +kernel
theorem dX2_slope_27 : decode cX2_slope 27 = .ok (.ireturn, 1) := by decide +kernel
def fX2_slope (v0 : Int32) (v1 : Int32) : Int32 := if v1 < v0 then if (3 * v1) < v0 then v0 - (4 * v1) else (2 * v1) - v0 else v0
theorem mX2_slope {G : GX} {h : mH} {Q : mO → mH → Prop} {v0 : Int32} {v1 : Int32} (k : Q (.inl (some (.int (fX2_slope v0 v1)))) h) : WM G jX2_slope [.int v0, .int v1] h Q :=
  WM.body (ls := [some (.int v0), some (.int v1)]) rfl (by decide +kernel) rfl (Nat.le_of_ble_eq_true rfl) rfl (((fun (K : (v1 < v0 → (((3 * v1) < v0 → Q (.inl (some (.int (v0 - (4 * v1))))) h) ∧ (¬ (3 * v1) < v0 → Q (.inl (some (.int ((2 * v1) - v0)))) h))) ∧ (¬ v1 < v0 → Q (.inl (some (.int v0))) h)) => show Vw G jX2_slope 0 [some (.int v0), some (.int v1)] [] h Q from s_iload_n dX2_slope_0 rfl (s_iload_n dX2_slope_1 rfl (s_icmp_gt 7 dX2_slope_2 rfl (fun q2 => s_iload_n dX2_slope_7 rfl (s_iconst 3 dX2_slope_8 (by decide) (s_iload_n dX2_slope_9 rfl (s_imul dX2_slope_10 (s_icmp_gt 22 dX2_slope_11 rfl (fun q7 => s_iload_n dX2_slope_22 rfl (s_iconst 4 dX2_slope_23 (by decide) (s_iload_n dX2_slope_24 rfl (s_imul dX2_slope_25 (s_isub dX2_slope_26 (s_ireturn dX2_slope_27 rfl ((K.1 q2).1 q7))))))) (fun q7 => s_iconst 2 dX2_slope_14 (by decide) (s_iload_n dX2_slope_15 rfl (s_imul dX2_slope_16 (s_iload_n dX2_slope_17 rfl (s_isub dX2_slope_18 (s_goto 27 dX2_slope_19 rfl (s_ireturn dX2_slope_27 rfl ((K.1 q2).2 q7))))))))))))) (fun q2 => s_iload_n dX2_slope_5 rfl (s_ireturn dX2_slope_6 rfl (K.2 q2)))))) ⟨fun z0 => ⟨fun z1 => (it_t (P := fun x => Q (.inl (some (.int x))) h) z1 (it_t (P := fun x => Q (.inl (some (.int x))) h) z0 k)), fun z1 => (it_f (P := fun x => Q (.inl (some (.int x))) h) z1 (it_t (P := fun x => Q (.inl (some (.int x))) h) z0 k))⟩, fun z0 => (it_f (P := fun x => Q (.inl (some (.int x))) h) z0 k)⟩))
theorem dX2_arch_0 : decode cX2_arch 0 = .ok (.iload_n 0, 1) := by decide +kernel
theorem dX2_arch_1 : decode cX2_arch 1 = .ok (.iload_n 1, 1) := by decide +kernel
theorem dX2_arch_2 : decode cX2_arch 2 = .ok (.if_icmp .gt 11, 3) := by decide +kernel
theorem dX2_arch_5 : decode cX2_arch 5 = .ok (.iconst 4, 1) := by decide +kernel
theorem dX2_arch_6 : decode cX2_arch 6 = .ok (.iload_n 0, 1) := by decide +kernel
theorem dX2_arch_7 : decode cX2_arch 7 = .ok (.imul, 1) := by decide +kernel
theorem dX2_arch_8 : decode cX2_arch 8 = .ok (.iload_n 1, 1) := by decide +kernel
theorem dX2_arch_9 : decode cX2_arch 9 = .ok (.iload_n 0, 1) := by decide +kernel
theorem dX2_arch_10 : decode cX2_arch 10 = .ok (.isub, 1) := by decide +kernel
theorem dX2_arch_11 : decode cX2_arch 11 = .ok (.imul, 1) := by decide +kernel
theorem dX2_arch_12 : decode cX2_arch 12 = .ok (.ireturn, 1) := by decide +kernel
theorem dX2_arch_13 : decode cX2_arch 13 = .ok (.iload_n 0, 1) := by decide +kernel
theorem dX2_arch_14 : decode cX2_arch 14 = .ok (.iload_n 1, 1) := by decide +kernel
theorem dX2_arch_15 : decode cX2_arch 15 = .ok (.isub, 1) := by decide +kernel
theorem dX2_arch_16 : decode cX2_arch 16 = .ok (.istore_n 2, 1) := by decide +kernel
theorem dX2_arch_17 : decode cX2_arch 17 = .ok (.bipush (-4), 2) := by decide +kernel
theorem dX2_arch_19 : decode cX2_arch 19 = .ok (.iload_n 2, 1) := by decide +kernel
theorem dX2_arch_20 : decode cX2_arch 20 = .ok (.imul, 1) := by decide +kernel
theorem dX2_arch_21 : decode cX2_arch 21 = .ok (.iload_n 1, 1) := by decide +kernel
theorem dX2_arch_22 : decode cX2_arch 22 = .ok (.iload_n 2, 1) := by decide +kernel
theorem dX2_arch_23 : decode cX2_arch 23 = .ok (.isub, 1) := by decide +kernel
theorem dX2_arch_24 : decode cX2_arch 24 = .ok (.imul, 1) := by decide +kernel
theorem dX2_arch_25 : decode cX2_arch 25 = .ok (.ireturn, 1) := by decide +kernel
def fX2_arch (v0 : Int32) (v1 : Int32) : Int32 := if v1 < v0 then ((-4) * (v0 - v1)) * (v1 - (v0 - v1)) else (4 * v0) * (v1 - v0)
theorem mX2_arch {G : GX} {h : mH} {Q : mO → mH → Prop} {v0 : Int32} {v1 : Int32} (k : Q (.inl (some (.int (fX2_arch v0 v1)))) h) : WM G jX2_arch [.int v0, .int v1] h Q :=
  WM.body (ls := [some (.int v0), some (.int v1), none]) rfl (by decide +kernel) rfl (Nat.le_of_ble_eq_true rfl) rfl (((fun (K : (v1 < v0 → Q (.inl (some (.int (((-4) * (v0 - v1)) * (v1 - (v0 - v1)))))) h) ∧ (¬ v1 < v0 → Q (.inl (some (.int ((4 * v0) * (v1 - v0))))) h)) => show Vw G jX2_arch 0 [some (.int v0), some (.int v1), none] [] h Q from s_iload_n dX2_arch_0 rfl (s_iload_n dX2_arch_1 rfl (s_icmp_gt 13 dX2_arch_2 rfl (fun q2 => s_iload_n dX2_arch_13 rfl (s_iload_n dX2_arch_14 rfl (s_isub dX2_arch_15 (s_istore_n dX2_arch_16 (Nat.le_of_ble_eq_true rfl) rfl (s_bipush (-4) dX2_arch_17 (by decide) (s_iload_n dX2_arch_19 rfl (s_imul dX2_arch_20 (s_iload_n dX2_arch_21 rfl (s_iload_n dX2_arch_22 rfl (s_isub dX2_arch_23 (s_imul dX2_arch_24 (s_ireturn dX2_arch_25 rfl (K.1 q2))))))))))))) (fun q2 => s_iconst 4 dX2_arch_5 (by decide) (s_iload_n dX2_arch_6 rfl (s_imul dX2_arch_7 (s_iload_n dX2_arch_8 rfl (s_iload_n dX2_arch_9 rfl (s_isub dX2_arch_10 (s_imul dX2_arch_11 (s_ireturn dX2_arch_12 rfl (K.2 q2)))))))))))) ⟨fun z0 => (it_t (P := fun x => Q (.inl (some (.int x))) h) z0 k), fun z0 => (it_f (P := fun x => Q (.inl (some (.int x))) h) z0 k)⟩))
theorem dX11_thrown_0 : decode cX11_thrown 0 = .ok (.aload_n 0, 1) := by decide +kernel
theorem dX11_thrown_1 : decode cX11_thrown 1 = .ok (.getfield 113, 3) := by decide +kernel
theorem dX11_thrown_4 : decode cX11_thrown 4 = .ok (.ireturn, 1) := by decide +kernel
def fX11_thrown (h : mH) : Int32 := gI h 83 0
theorem mX11_thrown {G : GX} {h : mH} {Q : mO → mH → Prop} (hi : Iv h) (k : Q (.inl (some (.int (fX11_thrown h)))) h) : WM G jX11_thrown [.ref 83] h Q :=
  WM.body (ls := [some (.ref 83)]) rfl (by decide +kernel) rfl (Nat.le_of_ble_eq_true rfl) rfl (((fun (K : Q (.inl (some (.int (gI h 83 0)))) h) => show Vw G jX11_thrown 0 [some (.ref 83)] [] h Q from s_aload_n dX11_thrown_0 rfl (s_getI dX11_thrown_1 flX11_113 (Or.inl rfl) (hi.sh rfl rfl) (s_ireturn dX11_thrown_4 rfl K))) k))
theorem dX10_fault_0 : decode cX10_fault 0 = .ok (.aload_n 0, 1) := by decide +kernel
theorem dX10_fault_1 : decode cX10_fault 1 = .ok (.getfield 12, 3) := by decide +kernel
theorem dX10_fault_4 : decode cX10_fault 4 = .ok (.getfield 169, 3) := by decide +kernel
theorem dX10_fault_7 : decode cX10_fault 7 = .ok (.ireturn, 1) := by decide +kernel
def fX10_fault (h : mH) : Int32 := gI h 1 3
theorem mX10_fault {G : GX} {h : mH} {Q : mO → mH → Prop} (hi : Iv h) (k : Q (.inl (some (.int (fX10_fault h)))) h) : WM G jX10_fault [.ref 0] h Q :=
  WM.body (ls := [some (.ref 0)]) rfl (by decide +kernel) rfl (Nat.le_of_ble_eq_true rfl) rfl (((fun (K : Q (.inl (some (.int (gI h 1 3)))) h) => show Vw G jX10_fault 0 [some (.ref 0)] [] h Q from s_aload_n dX10_fault_0 rfl (s_getR (v := .ref 1) dX10_fault_1 flX10_12 rfl (hi.sh rfl rfl) (hi.rf (o := 0) (k := 0) (d := 1) rfl rfl) (s_getI dX10_fault_4 flX10_169 (Or.inl rfl) (hi.sh rfl rfl) (s_ireturn dX10_fault_7 rfl K)))) k))
end
