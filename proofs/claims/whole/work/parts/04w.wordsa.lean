theorem w_0 : Cond.selects RX2 yX2_fade yX2_fade ∈ gT := gT_in (List.mem_of_getElem? (i := 0) (by decide +kernel)) rfl
theorem w_1 : Cond.selects RX10 yX10_refuse yX10_refuse ∈ gT := gT_in (List.mem_of_getElem? (i := 1) (by decide +kernel)) rfl
theorem w_2 : Cond.selects RX10 yX10_needBytes yX10_needBytes ∈ gT := gT_in (List.mem_of_getElem? (i := 2) (by decide +kernel)) rfl
theorem w_3 : Cond.selects "java/lang/Throwable" ⟨"java/lang/Throwable", "fillInStackTrace", "(I)Ljava/lang/Throwable;"⟩ ⟨"java/lang/Throwable", "fillInStackTrace", "(I)Ljava/lang/Throwable;"⟩ ∈ gT := gT_in (List.mem_of_getElem? (i := 3) (by decide +kernel)) rfl
theorem w_4 : Cond.selects RX10 yX10_endOfText yX10_endOfText ∈ gT := gT_in (List.mem_of_getElem? (i := 4) (by decide +kernel)) rfl
theorem w_5 : Cond.selects RX7 yX7_closeBlock yX7_closeBlock ∈ gT := gT_in (List.mem_of_getElem? (i := 5) (by decide +kernel)) rfl
theorem w_6 : Cond.selects RX7 yX7_addStep yX7_addStep ∈ gT := gT_in (List.mem_of_getElem? (i := 6) (by decide +kernel)) rfl
theorem w_7 : Cond.selects RX7 yX7_openBlock yX7_openBlock ∈ gT := gT_in (List.mem_of_getElem? (i := 7) (by decide +kernel)) rfl
theorem w_8 : Cond.selects RX7 yX7_readAct yX7_readAct ∈ gT := gT_in (List.mem_of_getElem? (i := 8) (by decide +kernel)) rfl
theorem w_9 : Cond.selects RX7 yX7_readNumber yX7_readNumber ∈ gT := gT_in (List.mem_of_getElem? (i := 9) (by decide +kernel)) rfl
theorem w_10 : Cond.selects RX7 yX7_readChange yX7_readChange ∈ gT := gT_in (List.mem_of_getElem? (i := 10) (by decide +kernel)) rfl
theorem w_11 : Cond.selects RX7 yX7_readTest yX7_readTest ∈ gT := gT_in (List.mem_of_getElem? (i := 11) (by decide +kernel)) rfl
theorem w_12 : Cond.selects RX6 yX6_goesAside yX6_goesAside ∈ gT := gT_in (List.mem_of_getElem? (i := 12) (by decide +kernel)) rfl
theorem w_13 : Cond.selects RX6 yX6_draw yX6_draw ∈ gT := gT_in (List.mem_of_getElem? (i := 13) (by decide +kernel)) rfl
theorem w_14 : Cond.selects RX6 yX6_mark yX6_mark ∈ gT := gT_in (List.mem_of_getElem? (i := 14) (by decide +kernel)) rfl
theorem w_15 : Cond.selects RX6 yX6_lift yX6_lift ∈ gT := gT_in (List.mem_of_getElem? (i := 15) (by decide +kernel)) rfl
theorem w_16 : Cond.selects RX6 yX6_alter yX6_alter ∈ gT := gT_in (List.mem_of_getElem? (i := 16) (by decide +kernel)) rfl
theorem w_17 : Cond.selects RX6 yX6_holds yX6_holds ∈ gT := gT_in (List.mem_of_getElem? (i := 17) (by decide +kernel)) rfl
theorem w_18 : Cond.selects RX10 yX10_markSeen yX10_markSeen ∈ gT := gT_in (List.mem_of_getElem? (i := 18) (by decide +kernel)) rfl
theorem w_19 : Cond.selects RX10 yX10_cellsSeen yX10_cellsSeen ∈ gT := gT_in (List.mem_of_getElem? (i := 19) (by decide +kernel)) rfl
theorem w_20 : Cond.selects RX10 yX10_needPortrait yX10_needPortrait ∈ gT := gT_in (List.mem_of_getElem? (i := 20) (by decide +kernel)) rfl
theorem w_21 : Cond.selects RX10 yX10_takeInto yX10_takeInto ∈ gT := gT_in (List.mem_of_getElem? (i := 21) (by decide +kernel)) rfl
theorem w_22 : Cond.selects RX10 yX10_compare yX10_compare ∈ gT := gT_in (List.mem_of_getElem? (i := 22) (by decide +kernel)) rfl
theorem w_23 : Cond.selects RX10 yX10_copyWith yX10_copyWith ∈ gT := gT_in (List.mem_of_getElem? (i := 23) (by decide +kernel)) rfl
theorem w_24 : Cond.selects RX4 yX4_pair yX4_pair ∈ gT := gT_in (List.mem_of_getElem? (i := 24) (by decide +kernel)) rfl
theorem w_25 : Cond.selects RX4 yX4_agree yX4_agree ∈ gT := gT_in (List.mem_of_getElem? (i := 25) (by decide +kernel)) rfl
theorem w_26 : Cond.selects RX4 yX4_meet yX4_meet ∈ gT := gT_in (List.mem_of_getElem? (i := 26) (by decide +kernel)) rfl
theorem w_27 : Cond.selects RX4 yX4_findTimes yX4_findTimes ∈ gT := gT_in (List.mem_of_getElem? (i := 27) (by decide +kernel)) rfl
theorem w_28 : Cond.selects RX4 yX4_oneTimeForAll yX4_oneTimeForAll ∈ gT := gT_in (List.mem_of_getElem? (i := 28) (by decide +kernel)) rfl
theorem w_29 : Cond.selects RX10 yX10_leastOfKind yX10_leastOfKind ∈ gT := gT_in (List.mem_of_getElem? (i := 29) (by decide +kernel)) rfl
theorem w_30 : Cond.selects RX1 yX1_findPlaces yX1_findPlaces ∈ gT := gT_in (List.mem_of_getElem? (i := 30) (by decide +kernel)) rfl
theorem w_31 : Cond.selects RX1 yX1_findOffs yX1_findOffs ∈ gT := gT_in (List.mem_of_getElem? (i := 31) (by decide +kernel)) rfl
theorem w_32 : Cond.selects RX1 yX1_weighAll yX1_weighAll ∈ gT := gT_in (List.mem_of_getElem? (i := 32) (by decide +kernel)) rfl
theorem w_33 : Cond.selects RX1 yX1_weigh yX1_weigh ∈ gT := gT_in (List.mem_of_getElem? (i := 33) (by decide +kernel)) rfl
theorem w_34 : Cond.selects RX1 yX1_tryCart yX1_tryCart ∈ gT := gT_in (List.mem_of_getElem? (i := 34) (by decide +kernel)) rfl
theorem w_35 : Cond.selects RX1 yX1_modelOf yX1_modelOf ∈ gT := gT_in (List.mem_of_getElem? (i := 35) (by decide +kernel)) rfl
theorem w_36 : Cond.selects RX1 yX1_isStill yX1_isStill ∈ gT := gT_in (List.mem_of_getElem? (i := 36) (by decide +kernel)) rfl
theorem w_37 : Cond.selects RX1 yX1_isCartsWay yX1_isCartsWay ∈ gT := gT_in (List.mem_of_getElem? (i := 37) (by decide +kernel)) rfl
theorem w_38 : Cond.selects RX5 yX5_fewestUnlike yX5_fewestUnlike ∈ gT := gT_in (List.mem_of_getElem? (i := 38) (by decide +kernel)) rfl
theorem w_39 : Cond.selects RX10 yX10_markPortrait yX10_markPortrait ∈ gT := gT_in (List.mem_of_getElem? (i := 39) (by decide +kernel)) rfl
theorem w_40 : Cond.selects RX0 yX0_measure yX0_measure ∈ gT := gT_in (List.mem_of_getElem? (i := 40) (by decide +kernel)) rfl
theorem w_41 : Cond.selects RX0 yX0_weigh yX0_weigh ∈ gT := gT_in (List.mem_of_getElem? (i := 41) (by decide +kernel)) rfl
theorem w_42 : Cond.selects RX0 yX0_choose yX0_choose ∈ gT := gT_in (List.mem_of_getElem? (i := 42) (by decide +kernel)) rfl
theorem w_43 : Cond.selects RX0 yX0_through yX0_through ∈ gT := gT_in (List.mem_of_getElem? (i := 43) (by decide +kernel)) rfl
theorem w_44 : Cond.selects RX0 yX0_withTea yX0_withTea ∈ gT := gT_in (List.mem_of_getElem? (i := 44) (by decide +kernel)) rfl
theorem w_45 : Cond.selects RX0 yX0_soonestTea yX0_soonestTea ∈ gT := gT_in (List.mem_of_getElem? (i := 45) (by decide +kernel)) rfl
theorem w_46 : Cond.selects RX0 yX0_costWithTea yX0_costWithTea ∈ gT := gT_in (List.mem_of_getElem? (i := 46) (by decide +kernel)) rfl
theorem w_47 : Cond.selects RX11 yX11_lays yX11_lays ∈ gT := gT_in (List.mem_of_getElem? (i := 47) (by decide +kernel)) rfl
theorem w_48 : Cond.selects RX11 yX11_right yX11_right ∈ gT := gT_in (List.mem_of_getElem? (i := 48) (by decide +kernel)) rfl
theorem w_49 : Cond.selects RX11 yX11_steps yX11_steps ∈ gT := gT_in (List.mem_of_getElem? (i := 49) (by decide +kernel)) rfl
theorem w_50 : Cond.selects RX11 yX11_byteAt yX11_byteAt ∈ gT := gT_in (List.mem_of_getElem? (i := 50) (by decide +kernel)) rfl
theorem w_51 : Cond.selects RX11 yX11_isGood yX11_isGood ∈ gT := gT_in (List.mem_of_getElem? (i := 51) (by decide +kernel)) rfl
theorem w_52 : Cond.selects RX11 yX11_line yX11_line ∈ gT := gT_in (List.mem_of_getElem? (i := 52) (by decide +kernel)) rfl
theorem w_53 : Cond.selects RX11 yX11_is yX11_is ∈ gT := gT_in (List.mem_of_getElem? (i := 53) (by decide +kernel)) rfl
theorem w_54 : Cond.selects RX11 yX11_readsPendulum yX11_readsPendulum ∈ gT := gT_in (List.mem_of_getElem? (i := 54) (by decide +kernel)) rfl
theorem w_55 : Cond.selects RX11 yX11_wrong yX11_wrong ∈ gT := gT_in (List.mem_of_getElem? (i := 55) (by decide +kernel)) rfl
theorem w_56 : Cond.selects RX11 yX11_need yX11_need ∈ gT := gT_in (List.mem_of_getElem? (i := 56) (by decide +kernel)) rfl
theorem w_57 : Cond.selects RX11 yX11_number yX11_number ∈ gT := gT_in (List.mem_of_getElem? (i := 57) (by decide +kernel)) rfl
theorem w_58 : Cond.selects RX11 yX11_signed yX11_signed ∈ gT := gT_in (List.mem_of_getElem? (i := 58) (by decide +kernel)) rfl
theorem w_59 : Cond.selects RX11 yX11_copies yX11_copies ∈ gT := gT_in (List.mem_of_getElem? (i := 59) (by decide +kernel)) rfl
theorem w_60 : Cond.selects RX11 yX11_isPendulum yX11_isPendulum ∈ gT := gT_in (List.mem_of_getElem? (i := 60) (by decide +kernel)) rfl
theorem w_61 : Cond.selects RX11 yX11_period yX11_period ∈ gT := gT_in (List.mem_of_getElem? (i := 61) (by decide +kernel)) rfl
theorem w_62 : Cond.selects RX11 yX11_refuses yX11_refuses ∈ gT := gT_in (List.mem_of_getElem? (i := 62) (by decide +kernel)) rfl
theorem w_63 : Cond.selects RX11 yX11_isTick yX11_isTick ∈ gT := gT_in (List.mem_of_getElem? (i := 63) (by decide +kernel)) rfl
theorem w_64 : Cond.selects RX11 yX11_at yX11_at ∈ gT := gT_in (List.mem_of_getElem? (i := 64) (by decide +kernel)) rfl
theorem w_65 : Cond.selects RX11 yX11_penNow yX11_penNow ∈ gT := gT_in (List.mem_of_getElem? (i := 65) (by decide +kernel)) rfl
theorem w_66 : Cond.selects RX11 yX11_penOf yX11_penOf ∈ gT := gT_in (List.mem_of_getElem? (i := 66) (by decide +kernel)) rfl
theorem w_67 : Cond.selects RX11 yX11_isSpan yX11_isSpan ∈ gT := gT_in (List.mem_of_getElem? (i := 67) (by decide +kernel)) rfl
theorem w_68 : Cond.selects RX11 yX11_clears yX11_clears ∈ gT := gT_in (List.mem_of_getElem? (i := 68) (by decide +kernel)) rfl
theorem w_69 : Cond.selects RX11 yX11_roundOf yX11_roundOf ∈ gT := gT_in (List.mem_of_getElem? (i := 69) (by decide +kernel)) rfl
theorem w_70 : Cond.selects RX11 yX11_isPortrait yX11_isPortrait ∈ gT := gT_in (List.mem_of_getElem? (i := 70) (by decide +kernel)) rfl
theorem w_71 : Cond.selects RX11 yX11_alikeOf yX11_alikeOf ∈ gT := gT_in (List.mem_of_getElem? (i := 71) (by decide +kernel)) rfl
theorem w_72 : Cond.selects RX11 yX11_isWay yX11_isWay ∈ gT := gT_in (List.mem_of_getElem? (i := 72) (by decide +kernel)) rfl
theorem w_73 : Cond.selects RX11 yX11_sizeOf yX11_sizeOf ∈ gT := gT_in (List.mem_of_getElem? (i := 73) (by decide +kernel)) rfl
theorem w_74 : Cond.selects RX11 yX11_isTime yX11_isTime ∈ gT := gT_in (List.mem_of_getElem? (i := 74) (by decide +kernel)) rfl
theorem w_75 : Cond.selects RX11 yX11_offOf yX11_offOf ∈ gT := gT_in (List.mem_of_getElem? (i := 75) (by decide +kernel)) rfl
theorem w_76 : Cond.selects RX11 yX11_shows yX11_shows ∈ gT := gT_in (List.mem_of_getElem? (i := 76) (by decide +kernel)) rfl
theorem w_77 : Cond.selects RX11 yX11_wayOf yX11_wayOf ∈ gT := gT_in (List.mem_of_getElem? (i := 77) (by decide +kernel)) rfl
theorem w_78 : Cond.selects RX11 yX11_fewest yX11_fewest ∈ gT := gT_in (List.mem_of_getElem? (i := 78) (by decide +kernel)) rfl
theorem w_79 : Cond.selects RX11 yX11_allMoved yX11_allMoved ∈ gT := gT_in (List.mem_of_getElem? (i := 79) (by decide +kernel)) rfl
theorem w_80 : Cond.selects RX11 yX11_moved yX11_moved ∈ gT := gT_in (List.mem_of_getElem? (i := 80) (by decide +kernel)) rfl
theorem w_81 : Cond.selects RX11 yX11_countsUp yX11_countsUp ∈ gT := gT_in (List.mem_of_getElem? (i := 81) (by decide +kernel)) rfl
theorem w_82 : Cond.selects RX11 yX11_isSign yX11_isSign ∈ gT := gT_in (List.mem_of_getElem? (i := 82) (by decide +kernel)) rfl
theorem w_83 : Cond.selects RX11 yX11_closes yX11_closes ∈ gT := gT_in (List.mem_of_getElem? (i := 83) (by decide +kernel)) rfl
theorem w_84 : Cond.selects RX11 yX11_puts yX11_puts ∈ gT := gT_in (List.mem_of_getElem? (i := 84) (by decide +kernel)) rfl
theorem w_85 : Cond.selects RX11 yX11_opens yX11_opens ∈ gT := gT_in (List.mem_of_getElem? (i := 85) (by decide +kernel)) rfl
theorem w_86 : Cond.selects RX11 yX11_act yX11_act ∈ gT := gT_in (List.mem_of_getElem? (i := 86) (by decide +kernel)) rfl
theorem w_87 : Cond.selects RX11 yX11_test yX11_test ∈ gT := gT_in (List.mem_of_getElem? (i := 87) (by decide +kernel)) rfl
theorem w_88 : Cond.selects RX11 yX11_performs yX11_performs ∈ gT := gT_in (List.mem_of_getElem? (i := 88) (by decide +kernel)) rfl
theorem w_89 : Cond.selects RX11 yX11_draws yX11_draws ∈ gT := gT_in (List.mem_of_getElem? (i := 89) (by decide +kernel)) rfl
theorem w_90 : Cond.selects RX11 yX11_cellGoing yX11_cellGoing ∈ gT := gT_in (List.mem_of_getElem? (i := 90) (by decide +kernel)) rfl
theorem w_91 : Cond.selects RX11 yX11_penGoing yX11_penGoing ∈ gT := gT_in (List.mem_of_getElem? (i := 91) (by decide +kernel)) rfl
theorem w_92 : Cond.selects RX11 yX11_holds yX11_holds ∈ gT := gT_in (List.mem_of_getElem? (i := 92) (by decide +kernel)) rfl
theorem w_93 : Cond.initialized RL ∈ gT := gT_in (List.mem_of_getElem? (i := 93) (by decide +kernel)) rfl
theorem w_94 : Cond.initialized RX10 ∈ gT := gT_in (List.mem_of_getElem? (i := 94) (by decide +kernel)) rfl
theorem w_95 : Cond.initialized RX9 ∈ gT := gT_in (List.mem_of_getElem? (i := 95) (by decide +kernel)) rfl
theorem w_96 : Cond.initialized RX2 ∈ gT := gT_in (List.mem_of_getElem? (i := 96) (by decide +kernel)) rfl
theorem w_97 : Cond.initialized RJ7 ∈ gT := gT_in (List.mem_of_getElem? (i := 97) (by decide +kernel)) rfl
theorem w_98 : Cond.initialized RX3 ∈ gT := gT_in (List.mem_of_getElem? (i := 98) (by decide +kernel)) rfl
theorem w_99 : Cond.initialized RX7 ∈ gT := gT_in (List.mem_of_getElem? (i := 99) (by decide +kernel)) rfl
theorem w_100 : Cond.initialized RX6 ∈ gT := gT_in (List.mem_of_getElem? (i := 100) (by decide +kernel)) rfl
theorem w_101 : Cond.initialized RX4 ∈ gT := gT_in (List.mem_of_getElem? (i := 101) (by decide +kernel)) rfl
theorem w_102 : Cond.initialized RX1 ∈ gT := gT_in (List.mem_of_getElem? (i := 102) (by decide +kernel)) rfl
theorem w_103 : Cond.initialized RX0 ∈ gT := gT_in (List.mem_of_getElem? (i := 103) (by decide +kernel)) rfl
theorem w_104 : Cond.initialized RX5 ∈ gT := gT_in (List.mem_of_getElem? (i := 104) (by decide +kernel)) rfl
theorem w_105 : Cond.initialized RX11 ∈ gT := gT_in (List.mem_of_getElem? (i := 105) (by decide +kernel)) rfl
theorem w_106 : Cond.initialized "java/lang/Throwable" ∈ gT := gT_in (List.mem_of_getElem? (i := 106) (by decide +kernel)) rfl
theorem w_107 : Cond.initialized "java/lang/Exception" ∈ gT := gT_in (List.mem_of_getElem? (i := 107) (by decide +kernel)) rfl
theorem w_108 : Cond.initialized "java/lang/RuntimeException" ∈ gT := gT_in (List.mem_of_getElem? (i := 108) (by decide +kernel)) rfl
theorem w_109 : Cond.initialized "java/lang/IllegalArgumentException" ∈ gT := gT_in (List.mem_of_getElem? (i := 109) (by decide +kernel)) rfl
theorem w_110 : Cond.initialized RJ9 ∈ gT := gT_in (List.mem_of_getElem? (i := 110) (by decide +kernel)) rfl
theorem w_111 : Cond.initialized RX8 ∈ gT := gT_in (List.mem_of_getElem? (i := 111) (by decide +kernel)) rfl
theorem w_112 : Cond.initialized RJ0 ∈ gT := gT_in (List.mem_of_getElem? (i := 112) (by decide +kernel)) rfl
theorem w_113 : Cond.initialized RJ1 ∈ gT := gT_in (List.mem_of_getElem? (i := 113) (by decide +kernel)) rfl
theorem w_114 : Cond.initialized RJ3 ∈ gT := gT_in (List.mem_of_getElem? (i := 114) (by decide +kernel)) rfl
theorem w_115 : Cond.initialized RJ2 ∈ gT := gT_in (List.mem_of_getElem? (i := 115) (by decide +kernel)) rfl
theorem w_116 : Cond.initialized RJ10 ∈ gT := gT_in (List.mem_of_getElem? (i := 116) (by decide +kernel)) rfl
theorem w_117 : Cond.initialized "java/util/NoSuchElementException" ∈ gT := gT_in (List.mem_of_getElem? (i := 117) (by decide +kernel)) rfl
theorem w_118 : Cond.classLink RL 8 RX10 ∈ gT := gT_in (List.mem_of_getElem? (i := 118) (by decide +kernel)) rfl
theorem w_119 : Cond.instantiable RX10 17 ∈ gT := gT_in (List.mem_of_getElem? (i := 119) (by decide +kernel)) rfl
theorem w_120 : Cond.methodLink RL 81 yX10_init ∈ gT := gT_in (List.mem_of_getElem? (i := 120) (by decide +kernel)) rfl
theorem w_121 : Cond.instanceMethod yX10_init ∈ gT := gT_in (List.mem_of_getElem? (i := 121) (by decide +kernel)) rfl
theorem w_122 : Cond.code yX10_init cX10_init 1 none ∈ gT := gT_in (List.mem_of_getElem? (i := 122) (by decide +kernel)) rfl
theorem w_123 : Cond.methodLink RX10 3 ⟨"java/lang/Object", "<init>", "()V"⟩ ∈ gT := gT_in (List.mem_of_getElem? (i := 123) (by decide +kernel)) rfl
theorem w_124 : Cond.instanceMethod ⟨"java/lang/Object", "<init>", "()V"⟩ ∈ gT := gT_in (List.mem_of_getElem? (i := 124) (by decide +kernel)) rfl
theorem w_125 : Cond.code ⟨"java/lang/Object", "<init>", "()V"⟩ object_method_1_code 1 none ∈ gT := gT_in (List.mem_of_getElem? (i := 125) (by decide +kernel)) rfl
theorem w_126 : Cond.classLink RX10 9 RX9 ∈ gT := gT_in (List.mem_of_getElem? (i := 126) (by decide +kernel)) rfl
theorem w_127 : Cond.instantiable RX9 10 ∈ gT := gT_in (List.mem_of_getElem? (i := 127) (by decide +kernel)) rfl
theorem w_128 : Cond.methodLinkNest RX10 11 yX9_init "PenSwings" ∈ lw_tbl := List.mem_of_getElem? (i := 128) (by decide +kernel)
theorem w_129 : Cond.instanceMethod yX9_init ∈ gT := gT_in (List.mem_of_getElem? (i := 129) (by decide +kernel)) rfl
theorem w_130 : Cond.code yX9_init cX9_init 1 none ∈ gT := gT_in (List.mem_of_getElem? (i := 130) (by decide +kernel)) rfl
theorem w_131 : Cond.methodLink RX9 3 ⟨"java/lang/Object", "<init>", "()V"⟩ ∈ gT := gT_in (List.mem_of_getElem? (i := 131) (by decide +kernel)) rfl
theorem w_132 : Cond.fieldLink RX9 11 "PenSwings$Tape" "bytes" "[B" ∈ gT := gT_in (List.mem_of_getElem? (i := 132) (by decide +kernel)) rfl
theorem w_133 : Cond.fieldLink RX9 19 "PenSwings$Tape" "length" "I" ∈ gT := gT_in (List.mem_of_getElem? (i := 133) (by decide +kernel)) rfl
theorem w_134 : Cond.fieldLink RX10 107 "PenSwings$Tape" "length" "I" ∈ gT := gT_in (List.mem_of_getElem? (i := 134) (by decide +kernel)) rfl
theorem w_135 : Cond.fieldLink RX9 37 "PenSwings$Tape" "wrong" "I" ∈ gT := gT_in (List.mem_of_getElem? (i := 135) (by decide +kernel)) rfl
theorem w_136 : Cond.fieldLink RX10 359 "PenSwings$Tape" "wrong" "I" ∈ gT := gT_in (List.mem_of_getElem? (i := 136) (by decide +kernel)) rfl
theorem w_137 : Cond.fieldLink RX9 15 "PenSwings$Tape" "place" "I" ∈ gT := gT_in (List.mem_of_getElem? (i := 137) (by decide +kernel)) rfl
theorem w_138 : Cond.fieldLink RX10 169 "PenSwings$Tape" "place" "I" ∈ gT := gT_in (List.mem_of_getElem? (i := 138) (by decide +kernel)) rfl
theorem w_139 : Cond.fieldLink RX7 100 "PenSwings$Tape" "taken" "I" ∈ gT := gT_in (List.mem_of_getElem? (i := 139) (by decide +kernel)) rfl
theorem w_140 : Cond.fieldLink RX8 95 "PenSwings$Tape" "taken" "I" ∈ gT := gT_in (List.mem_of_getElem? (i := 140) (by decide +kernel)) rfl
theorem w_141 : Cond.fieldLink RX9 78 "PenSwings$Tape" "taken" "I" ∈ gT := gT_in (List.mem_of_getElem? (i := 141) (by decide +kernel)) rfl
theorem w_142 : Cond.fieldLink RX9 31 "PenSwings$Tape" "end" "I" ∈ gT := gT_in (List.mem_of_getElem? (i := 142) (by decide +kernel)) rfl
theorem w_143 : Cond.fieldLink RX9 34 "PenSwings$Tape" "at" "I" ∈ gT := gT_in (List.mem_of_getElem? (i := 143) (by decide +kernel)) rfl
theorem w_144 : Cond.fieldLink RX9 50 "PenSwings$Tape" "token" "I" ∈ gT := gT_in (List.mem_of_getElem? (i := 144) (by decide +kernel)) rfl
theorem w_145 : Cond.fieldLink RX9 47 "PenSwings$Tape" "first" "I" ∈ gT := gT_in (List.mem_of_getElem? (i := 145) (by decide +kernel)) rfl
theorem w_146 : Cond.fieldLink RX9 59 "PenSwings$Tape" "value" "I" ∈ gT := gT_in (List.mem_of_getElem? (i := 146) (by decide +kernel)) rfl
theorem w_168 : Cond.arrayClass .byte ∈ gT := gT_in (List.mem_of_getElem? (i := 168) (by decide +kernel)) rfl
theorem w_169 : Cond.classLink RX10 16 RX2 ∈ gT := gT_in (List.mem_of_getElem? (i := 169) (by decide +kernel)) rfl
theorem w_170 : Cond.instantiable RX2 11 ∈ gT := gT_in (List.mem_of_getElem? (i := 170) (by decide +kernel)) rfl
theorem w_171 : Cond.methodLink RX10 18 yX2_init ∈ gT := gT_in (List.mem_of_getElem? (i := 171) (by decide +kernel)) rfl
theorem w_172 : Cond.instanceMethod yX2_init ∈ gT := gT_in (List.mem_of_getElem? (i := 172) (by decide +kernel)) rfl
theorem w_173 : Cond.code yX2_init cX2_init 1 none ∈ gT := gT_in (List.mem_of_getElem? (i := 173) (by decide +kernel)) rfl
theorem w_174 : Cond.methodLink RX2 3 ⟨"java/lang/Object", "<init>", "()V"⟩ ∈ gT := gT_in (List.mem_of_getElem? (i := 174) (by decide +kernel)) rfl
theorem w_175 : Cond.methodLink RX2 39 yJ7_fill_53178 ∈ gT := gT_in (List.mem_of_getElem? (i := 175) (by decide +kernel)) rfl
theorem w_176 : Cond.static yJ7_fill_53178 ∈ gT := gT_in (List.mem_of_getElem? (i := 176) (by decide +kernel)) rfl
theorem w_177 : Cond.code yJ7_fill_53178 cJ7_fill_53178 4 none ∈ gT := gT_in (List.mem_of_getElem? (i := 177) (by decide +kernel)) rfl
theorem w_178 : Cond.fieldLink RX2 9 "PenSwings$Frame" "kinds" "[I" ∈ gT := gT_in (List.mem_of_getElem? (i := 178) (by decide +kernel)) rfl
theorem w_179 : Cond.fieldLink RX8 64 "PenSwings$Frame" "kinds" "[I" ∈ gT := gT_in (List.mem_of_getElem? (i := 179) (by decide +kernel)) rfl
theorem w_180 : Cond.fieldLink RX4 34 "PenSwings$Frame" "kinds" "[I" ∈ gT := gT_in (List.mem_of_getElem? (i := 180) (by decide +kernel)) rfl
theorem w_181 : Cond.fieldLink RX10 190 "PenSwings$Frame" "kinds" "[I" ∈ gT := gT_in (List.mem_of_getElem? (i := 181) (by decide +kernel)) rfl
theorem w_182 : Cond.fieldLink RX2 15 "PenSwings$Frame" "lengths" "[I" ∈ gT := gT_in (List.mem_of_getElem? (i := 182) (by decide +kernel)) rfl
theorem w_183 : Cond.fieldLink RX8 68 "PenSwings$Frame" "lengths" "[I" ∈ gT := gT_in (List.mem_of_getElem? (i := 183) (by decide +kernel)) rfl
theorem w_184 : Cond.fieldLink RX10 193 "PenSwings$Frame" "lengths" "[I" ∈ gT := gT_in (List.mem_of_getElem? (i := 184) (by decide +kernel)) rfl
theorem w_185 : Cond.fieldLink RX2 18 "PenSwings$Frame" "losses" "[I" ∈ gT := gT_in (List.mem_of_getElem? (i := 185) (by decide +kernel)) rfl
theorem w_186 : Cond.fieldLink RX8 78 "PenSwings$Frame" "losses" "[I" ∈ gT := gT_in (List.mem_of_getElem? (i := 186) (by decide +kernel)) rfl
theorem w_187 : Cond.fieldLink RX10 199 "PenSwings$Frame" "losses" "[I" ∈ gT := gT_in (List.mem_of_getElem? (i := 187) (by decide +kernel)) rfl
theorem w_188 : Cond.fieldLink RX2 21 "PenSwings$Frame" "settings" "[I" ∈ gT := gT_in (List.mem_of_getElem? (i := 188) (by decide +kernel)) rfl
theorem w_189 : Cond.fieldLink RX1 51 "PenSwings$Frame" "settings" "[I" ∈ gT := gT_in (List.mem_of_getElem? (i := 189) (by decide +kernel)) rfl
theorem w_190 : Cond.fieldLink RX4 29 "PenSwings$Frame" "settings" "[I" ∈ gT := gT_in (List.mem_of_getElem? (i := 190) (by decide +kernel)) rfl
theorem w_191 : Cond.fieldLink RX8 75 "PenSwings$Frame" "settings" "[I" ∈ gT := gT_in (List.mem_of_getElem? (i := 191) (by decide +kernel)) rfl
theorem w_192 : Cond.fieldLink RX6 102 "PenSwings$Frame" "settings" "[I" ∈ gT := gT_in (List.mem_of_getElem? (i := 192) (by decide +kernel)) rfl
theorem w_193 : Cond.fieldLink RX10 196 "PenSwings$Frame" "settings" "[I" ∈ gT := gT_in (List.mem_of_getElem? (i := 193) (by decide +kernel)) rfl
theorem w_194 : Cond.fieldLink RX2 45 "PenSwings$Frame" "told" "I" ∈ gT := gT_in (List.mem_of_getElem? (i := 194) (by decide +kernel)) rfl
theorem w_195 : Cond.fieldLink RX8 53 "PenSwings$Frame" "told" "I" ∈ gT := gT_in (List.mem_of_getElem? (i := 195) (by decide +kernel)) rfl
theorem w_196 : Cond.fieldLink RX10 172 "PenSwings$Frame" "told" "I" ∈ gT := gT_in (List.mem_of_getElem? (i := 196) (by decide +kernel)) rfl
theorem w_197 : Cond.fieldLink RX2 49 "PenSwings$Frame" "carts" "I" ∈ gT := gT_in (List.mem_of_getElem? (i := 197) (by decide +kernel)) rfl
theorem w_198 : Cond.fieldLink RX8 98 "PenSwings$Frame" "carts" "I" ∈ gT := gT_in (List.mem_of_getElem? (i := 198) (by decide +kernel)) rfl
theorem w_199 : Cond.fieldLink RX10 175 "PenSwings$Frame" "carts" "I" ∈ gT := gT_in (List.mem_of_getElem? (i := 199) (by decide +kernel)) rfl
theorem w_200 : Cond.fieldLink RX2 24 "PenSwings$Frame" "cartTicks" "[I" ∈ gT := gT_in (List.mem_of_getElem? (i := 200) (by decide +kernel)) rfl
theorem w_201 : Cond.fieldLink RX8 101 "PenSwings$Frame" "cartTicks" "[I" ∈ gT := gT_in (List.mem_of_getElem? (i := 201) (by decide +kernel)) rfl
theorem w_202 : Cond.fieldLink RX2 27 "PenSwings$Frame" "cartWays" "[I" ∈ gT := gT_in (List.mem_of_getElem? (i := 202) (by decide +kernel)) rfl
theorem w_203 : Cond.fieldLink RX8 107 "PenSwings$Frame" "cartWays" "[I" ∈ gT := gT_in (List.mem_of_getElem? (i := 203) (by decide +kernel)) rfl
theorem w_204 : Cond.fieldLink RX2 30 "PenSwings$Frame" "faded" "[I" ∈ gT := gT_in (List.mem_of_getElem? (i := 204) (by decide +kernel)) rfl
theorem w_205 : Cond.fieldLink RX2 33 "PenSwings$Frame" "fadedSizes" "[I" ∈ gT := gT_in (List.mem_of_getElem? (i := 205) (by decide +kernel)) rfl
theorem w_206 : Cond.fieldLink RX2 36 "PenSwings$Frame" "fadedLosses" "[I" ∈ gT := gT_in (List.mem_of_getElem? (i := 206) (by decide +kernel)) rfl
theorem w_230 : Cond.arrayClass .int ∈ gT := gT_in (List.mem_of_getElem? (i := 230) (by decide +kernel)) rfl
theorem w_231 : Cond.classLink RX10 29 RX3 ∈ gT := gT_in (List.mem_of_getElem? (i := 231) (by decide +kernel)) rfl
theorem w_232 : Cond.instantiable RX3 7 ∈ gT := gT_in (List.mem_of_getElem? (i := 232) (by decide +kernel)) rfl
theorem w_233 : Cond.methodLinkNest RX10 31 yX3_init "PenSwings" ∈ lw_tbl := List.mem_of_getElem? (i := 233) (by decide +kernel)
theorem w_234 : Cond.instanceMethod yX3_init ∈ gT := gT_in (List.mem_of_getElem? (i := 234) (by decide +kernel)) rfl
theorem w_235 : Cond.code yX3_init cX3_init 1 none ∈ gT := gT_in (List.mem_of_getElem? (i := 235) (by decide +kernel)) rfl
theorem w_236 : Cond.methodLink RX3 3 ⟨"java/lang/Object", "<init>", "()V"⟩ ∈ gT := gT_in (List.mem_of_getElem? (i := 236) (by decide +kernel)) rfl
theorem w_237 : Cond.fieldLink RX3 9 "PenSwings$Holdings" "settings" "[I" ∈ gT := gT_in (List.mem_of_getElem? (i := 237) (by decide +kernel)) rfl
theorem w_238 : Cond.fieldLink RX10 355 "PenSwings$Holdings" "settings" "[I" ∈ gT := gT_in (List.mem_of_getElem? (i := 238) (by decide +kernel)) rfl
theorem w_239 : Cond.fieldLink RX3 24 "PenSwings$Holdings" "portraits" "I" ∈ gT := gT_in (List.mem_of_getElem? (i := 239) (by decide +kernel)) rfl
theorem w_240 : Cond.fieldLink RX0 52 "PenSwings$Holdings" "portraits" "I" ∈ gT := gT_in (List.mem_of_getElem? (i := 240) (by decide +kernel)) rfl
theorem w_241 : Cond.fieldLink RX10 178 "PenSwings$Holdings" "portraits" "I" ∈ gT := gT_in (List.mem_of_getElem? (i := 241) (by decide +kernel)) rfl
theorem w_242 : Cond.fieldLink RX3 15 "PenSwings$Holdings" "portraitRows" "[I" ∈ gT := gT_in (List.mem_of_getElem? (i := 242) (by decide +kernel)) rfl
theorem w_243 : Cond.fieldLink RX0 47 "PenSwings$Holdings" "portraitRows" "[I" ∈ gT := gT_in (List.mem_of_getElem? (i := 243) (by decide +kernel)) rfl
theorem w_244 : Cond.fieldLink RX10 252 "PenSwings$Holdings" "portraitRows" "[I" ∈ gT := gT_in (List.mem_of_getElem? (i := 244) (by decide +kernel)) rfl
theorem w_245 : Cond.fieldLink RX3 28 "PenSwings$Holdings" "points" "I" ∈ gT := gT_in (List.mem_of_getElem? (i := 245) (by decide +kernel)) rfl
theorem w_246 : Cond.fieldLink RX1 42 "PenSwings$Holdings" "points" "I" ∈ gT := gT_in (List.mem_of_getElem? (i := 246) (by decide +kernel)) rfl
theorem w_247 : Cond.fieldLink RX10 181 "PenSwings$Holdings" "points" "I" ∈ gT := gT_in (List.mem_of_getElem? (i := 247) (by decide +kernel)) rfl
theorem w_248 : Cond.fieldLink RX3 18 "PenSwings$Holdings" "pointRows" "[I" ∈ gT := gT_in (List.mem_of_getElem? (i := 248) (by decide +kernel)) rfl
theorem w_249 : Cond.fieldLink RX1 60 "PenSwings$Holdings" "pointRows" "[I" ∈ gT := gT_in (List.mem_of_getElem? (i := 249) (by decide +kernel)) rfl
theorem w_250 : Cond.fieldLink RX10 281 "PenSwings$Holdings" "pointRows" "[I" ∈ gT := gT_in (List.mem_of_getElem? (i := 250) (by decide +kernel)) rfl
theorem w_251 : Cond.fieldLink RX3 31 "PenSwings$Holdings" "birthdays" "I" ∈ gT := gT_in (List.mem_of_getElem? (i := 251) (by decide +kernel)) rfl
theorem w_252 : Cond.fieldLink RX5 25 "PenSwings$Holdings" "birthdays" "I" ∈ gT := gT_in (List.mem_of_getElem? (i := 252) (by decide +kernel)) rfl
theorem w_253 : Cond.fieldLink RX10 184 "PenSwings$Holdings" "birthdays" "I" ∈ gT := gT_in (List.mem_of_getElem? (i := 253) (by decide +kernel)) rfl
theorem w_254 : Cond.fieldLink RX3 21 "PenSwings$Holdings" "days" "[I" ∈ gT := gT_in (List.mem_of_getElem? (i := 254) (by decide +kernel)) rfl
theorem w_255 : Cond.fieldLink RX5 30 "PenSwings$Holdings" "days" "[I" ∈ gT := gT_in (List.mem_of_getElem? (i := 255) (by decide +kernel)) rfl
theorem w_256 : Cond.fieldLink RX10 320 "PenSwings$Holdings" "days" "[I" ∈ gT := gT_in (List.mem_of_getElem? (i := 256) (by decide +kernel)) rfl
theorem w_272 : Cond.classLink RX10 43 RX7 ∈ gT := gT_in (List.mem_of_getElem? (i := 272) (by decide +kernel)) rfl
theorem w_273 : Cond.instantiable RX7 7 ∈ gT := gT_in (List.mem_of_getElem? (i := 273) (by decide +kernel)) rfl
theorem w_274 : Cond.methodLinkNest RX10 45 yX7_init "PenSwings" ∈ lw_tbl := List.mem_of_getElem? (i := 274) (by decide +kernel)
theorem w_275 : Cond.instanceMethod yX7_init ∈ gT := gT_in (List.mem_of_getElem? (i := 275) (by decide +kernel)) rfl
theorem w_276 : Cond.code yX7_init cX7_init 1 none ∈ gT := gT_in (List.mem_of_getElem? (i := 276) (by decide +kernel)) rfl
theorem w_277 : Cond.methodLink RX7 5 ⟨"java/lang/Object", "<init>", "()V"⟩ ∈ gT := gT_in (List.mem_of_getElem? (i := 277) (by decide +kernel)) rfl
theorem w_278 : Cond.fieldLink RX7 13 "PenSwings$Score" "verbs" "[I" ∈ gT := gT_in (List.mem_of_getElem? (i := 278) (by decide +kernel)) rfl
theorem w_279 : Cond.fieldLink RX6 61 "PenSwings$Score" "verbs" "[I" ∈ gT := gT_in (List.mem_of_getElem? (i := 279) (by decide +kernel)) rfl
theorem w_280 : Cond.fieldLink RX7 17 "PenSwings$Score" "numbers" "[I" ∈ gT := gT_in (List.mem_of_getElem? (i := 280) (by decide +kernel)) rfl
theorem w_281 : Cond.fieldLink RX6 71 "PenSwings$Score" "numbers" "[I" ∈ gT := gT_in (List.mem_of_getElem? (i := 281) (by decide +kernel)) rfl
theorem w_282 : Cond.fieldLink RX7 20 "PenSwings$Score" "changes" "[I" ∈ gT := gT_in (List.mem_of_getElem? (i := 282) (by decide +kernel)) rfl
theorem w_283 : Cond.fieldLink RX6 81 "PenSwings$Score" "changes" "[I" ∈ gT := gT_in (List.mem_of_getElem? (i := 283) (by decide +kernel)) rfl
theorem w_284 : Cond.fieldLink RX7 23 "PenSwings$Score" "jumps" "[I" ∈ gT := gT_in (List.mem_of_getElem? (i := 284) (by decide +kernel)) rfl
theorem w_285 : Cond.fieldLink RX6 68 "PenSwings$Score" "jumps" "[I" ∈ gT := gT_in (List.mem_of_getElem? (i := 285) (by decide +kernel)) rfl
theorem w_286 : Cond.fieldLink RX7 29 "PenSwings$Score" "size" "I" ∈ gT := gT_in (List.mem_of_getElem? (i := 286) (by decide +kernel)) rfl
theorem w_287 : Cond.fieldLink RX6 58 "PenSwings$Score" "size" "I" ∈ gT := gT_in (List.mem_of_getElem? (i := 287) (by decide +kernel)) rfl
theorem w_288 : Cond.fieldLink RX10 129 "PenSwings$Score" "size" "I" ∈ gT := gT_in (List.mem_of_getElem? (i := 288) (by decide +kernel)) rfl
theorem w_289 : Cond.fieldLink RX7 26 "PenSwings$Score" "open" "[I" ∈ gT := gT_in (List.mem_of_getElem? (i := 289) (by decide +kernel)) rfl
theorem w_290 : Cond.fieldLink RX7 33 "PenSwings$Score" "depth" "I" ∈ gT := gT_in (List.mem_of_getElem? (i := 290) (by decide +kernel)) rfl
theorem w_306 : Cond.classLink RX10 53 RX6 ∈ gT := gT_in (List.mem_of_getElem? (i := 306) (by decide +kernel)) rfl
theorem w_307 : Cond.instantiable RX6 9 ∈ gT := gT_in (List.mem_of_getElem? (i := 307) (by decide +kernel)) rfl
theorem w_308 : Cond.methodLinkNest RX10 55 yX6_init "PenSwings" ∈ lw_tbl := List.mem_of_getElem? (i := 308) (by decide +kernel)
theorem w_309 : Cond.instanceMethod yX6_init ∈ gT := gT_in (List.mem_of_getElem? (i := 309) (by decide +kernel)) rfl
theorem w_310 : Cond.code yX6_init cX6_init 1 none ∈ gT := gT_in (List.mem_of_getElem? (i := 310) (by decide +kernel)) rfl
theorem w_311 : Cond.methodLink RX6 3 ⟨"java/lang/Object", "<init>", "()V"⟩ ∈ gT := gT_in (List.mem_of_getElem? (i := 311) (by decide +kernel)) rfl
theorem w_312 : Cond.classLink RX6 9 RX2 ∈ gT := gT_in (List.mem_of_getElem? (i := 312) (by decide +kernel)) rfl
theorem w_313 : Cond.methodLink RX6 11 yX2_init ∈ gT := gT_in (List.mem_of_getElem? (i := 313) (by decide +kernel)) rfl
theorem w_314 : Cond.fieldLink RX6 12 "PenSwings$Performance" "frame" "LPenSwings$Frame;" ∈ gT := gT_in (List.mem_of_getElem? (i := 314) (by decide +kernel)) rfl
theorem w_315 : Cond.fieldLink RX6 18 "PenSwings$Performance" "marksOf" "[I" ∈ gT := gT_in (List.mem_of_getElem? (i := 315) (by decide +kernel)) rfl
theorem w_316 : Cond.fieldLink RX10 166 "PenSwings$Performance" "marksOf" "[I" ∈ gT := gT_in (List.mem_of_getElem? (i := 316) (by decide +kernel)) rfl
theorem w_317 : Cond.fieldLink RX6 41 "PenSwings$Performance" "markedCells" "I" ∈ gT := gT_in (List.mem_of_getElem? (i := 317) (by decide +kernel)) rfl
theorem w_318 : Cond.fieldLink RX10 154 "PenSwings$Performance" "markedCells" "I" ∈ gT := gT_in (List.mem_of_getElem? (i := 318) (by decide +kernel)) rfl
theorem w_319 : Cond.fieldLink RX6 44 "PenSwings$Performance" "begun" "I" ∈ gT := gT_in (List.mem_of_getElem? (i := 319) (by decide +kernel)) rfl
theorem w_320 : Cond.fieldLink RX10 151 "PenSwings$Performance" "begun" "I" ∈ gT := gT_in (List.mem_of_getElem? (i := 320) (by decide +kernel)) rfl
theorem w_321 : Cond.fieldLink RX6 47 "PenSwings$Performance" "tick" "I" ∈ gT := gT_in (List.mem_of_getElem? (i := 321) (by decide +kernel)) rfl
theorem w_322 : Cond.fieldLink RX10 157 "PenSwings$Performance" "tick" "I" ∈ gT := gT_in (List.mem_of_getElem? (i := 322) (by decide +kernel)) rfl
theorem w_323 : Cond.fieldLink RX6 54 "PenSwings$Performance" "spent" "Z" ∈ gT := gT_in (List.mem_of_getElem? (i := 323) (by decide +kernel)) rfl
theorem w_324 : Cond.fieldLink RX10 148 "PenSwings$Performance" "spent" "Z" ∈ gT := gT_in (List.mem_of_getElem? (i := 324) (by decide +kernel)) rfl
theorem w_325 : Cond.fieldLink RX6 50 "PenSwings$Performance" "turned" "Z" ∈ gT := gT_in (List.mem_of_getElem? (i := 325) (by decide +kernel)) rfl
theorem w_326 : Cond.fieldLink RX6 24 "PenSwings$Performance" "repeats" "[I" ∈ gT := gT_in (List.mem_of_getElem? (i := 326) (by decide +kernel)) rfl
theorem w_327 : Cond.fieldLink RX6 27 "PenSwings$Performance" "playedAt" "I" ∈ gT := gT_in (List.mem_of_getElem? (i := 327) (by decide +kernel)) rfl
theorem w_347 : Cond.classLink RX10 60 RX4 ∈ gT := gT_in (List.mem_of_getElem? (i := 347) (by decide +kernel)) rfl
theorem w_348 : Cond.instantiable RX4 2 ∈ gT := gT_in (List.mem_of_getElem? (i := 348) (by decide +kernel)) rfl
theorem w_349 : Cond.methodLinkNest RX10 62 yX4_init "PenSwings" ∈ lw_tbl := List.mem_of_getElem? (i := 349) (by decide +kernel)
theorem w_350 : Cond.instanceMethod yX4_init ∈ gT := gT_in (List.mem_of_getElem? (i := 350) (by decide +kernel)) rfl
theorem w_351 : Cond.code yX4_init cX4_init 1 none ∈ gT := gT_in (List.mem_of_getElem? (i := 351) (by decide +kernel)) rfl
theorem w_352 : Cond.methodLink RX4 3 ⟨"java/lang/Object", "<init>", "()V"⟩ ∈ gT := gT_in (List.mem_of_getElem? (i := 352) (by decide +kernel)) rfl
theorem w_353 : Cond.fieldLink RX4 9 "PenSwings$Likeness" "partners" "[I" ∈ gT := gT_in (List.mem_of_getElem? (i := 353) (by decide +kernel)) rfl
theorem w_354 : Cond.fieldLink RX4 15 "PenSwings$Likeness" "times" "[I" ∈ gT := gT_in (List.mem_of_getElem? (i := 354) (by decide +kernel)) rfl
theorem w_360 : Cond.classLink RX10 67 RX1 ∈ gT := gT_in (List.mem_of_getElem? (i := 360) (by decide +kernel)) rfl
theorem w_361 : Cond.instantiable RX1 11 ∈ gT := gT_in (List.mem_of_getElem? (i := 361) (by decide +kernel)) rfl
theorem w_362 : Cond.methodLinkNest RX10 69 yX1_init "PenSwings" ∈ lw_tbl := List.mem_of_getElem? (i := 362) (by decide +kernel)
theorem w_363 : Cond.instanceMethod yX1_init ∈ gT := gT_in (List.mem_of_getElem? (i := 363) (by decide +kernel)) rfl
theorem w_364 : Cond.code yX1_init cX1_init 1 none ∈ gT := gT_in (List.mem_of_getElem? (i := 364) (by decide +kernel)) rfl
theorem w_365 : Cond.methodLink RX1 5 ⟨"java/lang/Object", "<init>", "()V"⟩ ∈ gT := gT_in (List.mem_of_getElem? (i := 365) (by decide +kernel)) rfl
theorem w_366 : Cond.fieldLink RX1 29 "PenSwings$Fitting" "rows" "I" ∈ gT := gT_in (List.mem_of_getElem? (i := 366) (by decide +kernel)) rfl
theorem w_367 : Cond.fieldLink RX10 292 "PenSwings$Fitting" "rows" "I" ∈ gT := gT_in (List.mem_of_getElem? (i := 367) (by decide +kernel)) rfl
theorem w_368 : Cond.fieldLink RX1 33 "PenSwings$Fitting" "firstRow" "I" ∈ gT := gT_in (List.mem_of_getElem? (i := 368) (by decide +kernel)) rfl
theorem w_369 : Cond.fieldLink RX10 295 "PenSwings$Fitting" "firstRow" "I" ∈ gT := gT_in (List.mem_of_getElem? (i := 369) (by decide +kernel)) rfl
theorem w_370 : Cond.fieldLink RX1 36 "PenSwings$Fitting" "nearestRow" "I" ∈ gT := gT_in (List.mem_of_getElem? (i := 370) (by decide +kernel)) rfl
theorem w_371 : Cond.fieldLink RX10 298 "PenSwings$Fitting" "nearestRow" "I" ∈ gT := gT_in (List.mem_of_getElem? (i := 371) (by decide +kernel)) rfl
theorem w_372 : Cond.fieldLink RX1 39 "PenSwings$Fitting" "nearestOff" "I" ∈ gT := gT_in (List.mem_of_getElem? (i := 372) (by decide +kernel)) rfl
theorem w_373 : Cond.fieldLink RX10 301 "PenSwings$Fitting" "nearestOff" "I" ∈ gT := gT_in (List.mem_of_getElem? (i := 373) (by decide +kernel)) rfl
theorem w_374 : Cond.fieldLink RX1 87 "PenSwings$Fitting" "cartTicks" "I" ∈ gT := gT_in (List.mem_of_getElem? (i := 374) (by decide +kernel)) rfl
theorem w_375 : Cond.fieldLink RX10 308 "PenSwings$Fitting" "cartTicks" "I" ∈ gT := gT_in (List.mem_of_getElem? (i := 375) (by decide +kernel)) rfl
theorem w_376 : Cond.fieldLink RX1 90 "PenSwings$Fitting" "leastCart" "I" ∈ gT := gT_in (List.mem_of_getElem? (i := 376) (by decide +kernel)) rfl
theorem w_377 : Cond.fieldLink RX10 311 "PenSwings$Fitting" "leastCart" "I" ∈ gT := gT_in (List.mem_of_getElem? (i := 377) (by decide +kernel)) rfl
theorem w_378 : Cond.fieldLink RX1 93 "PenSwings$Fitting" "cartAlong" "I" ∈ gT := gT_in (List.mem_of_getElem? (i := 378) (by decide +kernel)) rfl
theorem w_379 : Cond.fieldLink RX10 314 "PenSwings$Fitting" "cartAlong" "I" ∈ gT := gT_in (List.mem_of_getElem? (i := 379) (by decide +kernel)) rfl
theorem w_380 : Cond.fieldLink RX1 96 "PenSwings$Fitting" "cartAcross" "I" ∈ gT := gT_in (List.mem_of_getElem? (i := 380) (by decide +kernel)) rfl
theorem w_381 : Cond.fieldLink RX10 317 "PenSwings$Fitting" "cartAcross" "I" ∈ gT := gT_in (List.mem_of_getElem? (i := 381) (by decide +kernel)) rfl
theorem w_382 : Cond.fieldLink RX1 11 "PenSwings$Fitting" "places" "[I" ∈ gT := gT_in (List.mem_of_getElem? (i := 382) (by decide +kernel)) rfl
theorem w_383 : Cond.fieldLink RX1 15 "PenSwings$Fitting" "offs" "[I" ∈ gT := gT_in (List.mem_of_getElem? (i := 383) (by decide +kernel)) rfl
theorem w_384 : Cond.fieldLink RX1 18 "PenSwings$Fitting" "ways" "[I" ∈ gT := gT_in (List.mem_of_getElem? (i := 384) (by decide +kernel)) rfl
theorem w_408 : Cond.classLink RX10 74 RX0 ∈ gT := gT_in (List.mem_of_getElem? (i := 408) (by decide +kernel)) rfl
theorem w_409 : Cond.instantiable RX0 6 ∈ gT := gT_in (List.mem_of_getElem? (i := 409) (by decide +kernel)) rfl
theorem w_410 : Cond.methodLinkNest RX10 76 yX0_init "PenSwings" ∈ lw_tbl := List.mem_of_getElem? (i := 410) (by decide +kernel)
theorem w_411 : Cond.instanceMethod yX0_init ∈ gT := gT_in (List.mem_of_getElem? (i := 411) (by decide +kernel)) rfl
theorem w_412 : Cond.code yX0_init cX0_init 1 none ∈ gT := gT_in (List.mem_of_getElem? (i := 412) (by decide +kernel)) rfl
theorem w_413 : Cond.methodLink RX0 3 ⟨"java/lang/Object", "<init>", "()V"⟩ ∈ gT := gT_in (List.mem_of_getElem? (i := 413) (by decide +kernel)) rfl
theorem w_414 : Cond.fieldLink RX0 9 "PenSwings$Evening" "order" "[I" ∈ gT := gT_in (List.mem_of_getElem? (i := 414) (by decide +kernel)) rfl
theorem w_415 : Cond.fieldLink RX10 352 "PenSwings$Evening" "order" "[I" ∈ gT := gT_in (List.mem_of_getElem? (i := 415) (by decide +kernel)) rfl
theorem w_416 : Cond.fieldLink RX0 24 "PenSwings$Evening" "length" "I" ∈ gT := gT_in (List.mem_of_getElem? (i := 416) (by decide +kernel)) rfl
theorem w_417 : Cond.fieldLink RX10 341 "PenSwings$Evening" "length" "I" ∈ gT := gT_in (List.mem_of_getElem? (i := 417) (by decide +kernel)) rfl
theorem w_418 : Cond.fieldLink RX0 28 "PenSwings$Evening" "tea" "I" ∈ gT := gT_in (List.mem_of_getElem? (i := 418) (by decide +kernel)) rfl
theorem w_419 : Cond.fieldLink RX10 349 "PenSwings$Evening" "tea" "I" ∈ gT := gT_in (List.mem_of_getElem? (i := 419) (by decide +kernel)) rfl
theorem w_420 : Cond.fieldLink RX0 15 "PenSwings$Evening" "apart" "[I" ∈ gT := gT_in (List.mem_of_getElem? (i := 420) (by decide +kernel)) rfl
theorem w_421 : Cond.fieldLink RX0 18 "PenSwings$Evening" "fresh" "[I" ∈ gT := gT_in (List.mem_of_getElem? (i := 421) (by decide +kernel)) rfl
theorem w_422 : Cond.fieldLink RX0 21 "PenSwings$Evening" "rested" "[I" ∈ gT := gT_in (List.mem_of_getElem? (i := 422) (by decide +kernel)) rfl
theorem w_436 : Cond.classLink RX10 81 RX5 ∈ gT := gT_in (List.mem_of_getElem? (i := 436) (by decide +kernel)) rfl
theorem w_437 : Cond.instantiable RX5 3 ∈ gT := gT_in (List.mem_of_getElem? (i := 437) (by decide +kernel)) rfl
theorem w_438 : Cond.methodLinkNest RX10 83 yX5_init "PenSwings" ∈ lw_tbl := List.mem_of_getElem? (i := 438) (by decide +kernel)
theorem w_439 : Cond.instanceMethod yX5_init ∈ gT := gT_in (List.mem_of_getElem? (i := 439) (by decide +kernel)) rfl
theorem w_440 : Cond.code yX5_init cX5_init 1 none ∈ gT := gT_in (List.mem_of_getElem? (i := 440) (by decide +kernel)) rfl
theorem w_441 : Cond.methodLink RX5 3 ⟨"java/lang/Object", "<init>", "()V"⟩ ∈ gT := gT_in (List.mem_of_getElem? (i := 441) (by decide +kernel)) rfl
theorem w_442 : Cond.fieldLink RX5 15 "PenSwings$Parish" "best" "I" ∈ gT := gT_in (List.mem_of_getElem? (i := 442) (by decide +kernel)) rfl
theorem w_443 : Cond.fieldLink RX10 327 "PenSwings$Parish" "best" "I" ∈ gT := gT_in (List.mem_of_getElem? (i := 443) (by decide +kernel)) rfl
theorem w_444 : Cond.fieldLink RX5 18 "PenSwings$Parish" "fewest" "I" ∈ gT := gT_in (List.mem_of_getElem? (i := 444) (by decide +kernel)) rfl
theorem w_445 : Cond.fieldLink RX10 330 "PenSwings$Parish" "fewest" "I" ∈ gT := gT_in (List.mem_of_getElem? (i := 445) (by decide +kernel)) rfl
theorem w_446 : Cond.fieldLink RX5 9 "PenSwings$Parish" "foundAt" "I" ∈ gT := gT_in (List.mem_of_getElem? (i := 446) (by decide +kernel)) rfl
theorem w_454 : Cond.fieldLink RX10 12 "PenSwings" "tape" "LPenSwings$Tape;" ∈ gT := gT_in (List.mem_of_getElem? (i := 454) (by decide +kernel)) rfl
theorem w_455 : Cond.fieldLink RX10 19 "PenSwings" "now" "LPenSwings$Frame;" ∈ gT := gT_in (List.mem_of_getElem? (i := 455) (by decide +kernel)) rfl
theorem w_456 : Cond.fieldLink RX10 23 "PenSwings" "spare" "LPenSwings$Frame;" ∈ gT := gT_in (List.mem_of_getElem? (i := 456) (by decide +kernel)) rfl
theorem w_457 : Cond.fieldLink RX10 26 "PenSwings" "other" "LPenSwings$Frame;" ∈ gT := gT_in (List.mem_of_getElem? (i := 457) (by decide +kernel)) rfl
theorem w_458 : Cond.fieldLink RX10 32 "PenSwings" "held" "LPenSwings$Holdings;" ∈ gT := gT_in (List.mem_of_getElem? (i := 458) (by decide +kernel)) rfl
theorem w_459 : Cond.fieldLink RX10 36 "PenSwings" "pictured" "LPenSwings$Holdings;" ∈ gT := gT_in (List.mem_of_getElem? (i := 459) (by decide +kernel)) rfl
theorem w_460 : Cond.fieldLink RX10 39 "PenSwings" "hasImage" "Z" ∈ gT := gT_in (List.mem_of_getElem? (i := 460) (by decide +kernel)) rfl
theorem w_461 : Cond.fieldLink RX10 46 "PenSwings" "acts" "LPenSwings$Score;" ∈ gT := gT_in (List.mem_of_getElem? (i := 461) (by decide +kernel)) rfl
theorem w_462 : Cond.fieldLink RX10 50 "PenSwings" "spareActs" "LPenSwings$Score;" ∈ gT := gT_in (List.mem_of_getElem? (i := 462) (by decide +kernel)) rfl
theorem w_463 : Cond.fieldLink RX10 56 "PenSwings" "performance" "LPenSwings$Performance;" ∈ gT := gT_in (List.mem_of_getElem? (i := 463) (by decide +kernel)) rfl
theorem w_464 : Cond.fieldLink RX10 63 "PenSwings" "likeness" "LPenSwings$Likeness;" ∈ gT := gT_in (List.mem_of_getElem? (i := 464) (by decide +kernel)) rfl
theorem w_465 : Cond.fieldLink RX10 70 "PenSwings" "fitting" "LPenSwings$Fitting;" ∈ gT := gT_in (List.mem_of_getElem? (i := 465) (by decide +kernel)) rfl
theorem w_466 : Cond.fieldLink RX10 77 "PenSwings" "plan" "LPenSwings$Evening;" ∈ gT := gT_in (List.mem_of_getElem? (i := 466) (by decide +kernel)) rfl
theorem w_467 : Cond.fieldLink RX10 84 "PenSwings" "parish" "LPenSwings$Parish;" ∈ gT := gT_in (List.mem_of_getElem? (i := 467) (by decide +kernel)) rfl
theorem w_468 : Cond.fieldLink RX10 88 "PenSwings" "seen" "[I" ∈ gT := gT_in (List.mem_of_getElem? (i := 468) (by decide +kernel)) rfl
theorem w_469 : Cond.fieldLink RX10 92 "PenSwings" "refused" "[I" ∈ gT := gT_in (List.mem_of_getElem? (i := 469) (by decide +kernel)) rfl
theorem w_470 : Cond.fieldLink RX10 95 "PenSwings" "changes" "I" ∈ gT := gT_in (List.mem_of_getElem? (i := 470) (by decide +kernel)) rfl
theorem w_506 : Cond.methodLink RL 85 yX10_feed ∈ gT := gT_in (List.mem_of_getElem? (i := 506) (by decide +kernel)) rfl
theorem w_507 : Cond.instanceMethod yX10_feed ∈ gT := gT_in (List.mem_of_getElem? (i := 507) (by decide +kernel)) rfl
theorem w_508 : Cond.selects RX10 yX10_feed yX10_feed ∈ gT := gT_in (List.mem_of_getElem? (i := 508) (by decide +kernel)) rfl
theorem w_509 : Cond.code yX10_feed cX10_feed 6 (some .int) ∈ gT := gT_in (List.mem_of_getElem? (i := 509) (by decide +kernel)) rfl
theorem w_510 : Cond.methodLink RX10 99 yX9_hasRoom ∈ gT := gT_in (List.mem_of_getElem? (i := 510) (by decide +kernel)) rfl
theorem w_511 : Cond.instanceMethod yX9_hasRoom ∈ gT := gT_in (List.mem_of_getElem? (i := 511) (by decide +kernel)) rfl
theorem w_512 : Cond.selects RX9 yX9_hasRoom yX9_hasRoom ∈ gT := gT_in (List.mem_of_getElem? (i := 512) (by decide +kernel)) rfl
theorem w_513 : Cond.code yX9_hasRoom cX9_hasRoom 1 (some .boolean) ∈ gT := gT_in (List.mem_of_getElem? (i := 513) (by decide +kernel)) rfl
theorem w_514 : Cond.methodLink RX10 103 yX9_lay ∈ gT := gT_in (List.mem_of_getElem? (i := 514) (by decide +kernel)) rfl
theorem w_515 : Cond.instanceMethod yX9_lay ∈ gT := gT_in (List.mem_of_getElem? (i := 515) (by decide +kernel)) rfl
theorem w_516 : Cond.selects RX9 yX9_lay yX9_lay ∈ gT := gT_in (List.mem_of_getElem? (i := 516) (by decide +kernel)) rfl
theorem w_517 : Cond.code yX9_lay cX9_lay 3 none ∈ gT := gT_in (List.mem_of_getElem? (i := 517) (by decide +kernel)) rfl
theorem w_518 : Cond.methodLink RL 108 yX10_fault ∈ gT := gT_in (List.mem_of_getElem? (i := 518) (by decide +kernel)) rfl
theorem w_519 : Cond.instanceMethod yX10_fault ∈ gT := gT_in (List.mem_of_getElem? (i := 519) (by decide +kernel)) rfl
