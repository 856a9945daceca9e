theorem w_946 : Cond.code yX6_draw cX6_draw 3 none ∈ gT := gT_in (List.mem_of_getElem? (i := 946) (by decide +kernel)) rfl
theorem w_947 : Cond.methodLink RX6 92 yX6_cell ∈ gT := gT_in (List.mem_of_getElem? (i := 947) (by decide +kernel)) rfl
theorem w_948 : Cond.instanceMethod yX6_cell ∈ gT := gT_in (List.mem_of_getElem? (i := 948) (by decide +kernel)) rfl
theorem w_949 : Cond.selects RX6 yX6_cell yX6_cell ∈ gT := gT_in (List.mem_of_getElem? (i := 949) (by decide +kernel)) rfl
theorem w_950 : Cond.code yX6_cell cX6_cell 1 (some .int) ∈ gT := gT_in (List.mem_of_getElem? (i := 950) (by decide +kernel)) rfl
theorem w_951 : Cond.methodLink RX6 114 yX2_penAt ∈ gT := gT_in (List.mem_of_getElem? (i := 951) (by decide +kernel)) rfl
theorem w_952 : Cond.instanceMethod yX2_penAt ∈ gT := gT_in (List.mem_of_getElem? (i := 952) (by decide +kernel)) rfl
theorem w_953 : Cond.selects RX2 yX2_penAt yX2_penAt ∈ gT := gT_in (List.mem_of_getElem? (i := 953) (by decide +kernel)) rfl
theorem w_954 : Cond.code yX2_penAt cX2_penAt 3 (some .int) ∈ gT := gT_in (List.mem_of_getElem? (i := 954) (by decide +kernel)) rfl
theorem w_955 : Cond.methodLink RX2 76 yX2_shaken ∈ gT := gT_in (List.mem_of_getElem? (i := 955) (by decide +kernel)) rfl
theorem w_956 : Cond.instanceMethod yX2_shaken ∈ gT := gT_in (List.mem_of_getElem? (i := 956) (by decide +kernel)) rfl
theorem w_957 : Cond.selects RX2 yX2_shaken yX2_shaken ∈ gT := gT_in (List.mem_of_getElem? (i := 957) (by decide +kernel)) rfl
theorem w_958 : Cond.code yX2_shaken cX2_shaken 5 (some .int) ∈ gT := gT_in (List.mem_of_getElem? (i := 958) (by decide +kernel)) rfl
theorem w_959 : Cond.methodLinkNest RX6 120 yX10_cellOf "PenSwings" ∈ lw_tbl := List.mem_of_getElem? (i := 959) (by decide +kernel)
theorem w_960 : Cond.static yX10_cellOf ∈ gT := gT_in (List.mem_of_getElem? (i := 960) (by decide +kernel)) rfl
theorem w_961 : Cond.code yX10_cellOf cX10_cellOf 2 (some .int) ∈ gT := gT_in (List.mem_of_getElem? (i := 961) (by decide +kernel)) rfl
theorem w_962 : Cond.methodLink RX6 96 yX6_mark ∈ gT := gT_in (List.mem_of_getElem? (i := 962) (by decide +kernel)) rfl
theorem w_964 : Cond.instanceMethod yX6_mark ∈ gT := gT_in (List.mem_of_getElem? (i := 964) (by decide +kernel)) rfl
theorem w_965 : Cond.code yX6_mark cX6_mark 2 none ∈ gT := gT_in (List.mem_of_getElem? (i := 965) (by decide +kernel)) rfl
theorem w_966 : Cond.methodLinkNest RX6 99 yX10_isCell "PenSwings" ∈ lw_tbl := List.mem_of_getElem? (i := 966) (by decide +kernel)
theorem w_967 : Cond.static yX10_isCell ∈ gT := gT_in (List.mem_of_getElem? (i := 967) (by decide +kernel)) rfl
theorem w_968 : Cond.code yX10_isCell cX10_isCell 1 (some .boolean) ∈ gT := gT_in (List.mem_of_getElem? (i := 968) (by decide +kernel)) rfl
theorem w_969 : Cond.methodLink RX6 78 yX6_lift ∈ gT := gT_in (List.mem_of_getElem? (i := 969) (by decide +kernel)) rfl
theorem w_971 : Cond.instanceMethod yX6_lift ∈ gT := gT_in (List.mem_of_getElem? (i := 971) (by decide +kernel)) rfl
theorem w_972 : Cond.code yX6_lift cX6_lift 2 none ∈ gT := gT_in (List.mem_of_getElem? (i := 972) (by decide +kernel)) rfl
theorem w_973 : Cond.methodLink RX6 84 yX6_alter ∈ gT := gT_in (List.mem_of_getElem? (i := 973) (by decide +kernel)) rfl
theorem w_975 : Cond.instanceMethod yX6_alter ∈ gT := gT_in (List.mem_of_getElem? (i := 975) (by decide +kernel)) rfl
theorem w_976 : Cond.code yX6_alter cX6_alter 4 none ∈ gT := gT_in (List.mem_of_getElem? (i := 976) (by decide +kernel)) rfl
theorem w_977 : Cond.methodLink RX6 105 yJ9_min_7cf53 ∈ gT := gT_in (List.mem_of_getElem? (i := 977) (by decide +kernel)) rfl
theorem w_978 : Cond.methodLink RX6 111 yJ9_max_7cf53 ∈ gT := gT_in (List.mem_of_getElem? (i := 978) (by decide +kernel)) rfl
theorem w_979 : Cond.methodLink RX6 88 yX6_holds ∈ gT := gT_in (List.mem_of_getElem? (i := 979) (by decide +kernel)) rfl
theorem w_981 : Cond.instanceMethod yX6_holds ∈ gT := gT_in (List.mem_of_getElem? (i := 981) (by decide +kernel)) rfl
theorem w_982 : Cond.code yX6_holds cX6_holds 4 (some .boolean) ∈ gT := gT_in (List.mem_of_getElem? (i := 982) (by decide +kernel)) rfl
theorem w_983 : Cond.methodLink RX6 117 yX2_where ∈ gT := gT_in (List.mem_of_getElem? (i := 983) (by decide +kernel)) rfl
theorem w_984 : Cond.methodLink RX10 160 yX6_cell ∈ gT := gT_in (List.mem_of_getElem? (i := 984) (by decide +kernel)) rfl
theorem w_985 : Cond.methodLink RL 105 yL_marks ∈ gT := gT_in (List.mem_of_getElem? (i := 985) (by decide +kernel)) rfl
theorem w_986 : Cond.static yL_marks ∈ gT := gT_in (List.mem_of_getElem? (i := 986) (by decide +kernel)) rfl
theorem w_988 : Cond.methodLink RL 23 yX10_marks ∈ gT := gT_in (List.mem_of_getElem? (i := 988) (by decide +kernel)) rfl
theorem w_989 : Cond.instanceMethod yX10_marks ∈ gT := gT_in (List.mem_of_getElem? (i := 989) (by decide +kernel)) rfl
theorem w_990 : Cond.selects RX10 yX10_marks yX10_marks ∈ gT := gT_in (List.mem_of_getElem? (i := 990) (by decide +kernel)) rfl
theorem w_991 : Cond.code yX10_marks cX10_marks 2 (some .int) ∈ gT := gT_in (List.mem_of_getElem? (i := 991) (by decide +kernel)) rfl
theorem w_992 : Cond.methodLink RX10 163 yX10_needCell ∈ gT := gT_in (List.mem_of_getElem? (i := 992) (by decide +kernel)) rfl
theorem w_993 : Cond.static yX10_needCell ∈ gT := gT_in (List.mem_of_getElem? (i := 993) (by decide +kernel)) rfl
theorem w_994 : Cond.code yX10_needCell cX10_needCell 1 none ∈ gT := gT_in (List.mem_of_getElem? (i := 994) (by decide +kernel)) rfl
theorem w_995 : Cond.methodLink RX10 369 yX10_isCell ∈ gT := gT_in (List.mem_of_getElem? (i := 995) (by decide +kernel)) rfl
theorem w_997 : Cond.methodLink RL 112 yL_count ∈ gT := gT_in (List.mem_of_getElem? (i := 997) (by decide +kernel)) rfl
theorem w_998 : Cond.static yL_count ∈ gT := gT_in (List.mem_of_getElem? (i := 998) (by decide +kernel)) rfl
theorem w_1000 : Cond.methodLink RL 26 yX10_count ∈ gT := gT_in (List.mem_of_getElem? (i := 1000) (by decide +kernel)) rfl
theorem w_1001 : Cond.instanceMethod yX10_count ∈ gT := gT_in (List.mem_of_getElem? (i := 1001) (by decide +kernel)) rfl
theorem w_1002 : Cond.selects RX10 yX10_count yX10_count ∈ gT := gT_in (List.mem_of_getElem? (i := 1002) (by decide +kernel)) rfl
theorem w_1003 : Cond.code yX10_count cX10_count 2 (some .int) ∈ gT := gT_in (List.mem_of_getElem? (i := 1003) (by decide +kernel)) rfl
theorem w_1004 : Cond.methodLink RL 115 yL_pendulum ∈ gT := gT_in (List.mem_of_getElem? (i := 1004) (by decide +kernel)) rfl
theorem w_1005 : Cond.static yL_pendulum ∈ gT := gT_in (List.mem_of_getElem? (i := 1005) (by decide +kernel)) rfl
theorem w_1007 : Cond.methodLink RL 29 yX10_pendulum ∈ gT := gT_in (List.mem_of_getElem? (i := 1007) (by decide +kernel)) rfl
theorem w_1008 : Cond.instanceMethod yX10_pendulum ∈ gT := gT_in (List.mem_of_getElem? (i := 1008) (by decide +kernel)) rfl
theorem w_1009 : Cond.selects RX10 yX10_pendulum yX10_pendulum ∈ gT := gT_in (List.mem_of_getElem? (i := 1009) (by decide +kernel)) rfl
theorem w_1010 : Cond.code yX10_pendulum cX10_pendulum 3 (some .int) ∈ gT := gT_in (List.mem_of_getElem? (i := 1010) (by decide +kernel)) rfl
theorem w_1011 : Cond.methodLink RX10 187 yX10_needPendulum ∈ gT := gT_in (List.mem_of_getElem? (i := 1011) (by decide +kernel)) rfl
theorem w_1012 : Cond.static yX10_needPendulum ∈ gT := gT_in (List.mem_of_getElem? (i := 1012) (by decide +kernel)) rfl
theorem w_1013 : Cond.code yX10_needPendulum cX10_needPendulum 1 none ∈ gT := gT_in (List.mem_of_getElem? (i := 1013) (by decide +kernel)) rfl
theorem w_1015 : Cond.methodLink RX10 202 yX2_period ∈ gT := gT_in (List.mem_of_getElem? (i := 1015) (by decide +kernel)) rfl
theorem w_1016 : Cond.methodLink RL 119 yL_set ∈ gT := gT_in (List.mem_of_getElem? (i := 1016) (by decide +kernel)) rfl
theorem w_1017 : Cond.static yL_set ∈ gT := gT_in (List.mem_of_getElem? (i := 1017) (by decide +kernel)) rfl
theorem w_1019 : Cond.methodLink RL 33 yX10_set ∈ gT := gT_in (List.mem_of_getElem? (i := 1019) (by decide +kernel)) rfl
theorem w_1020 : Cond.instanceMethod yX10_set ∈ gT := gT_in (List.mem_of_getElem? (i := 1020) (by decide +kernel)) rfl
theorem w_1021 : Cond.selects RX10 yX10_set yX10_set ∈ gT := gT_in (List.mem_of_getElem? (i := 1021) (by decide +kernel)) rfl
theorem w_1022 : Cond.code yX10_set cX10_set 6 (some .int) ∈ gT := gT_in (List.mem_of_getElem? (i := 1022) (by decide +kernel)) rfl
theorem w_1023 : Cond.methodLink RX10 206 yX10_mostOfSetting ∈ gT := gT_in (List.mem_of_getElem? (i := 1023) (by decide +kernel)) rfl
theorem w_1024 : Cond.static yX10_mostOfSetting ∈ gT := gT_in (List.mem_of_getElem? (i := 1024) (by decide +kernel)) rfl
theorem w_1025 : Cond.code yX10_mostOfSetting cX10_mostOfSetting 1 (some .int) ∈ gT := gT_in (List.mem_of_getElem? (i := 1025) (by decide +kernel)) rfl
theorem w_1026 : Cond.methodLink RL 123 yL_swing ∈ gT := gT_in (List.mem_of_getElem? (i := 1026) (by decide +kernel)) rfl
theorem w_1027 : Cond.static yL_swing ∈ gT := gT_in (List.mem_of_getElem? (i := 1027) (by decide +kernel)) rfl
theorem w_1029 : Cond.methodLink RL 37 yX10_swing ∈ gT := gT_in (List.mem_of_getElem? (i := 1029) (by decide +kernel)) rfl
theorem w_1030 : Cond.instanceMethod yX10_swing ∈ gT := gT_in (List.mem_of_getElem? (i := 1030) (by decide +kernel)) rfl
theorem w_1031 : Cond.selects RX10 yX10_swing yX10_swing ∈ gT := gT_in (List.mem_of_getElem? (i := 1031) (by decide +kernel)) rfl
theorem w_1032 : Cond.code yX10_swing cX10_swing 3 (some .int) ∈ gT := gT_in (List.mem_of_getElem? (i := 1032) (by decide +kernel)) rfl
theorem w_1033 : Cond.methodLink RX10 212 yX10_needTick ∈ gT := gT_in (List.mem_of_getElem? (i := 1033) (by decide +kernel)) rfl
theorem w_1034 : Cond.static yX10_needTick ∈ gT := gT_in (List.mem_of_getElem? (i := 1034) (by decide +kernel)) rfl
theorem w_1035 : Cond.code yX10_needTick cX10_needTick 1 none ∈ gT := gT_in (List.mem_of_getElem? (i := 1035) (by decide +kernel)) rfl
theorem w_1037 : Cond.methodLink RX10 215 yX2_where ∈ gT := gT_in (List.mem_of_getElem? (i := 1037) (by decide +kernel)) rfl
theorem w_1038 : Cond.methodLink RL 126 yL_pen ∈ gT := gT_in (List.mem_of_getElem? (i := 1038) (by decide +kernel)) rfl
theorem w_1039 : Cond.static yL_pen ∈ gT := gT_in (List.mem_of_getElem? (i := 1039) (by decide +kernel)) rfl
theorem w_1041 : Cond.methodLink RL 40 yX10_pen ∈ gT := gT_in (List.mem_of_getElem? (i := 1041) (by decide +kernel)) rfl
theorem w_1042 : Cond.instanceMethod yX10_pen ∈ gT := gT_in (List.mem_of_getElem? (i := 1042) (by decide +kernel)) rfl
theorem w_1043 : Cond.selects RX10 yX10_pen yX10_pen ∈ gT := gT_in (List.mem_of_getElem? (i := 1043) (by decide +kernel)) rfl
theorem w_1044 : Cond.code yX10_pen cX10_pen 3 (some .int) ∈ gT := gT_in (List.mem_of_getElem? (i := 1044) (by decide +kernel)) rfl
theorem w_1045 : Cond.methodLink RX10 219 yX2_penAt ∈ gT := gT_in (List.mem_of_getElem? (i := 1045) (by decide +kernel)) rfl
theorem w_1046 : Cond.methodLink RL 129 yL_drawn ∈ gT := gT_in (List.mem_of_getElem? (i := 1046) (by decide +kernel)) rfl
theorem w_1047 : Cond.static yL_drawn ∈ gT := gT_in (List.mem_of_getElem? (i := 1047) (by decide +kernel)) rfl
theorem w_1049 : Cond.methodLink RL 43 yX10_drawn ∈ gT := gT_in (List.mem_of_getElem? (i := 1049) (by decide +kernel)) rfl
theorem w_1050 : Cond.instanceMethod yX10_drawn ∈ gT := gT_in (List.mem_of_getElem? (i := 1050) (by decide +kernel)) rfl
theorem w_1051 : Cond.selects RX10 yX10_drawn yX10_drawn ∈ gT := gT_in (List.mem_of_getElem? (i := 1051) (by decide +kernel)) rfl
theorem w_1052 : Cond.code yX10_drawn cX10_drawn 3 (some .int) ∈ gT := gT_in (List.mem_of_getElem? (i := 1052) (by decide +kernel)) rfl
theorem w_1053 : Cond.methodLink RX10 222 yX10_needSpan ∈ gT := gT_in (List.mem_of_getElem? (i := 1053) (by decide +kernel)) rfl
theorem w_1054 : Cond.static yX10_needSpan ∈ gT := gT_in (List.mem_of_getElem? (i := 1054) (by decide +kernel)) rfl
theorem w_1055 : Cond.code yX10_needSpan cX10_needSpan 2 none ∈ gT := gT_in (List.mem_of_getElem? (i := 1055) (by decide +kernel)) rfl
theorem w_1057 : Cond.methodLink RX10 225 yJ7_fill_53178 ∈ gT := gT_in (List.mem_of_getElem? (i := 1057) (by decide +kernel)) rfl
theorem w_1058 : Cond.methodLink RX10 231 yX10_markSeen ∈ gT := gT_in (List.mem_of_getElem? (i := 1058) (by decide +kernel)) rfl
theorem w_1060 : Cond.instanceMethod yX10_markSeen ∈ gT := gT_in (List.mem_of_getElem? (i := 1060) (by decide +kernel)) rfl
theorem w_1061 : Cond.code yX10_markSeen cX10_markSeen 7 none ∈ gT := gT_in (List.mem_of_getElem? (i := 1061) (by decide +kernel)) rfl
theorem w_1062 : Cond.methodLink RX10 238 yX2_cellAt ∈ gT := gT_in (List.mem_of_getElem? (i := 1062) (by decide +kernel)) rfl
theorem w_1063 : Cond.instanceMethod yX2_cellAt ∈ gT := gT_in (List.mem_of_getElem? (i := 1063) (by decide +kernel)) rfl
theorem w_1064 : Cond.selects RX2 yX2_cellAt yX2_cellAt ∈ gT := gT_in (List.mem_of_getElem? (i := 1064) (by decide +kernel)) rfl
theorem w_1065 : Cond.code yX2_cellAt cX2_cellAt 2 (some .int) ∈ gT := gT_in (List.mem_of_getElem? (i := 1065) (by decide +kernel)) rfl
theorem w_1066 : Cond.methodLink RX2 79 yX2_penAt ∈ gT := gT_in (List.mem_of_getElem? (i := 1066) (by decide +kernel)) rfl
theorem w_1067 : Cond.methodLinkNest RX2 82 yX10_cellOf "PenSwings" ∈ lw_tbl := List.mem_of_getElem? (i := 1067) (by decide +kernel)
theorem w_1068 : Cond.methodLink RX10 235 yX10_cellsSeen ∈ gT := gT_in (List.mem_of_getElem? (i := 1068) (by decide +kernel)) rfl
theorem w_1070 : Cond.instanceMethod yX10_cellsSeen ∈ gT := gT_in (List.mem_of_getElem? (i := 1070) (by decide +kernel)) rfl
theorem w_1071 : Cond.code yX10_cellsSeen cX10_cellsSeen 4 (some .int) ∈ gT := gT_in (List.mem_of_getElem? (i := 1071) (by decide +kernel)) rfl
theorem w_1072 : Cond.methodLink RL 132 yL_inCell ∈ gT := gT_in (List.mem_of_getElem? (i := 1072) (by decide +kernel)) rfl
theorem w_1073 : Cond.static yL_inCell ∈ gT := gT_in (List.mem_of_getElem? (i := 1073) (by decide +kernel)) rfl
theorem w_1075 : Cond.methodLink RL 46 yX10_inCell ∈ gT := gT_in (List.mem_of_getElem? (i := 1075) (by decide +kernel)) rfl
theorem w_1076 : Cond.instanceMethod yX10_inCell ∈ gT := gT_in (List.mem_of_getElem? (i := 1076) (by decide +kernel)) rfl
theorem w_1077 : Cond.selects RX10 yX10_inCell yX10_inCell ∈ gT := gT_in (List.mem_of_getElem? (i := 1077) (by decide +kernel)) rfl
theorem w_1078 : Cond.code yX10_inCell cX10_inCell 5 (some .int) ∈ gT := gT_in (List.mem_of_getElem? (i := 1078) (by decide +kernel)) rfl
theorem w_1079 : Cond.methodLink RL 147 yL_take ∈ gT := gT_in (List.mem_of_getElem? (i := 1079) (by decide +kernel)) rfl
theorem w_1080 : Cond.static yL_take ∈ gT := gT_in (List.mem_of_getElem? (i := 1080) (by decide +kernel)) rfl
theorem w_1082 : Cond.methodLink RL 49 yX10_take ∈ gT := gT_in (List.mem_of_getElem? (i := 1082) (by decide +kernel)) rfl
theorem w_1083 : Cond.instanceMethod yX10_take ∈ gT := gT_in (List.mem_of_getElem? (i := 1083) (by decide +kernel)) rfl
theorem w_1084 : Cond.selects RX10 yX10_take yX10_take ∈ gT := gT_in (List.mem_of_getElem? (i := 1084) (by decide +kernel)) rfl
theorem w_1085 : Cond.code yX10_take cX10_take 2 none ∈ gT := gT_in (List.mem_of_getElem? (i := 1085) (by decide +kernel)) rfl
theorem w_1086 : Cond.methodLink RX10 261 yX10_needPortrait ∈ gT := gT_in (List.mem_of_getElem? (i := 1086) (by decide +kernel)) rfl
theorem w_1088 : Cond.instanceMethod yX10_needPortrait ∈ gT := gT_in (List.mem_of_getElem? (i := 1088) (by decide +kernel)) rfl
theorem w_1089 : Cond.code yX10_needPortrait cX10_needPortrait 2 none ∈ gT := gT_in (List.mem_of_getElem? (i := 1089) (by decide +kernel)) rfl
theorem w_1091 : Cond.methodLink RX10 264 yX10_takeInto ∈ gT := gT_in (List.mem_of_getElem? (i := 1091) (by decide +kernel)) rfl
theorem w_1093 : Cond.instanceMethod yX10_takeInto ∈ gT := gT_in (List.mem_of_getElem? (i := 1093) (by decide +kernel)) rfl
theorem w_1094 : Cond.code yX10_takeInto cX10_takeInto 3 none ∈ gT := gT_in (List.mem_of_getElem? (i := 1094) (by decide +kernel)) rfl
theorem w_1095 : Cond.methodLink RL 151 yL_alike ∈ gT := gT_in (List.mem_of_getElem? (i := 1095) (by decide +kernel)) rfl
theorem w_1096 : Cond.static yL_alike ∈ gT := gT_in (List.mem_of_getElem? (i := 1096) (by decide +kernel)) rfl
theorem w_1098 : Cond.methodLink RL 53 yX10_alike ∈ gT := gT_in (List.mem_of_getElem? (i := 1098) (by decide +kernel)) rfl
theorem w_1099 : Cond.instanceMethod yX10_alike ∈ gT := gT_in (List.mem_of_getElem? (i := 1099) (by decide +kernel)) rfl
theorem w_1100 : Cond.selects RX10 yX10_alike yX10_alike ∈ gT := gT_in (List.mem_of_getElem? (i := 1100) (by decide +kernel)) rfl
theorem w_1101 : Cond.code yX10_alike cX10_alike 3 (some .int) ∈ gT := gT_in (List.mem_of_getElem? (i := 1101) (by decide +kernel)) rfl
theorem w_1102 : Cond.methodLink RX10 268 yX10_compare ∈ gT := gT_in (List.mem_of_getElem? (i := 1102) (by decide +kernel)) rfl
theorem w_1104 : Cond.instanceMethod yX10_compare ∈ gT := gT_in (List.mem_of_getElem? (i := 1104) (by decide +kernel)) rfl
theorem w_1105 : Cond.code yX10_compare cX10_compare 3 (some .int) ∈ gT := gT_in (List.mem_of_getElem? (i := 1105) (by decide +kernel)) rfl
theorem w_1106 : Cond.methodLink RX10 362 yX10_copyWith ∈ gT := gT_in (List.mem_of_getElem? (i := 1106) (by decide +kernel)) rfl
theorem w_1108 : Cond.instanceMethod yX10_copyWith ∈ gT := gT_in (List.mem_of_getElem? (i := 1108) (by decide +kernel)) rfl
theorem w_1109 : Cond.code yX10_copyWith cX10_copyWith 3 none ∈ gT := gT_in (List.mem_of_getElem? (i := 1109) (by decide +kernel)) rfl
theorem w_1110 : Cond.methodLink RX10 365 yX4_joins ∈ gT := gT_in (List.mem_of_getElem? (i := 1110) (by decide +kernel)) rfl
theorem w_1111 : Cond.instanceMethod yX4_joins ∈ gT := gT_in (List.mem_of_getElem? (i := 1111) (by decide +kernel)) rfl
theorem w_1112 : Cond.selects RX4 yX4_joins yX4_joins ∈ gT := gT_in (List.mem_of_getElem? (i := 1112) (by decide +kernel)) rfl
theorem w_1113 : Cond.code yX4_joins cX4_joins 4 (some .boolean) ∈ gT := gT_in (List.mem_of_getElem? (i := 1113) (by decide +kernel)) rfl
theorem w_1114 : Cond.methodLink RX4 18 yX4_pair ∈ gT := gT_in (List.mem_of_getElem? (i := 1114) (by decide +kernel)) rfl
theorem w_1116 : Cond.instanceMethod yX4_pair ∈ gT := gT_in (List.mem_of_getElem? (i := 1116) (by decide +kernel)) rfl
theorem w_1117 : Cond.code yX4_pair cX4_pair 5 none ∈ gT := gT_in (List.mem_of_getElem? (i := 1117) (by decide +kernel)) rfl
theorem w_1118 : Cond.methodLink RX4 22 yX4_agree ∈ gT := gT_in (List.mem_of_getElem? (i := 1118) (by decide +kernel)) rfl
theorem w_1120 : Cond.instanceMethod yX4_agree ∈ gT := gT_in (List.mem_of_getElem? (i := 1120) (by decide +kernel)) rfl
theorem w_1121 : Cond.code yX4_agree cX4_agree 11 (some .boolean) ∈ gT := gT_in (List.mem_of_getElem? (i := 1121) (by decide +kernel)) rfl
theorem w_1122 : Cond.methodLink RX4 37 yX2_period ∈ gT := gT_in (List.mem_of_getElem? (i := 1122) (by decide +kernel)) rfl
theorem w_1123 : Cond.methodLink RX4 26 yX4_meet ∈ gT := gT_in (List.mem_of_getElem? (i := 1123) (by decide +kernel)) rfl
theorem w_1125 : Cond.instanceMethod yX4_meet ∈ gT := gT_in (List.mem_of_getElem? (i := 1125) (by decide +kernel)) rfl
theorem w_1126 : Cond.code yX4_meet cX4_meet 4 (some .boolean) ∈ gT := gT_in (List.mem_of_getElem? (i := 1126) (by decide +kernel)) rfl
theorem w_1127 : Cond.methodLink RX4 41 yX4_findTimes ∈ gT := gT_in (List.mem_of_getElem? (i := 1127) (by decide +kernel)) rfl
theorem w_1129 : Cond.instanceMethod yX4_findTimes ∈ gT := gT_in (List.mem_of_getElem? (i := 1129) (by decide +kernel)) rfl
theorem w_1130 : Cond.code yX4_findTimes cX4_findTimes 9 (some .boolean) ∈ gT := gT_in (List.mem_of_getElem? (i := 1130) (by decide +kernel)) rfl
theorem w_1131 : Cond.methodLink RX4 49 yJ9_floorMod_7cf53 ∈ gT := gT_in (List.mem_of_getElem? (i := 1131) (by decide +kernel)) rfl
theorem w_1132 : Cond.static yJ9_floorMod_7cf53 ∈ gT := gT_in (List.mem_of_getElem? (i := 1132) (by decide +kernel)) rfl
theorem w_1133 : Cond.code yJ9_floorMod_7cf53 cJ9_floorMod_7cf53 3 (some .int) ∈ gT := gT_in (List.mem_of_getElem? (i := 1133) (by decide +kernel)) rfl
theorem w_1134 : Cond.methodLink RX4 45 yX4_oneTimeForAll ∈ gT := gT_in (List.mem_of_getElem? (i := 1134) (by decide +kernel)) rfl
theorem w_1136 : Cond.instanceMethod yX4_oneTimeForAll ∈ gT := gT_in (List.mem_of_getElem? (i := 1136) (by decide +kernel)) rfl
theorem w_1137 : Cond.code yX4_oneTimeForAll cX4_oneTimeForAll 6 (some .boolean) ∈ gT := gT_in (List.mem_of_getElem? (i := 1137) (by decide +kernel)) rfl
theorem w_1138 : Cond.methodLinkNest RX4 55 yX10_greatestCommon "PenSwings" ∈ lw_tbl := List.mem_of_getElem? (i := 1138) (by decide +kernel)
theorem w_1139 : Cond.methodLink RL 154 yL_kinds ∈ gT := gT_in (List.mem_of_getElem? (i := 1139) (by decide +kernel)) rfl
theorem w_1140 : Cond.static yL_kinds ∈ gT := gT_in (List.mem_of_getElem? (i := 1140) (by decide +kernel)) rfl
theorem w_1142 : Cond.methodLink RL 56 yX10_kinds ∈ gT := gT_in (List.mem_of_getElem? (i := 1142) (by decide +kernel)) rfl
theorem w_1143 : Cond.instanceMethod yX10_kinds ∈ gT := gT_in (List.mem_of_getElem? (i := 1143) (by decide +kernel)) rfl
theorem w_1144 : Cond.selects RX10 yX10_kinds yX10_kinds ∈ gT := gT_in (List.mem_of_getElem? (i := 1144) (by decide +kernel)) rfl
theorem w_1145 : Cond.code yX10_kinds cX10_kinds 4 (some .int) ∈ gT := gT_in (List.mem_of_getElem? (i := 1145) (by decide +kernel)) rfl
theorem w_1146 : Cond.methodLink RX10 271 yX10_leastOfKind ∈ gT := gT_in (List.mem_of_getElem? (i := 1146) (by decide +kernel)) rfl
theorem w_1148 : Cond.instanceMethod yX10_leastOfKind ∈ gT := gT_in (List.mem_of_getElem? (i := 1148) (by decide +kernel)) rfl
theorem w_1149 : Cond.code yX10_leastOfKind cX10_leastOfKind 3 (some .int) ∈ gT := gT_in (List.mem_of_getElem? (i := 1149) (by decide +kernel)) rfl
theorem w_1150 : Cond.methodLink RL 165 yL_fits ∈ gT := gT_in (List.mem_of_getElem? (i := 1150) (by decide +kernel)) rfl
theorem w_1151 : Cond.static yL_fits ∈ gT := gT_in (List.mem_of_getElem? (i := 1151) (by decide +kernel)) rfl
theorem w_1153 : Cond.methodLink RL 59 yX10_fits ∈ gT := gT_in (List.mem_of_getElem? (i := 1153) (by decide +kernel)) rfl
theorem w_1154 : Cond.instanceMethod yX10_fits ∈ gT := gT_in (List.mem_of_getElem? (i := 1154) (by decide +kernel)) rfl
theorem w_1155 : Cond.selects RX10 yX10_fits yX10_fits ∈ gT := gT_in (List.mem_of_getElem? (i := 1155) (by decide +kernel)) rfl
theorem w_1156 : Cond.code yX10_fits cX10_fits 4 (some .int) ∈ gT := gT_in (List.mem_of_getElem? (i := 1156) (by decide +kernel)) rfl
theorem w_1157 : Cond.methodLink RX10 284 yX10_needWithin ∈ gT := gT_in (List.mem_of_getElem? (i := 1157) (by decide +kernel)) rfl
theorem w_1158 : Cond.static yX10_needWithin ∈ gT := gT_in (List.mem_of_getElem? (i := 1158) (by decide +kernel)) rfl
theorem w_1159 : Cond.code yX10_needWithin cX10_needWithin 3 none ∈ gT := gT_in (List.mem_of_getElem? (i := 1159) (by decide +kernel)) rfl
theorem w_1161 : Cond.methodLink RX10 288 yX1_findRows ∈ gT := gT_in (List.mem_of_getElem? (i := 1161) (by decide +kernel)) rfl
theorem w_1162 : Cond.instanceMethod yX1_findRows ∈ gT := gT_in (List.mem_of_getElem? (i := 1162) (by decide +kernel)) rfl
theorem w_1163 : Cond.selects RX1 yX1_findRows yX1_findRows ∈ gT := gT_in (List.mem_of_getElem? (i := 1163) (by decide +kernel)) rfl
theorem w_1164 : Cond.code yX1_findRows cX1_findRows 7 none ∈ gT := gT_in (List.mem_of_getElem? (i := 1164) (by decide +kernel)) rfl
theorem w_1165 : Cond.methodLink RX1 21 yX1_findPlaces ∈ gT := gT_in (List.mem_of_getElem? (i := 1165) (by decide +kernel)) rfl
theorem w_1167 : Cond.instanceMethod yX1_findPlaces ∈ gT := gT_in (List.mem_of_getElem? (i := 1167) (by decide +kernel)) rfl
theorem w_1168 : Cond.code yX1_findPlaces cX1_findPlaces 7 none ∈ gT := gT_in (List.mem_of_getElem? (i := 1168) (by decide +kernel)) rfl
theorem w_1169 : Cond.methodLink RX1 56 yX1_placeOf ∈ gT := gT_in (List.mem_of_getElem? (i := 1169) (by decide +kernel)) rfl
theorem w_1170 : Cond.static yX1_placeOf ∈ gT := gT_in (List.mem_of_getElem? (i := 1170) (by decide +kernel)) rfl
theorem w_1171 : Cond.code yX1_placeOf cX1_placeOf 2 (some .int) ∈ gT := gT_in (List.mem_of_getElem? (i := 1171) (by decide +kernel)) rfl
theorem w_1172 : Cond.methodLink RX1 63 yX2_where ∈ gT := gT_in (List.mem_of_getElem? (i := 1172) (by decide +kernel)) rfl
theorem w_1173 : Cond.methodLink RX1 25 yX1_findOffs ∈ gT := gT_in (List.mem_of_getElem? (i := 1173) (by decide +kernel)) rfl
theorem w_1175 : Cond.instanceMethod yX1_findOffs ∈ gT := gT_in (List.mem_of_getElem? (i := 1175) (by decide +kernel)) rfl
theorem w_1176 : Cond.code yX1_findOffs cX1_findOffs 10 none ∈ gT := gT_in (List.mem_of_getElem? (i := 1176) (by decide +kernel)) rfl
theorem w_1177 : Cond.methodLink RX1 66 yX2_shaken ∈ gT := gT_in (List.mem_of_getElem? (i := 1177) (by decide +kernel)) rfl
theorem w_1178 : Cond.methodLink RX1 69 yX1_offOf ∈ gT := gT_in (List.mem_of_getElem? (i := 1178) (by decide +kernel)) rfl
theorem w_1179 : Cond.static yX1_offOf ∈ gT := gT_in (List.mem_of_getElem? (i := 1179) (by decide +kernel)) rfl
theorem w_1180 : Cond.code yX1_offOf cX1_offOf 2 (some .int) ∈ gT := gT_in (List.mem_of_getElem? (i := 1180) (by decide +kernel)) rfl
theorem w_1181 : Cond.methodLink RX1 72 yJ9_abs_0f7a4 ∈ gT := gT_in (List.mem_of_getElem? (i := 1181) (by decide +kernel)) rfl
theorem w_1182 : Cond.methodLink RX1 47 yX1_weighAll ∈ gT := gT_in (List.mem_of_getElem? (i := 1182) (by decide +kernel)) rfl
theorem w_1184 : Cond.instanceMethod yX1_weighAll ∈ gT := gT_in (List.mem_of_getElem? (i := 1184) (by decide +kernel)) rfl
theorem w_1185 : Cond.code yX1_weighAll cX1_weighAll 7 none ∈ gT := gT_in (List.mem_of_getElem? (i := 1185) (by decide +kernel)) rfl
theorem w_1186 : Cond.methodLink RX1 78 yX1_weigh ∈ gT := gT_in (List.mem_of_getElem? (i := 1186) (by decide +kernel)) rfl
theorem w_1188 : Cond.instanceMethod yX1_weigh ∈ gT := gT_in (List.mem_of_getElem? (i := 1188) (by decide +kernel)) rfl
theorem w_1189 : Cond.code yX1_weigh cX1_weigh 9 none ∈ gT := gT_in (List.mem_of_getElem? (i := 1189) (by decide +kernel)) rfl
theorem w_1190 : Cond.methodLink RX1 81 yX1_figures ∈ gT := gT_in (List.mem_of_getElem? (i := 1190) (by decide +kernel)) rfl
theorem w_1191 : Cond.static yX1_figures ∈ gT := gT_in (List.mem_of_getElem? (i := 1191) (by decide +kernel)) rfl
theorem w_1192 : Cond.code yX1_figures cX1_figures 1 (some .int) ∈ gT := gT_in (List.mem_of_getElem? (i := 1192) (by decide +kernel)) rfl
theorem w_1193 : Cond.methodLink RL 168 yL_chord ∈ gT := gT_in (List.mem_of_getElem? (i := 1193) (by decide +kernel)) rfl
theorem w_1194 : Cond.static yL_chord ∈ gT := gT_in (List.mem_of_getElem? (i := 1194) (by decide +kernel)) rfl
theorem w_1196 : Cond.methodLink RL 62 yX10_chord ∈ gT := gT_in (List.mem_of_getElem? (i := 1196) (by decide +kernel)) rfl
theorem w_1197 : Cond.instanceMethod yX10_chord ∈ gT := gT_in (List.mem_of_getElem? (i := 1197) (by decide +kernel)) rfl
theorem w_1198 : Cond.selects RX10 yX10_chord yX10_chord ∈ gT := gT_in (List.mem_of_getElem? (i := 1198) (by decide +kernel)) rfl
theorem w_1199 : Cond.code yX10_chord cX10_chord 10 (some .int) ∈ gT := gT_in (List.mem_of_getElem? (i := 1199) (by decide +kernel)) rfl
theorem w_1200 : Cond.methodLink RL 171 yL_cart ∈ gT := gT_in (List.mem_of_getElem? (i := 1200) (by decide +kernel)) rfl
theorem w_1201 : Cond.static yL_cart ∈ gT := gT_in (List.mem_of_getElem? (i := 1201) (by decide +kernel)) rfl
theorem w_1203 : Cond.methodLink RL 65 yX10_cart ∈ gT := gT_in (List.mem_of_getElem? (i := 1203) (by decide +kernel)) rfl
theorem w_1204 : Cond.instanceMethod yX10_cart ∈ gT := gT_in (List.mem_of_getElem? (i := 1204) (by decide +kernel)) rfl
theorem w_1205 : Cond.selects RX10 yX10_cart yX10_cart ∈ gT := gT_in (List.mem_of_getElem? (i := 1205) (by decide +kernel)) rfl
theorem w_1206 : Cond.code yX10_cart cX10_cart 2 (some .int) ∈ gT := gT_in (List.mem_of_getElem? (i := 1206) (by decide +kernel)) rfl
theorem w_1207 : Cond.methodLink RX10 304 yX1_findCart ∈ gT := gT_in (List.mem_of_getElem? (i := 1207) (by decide +kernel)) rfl
theorem w_1208 : Cond.instanceMethod yX1_findCart ∈ gT := gT_in (List.mem_of_getElem? (i := 1208) (by decide +kernel)) rfl
theorem w_1209 : Cond.selects RX1 yX1_findCart yX1_findCart ∈ gT := gT_in (List.mem_of_getElem? (i := 1209) (by decide +kernel)) rfl
theorem w_1210 : Cond.code yX1_findCart cX1_findCart 5 none ∈ gT := gT_in (List.mem_of_getElem? (i := 1210) (by decide +kernel)) rfl
theorem w_1211 : Cond.methodLink RX1 84 yX2_swungTo ∈ gT := gT_in (List.mem_of_getElem? (i := 1211) (by decide +kernel)) rfl
theorem w_1212 : Cond.methodLink RX1 99 yX1_tryCart ∈ gT := gT_in (List.mem_of_getElem? (i := 1212) (by decide +kernel)) rfl
theorem w_1214 : Cond.instanceMethod yX1_tryCart ∈ gT := gT_in (List.mem_of_getElem? (i := 1214) (by decide +kernel)) rfl
theorem w_1215 : Cond.code yX1_tryCart cX1_tryCart 4 none ∈ gT := gT_in (List.mem_of_getElem? (i := 1215) (by decide +kernel)) rfl
theorem w_1216 : Cond.methodLink RX1 103 yX1_modelOf ∈ gT := gT_in (List.mem_of_getElem? (i := 1216) (by decide +kernel)) rfl
theorem w_1218 : Cond.instanceMethod yX1_modelOf ∈ gT := gT_in (List.mem_of_getElem? (i := 1218) (by decide +kernel)) rfl
theorem w_1219 : Cond.code yX1_modelOf cX1_modelOf 5 (some .int) ∈ gT := gT_in (List.mem_of_getElem? (i := 1219) (by decide +kernel)) rfl
theorem w_1220 : Cond.methodLink RX1 107 yX1_isStill ∈ gT := gT_in (List.mem_of_getElem? (i := 1220) (by decide +kernel)) rfl
theorem w_1222 : Cond.instanceMethod yX1_isStill ∈ gT := gT_in (List.mem_of_getElem? (i := 1222) (by decide +kernel)) rfl
theorem w_1223 : Cond.code yX1_isStill cX1_isStill 2 (some .boolean) ∈ gT := gT_in (List.mem_of_getElem? (i := 1223) (by decide +kernel)) rfl
theorem w_1224 : Cond.methodLink RX1 111 yX1_isCartsWay ∈ gT := gT_in (List.mem_of_getElem? (i := 1224) (by decide +kernel)) rfl
theorem w_1226 : Cond.instanceMethod yX1_isCartsWay ∈ gT := gT_in (List.mem_of_getElem? (i := 1226) (by decide +kernel)) rfl
theorem w_1227 : Cond.code yX1_isCartsWay cX1_isCartsWay 2 (some .boolean) ∈ gT := gT_in (List.mem_of_getElem? (i := 1227) (by decide +kernel)) rfl
theorem w_1228 : Cond.methodLink RL 182 yL_factor ∈ gT := gT_in (List.mem_of_getElem? (i := 1228) (by decide +kernel)) rfl
theorem w_1229 : Cond.static yL_factor ∈ gT := gT_in (List.mem_of_getElem? (i := 1229) (by decide +kernel)) rfl
theorem w_1231 : Cond.methodLink RL 68 yX10_factor ∈ gT := gT_in (List.mem_of_getElem? (i := 1231) (by decide +kernel)) rfl
theorem w_1232 : Cond.instanceMethod yX10_factor ∈ gT := gT_in (List.mem_of_getElem? (i := 1232) (by decide +kernel)) rfl
theorem w_1233 : Cond.selects RX10 yX10_factor yX10_factor ∈ gT := gT_in (List.mem_of_getElem? (i := 1233) (by decide +kernel)) rfl
theorem w_1234 : Cond.code yX10_factor cX10_factor 2 (some .int) ∈ gT := gT_in (List.mem_of_getElem? (i := 1234) (by decide +kernel)) rfl
theorem w_1235 : Cond.methodLink RX10 323 yX5_findBest ∈ gT := gT_in (List.mem_of_getElem? (i := 1235) (by decide +kernel)) rfl
theorem w_1236 : Cond.instanceMethod yX5_findBest ∈ gT := gT_in (List.mem_of_getElem? (i := 1236) (by decide +kernel)) rfl
theorem w_1237 : Cond.selects RX5 yX5_findBest yX5_findBest ∈ gT := gT_in (List.mem_of_getElem? (i := 1237) (by decide +kernel)) rfl
theorem w_1238 : Cond.code yX5_findBest cX5_findBest 5 none ∈ gT := gT_in (List.mem_of_getElem? (i := 1238) (by decide +kernel)) rfl
theorem w_1239 : Cond.methodLink RX5 21 yX5_fewestUnlike ∈ gT := gT_in (List.mem_of_getElem? (i := 1239) (by decide +kernel)) rfl
theorem w_1241 : Cond.instanceMethod yX5_fewestUnlike ∈ gT := gT_in (List.mem_of_getElem? (i := 1241) (by decide +kernel)) rfl
theorem w_1242 : Cond.code yX5_fewestUnlike cX5_fewestUnlike 7 (some .int) ∈ gT := gT_in (List.mem_of_getElem? (i := 1242) (by decide +kernel)) rfl
theorem w_1243 : Cond.methodLink RX5 34 yJ9_abs_0f7a4 ∈ gT := gT_in (List.mem_of_getElem? (i := 1243) (by decide +kernel)) rfl
theorem w_1244 : Cond.methodLink RX5 40 yX5_unlikeFigures ∈ gT := gT_in (List.mem_of_getElem? (i := 1244) (by decide +kernel)) rfl
theorem w_1245 : Cond.static yX5_unlikeFigures ∈ gT := gT_in (List.mem_of_getElem? (i := 1245) (by decide +kernel)) rfl
theorem w_1246 : Cond.code yX5_unlikeFigures cX5_unlikeFigures 6 (some .int) ∈ gT := gT_in (List.mem_of_getElem? (i := 1246) (by decide +kernel)) rfl
theorem w_1247 : Cond.methodLink RX5 44 yJ9_min_7cf53 ∈ gT := gT_in (List.mem_of_getElem? (i := 1247) (by decide +kernel)) rfl
theorem w_1248 : Cond.methodLink RL 185 yL_laid ∈ gT := gT_in (List.mem_of_getElem? (i := 1248) (by decide +kernel)) rfl
theorem w_1249 : Cond.static yL_laid ∈ gT := gT_in (List.mem_of_getElem? (i := 1249) (by decide +kernel)) rfl
theorem w_1251 : Cond.methodLink RL 71 yX10_laid ∈ gT := gT_in (List.mem_of_getElem? (i := 1251) (by decide +kernel)) rfl
theorem w_1252 : Cond.instanceMethod yX10_laid ∈ gT := gT_in (List.mem_of_getElem? (i := 1252) (by decide +kernel)) rfl
theorem w_1253 : Cond.selects RX10 yX10_laid yX10_laid ∈ gT := gT_in (List.mem_of_getElem? (i := 1253) (by decide +kernel)) rfl
theorem w_1254 : Cond.code yX10_laid cX10_laid 6 (some .int) ∈ gT := gT_in (List.mem_of_getElem? (i := 1254) (by decide +kernel)) rfl
theorem w_1255 : Cond.methodLink RX10 333 yX10_markPortrait ∈ gT := gT_in (List.mem_of_getElem? (i := 1255) (by decide +kernel)) rfl
theorem w_1257 : Cond.instanceMethod yX10_markPortrait ∈ gT := gT_in (List.mem_of_getElem? (i := 1257) (by decide +kernel)) rfl
theorem w_1258 : Cond.code yX10_markPortrait cX10_markPortrait 5 none ∈ gT := gT_in (List.mem_of_getElem? (i := 1258) (by decide +kernel)) rfl
theorem w_1259 : Cond.methodLink RL 189 yL_evening ∈ gT := gT_in (List.mem_of_getElem? (i := 1259) (by decide +kernel)) rfl
theorem w_1260 : Cond.static yL_evening ∈ gT := gT_in (List.mem_of_getElem? (i := 1260) (by decide +kernel)) rfl
theorem w_1262 : Cond.methodLink RL 75 yX10_evening ∈ gT := gT_in (List.mem_of_getElem? (i := 1262) (by decide +kernel)) rfl
theorem w_1263 : Cond.instanceMethod yX10_evening ∈ gT := gT_in (List.mem_of_getElem? (i := 1263) (by decide +kernel)) rfl
theorem w_1264 : Cond.selects RX10 yX10_evening yX10_evening ∈ gT := gT_in (List.mem_of_getElem? (i := 1264) (by decide +kernel)) rfl
theorem w_1265 : Cond.code yX10_evening cX10_evening 2 (some .int) ∈ gT := gT_in (List.mem_of_getElem? (i := 1265) (by decide +kernel)) rfl
theorem w_1266 : Cond.methodLink RX10 337 yX0_make ∈ gT := gT_in (List.mem_of_getElem? (i := 1266) (by decide +kernel)) rfl
theorem w_1267 : Cond.instanceMethod yX0_make ∈ gT := gT_in (List.mem_of_getElem? (i := 1267) (by decide +kernel)) rfl
theorem w_1268 : Cond.selects RX0 yX0_make yX0_make ∈ gT := gT_in (List.mem_of_getElem? (i := 1268) (by decide +kernel)) rfl
theorem w_1269 : Cond.code yX0_make cX0_make 6 (some .int) ∈ gT := gT_in (List.mem_of_getElem? (i := 1269) (by decide +kernel)) rfl
theorem w_1270 : Cond.methodLink RX0 31 yX0_measure ∈ gT := gT_in (List.mem_of_getElem? (i := 1270) (by decide +kernel)) rfl
theorem w_1272 : Cond.instanceMethod yX0_measure ∈ gT := gT_in (List.mem_of_getElem? (i := 1272) (by decide +kernel)) rfl
theorem w_1273 : Cond.code yX0_measure cX0_measure 7 none ∈ gT := gT_in (List.mem_of_getElem? (i := 1273) (by decide +kernel)) rfl
theorem w_1274 : Cond.methodLink RX0 55 yX0_apartOf ∈ gT := gT_in (List.mem_of_getElem? (i := 1274) (by decide +kernel)) rfl
theorem w_1275 : Cond.static yX0_apartOf ∈ gT := gT_in (List.mem_of_getElem? (i := 1275) (by decide +kernel)) rfl
theorem w_1276 : Cond.code yX0_apartOf cX0_apartOf 2 (some .int) ∈ gT := gT_in (List.mem_of_getElem? (i := 1276) (by decide +kernel)) rfl
theorem w_1277 : Cond.methodLink RX0 59 yX0_pennies ∈ gT := gT_in (List.mem_of_getElem? (i := 1277) (by decide +kernel)) rfl
theorem w_1278 : Cond.static yX0_pennies ∈ gT := gT_in (List.mem_of_getElem? (i := 1278) (by decide +kernel)) rfl
theorem w_1279 : Cond.code yX0_pennies cX0_pennies 6 (some .int) ∈ gT := gT_in (List.mem_of_getElem? (i := 1279) (by decide +kernel)) rfl
theorem w_1280 : Cond.methodLink RX0 63 yJ9_abs_0f7a4 ∈ gT := gT_in (List.mem_of_getElem? (i := 1280) (by decide +kernel)) rfl
theorem w_1281 : Cond.methodLink RX0 35 yX0_has ∈ gT := gT_in (List.mem_of_getElem? (i := 1281) (by decide +kernel)) rfl
theorem w_1282 : Cond.static yX0_has ∈ gT := gT_in (List.mem_of_getElem? (i := 1282) (by decide +kernel)) rfl
theorem w_1283 : Cond.code yX0_has cX0_has 2 (some .boolean) ∈ gT := gT_in (List.mem_of_getElem? (i := 1283) (by decide +kernel)) rfl
theorem w_1284 : Cond.methodLink RX0 39 yX0_weigh ∈ gT := gT_in (List.mem_of_getElem? (i := 1284) (by decide +kernel)) rfl
theorem w_1286 : Cond.instanceMethod yX0_weigh ∈ gT := gT_in (List.mem_of_getElem? (i := 1286) (by decide +kernel)) rfl
theorem w_1287 : Cond.code yX0_weigh cX0_weigh 9 none ∈ gT := gT_in (List.mem_of_getElem? (i := 1287) (by decide +kernel)) rfl
theorem w_1288 : Cond.constant RX0 68 (1000000) ∈ gT := gT_in (List.mem_of_getElem? (i := 1288) (by decide +kernel)) rfl
theorem w_1289 : Cond.methodLink RX0 69 yX0_stateOf ∈ gT := gT_in (List.mem_of_getElem? (i := 1289) (by decide +kernel)) rfl
theorem w_1290 : Cond.static yX0_stateOf ∈ gT := gT_in (List.mem_of_getElem? (i := 1290) (by decide +kernel)) rfl
theorem w_1291 : Cond.code yX0_stateOf cX0_stateOf 2 (some .int) ∈ gT := gT_in (List.mem_of_getElem? (i := 1291) (by decide +kernel)) rfl
theorem w_1292 : Cond.methodLink RX0 72 yJ9_min_7cf53 ∈ gT := gT_in (List.mem_of_getElem? (i := 1292) (by decide +kernel)) rfl
theorem w_1293 : Cond.methodLink RX0 43 yX0_choose ∈ gT := gT_in (List.mem_of_getElem? (i := 1293) (by decide +kernel)) rfl
theorem w_1295 : Cond.instanceMethod yX0_choose ∈ gT := gT_in (List.mem_of_getElem? (i := 1295) (by decide +kernel)) rfl
theorem w_1296 : Cond.code yX0_choose cX0_choose 10 (some .int) ∈ gT := gT_in (List.mem_of_getElem? (i := 1296) (by decide +kernel)) rfl
theorem w_1297 : Cond.methodLink RX0 75 yX0_through ∈ gT := gT_in (List.mem_of_getElem? (i := 1297) (by decide +kernel)) rfl
theorem w_1299 : Cond.instanceMethod yX0_through ∈ gT := gT_in (List.mem_of_getElem? (i := 1299) (by decide +kernel)) rfl
theorem w_1300 : Cond.code yX0_through cX0_through 8 (some .int) ∈ gT := gT_in (List.mem_of_getElem? (i := 1300) (by decide +kernel)) rfl
theorem w_1301 : Cond.methodLink RX0 79 yX0_withTea ∈ gT := gT_in (List.mem_of_getElem? (i := 1301) (by decide +kernel)) rfl
theorem w_1303 : Cond.instanceMethod yX0_withTea ∈ gT := gT_in (List.mem_of_getElem? (i := 1303) (by decide +kernel)) rfl
theorem w_1304 : Cond.code yX0_withTea cX0_withTea 6 (some .int) ∈ gT := gT_in (List.mem_of_getElem? (i := 1304) (by decide +kernel)) rfl
theorem w_1305 : Cond.methodLink RX0 83 yX0_soonestTea ∈ gT := gT_in (List.mem_of_getElem? (i := 1305) (by decide +kernel)) rfl
theorem w_1307 : Cond.instanceMethod yX0_soonestTea ∈ gT := gT_in (List.mem_of_getElem? (i := 1307) (by decide +kernel)) rfl
theorem w_1308 : Cond.code yX0_soonestTea cX0_soonestTea 3 (some .int) ∈ gT := gT_in (List.mem_of_getElem? (i := 1308) (by decide +kernel)) rfl
theorem w_1309 : Cond.methodLink RX0 86 yX0_costWithTea ∈ gT := gT_in (List.mem_of_getElem? (i := 1309) (by decide +kernel)) rfl
theorem w_1311 : Cond.instanceMethod yX0_costWithTea ∈ gT := gT_in (List.mem_of_getElem? (i := 1311) (by decide +kernel)) rfl
theorem w_1312 : Cond.code yX0_costWithTea cX0_costWithTea 5 (some .int) ∈ gT := gT_in (List.mem_of_getElem? (i := 1312) (by decide +kernel)) rfl
theorem w_1313 : Cond.methodLink RL 192 yL_drawing ∈ gT := gT_in (List.mem_of_getElem? (i := 1313) (by decide +kernel)) rfl
theorem w_1314 : Cond.static yL_drawing ∈ gT := gT_in (List.mem_of_getElem? (i := 1314) (by decide +kernel)) rfl
theorem w_1316 : Cond.methodLink RL 78 yX10_drawing ∈ gT := gT_in (List.mem_of_getElem? (i := 1316) (by decide +kernel)) rfl
theorem w_1317 : Cond.instanceMethod yX10_drawing ∈ gT := gT_in (List.mem_of_getElem? (i := 1317) (by decide +kernel)) rfl
theorem w_1318 : Cond.selects RX10 yX10_drawing yX10_drawing ∈ gT := gT_in (List.mem_of_getElem? (i := 1318) (by decide +kernel)) rfl
theorem w_1319 : Cond.code yX10_drawing cX10_drawing 2 (some .int) ∈ gT := gT_in (List.mem_of_getElem? (i := 1319) (by decide +kernel)) rfl
theorem w_1321 : Cond.classLink RL 82 RX11 ∈ gT := gT_in (List.mem_of_getElem? (i := 1321) (by decide +kernel)) rfl
theorem w_1322 : Cond.instantiable RX11 61 ∈ gT := gT_in (List.mem_of_getElem? (i := 1322) (by decide +kernel)) rfl
theorem w_1323 : Cond.methodLink RL 84 yX11_init ∈ gT := gT_in (List.mem_of_getElem? (i := 1323) (by decide +kernel)) rfl
theorem w_1324 : Cond.instanceMethod yX11_init ∈ gT := gT_in (List.mem_of_getElem? (i := 1324) (by decide +kernel)) rfl
theorem w_1325 : Cond.code yX11_init cX11_init 1 none ∈ gT := gT_in (List.mem_of_getElem? (i := 1325) (by decide +kernel)) rfl
theorem w_1326 : Cond.methodLink RX11 1 ⟨"java/lang/Object", "<init>", "()V"⟩ ∈ gT := gT_in (List.mem_of_getElem? (i := 1326) (by decide +kernel)) rfl
theorem w_1327 : Cond.fieldLink RX11 113 "PenSwingsModel" "thrown" "I" ∈ gT := gT_in (List.mem_of_getElem? (i := 1327) (by decide +kernel)) rfl
theorem w_1328 : Cond.fieldLink RX11 216 "PenSwingsModel" "told" "I" ∈ gT := gT_in (List.mem_of_getElem? (i := 1328) (by decide +kernel)) rfl
theorem w_1329 : Cond.fieldLink RX11 219 "PenSwingsModel" "carts" "I" ∈ gT := gT_in (List.mem_of_getElem? (i := 1329) (by decide +kernel)) rfl
theorem w_1330 : Cond.fieldLink RX11 7 "PenSwingsModel" "kind" "[I" ∈ gT := gT_in (List.mem_of_getElem? (i := 1330) (by decide +kernel)) rfl
theorem w_1331 : Cond.fieldLink RX11 13 "PenSwingsModel" "length" "[I" ∈ gT := gT_in (List.mem_of_getElem? (i := 1331) (by decide +kernel)) rfl
theorem w_1332 : Cond.fieldLink RX11 16 "PenSwingsModel" "loss" "[I" ∈ gT := gT_in (List.mem_of_getElem? (i := 1332) (by decide +kernel)) rfl
theorem w_1333 : Cond.fieldLink RX11 19 "PenSwingsModel" "sets" "[I" ∈ gT := gT_in (List.mem_of_getElem? (i := 1333) (by decide +kernel)) rfl
theorem w_1334 : Cond.fieldLink RX11 22 "PenSwingsModel" "cart" "[I" ∈ gT := gT_in (List.mem_of_getElem? (i := 1334) (by decide +kernel)) rfl
theorem w_1335 : Cond.fieldLink RX11 25 "PenSwingsModel" "tape" "[I" ∈ gT := gT_in (List.mem_of_getElem? (i := 1335) (by decide +kernel)) rfl
theorem w_1336 : Cond.fieldLink RX11 116 "PenSwingsModel" "taped" "I" ∈ gT := gT_in (List.mem_of_getElem? (i := 1336) (by decide +kernel)) rfl
theorem w_1337 : Cond.fieldLink RX11 169 "PenSwingsModel" "faultKind" "I" ∈ gT := gT_in (List.mem_of_getElem? (i := 1337) (by decide +kernel)) rfl
theorem w_1338 : Cond.fieldLink RX11 28 "PenSwingsModel" "faultPlace" "I" ∈ gT := gT_in (List.mem_of_getElem? (i := 1338) (by decide +kernel)) rfl
theorem w_1339 : Cond.fieldLink RX11 32 "PenSwingsModel" "refused" "[I" ∈ gT := gT_in (List.mem_of_getElem? (i := 1339) (by decide +kernel)) rfl
theorem w_1340 : Cond.fieldLink RX11 123 "PenSwingsModel" "long1" "I" ∈ gT := gT_in (List.mem_of_getElem? (i := 1340) (by decide +kernel)) rfl
theorem w_1341 : Cond.fieldLink RX11 126 "PenSwingsModel" "next" "I" ∈ gT := gT_in (List.mem_of_getElem? (i := 1341) (by decide +kernel)) rfl
theorem w_1342 : Cond.fieldLink RX11 146 "PenSwingsModel" "sort" "I" ∈ gT := gT_in (List.mem_of_getElem? (i := 1342) (by decide +kernel)) rfl
theorem w_1343 : Cond.fieldLink RX11 133 "PenSwingsModel" "place" "I" ∈ gT := gT_in (List.mem_of_getElem? (i := 1343) (by decide +kernel)) rfl
theorem w_1344 : Cond.fieldLink RX11 156 "PenSwingsModel" "long0" "I" ∈ gT := gT_in (List.mem_of_getElem? (i := 1344) (by decide +kernel)) rfl
theorem w_1345 : Cond.fieldLink RX11 140 "PenSwingsModel" "value" "I" ∈ gT := gT_in (List.mem_of_getElem? (i := 1345) (by decide +kernel)) rfl
theorem w_1346 : Cond.fieldLink RX11 143 "PenSwingsModel" "sign" "I" ∈ gT := gT_in (List.mem_of_getElem? (i := 1346) (by decide +kernel)) rfl
theorem w_1347 : Cond.fieldLink RX11 136 "PenSwingsModel" "word" "J" ∈ gT := gT_in (List.mem_of_getElem? (i := 1347) (by decide +kernel)) rfl
