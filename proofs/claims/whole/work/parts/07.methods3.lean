set_option maxRecDepth 20000 in
theorem smo_X11_in : smMok smd_X11_in := smMok_s 989 56 988 (by decide +kernel) rfl (by decide +kernel) (by decide +kernel) rfl rfl (by decide +kernel) (by decide +kernel) (by decide +kernel) rfl (by decide +kernel)
set_option maxRecDepth 20000 in
theorem smo_X11_has : smMok smd_X11_has := smMok_s 1019 56 1018 (by decide +kernel) rfl (by decide +kernel) (by decide +kernel) rfl rfl (by decide +kernel) (by decide +kernel) (by decide +kernel) rfl (by decide +kernel)
set_option maxRecDepth 20000 in
theorem smo_X11_bits : smMok smd_X11_bits := smMok_s 1008 56 1007 (by decide +kernel) rfl (by decide +kernel) (by decide +kernel) rfl rfl (by decide +kernel) (by decide +kernel) (by decide +kernel) rfl (by decide +kernel)
set_option maxRecDepth 20000 in
theorem smo_X11_isPlace : smMok smd_X11_isPlace := smMok_v 997 56 996 19 (by decide +kernel) rfl (by decide +kernel) (by decide +kernel) rfl rfl (by decide +kernel) (by decide +kernel) (by decide +kernel) (by decide +kernel) (by decide +kernel) (by decide +kernel) (by decide +kernel)
set_option maxRecDepth 20000 in
theorem smo_X11_isThere : smMok smd_X11_isThere := smMok_v 1016 56 1015 20 (by decide +kernel) rfl (by decide +kernel) (by decide +kernel) rfl rfl (by decide +kernel) (by decide +kernel) (by decide +kernel) (by decide +kernel) (by decide +kernel) (by decide +kernel) (by decide +kernel)
set_option maxRecDepth 20000 in
theorem smo_X11_places : smMok smd_X11_places := smMok_v 986 56 984 985 (by decide +kernel) rfl (by decide +kernel) (by decide +kernel) rfl rfl (by decide +kernel) (by decide +kernel) (by decide +kernel) (by decide +kernel) (by decide +kernel) (by decide +kernel) (by decide +kernel)
set_option maxRecDepth 20000 in
theorem smo_X11_hedge : smMok smd_X11_hedge := smMok_v 993 56 991 992 (by decide +kernel) rfl (by decide +kernel) (by decide +kernel) rfl rfl (by decide +kernel) (by decide +kernel) (by decide +kernel) (by decide +kernel) (by decide +kernel) (by decide +kernel) (by decide +kernel)
set_option maxRecDepth 20000 in
theorem smo_X11_lay : smMok smd_X11_lay := smMok_v 1001 56 999 1000 (by decide +kernel) rfl (by decide +kernel) (by decide +kernel) rfl rfl (by decide +kernel) (by decide +kernel) (by decide +kernel) (by decide +kernel) (by decide +kernel) (by decide +kernel) (by decide +kernel)
set_option maxRecDepth 20000 in
theorem smo_X11_person : smMok smd_X11_person := smMok_v 1005 56 1003 1004 (by decide +kernel) rfl (by decide +kernel) (by decide +kernel) rfl rfl (by decide +kernel) (by decide +kernel) (by decide +kernel) (by decide +kernel) (by decide +kernel) (by decide +kernel) (by decide +kernel)
set_option maxRecDepth 20000 in
theorem smo_X11_leave : smMok smd_X11_leave := smMok_v 1012 56 1010 1011 (by decide +kernel) rfl (by decide +kernel) (by decide +kernel) rfl rfl (by decide +kernel) (by decide +kernel) (by decide +kernel) (by decide +kernel) (by decide +kernel) (by decide +kernel) (by decide +kernel)
set_option maxRecDepth 20000 in
theorem smo_X11_say : smMok smd_X11_say := smMok_v 1023 56 1021 1022 (by decide +kernel) rfl (by decide +kernel) (by decide +kernel) rfl rfl (by decide +kernel) (by decide +kernel) (by decide +kernel) (by decide +kernel) (by decide +kernel) (by decide +kernel) (by decide +kernel)
set_option maxRecDepth 20000 in
theorem smo_X11_wipe : smMok smd_X11_wipe := smMok_v 1027 56 1025 1026 (by decide +kernel) rfl (by decide +kernel) (by decide +kernel) rfl rfl (by decide +kernel) (by decide +kernel) (by decide +kernel) (by decide +kernel) (by decide +kernel) (by decide +kernel) (by decide +kernel)
set_option maxRecDepth 20000 in
theorem smo_X11_faultOf : smMok smd_X11_faultOf := smMok_v 1035 56 1034 21 (by decide +kernel) rfl (by decide +kernel) (by decide +kernel) rfl rfl (by decide +kernel) (by decide +kernel) (by decide +kernel) (by decide +kernel) (by decide +kernel) (by decide +kernel) (by decide +kernel)
set_option maxRecDepth 20000 in
theorem smo_X11_fault : smMok smd_X11_fault := smMok_v 1031 56 1029 1030 (by decide +kernel) rfl (by decide +kernel) (by decide +kernel) rfl rfl (by decide +kernel) (by decide +kernel) (by decide +kernel) (by decide +kernel) (by decide +kernel) (by decide +kernel) (by decide +kernel)
set_option maxRecDepth 20000 in
theorem smo_X11_asNow : smMok smd_X11_asNow := smMok_v 1047 56 1046 23 (by decide +kernel) rfl (by decide +kernel) (by decide +kernel) rfl rfl (by decide +kernel) (by decide +kernel) (by decide +kernel) (by decide +kernel) (by decide +kernel) (by decide +kernel) (by decide +kernel)
set_option maxRecDepth 20000 in
theorem smo_X11_step : smMok smd_X11_step := smMok_v 1055 56 1054 25 (by decide +kernel) rfl (by decide +kernel) (by decide +kernel) rfl rfl (by decide +kernel) (by decide +kernel) (by decide +kernel) (by decide +kernel) (by decide +kernel) (by decide +kernel) (by decide +kernel)
set_option maxRecDepth 20000 in
theorem smo_X11_heightOf : smMok smd_X11_heightOf := smMok_s 1062 56 1061 (by decide +kernel) rfl (by decide +kernel) (by decide +kernel) rfl rfl (by decide +kernel) (by decide +kernel) (by decide +kernel) rfl (by decide +kernel)
set_option maxRecDepth 20000 in
theorem smo_X11_heightNow : smMok smd_X11_heightNow := smMok_v 1059 56 1058 26 (by decide +kernel) rfl (by decide +kernel) (by decide +kernel) rfl rfl (by decide +kernel) (by decide +kernel) (by decide +kernel) (by decide +kernel) (by decide +kernel) (by decide +kernel) (by decide +kernel)
set_option maxRecDepth 20000 in
theorem smo_X11_firstAt : smMok smd_X11_firstAt := smMok_v 1066 56 1065 27 (by decide +kernel) rfl (by decide +kernel) (by decide +kernel) rfl rfl (by decide +kernel) (by decide +kernel) (by decide +kernel) (by decide +kernel) (by decide +kernel) (by decide +kernel) (by decide +kernel)
set_option maxRecDepth 20000 in
theorem smo_X11_fall : smMok smd_X11_fall := smMok_v 1070 56 1069 28 (by decide +kernel) rfl (by decide +kernel) (by decide +kernel) rfl rfl (by decide +kernel) (by decide +kernel) (by decide +kernel) (by decide +kernel) (by decide +kernel) (by decide +kernel) (by decide +kernel)
set_option maxRecDepth 20000 in
theorem smo_X11_pass : smMok smd_X11_pass := smMok_v 1051 56 1050 24 (by decide +kernel) rfl (by decide +kernel) (by decide +kernel) rfl rfl (by decide +kernel) (by decide +kernel) (by decide +kernel) (by decide +kernel) (by decide +kernel) (by decide +kernel) (by decide +kernel)
set_option maxRecDepth 20000 in
theorem smo_X11_whyNot : smMok smd_X11_whyNot := smMok_v 1074 56 1073 29 (by decide +kernel) rfl (by decide +kernel) (by decide +kernel) rfl rfl (by decide +kernel) (by decide +kernel) (by decide +kernel) (by decide +kernel) (by decide +kernel) (by decide +kernel) (by decide +kernel)
set_option maxRecDepth 20000 in
theorem smo_X11_fling : smMok smd_X11_fling := smMok_v 1078 56 1077 30 (by decide +kernel) rfl (by decide +kernel) (by decide +kernel) rfl rfl (by decide +kernel) (by decide +kernel) (by decide +kernel) (by decide +kernel) (by decide +kernel) (by decide +kernel) (by decide +kernel)
set_option maxRecDepth 20000 in
theorem smo_X11_go : smMok smd_X11_go := smMok_v 1082 56 1081 31 (by decide +kernel) rfl (by decide +kernel) (by decide +kernel) rfl rfl (by decide +kernel) (by decide +kernel) (by decide +kernel) (by decide +kernel) (by decide +kernel) (by decide +kernel) (by decide +kernel)
set_option maxRecDepth 20000 in
theorem smo_X11_goDay : smMok smd_X11_goDay := smMok_v 1043 56 1042 22 (by decide +kernel) rfl (by decide +kernel) (by decide +kernel) rfl rfl (by decide +kernel) (by decide +kernel) (by decide +kernel) (by decide +kernel) (by decide +kernel) (by decide +kernel) (by decide +kernel)
set_option maxRecDepth 20000 in
theorem smo_X11_judge : smMok smd_X11_judge := smMok_v 1039 56 1037 1038 (by decide +kernel) rfl (by decide +kernel) (by decide +kernel) rfl rfl (by decide +kernel) (by decide +kernel) (by decide +kernel) (by decide +kernel) (by decide +kernel) (by decide +kernel) (by decide +kernel)
set_option maxRecDepth 20000 in
theorem smo_X11_barOfDay : smMok smd_X11_barOfDay := smMok_v 1090 56 1089 32 (by decide +kernel) rfl (by decide +kernel) (by decide +kernel) rfl rfl (by decide +kernel) (by decide +kernel) (by decide +kernel) (by decide +kernel) (by decide +kernel) (by decide +kernel) (by decide +kernel)
set_option maxRecDepth 20000 in
theorem smo_X11_done : smMok smd_X11_done := smMok_v 1086 56 1084 1085 (by decide +kernel) rfl (by decide +kernel) (by decide +kernel) rfl rfl (by decide +kernel) (by decide +kernel) (by decide +kernel) (by decide +kernel) (by decide +kernel) (by decide +kernel) (by decide +kernel)
set_option maxRecDepth 20000 in
theorem smo_X11_state : smMok smd_X11_state := smMok_v 1094 56 1092 1093 (by decide +kernel) rfl (by decide +kernel) (by decide +kernel) rfl rfl (by decide +kernel) (by decide +kernel) (by decide +kernel) (by decide +kernel) (by decide +kernel) (by decide +kernel) (by decide +kernel)
set_option maxRecDepth 20000 in
theorem smo_X11_behind : smMok smd_X11_behind := smMok_v 1098 56 1096 1097 (by decide +kernel) rfl (by decide +kernel) (by decide +kernel) rfl rfl (by decide +kernel) (by decide +kernel) (by decide +kernel) (by decide +kernel) (by decide +kernel) (by decide +kernel) (by decide +kernel)
set_option maxRecDepth 20000 in
theorem smo_X11_stones : smMok smd_X11_stones := smMok_v 1102 56 1100 1101 (by decide +kernel) rfl (by decide +kernel) (by decide +kernel) rfl rfl (by decide +kernel) (by decide +kernel) (by decide +kernel) (by decide +kernel) (by decide +kernel) (by decide +kernel) (by decide +kernel)
set_option maxRecDepth 20000 in
theorem smo_X11_air : smMok smd_X11_air := smMok_v 1106 56 1104 1105 (by decide +kernel) rfl (by decide +kernel) (by decide +kernel) rfl rfl (by decide +kernel) (by decide +kernel) (by decide +kernel) (by decide +kernel) (by decide +kernel) (by decide +kernel) (by decide +kernel)
set_option maxRecDepth 20000 in
theorem smo_X11_standsAt : smMok smd_X11_standsAt := smMok_v 1125 56 1124 35 (by decide +kernel) rfl (by decide +kernel) (by decide +kernel) rfl rfl (by decide +kernel) (by decide +kernel) (by decide +kernel) (by decide +kernel) (by decide +kernel) (by decide +kernel) (by decide +kernel)
set_option maxRecDepth 20000 in
theorem smo_X11_fly : smMok smd_X11_fly := smMok_v 1121 56 1120 34 (by decide +kernel) rfl (by decide +kernel) (by decide +kernel) rfl rfl (by decide +kernel) (by decide +kernel) (by decide +kernel) (by decide +kernel) (by decide +kernel) (by decide +kernel) (by decide +kernel)
set_option maxRecDepth 20000 in
theorem smo_X11_isThrow : smMok smd_X11_isThrow := smMok_s 1113 56 1112 (by decide +kernel) rfl (by decide +kernel) (by decide +kernel) rfl rfl (by decide +kernel) (by decide +kernel) (by decide +kernel) rfl (by decide +kernel)
set_option maxRecDepth 20000 in
theorem smo_X11_flyFrom : smMok smd_X11_flyFrom := smMok_v 1117 56 1116 33 (by decide +kernel) rfl (by decide +kernel) (by decide +kernel) rfl rfl (by decide +kernel) (by decide +kernel) (by decide +kernel) (by decide +kernel) (by decide +kernel) (by decide +kernel) (by decide +kernel)
set_option maxRecDepth 20000 in
theorem smo_X11_flight : smMok smd_X11_flight := smMok_v 1110 56 1108 1109 (by decide +kernel) rfl (by decide +kernel) (by decide +kernel) rfl rfl (by decide +kernel) (by decide +kernel) (by decide +kernel) (by decide +kernel) (by decide +kernel) (by decide +kernel) (by decide +kernel)
set_option maxRecDepth 20000 in
theorem smo_X11_gets : smMok smd_X11_gets := smMok_v 1129 56 1127 1128 (by decide +kernel) rfl (by decide +kernel) (by decide +kernel) rfl rfl (by decide +kernel) (by decide +kernel) (by decide +kernel) (by decide +kernel) (by decide +kernel) (by decide +kernel) (by decide +kernel)
set_option maxRecDepth 20000 in
theorem smo_X11_round : smMok smd_X11_round := smMok_v 1134 56 1132 1133 (by decide +kernel) rfl (by decide +kernel) (by decide +kernel) rfl rfl (by decide +kernel) (by decide +kernel) (by decide +kernel) (by decide +kernel) (by decide +kernel) (by decide +kernel) (by decide +kernel)
set_option maxRecDepth 20000 in
theorem smo_X11_isCaught : smMok smd_X11_isCaught := smMok_v 1142 56 1141 36 (by decide +kernel) rfl (by decide +kernel) (by decide +kernel) rfl rfl (by decide +kernel) (by decide +kernel) (by decide +kernel) (by decide +kernel) (by decide +kernel) (by decide +kernel) (by decide +kernel)
set_option maxRecDepth 20000 in
theorem smo_X11_keptOff : smMok smd_X11_keptOff := smMok_v 1138 56 1136 1137 (by decide +kernel) rfl (by decide +kernel) (by decide +kernel) rfl rfl (by decide +kernel) (by decide +kernel) (by decide +kernel) (by decide +kernel) (by decide +kernel) (by decide +kernel) (by decide +kernel)
set_option maxRecDepth 20000 in
theorem smo_X11_laid : smMok smd_X11_laid := smMok_v 1146 56 1144 1145 (by decide +kernel) rfl (by decide +kernel) (by decide +kernel) rfl rfl (by decide +kernel) (by decide +kernel) (by decide +kernel) (by decide +kernel) (by decide +kernel) (by decide +kernel) (by decide +kernel)
set_option maxRecDepth 20000 in
theorem smo_X11_isListed : smMok smd_X11_isListed := smMok_v 1158 56 1157 37 (by decide +kernel) rfl (by decide +kernel) (by decide +kernel) rfl rfl (by decide +kernel) (by decide +kernel) (by decide +kernel) (by decide +kernel) (by decide +kernel) (by decide +kernel) (by decide +kernel)
set_option maxRecDepth 20000 in
theorem smo_X11_list : smMok smd_X11_list := smMok_v 1150 56 1148 1149 (by decide +kernel) rfl (by decide +kernel) (by decide +kernel) rfl rfl (by decide +kernel) (by decide +kernel) (by decide +kernel) (by decide +kernel) (by decide +kernel) (by decide +kernel) (by decide +kernel)
set_option maxRecDepth 20000 in
theorem smo_X11_strike : smMok smd_X11_strike := smMok_v 1154 56 1152 1153 (by decide +kernel) rfl (by decide +kernel) (by decide +kernel) rfl rfl (by decide +kernel) (by decide +kernel) (by decide +kernel) (by decide +kernel) (by decide +kernel) (by decide +kernel) (by decide +kernel)
set_option maxRecDepth 20000 in
theorem smo_X11_flyListed : smMok smd_X11_flyListed := smMok_v 1170 56 1169 39 (by decide +kernel) rfl (by decide +kernel) (by decide +kernel) rfl rfl (by decide +kernel) (by decide +kernel) (by decide +kernel) (by decide +kernel) (by decide +kernel) (by decide +kernel) (by decide +kernel)
set_option maxRecDepth 20000 in
theorem smo_X11_wasThrown : smMok smd_X11_wasThrown := smMok_v 1174 56 1173 40 (by decide +kernel) rfl (by decide +kernel) (by decide +kernel) rfl rfl (by decide +kernel) (by decide +kernel) (by decide +kernel) (by decide +kernel) (by decide +kernel) (by decide +kernel) (by decide +kernel)
set_option maxRecDepth 20000 in
theorem smo_X11_placeBehind : smMok smd_X11_placeBehind := smMok_v 1178 56 1177 41 (by decide +kernel) rfl (by decide +kernel) (by decide +kernel) rfl rfl (by decide +kernel) (by decide +kernel) (by decide +kernel) (by decide +kernel) (by decide +kernel) (by decide +kernel) (by decide +kernel)
set_option maxRecDepth 20000 in
theorem smo_X11_heightBehind : smMok smd_X11_heightBehind := smMok_v 1182 56 1181 42 (by decide +kernel) rfl (by decide +kernel) (by decide +kernel) rfl rfl (by decide +kernel) (by decide +kernel) (by decide +kernel) (by decide +kernel) (by decide +kernel) (by decide +kernel) (by decide +kernel)
set_option maxRecDepth 20000 in
theorem smo_X11_meetOf : smMok smd_X11_meetOf := smMok_v 1166 56 1165 38 (by decide +kernel) rfl (by decide +kernel) (by decide +kernel) rfl rfl (by decide +kernel) (by decide +kernel) (by decide +kernel) (by decide +kernel) (by decide +kernel) (by decide +kernel) (by decide +kernel)
set_option maxRecDepth 20000 in
theorem smo_X11_meet : smMok smd_X11_meet := smMok_v 1162 56 1160 1161 (by decide +kernel) rfl (by decide +kernel) (by decide +kernel) rfl rfl (by decide +kernel) (by decide +kernel) (by decide +kernel) (by decide +kernel) (by decide +kernel) (by decide +kernel) (by decide +kernel)
set_option maxRecDepth 20000 in
theorem smo_X11_forbidden : smMok smd_X11_forbidden := smMok_v 1186 56 1184 1185 (by decide +kernel) rfl (by decide +kernel) (by decide +kernel) rfl rfl (by decide +kernel) (by decide +kernel) (by decide +kernel) (by decide +kernel) (by decide +kernel) (by decide +kernel) (by decide +kernel)
set_option maxRecDepth 20000 in
theorem smo_X11_duck : smMok smd_X11_duck := smMok_v 1190 56 1188 1189 (by decide +kernel) rfl (by decide +kernel) (by decide +kernel) rfl rfl (by decide +kernel) (by decide +kernel) (by decide +kernel) (by decide +kernel) (by decide +kernel) (by decide +kernel) (by decide +kernel)
set_option maxRecDepth 20000 in
theorem smo_X11_hands : smMok smd_X11_hands := smMok_v 1194 56 1192 1193 (by decide +kernel) rfl (by decide +kernel) (by decide +kernel) rfl rfl (by decide +kernel) (by decide +kernel) (by decide +kernel) (by decide +kernel) (by decide +kernel) (by decide +kernel) (by decide +kernel)
set_option maxRecDepth 20000 in
theorem smo_X11_seen : smMok smd_X11_seen := smMok_v 1198 56 1196 1197 (by decide +kernel) rfl (by decide +kernel) (by decide +kernel) rfl rfl (by decide +kernel) (by decide +kernel) (by decide +kernel) (by decide +kernel) (by decide +kernel) (by decide +kernel) (by decide +kernel)
set_option maxRecDepth 20000 in
theorem smo_X11_forget : smMok smd_X11_forget := smMok_v 1202 56 1200 1201 (by decide +kernel) rfl (by decide +kernel) (by decide +kernel) rfl rfl (by decide +kernel) (by decide +kernel) (by decide +kernel) (by decide +kernel) (by decide +kernel) (by decide +kernel) (by decide +kernel)
set_option maxRecDepth 20000 in
theorem smo_X11_goesBy : smMok smd_X11_goesBy := smMok_v 1210 56 1209 43 (by decide +kernel) rfl (by decide +kernel) (by decide +kernel) rfl rfl (by decide +kernel) (by decide +kernel) (by decide +kernel) (by decide +kernel) (by decide +kernel) (by decide +kernel) (by decide +kernel)
set_option maxRecDepth 20000 in
theorem smo_X11_who : smMok smd_X11_who := smMok_v 1206 56 1204 1205 (by decide +kernel) rfl (by decide +kernel) (by decide +kernel) rfl rfl (by decide +kernel) (by decide +kernel) (by decide +kernel) (by decide +kernel) (by decide +kernel) (by decide +kernel) (by decide +kernel)
set_option maxRecDepth 20000 in
theorem smo_X11_slips : smMok smd_X11_slips := smMok_v 1214 56 1212 1213 (by decide +kernel) rfl (by decide +kernel) (by decide +kernel) rfl rfl (by decide +kernel) (by decide +kernel) (by decide +kernel) (by decide +kernel) (by decide +kernel) (by decide +kernel) (by decide +kernel)
set_option maxRecDepth 20000 in
theorem smo_X11_year : smMok smd_X11_year := smMok_v 1220 56 1218 1219 (by decide +kernel) rfl (by decide +kernel) (by decide +kernel) rfl rfl (by decide +kernel) (by decide +kernel) (by decide +kernel) (by decide +kernel) (by decide +kernel) (by decide +kernel) (by decide +kernel)
set_option maxRecDepth 20000 in
theorem smo_X11_image : smMok smd_X11_image := smMok_v 1225 56 1223 1224 (by decide +kernel) rfl (by decide +kernel) (by decide +kernel) rfl rfl (by decide +kernel) (by decide +kernel) (by decide +kernel) (by decide +kernel) (by decide +kernel) (by decide +kernel) (by decide +kernel)
set_option maxRecDepth 20000 in
theorem smo_X11_restore : smMok smd_X11_restore := smMok_v 1229 56 1227 1228 (by decide +kernel) rfl (by decide +kernel) (by decide +kernel) rfl rfl (by decide +kernel) (by decide +kernel) (by decide +kernel) (by decide +kernel) (by decide +kernel) (by decide +kernel) (by decide +kernel)
set_option maxRecDepth 20000 in
theorem smo_X11_told : smMok smd_X11_told := smMok_v 1233 56 1231 1232 (by decide +kernel) rfl (by decide +kernel) (by decide +kernel) rfl rfl (by decide +kernel) (by decide +kernel) (by decide +kernel) (by decide +kernel) (by decide +kernel) (by decide +kernel) (by decide +kernel)
theorem smMs_ok : ∀ d ∈ smMs, smMok d := by
  unfold smMs
  refine List.forall_mem_cons.mpr ⟨smo_X10_nextPlace, ?_⟩
  refine List.forall_mem_cons.mpr ⟨smo_X10_heightBehind, ?_⟩
  refine List.forall_mem_cons.mpr ⟨smo_X10_isCatchable, ?_⟩
  refine List.forall_mem_cons.mpr ⟨smo_X2_go, ?_⟩
  refine List.forall_mem_cons.mpr ⟨smo_X2_isCaughtBy, ?_⟩
  refine List.forall_mem_cons.mpr ⟨smo_X0_noteThrow, ?_⟩
  refine List.forall_mem_cons.mpr ⟨smo_X0_noteHedges, ?_⟩
  refine List.forall_mem_cons.mpr ⟨smo_X0_search, ?_⟩
  refine List.forall_mem_cons.mpr ⟨smo_X0_lowestNeed, ?_⟩
  refine List.forall_mem_cons.mpr ⟨smo_X0_tellThrow, ?_⟩
  refine List.forall_mem_cons.mpr ⟨smo_X0_tellBest, ?_⟩
  refine List.forall_mem_cons.mpr ⟨smo_X1_takeFrom, ?_⟩
  refine List.forall_mem_cons.mpr ⟨smo_X1_add, ?_⟩
  refine List.forall_mem_cons.mpr ⟨smo_X1_moveOn, ?_⟩
  refine List.forall_mem_cons.mpr ⟨smo_X1_moveStone, ?_⟩
  refine List.forall_mem_cons.mpr ⟨smo_X1_height, ?_⟩
  refine List.forall_mem_cons.mpr ⟨smo_X1_countAt, ?_⟩
  refine List.forall_mem_cons.mpr ⟨smo_X1_tellStone, ?_⟩
  refine List.forall_mem_cons.mpr ⟨smo_X1_fallingBits, ?_⟩
  refine List.forall_mem_cons.mpr ⟨smo_X2_isLowAt, ?_⟩
  refine List.forall_mem_cons.mpr ⟨smo_X2_tellEnd, ?_⟩
  refine List.forall_mem_cons.mpr ⟨smo_X9_takeFrom, ?_⟩
  refine List.forall_mem_cons.mpr ⟨smo_X8_takeFrom, ?_⟩
  refine List.forall_mem_cons.mpr ⟨smo_X7_takeFrom, ?_⟩
  refine List.forall_mem_cons.mpr ⟨smo_X3_takeFrom, ?_⟩
  refine List.forall_mem_cons.mpr ⟨smo_X8_fly, ?_⟩
  refine List.forall_mem_cons.mpr ⟨smo_X4_isInRow, ?_⟩
  refine List.forall_mem_cons.mpr ⟨smo_X4_firstCommon, ?_⟩
  refine List.forall_mem_cons.mpr ⟨smo_X4_firstMeeting, ?_⟩
  refine List.forall_mem_cons.mpr ⟨smo_X10_within, ?_⟩
  refine List.forall_mem_cons.mpr ⟨smo_X8_has, ?_⟩
  refine List.forall_mem_cons.mpr ⟨smo_X4_noteMeetings, ?_⟩
  refine List.forall_mem_cons.mpr ⟨smo_J6_bitCount_0f7a4, ?_⟩
  refine List.forall_mem_cons.mpr ⟨smo_X4_keepsApart, ?_⟩
  refine List.forall_mem_cons.mpr ⟨smo_X4_fewestForbidden, ?_⟩
  refine List.forall_mem_cons.mpr ⟨smo_X4_markRow, ?_⟩
  refine List.forall_mem_cons.mpr ⟨smo_X4_markLow, ?_⟩
  refine List.forall_mem_cons.mpr ⟨smo_X4_countMarks, ?_⟩
  refine List.forall_mem_cons.mpr ⟨smo_X4_firstMark, ?_⟩
  refine List.forall_mem_cons.mpr ⟨smo_X4_catchPlaces, ?_⟩
  refine List.forall_mem_cons.mpr ⟨smo_X4_catchesAll, ?_⟩
  refine List.forall_mem_cons.mpr ⟨smo_X4_fewestHands, ?_⟩
  refine List.forall_mem_cons.mpr ⟨smo_X5_write, ?_⟩
  refine List.forall_mem_cons.mpr ⟨smo_X5_signAt, ?_⟩
  refine List.forall_mem_cons.mpr ⟨smo_X5_number, ?_⟩
  refine List.forall_mem_cons.mpr ⟨smo_X5_nextStage, ?_⟩
  refine List.forall_mem_cons.mpr ⟨smo_X5_firstWrong, ?_⟩
  refine List.forall_mem_cons.mpr ⟨smo_X9_hasPerson, ?_⟩
  refine List.forall_mem_cons.mpr ⟨smo_X9_leastAt, ?_⟩
  refine List.forall_mem_cons.mpr ⟨smo_X9_endInHedgesAndHands, ?_⟩
  refine List.forall_mem_cons.mpr ⟨smo_X9_fallDown, ?_⟩
  refine List.forall_mem_cons.mpr ⟨smo_X9_passMinute, ?_⟩
  refine List.forall_mem_cons.mpr ⟨smo_X9_whyNoThrow, ?_⟩
  refine List.forall_mem_cons.mpr ⟨smo_X9_throwStone, ?_⟩
  refine List.forall_mem_cons.mpr ⟨smo_X9_pickUp, ?_⟩
  refine List.forall_mem_cons.mpr ⟨smo_X9_walk, ?_⟩
  refine List.forall_mem_cons.mpr ⟨smo_X5_playEvent, ?_⟩
  refine List.forall_mem_cons.mpr ⟨smo_X5_eventLength, ?_⟩
  refine List.forall_mem_cons.mpr ⟨smo_X5_play, ?_⟩
  refine List.forall_mem_cons.mpr ⟨smo_X6_look, ?_⟩
  refine List.forall_mem_cons.mpr ⟨smo_X7_note, ?_⟩
  refine List.forall_mem_cons.mpr ⟨smo_X7_fitHeights, ?_⟩
  refine List.forall_mem_cons.mpr ⟨smo_X7_fit, ?_⟩
  refine List.forall_mem_cons.mpr ⟨smo_X8_setWay, ?_⟩
  refine List.forall_mem_cons.mpr ⟨smo_X8_setTimes, ?_⟩
  refine List.forall_mem_cons.mpr ⟨smo_X9_begin, ?_⟩
  refine List.forall_mem_cons.mpr ⟨smo_X9_hasPlace, ?_⟩
  refine List.forall_mem_cons.mpr ⟨smo_X9_put, ?_⟩
  refine List.forall_mem_cons.mpr ⟨smo_X9_tellPerson, ?_⟩
  refine List.forall_mem_cons.mpr ⟨smo_X9_emptyHands, ?_⟩
  refine List.forall_mem_cons.mpr ⟨smo_X9_distance, ?_⟩
  refine List.forall_mem_cons.mpr ⟨smo_X9_lostInAll, ?_⟩
  refine List.forall_mem_cons.mpr ⟨smo_X9_drawThrow, ?_⟩
  refine List.forall_mem_cons.mpr ⟨smo_X10_places, ?_⟩
  refine List.forall_mem_cons.mpr ⟨smo_X10_hedge, ?_⟩
  refine List.forall_mem_cons.mpr ⟨smo_X10_lay, ?_⟩
  refine List.forall_mem_cons.mpr ⟨smo_X10_person, ?_⟩
  refine List.forall_mem_cons.mpr ⟨smo_X10_leave, ?_⟩
  refine List.forall_mem_cons.mpr ⟨smo_X10_say, ?_⟩
  refine List.forall_mem_cons.mpr ⟨smo_X10_wipe, ?_⟩
  refine List.forall_mem_cons.mpr ⟨smo_X10_fault, ?_⟩
  refine List.forall_mem_cons.mpr ⟨smo_X10_tryDay, ?_⟩
  refine List.forall_mem_cons.mpr ⟨smo_X10_judge, ?_⟩
  refine List.forall_mem_cons.mpr ⟨smo_X10_done, ?_⟩
  refine List.forall_mem_cons.mpr ⟨smo_X10_state, ?_⟩
  refine List.forall_mem_cons.mpr ⟨smo_X10_behind, ?_⟩
  refine List.forall_mem_cons.mpr ⟨smo_X10_stones, ?_⟩
  refine List.forall_mem_cons.mpr ⟨smo_X10_air, ?_⟩
  refine List.forall_mem_cons.mpr ⟨smo_X10_isThrow, ?_⟩
  refine List.forall_mem_cons.mpr ⟨smo_X10_flight, ?_⟩
  refine List.forall_mem_cons.mpr ⟨smo_X10_gets, ?_⟩
  refine List.forall_mem_cons.mpr ⟨smo_X10_goesTo, ?_⟩
  refine List.forall_mem_cons.mpr ⟨smo_X10_comesRound, ?_⟩
  refine List.forall_mem_cons.mpr ⟨smo_X10_round, ?_⟩
  refine List.forall_mem_cons.mpr ⟨smo_X10_keptOff, ?_⟩
  refine List.forall_mem_cons.mpr ⟨smo_X10_offerStone, ?_⟩
  refine List.forall_mem_cons.mpr ⟨smo_X10_laid, ?_⟩
  refine List.forall_mem_cons.mpr ⟨smo_X10_list, ?_⟩
  refine List.forall_mem_cons.mpr ⟨smo_X10_strike, ?_⟩
  refine List.forall_mem_cons.mpr ⟨smo_X10_meet, ?_⟩
  refine List.forall_mem_cons.mpr ⟨smo_X10_forbidden, ?_⟩
  refine List.forall_mem_cons.mpr ⟨smo_X10_duck, ?_⟩
  refine List.forall_mem_cons.mpr ⟨smo_X10_hands, ?_⟩
  refine List.forall_mem_cons.mpr ⟨smo_X10_seen, ?_⟩
  refine List.forall_mem_cons.mpr ⟨smo_X10_forget, ?_⟩
  refine List.forall_mem_cons.mpr ⟨smo_X10_fitsSights, ?_⟩
  refine List.forall_mem_cons.mpr ⟨smo_X10_fittingThrows, ?_⟩
  refine List.forall_mem_cons.mpr ⟨smo_X10_who, ?_⟩
  refine List.forall_mem_cons.mpr ⟨smo_X10_sharedWithTen, ?_⟩
  refine List.forall_mem_cons.mpr ⟨smo_X10_slips, ?_⟩
  refine List.forall_mem_cons.mpr ⟨smo_X10_year, ?_⟩
  refine List.forall_mem_cons.mpr ⟨smo_X10_imageOf, ?_⟩
  refine List.forall_mem_cons.mpr ⟨smo_X10_image, ?_⟩
  refine List.forall_mem_cons.mpr ⟨smo_X10_restore, ?_⟩
  refine List.forall_mem_cons.mpr ⟨smo_X10_told, ?_⟩
  refine List.forall_mem_cons.mpr ⟨smo_X11_in, ?_⟩
  refine List.forall_mem_cons.mpr ⟨smo_X11_has, ?_⟩
  refine List.forall_mem_cons.mpr ⟨smo_X11_bits, ?_⟩
  refine List.forall_mem_cons.mpr ⟨smo_X11_isPlace, ?_⟩
  refine List.forall_mem_cons.mpr ⟨smo_X11_isThere, ?_⟩
  refine List.forall_mem_cons.mpr ⟨smo_X11_places, ?_⟩
  refine List.forall_mem_cons.mpr ⟨smo_X11_hedge, ?_⟩
  refine List.forall_mem_cons.mpr ⟨smo_X11_lay, ?_⟩
  refine List.forall_mem_cons.mpr ⟨smo_X11_person, ?_⟩
  refine List.forall_mem_cons.mpr ⟨smo_X11_leave, ?_⟩
  refine List.forall_mem_cons.mpr ⟨smo_X11_say, ?_⟩
  refine List.forall_mem_cons.mpr ⟨smo_X11_wipe, ?_⟩
  refine List.forall_mem_cons.mpr ⟨smo_X11_faultOf, ?_⟩
  refine List.forall_mem_cons.mpr ⟨smo_X11_fault, ?_⟩
  refine List.forall_mem_cons.mpr ⟨smo_X11_asNow, ?_⟩
  refine List.forall_mem_cons.mpr ⟨smo_X11_step, ?_⟩
  refine List.forall_mem_cons.mpr ⟨smo_X11_heightOf, ?_⟩
  refine List.forall_mem_cons.mpr ⟨smo_X11_heightNow, ?_⟩
  refine List.forall_mem_cons.mpr ⟨smo_X11_firstAt, ?_⟩
  refine List.forall_mem_cons.mpr ⟨smo_X11_fall, ?_⟩
  refine List.forall_mem_cons.mpr ⟨smo_X11_pass, ?_⟩
  refine List.forall_mem_cons.mpr ⟨smo_X11_whyNot, ?_⟩
  refine List.forall_mem_cons.mpr ⟨smo_X11_fling, ?_⟩
  refine List.forall_mem_cons.mpr ⟨smo_X11_go, ?_⟩
  refine List.forall_mem_cons.mpr ⟨smo_X11_goDay, ?_⟩
  refine List.forall_mem_cons.mpr ⟨smo_X11_judge, ?_⟩
  refine List.forall_mem_cons.mpr ⟨smo_X11_barOfDay, ?_⟩
  refine List.forall_mem_cons.mpr ⟨smo_X11_done, ?_⟩
  refine List.forall_mem_cons.mpr ⟨smo_X11_state, ?_⟩
  refine List.forall_mem_cons.mpr ⟨smo_X11_behind, ?_⟩
  refine List.forall_mem_cons.mpr ⟨smo_X11_stones, ?_⟩
  refine List.forall_mem_cons.mpr ⟨smo_X11_air, ?_⟩
  refine List.forall_mem_cons.mpr ⟨smo_X11_standsAt, ?_⟩
  refine List.forall_mem_cons.mpr ⟨smo_X11_fly, ?_⟩
  refine List.forall_mem_cons.mpr ⟨smo_X11_isThrow, ?_⟩
  refine List.forall_mem_cons.mpr ⟨smo_X11_flyFrom, ?_⟩
  refine List.forall_mem_cons.mpr ⟨smo_X11_flight, ?_⟩
  refine List.forall_mem_cons.mpr ⟨smo_X11_gets, ?_⟩
  refine List.forall_mem_cons.mpr ⟨smo_X11_round, ?_⟩
  refine List.forall_mem_cons.mpr ⟨smo_X11_isCaught, ?_⟩
  refine List.forall_mem_cons.mpr ⟨smo_X11_keptOff, ?_⟩
  refine List.forall_mem_cons.mpr ⟨smo_X11_laid, ?_⟩
  refine List.forall_mem_cons.mpr ⟨smo_X11_isListed, ?_⟩
  refine List.forall_mem_cons.mpr ⟨smo_X11_list, ?_⟩
  refine List.forall_mem_cons.mpr ⟨smo_X11_strike, ?_⟩
  refine List.forall_mem_cons.mpr ⟨smo_X11_flyListed, ?_⟩
  refine List.forall_mem_cons.mpr ⟨smo_X11_wasThrown, ?_⟩
  refine List.forall_mem_cons.mpr ⟨smo_X11_placeBehind, ?_⟩
  refine List.forall_mem_cons.mpr ⟨smo_X11_heightBehind, ?_⟩
  refine List.forall_mem_cons.mpr ⟨smo_X11_meetOf, ?_⟩
  refine List.forall_mem_cons.mpr ⟨smo_X11_meet, ?_⟩
  refine List.forall_mem_cons.mpr ⟨smo_X11_forbidden, ?_⟩
  refine List.forall_mem_cons.mpr ⟨smo_X11_duck, ?_⟩
  refine List.forall_mem_cons.mpr ⟨smo_X11_hands, ?_⟩
  refine List.forall_mem_cons.mpr ⟨smo_X11_seen, ?_⟩
  refine List.forall_mem_cons.mpr ⟨smo_X11_forget, ?_⟩
  refine List.forall_mem_cons.mpr ⟨smo_X11_goesBy, ?_⟩
  refine List.forall_mem_cons.mpr ⟨smo_X11_who, ?_⟩
  refine List.forall_mem_cons.mpr ⟨smo_X11_slips, ?_⟩
  refine List.forall_mem_cons.mpr ⟨smo_X11_year, ?_⟩
  refine List.forall_mem_cons.mpr ⟨smo_X11_image, ?_⟩
  refine List.forall_mem_cons.mpr ⟨smo_X11_restore, ?_⟩
  refine List.forall_mem_cons.mpr ⟨smo_X11_told, ?_⟩
  exact fun _ h => absurd h List.not_mem_nil
theorem smMs_len : smMs.length = 178 := by decide +kernel
theorem smMd_ok {k : Nat} (h : k < 178) : smMok (smMd k) := by
  have hl : k < smMs.length := by rw [smMs_len]; exact h
  have he : smMs[k]? = some (smMs[k]) := List.getElem?_eq_getElem hl
  have hd : smMd k = smMs[k] := by
    simp only [smMd, he]
  rw [hd]
  exact smMs_ok _ (List.getElem_mem hl)
