set_option maxRecDepth 20000 in
theorem smo_X11_in : smMok smd_X11_in := smMok_s 987 56 986 (by decide +kernel) rfl (by decide +kernel) (by decide +kernel) rfl rfl (by decide +kernel) (by decide +kernel) (by decide +kernel) rfl (by decide +kernel)
set_option maxRecDepth 20000 in
theorem smo_X11_has : smMok smd_X11_has := smMok_s 1017 56 1016 (by decide +kernel) rfl (by decide +kernel) (by decide +kernel) rfl rfl (by decide +kernel) (by decide +kernel) (by decide +kernel) rfl (by decide +kernel)
set_option maxRecDepth 20000 in
theorem smo_X11_bits : smMok smd_X11_bits := smMok_s 1006 56 1005 (by decide +kernel) rfl (by decide +kernel) (by decide +kernel) rfl rfl (by decide +kernel) (by decide +kernel) (by decide +kernel) rfl (by decide +kernel)
set_option maxRecDepth 20000 in
theorem smo_X11_isPlace : smMok smd_X11_isPlace := smMok_v 995 56 994 19 (by decide +kernel) rfl (by decide +kernel) (by decide +kernel) rfl rfl (by decide +kernel) (by decide +kernel) (by decide +kernel) (by decide +kernel) (by decide +kernel) (by decide +kernel) (by decide +kernel)
set_option maxRecDepth 20000 in
theorem smo_X11_isThere : smMok smd_X11_isThere := smMok_v 1014 56 1013 20 (by decide +kernel) rfl (by decide +kernel) (by decide +kernel) rfl rfl (by decide +kernel) (by decide +kernel) (by decide +kernel) (by decide +kernel) (by decide +kernel) (by decide +kernel) (by decide +kernel)
set_option maxRecDepth 20000 in
theorem smo_X11_places : smMok smd_X11_places := smMok_v 984 56 982 983 (by decide +kernel) rfl (by decide +kernel) (by decide +kernel) rfl rfl (by decide +kernel) (by decide +kernel) (by decide +kernel) (by decide +kernel) (by decide +kernel) (by decide +kernel) (by decide +kernel)
set_option maxRecDepth 20000 in
theorem smo_X11_hedge : smMok smd_X11_hedge := smMok_v 991 56 989 990 (by decide +kernel) rfl (by decide +kernel) (by decide +kernel) rfl rfl (by decide +kernel) (by decide +kernel) (by decide +kernel) (by decide +kernel) (by decide +kernel) (by decide +kernel) (by decide +kernel)
set_option maxRecDepth 20000 in
theorem smo_X11_lay : smMok smd_X11_lay := smMok_v 999 56 997 998 (by decide +kernel) rfl (by decide +kernel) (by decide +kernel) rfl rfl (by decide +kernel) (by decide +kernel) (by decide +kernel) (by decide +kernel) (by decide +kernel) (by decide +kernel) (by decide +kernel)
set_option maxRecDepth 20000 in
theorem smo_X11_person : smMok smd_X11_person := smMok_v 1003 56 1001 1002 (by decide +kernel) rfl (by decide +kernel) (by decide +kernel) rfl rfl (by decide +kernel) (by decide +kernel) (by decide +kernel) (by decide +kernel) (by decide +kernel) (by decide +kernel) (by decide +kernel)
set_option maxRecDepth 20000 in
theorem smo_X11_leave : smMok smd_X11_leave := smMok_v 1010 56 1008 1009 (by decide +kernel) rfl (by decide +kernel) (by decide +kernel) rfl rfl (by decide +kernel) (by decide +kernel) (by decide +kernel) (by decide +kernel) (by decide +kernel) (by decide +kernel) (by decide +kernel)
set_option maxRecDepth 20000 in
theorem smo_X11_say : smMok smd_X11_say := smMok_v 1021 56 1019 1020 (by decide +kernel) rfl (by decide +kernel) (by decide +kernel) rfl rfl (by decide +kernel) (by decide +kernel) (by decide +kernel) (by decide +kernel) (by decide +kernel) (by decide +kernel) (by decide +kernel)
set_option maxRecDepth 20000 in
theorem smo_X11_wipe : smMok smd_X11_wipe := smMok_v 1025 56 1023 1024 (by decide +kernel) rfl (by decide +kernel) (by decide +kernel) rfl rfl (by decide +kernel) (by decide +kernel) (by decide +kernel) (by decide +kernel) (by decide +kernel) (by decide +kernel) (by decide +kernel)
set_option maxRecDepth 20000 in
theorem smo_X11_faultOf : smMok smd_X11_faultOf := smMok_v 1033 56 1032 21 (by decide +kernel) rfl (by decide +kernel) (by decide +kernel) rfl rfl (by decide +kernel) (by decide +kernel) (by decide +kernel) (by decide +kernel) (by decide +kernel) (by decide +kernel) (by decide +kernel)
set_option maxRecDepth 20000 in
theorem smo_X11_fault : smMok smd_X11_fault := smMok_v 1029 56 1027 1028 (by decide +kernel) rfl (by decide +kernel) (by decide +kernel) rfl rfl (by decide +kernel) (by decide +kernel) (by decide +kernel) (by decide +kernel) (by decide +kernel) (by decide +kernel) (by decide +kernel)
set_option maxRecDepth 20000 in
theorem smo_X11_asNow : smMok smd_X11_asNow := smMok_v 1045 56 1044 23 (by decide +kernel) rfl (by decide +kernel) (by decide +kernel) rfl rfl (by decide +kernel) (by decide +kernel) (by decide +kernel) (by decide +kernel) (by decide +kernel) (by decide +kernel) (by decide +kernel)
set_option maxRecDepth 20000 in
theorem smo_X11_step : smMok smd_X11_step := smMok_v 1053 56 1052 25 (by decide +kernel) rfl (by decide +kernel) (by decide +kernel) rfl rfl (by decide +kernel) (by decide +kernel) (by decide +kernel) (by decide +kernel) (by decide +kernel) (by decide +kernel) (by decide +kernel)
set_option maxRecDepth 20000 in
theorem smo_X11_heightOf : smMok smd_X11_heightOf := smMok_s 1060 56 1059 (by decide +kernel) rfl (by decide +kernel) (by decide +kernel) rfl rfl (by decide +kernel) (by decide +kernel) (by decide +kernel) rfl (by decide +kernel)
set_option maxRecDepth 20000 in
theorem smo_X11_heightNow : smMok smd_X11_heightNow := smMok_v 1057 56 1056 26 (by decide +kernel) rfl (by decide +kernel) (by decide +kernel) rfl rfl (by decide +kernel) (by decide +kernel) (by decide +kernel) (by decide +kernel) (by decide +kernel) (by decide +kernel) (by decide +kernel)
set_option maxRecDepth 20000 in
theorem smo_X11_firstAt : smMok smd_X11_firstAt := smMok_v 1064 56 1063 27 (by decide +kernel) rfl (by decide +kernel) (by decide +kernel) rfl rfl (by decide +kernel) (by decide +kernel) (by decide +kernel) (by decide +kernel) (by decide +kernel) (by decide +kernel) (by decide +kernel)
set_option maxRecDepth 20000 in
theorem smo_X11_fall : smMok smd_X11_fall := smMok_v 1068 56 1067 28 (by decide +kernel) rfl (by decide +kernel) (by decide +kernel) rfl rfl (by decide +kernel) (by decide +kernel) (by decide +kernel) (by decide +kernel) (by decide +kernel) (by decide +kernel) (by decide +kernel)
set_option maxRecDepth 20000 in
theorem smo_X11_pass : smMok smd_X11_pass := smMok_v 1049 56 1048 24 (by decide +kernel) rfl (by decide +kernel) (by decide +kernel) rfl rfl (by decide +kernel) (by decide +kernel) (by decide +kernel) (by decide +kernel) (by decide +kernel) (by decide +kernel) (by decide +kernel)
set_option maxRecDepth 20000 in
theorem smo_X11_whyNot : smMok smd_X11_whyNot := smMok_v 1072 56 1071 29 (by decide +kernel) rfl (by decide +kernel) (by decide +kernel) rfl rfl (by decide +kernel) (by decide +kernel) (by decide +kernel) (by decide +kernel) (by decide +kernel) (by decide +kernel) (by decide +kernel)
set_option maxRecDepth 20000 in
theorem smo_X11_fling : smMok smd_X11_fling := smMok_v 1076 56 1075 30 (by decide +kernel) rfl (by decide +kernel) (by decide +kernel) rfl rfl (by decide +kernel) (by decide +kernel) (by decide +kernel) (by decide +kernel) (by decide +kernel) (by decide +kernel) (by decide +kernel)
set_option maxRecDepth 20000 in
theorem smo_X11_go : smMok smd_X11_go := smMok_v 1080 56 1079 31 (by decide +kernel) rfl (by decide +kernel) (by decide +kernel) rfl rfl (by decide +kernel) (by decide +kernel) (by decide +kernel) (by decide +kernel) (by decide +kernel) (by decide +kernel) (by decide +kernel)
set_option maxRecDepth 20000 in
theorem smo_X11_goDay : smMok smd_X11_goDay := smMok_v 1041 56 1040 22 (by decide +kernel) rfl (by decide +kernel) (by decide +kernel) rfl rfl (by decide +kernel) (by decide +kernel) (by decide +kernel) (by decide +kernel) (by decide +kernel) (by decide +kernel) (by decide +kernel)
set_option maxRecDepth 20000 in
theorem smo_X11_judge : smMok smd_X11_judge := smMok_v 1037 56 1035 1036 (by decide +kernel) rfl (by decide +kernel) (by decide +kernel) rfl rfl (by decide +kernel) (by decide +kernel) (by decide +kernel) (by decide +kernel) (by decide +kernel) (by decide +kernel) (by decide +kernel)
set_option maxRecDepth 20000 in
theorem smo_X11_barOfDay : smMok smd_X11_barOfDay := smMok_v 1088 56 1087 32 (by decide +kernel) rfl (by decide +kernel) (by decide +kernel) rfl rfl (by decide +kernel) (by decide +kernel) (by decide +kernel) (by decide +kernel) (by decide +kernel) (by decide +kernel) (by decide +kernel)
set_option maxRecDepth 20000 in
theorem smo_X11_done : smMok smd_X11_done := smMok_v 1084 56 1082 1083 (by decide +kernel) rfl (by decide +kernel) (by decide +kernel) rfl rfl (by decide +kernel) (by decide +kernel) (by decide +kernel) (by decide +kernel) (by decide +kernel) (by decide +kernel) (by decide +kernel)
set_option maxRecDepth 20000 in
theorem smo_X11_state : smMok smd_X11_state := smMok_v 1092 56 1090 1091 (by decide +kernel) rfl (by decide +kernel) (by decide +kernel) rfl rfl (by decide +kernel) (by decide +kernel) (by decide +kernel) (by decide +kernel) (by decide +kernel) (by decide +kernel) (by decide +kernel)
set_option maxRecDepth 20000 in
theorem smo_X11_behind : smMok smd_X11_behind := smMok_v 1096 56 1094 1095 (by decide +kernel) rfl (by decide +kernel) (by decide +kernel) rfl rfl (by decide +kernel) (by decide +kernel) (by decide +kernel) (by decide +kernel) (by decide +kernel) (by decide +kernel) (by decide +kernel)
set_option maxRecDepth 20000 in
theorem smo_X11_stones : smMok smd_X11_stones := smMok_v 1100 56 1098 1099 (by decide +kernel) rfl (by decide +kernel) (by decide +kernel) rfl rfl (by decide +kernel) (by decide +kernel) (by decide +kernel) (by decide +kernel) (by decide +kernel) (by decide +kernel) (by decide +kernel)
set_option maxRecDepth 20000 in
theorem smo_X11_air : smMok smd_X11_air := smMok_v 1104 56 1102 1103 (by decide +kernel) rfl (by decide +kernel) (by decide +kernel) rfl rfl (by decide +kernel) (by decide +kernel) (by decide +kernel) (by decide +kernel) (by decide +kernel) (by decide +kernel) (by decide +kernel)
set_option maxRecDepth 20000 in
theorem smo_X11_standsAt : smMok smd_X11_standsAt := smMok_v 1123 56 1122 35 (by decide +kernel) rfl (by decide +kernel) (by decide +kernel) rfl rfl (by decide +kernel) (by decide +kernel) (by decide +kernel) (by decide +kernel) (by decide +kernel) (by decide +kernel) (by decide +kernel)
set_option maxRecDepth 20000 in
theorem smo_X11_fly : smMok smd_X11_fly := smMok_v 1119 56 1118 34 (by decide +kernel) rfl (by decide +kernel) (by decide +kernel) rfl rfl (by decide +kernel) (by decide +kernel) (by decide +kernel) (by decide +kernel) (by decide +kernel) (by decide +kernel) (by decide +kernel)
set_option maxRecDepth 20000 in
theorem smo_X11_isThrow : smMok smd_X11_isThrow := smMok_s 1111 56 1110 (by decide +kernel) rfl (by decide +kernel) (by decide +kernel) rfl rfl (by decide +kernel) (by decide +kernel) (by decide +kernel) rfl (by decide +kernel)
set_option maxRecDepth 20000 in
theorem smo_X11_flyFrom : smMok smd_X11_flyFrom := smMok_v 1115 56 1114 33 (by decide +kernel) rfl (by decide +kernel) (by decide +kernel) rfl rfl (by decide +kernel) (by decide +kernel) (by decide +kernel) (by decide +kernel) (by decide +kernel) (by decide +kernel) (by decide +kernel)
set_option maxRecDepth 20000 in
theorem smo_X11_flight : smMok smd_X11_flight := smMok_v 1108 56 1106 1107 (by decide +kernel) rfl (by decide +kernel) (by decide +kernel) rfl rfl (by decide +kernel) (by decide +kernel) (by decide +kernel) (by decide +kernel) (by decide +kernel) (by decide +kernel) (by decide +kernel)
set_option maxRecDepth 20000 in
theorem smo_X11_gets : smMok smd_X11_gets := smMok_v 1127 56 1125 1126 (by decide +kernel) rfl (by decide +kernel) (by decide +kernel) rfl rfl (by decide +kernel) (by decide +kernel) (by decide +kernel) (by decide +kernel) (by decide +kernel) (by decide +kernel) (by decide +kernel)
set_option maxRecDepth 20000 in
theorem smo_X11_round : smMok smd_X11_round := smMok_v 1132 56 1130 1131 (by decide +kernel) rfl (by decide +kernel) (by decide +kernel) rfl rfl (by decide +kernel) (by decide +kernel) (by decide +kernel) (by decide +kernel) (by decide +kernel) (by decide +kernel) (by decide +kernel)
set_option maxRecDepth 20000 in
theorem smo_X11_isCaught : smMok smd_X11_isCaught := smMok_v 1140 56 1139 36 (by decide +kernel) rfl (by decide +kernel) (by decide +kernel) rfl rfl (by decide +kernel) (by decide +kernel) (by decide +kernel) (by decide +kernel) (by decide +kernel) (by decide +kernel) (by decide +kernel)
set_option maxRecDepth 20000 in
theorem smo_X11_keptOff : smMok smd_X11_keptOff := smMok_v 1136 56 1134 1135 (by decide +kernel) rfl (by decide +kernel) (by decide +kernel) rfl rfl (by decide +kernel) (by decide +kernel) (by decide +kernel) (by decide +kernel) (by decide +kernel) (by decide +kernel) (by decide +kernel)
set_option maxRecDepth 20000 in
theorem smo_X11_laid : smMok smd_X11_laid := smMok_v 1144 56 1142 1143 (by decide +kernel) rfl (by decide +kernel) (by decide +kernel) rfl rfl (by decide +kernel) (by decide +kernel) (by decide +kernel) (by decide +kernel) (by decide +kernel) (by decide +kernel) (by decide +kernel)
set_option maxRecDepth 20000 in
theorem smo_X11_isListed : smMok smd_X11_isListed := smMok_v 1156 56 1155 37 (by decide +kernel) rfl (by decide +kernel) (by decide +kernel) rfl rfl (by decide +kernel) (by decide +kernel) (by decide +kernel) (by decide +kernel) (by decide +kernel) (by decide +kernel) (by decide +kernel)
set_option maxRecDepth 20000 in
theorem smo_X11_list : smMok smd_X11_list := smMok_v 1148 56 1146 1147 (by decide +kernel) rfl (by decide +kernel) (by decide +kernel) rfl rfl (by decide +kernel) (by decide +kernel) (by decide +kernel) (by decide +kernel) (by decide +kernel) (by decide +kernel) (by decide +kernel)
set_option maxRecDepth 20000 in
theorem smo_X11_strike : smMok smd_X11_strike := smMok_v 1152 56 1150 1151 (by decide +kernel) rfl (by decide +kernel) (by decide +kernel) rfl rfl (by decide +kernel) (by decide +kernel) (by decide +kernel) (by decide +kernel) (by decide +kernel) (by decide +kernel) (by decide +kernel)
set_option maxRecDepth 20000 in
theorem smo_X11_flyListed : smMok smd_X11_flyListed := smMok_v 1168 56 1167 39 (by decide +kernel) rfl (by decide +kernel) (by decide +kernel) rfl rfl (by decide +kernel) (by decide +kernel) (by decide +kernel) (by decide +kernel) (by decide +kernel) (by decide +kernel) (by decide +kernel)
set_option maxRecDepth 20000 in
theorem smo_X11_wasThrown : smMok smd_X11_wasThrown := smMok_v 1172 56 1171 40 (by decide +kernel) rfl (by decide +kernel) (by decide +kernel) rfl rfl (by decide +kernel) (by decide +kernel) (by decide +kernel) (by decide +kernel) (by decide +kernel) (by decide +kernel) (by decide +kernel)
set_option maxRecDepth 20000 in
theorem smo_X11_placeBehind : smMok smd_X11_placeBehind := smMok_v 1176 56 1175 41 (by decide +kernel) rfl (by decide +kernel) (by decide +kernel) rfl rfl (by decide +kernel) (by decide +kernel) (by decide +kernel) (by decide +kernel) (by decide +kernel) (by decide +kernel) (by decide +kernel)
set_option maxRecDepth 20000 in
theorem smo_X11_heightBehind : smMok smd_X11_heightBehind := smMok_v 1180 56 1179 42 (by decide +kernel) rfl (by decide +kernel) (by decide +kernel) rfl rfl (by decide +kernel) (by decide +kernel) (by decide +kernel) (by decide +kernel) (by decide +kernel) (by decide +kernel) (by decide +kernel)
set_option maxRecDepth 20000 in
theorem smo_X11_meetOf : smMok smd_X11_meetOf := smMok_v 1164 56 1163 38 (by decide +kernel) rfl (by decide +kernel) (by decide +kernel) rfl rfl (by decide +kernel) (by decide +kernel) (by decide +kernel) (by decide +kernel) (by decide +kernel) (by decide +kernel) (by decide +kernel)
set_option maxRecDepth 20000 in
theorem smo_X11_meet : smMok smd_X11_meet := smMok_v 1160 56 1158 1159 (by decide +kernel) rfl (by decide +kernel) (by decide +kernel) rfl rfl (by decide +kernel) (by decide +kernel) (by decide +kernel) (by decide +kernel) (by decide +kernel) (by decide +kernel) (by decide +kernel)
set_option maxRecDepth 20000 in
theorem smo_X11_forbidden : smMok smd_X11_forbidden := smMok_v 1184 56 1182 1183 (by decide +kernel) rfl (by decide +kernel) (by decide +kernel) rfl rfl (by decide +kernel) (by decide +kernel) (by decide +kernel) (by decide +kernel) (by decide +kernel) (by decide +kernel) (by decide +kernel)
set_option maxRecDepth 20000 in
theorem smo_X11_duck : smMok smd_X11_duck := smMok_v 1188 56 1186 1187 (by decide +kernel) rfl (by decide +kernel) (by decide +kernel) rfl rfl (by decide +kernel) (by decide +kernel) (by decide +kernel) (by decide +kernel) (by decide +kernel) (by decide +kernel) (by decide +kernel)
set_option maxRecDepth 20000 in
theorem smo_X11_hands : smMok smd_X11_hands := smMok_v 1192 56 1190 1191 (by decide +kernel) rfl (by decide +kernel) (by decide +kernel) rfl rfl (by decide +kernel) (by decide +kernel) (by decide +kernel) (by decide +kernel) (by decide +kernel) (by decide +kernel) (by decide +kernel)
set_option maxRecDepth 20000 in
theorem smo_X11_seen : smMok smd_X11_seen := smMok_v 1196 56 1194 1195 (by decide +kernel) rfl (by decide +kernel) (by decide +kernel) rfl rfl (by decide +kernel) (by decide +kernel) (by decide +kernel) (by decide +kernel) (by decide +kernel) (by decide +kernel) (by decide +kernel)
set_option maxRecDepth 20000 in
theorem smo_X11_forget : smMok smd_X11_forget := smMok_v 1200 56 1198 1199 (by decide +kernel) rfl (by decide +kernel) (by decide +kernel) rfl rfl (by decide +kernel) (by decide +kernel) (by decide +kernel) (by decide +kernel) (by decide +kernel) (by decide +kernel) (by decide +kernel)
set_option maxRecDepth 20000 in
theorem smo_X11_goesBy : smMok smd_X11_goesBy := smMok_v 1208 56 1207 43 (by decide +kernel) rfl (by decide +kernel) (by decide +kernel) rfl rfl (by decide +kernel) (by decide +kernel) (by decide +kernel) (by decide +kernel) (by decide +kernel) (by decide +kernel) (by decide +kernel)
set_option maxRecDepth 20000 in
theorem smo_X11_who : smMok smd_X11_who := smMok_v 1204 56 1202 1203 (by decide +kernel) rfl (by decide +kernel) (by decide +kernel) rfl rfl (by decide +kernel) (by decide +kernel) (by decide +kernel) (by decide +kernel) (by decide +kernel) (by decide +kernel) (by decide +kernel)
set_option maxRecDepth 20000 in
theorem smo_X11_slips : smMok smd_X11_slips := smMok_v 1212 56 1210 1211 (by decide +kernel) rfl (by decide +kernel) (by decide +kernel) rfl rfl (by decide +kernel) (by decide +kernel) (by decide +kernel) (by decide +kernel) (by decide +kernel) (by decide +kernel) (by decide +kernel)
set_option maxRecDepth 20000 in
theorem smo_X11_year : smMok smd_X11_year := smMok_v 1218 56 1216 1217 (by decide +kernel) rfl (by decide +kernel) (by decide +kernel) rfl rfl (by decide +kernel) (by decide +kernel) (by decide +kernel) (by decide +kernel) (by decide +kernel) (by decide +kernel) (by decide +kernel)
set_option maxRecDepth 20000 in
theorem smo_X11_image : smMok smd_X11_image := smMok_v 1223 56 1221 1222 (by decide +kernel) rfl (by decide +kernel) (by decide +kernel) rfl rfl (by decide +kernel) (by decide +kernel) (by decide +kernel) (by decide +kernel) (by decide +kernel) (by decide +kernel) (by decide +kernel)
set_option maxRecDepth 20000 in
theorem smo_X11_restore : smMok smd_X11_restore := smMok_v 1227 56 1225 1226 (by decide +kernel) rfl (by decide +kernel) (by decide +kernel) rfl rfl (by decide +kernel) (by decide +kernel) (by decide +kernel) (by decide +kernel) (by decide +kernel) (by decide +kernel) (by decide +kernel)
set_option maxRecDepth 20000 in
theorem smo_X11_told : smMok smd_X11_told := smMok_v 1231 56 1229 1230 (by decide +kernel) rfl (by decide +kernel) (by decide +kernel) rfl rfl (by decide +kernel) (by decide +kernel) (by decide +kernel) (by decide +kernel) (by decide +kernel) (by decide +kernel) (by decide +kernel)
theorem smMs_ok : ∀ d ∈ smMs, smMok d := by
  unfold smMs
  refine List.forall_mem_cons.mpr ⟨smo_X10_nextPlace, ?_⟩
  refine List.forall_mem_cons.mpr ⟨smo_X10_heightBehind, ?_⟩
  refine List.forall_mem_cons.mpr ⟨smo_X10_isCatchable, ?_⟩
  refine List.forall_mem_cons.mpr ⟨smo_X2_go, ?_⟩
  refine List.forall_mem_cons.mpr ⟨smo_X2_isCaughtBy, ?_⟩
  refine List.forall_mem_cons.mpr ⟨smo_X0_noteThrow, ?_⟩
  refine List.forall_mem_cons.mpr ⟨smo_X0_noteHedges, ?_⟩
  refine List.forall_mem_cons.mpr ⟨smo_X0_search, ?_⟩
  refine List.forall_mem_cons.mpr ⟨smo_X0_lowestNeed, ?_⟩
  refine List.forall_mem_cons.mpr ⟨smo_X0_tellThrow, ?_⟩
  refine List.forall_mem_cons.mpr ⟨smo_X0_tellBest, ?_⟩
  refine List.forall_mem_cons.mpr ⟨smo_X1_takeFrom, ?_⟩
  refine List.forall_mem_cons.mpr ⟨smo_X1_add, ?_⟩
  refine List.forall_mem_cons.mpr ⟨smo_X1_moveOn, ?_⟩
  refine List.forall_mem_cons.mpr ⟨smo_X1_moveStone, ?_⟩
  refine List.forall_mem_cons.mpr ⟨smo_X10_heightBehind, ?_⟩
  refine List.forall_mem_cons.mpr ⟨smo_X1_countAt, ?_⟩
  refine List.forall_mem_cons.mpr ⟨smo_X1_tellStone, ?_⟩
  refine List.forall_mem_cons.mpr ⟨smo_X1_fallingBits, ?_⟩
  refine List.forall_mem_cons.mpr ⟨smo_X2_isLowAt, ?_⟩
  refine List.forall_mem_cons.mpr ⟨smo_X2_tellEnd, ?_⟩
  refine List.forall_mem_cons.mpr ⟨smo_X9_takeFrom, ?_⟩
  refine List.forall_mem_cons.mpr ⟨smo_X8_takeFrom, ?_⟩
  refine List.forall_mem_cons.mpr ⟨smo_X7_takeFrom, ?_⟩
  refine List.forall_mem_cons.mpr ⟨smo_X3_takeFrom, ?_⟩
  refine List.forall_mem_cons.mpr ⟨smo_X8_fly, ?_⟩
  refine List.forall_mem_cons.mpr ⟨smo_X4_isInRow, ?_⟩
  refine List.forall_mem_cons.mpr ⟨smo_X4_firstCommon, ?_⟩
  refine List.forall_mem_cons.mpr ⟨smo_X4_firstMeeting, ?_⟩
  refine List.forall_mem_cons.mpr ⟨smo_X10_within, ?_⟩
  refine List.forall_mem_cons.mpr ⟨smo_X8_has, ?_⟩
  refine List.forall_mem_cons.mpr ⟨smo_X4_noteMeetings, ?_⟩
  refine List.forall_mem_cons.mpr ⟨smo_J6_bitCount_0f7a4, ?_⟩
  refine List.forall_mem_cons.mpr ⟨smo_X4_keepsApart, ?_⟩
  refine List.forall_mem_cons.mpr ⟨smo_X4_fewestForbidden, ?_⟩
  refine List.forall_mem_cons.mpr ⟨smo_X4_markRow, ?_⟩
  refine List.forall_mem_cons.mpr ⟨smo_X4_markLow, ?_⟩
  refine List.forall_mem_cons.mpr ⟨smo_X4_countMarks, ?_⟩
  refine List.forall_mem_cons.mpr ⟨smo_X4_firstMark, ?_⟩
  refine List.forall_mem_cons.mpr ⟨smo_X4_catchPlaces, ?_⟩
  refine List.forall_mem_cons.mpr ⟨smo_X4_catchesAll, ?_⟩
  refine List.forall_mem_cons.mpr ⟨smo_X4_fewestHands, ?_⟩
  refine List.forall_mem_cons.mpr ⟨smo_X5_write, ?_⟩
  refine List.forall_mem_cons.mpr ⟨smo_X5_signAt, ?_⟩
  refine List.forall_mem_cons.mpr ⟨smo_X5_number, ?_⟩
  refine List.forall_mem_cons.mpr ⟨smo_X5_nextStage, ?_⟩
  refine List.forall_mem_cons.mpr ⟨smo_X5_firstWrong, ?_⟩
  refine List.forall_mem_cons.mpr ⟨smo_X9_hasPerson, ?_⟩
  refine List.forall_mem_cons.mpr ⟨smo_X9_leastAt, ?_⟩
  refine List.forall_mem_cons.mpr ⟨smo_X9_endInHedgesAndHands, ?_⟩
  refine List.forall_mem_cons.mpr ⟨smo_X9_fallDown, ?_⟩
  refine List.forall_mem_cons.mpr ⟨smo_X9_passMinute, ?_⟩
  refine List.forall_mem_cons.mpr ⟨smo_X9_whyNoThrow, ?_⟩
  refine List.forall_mem_cons.mpr ⟨smo_X9_throwStone, ?_⟩
  refine List.forall_mem_cons.mpr ⟨smo_X9_pickUp, ?_⟩
  refine List.forall_mem_cons.mpr ⟨smo_X9_walk, ?_⟩
  refine List.forall_mem_cons.mpr ⟨smo_X5_playEvent, ?_⟩
  refine List.forall_mem_cons.mpr ⟨smo_X5_eventLength, ?_⟩
  refine List.forall_mem_cons.mpr ⟨smo_X5_play, ?_⟩
  refine List.forall_mem_cons.mpr ⟨smo_X6_look, ?_⟩
  refine List.forall_mem_cons.mpr ⟨smo_X7_note, ?_⟩
  refine List.forall_mem_cons.mpr ⟨smo_X7_fitHeights, ?_⟩
  refine List.forall_mem_cons.mpr ⟨smo_X7_fit, ?_⟩
  refine List.forall_mem_cons.mpr ⟨smo_X8_setWay, ?_⟩
  refine List.forall_mem_cons.mpr ⟨smo_X8_setTimes, ?_⟩
  refine List.forall_mem_cons.mpr ⟨smo_X9_begin, ?_⟩
  refine List.forall_mem_cons.mpr ⟨smo_X9_hasPlace, ?_⟩
  refine List.forall_mem_cons.mpr ⟨smo_X9_put, ?_⟩
  refine List.forall_mem_cons.mpr ⟨smo_X9_tellPerson, ?_⟩
  refine List.forall_mem_cons.mpr ⟨smo_X9_emptyHands, ?_⟩
  refine List.forall_mem_cons.mpr ⟨smo_X9_distance, ?_⟩
  refine List.forall_mem_cons.mpr ⟨smo_X9_lostInAll, ?_⟩
  refine List.forall_mem_cons.mpr ⟨smo_X9_drawThrow, ?_⟩
  refine List.forall_mem_cons.mpr ⟨smo_X10_places, ?_⟩
  refine List.forall_mem_cons.mpr ⟨smo_X10_hedge, ?_⟩
  refine List.forall_mem_cons.mpr ⟨smo_X10_lay, ?_⟩
  refine List.forall_mem_cons.mpr ⟨smo_X10_person, ?_⟩
  refine List.forall_mem_cons.mpr ⟨smo_X10_leave, ?_⟩
  refine List.forall_mem_cons.mpr ⟨smo_X10_say, ?_⟩
  refine List.forall_mem_cons.mpr ⟨smo_X10_wipe, ?_⟩
  refine List.forall_mem_cons.mpr ⟨smo_X10_fault, ?_⟩
  refine List.forall_mem_cons.mpr ⟨smo_X10_tryDay, ?_⟩
  refine List.forall_mem_cons.mpr ⟨smo_X10_judge, ?_⟩
  refine List.forall_mem_cons.mpr ⟨smo_X10_done, ?_⟩
  refine List.forall_mem_cons.mpr ⟨smo_X10_state, ?_⟩
  refine List.forall_mem_cons.mpr ⟨smo_X10_behind, ?_⟩
  refine List.forall_mem_cons.mpr ⟨smo_X10_stones, ?_⟩
  refine List.forall_mem_cons.mpr ⟨smo_X10_air, ?_⟩
  refine List.forall_mem_cons.mpr ⟨smo_X10_isThrow, ?_⟩
  refine List.forall_mem_cons.mpr ⟨smo_X10_flight, ?_⟩
  refine List.forall_mem_cons.mpr ⟨smo_X10_gets, ?_⟩
  refine List.forall_mem_cons.mpr ⟨smo_X10_goesTo, ?_⟩
  refine List.forall_mem_cons.mpr ⟨smo_X10_comesRound, ?_⟩
  refine List.forall_mem_cons.mpr ⟨smo_X10_round, ?_⟩
  refine List.forall_mem_cons.mpr ⟨smo_X10_keptOff, ?_⟩
  refine List.forall_mem_cons.mpr ⟨smo_X10_offerStone, ?_⟩
  refine List.forall_mem_cons.mpr ⟨smo_X10_laid, ?_⟩
  refine List.forall_mem_cons.mpr ⟨smo_X10_list, ?_⟩
  refine List.forall_mem_cons.mpr ⟨smo_X10_strike, ?_⟩
  refine List.forall_mem_cons.mpr ⟨smo_X10_meet, ?_⟩
  refine List.forall_mem_cons.mpr ⟨smo_X10_forbidden, ?_⟩
  refine List.forall_mem_cons.mpr ⟨smo_X10_duck, ?_⟩
  refine List.forall_mem_cons.mpr ⟨smo_X10_hands, ?_⟩
  refine List.forall_mem_cons.mpr ⟨smo_X10_seen, ?_⟩
  refine List.forall_mem_cons.mpr ⟨smo_X10_forget, ?_⟩
  refine List.forall_mem_cons.mpr ⟨smo_X10_fitsSights, ?_⟩
  refine List.forall_mem_cons.mpr ⟨smo_X10_fittingThrows, ?_⟩
  refine List.forall_mem_cons.mpr ⟨smo_X10_who, ?_⟩
  refine List.forall_mem_cons.mpr ⟨smo_X10_sharedWithTen, ?_⟩
  refine List.forall_mem_cons.mpr ⟨smo_X10_slips, ?_⟩
  refine List.forall_mem_cons.mpr ⟨smo_X10_year, ?_⟩
  refine List.forall_mem_cons.mpr ⟨smo_X10_imageOf, ?_⟩
  refine List.forall_mem_cons.mpr ⟨smo_X10_image, ?_⟩
  refine List.forall_mem_cons.mpr ⟨smo_X10_restore, ?_⟩
  refine List.forall_mem_cons.mpr ⟨smo_X10_told, ?_⟩
  refine List.forall_mem_cons.mpr ⟨smo_X11_in, ?_⟩
  refine List.forall_mem_cons.mpr ⟨smo_X11_has, ?_⟩
  refine List.forall_mem_cons.mpr ⟨smo_X11_bits, ?_⟩
  refine List.forall_mem_cons.mpr ⟨smo_X11_isPlace, ?_⟩
  refine List.forall_mem_cons.mpr ⟨smo_X11_isThere, ?_⟩
  refine List.forall_mem_cons.mpr ⟨smo_X11_places, ?_⟩
  refine List.forall_mem_cons.mpr ⟨smo_X11_hedge, ?_⟩
  refine List.forall_mem_cons.mpr ⟨smo_X11_lay, ?_⟩
  refine List.forall_mem_cons.mpr ⟨smo_X11_person, ?_⟩
  refine List.forall_mem_cons.mpr ⟨smo_X11_leave, ?_⟩
  refine List.forall_mem_cons.mpr ⟨smo_X11_say, ?_⟩
  refine List.forall_mem_cons.mpr ⟨smo_X11_wipe, ?_⟩
  refine List.forall_mem_cons.mpr ⟨smo_X11_faultOf, ?_⟩
  refine List.forall_mem_cons.mpr ⟨smo_X11_fault, ?_⟩
  refine List.forall_mem_cons.mpr ⟨smo_X11_asNow, ?_⟩
  refine List.forall_mem_cons.mpr ⟨smo_X11_step, ?_⟩
  refine List.forall_mem_cons.mpr ⟨smo_X11_heightOf, ?_⟩
  refine List.forall_mem_cons.mpr ⟨smo_X11_heightNow, ?_⟩
  refine List.forall_mem_cons.mpr ⟨smo_X11_firstAt, ?_⟩
  refine List.forall_mem_cons.mpr ⟨smo_X11_fall, ?_⟩
  refine List.forall_mem_cons.mpr ⟨smo_X11_pass, ?_⟩
  refine List.forall_mem_cons.mpr ⟨smo_X11_whyNot, ?_⟩
  refine List.forall_mem_cons.mpr ⟨smo_X11_fling, ?_⟩
  refine List.forall_mem_cons.mpr ⟨smo_X11_go, ?_⟩
  refine List.forall_mem_cons.mpr ⟨smo_X11_goDay, ?_⟩
  refine List.forall_mem_cons.mpr ⟨smo_X11_judge, ?_⟩
  refine List.forall_mem_cons.mpr ⟨smo_X11_barOfDay, ?_⟩
  refine List.forall_mem_cons.mpr ⟨smo_X11_done, ?_⟩
  refine List.forall_mem_cons.mpr ⟨smo_X11_state, ?_⟩
  refine List.forall_mem_cons.mpr ⟨smo_X11_behind, ?_⟩
  refine List.forall_mem_cons.mpr ⟨smo_X11_stones, ?_⟩
  refine List.forall_mem_cons.mpr ⟨smo_X11_air, ?_⟩
  refine List.forall_mem_cons.mpr ⟨smo_X11_standsAt, ?_⟩
  refine List.forall_mem_cons.mpr ⟨smo_X11_fly, ?_⟩
  refine List.forall_mem_cons.mpr ⟨smo_X11_isThrow, ?_⟩
  refine List.forall_mem_cons.mpr ⟨smo_X11_flyFrom, ?_⟩
  refine List.forall_mem_cons.mpr ⟨smo_X11_flight, ?_⟩
  refine List.forall_mem_cons.mpr ⟨smo_X11_gets, ?_⟩
  refine List.forall_mem_cons.mpr ⟨smo_X11_round, ?_⟩
  refine List.forall_mem_cons.mpr ⟨smo_X11_isCaught, ?_⟩
  refine List.forall_mem_cons.mpr ⟨smo_X11_keptOff, ?_⟩
  refine List.forall_mem_cons.mpr ⟨smo_X11_laid, ?_⟩
  refine List.forall_mem_cons.mpr ⟨smo_X11_isListed, ?_⟩
  refine List.forall_mem_cons.mpr ⟨smo_X11_list, ?_⟩
  refine List.forall_mem_cons.mpr ⟨smo_X11_strike, ?_⟩
  refine List.forall_mem_cons.mpr ⟨smo_X11_flyListed, ?_⟩
  refine List.forall_mem_cons.mpr ⟨smo_X11_wasThrown, ?_⟩
  refine List.forall_mem_cons.mpr ⟨smo_X11_placeBehind, ?_⟩
  refine List.forall_mem_cons.mpr ⟨smo_X11_heightBehind, ?_⟩
  refine List.forall_mem_cons.mpr ⟨smo_X11_meetOf, ?_⟩
  refine List.forall_mem_cons.mpr ⟨smo_X11_meet, ?_⟩
  refine List.forall_mem_cons.mpr ⟨smo_X11_forbidden, ?_⟩
  refine List.forall_mem_cons.mpr ⟨smo_X11_duck, ?_⟩
  refine List.forall_mem_cons.mpr ⟨smo_X11_hands, ?_⟩
  refine List.forall_mem_cons.mpr ⟨smo_X11_seen, ?_⟩
  refine List.forall_mem_cons.mpr ⟨smo_X11_forget, ?_⟩
  refine List.forall_mem_cons.mpr ⟨smo_X11_goesBy, ?_⟩
  refine List.forall_mem_cons.mpr ⟨smo_X11_who, ?_⟩
  refine List.forall_mem_cons.mpr ⟨smo_X11_slips, ?_⟩
  refine List.forall_mem_cons.mpr ⟨smo_X11_year, ?_⟩
  refine List.forall_mem_cons.mpr ⟨smo_X11_image, ?_⟩
  refine List.forall_mem_cons.mpr ⟨smo_X11_restore, ?_⟩
  refine List.forall_mem_cons.mpr ⟨smo_X11_told, ?_⟩
  exact fun _ h => absurd h List.not_mem_nil
theorem smMs_len : smMs.length = 178 := by decide +kernel
theorem smMd_ok {k : Nat} (h : k < 178) : smMok (smMd k) := by
  have hl : k < smMs.length := by rw [smMs_len]; exact h
  have he : smMs[k]? = some (smMs[k]) := List.getElem?_eq_getElem hl
  have hd : smMd k = smMs[k] := by
    simp only [smMd, he]
  rw [hd]
  exact smMs_ok _ (List.getElem_mem hl)
