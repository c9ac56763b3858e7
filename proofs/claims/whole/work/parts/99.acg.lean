/-! THE LAW, 11: its rows, one by one -/
theorem dL_law__1002 : gw_dc cL_law_ 1002 (.aload_n 1) 1 1003 := ⟨by decide +kernel, rfl⟩
theorem ag_1003 : gw_ag cL_law_ 1003 1 := ⟨⟨by decide +kernel, rfl⟩, ⟨by decide +kernel, rfl⟩, ⟨by decide +kernel, rfl⟩, ⟨by decide +kernel, rfl⟩, ⟨by decide +kernel, rfl⟩⟩
theorem ag_1009 : gw_ag cL_law_ 1009 2 := ⟨⟨by decide +kernel, rfl⟩, ⟨by decide +kernel, rfl⟩, ⟨by decide +kernel, rfl⟩, ⟨by decide +kernel, rfl⟩, ⟨by decide +kernel, rfl⟩⟩
theorem dL_law__1015 : gw_dc cL_law_ 1015 (.aload_n 3) 1 1016 := ⟨by decide +kernel, rfl⟩
theorem ms_RL_175 : gw_mst RL 175 yL_judge := ⟨gw_mem 1157 (by decide +kernel) rfl, gw_mem 1158 (by decide +kernel) rfl⟩
theorem dL_law__1016 : gw_dc cL_law_ 1016 (.invokestatic 175) 3 1019 := ⟨by decide +kernel, rfl⟩
theorem dL_law__1019 : gw_dc cL_law_ 1019 (.istore 5) 2 1021 := ⟨by decide +kernel, rfl⟩
theorem dL_law__1021 : gw_dc cL_law_ 1021 (.aload_n 2) 1 1022 := ⟨by decide +kernel, rfl⟩
theorem ag_1022 : gw_ag cL_law_ 1022 1 := ⟨⟨by decide +kernel, rfl⟩, ⟨by decide +kernel, rfl⟩, ⟨by decide +kernel, rfl⟩, ⟨by decide +kernel, rfl⟩, ⟨by decide +kernel, rfl⟩⟩
theorem ag_1028 : gw_ag cL_law_ 1028 2 := ⟨⟨by decide +kernel, rfl⟩, ⟨by decide +kernel, rfl⟩, ⟨by decide +kernel, rfl⟩, ⟨by decide +kernel, rfl⟩, ⟨by decide +kernel, rfl⟩⟩
theorem mv_RL_177 : gw_mv RL 177 yX11_judge := ⟨gw_mem 1823 (by decide +kernel) rfl, gw_mem 1824 (by decide +kernel) rfl, gw_mem 1825 (by decide +kernel) rfl⟩
theorem my_X11_judge : gw_my yX11_judge cX11_judge 4 (some .int) 2 := ⟨gw_mem 1826 (by decide +kernel) rfl, gw_mem 106 (by decide +kernel) rfl, by decide +kernel, by decide⟩
theorem dL_law__1034 : gw_dc cL_law_ 1034 (.invokevirtual 177) 3 1037 := ⟨by decide +kernel, rfl⟩
theorem dL_law__1037 : gw_dc cL_law_ 1037 (.istore 6) 2 1039 := ⟨by decide +kernel, rfl⟩
theorem t1_1039 : gw_t1 cL_law_ 1039 := ⟨⟨by decide +kernel, rfl⟩, ⟨by decide +kernel, rfl⟩, ⟨by decide +kernel, rfl⟩, ⟨by decide +kernel, rfl⟩⟩
theorem t2_1050 : gw_t2 cL_law_ 1050 1206 := ⟨⟨by decide +kernel, rfl⟩, ⟨by decide +kernel, rfl⟩, ⟨by decide +kernel, rfl⟩, ⟨by decide +kernel, rfl⟩, ⟨by decide +kernel, rfl⟩, ⟨by decide +kernel, rfl⟩, ⟨by decide +kernel, rfl⟩, ⟨by decide +kernel, rfl⟩, ⟨by decide +kernel, rfl⟩, ⟨by decide +kernel, rfl⟩⟩
theorem dL_law__1070 : gw_dc cL_law_ 1070 (.aload_n 1) 1 1071 := ⟨by decide +kernel, rfl⟩
theorem ag_1071 : gw_ag cL_law_ 1071 1 := ⟨⟨by decide +kernel, rfl⟩, ⟨by decide +kernel, rfl⟩, ⟨by decide +kernel, rfl⟩, ⟨by decide +kernel, rfl⟩, ⟨by decide +kernel, rfl⟩⟩
theorem dL_law__1077 : gw_dc cL_law_ 1077 (.aload_n 3) 1 1078 := ⟨by decide +kernel, rfl⟩
theorem ms_RL_178 : gw_mst RL 178 yL_cost := ⟨gw_mem 1164 (by decide +kernel) rfl, gw_mem 1165 (by decide +kernel) rfl⟩
theorem dL_law__1078 : gw_dc cL_law_ 1078 (.invokestatic 178) 3 1081 := ⟨by decide +kernel, rfl⟩
theorem dL_law__1081 : gw_dc cL_law_ 1081 (.istore 5) 2 1083 := ⟨by decide +kernel, rfl⟩
theorem dL_law__1083 : gw_dc cL_law_ 1083 (.aload_n 2) 1 1084 := ⟨by decide +kernel, rfl⟩
theorem ag_1084 : gw_ag cL_law_ 1084 1 := ⟨⟨by decide +kernel, rfl⟩, ⟨by decide +kernel, rfl⟩, ⟨by decide +kernel, rfl⟩, ⟨by decide +kernel, rfl⟩, ⟨by decide +kernel, rfl⟩⟩
theorem mv_RL_180 : gw_mv RL 180 yX11_cost := ⟨gw_mem 1835 (by decide +kernel) rfl, gw_mem 1836 (by decide +kernel) rfl, gw_mem 1837 (by decide +kernel) rfl⟩
theorem my_X11_cost : gw_my yX11_cost cX11_cost 2 (some .int) 1 := ⟨gw_mem 1838 (by decide +kernel) rfl, gw_mem 106 (by decide +kernel) rfl, by decide +kernel, by decide⟩
theorem dL_law__1090 : gw_dc cL_law_ 1090 (.invokevirtual 180) 3 1093 := ⟨by decide +kernel, rfl⟩
theorem dL_law__1093 : gw_dc cL_law_ 1093 (.istore 6) 2 1095 := ⟨by decide +kernel, rfl⟩
theorem t1_1095 : gw_t1 cL_law_ 1095 := ⟨⟨by decide +kernel, rfl⟩, ⟨by decide +kernel, rfl⟩, ⟨by decide +kernel, rfl⟩, ⟨by decide +kernel, rfl⟩⟩
theorem t2_1106 : gw_t2 cL_law_ 1106 1150 := ⟨⟨by decide +kernel, rfl⟩, ⟨by decide +kernel, rfl⟩, ⟨by decide +kernel, rfl⟩, ⟨by decide +kernel, rfl⟩, ⟨by decide +kernel, rfl⟩, ⟨by decide +kernel, rfl⟩, ⟨by decide +kernel, rfl⟩, ⟨by decide +kernel, rfl⟩, ⟨by decide +kernel, rfl⟩, ⟨by decide +kernel, rfl⟩⟩
theorem dL_law__1126 : gw_dc cL_law_ 1126 (.aload_n 1) 1 1127 := ⟨by decide +kernel, rfl⟩
theorem ag_1127 : gw_ag cL_law_ 1127 1 := ⟨⟨by decide +kernel, rfl⟩, ⟨by decide +kernel, rfl⟩, ⟨by decide +kernel, rfl⟩, ⟨by decide +kernel, rfl⟩, ⟨by decide +kernel, rfl⟩⟩
theorem ag_1133 : gw_ag cL_law_ 1133 2 := ⟨⟨by decide +kernel, rfl⟩, ⟨by decide +kernel, rfl⟩, ⟨by decide +kernel, rfl⟩, ⟨by decide +kernel, rfl⟩, ⟨by decide +kernel, rfl⟩⟩
theorem dL_law__1139 : gw_dc cL_law_ 1139 (.aload_n 3) 1 1140 := ⟨by decide +kernel, rfl⟩
theorem ms_RL_181 : gw_mst RL 181 yL_swap := ⟨gw_mem 1184 (by decide +kernel) rfl, gw_mem 1185 (by decide +kernel) rfl⟩
theorem dL_law__1140 : gw_dc cL_law_ 1140 (.invokestatic 181) 3 1143 := ⟨by decide +kernel, rfl⟩
theorem dL_law__1143 : gw_dc cL_law_ 1143 (.istore 5) 2 1145 := ⟨by decide +kernel, rfl⟩
theorem dL_law__1145 : gw_dc cL_law_ 1145 (.aload_n 2) 1 1146 := ⟨by decide +kernel, rfl⟩
theorem ag_1146 : gw_ag cL_law_ 1146 1 := ⟨⟨by decide +kernel, rfl⟩, ⟨by decide +kernel, rfl⟩, ⟨by decide +kernel, rfl⟩, ⟨by decide +kernel, rfl⟩, ⟨by decide +kernel, rfl⟩⟩
theorem ag_1152 : gw_ag cL_law_ 1152 2 := ⟨⟨by decide +kernel, rfl⟩, ⟨by decide +kernel, rfl⟩, ⟨by decide +kernel, rfl⟩, ⟨by decide +kernel, rfl⟩, ⟨by decide +kernel, rfl⟩⟩
theorem mv_RL_183 : gw_mv RL 183 yX11_swap := ⟨gw_mem 1847 (by decide +kernel) rfl, gw_mem 1848 (by decide +kernel) rfl, gw_mem 1849 (by decide +kernel) rfl⟩
theorem my_X11_swap : gw_my yX11_swap cX11_swap 5 (some .int) 2 := ⟨gw_mem 1850 (by decide +kernel) rfl, gw_mem 106 (by decide +kernel) rfl, by decide +kernel, by decide⟩
theorem dL_law__1158 : gw_dc cL_law_ 1158 (.invokevirtual 183) 3 1161 := ⟨by decide +kernel, rfl⟩
theorem dL_law__1161 : gw_dc cL_law_ 1161 (.istore 6) 2 1163 := ⟨by decide +kernel, rfl⟩
theorem t1_1163 : gw_t1 cL_law_ 1163 := ⟨⟨by decide +kernel, rfl⟩, ⟨by decide +kernel, rfl⟩, ⟨by decide +kernel, rfl⟩, ⟨by decide +kernel, rfl⟩⟩
theorem t2_1174 : gw_t2 cL_law_ 1174 1082 := ⟨⟨by decide +kernel, rfl⟩, ⟨by decide +kernel, rfl⟩, ⟨by decide +kernel, rfl⟩, ⟨by decide +kernel, rfl⟩, ⟨by decide +kernel, rfl⟩, ⟨by decide +kernel, rfl⟩, ⟨by decide +kernel, rfl⟩, ⟨by decide +kernel, rfl⟩, ⟨by decide +kernel, rfl⟩, ⟨by decide +kernel, rfl⟩⟩
theorem dL_law__1194 : gw_dc cL_law_ 1194 (.aload_n 1) 1 1195 := ⟨by decide +kernel, rfl⟩
theorem ag_1195 : gw_ag cL_law_ 1195 1 := ⟨⟨by decide +kernel, rfl⟩, ⟨by decide +kernel, rfl⟩, ⟨by decide +kernel, rfl⟩, ⟨by decide +kernel, rfl⟩, ⟨by decide +kernel, rfl⟩⟩
theorem mv_RL_184 : gw_mv RL 184 yX10_best := ⟨gw_mem 682 (by decide +kernel) rfl, gw_mem 683 (by decide +kernel) rfl, gw_mem 684 (by decide +kernel) rfl⟩
theorem my_X10_best : gw_my yX10_best cX10_best 2 (some .int) 1 := ⟨gw_mem 685 (by decide +kernel) rfl, gw_mem 95 (by decide +kernel) rfl, by decide +kernel, by decide⟩
theorem dL_law__1201 : gw_dc cL_law_ 1201 (.invokevirtual 184) 3 1204 := ⟨by decide +kernel, rfl⟩
theorem dL_law__1204 : gw_dc cL_law_ 1204 (.aload_n 2) 1 1205 := ⟨by decide +kernel, rfl⟩
theorem ag_1205 : gw_ag cL_law_ 1205 1 := ⟨⟨by decide +kernel, rfl⟩, ⟨by decide +kernel, rfl⟩, ⟨by decide +kernel, rfl⟩, ⟨by decide +kernel, rfl⟩, ⟨by decide +kernel, rfl⟩⟩
theorem mv_RL_187 : gw_mv RL 187 yX11_best := ⟨gw_mem 1851 (by decide +kernel) rfl, gw_mem 1852 (by decide +kernel) rfl, gw_mem 1853 (by decide +kernel) rfl⟩
theorem my_X11_best : gw_my yX11_best cX11_best 2 (some .int) 1 := ⟨gw_mem 1854 (by decide +kernel) rfl, gw_mem 106 (by decide +kernel) rfl, by decide +kernel, by decide⟩
theorem dL_law__1211 : gw_dc cL_law_ 1211 (.invokevirtual 187) 3 1214 := ⟨by decide +kernel, rfl⟩
theorem dL_law__1214 : gw_dc cL_law_ 1214 (.if_icmp .eq 1059) 3 1217 := ⟨by decide +kernel, rfl⟩
theorem dL_law__1219 : gw_dc cL_law_ 1219 (.aload_n 1) 1 1220 := ⟨by decide +kernel, rfl⟩
theorem mv_RL_188 : gw_mv RL 188 yX10_gap := ⟨gw_mem 712 (by decide +kernel) rfl, gw_mem 713 (by decide +kernel) rfl, gw_mem 714 (by decide +kernel) rfl⟩
theorem my_X10_gap : gw_my yX10_gap cX10_gap 1 (some .int) 0 := ⟨gw_mem 715 (by decide +kernel) rfl, gw_mem 95 (by decide +kernel) rfl, by decide +kernel, by decide⟩
theorem dL_law__1220 : gw_dc cL_law_ 1220 (.invokevirtual 188) 3 1223 := ⟨by decide +kernel, rfl⟩
theorem dL_law__1223 : gw_dc cL_law_ 1223 (.aload_n 2) 1 1224 := ⟨by decide +kernel, rfl⟩
theorem mv_RL_191 : gw_mv RL 191 yX11_gap := ⟨gw_mem 1859 (by decide +kernel) rfl, gw_mem 1860 (by decide +kernel) rfl, gw_mem 1861 (by decide +kernel) rfl⟩
theorem my_X11_gap : gw_my yX11_gap cX11_gap 1 (some .int) 0 := ⟨gw_mem 1862 (by decide +kernel) rfl, gw_mem 106 (by decide +kernel) rfl, by decide +kernel, by decide⟩
theorem dL_law__1224 : gw_dc cL_law_ 1224 (.invokevirtual 191) 3 1227 := ⟨by decide +kernel, rfl⟩
theorem dL_law__1227 : gw_dc cL_law_ 1227 (.if_icmp .eq 1046) 3 1230 := ⟨by decide +kernel, rfl⟩
theorem dL_law__1232 : gw_dc cL_law_ 1232 (.aload_n 1) 1 1233 := ⟨by decide +kernel, rfl⟩
theorem ag_1233 : gw_ag cL_law_ 1233 1 := ⟨⟨by decide +kernel, rfl⟩, ⟨by decide +kernel, rfl⟩, ⟨by decide +kernel, rfl⟩, ⟨by decide +kernel, rfl⟩, ⟨by decide +kernel, rfl⟩⟩
theorem ag_1239 : gw_ag cL_law_ 1239 2 := ⟨⟨by decide +kernel, rfl⟩, ⟨by decide +kernel, rfl⟩, ⟨by decide +kernel, rfl⟩, ⟨by decide +kernel, rfl⟩, ⟨by decide +kernel, rfl⟩⟩
theorem ag_1245 : gw_ag cL_law_ 1245 3 := ⟨⟨by decide +kernel, rfl⟩, ⟨by decide +kernel, rfl⟩, ⟨by decide +kernel, rfl⟩, ⟨by decide +kernel, rfl⟩, ⟨by decide +kernel, rfl⟩⟩
theorem dL_law__1251 : gw_dc cL_law_ 1251 (.aload_n 3) 1 1252 := ⟨by decide +kernel, rfl⟩
theorem ms_RL_192 : gw_mst RL 192 yL_parting := ⟨gw_mem 1208 (by decide +kernel) rfl, gw_mem 1209 (by decide +kernel) rfl⟩
theorem dL_law__1252 : gw_dc cL_law_ 1252 (.invokestatic 192) 3 1255 := ⟨by decide +kernel, rfl⟩
theorem dL_law__1255 : gw_dc cL_law_ 1255 (.istore 5) 2 1257 := ⟨by decide +kernel, rfl⟩
theorem dL_law__1257 : gw_dc cL_law_ 1257 (.aload_n 2) 1 1258 := ⟨by decide +kernel, rfl⟩
theorem ag_1258 : gw_ag cL_law_ 1258 1 := ⟨⟨by decide +kernel, rfl⟩, ⟨by decide +kernel, rfl⟩, ⟨by decide +kernel, rfl⟩, ⟨by decide +kernel, rfl⟩, ⟨by decide +kernel, rfl⟩⟩
theorem ag_1264 : gw_ag cL_law_ 1264 2 := ⟨⟨by decide +kernel, rfl⟩, ⟨by decide +kernel, rfl⟩, ⟨by decide +kernel, rfl⟩, ⟨by decide +kernel, rfl⟩, ⟨by decide +kernel, rfl⟩⟩
theorem ag_1270 : gw_ag cL_law_ 1270 3 := ⟨⟨by decide +kernel, rfl⟩, ⟨by decide +kernel, rfl⟩, ⟨by decide +kernel, rfl⟩, ⟨by decide +kernel, rfl⟩, ⟨by decide +kernel, rfl⟩⟩
theorem mv_RL_195 : gw_mv RL 195 yX11_parting := ⟨gw_mem 1867 (by decide +kernel) rfl, gw_mem 1868 (by decide +kernel) rfl, gw_mem 1869 (by decide +kernel) rfl⟩
theorem my_X11_parting : gw_my yX11_parting cX11_parting 4 (some .int) 3 := ⟨gw_mem 1870 (by decide +kernel) rfl, gw_mem 106 (by decide +kernel) rfl, by decide +kernel, by decide⟩
theorem dL_law__1276 : gw_dc cL_law_ 1276 (.invokevirtual 195) 3 1279 := ⟨by decide +kernel, rfl⟩
theorem dL_law__1279 : gw_dc cL_law_ 1279 (.istore 6) 2 1281 := ⟨by decide +kernel, rfl⟩
theorem t1_1281 : gw_t1 cL_law_ 1281 := ⟨⟨by decide +kernel, rfl⟩, ⟨by decide +kernel, rfl⟩, ⟨by decide +kernel, rfl⟩, ⟨by decide +kernel, rfl⟩⟩
theorem t2_1292 : gw_t2 cL_law_ 1292 964 := ⟨⟨by decide +kernel, rfl⟩, ⟨by decide +kernel, rfl⟩, ⟨by decide +kernel, rfl⟩, ⟨by decide +kernel, rfl⟩, ⟨by decide +kernel, rfl⟩, ⟨by decide +kernel, rfl⟩, ⟨by decide +kernel, rfl⟩, ⟨by decide +kernel, rfl⟩, ⟨by decide +kernel, rfl⟩, ⟨by decide +kernel, rfl⟩⟩
theorem dL_law__1312 : gw_dc cL_law_ 1312 (.aload_n 1) 1 1313 := ⟨by decide +kernel, rfl⟩
theorem ag_1313 : gw_ag cL_law_ 1313 1 := ⟨⟨by decide +kernel, rfl⟩, ⟨by decide +kernel, rfl⟩, ⟨by decide +kernel, rfl⟩, ⟨by decide +kernel, rfl⟩, ⟨by decide +kernel, rfl⟩⟩
theorem dL_law__1319 : gw_dc cL_law_ 1319 (.aload_n 3) 1 1320 := ⟨by decide +kernel, rfl⟩
theorem ms_RL_196 : gw_mst RL 196 yL_settle := ⟨gw_mem 1246 (by decide +kernel) rfl, gw_mem 1247 (by decide +kernel) rfl⟩
theorem dL_law__1320 : gw_dc cL_law_ 1320 (.invokestatic 196) 3 1323 := ⟨by decide +kernel, rfl⟩
theorem dL_law__1323 : gw_dc cL_law_ 1323 (.istore 5) 2 1325 := ⟨by decide +kernel, rfl⟩
theorem dL_law__1325 : gw_dc cL_law_ 1325 (.aload_n 2) 1 1326 := ⟨by decide +kernel, rfl⟩
theorem ag_1326 : gw_ag cL_law_ 1326 1 := ⟨⟨by decide +kernel, rfl⟩, ⟨by decide +kernel, rfl⟩, ⟨by decide +kernel, rfl⟩, ⟨by decide +kernel, rfl⟩, ⟨by decide +kernel, rfl⟩⟩
theorem mv_RL_198 : gw_mv RL 198 yX11_settle := ⟨gw_mem 1890 (by decide +kernel) rfl, gw_mem 1891 (by decide +kernel) rfl, gw_mem 1892 (by decide +kernel) rfl⟩
theorem my_X11_settle : gw_my yX11_settle cX11_settle 6 (some .int) 1 := ⟨gw_mem 1893 (by decide +kernel) rfl, gw_mem 106 (by decide +kernel) rfl, by decide +kernel, by decide⟩
theorem dL_law__1332 : gw_dc cL_law_ 1332 (.invokevirtual 198) 3 1335 := ⟨by decide +kernel, rfl⟩
theorem dL_law__1335 : gw_dc cL_law_ 1335 (.istore 6) 2 1337 := ⟨by decide +kernel, rfl⟩
theorem t1_1337 : gw_t1 cL_law_ 1337 := ⟨⟨by decide +kernel, rfl⟩, ⟨by decide +kernel, rfl⟩, ⟨by decide +kernel, rfl⟩, ⟨by decide +kernel, rfl⟩⟩
theorem t2_1348 : gw_t2 cL_law_ 1348 908 := ⟨⟨by decide +kernel, rfl⟩, ⟨by decide +kernel, rfl⟩, ⟨by decide +kernel, rfl⟩, ⟨by decide +kernel, rfl⟩, ⟨by decide +kernel, rfl⟩, ⟨by decide +kernel, rfl⟩, ⟨by decide +kernel, rfl⟩, ⟨by decide +kernel, rfl⟩, ⟨by decide +kernel, rfl⟩, ⟨by decide +kernel, rfl⟩⟩
theorem dL_law__1368 : gw_dc cL_law_ 1368 (.aload_n 1) 1 1369 := ⟨by decide +kernel, rfl⟩
theorem ag_1369 : gw_ag cL_law_ 1369 1 := ⟨⟨by decide +kernel, rfl⟩, ⟨by decide +kernel, rfl⟩, ⟨by decide +kernel, rfl⟩, ⟨by decide +kernel, rfl⟩, ⟨by decide +kernel, rfl⟩⟩
theorem dL_law__1375 : gw_dc cL_law_ 1375 (.aload_n 3) 1 1376 := ⟨by decide +kernel, rfl⟩
theorem ms_RL_199 : gw_mst RL 199 yL_fee := ⟨gw_mem 1257 (by decide +kernel) rfl, gw_mem 1258 (by decide +kernel) rfl⟩
theorem dL_law__1376 : gw_dc cL_law_ 1376 (.invokestatic 199) 3 1379 := ⟨by decide +kernel, rfl⟩
theorem dL_law__1379 : gw_dc cL_law_ 1379 (.istore 5) 2 1381 := ⟨by decide +kernel, rfl⟩
theorem dL_law__1381 : gw_dc cL_law_ 1381 (.aload_n 2) 1 1382 := ⟨by decide +kernel, rfl⟩
theorem ag_1382 : gw_ag cL_law_ 1382 1 := ⟨⟨by decide +kernel, rfl⟩, ⟨by decide +kernel, rfl⟩, ⟨by decide +kernel, rfl⟩, ⟨by decide +kernel, rfl⟩, ⟨by decide +kernel, rfl⟩⟩
theorem mv_RL_201 : gw_mv RL 201 yX11_fee := ⟨gw_mem 1898 (by decide +kernel) rfl, gw_mem 1899 (by decide +kernel) rfl, gw_mem 1900 (by decide +kernel) rfl⟩
theorem my_X11_fee : gw_my yX11_fee cX11_fee 3 (some .int) 1 := ⟨gw_mem 1901 (by decide +kernel) rfl, gw_mem 106 (by decide +kernel) rfl, by decide +kernel, by decide⟩
theorem dL_law__1388 : gw_dc cL_law_ 1388 (.invokevirtual 201) 3 1391 := ⟨by decide +kernel, rfl⟩
theorem dL_law__1391 : gw_dc cL_law_ 1391 (.istore 6) 2 1393 := ⟨by decide +kernel, rfl⟩
theorem t1_1393 : gw_t1 cL_law_ 1393 := ⟨⟨by decide +kernel, rfl⟩, ⟨by decide +kernel, rfl⟩, ⟨by decide +kernel, rfl⟩, ⟨by decide +kernel, rfl⟩⟩
theorem t2_1404 : gw_t2 cL_law_ 1404 852 := ⟨⟨by decide +kernel, rfl⟩, ⟨by decide +kernel, rfl⟩, ⟨by decide +kernel, rfl⟩, ⟨by decide +kernel, rfl⟩, ⟨by decide +kernel, rfl⟩, ⟨by decide +kernel, rfl⟩, ⟨by decide +kernel, rfl⟩, ⟨by decide +kernel, rfl⟩, ⟨by decide +kernel, rfl⟩, ⟨by decide +kernel, rfl⟩⟩
section LW
variable {X : Cx} {G : Gl} {L : Nat} {xs : Nat → Int32} {Z : State → Prop} {kc ks : Nat} {ad : Nat → Nat} {σ : Sg} {i : Nat} {a b c : Option AV}
set_option maxRecDepth 4000 in
theorem law_16 (fx : gw_FX X FL G) (nc : gw_NC (cS X)) (sc : gw_SC X G L xs) (hR : Rel σ σ) (hi : i + 6 ≤ L) (hb : kc + 4 ≤ 601024 ∧ ks + 24 ≤ 7293034) (kk : ∀ kc2 ks2 σ2 a b c, kc2 ≤ kc + 4 → ks2 ≤ ks + 24 → Rel σ2 σ2 → gw_W X FL G Z kc2 ks2 (gw_M0 ad) σ2 2273 (lsL i a b c) []) : gw_W X FL G Z kc ks (gw_M0 ad) σ 1002 (lsL i a b c) [] := by
  refine g_aload_n fx dL_law__1002 rfl ?_
  refine g_arg 1 fx sc ag_1003 (by decide) hi ?_
  refine g_arg 2 fx sc ag_1009 (by decide) hi ?_
  refine g_aload_n fx dL_law__1015 rfl ?_
  refine g_callSH fx nc dL_law__1016 ms_RL_175 myH_L_judge (w_judge ad σ ((xs (i + 1)).toInt) ((xs (i + 2)).toInt) (al_judge hR ((xs (i + 1)).toInt) ((xs (i + 2)).toInt)).mem) rfl rfl (Nat.le_of_ble_eq_true rfl) (by decide) ⟨by show _ ≤ 601024; omega, by show _ ≤ 7293034; omega⟩ (fun E hE => hE.elim) (fun r M2 σ2 hq _ => ?_)
  obtain ⟨rfl, ⟨h0, rfl, rfl⟩ | ⟨j, E, hE, hj, rfl, rfl⟩⟩ := hq
  · show gw_W X FL G Z _ _ _ _ _ _ (vI 0 :: [])
    have hR1 := hR.out (z := (go σ 26 4)) (oz_go1 σ) ((zJu (go σ 26 4) (trT ((xs (i + 1)).toInt)) ((xs (i + 2)).toInt)))
    have al := al_judge hR1 ((xs (i + 1)).toInt) ((xs (i + 2)).toInt)
    rw [h0] at al
    obtain ⟨h5, h8, hR2⟩ := al.fin8 (on_judge _ ((xs (i + 1)).toInt) ((xs (i + 2)).toInt))
    refine g_istore fx dL_law__1019 (by decide) rfl rfl ?_
    refine g_aload_n fx dL_law__1021 rfl ?_
    refine g_arg 1 fx sc ag_1022 (by decide) hi ?_
    refine g_arg 2 fx sc ag_1028 (by decide) hi ?_
    refine g_callVD fx dL_law__1034 mv_RL_177 my_X11_judge (s_X11_judge ad _ ((xs (i + 1)).toInt) ((xs (i + 2)).toInt) hR1.tw hR1.trw) o_223 rfl rfl rfl (Nat.le_of_ble_eq_true rfl) (by decide) ⟨by show _ ≤ 601024; omega, by show _ ≤ 7293034; omega⟩ ?_
    refine g_istore fx dL_law__1037 (by decide) rfl rfl ?_
    refine g_t1 fx t1_1039 ⟨by show _ ≤ 601024; omega, by show _ ≤ 7293034; omega⟩ h5 ?_
    exact g_t2 (tgt := 2273) fx t2_1050 (by decide) (fun h => h8) (kk _ _ _ _ _ _ (by omega) (by omega) hR2)
  · show gw_W X FL G Z _ _ _ _ _ _ (vI (((j : Nat) : Int) + 1) :: [])
    obtain ⟨h5, hR2⟩ := (al_judge hR ((xs (i + 1)).toInt) ((xs (i + 2)).toInt)).thr hE hj (by decide) (on_judge _ ((xs (i + 1)).toInt) ((xs (i + 2)).toInt))
    refine g_istore fx dL_law__1019 (by decide) rfl rfl ?_
    refine g_aload_n fx dL_law__1021 rfl ?_
    refine g_arg 1 fx sc ag_1022 (by decide) hi ?_
    refine g_arg 2 fx sc ag_1028 (by decide) hi ?_
    refine g_callVD fx dL_law__1034 mv_RL_177 my_X11_judge (s_X11_judge ad _ ((xs (i + 1)).toInt) ((xs (i + 2)).toInt) hR.tw hR.trw) o_223 rfl rfl rfl (Nat.le_of_ble_eq_true rfl) (by decide) ⟨by show _ ≤ 601024; omega, by show _ ≤ 7293034; omega⟩ ?_
    refine g_istore fx dL_law__1037 (by decide) rfl rfl ?_
    refine g_t1 fx t1_1039 ⟨by show _ ≤ 601024; omega, by show _ ≤ 7293034; omega⟩ h5 ?_
    exact g_t2 (tgt := 2273) fx t2_1050 (by decide) (fun h => absurd h (by omega)) (kk _ _ _ _ _ _ (by omega) (by omega) hR2)
set_option maxRecDepth 4000 in
theorem law_17 (fx : gw_FX X FL G) (nc : gw_NC (cS X)) (sc : gw_SC X G L xs) (hR : Rel σ σ) (hi : i + 6 ≤ L) (hb : kc + 4 ≤ 601024 ∧ ks + 24 ≤ 7293034) (kk : ∀ kc2 ks2 σ2 a b c, kc2 ≤ kc + 4 → ks2 ≤ ks + 24 → Rel σ2 σ2 → gw_W X FL G Z kc2 ks2 (gw_M0 ad) σ2 2273 (lsL i a b c) []) : gw_W X FL G Z kc ks (gw_M0 ad) σ 1070 (lsL i a b c) [] := by
  refine g_aload_n fx dL_law__1070 rfl ?_
  refine g_arg 1 fx sc ag_1071 (by decide) hi ?_
  refine g_aload_n fx dL_law__1077 rfl ?_
  refine g_callSH fx nc dL_law__1078 ms_RL_178 myH_L_cost (w_cost ad σ ((xs (i + 1)).toInt) (al_cost hR ((xs (i + 1)).toInt)).mem) rfl rfl (Nat.le_of_ble_eq_true rfl) (by decide) ⟨by show _ ≤ 601024; omega, by show _ ≤ 7293034; omega⟩ (fun E hE => hE.elim) (fun r M2 σ2 hq _ => ?_)
  obtain ⟨rfl, ⟨h0, rfl, rfl⟩ | ⟨j, E, hE, hj, rfl, rfl⟩⟩ := hq
  · show gw_W X FL G Z _ _ _ _ _ _ (vI 0 :: [])
    have hR1 := hR.out (z := ((zCost σ (trT ((xs (i + 1)).toInt))).2)) (oz_cost σ _) ((zCost σ (trT ((xs (i + 1)).toInt))).1)
    have al := al_cost hR1 ((xs (i + 1)).toInt)
    rw [h0] at al
    obtain ⟨h5, h8, hR2⟩ := al.fin8 (on_tc _ ((xs (i + 1)).toInt))
    refine g_istore fx dL_law__1081 (by decide) rfl rfl ?_
    refine g_aload_n fx dL_law__1083 rfl ?_
    refine g_arg 1 fx sc ag_1084 (by decide) hi ?_
    refine g_callVD fx dL_law__1090 mv_RL_180 my_X11_cost (s_X11_cost ad _ ((xs (i + 1)).toInt) hR1.tw hR1.trw) o_223 rfl rfl rfl (Nat.le_of_ble_eq_true rfl) (by decide) ⟨by show _ ≤ 601024; omega, by show _ ≤ 7293034; omega⟩ ?_
    refine g_istore fx dL_law__1093 (by decide) rfl rfl ?_
    refine g_t1 fx t1_1095 ⟨by show _ ≤ 601024; omega, by show _ ≤ 7293034; omega⟩ h5 ?_
    exact g_t2 (tgt := 2273) fx t2_1106 (by decide) (fun h => h8) (kk _ _ _ _ _ _ (by omega) (by omega) hR2)
  · show gw_W X FL G Z _ _ _ _ _ _ (vI (((j : Nat) : Int) + 1) :: [])
    obtain ⟨h5, hR2⟩ := (al_cost hR ((xs (i + 1)).toInt)).thr hE hj (by decide) (on_tc _ ((xs (i + 1)).toInt))
    refine g_istore fx dL_law__1081 (by decide) rfl rfl ?_
    refine g_aload_n fx dL_law__1083 rfl ?_
    refine g_arg 1 fx sc ag_1084 (by decide) hi ?_
    refine g_callVD fx dL_law__1090 mv_RL_180 my_X11_cost (s_X11_cost ad _ ((xs (i + 1)).toInt) hR.tw hR.trw) o_223 rfl rfl rfl (Nat.le_of_ble_eq_true rfl) (by decide) ⟨by show _ ≤ 601024; omega, by show _ ≤ 7293034; omega⟩ ?_
    refine g_istore fx dL_law__1093 (by decide) rfl rfl ?_
    refine g_t1 fx t1_1095 ⟨by show _ ≤ 601024; omega, by show _ ≤ 7293034; omega⟩ h5 ?_
    exact g_t2 (tgt := 2273) fx t2_1106 (by decide) (fun h => absurd h (by omega)) (kk _ _ _ _ _ _ (by omega) (by omega) hR2)
set_option maxRecDepth 4000 in
theorem law_18 (fx : gw_FX X FL G) (nc : gw_NC (cS X)) (sc : gw_SC X G L xs) (hR : Rel σ σ) (hi : i + 6 ≤ L) (hb : kc + 4 ≤ 601024 ∧ ks + 24 ≤ 7293034) (kk : ∀ kc2 ks2 σ2 a b c, kc2 ≤ kc + 4 → ks2 ≤ ks + 24 → Rel σ2 σ2 → gw_W X FL G Z kc2 ks2 (gw_M0 ad) σ2 2273 (lsL i a b c) []) : gw_W X FL G Z kc ks (gw_M0 ad) σ 1126 (lsL i a b c) [] := by
  refine g_aload_n fx dL_law__1126 rfl ?_
  refine g_arg 1 fx sc ag_1127 (by decide) hi ?_
  refine g_arg 2 fx sc ag_1133 (by decide) hi ?_
  refine g_aload_n fx dL_law__1139 rfl ?_
  refine g_callSH fx nc dL_law__1140 ms_RL_181 myH_L_swap (w_swap ad σ ((xs (i + 1)).toInt) ((xs (i + 2)).toInt) (al_swap hR ((xs (i + 1)).toInt) ((xs (i + 2)).toInt)).mem) rfl rfl (Nat.le_of_ble_eq_true rfl) (by decide) ⟨by show _ ≤ 601024; omega, by show _ ≤ 7293034; omega⟩ (fun E hE => hE.elim) (fun r M2 σ2 hq _ => ?_)
  obtain ⟨rfl, ⟨h0, rfl, rfl⟩ | ⟨j, E, hE, hj, rfl, rfl⟩⟩ := hq
  · show gw_W X FL G Z _ _ _ _ _ _ (vI 0 :: [])
    have hR1 := hR.out (z := ((zSwap σ (trT ((xs (i + 1)).toInt)) ((xs (i + 2)).toInt)).2)) (oz_swap σ _ ((xs (i + 2)).toInt)) ((zSwap σ (trT ((xs (i + 1)).toInt)) ((xs (i + 2)).toInt)).1)
    have al := al_swap hR1 ((xs (i + 1)).toInt) ((xs (i + 2)).toInt)
    rw [h0] at al
    obtain ⟨h5, h8, hR2⟩ := al.fin8 (on_swap _ ((xs (i + 1)).toInt) ((xs (i + 2)).toInt))
    refine g_istore fx dL_law__1143 (by decide) rfl rfl ?_
    refine g_aload_n fx dL_law__1145 rfl ?_
    refine g_arg 1 fx sc ag_1146 (by decide) hi ?_
    refine g_arg 2 fx sc ag_1152 (by decide) hi ?_
    refine g_callVD fx dL_law__1158 mv_RL_183 my_X11_swap (s_X11_swap ad _ ((xs (i + 1)).toInt) ((xs (i + 2)).toInt) hR1.tw hR1.trw) o_223 rfl rfl rfl (Nat.le_of_ble_eq_true rfl) (by decide) ⟨by show _ ≤ 601024; omega, by show _ ≤ 7293034; omega⟩ ?_
    refine g_istore fx dL_law__1161 (by decide) rfl rfl ?_
    refine g_t1 fx t1_1163 ⟨by show _ ≤ 601024; omega, by show _ ≤ 7293034; omega⟩ h5 ?_
    exact g_t2 (tgt := 2273) fx t2_1174 (by decide) (fun h => h8) (kk _ _ _ _ _ _ (by omega) (by omega) hR2)
  · show gw_W X FL G Z _ _ _ _ _ _ (vI (((j : Nat) : Int) + 1) :: [])
    obtain ⟨h5, hR2⟩ := (al_swap hR ((xs (i + 1)).toInt) ((xs (i + 2)).toInt)).thr hE hj (by decide) (on_swap _ ((xs (i + 1)).toInt) ((xs (i + 2)).toInt))
    refine g_istore fx dL_law__1143 (by decide) rfl rfl ?_
    refine g_aload_n fx dL_law__1145 rfl ?_
    refine g_arg 1 fx sc ag_1146 (by decide) hi ?_
    refine g_arg 2 fx sc ag_1152 (by decide) hi ?_
    refine g_callVD fx dL_law__1158 mv_RL_183 my_X11_swap (s_X11_swap ad _ ((xs (i + 1)).toInt) ((xs (i + 2)).toInt) hR.tw hR.trw) o_223 rfl rfl rfl (Nat.le_of_ble_eq_true rfl) (by decide) ⟨by show _ ≤ 601024; omega, by show _ ≤ 7293034; omega⟩ ?_
    refine g_istore fx dL_law__1161 (by decide) rfl rfl ?_
    refine g_t1 fx t1_1163 ⟨by show _ ≤ 601024; omega, by show _ ≤ 7293034; omega⟩ h5 ?_
    exact g_t2 (tgt := 2273) fx t2_1174 (by decide) (fun h => absurd h (by omega)) (kk _ _ _ _ _ _ (by omega) (by omega) hR2)
set_option maxRecDepth 4000 in
theorem law_19 (fx : gw_FX X FL G) (nc : gw_NC (cS X)) (sc : gw_SC X G L xs) (hR : Rel σ σ) (hi : i + 6 ≤ L) (hb : kc + 4 ≤ 601024 ∧ ks + 24 ≤ 7293034) (kk : ∀ kc2 ks2 σ2 a b c, kc2 ≤ kc + 4 → ks2 ≤ ks + 24 → Rel σ2 σ2 → gw_W X FL G Z kc2 ks2 (gw_M0 ad) σ2 2273 (lsL i a b c) []) : gw_W X FL G Z kc ks (gw_M0 ad) σ 1194 (lsL i a b c) [] := by
  refine g_aload_n fx dL_law__1194 rfl ?_
  refine g_arg 1 fx sc ag_1195 (by decide) hi ?_
  refine g_callVD fx dL_law__1201 mv_RL_184 my_X10_best (s_X10_best ad σ ((xs (i + 1)).toInt)) o_0 rfl rfl rfl (Nat.le_of_ble_eq_true rfl) (by decide) ⟨by show _ ≤ 601024; omega, by show _ ≤ 7293034; omega⟩ ?_
  have hR1 := hR.oz (oz_best σ ((xs (i + 1)).toInt))
  obtain ⟨-, hv, hR2⟩ := (al_best hR1 ((xs (i + 1)).toInt)).fin (on_best _ ((xs (i + 1)).toInt)) (fun _ _ _ => rfl)
  refine g_aload_n fx dL_law__1204 rfl ?_
  refine g_arg 1 fx sc ag_1205 (by decide) hi ?_
  refine g_callVD fx dL_law__1211 mv_RL_187 my_X11_best (s_X11_best ad _ ((xs (i + 1)).toInt) hR1.tw) o_223 rfl rfl rfl (Nat.le_of_ble_eq_true rfl) (by decide) ⟨by show _ ≤ 601024; omega, by show _ ≤ 7293034; omega⟩ ?_
  exact g_icmp_eq (tgt := 2273) fx dL_law__1214 (by decide) (fun _ => kk _ _ _ _ _ _ (by omega) (by omega) hR2) (fun h => absurd hv h)
set_option maxRecDepth 4000 in
theorem law_20 (fx : gw_FX X FL G) (nc : gw_NC (cS X)) (sc : gw_SC X G L xs) (hR : Rel σ σ) (hi : i + 6 ≤ L) (hb : kc + 4 ≤ 601024 ∧ ks + 24 ≤ 7293034) (kk : ∀ kc2 ks2 σ2 a b c, kc2 ≤ kc + 4 → ks2 ≤ ks + 24 → Rel σ2 σ2 → gw_W X FL G Z kc2 ks2 (gw_M0 ad) σ2 2273 (lsL i a b c) []) : gw_W X FL G Z kc ks (gw_M0 ad) σ 1219 (lsL i a b c) [] := by
  refine g_aload_n fx dL_law__1219 rfl ?_
  refine g_callVD fx dL_law__1220 mv_RL_188 my_X10_gap (s_X10_gap ad σ ) o_0 rfl rfl rfl (Nat.le_of_ble_eq_true rfl) (by decide) ⟨by show _ ≤ 601024; omega, by show _ ≤ 7293034; omega⟩ ?_
  have hR1 := hR.oz (oz_gap σ)
  obtain ⟨-, hv, hR2⟩ := (al_gap hR1 ).fin (on_gap _ ) (fun _ _ _ => rfl)
  refine g_aload_n fx dL_law__1223 rfl ?_
  refine g_callVD fx dL_law__1224 mv_RL_191 my_X11_gap (s_X11_gap ad _  hR1.tw) o_223 rfl rfl rfl (Nat.le_of_ble_eq_true rfl) (by decide) ⟨by show _ ≤ 601024; omega, by show _ ≤ 7293034; omega⟩ ?_
  exact g_icmp_eq (tgt := 2273) fx dL_law__1227 (by decide) (fun _ => kk _ _ _ _ _ _ (by omega) (by omega) hR2) (fun h => absurd hv h)
set_option maxRecDepth 4000 in
theorem law_21 (fx : gw_FX X FL G) (nc : gw_NC (cS X)) (sc : gw_SC X G L xs) (hR : Rel σ σ) (hi : i + 6 ≤ L) (hb : kc + 4 ≤ 601024 ∧ ks + 24 ≤ 7293034) (kk : ∀ kc2 ks2 σ2 a b c, kc2 ≤ kc + 4 → ks2 ≤ ks + 24 → Rel σ2 σ2 → gw_W X FL G Z kc2 ks2 (gw_M0 ad) σ2 2273 (lsL i a b c) []) : gw_W X FL G Z kc ks (gw_M0 ad) σ 1232 (lsL i a b c) [] := by
  refine g_aload_n fx dL_law__1232 rfl ?_
  refine g_arg 1 fx sc ag_1233 (by decide) hi ?_
  refine g_arg 2 fx sc ag_1239 (by decide) hi ?_
  refine g_arg 3 fx sc ag_1245 (by decide) hi ?_
  refine g_aload_n fx dL_law__1251 rfl ?_
  refine g_callSH fx nc dL_law__1252 ms_RL_192 myH_L_parting (w_parting ad σ ((xs (i + 1)).toInt) ((xs (i + 2)).toInt) ((xs (i + 3)).toInt) (al_parting hR ((xs (i + 1)).toInt) ((xs (i + 2)).toInt) ((xs (i + 3)).toInt)).mem) rfl rfl (Nat.le_of_ble_eq_true rfl) (by decide) ⟨by show _ ≤ 601024; omega, by show _ ≤ 7293034; omega⟩ (fun E hE => hE.elim) (fun r M2 σ2 hq _ => ?_)
  obtain ⟨rfl, ⟨h0, rfl, rfl⟩ | ⟨j, E, hE, hj, rfl, rfl⟩⟩ := hq
  · show gw_W X FL G Z _ _ _ _ _ _ (vI 0 :: [])
    have hR1 := hR.out (z := ((zPar σ ((xs (i + 1)).toInt) ((xs (i + 2)).toInt) ((xs (i + 3)).toInt)).2)) (oz_par σ ((xs (i + 1)).toInt) ((xs (i + 2)).toInt) ((xs (i + 3)).toInt)) ((zPar σ ((xs (i + 1)).toInt) ((xs (i + 2)).toInt) ((xs (i + 3)).toInt)).1)
    have al := al_parting hR1 ((xs (i + 1)).toInt) ((xs (i + 2)).toInt) ((xs (i + 3)).toInt)
    rw [h0] at al
    obtain ⟨h5, h8, hR2⟩ := al.fin8 (on_parting _ ((xs (i + 1)).toInt) ((xs (i + 2)).toInt) ((xs (i + 3)).toInt))
    refine g_istore fx dL_law__1255 (by decide) rfl rfl ?_
    refine g_aload_n fx dL_law__1257 rfl ?_
    refine g_arg 1 fx sc ag_1258 (by decide) hi ?_
    refine g_arg 2 fx sc ag_1264 (by decide) hi ?_
    refine g_arg 3 fx sc ag_1270 (by decide) hi ?_
    refine g_callVD fx dL_law__1276 mv_RL_195 my_X11_parting (s_X11_parting ad _ ((xs (i + 1)).toInt) ((xs (i + 2)).toInt) ((xs (i + 3)).toInt) hR1.tw) o_223 rfl rfl rfl (Nat.le_of_ble_eq_true rfl) (by decide) ⟨by show _ ≤ 601024; omega, by show _ ≤ 7293034; omega⟩ ?_
    refine g_istore fx dL_law__1279 (by decide) rfl rfl ?_
    refine g_t1 fx t1_1281 ⟨by show _ ≤ 601024; omega, by show _ ≤ 7293034; omega⟩ h5 ?_
    exact g_t2 (tgt := 2273) fx t2_1292 (by decide) (fun h => h8) (kk _ _ _ _ _ _ (by omega) (by omega) hR2)
  · show gw_W X FL G Z _ _ _ _ _ _ (vI (((j : Nat) : Int) + 1) :: [])
    obtain ⟨h5, hR2⟩ := (al_parting hR ((xs (i + 1)).toInt) ((xs (i + 2)).toInt) ((xs (i + 3)).toInt)).thr hE hj (by decide) (on_parting _ ((xs (i + 1)).toInt) ((xs (i + 2)).toInt) ((xs (i + 3)).toInt))
    refine g_istore fx dL_law__1255 (by decide) rfl rfl ?_
    refine g_aload_n fx dL_law__1257 rfl ?_
    refine g_arg 1 fx sc ag_1258 (by decide) hi ?_
    refine g_arg 2 fx sc ag_1264 (by decide) hi ?_
    refine g_arg 3 fx sc ag_1270 (by decide) hi ?_
    refine g_callVD fx dL_law__1276 mv_RL_195 my_X11_parting (s_X11_parting ad _ ((xs (i + 1)).toInt) ((xs (i + 2)).toInt) ((xs (i + 3)).toInt) hR.tw) o_223 rfl rfl rfl (Nat.le_of_ble_eq_true rfl) (by decide) ⟨by show _ ≤ 601024; omega, by show _ ≤ 7293034; omega⟩ ?_
    refine g_istore fx dL_law__1279 (by decide) rfl rfl ?_
    refine g_t1 fx t1_1281 ⟨by show _ ≤ 601024; omega, by show _ ≤ 7293034; omega⟩ h5 ?_
    exact g_t2 (tgt := 2273) fx t2_1292 (by decide) (fun h => absurd h (by omega)) (kk _ _ _ _ _ _ (by omega) (by omega) hR2)
set_option maxRecDepth 4000 in
theorem law_22 (fx : gw_FX X FL G) (nc : gw_NC (cS X)) (sc : gw_SC X G L xs) (hR : Rel σ σ) (hi : i + 6 ≤ L) (hb : kc + 4 ≤ 601024 ∧ ks + 24 ≤ 7293034) (kk : ∀ kc2 ks2 σ2 a b c, kc2 ≤ kc + 4 → ks2 ≤ ks + 24 → Rel σ2 σ2 → gw_W X FL G Z kc2 ks2 (gw_M0 ad) σ2 2273 (lsL i a b c) []) : gw_W X FL G Z kc ks (gw_M0 ad) σ 1312 (lsL i a b c) [] := by
  refine g_aload_n fx dL_law__1312 rfl ?_
  refine g_arg 1 fx sc ag_1313 (by decide) hi ?_
  refine g_aload_n fx dL_law__1319 rfl ?_
  refine g_callSH fx nc dL_law__1320 ms_RL_196 myH_L_settle (w_settle ad σ ((xs (i + 1)).toInt) (al_settle hR ((xs (i + 1)).toInt)).mem) rfl rfl (Nat.le_of_ble_eq_true rfl) (by decide) ⟨by show _ ≤ 601024; omega, by show _ ≤ 7293034; omega⟩ (fun E hE => hE.elim) (fun r M2 σ2 hq _ => ?_)
  obtain ⟨rfl, ⟨h0, rfl, rfl⟩ | ⟨j, E, hE, hj, rfl, rfl⟩⟩ := hq
  · show gw_W X FL G Z _ _ _ _ _ _ (vI 0 :: [])
    have hR1 := hR.out (z := ((zSettle σ ((xs (i + 1)).toInt)).2)) (oz_settle σ ((xs (i + 1)).toInt)) ((zSettle σ ((xs (i + 1)).toInt)).1)
    have al := al_settle hR1 ((xs (i + 1)).toInt)
    rw [h0] at al
    obtain ⟨h5, h8, hR2⟩ := al.fin8 (on_settle _ ((xs (i + 1)).toInt))
    refine g_istore fx dL_law__1323 (by decide) rfl rfl ?_
    refine g_aload_n fx dL_law__1325 rfl ?_
    refine g_arg 1 fx sc ag_1326 (by decide) hi ?_
    refine g_callVD fx dL_law__1332 mv_RL_198 my_X11_settle (s_X11_settle ad _ ((xs (i + 1)).toInt) hR1.tw) o_223 rfl rfl rfl (Nat.le_of_ble_eq_true rfl) (by decide) ⟨by show _ ≤ 601024; omega, by show _ ≤ 7293034; omega⟩ ?_
    refine g_istore fx dL_law__1335 (by decide) rfl rfl ?_
    refine g_t1 fx t1_1337 ⟨by show _ ≤ 601024; omega, by show _ ≤ 7293034; omega⟩ h5 ?_
    exact g_t2 (tgt := 2273) fx t2_1348 (by decide) (fun h => h8) (kk _ _ _ _ _ _ (by omega) (by omega) hR2)
  · show gw_W X FL G Z _ _ _ _ _ _ (vI (((j : Nat) : Int) + 1) :: [])
    obtain ⟨h5, hR2⟩ := (al_settle hR ((xs (i + 1)).toInt)).thr hE hj (by decide) (on_settle _ ((xs (i + 1)).toInt))
    refine g_istore fx dL_law__1323 (by decide) rfl rfl ?_
    refine g_aload_n fx dL_law__1325 rfl ?_
    refine g_arg 1 fx sc ag_1326 (by decide) hi ?_
    refine g_callVD fx dL_law__1332 mv_RL_198 my_X11_settle (s_X11_settle ad _ ((xs (i + 1)).toInt) hR.tw) o_223 rfl rfl rfl (Nat.le_of_ble_eq_true rfl) (by decide) ⟨by show _ ≤ 601024; omega, by show _ ≤ 7293034; omega⟩ ?_
    refine g_istore fx dL_law__1335 (by decide) rfl rfl ?_
    refine g_t1 fx t1_1337 ⟨by show _ ≤ 601024; omega, by show _ ≤ 7293034; omega⟩ h5 ?_
    exact g_t2 (tgt := 2273) fx t2_1348 (by decide) (fun h => absurd h (by omega)) (kk _ _ _ _ _ _ (by omega) (by omega) hR2)
set_option maxRecDepth 4000 in
theorem law_23 (fx : gw_FX X FL G) (nc : gw_NC (cS X)) (sc : gw_SC X G L xs) (hR : Rel σ σ) (hi : i + 6 ≤ L) (hb : kc + 4 ≤ 601024 ∧ ks + 24 ≤ 7293034) (kk : ∀ kc2 ks2 σ2 a b c, kc2 ≤ kc + 4 → ks2 ≤ ks + 24 → Rel σ2 σ2 → gw_W X FL G Z kc2 ks2 (gw_M0 ad) σ2 2273 (lsL i a b c) []) : gw_W X FL G Z kc ks (gw_M0 ad) σ 1368 (lsL i a b c) [] := by
  refine g_aload_n fx dL_law__1368 rfl ?_
  refine g_arg 1 fx sc ag_1369 (by decide) hi ?_
  refine g_aload_n fx dL_law__1375 rfl ?_
  refine g_callSH fx nc dL_law__1376 ms_RL_199 myH_L_fee (w_fee ad σ ((xs (i + 1)).toInt) (al_fee hR ((xs (i + 1)).toInt)).mem) rfl rfl (Nat.le_of_ble_eq_true rfl) (by decide) ⟨by show _ ≤ 601024; omega, by show _ ≤ 7293034; omega⟩ (fun E hE => hE.elim) (fun r M2 σ2 hq _ => ?_)
  obtain ⟨rfl, ⟨h0, rfl, rfl⟩ | ⟨j, E, hE, hj, rfl, rfl⟩⟩ := hq
  · show gw_W X FL G Z _ _ _ _ _ _ (vI 0 :: [])
    have hR1 := hR.out (z := ((zFee σ ((xs (i + 1)).toInt)).2)) (oz_fee σ ((xs (i + 1)).toInt)) ((zFee σ ((xs (i + 1)).toInt)).1)
    have al := al_fee hR1 ((xs (i + 1)).toInt)
    rw [h0] at al
    obtain ⟨h5, h8, hR2⟩ := al.fin8 (on_fee _ ((xs (i + 1)).toInt))
    refine g_istore fx dL_law__1379 (by decide) rfl rfl ?_
    refine g_aload_n fx dL_law__1381 rfl ?_
    refine g_arg 1 fx sc ag_1382 (by decide) hi ?_
    refine g_callVD fx dL_law__1388 mv_RL_201 my_X11_fee (s_X11_fee ad _ ((xs (i + 1)).toInt) hR1.tw hR1.s24) o_223 rfl rfl rfl (Nat.le_of_ble_eq_true rfl) (by decide) ⟨by show _ ≤ 601024; omega, by show _ ≤ 7293034; omega⟩ ?_
    refine g_istore fx dL_law__1391 (by decide) rfl rfl ?_
    refine g_t1 fx t1_1393 ⟨by show _ ≤ 601024; omega, by show _ ≤ 7293034; omega⟩ h5 ?_
    exact g_t2 (tgt := 2273) fx t2_1404 (by decide) (fun h => h8) (kk _ _ _ _ _ _ (by omega) (by omega) hR2)
  · show gw_W X FL G Z _ _ _ _ _ _ (vI (((j : Nat) : Int) + 1) :: [])
    obtain ⟨h5, hR2⟩ := (al_fee hR ((xs (i + 1)).toInt)).thr hE hj (by decide) (on_fee _ ((xs (i + 1)).toInt))
    refine g_istore fx dL_law__1379 (by decide) rfl rfl ?_
    refine g_aload_n fx dL_law__1381 rfl ?_
    refine g_arg 1 fx sc ag_1382 (by decide) hi ?_
    refine g_callVD fx dL_law__1388 mv_RL_201 my_X11_fee (s_X11_fee ad _ ((xs (i + 1)).toInt) hR.tw hR.s24) o_223 rfl rfl rfl (Nat.le_of_ble_eq_true rfl) (by decide) ⟨by show _ ≤ 601024; omega, by show _ ≤ 7293034; omega⟩ ?_
    refine g_istore fx dL_law__1391 (by decide) rfl rfl ?_
    refine g_t1 fx t1_1393 ⟨by show _ ≤ 601024; omega, by show _ ≤ 7293034; omega⟩ h5 ?_
    exact g_t2 (tgt := 2273) fx t2_1404 (by decide) (fun h => absurd h (by omega)) (kk _ _ _ _ _ _ (by omega) (by omega) hR2)
end LW
