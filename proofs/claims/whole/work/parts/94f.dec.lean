theorem dl_1103 : decode code 1103 = .ok (.ireturn, 1) := by decide +kernel
theorem dl_1104 : decode code 1104 = .ok (.aload_n 1, 1) := by decide +kernel
theorem dl_1105 : decode code 1105 = .ok (.invokevirtual 192, 3) := by decide +kernel
theorem dl_1108 : decode code 1108 = .ok (.aload_n 2, 1) := by decide +kernel
theorem dl_1109 : decode code 1109 = .ok (.invokevirtual 195, 3) := by decide +kernel
theorem dl_1112 : decode code 1112 = .ok (.if_icmp .eq 1587, 3) := by decide +kernel
theorem dl_1115 : decode code 1115 = .ok (.iconst 0, 1) := by decide +kernel
theorem dl_1116 : decode code 1116 = .ok (.ireturn, 1) := by decide +kernel
theorem dl_1117 : decode code 1117 = .ok (.aload_n 1, 1) := by decide +kernel
theorem dl_1118 : decode code 1118 = .ok (.invokevirtual 196, 3) := by decide +kernel
theorem dl_1121 : decode code 1121 = .ok (.aload_n 2, 1) := by decide +kernel
theorem dl_1122 : decode code 1122 = .ok (.invokevirtual 199, 3) := by decide +kernel
theorem dl_1125 : decode code 1125 = .ok (.if_icmp .eq 1574, 3) := by decide +kernel
theorem dl_1128 : decode code 1128 = .ok (.iconst 0, 1) := by decide +kernel
theorem dl_1129 : decode code 1129 = .ok (.ireturn, 1) := by decide +kernel
theorem dl_1130 : decode code 1130 = .ok (.aload_n 1, 1) := by decide +kernel
theorem dl_1131 : decode code 1131 = .ok (.invokevirtual 200, 3) := by decide +kernel
theorem dl_1134 : decode code 1134 = .ok (.aload_n 2, 1) := by decide +kernel
theorem dl_1135 : decode code 1135 = .ok (.invokevirtual 203, 3) := by decide +kernel
theorem dl_1138 : decode code 1138 = .ok (.if_icmp .eq 1561, 3) := by decide +kernel
theorem dl_1141 : decode code 1141 = .ok (.iconst 0, 1) := by decide +kernel
theorem dl_1142 : decode code 1142 = .ok (.ireturn, 1) := by decide +kernel
theorem dl_1143 : decode code 1143 = .ok (.aload_n 1, 1) := by decide +kernel
theorem dl_1144 : decode code 1144 = .ok (.aload_n 0, 1) := by decide +kernel
theorem dl_1145 : decode code 1145 = .ok (.iload 4, 2) := by decide +kernel
theorem dl_1147 : decode code 1147 = .ok (.iconst 1, 1) := by decide +kernel
theorem dl_1148 : decode code 1148 = .ok (.iadd, 1) := by decide +kernel
theorem dl_1149 : decode code 1149 = .ok (.iaload, 1) := by decide +kernel
theorem dl_1150 : decode code 1150 = .ok (.aload_n 3, 1) := by decide +kernel
theorem dl_1151 : decode code 1151 = .ok (.invokestatic 204, 3) := by decide +kernel
theorem dl_1154 : decode code 1154 = .ok (.istore 5, 2) := by decide +kernel
theorem dl_1156 : decode code 1156 = .ok (.aload_n 2, 1) := by decide +kernel
theorem dl_1157 : decode code 1157 = .ok (.aload_n 0, 1) := by decide +kernel
theorem dl_1158 : decode code 1158 = .ok (.iload 4, 2) := by decide +kernel
theorem dl_1160 : decode code 1160 = .ok (.iconst 1, 1) := by decide +kernel
theorem dl_1161 : decode code 1161 = .ok (.iadd, 1) := by decide +kernel
theorem dl_1162 : decode code 1162 = .ok (.iaload, 1) := by decide +kernel
theorem dl_1163 : decode code 1163 = .ok (.invokevirtual 206, 3) := by decide +kernel
theorem dl_1166 : decode code 1166 = .ok (.istore 6, 2) := by decide +kernel
theorem dl_1168 : decode code 1168 = .ok (.aload_n 2, 1) := by decide +kernel
theorem dl_1169 : decode code 1169 = .ok (.invokevirtual 131, 3) := by decide +kernel
theorem dl_1172 : decode code 1172 = .ok (.iload 5, 2) := by decide +kernel
theorem dl_1174 : decode code 1174 = .ok (.if_icmp .eq 5, 3) := by decide +kernel
theorem dl_1177 : decode code 1177 = .ok (.iconst 0, 1) := by decide +kernel
theorem dl_1178 : decode code 1178 = .ok (.ireturn, 1) := by decide +kernel
theorem dl_1179 : decode code 1179 = .ok (.iload 5, 2) := by decide +kernel
theorem dl_1181 : decode code 1181 = .ok (.ifCond .ne 15, 3) := by decide +kernel
theorem dl_1184 : decode code 1184 = .ok (.aload_n 3, 1) := by decide +kernel
theorem dl_1185 : decode code 1185 = .ok (.iconst 0, 1) := by decide +kernel
theorem dl_1186 : decode code 1186 = .ok (.laload, 1) := by decide +kernel
theorem dl_1187 : decode code 1187 = .ok (.iload 6, 2) := by decide +kernel
theorem dl_1189 : decode code 1189 = .ok (.i2l, 1) := by decide +kernel
theorem dl_1190 : decode code 1190 = .ok (.lcmp, 1) := by decide +kernel
theorem dl_1191 : decode code 1191 = .ok (.ifCond .eq 5, 3) := by decide +kernel
theorem dl_1194 : decode code 1194 = .ok (.iconst 0, 1) := by decide +kernel
theorem dl_1195 : decode code 1195 = .ok (.ireturn, 1) := by decide +kernel
theorem dl_1196 : decode code 1196 = .ok (.goto 1503, 3) := by decide +kernel
theorem dl_1199 : decode code 1199 = .ok (.aload_n 1, 1) := by decide +kernel
theorem dl_1200 : decode code 1200 = .ok (.aload_n 0, 1) := by decide +kernel
theorem dl_1201 : decode code 1201 = .ok (.iload 4, 2) := by decide +kernel
theorem dl_1203 : decode code 1203 = .ok (.iconst 1, 1) := by decide +kernel
theorem dl_1204 : decode code 1204 = .ok (.iadd, 1) := by decide +kernel
theorem dl_1205 : decode code 1205 = .ok (.iaload, 1) := by decide +kernel
theorem dl_1206 : decode code 1206 = .ok (.aload_n 3, 1) := by decide +kernel
theorem dl_1207 : decode code 1207 = .ok (.invokestatic 207, 3) := by decide +kernel
theorem dl_1210 : decode code 1210 = .ok (.istore 5, 2) := by decide +kernel
theorem dl_1212 : decode code 1212 = .ok (.aload_n 2, 1) := by decide +kernel
theorem dl_1213 : decode code 1213 = .ok (.aload_n 0, 1) := by decide +kernel
theorem dl_1214 : decode code 1214 = .ok (.iload 4, 2) := by decide +kernel
theorem dl_1216 : decode code 1216 = .ok (.iconst 1, 1) := by decide +kernel
theorem dl_1217 : decode code 1217 = .ok (.iadd, 1) := by decide +kernel
theorem dl_1218 : decode code 1218 = .ok (.iaload, 1) := by decide +kernel
theorem dl_1219 : decode code 1219 = .ok (.invokevirtual 209, 3) := by decide +kernel
theorem dl_1222 : decode code 1222 = .ok (.istore 6, 2) := by decide +kernel
theorem dl_1224 : decode code 1224 = .ok (.aload_n 2, 1) := by decide +kernel
theorem dl_1225 : decode code 1225 = .ok (.invokevirtual 131, 3) := by decide +kernel
theorem dl_1228 : decode code 1228 = .ok (.iload 5, 2) := by decide +kernel
theorem dl_1230 : decode code 1230 = .ok (.if_icmp .eq 5, 3) := by decide +kernel
theorem dl_1233 : decode code 1233 = .ok (.iconst 0, 1) := by decide +kernel
theorem dl_1234 : decode code 1234 = .ok (.ireturn, 1) := by decide +kernel
theorem dl_1235 : decode code 1235 = .ok (.iload 5, 2) := by decide +kernel
theorem dl_1237 : decode code 1237 = .ok (.ifCond .ne 15, 3) := by decide +kernel
theorem dl_1240 : decode code 1240 = .ok (.aload_n 3, 1) := by decide +kernel
theorem dl_1241 : decode code 1241 = .ok (.iconst 0, 1) := by decide +kernel
theorem dl_1242 : decode code 1242 = .ok (.laload, 1) := by decide +kernel
theorem dl_1243 : decode code 1243 = .ok (.iload 6, 2) := by decide +kernel
theorem dl_1245 : decode code 1245 = .ok (.i2l, 1) := by decide +kernel
theorem dl_1246 : decode code 1246 = .ok (.lcmp, 1) := by decide +kernel
theorem dl_1247 : decode code 1247 = .ok (.ifCond .eq 5, 3) := by decide +kernel
theorem dl_1250 : decode code 1250 = .ok (.iconst 0, 1) := by decide +kernel
theorem dl_1251 : decode code 1251 = .ok (.ireturn, 1) := by decide +kernel
theorem dl_1252 : decode code 1252 = .ok (.goto 1447, 3) := by decide +kernel
theorem dl_1255 : decode code 1255 = .ok (.aload_n 1, 1) := by decide +kernel
theorem dl_1256 : decode code 1256 = .ok (.aload_n 0, 1) := by decide +kernel
theorem dl_1257 : decode code 1257 = .ok (.iload 4, 2) := by decide +kernel
theorem dl_1259 : decode code 1259 = .ok (.iconst 1, 1) := by decide +kernel
theorem dl_1260 : decode code 1260 = .ok (.iadd, 1) := by decide +kernel
theorem dl_1261 : decode code 1261 = .ok (.iaload, 1) := by decide +kernel
theorem dl_1262 : decode code 1262 = .ok (.aload_n 0, 1) := by decide +kernel
theorem dl_1263 : decode code 1263 = .ok (.iload 4, 2) := by decide +kernel
theorem dl_1265 : decode code 1265 = .ok (.iconst 2, 1) := by decide +kernel
theorem dl_1266 : decode code 1266 = .ok (.iadd, 1) := by decide +kernel
theorem dl_1267 : decode code 1267 = .ok (.iaload, 1) := by decide +kernel
theorem dl_1268 : decode code 1268 = .ok (.aload_n 3, 1) := by decide +kernel
theorem dl_1269 : decode code 1269 = .ok (.invokestatic 210, 3) := by decide +kernel
theorem dl_1272 : decode code 1272 = .ok (.istore 5, 2) := by decide +kernel
theorem dl_1274 : decode code 1274 = .ok (.aload_n 2, 1) := by decide +kernel
theorem dl_1275 : decode code 1275 = .ok (.aload_n 0, 1) := by decide +kernel
theorem dl_1276 : decode code 1276 = .ok (.iload 4, 2) := by decide +kernel
theorem dl_1278 : decode code 1278 = .ok (.iconst 1, 1) := by decide +kernel
