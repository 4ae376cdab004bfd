theorem dL_law_936 : decode cL_law 936 = .ok (.aload_n 1, 1) := by decide +kernel
theorem dL_law_937 : decode cL_law 937 = .ok (.aload_n 0, 1) := by decide +kernel
theorem dL_law_938 : decode cL_law 938 = .ok (.iload 4, 2) := by decide +kernel
theorem dL_law_940 : decode cL_law 940 = .ok (.iconst 1, 1) := by decide +kernel
theorem dL_law_941 : decode cL_law 941 = .ok (.iadd, 1) := by decide +kernel
theorem dL_law_942 : decode cL_law 942 = .ok (.iaload, 1) := by decide +kernel
theorem dL_law_943 : decode cL_law 943 = .ok (.aload_n 0, 1) := by decide +kernel
theorem dL_law_944 : decode cL_law 944 = .ok (.iload 4, 2) := by decide +kernel
theorem dL_law_946 : decode cL_law 946 = .ok (.iconst 2, 1) := by decide +kernel
theorem dL_law_947 : decode cL_law 947 = .ok (.iadd, 1) := by decide +kernel
theorem dL_law_948 : decode cL_law 948 = .ok (.iaload, 1) := by decide +kernel
theorem dL_law_949 : decode cL_law 949 = .ok (.aload_n 3, 1) := by decide +kernel
theorem dL_law_950 : decode cL_law 950 = .ok (.invokestatic 228, 3) := by decide +kernel
theorem dL_law_953 : decode cL_law 953 = .ok (.istore 5, 2) := by decide +kernel
theorem dL_law_955 : decode cL_law 955 = .ok (.aload_n 2, 1) := by decide +kernel
theorem dL_law_956 : decode cL_law 956 = .ok (.aload_n 0, 1) := by decide +kernel
theorem dL_law_957 : decode cL_law 957 = .ok (.iload 4, 2) := by decide +kernel
theorem dL_law_959 : decode cL_law 959 = .ok (.iconst 1, 1) := by decide +kernel
theorem dL_law_960 : decode cL_law 960 = .ok (.iadd, 1) := by decide +kernel
theorem dL_law_961 : decode cL_law 961 = .ok (.iaload, 1) := by decide +kernel
theorem dL_law_962 : decode cL_law 962 = .ok (.aload_n 0, 1) := by decide +kernel
theorem dL_law_963 : decode cL_law 963 = .ok (.iload 4, 2) := by decide +kernel
theorem dL_law_965 : decode cL_law 965 = .ok (.iconst 2, 1) := by decide +kernel
theorem dL_law_966 : decode cL_law 966 = .ok (.iadd, 1) := by decide +kernel
theorem dL_law_967 : decode cL_law 967 = .ok (.iaload, 1) := by decide +kernel
theorem dL_law_968 : decode cL_law 968 = .ok (.invokevirtual 230, 3) := by decide +kernel
theorem dL_law_971 : decode cL_law 971 = .ok (.istore 6, 2) := by decide +kernel
theorem dL_law_973 : decode cL_law 973 = .ok (.aload_n 2, 1) := by decide +kernel
theorem dL_law_974 : decode cL_law 974 = .ok (.invokevirtual 178, 3) := by decide +kernel
theorem dL_law_977 : decode cL_law 977 = .ok (.iload 5, 2) := by decide +kernel
theorem dL_law_979 : decode cL_law 979 = .ok (.if_icmp .eq 5, 3) := by decide +kernel
theorem dL_law_984 : decode cL_law 984 = .ok (.iload 5, 2) := by decide +kernel
theorem dL_law_986 : decode cL_law 986 = .ok (.ifCond .ne 15, 3) := by decide +kernel
theorem dL_law_989 : decode cL_law 989 = .ok (.aload_n 3, 1) := by decide +kernel
theorem dL_law_990 : decode cL_law 990 = .ok (.iconst 0, 1) := by decide +kernel
theorem dL_law_991 : decode cL_law 991 = .ok (.laload, 1) := by decide +kernel
theorem dL_law_992 : decode cL_law 992 = .ok (.iload 6, 2) := by decide +kernel
theorem dL_law_994 : decode cL_law 994 = .ok (.i2l, 1) := by decide +kernel
theorem dL_law_995 : decode cL_law 995 = .ok (.lcmp, 1) := by decide +kernel
theorem dL_law_996 : decode cL_law 996 = .ok (.ifCond .eq 5, 3) := by decide +kernel
theorem dL_law_1001 : decode cL_law 1001 = .ok (.goto 2422, 3) := by decide +kernel
theorem dL_law_1004 : decode cL_law 1004 = .ok (.aload_n 1, 1) := by decide +kernel
theorem dL_law_1005 : decode cL_law 1005 = .ok (.aload_n 0, 1) := by decide +kernel
theorem dL_law_1006 : decode cL_law 1006 = .ok (.iload 4, 2) := by decide +kernel
theorem dL_law_1008 : decode cL_law 1008 = .ok (.iconst 1, 1) := by decide +kernel
theorem dL_law_1009 : decode cL_law 1009 = .ok (.iadd, 1) := by decide +kernel
theorem dL_law_1010 : decode cL_law 1010 = .ok (.iaload, 1) := by decide +kernel
theorem dL_law_1011 : decode cL_law 1011 = .ok (.aload_n 3, 1) := by decide +kernel
theorem dL_law_1012 : decode cL_law 1012 = .ok (.invokestatic 231, 3) := by decide +kernel
theorem dL_law_1015 : decode cL_law 1015 = .ok (.istore 5, 2) := by decide +kernel
theorem dL_law_1017 : decode cL_law 1017 = .ok (.aload_n 2, 1) := by decide +kernel
theorem dL_law_1018 : decode cL_law 1018 = .ok (.aload_n 0, 1) := by decide +kernel
theorem dL_law_1019 : decode cL_law 1019 = .ok (.iload 4, 2) := by decide +kernel
theorem dL_law_1021 : decode cL_law 1021 = .ok (.iconst 1, 1) := by decide +kernel
theorem dL_law_1022 : decode cL_law 1022 = .ok (.iadd, 1) := by decide +kernel
theorem dL_law_1023 : decode cL_law 1023 = .ok (.iaload, 1) := by decide +kernel
theorem dL_law_1024 : decode cL_law 1024 = .ok (.invokevirtual 233, 3) := by decide +kernel
theorem dL_law_1027 : decode cL_law 1027 = .ok (.istore 6, 2) := by decide +kernel
theorem dL_law_1029 : decode cL_law 1029 = .ok (.aload_n 2, 1) := by decide +kernel
theorem dL_law_1030 : decode cL_law 1030 = .ok (.invokevirtual 178, 3) := by decide +kernel
theorem dL_law_1033 : decode cL_law 1033 = .ok (.iload 5, 2) := by decide +kernel
theorem dL_law_1035 : decode cL_law 1035 = .ok (.if_icmp .eq 5, 3) := by decide +kernel
theorem dL_law_1040 : decode cL_law 1040 = .ok (.iload 5, 2) := by decide +kernel
theorem dL_law_1042 : decode cL_law 1042 = .ok (.ifCond .ne 15, 3) := by decide +kernel
theorem dL_law_1045 : decode cL_law 1045 = .ok (.aload_n 3, 1) := by decide +kernel
theorem dL_law_1046 : decode cL_law 1046 = .ok (.iconst 0, 1) := by decide +kernel
theorem dL_law_1047 : decode cL_law 1047 = .ok (.laload, 1) := by decide +kernel
theorem dL_law_1048 : decode cL_law 1048 = .ok (.iload 6, 2) := by decide +kernel
theorem dL_law_1050 : decode cL_law 1050 = .ok (.i2l, 1) := by decide +kernel
theorem dL_law_1051 : decode cL_law 1051 = .ok (.lcmp, 1) := by decide +kernel
theorem dL_law_1052 : decode cL_law 1052 = .ok (.ifCond .eq 5, 3) := by decide +kernel
theorem dL_law_1057 : decode cL_law 1057 = .ok (.goto 2366, 3) := by decide +kernel
theorem dL_law_1060 : decode cL_law 1060 = .ok (.aload_n 1, 1) := by decide +kernel
theorem dL_law_1061 : decode cL_law 1061 = .ok (.aload_n 0, 1) := by decide +kernel
theorem dL_law_1062 : decode cL_law 1062 = .ok (.iload 4, 2) := by decide +kernel
theorem dL_law_1064 : decode cL_law 1064 = .ok (.iconst 1, 1) := by decide +kernel
theorem dL_law_1065 : decode cL_law 1065 = .ok (.iadd, 1) := by decide +kernel
theorem dL_law_1066 : decode cL_law 1066 = .ok (.iaload, 1) := by decide +kernel
theorem dL_law_1067 : decode cL_law 1067 = .ok (.aload_n 3, 1) := by decide +kernel
theorem dL_law_1068 : decode cL_law 1068 = .ok (.invokestatic 234, 3) := by decide +kernel
theorem dL_law_1071 : decode cL_law 1071 = .ok (.istore 5, 2) := by decide +kernel
theorem dL_law_1073 : decode cL_law 1073 = .ok (.aload_n 2, 1) := by decide +kernel
theorem dL_law_1074 : decode cL_law 1074 = .ok (.aload_n 0, 1) := by decide +kernel
theorem dL_law_1075 : decode cL_law 1075 = .ok (.iload 4, 2) := by decide +kernel
theorem dL_law_1077 : decode cL_law 1077 = .ok (.iconst 1, 1) := by decide +kernel
theorem dL_law_1078 : decode cL_law 1078 = .ok (.iadd, 1) := by decide +kernel
theorem dL_law_1079 : decode cL_law 1079 = .ok (.iaload, 1) := by decide +kernel
theorem dL_law_1080 : decode cL_law 1080 = .ok (.invokevirtual 236, 3) := by decide +kernel
theorem dL_law_1083 : decode cL_law 1083 = .ok (.istore 6, 2) := by decide +kernel
theorem dL_law_1085 : decode cL_law 1085 = .ok (.aload_n 2, 1) := by decide +kernel
theorem dL_law_1086 : decode cL_law 1086 = .ok (.invokevirtual 178, 3) := by decide +kernel
theorem dL_law_1089 : decode cL_law 1089 = .ok (.iload 5, 2) := by decide +kernel
theorem dL_law_1091 : decode cL_law 1091 = .ok (.if_icmp .eq 5, 3) := by decide +kernel
theorem dL_law_1096 : decode cL_law 1096 = .ok (.iload 5, 2) := by decide +kernel
theorem dL_law_1098 : decode cL_law 1098 = .ok (.ifCond .ne 15, 3) := by decide +kernel
theorem dL_law_1101 : decode cL_law 1101 = .ok (.aload_n 3, 1) := by decide +kernel
theorem dL_law_1102 : decode cL_law 1102 = .ok (.iconst 0, 1) := by decide +kernel
theorem dL_law_1103 : decode cL_law 1103 = .ok (.laload, 1) := by decide +kernel
theorem dL_law_1104 : decode cL_law 1104 = .ok (.iload 6, 2) := by decide +kernel
theorem dL_law_1106 : decode cL_law 1106 = .ok (.i2l, 1) := by decide +kernel
theorem dL_law_1107 : decode cL_law 1107 = .ok (.lcmp, 1) := by decide +kernel
theorem dL_law_1108 : decode cL_law 1108 = .ok (.ifCond .eq 5, 3) := by decide +kernel
theorem dL_law_1113 : decode cL_law 1113 = .ok (.goto 2310, 3) := by decide +kernel
theorem dL_law_1116 : decode cL_law 1116 = .ok (.aload_n 1, 1) := by decide +kernel
theorem dL_law_1117 : decode cL_law 1117 = .ok (.aload_n 0, 1) := by decide +kernel
theorem dL_law_1118 : decode cL_law 1118 = .ok (.iload 4, 2) := by decide +kernel
theorem dL_law_1120 : decode cL_law 1120 = .ok (.iconst 1, 1) := by decide +kernel
theorem dL_law_1121 : decode cL_law 1121 = .ok (.iadd, 1) := by decide +kernel
theorem dL_law_1122 : decode cL_law 1122 = .ok (.iaload, 1) := by decide +kernel
theorem dL_law_1123 : decode cL_law 1123 = .ok (.aload_n 0, 1) := by decide +kernel
theorem dL_law_1124 : decode cL_law 1124 = .ok (.iload 4, 2) := by decide +kernel
theorem dL_law_1126 : decode cL_law 1126 = .ok (.iconst 2, 1) := by decide +kernel
theorem dL_law_1127 : decode cL_law 1127 = .ok (.iadd, 1) := by decide +kernel
theorem dL_law_1128 : decode cL_law 1128 = .ok (.iaload, 1) := by decide +kernel
theorem dL_law_1129 : decode cL_law 1129 = .ok (.aload_n 3, 1) := by decide +kernel
theorem dL_law_1130 : decode cL_law 1130 = .ok (.invokestatic 237, 3) := by decide +kernel
theorem dL_law_1133 : decode cL_law 1133 = .ok (.istore 5, 2) := by decide +kernel
theorem dL_law_1135 : decode cL_law 1135 = .ok (.aload_n 2, 1) := by decide +kernel
theorem dL_law_1136 : decode cL_law 1136 = .ok (.aload_n 0, 1) := by decide +kernel
theorem dL_law_1137 : decode cL_law 1137 = .ok (.iload 4, 2) := by decide +kernel
theorem dL_law_1139 : decode cL_law 1139 = .ok (.iconst 1, 1) := by decide +kernel
theorem dL_law_1140 : decode cL_law 1140 = .ok (.iadd, 1) := by decide +kernel
theorem dL_law_1141 : decode cL_law 1141 = .ok (.iaload, 1) := by decide +kernel
theorem dL_law_1142 : decode cL_law 1142 = .ok (.aload_n 0, 1) := by decide +kernel
theorem dL_law_1143 : decode cL_law 1143 = .ok (.iload 4, 2) := by decide +kernel
theorem dL_law_1145 : decode cL_law 1145 = .ok (.iconst 2, 1) := by decide +kernel
theorem dL_law_1146 : decode cL_law 1146 = .ok (.iadd, 1) := by decide +kernel
theorem dL_law_1147 : decode cL_law 1147 = .ok (.iaload, 1) := by decide +kernel
theorem dL_law_1148 : decode cL_law 1148 = .ok (.invokevirtual 239, 3) := by decide +kernel
theorem dL_law_1151 : decode cL_law 1151 = .ok (.istore 6, 2) := by decide +kernel
theorem dL_law_1153 : decode cL_law 1153 = .ok (.aload_n 2, 1) := by decide +kernel
theorem dL_law_1154 : decode cL_law 1154 = .ok (.invokevirtual 178, 3) := by decide +kernel
theorem dL_law_1157 : decode cL_law 1157 = .ok (.iload 5, 2) := by decide +kernel
theorem dL_law_1159 : decode cL_law 1159 = .ok (.if_icmp .eq 5, 3) := by decide +kernel
theorem dL_law_1164 : decode cL_law 1164 = .ok (.iload 5, 2) := by decide +kernel
theorem dL_law_1166 : decode cL_law 1166 = .ok (.ifCond .ne 15, 3) := by decide +kernel
theorem dL_law_1169 : decode cL_law 1169 = .ok (.aload_n 3, 1) := by decide +kernel
theorem dL_law_1170 : decode cL_law 1170 = .ok (.iconst 0, 1) := by decide +kernel
theorem dL_law_1171 : decode cL_law 1171 = .ok (.laload, 1) := by decide +kernel
theorem dL_law_1172 : decode cL_law 1172 = .ok (.iload 6, 2) := by decide +kernel
theorem dL_law_1174 : decode cL_law 1174 = .ok (.i2l, 1) := by decide +kernel
theorem dL_law_1175 : decode cL_law 1175 = .ok (.lcmp, 1) := by decide +kernel
theorem dL_law_1176 : decode cL_law 1176 = .ok (.ifCond .eq 5, 3) := by decide +kernel
theorem dL_law_1181 : decode cL_law 1181 = .ok (.goto 2242, 3) := by decide +kernel
theorem dL_law_1184 : decode cL_law 1184 = .ok (.aload_n 1, 1) := by decide +kernel
theorem dL_law_1185 : decode cL_law 1185 = .ok (.aload_n 0, 1) := by decide +kernel
theorem dL_law_1186 : decode cL_law 1186 = .ok (.iload 4, 2) := by decide +kernel
theorem dL_law_1188 : decode cL_law 1188 = .ok (.iconst 1, 1) := by decide +kernel
theorem dL_law_1189 : decode cL_law 1189 = .ok (.iadd, 1) := by decide +kernel
theorem dL_law_1190 : decode cL_law 1190 = .ok (.iaload, 1) := by decide +kernel
theorem dL_law_1191 : decode cL_law 1191 = .ok (.aload_n 0, 1) := by decide +kernel
theorem dL_law_1192 : decode cL_law 1192 = .ok (.iload 4, 2) := by decide +kernel
theorem dL_law_1194 : decode cL_law 1194 = .ok (.iconst 2, 1) := by decide +kernel
theorem dL_law_1195 : decode cL_law 1195 = .ok (.iadd, 1) := by decide +kernel
theorem dL_law_1196 : decode cL_law 1196 = .ok (.iaload, 1) := by decide +kernel
theorem dL_law_1197 : decode cL_law 1197 = .ok (.aload_n 0, 1) := by decide +kernel
theorem dL_law_1198 : decode cL_law 1198 = .ok (.iload 4, 2) := by decide +kernel
theorem dL_law_1200 : decode cL_law 1200 = .ok (.iconst 3, 1) := by decide +kernel
theorem dL_law_1201 : decode cL_law 1201 = .ok (.iadd, 1) := by decide +kernel
theorem dL_law_1202 : decode cL_law 1202 = .ok (.iaload, 1) := by decide +kernel
theorem dL_law_1203 : decode cL_law 1203 = .ok (.aload_n 3, 1) := by decide +kernel
theorem dL_law_1204 : decode cL_law 1204 = .ok (.invokestatic 240, 3) := by decide +kernel
theorem dL_law_1207 : decode cL_law 1207 = .ok (.istore 5, 2) := by decide +kernel
theorem dL_law_1209 : decode cL_law 1209 = .ok (.aload_n 2, 1) := by decide +kernel
theorem dL_law_1210 : decode cL_law 1210 = .ok (.aload_n 0, 1) := by decide +kernel
theorem dL_law_1211 : decode cL_law 1211 = .ok (.iload 4, 2) := by decide +kernel
theorem dL_law_1213 : decode cL_law 1213 = .ok (.iconst 1, 1) := by decide +kernel
theorem dL_law_1214 : decode cL_law 1214 = .ok (.iadd, 1) := by decide +kernel
theorem dL_law_1215 : decode cL_law 1215 = .ok (.iaload, 1) := by decide +kernel
theorem dL_law_1216 : decode cL_law 1216 = .ok (.aload_n 0, 1) := by decide +kernel
theorem dL_law_1217 : decode cL_law 1217 = .ok (.iload 4, 2) := by decide +kernel
theorem dL_law_1219 : decode cL_law 1219 = .ok (.iconst 2, 1) := by decide +kernel
theorem dL_law_1220 : decode cL_law 1220 = .ok (.iadd, 1) := by decide +kernel
theorem dL_law_1221 : decode cL_law 1221 = .ok (.iaload, 1) := by decide +kernel
theorem dL_law_1222 : decode cL_law 1222 = .ok (.aload_n 0, 1) := by decide +kernel
theorem dL_law_1223 : decode cL_law 1223 = .ok (.iload 4, 2) := by decide +kernel
theorem dL_law_1225 : decode cL_law 1225 = .ok (.iconst 3, 1) := by decide +kernel
theorem dL_law_1226 : decode cL_law 1226 = .ok (.iadd, 1) := by decide +kernel
theorem dL_law_1227 : decode cL_law 1227 = .ok (.iaload, 1) := by decide +kernel
theorem dL_law_1228 : decode cL_law 1228 = .ok (.invokevirtual 243, 3) := by decide +kernel
theorem dL_law_1231 : decode cL_law 1231 = .ok (.istore 6, 2) := by decide +kernel
theorem dL_law_1233 : decode cL_law 1233 = .ok (.aload_n 2, 1) := by decide +kernel
theorem dL_law_1234 : decode cL_law 1234 = .ok (.invokevirtual 178, 3) := by decide +kernel
theorem dL_law_1237 : decode cL_law 1237 = .ok (.iload 5, 2) := by decide +kernel
theorem dL_law_1239 : decode cL_law 1239 = .ok (.if_icmp .eq 5, 3) := by decide +kernel
theorem dL_law_1244 : decode cL_law 1244 = .ok (.iload 5, 2) := by decide +kernel
theorem dL_law_1246 : decode cL_law 1246 = .ok (.ifCond .ne 15, 3) := by decide +kernel
theorem dL_law_1249 : decode cL_law 1249 = .ok (.aload_n 3, 1) := by decide +kernel
theorem dL_law_1250 : decode cL_law 1250 = .ok (.iconst 0, 1) := by decide +kernel
theorem dL_law_1251 : decode cL_law 1251 = .ok (.laload, 1) := by decide +kernel
theorem dL_law_1252 : decode cL_law 1252 = .ok (.iload 6, 2) := by decide +kernel
theorem dL_law_1254 : decode cL_law 1254 = .ok (.i2l, 1) := by decide +kernel
theorem dL_law_1255 : decode cL_law 1255 = .ok (.lcmp, 1) := by decide +kernel
theorem dL_law_1256 : decode cL_law 1256 = .ok (.ifCond .eq 5, 3) := by decide +kernel
theorem dL_law_1261 : decode cL_law 1261 = .ok (.goto 2162, 3) := by decide +kernel
theorem dL_law_1264 : decode cL_law 1264 = .ok (.aload_n 1, 1) := by decide +kernel
theorem dL_law_1265 : decode cL_law 1265 = .ok (.aload_n 0, 1) := by decide +kernel
theorem dL_law_1266 : decode cL_law 1266 = .ok (.iload 4, 2) := by decide +kernel
theorem dL_law_1268 : decode cL_law 1268 = .ok (.iconst 1, 1) := by decide +kernel
theorem dL_law_1269 : decode cL_law 1269 = .ok (.iadd, 1) := by decide +kernel
theorem dL_law_1270 : decode cL_law 1270 = .ok (.iaload, 1) := by decide +kernel
theorem dL_law_1271 : decode cL_law 1271 = .ok (.aload_n 0, 1) := by decide +kernel
theorem dL_law_1272 : decode cL_law 1272 = .ok (.iload 4, 2) := by decide +kernel
theorem dL_law_1274 : decode cL_law 1274 = .ok (.iconst 2, 1) := by decide +kernel
theorem dL_law_1275 : decode cL_law 1275 = .ok (.iadd, 1) := by decide +kernel
theorem dL_law_1276 : decode cL_law 1276 = .ok (.iaload, 1) := by decide +kernel
theorem dL_law_1277 : decode cL_law 1277 = .ok (.aload_n 3, 1) := by decide +kernel
theorem dL_law_1278 : decode cL_law 1278 = .ok (.invokestatic 244, 3) := by decide +kernel
theorem dL_law_1281 : decode cL_law 1281 = .ok (.istore 5, 2) := by decide +kernel
theorem dL_law_1283 : decode cL_law 1283 = .ok (.aload_n 2, 1) := by decide +kernel
theorem dL_law_1284 : decode cL_law 1284 = .ok (.aload_n 0, 1) := by decide +kernel
theorem dL_law_1285 : decode cL_law 1285 = .ok (.iload 4, 2) := by decide +kernel
theorem dL_law_1287 : decode cL_law 1287 = .ok (.iconst 1, 1) := by decide +kernel
theorem dL_law_1288 : decode cL_law 1288 = .ok (.iadd, 1) := by decide +kernel
theorem dL_law_1289 : decode cL_law 1289 = .ok (.iaload, 1) := by decide +kernel
theorem dL_law_1290 : decode cL_law 1290 = .ok (.aload_n 0, 1) := by decide +kernel
theorem dL_law_1291 : decode cL_law 1291 = .ok (.iload 4, 2) := by decide +kernel
theorem dL_law_1293 : decode cL_law 1293 = .ok (.iconst 2, 1) := by decide +kernel
theorem dL_law_1294 : decode cL_law 1294 = .ok (.iadd, 1) := by decide +kernel
theorem dL_law_1295 : decode cL_law 1295 = .ok (.iaload, 1) := by decide +kernel
theorem dL_law_1296 : decode cL_law 1296 = .ok (.invokevirtual 246, 3) := by decide +kernel
theorem dL_law_1299 : decode cL_law 1299 = .ok (.istore 6, 2) := by decide +kernel
theorem dL_law_1301 : decode cL_law 1301 = .ok (.aload_n 2, 1) := by decide +kernel
theorem dL_law_1302 : decode cL_law 1302 = .ok (.invokevirtual 178, 3) := by decide +kernel
theorem dL_law_1305 : decode cL_law 1305 = .ok (.iload 5, 2) := by decide +kernel
theorem dL_law_1307 : decode cL_law 1307 = .ok (.if_icmp .eq 5, 3) := by decide +kernel
theorem dL_law_1312 : decode cL_law 1312 = .ok (.iload 5, 2) := by decide +kernel
theorem dL_law_1314 : decode cL_law 1314 = .ok (.ifCond .ne 22, 3) := by decide +kernel
theorem dL_law_1317 : decode cL_law 1317 = .ok (.aload_n 3, 1) := by decide +kernel
theorem dL_law_1318 : decode cL_law 1318 = .ok (.iconst 0, 1) := by decide +kernel
theorem dL_law_1319 : decode cL_law 1319 = .ok (.laload, 1) := by decide +kernel
theorem dL_law_1320 : decode cL_law 1320 = .ok (.iload 6, 2) := by decide +kernel
theorem dL_law_1322 : decode cL_law 1322 = .ok (.ifCond .eq 7, 3) := by decide +kernel
theorem dL_law_1325 : decode cL_law 1325 = .ok (.lconst 1, 1) := by decide +kernel
theorem dL_law_1326 : decode cL_law 1326 = .ok (.goto 4, 3) := by decide +kernel
theorem dL_law_1329 : decode cL_law 1329 = .ok (.lconst 0, 1) := by decide +kernel
theorem dL_law_1330 : decode cL_law 1330 = .ok (.lcmp, 1) := by decide +kernel
theorem dL_law_1331 : decode cL_law 1331 = .ok (.ifCond .eq 5, 3) := by decide +kernel
theorem dL_law_1336 : decode cL_law 1336 = .ok (.goto 2087, 3) := by decide +kernel
theorem dL_law_1339 : decode cL_law 1339 = .ok (.aload_n 1, 1) := by decide +kernel
theorem dL_law_1340 : decode cL_law 1340 = .ok (.aload_n 0, 1) := by decide +kernel
theorem dL_law_1341 : decode cL_law 1341 = .ok (.iload 4, 2) := by decide +kernel
theorem dL_law_1343 : decode cL_law 1343 = .ok (.iconst 1, 1) := by decide +kernel
theorem dL_law_1344 : decode cL_law 1344 = .ok (.iadd, 1) := by decide +kernel
theorem dL_law_1345 : decode cL_law 1345 = .ok (.iaload, 1) := by decide +kernel
theorem dL_law_1346 : decode cL_law 1346 = .ok (.aload_n 3, 1) := by decide +kernel
theorem dL_law_1347 : decode cL_law 1347 = .ok (.invokestatic 247, 3) := by decide +kernel
theorem dL_law_1350 : decode cL_law 1350 = .ok (.istore 5, 2) := by decide +kernel
theorem dL_law_1352 : decode cL_law 1352 = .ok (.aload_n 2, 1) := by decide +kernel
theorem dL_law_1353 : decode cL_law 1353 = .ok (.aload_n 0, 1) := by decide +kernel
theorem dL_law_1354 : decode cL_law 1354 = .ok (.iload 4, 2) := by decide +kernel
theorem dL_law_1356 : decode cL_law 1356 = .ok (.iconst 1, 1) := by decide +kernel
theorem dL_law_1357 : decode cL_law 1357 = .ok (.iadd, 1) := by decide +kernel
theorem dL_law_1358 : decode cL_law 1358 = .ok (.iaload, 1) := by decide +kernel
theorem dL_law_1359 : decode cL_law 1359 = .ok (.invokevirtual 249, 3) := by decide +kernel
theorem dL_law_1362 : decode cL_law 1362 = .ok (.istore 6, 2) := by decide +kernel
theorem dL_law_1364 : decode cL_law 1364 = .ok (.aload_n 2, 1) := by decide +kernel
theorem dL_law_1365 : decode cL_law 1365 = .ok (.invokevirtual 178, 3) := by decide +kernel
theorem dL_law_1368 : decode cL_law 1368 = .ok (.iload 5, 2) := by decide +kernel
theorem dL_law_1370 : decode cL_law 1370 = .ok (.if_icmp .eq 5, 3) := by decide +kernel
theorem dL_law_1375 : decode cL_law 1375 = .ok (.iload 5, 2) := by decide +kernel
theorem dL_law_1377 : decode cL_law 1377 = .ok (.ifCond .ne 15, 3) := by decide +kernel
theorem dL_law_1380 : decode cL_law 1380 = .ok (.aload_n 3, 1) := by decide +kernel
theorem dL_law_1381 : decode cL_law 1381 = .ok (.iconst 0, 1) := by decide +kernel
theorem dL_law_1382 : decode cL_law 1382 = .ok (.laload, 1) := by decide +kernel
theorem dL_law_1383 : decode cL_law 1383 = .ok (.iload 6, 2) := by decide +kernel
theorem dL_law_1385 : decode cL_law 1385 = .ok (.i2l, 1) := by decide +kernel
theorem dL_law_1386 : decode cL_law 1386 = .ok (.lcmp, 1) := by decide +kernel
theorem dL_law_1387 : decode cL_law 1387 = .ok (.ifCond .eq 5, 3) := by decide +kernel
theorem dL_law_1392 : decode cL_law 1392 = .ok (.goto 2031, 3) := by decide +kernel
theorem dL_law_1395 : decode cL_law 1395 = .ok (.aload_n 1, 1) := by decide +kernel
theorem dL_law_1396 : decode cL_law 1396 = .ok (.aload_n 0, 1) := by decide +kernel
theorem dL_law_1397 : decode cL_law 1397 = .ok (.iload 4, 2) := by decide +kernel
theorem dL_law_1399 : decode cL_law 1399 = .ok (.iconst 1, 1) := by decide +kernel
theorem dL_law_1400 : decode cL_law 1400 = .ok (.iadd, 1) := by decide +kernel
theorem dL_law_1401 : decode cL_law 1401 = .ok (.iaload, 1) := by decide +kernel
theorem dL_law_1402 : decode cL_law 1402 = .ok (.aload_n 0, 1) := by decide +kernel
theorem dL_law_1403 : decode cL_law 1403 = .ok (.iload 4, 2) := by decide +kernel
theorem dL_law_1405 : decode cL_law 1405 = .ok (.iconst 2, 1) := by decide +kernel
theorem dL_law_1406 : decode cL_law 1406 = .ok (.iadd, 1) := by decide +kernel
theorem dL_law_1407 : decode cL_law 1407 = .ok (.iaload, 1) := by decide +kernel
theorem dL_law_1408 : decode cL_law 1408 = .ok (.aload_n 3, 1) := by decide +kernel
theorem dL_law_1409 : decode cL_law 1409 = .ok (.invokestatic 250, 3) := by decide +kernel
theorem dL_law_1412 : decode cL_law 1412 = .ok (.istore 5, 2) := by decide +kernel
theorem dL_law_1414 : decode cL_law 1414 = .ok (.aload_n 2, 1) := by decide +kernel
theorem dL_law_1415 : decode cL_law 1415 = .ok (.aload_n 0, 1) := by decide +kernel
theorem dL_law_1416 : decode cL_law 1416 = .ok (.iload 4, 2) := by decide +kernel
theorem dL_law_1418 : decode cL_law 1418 = .ok (.iconst 1, 1) := by decide +kernel
theorem dL_law_1419 : decode cL_law 1419 = .ok (.iadd, 1) := by decide +kernel
theorem dL_law_1420 : decode cL_law 1420 = .ok (.iaload, 1) := by decide +kernel
theorem dL_law_1421 : decode cL_law 1421 = .ok (.aload_n 0, 1) := by decide +kernel
theorem dL_law_1422 : decode cL_law 1422 = .ok (.iload 4, 2) := by decide +kernel
theorem dL_law_1424 : decode cL_law 1424 = .ok (.iconst 2, 1) := by decide +kernel
theorem dL_law_1425 : decode cL_law 1425 = .ok (.iadd, 1) := by decide +kernel
theorem dL_law_1426 : decode cL_law 1426 = .ok (.iaload, 1) := by decide +kernel
theorem dL_law_1427 : decode cL_law 1427 = .ok (.invokevirtual 252, 3) := by decide +kernel
theorem dL_law_1430 : decode cL_law 1430 = .ok (.istore 6, 2) := by decide +kernel
theorem dL_law_1432 : decode cL_law 1432 = .ok (.aload_n 2, 1) := by decide +kernel
theorem dL_law_1433 : decode cL_law 1433 = .ok (.invokevirtual 178, 3) := by decide +kernel
theorem dL_law_1436 : decode cL_law 1436 = .ok (.iload 5, 2) := by decide +kernel
theorem dL_law_1438 : decode cL_law 1438 = .ok (.if_icmp .eq 5, 3) := by decide +kernel
theorem dL_law_1443 : decode cL_law 1443 = .ok (.iload 5, 2) := by decide +kernel
theorem dL_law_1445 : decode cL_law 1445 = .ok (.ifCond .ne 22, 3) := by decide +kernel
theorem dL_law_1448 : decode cL_law 1448 = .ok (.aload_n 3, 1) := by decide +kernel
theorem dL_law_1449 : decode cL_law 1449 = .ok (.iconst 0, 1) := by decide +kernel
theorem dL_law_1450 : decode cL_law 1450 = .ok (.laload, 1) := by decide +kernel
theorem dL_law_1451 : decode cL_law 1451 = .ok (.iload 6, 2) := by decide +kernel
theorem dL_law_1453 : decode cL_law 1453 = .ok (.ifCond .eq 7, 3) := by decide +kernel
theorem dL_law_1456 : decode cL_law 1456 = .ok (.lconst 1, 1) := by decide +kernel
theorem dL_law_1457 : decode cL_law 1457 = .ok (.goto 4, 3) := by decide +kernel
theorem dL_law_1460 : decode cL_law 1460 = .ok (.lconst 0, 1) := by decide +kernel
theorem dL_law_1461 : decode cL_law 1461 = .ok (.lcmp, 1) := by decide +kernel
theorem dL_law_1462 : decode cL_law 1462 = .ok (.ifCond .eq 5, 3) := by decide +kernel
theorem dL_law_1467 : decode cL_law 1467 = .ok (.goto 1956, 3) := by decide +kernel
theorem dL_law_1470 : decode cL_law 1470 = .ok (.aload_n 1, 1) := by decide +kernel
theorem dL_law_1471 : decode cL_law 1471 = .ok (.aload_n 0, 1) := by decide +kernel
theorem dL_law_1472 : decode cL_law 1472 = .ok (.iload 4, 2) := by decide +kernel
theorem dL_law_1474 : decode cL_law 1474 = .ok (.iconst 1, 1) := by decide +kernel
theorem dL_law_1475 : decode cL_law 1475 = .ok (.iadd, 1) := by decide +kernel
theorem dL_law_1476 : decode cL_law 1476 = .ok (.iaload, 1) := by decide +kernel
theorem dL_law_1477 : decode cL_law 1477 = .ok (.aload_n 0, 1) := by decide +kernel
theorem dL_law_1478 : decode cL_law 1478 = .ok (.iload 4, 2) := by decide +kernel
theorem dL_law_1480 : decode cL_law 1480 = .ok (.iconst 2, 1) := by decide +kernel
theorem dL_law_1481 : decode cL_law 1481 = .ok (.iadd, 1) := by decide +kernel
theorem dL_law_1482 : decode cL_law 1482 = .ok (.iaload, 1) := by decide +kernel
theorem dL_law_1483 : decode cL_law 1483 = .ok (.aload_n 3, 1) := by decide +kernel
theorem dL_law_1484 : decode cL_law 1484 = .ok (.invokestatic 253, 3) := by decide +kernel
theorem dL_law_1487 : decode cL_law 1487 = .ok (.istore 5, 2) := by decide +kernel
theorem dL_law_1489 : decode cL_law 1489 = .ok (.aload_n 2, 1) := by decide +kernel
theorem dL_law_1490 : decode cL_law 1490 = .ok (.aload_n 0, 1) := by decide +kernel
theorem dL_law_1491 : decode cL_law 1491 = .ok (.iload 4, 2) := by decide +kernel
theorem dL_law_1493 : decode cL_law 1493 = .ok (.iconst 1, 1) := by decide +kernel
theorem dL_law_1494 : decode cL_law 1494 = .ok (.iadd, 1) := by decide +kernel
theorem dL_law_1495 : decode cL_law 1495 = .ok (.iaload, 1) := by decide +kernel
theorem dL_law_1496 : decode cL_law 1496 = .ok (.aload_n 0, 1) := by decide +kernel
theorem dL_law_1497 : decode cL_law 1497 = .ok (.iload 4, 2) := by decide +kernel
theorem dL_law_1499 : decode cL_law 1499 = .ok (.iconst 2, 1) := by decide +kernel
theorem dL_law_1500 : decode cL_law 1500 = .ok (.iadd, 1) := by decide +kernel
theorem dL_law_1501 : decode cL_law 1501 = .ok (.iaload, 1) := by decide +kernel
theorem dL_law_1502 : decode cL_law 1502 = .ok (.invokevirtual 255, 3) := by decide +kernel
theorem dL_law_1505 : decode cL_law 1505 = .ok (.istore 6, 2) := by decide +kernel
theorem dL_law_1507 : decode cL_law 1507 = .ok (.aload_n 2, 1) := by decide +kernel
theorem dL_law_1508 : decode cL_law 1508 = .ok (.invokevirtual 178, 3) := by decide +kernel
theorem dL_law_1511 : decode cL_law 1511 = .ok (.iload 5, 2) := by decide +kernel
theorem dL_law_1513 : decode cL_law 1513 = .ok (.if_icmp .eq 5, 3) := by decide +kernel
theorem dL_law_1518 : decode cL_law 1518 = .ok (.iload 5, 2) := by decide +kernel
theorem dL_law_1520 : decode cL_law 1520 = .ok (.ifCond .ne 15, 3) := by decide +kernel
theorem dL_law_1523 : decode cL_law 1523 = .ok (.aload_n 3, 1) := by decide +kernel
theorem dL_law_1524 : decode cL_law 1524 = .ok (.iconst 0, 1) := by decide +kernel
theorem dL_law_1525 : decode cL_law 1525 = .ok (.laload, 1) := by decide +kernel
theorem dL_law_1526 : decode cL_law 1526 = .ok (.iload 6, 2) := by decide +kernel
theorem dL_law_1528 : decode cL_law 1528 = .ok (.i2l, 1) := by decide +kernel
theorem dL_law_1529 : decode cL_law 1529 = .ok (.lcmp, 1) := by decide +kernel
theorem dL_law_1530 : decode cL_law 1530 = .ok (.ifCond .eq 5, 3) := by decide +kernel
theorem dL_law_1535 : decode cL_law 1535 = .ok (.goto 1888, 3) := by decide +kernel
theorem dL_law_1538 : decode cL_law 1538 = .ok (.aload_n 1, 1) := by decide +kernel
theorem dL_law_1539 : decode cL_law 1539 = .ok (.aload_n 0, 1) := by decide +kernel
theorem dL_law_1540 : decode cL_law 1540 = .ok (.iload 4, 2) := by decide +kernel
theorem dL_law_1542 : decode cL_law 1542 = .ok (.iconst 1, 1) := by decide +kernel
theorem dL_law_1543 : decode cL_law 1543 = .ok (.iadd, 1) := by decide +kernel
theorem dL_law_1544 : decode cL_law 1544 = .ok (.iaload, 1) := by decide +kernel
theorem dL_law_1545 : decode cL_law 1545 = .ok (.aload_n 0, 1) := by decide +kernel
theorem dL_law_1546 : decode cL_law 1546 = .ok (.iload 4, 2) := by decide +kernel
theorem dL_law_1548 : decode cL_law 1548 = .ok (.iconst 2, 1) := by decide +kernel
theorem dL_law_1549 : decode cL_law 1549 = .ok (.iadd, 1) := by decide +kernel
theorem dL_law_1550 : decode cL_law 1550 = .ok (.iaload, 1) := by decide +kernel
theorem dL_law_1551 : decode cL_law 1551 = .ok (.aload_n 3, 1) := by decide +kernel
theorem dL_law_1552 : decode cL_law 1552 = .ok (.invokestatic 256, 3) := by decide +kernel
theorem dL_law_1555 : decode cL_law 1555 = .ok (.istore 5, 2) := by decide +kernel
theorem dL_law_1557 : decode cL_law 1557 = .ok (.aload_n 2, 1) := by decide +kernel
theorem dL_law_1558 : decode cL_law 1558 = .ok (.aload_n 0, 1) := by decide +kernel
theorem dL_law_1559 : decode cL_law 1559 = .ok (.iload 4, 2) := by decide +kernel
theorem dL_law_1561 : decode cL_law 1561 = .ok (.iconst 1, 1) := by decide +kernel
theorem dL_law_1562 : decode cL_law 1562 = .ok (.iadd, 1) := by decide +kernel
theorem dL_law_1563 : decode cL_law 1563 = .ok (.iaload, 1) := by decide +kernel
theorem dL_law_1564 : decode cL_law 1564 = .ok (.aload_n 0, 1) := by decide +kernel
theorem dL_law_1565 : decode cL_law 1565 = .ok (.iload 4, 2) := by decide +kernel
theorem dL_law_1567 : decode cL_law 1567 = .ok (.iconst 2, 1) := by decide +kernel
theorem dL_law_1568 : decode cL_law 1568 = .ok (.iadd, 1) := by decide +kernel
theorem dL_law_1569 : decode cL_law 1569 = .ok (.iaload, 1) := by decide +kernel
theorem dL_law_1570 : decode cL_law 1570 = .ok (.invokevirtual 258, 3) := by decide +kernel
theorem dL_law_1573 : decode cL_law 1573 = .ok (.istore 6, 2) := by decide +kernel
theorem dL_law_1575 : decode cL_law 1575 = .ok (.aload_n 2, 1) := by decide +kernel
theorem dL_law_1576 : decode cL_law 1576 = .ok (.invokevirtual 178, 3) := by decide +kernel
theorem dL_law_1579 : decode cL_law 1579 = .ok (.iload 5, 2) := by decide +kernel
theorem dL_law_1581 : decode cL_law 1581 = .ok (.if_icmp .eq 5, 3) := by decide +kernel
theorem dL_law_1586 : decode cL_law 1586 = .ok (.iload 5, 2) := by decide +kernel
theorem dL_law_1588 : decode cL_law 1588 = .ok (.ifCond .ne 15, 3) := by decide +kernel
theorem dL_law_1591 : decode cL_law 1591 = .ok (.aload_n 3, 1) := by decide +kernel
theorem dL_law_1592 : decode cL_law 1592 = .ok (.iconst 0, 1) := by decide +kernel
theorem dL_law_1593 : decode cL_law 1593 = .ok (.laload, 1) := by decide +kernel
theorem dL_law_1594 : decode cL_law 1594 = .ok (.iload 6, 2) := by decide +kernel
theorem dL_law_1596 : decode cL_law 1596 = .ok (.i2l, 1) := by decide +kernel
theorem dL_law_1597 : decode cL_law 1597 = .ok (.lcmp, 1) := by decide +kernel
theorem dL_law_1598 : decode cL_law 1598 = .ok (.ifCond .eq 5, 3) := by decide +kernel
theorem dL_law_1603 : decode cL_law 1603 = .ok (.goto 1820, 3) := by decide +kernel
theorem dL_law_1606 : decode cL_law 1606 = .ok (.aload_n 1, 1) := by decide +kernel
theorem dL_law_1607 : decode cL_law 1607 = .ok (.aload_n 0, 1) := by decide +kernel
theorem dL_law_1608 : decode cL_law 1608 = .ok (.iload 4, 2) := by decide +kernel
theorem dL_law_1610 : decode cL_law 1610 = .ok (.iconst 1, 1) := by decide +kernel
theorem dL_law_1611 : decode cL_law 1611 = .ok (.iadd, 1) := by decide +kernel
theorem dL_law_1612 : decode cL_law 1612 = .ok (.iaload, 1) := by decide +kernel
theorem dL_law_1613 : decode cL_law 1613 = .ok (.aload_n 3, 1) := by decide +kernel
theorem dL_law_1614 : decode cL_law 1614 = .ok (.invokestatic 259, 3) := by decide +kernel
theorem dL_law_1617 : decode cL_law 1617 = .ok (.istore 5, 2) := by decide +kernel
theorem dL_law_1619 : decode cL_law 1619 = .ok (.aload_n 2, 1) := by decide +kernel
theorem dL_law_1620 : decode cL_law 1620 = .ok (.aload_n 0, 1) := by decide +kernel
theorem dL_law_1621 : decode cL_law 1621 = .ok (.iload 4, 2) := by decide +kernel
theorem dL_law_1623 : decode cL_law 1623 = .ok (.iconst 1, 1) := by decide +kernel
theorem dL_law_1624 : decode cL_law 1624 = .ok (.iadd, 1) := by decide +kernel
theorem dL_law_1625 : decode cL_law 1625 = .ok (.iaload, 1) := by decide +kernel
theorem dL_law_1626 : decode cL_law 1626 = .ok (.invokevirtual 261, 3) := by decide +kernel
theorem dL_law_1629 : decode cL_law 1629 = .ok (.istore 6, 2) := by decide +kernel
theorem dL_law_1631 : decode cL_law 1631 = .ok (.aload_n 2, 1) := by decide +kernel
theorem dL_law_1632 : decode cL_law 1632 = .ok (.invokevirtual 178, 3) := by decide +kernel
theorem dL_law_1635 : decode cL_law 1635 = .ok (.iload 5, 2) := by decide +kernel
theorem dL_law_1637 : decode cL_law 1637 = .ok (.if_icmp .eq 5, 3) := by decide +kernel
theorem dL_law_1642 : decode cL_law 1642 = .ok (.iload 5, 2) := by decide +kernel
theorem dL_law_1644 : decode cL_law 1644 = .ok (.ifCond .ne 15, 3) := by decide +kernel
theorem dL_law_1647 : decode cL_law 1647 = .ok (.aload_n 3, 1) := by decide +kernel
theorem dL_law_1648 : decode cL_law 1648 = .ok (.iconst 0, 1) := by decide +kernel
theorem dL_law_1649 : decode cL_law 1649 = .ok (.laload, 1) := by decide +kernel
theorem dL_law_1650 : decode cL_law 1650 = .ok (.iload 6, 2) := by decide +kernel
theorem dL_law_1652 : decode cL_law 1652 = .ok (.i2l, 1) := by decide +kernel
theorem dL_law_1653 : decode cL_law 1653 = .ok (.lcmp, 1) := by decide +kernel
theorem dL_law_1654 : decode cL_law 1654 = .ok (.ifCond .eq 5, 3) := by decide +kernel
theorem dL_law_1659 : decode cL_law 1659 = .ok (.goto 1764, 3) := by decide +kernel
theorem dL_law_1662 : decode cL_law 1662 = .ok (.aload_n 1, 1) := by decide +kernel
theorem dL_law_1663 : decode cL_law 1663 = .ok (.aload_n 0, 1) := by decide +kernel
theorem dL_law_1664 : decode cL_law 1664 = .ok (.iload 4, 2) := by decide +kernel
theorem dL_law_1666 : decode cL_law 1666 = .ok (.iconst 1, 1) := by decide +kernel
theorem dL_law_1667 : decode cL_law 1667 = .ok (.iadd, 1) := by decide +kernel
theorem dL_law_1668 : decode cL_law 1668 = .ok (.iaload, 1) := by decide +kernel
theorem dL_law_1669 : decode cL_law 1669 = .ok (.aload_n 3, 1) := by decide +kernel
theorem dL_law_1670 : decode cL_law 1670 = .ok (.invokestatic 262, 3) := by decide +kernel
theorem dL_law_1673 : decode cL_law 1673 = .ok (.istore 5, 2) := by decide +kernel
theorem dL_law_1675 : decode cL_law 1675 = .ok (.aload_n 2, 1) := by decide +kernel
theorem dL_law_1676 : decode cL_law 1676 = .ok (.aload_n 0, 1) := by decide +kernel
theorem dL_law_1677 : decode cL_law 1677 = .ok (.iload 4, 2) := by decide +kernel
theorem dL_law_1679 : decode cL_law 1679 = .ok (.iconst 1, 1) := by decide +kernel
theorem dL_law_1680 : decode cL_law 1680 = .ok (.iadd, 1) := by decide +kernel
theorem dL_law_1681 : decode cL_law 1681 = .ok (.iaload, 1) := by decide +kernel
theorem dL_law_1682 : decode cL_law 1682 = .ok (.invokevirtual 264, 3) := by decide +kernel
theorem dL_law_1685 : decode cL_law 1685 = .ok (.istore 6, 2) := by decide +kernel
theorem dL_law_1687 : decode cL_law 1687 = .ok (.aload_n 2, 1) := by decide +kernel
theorem dL_law_1688 : decode cL_law 1688 = .ok (.invokevirtual 178, 3) := by decide +kernel
theorem dL_law_1691 : decode cL_law 1691 = .ok (.iload 5, 2) := by decide +kernel
theorem dL_law_1693 : decode cL_law 1693 = .ok (.if_icmp .eq 5, 3) := by decide +kernel
theorem dL_law_1698 : decode cL_law 1698 = .ok (.iload 5, 2) := by decide +kernel
theorem dL_law_1700 : decode cL_law 1700 = .ok (.ifCond .ne 15, 3) := by decide +kernel
theorem dL_law_1703 : decode cL_law 1703 = .ok (.aload_n 3, 1) := by decide +kernel
theorem dL_law_1704 : decode cL_law 1704 = .ok (.iconst 0, 1) := by decide +kernel
theorem dL_law_1705 : decode cL_law 1705 = .ok (.laload, 1) := by decide +kernel
theorem dL_law_1706 : decode cL_law 1706 = .ok (.iload 6, 2) := by decide +kernel
theorem dL_law_1708 : decode cL_law 1708 = .ok (.i2l, 1) := by decide +kernel
theorem dL_law_1709 : decode cL_law 1709 = .ok (.lcmp, 1) := by decide +kernel
theorem dL_law_1710 : decode cL_law 1710 = .ok (.ifCond .eq 5, 3) := by decide +kernel
theorem dL_law_1715 : decode cL_law 1715 = .ok (.goto 1708, 3) := by decide +kernel
theorem dL_law_1718 : decode cL_law 1718 = .ok (.aload_n 1, 1) := by decide +kernel
theorem dL_law_1719 : decode cL_law 1719 = .ok (.aload_n 0, 1) := by decide +kernel
theorem dL_law_1720 : decode cL_law 1720 = .ok (.iload 4, 2) := by decide +kernel
theorem dL_law_1722 : decode cL_law 1722 = .ok (.iconst 1, 1) := by decide +kernel
theorem dL_law_1723 : decode cL_law 1723 = .ok (.iadd, 1) := by decide +kernel
theorem dL_law_1724 : decode cL_law 1724 = .ok (.iaload, 1) := by decide +kernel
theorem dL_law_1725 : decode cL_law 1725 = .ok (.aload_n 3, 1) := by decide +kernel
theorem dL_law_1726 : decode cL_law 1726 = .ok (.invokestatic 265, 3) := by decide +kernel
theorem dL_law_1729 : decode cL_law 1729 = .ok (.istore 5, 2) := by decide +kernel
theorem dL_law_1731 : decode cL_law 1731 = .ok (.aload_n 2, 1) := by decide +kernel
theorem dL_law_1732 : decode cL_law 1732 = .ok (.aload_n 0, 1) := by decide +kernel
theorem dL_law_1733 : decode cL_law 1733 = .ok (.iload 4, 2) := by decide +kernel
theorem dL_law_1735 : decode cL_law 1735 = .ok (.iconst 1, 1) := by decide +kernel
theorem dL_law_1736 : decode cL_law 1736 = .ok (.iadd, 1) := by decide +kernel
theorem dL_law_1737 : decode cL_law 1737 = .ok (.iaload, 1) := by decide +kernel
theorem dL_law_1738 : decode cL_law 1738 = .ok (.invokevirtual 267, 3) := by decide +kernel
theorem dL_law_1741 : decode cL_law 1741 = .ok (.istore 6, 2) := by decide +kernel
theorem dL_law_1743 : decode cL_law 1743 = .ok (.aload_n 2, 1) := by decide +kernel
theorem dL_law_1744 : decode cL_law 1744 = .ok (.invokevirtual 178, 3) := by decide +kernel
theorem dL_law_1747 : decode cL_law 1747 = .ok (.iload 5, 2) := by decide +kernel
theorem dL_law_1749 : decode cL_law 1749 = .ok (.if_icmp .eq 5, 3) := by decide +kernel
theorem dL_law_1754 : decode cL_law 1754 = .ok (.iload 5, 2) := by decide +kernel
theorem dL_law_1756 : decode cL_law 1756 = .ok (.ifCond .ne 15, 3) := by decide +kernel
theorem dL_law_1759 : decode cL_law 1759 = .ok (.aload_n 3, 1) := by decide +kernel
theorem dL_law_1760 : decode cL_law 1760 = .ok (.iconst 0, 1) := by decide +kernel
theorem dL_law_1761 : decode cL_law 1761 = .ok (.laload, 1) := by decide +kernel
theorem dL_law_1762 : decode cL_law 1762 = .ok (.iload 6, 2) := by decide +kernel
theorem dL_law_1764 : decode cL_law 1764 = .ok (.i2l, 1) := by decide +kernel
theorem dL_law_1765 : decode cL_law 1765 = .ok (.lcmp, 1) := by decide +kernel
theorem dL_law_1766 : decode cL_law 1766 = .ok (.ifCond .eq 5, 3) := by decide +kernel
theorem dL_law_1771 : decode cL_law 1771 = .ok (.goto 1652, 3) := by decide +kernel
theorem dL_law_1774 : decode cL_law 1774 = .ok (.aload_n 1, 1) := by decide +kernel
theorem dL_law_1775 : decode cL_law 1775 = .ok (.aload_n 0, 1) := by decide +kernel
theorem dL_law_1776 : decode cL_law 1776 = .ok (.iload 4, 2) := by decide +kernel
theorem dL_law_1778 : decode cL_law 1778 = .ok (.iconst 1, 1) := by decide +kernel
theorem dL_law_1779 : decode cL_law 1779 = .ok (.iadd, 1) := by decide +kernel
theorem dL_law_1780 : decode cL_law 1780 = .ok (.iaload, 1) := by decide +kernel
theorem dL_law_1781 : decode cL_law 1781 = .ok (.aload_n 3, 1) := by decide +kernel
theorem dL_law_1782 : decode cL_law 1782 = .ok (.invokestatic 268, 3) := by decide +kernel
theorem dL_law_1785 : decode cL_law 1785 = .ok (.istore 5, 2) := by decide +kernel
theorem dL_law_1787 : decode cL_law 1787 = .ok (.aload_n 2, 1) := by decide +kernel
theorem dL_law_1788 : decode cL_law 1788 = .ok (.aload_n 0, 1) := by decide +kernel
theorem dL_law_1789 : decode cL_law 1789 = .ok (.iload 4, 2) := by decide +kernel
theorem dL_law_1791 : decode cL_law 1791 = .ok (.iconst 1, 1) := by decide +kernel
theorem dL_law_1792 : decode cL_law 1792 = .ok (.iadd, 1) := by decide +kernel
theorem dL_law_1793 : decode cL_law 1793 = .ok (.iaload, 1) := by decide +kernel
theorem dL_law_1794 : decode cL_law 1794 = .ok (.invokevirtual 270, 3) := by decide +kernel
theorem dL_law_1797 : decode cL_law 1797 = .ok (.istore 6, 2) := by decide +kernel
theorem dL_law_1799 : decode cL_law 1799 = .ok (.aload_n 2, 1) := by decide +kernel
theorem dL_law_1800 : decode cL_law 1800 = .ok (.invokevirtual 178, 3) := by decide +kernel
theorem dL_law_1803 : decode cL_law 1803 = .ok (.iload 5, 2) := by decide +kernel
theorem dL_law_1805 : decode cL_law 1805 = .ok (.if_icmp .eq 5, 3) := by decide +kernel
theorem dL_law_1810 : decode cL_law 1810 = .ok (.iload 5, 2) := by decide +kernel
theorem dL_law_1812 : decode cL_law 1812 = .ok (.ifCond .ne 22, 3) := by decide +kernel
theorem dL_law_1815 : decode cL_law 1815 = .ok (.aload_n 3, 1) := by decide +kernel
theorem dL_law_1816 : decode cL_law 1816 = .ok (.iconst 0, 1) := by decide +kernel
theorem dL_law_1817 : decode cL_law 1817 = .ok (.laload, 1) := by decide +kernel
theorem dL_law_1818 : decode cL_law 1818 = .ok (.iload 6, 2) := by decide +kernel
theorem dL_law_1820 : decode cL_law 1820 = .ok (.ifCond .eq 7, 3) := by decide +kernel
theorem dL_law_1823 : decode cL_law 1823 = .ok (.lconst 1, 1) := by decide +kernel
theorem dL_law_1824 : decode cL_law 1824 = .ok (.goto 4, 3) := by decide +kernel
theorem dL_law_1827 : decode cL_law 1827 = .ok (.lconst 0, 1) := by decide +kernel
theorem dL_law_1828 : decode cL_law 1828 = .ok (.lcmp, 1) := by decide +kernel
theorem dL_law_1829 : decode cL_law 1829 = .ok (.ifCond .eq 5, 3) := by decide +kernel
theorem dL_law_1834 : decode cL_law 1834 = .ok (.goto 1589, 3) := by decide +kernel
theorem dL_law_1837 : decode cL_law 1837 = .ok (.aload_n 1, 1) := by decide +kernel
theorem dL_law_1838 : decode cL_law 1838 = .ok (.aload_n 0, 1) := by decide +kernel
theorem dL_law_1839 : decode cL_law 1839 = .ok (.iload 4, 2) := by decide +kernel
theorem dL_law_1841 : decode cL_law 1841 = .ok (.iconst 1, 1) := by decide +kernel
theorem dL_law_1842 : decode cL_law 1842 = .ok (.iadd, 1) := by decide +kernel
theorem dL_law_1843 : decode cL_law 1843 = .ok (.iaload, 1) := by decide +kernel
theorem dL_law_1844 : decode cL_law 1844 = .ok (.aload_n 0, 1) := by decide +kernel
theorem dL_law_1845 : decode cL_law 1845 = .ok (.iload 4, 2) := by decide +kernel
theorem dL_law_1847 : decode cL_law 1847 = .ok (.iconst 2, 1) := by decide +kernel
theorem dL_law_1848 : decode cL_law 1848 = .ok (.iadd, 1) := by decide +kernel
theorem dL_law_1849 : decode cL_law 1849 = .ok (.iaload, 1) := by decide +kernel
theorem dL_law_1850 : decode cL_law 1850 = .ok (.aload_n 3, 1) := by decide +kernel
theorem dL_law_1851 : decode cL_law 1851 = .ok (.invokestatic 271, 3) := by decide +kernel
theorem dL_law_1854 : decode cL_law 1854 = .ok (.istore 5, 2) := by decide +kernel
theorem dL_law_1856 : decode cL_law 1856 = .ok (.aload_n 2, 1) := by decide +kernel
theorem dL_law_1857 : decode cL_law 1857 = .ok (.aload_n 0, 1) := by decide +kernel
theorem dL_law_1858 : decode cL_law 1858 = .ok (.iload 4, 2) := by decide +kernel
theorem dL_law_1860 : decode cL_law 1860 = .ok (.iconst 1, 1) := by decide +kernel
theorem dL_law_1861 : decode cL_law 1861 = .ok (.iadd, 1) := by decide +kernel
theorem dL_law_1862 : decode cL_law 1862 = .ok (.iaload, 1) := by decide +kernel
theorem dL_law_1863 : decode cL_law 1863 = .ok (.aload_n 0, 1) := by decide +kernel
theorem dL_law_1864 : decode cL_law 1864 = .ok (.iload 4, 2) := by decide +kernel
theorem dL_law_1866 : decode cL_law 1866 = .ok (.iconst 2, 1) := by decide +kernel
theorem dL_law_1867 : decode cL_law 1867 = .ok (.iadd, 1) := by decide +kernel
theorem dL_law_1868 : decode cL_law 1868 = .ok (.iaload, 1) := by decide +kernel
theorem dL_law_1869 : decode cL_law 1869 = .ok (.invokevirtual 273, 3) := by decide +kernel
theorem dL_law_1872 : decode cL_law 1872 = .ok (.istore 6, 2) := by decide +kernel
theorem dL_law_1874 : decode cL_law 1874 = .ok (.aload_n 2, 1) := by decide +kernel
theorem dL_law_1875 : decode cL_law 1875 = .ok (.invokevirtual 178, 3) := by decide +kernel
theorem dL_law_1878 : decode cL_law 1878 = .ok (.iload 5, 2) := by decide +kernel
theorem dL_law_1880 : decode cL_law 1880 = .ok (.if_icmp .eq 5, 3) := by decide +kernel
theorem dL_law_1885 : decode cL_law 1885 = .ok (.iload 5, 2) := by decide +kernel
theorem dL_law_1887 : decode cL_law 1887 = .ok (.ifCond .ne 15, 3) := by decide +kernel
theorem dL_law_1890 : decode cL_law 1890 = .ok (.aload_n 3, 1) := by decide +kernel
theorem dL_law_1891 : decode cL_law 1891 = .ok (.iconst 0, 1) := by decide +kernel
theorem dL_law_1892 : decode cL_law 1892 = .ok (.laload, 1) := by decide +kernel
theorem dL_law_1893 : decode cL_law 1893 = .ok (.iload 6, 2) := by decide +kernel
theorem dL_law_1895 : decode cL_law 1895 = .ok (.i2l, 1) := by decide +kernel
theorem dL_law_1896 : decode cL_law 1896 = .ok (.lcmp, 1) := by decide +kernel
theorem dL_law_1897 : decode cL_law 1897 = .ok (.ifCond .eq 5, 3) := by decide +kernel
theorem dL_law_1902 : decode cL_law 1902 = .ok (.goto 1521, 3) := by decide +kernel
set_option maxHeartbeats 4000000 in
set_option maxRecDepth 100000 in
theorem lc_16 {l : Launch} {g : GL} {p : Program} {e : Jvm.Env} {s : State} {m : MethodId} {below : List Frame} {meth : Method} {c : Code} {b Lx : Nat} {xs : Nat → Int32} {N : Nat} {Inv : SI → (Nat → Nat → Nat) → Prop} {σ : SI} {R : Nat → Nat → Nat} {L : Nat → Nat → Int64} {x4 : Int32} {cells slots : Nat} (C : Cx l g p s m meth c cL_law 7 RL) (hX : va_X b Lx xs s s.heap) (hbl : b < s.heap.size) (hbA : ¬ gA g b) (hI : Inv σ R) (hIS : InvOk Inv) (hAg : Ag_16 N Inv) (h1 : vp_in (x4 + 1) Lx) (h2 : vp_in (x4 + 2) Lx) (hcs : cells + 4 ≤ 601024 ∧ slots + 24 ≤ 7293034) (kk : ∀ (σ' : SI) (R' : Nat → Nat → Nat) (L' : Nat → Nat → Int64) (H : Heap) (locs : List Loc) (ls : Array Slot), Inv σ' R' → S2 g s σ' R' L' H locs → lv_has ls 7 [(0, .ref b), (1, .ref (gb g + 1)), (2, .ref (gb g + 178)), (3, .ref (gb g + 194)), (4, .int x4)] → W p l e room_1 s m #[Value.ref b] below meth c H locs (cells + 4) (slots + 24) (lw_Z below #[Value.ref b] s) (F0 m 3423 ls [])) : ∀ (H : Heap) (locs : List Loc) (ls : Array Slot), S2 g s σ R L H locs → lv_has ls 7 [(0, .ref b), (1, .ref (gb g + 1)), (2, .ref (gb g + 178)), (3, .ref (gb g + 194)), (4, .int x4)] → W p l e room_1 s m #[Value.ref b] below meth c H locs (cells) (slots) (lw_Z below #[Value.ref b] s) (F0 m 936 ls []) := by
  intro H locs ls S hl
  obtain ⟨hc1, hc2⟩ := hcs
  have hx := C.1
  have hb := C.2.1
  have hSh := hIS σ R hI
  obtain ⟨res, σ1, b2, σ2, hm, hmod, hI2, hret, hthr⟩ := hAg σ R (xs (x4 + 1).toNatClampNeg) (xs (x4 + 2).toNatClampNeg) hI
  cases res with
  | inl v =>
    obtain ⟨ht, rfl⟩ := hret v rfl
    refine lv_aload_n hx hb dL_law_936 rfl (lv_at hl 1 rfl) ?_
    refine lv_aload_n hx hb dL_law_937 rfl (lv_at hl 0 rfl) ?_
    refine lv_iload hx hb dL_law_938 (lv_at hl 4 rfl) ?_
    refine lv_iconst (v := (1 : Int32)) hx hb dL_law_940 (by decide) ?_
    refine lv_iadd hx hb dL_law_941 ?_
    refine va_sld hx hb hX hbl hbA S.2 h1 dL_law_942 ?_
    refine lv_aload_n hx hb dL_law_943 rfl (lv_at hl 0 rfl) ?_
    refine lv_iload hx hb dL_law_944 (lv_at hl 4 rfl) ?_
    refine lv_iconst (v := (2 : Int32)) hx hb dL_law_946 (by decide) ?_
    refine lv_iadd hx hb dL_law_947 ?_
    refine va_sld hx hb hX hbl hbA S.2 h2 dL_law_948 ?_
    refine lv_aload_n hx hb dL_law_949 rfl (lv_at hl 3 rfl) ?_
    refine v_callW C S (h_vibration_ret (L := L) hm hSh ok_1 ok_194) ⟨cd_L_vibration, ni_RL, ml_RL_228, st_L_vibration⟩ ⟨by decide, by decide⟩ rfl ⟨by decide, by decide⟩ hl.1 rfl (Nat.le_of_ble_eq_true rfl) ⟨by show _ ≤ 601024; omega, by show _ ≤ 7293034; omega⟩ dL_law_950 (fun w σ' H locs hp S => ?_)
    obtain ⟨rfl, rfl⟩ := hp
    have S : S2 g s σ1 R (fun a j => if a = 194 ∧ j = 0 then v.toInt64 else L a j) H locs := S
    obtain ⟨L1, hL1, hLv⟩ : ∃ L1 : Nat → Nat → Int64, (fun a j => if a = 194 ∧ j = 0 then v.toInt64 else L a j) = L1 ∧ L1 194 0 = v.toInt64 := ⟨_, rfl, if_pos ⟨rfl, rfl⟩⟩
    rw [hL1] at S
    refine lv_istore (lv' := [(5, .int 0), (0, .ref b), (1, .ref (gb g + 1)), (2, .ref (gb g + 178)), (3, .ref (gb g + 194)), (4, .int x4)]) hx hb dL_law_953 hl (by decide) rfl (fun ls hl => ?_)
    refine lv_aload_n hx hb dL_law_955 rfl (lv_at hl 3 rfl) ?_
    refine lv_aload_n hx hb dL_law_956 rfl (lv_at hl 1 rfl) ?_
    refine lv_iload hx hb dL_law_957 (lv_at hl 5 rfl) ?_
    refine lv_iconst (v := (1 : Int32)) hx hb dL_law_959 (by decide) ?_
    refine lv_iadd hx hb dL_law_960 ?_
    refine va_sld hx hb hX hbl hbA S.2 h1 dL_law_961 ?_
    refine lv_aload_n hx hb dL_law_962 rfl (lv_at hl 1 rfl) ?_
    refine lv_iload hx hb dL_law_963 (lv_at hl 5 rfl) ?_
    refine lv_iconst (v := (2 : Int32)) hx hb dL_law_965 (by decide) ?_
    refine lv_iadd hx hb dL_law_966 ?_
    refine va_sld hx hb hX hbl hbA S.2 h2 dL_law_967 ?_
    refine x_callVI C S KX12 ok_178 (ok_X12_vibration (L := L1) hmod hSh ok_178) ⟨cd_X12_vibration, ni_RX12, ml_RL_230, in_X12_vibration, sl_X12_vibration⟩ ⟨by decide, by decide⟩ rfl ⟨by decide, by decide⟩ hl.1 rfl (Nat.le_of_ble_eq_true rfl) ⟨by show _ ≤ 601024; omega, by show _ ≤ 7293034; omega⟩ dL_law_968 (fun H locs S => ?_)
    refine lv_istore (lv' := [(6, .int v), (5, .int 0), (0, .ref b), (1, .ref (gb g + 1)), (2, .ref (gb g + 178)), (3, .ref (gb g + 194)), (4, .int x4)]) hx hb dL_law_971 hl (by decide) rfl (fun ls hl => ?_)
    refine lv_aload_n hx hb dL_law_973 rfl (lv_at hl 4 rfl) ?_
    refine x_callVI C S KX12 ok_178 (ok_X12_thrown (L := L1) (thr_eq N R σ2 178) hSh ok_178) ⟨cd_X12_thrown, ni_RX12, ml_RL_178, in_X12_thrown, sl_X12_thrown⟩ ⟨by decide, by decide⟩ rfl ⟨by decide, by decide⟩ hl.1 rfl (Nat.le_of_ble_eq_true rfl) ⟨by show _ ≤ 601024; omega, by show _ ≤ 7293034; omega⟩ dL_law_974 (fun H locs S => ?_)
    refine lv_iload hx hb dL_law_977 (lv_at hl 1 rfl) ?_
    refine lv_icmp_eq (tgt := 984) hx hb dL_law_979 (by decide) (fun c1 => ?_) (fun c1 => absurd ht c1)
    refine lv_iload hx hb dL_law_984 (lv_at hl 1 rfl) ?_
    refine lv_if_ne (tgt := 1001) hx hb dL_law_986 (by decide) (fun c2 => absurd rfl c2) (fun c2 => ?_)
    refine lv_aload_n hx hb dL_law_989 rfl (lv_at hl 5 rfl) ?_
    refine lv_iconst (v := (0 : Int32)) hx hb dL_law_990 (by decide) ?_
    refine x_lald C S ok_194 dL_law_991 ?_
    refine lv_iload hx hb dL_law_992 (lv_at hl 0 rfl) ?_
    refine lv_i2l hx hb dL_law_994 rfl ?_
    refine W.lcmp hx hb dL_law_995 ?_
    refine lv_if_eq (tgt := 1001) hx hb dL_law_996 (by decide) (fun c4 => ?_) (fun c4 => absurd (by show lg_cmp (L1 194 0) _ = 0; rw [hLv]; exact lgc_self _) c4)
    refine lv_goto (tgt := 3423) hx hb dL_law_1001 (by decide) ?_
    exact W.widen (k := cells + 4) (n := slots + 24) (by omega) (by omega) (kk σ2 R L1 H locs ls hI2 S (lv_sub hl [2, 3, 4, 5, 6] rfl))
  | inr q =>
    obtain ⟨rfl, ht⟩ := hthr q rfl
    refine lv_aload_n hx hb dL_law_936 rfl (lv_at hl 1 rfl) ?_
    refine lv_aload_n hx hb dL_law_937 rfl (lv_at hl 0 rfl) ?_
    refine lv_iload hx hb dL_law_938 (lv_at hl 4 rfl) ?_
    refine lv_iconst (v := (1 : Int32)) hx hb dL_law_940 (by decide) ?_
    refine lv_iadd hx hb dL_law_941 ?_
    refine va_sld hx hb hX hbl hbA S.2 h1 dL_law_942 ?_
    refine lv_aload_n hx hb dL_law_943 rfl (lv_at hl 0 rfl) ?_
    refine lv_iload hx hb dL_law_944 (lv_at hl 4 rfl) ?_
    refine lv_iconst (v := (2 : Int32)) hx hb dL_law_946 (by decide) ?_
    refine lv_iadd hx hb dL_law_947 ?_
    refine va_sld hx hb hX hbl hbA S.2 h2 dL_law_948 ?_
    refine lv_aload_n hx hb dL_law_949 rfl (lv_at hl 3 rfl) ?_
    refine v_callW C S (h_vibration_x0 (L := L) hm hSh ok_1 ok_194) ⟨cd_L_vibration, ni_RL, ml_RL_228, st_L_vibration⟩ ⟨by decide, by decide⟩ rfl ⟨by decide, by decide⟩ hl.1 rfl (Nat.le_of_ble_eq_true rfl) ⟨by show _ ≤ 601024; omega, by show _ ≤ 7293034; omega⟩ dL_law_950 (fun w σ' H locs hp S => ?_)
    obtain ⟨rfl, rfl⟩ := hp
    have S : S2 g s σ1 R L H locs := S
    refine lv_istore (lv' := [(5, .int 1), (0, .ref b), (1, .ref (gb g + 1)), (2, .ref (gb g + 178)), (3, .ref (gb g + 194)), (4, .int x4)]) hx hb dL_law_953 hl (by decide) rfl (fun ls hl => ?_)
    refine lv_aload_n hx hb dL_law_955 rfl (lv_at hl 3 rfl) ?_
    refine lv_aload_n hx hb dL_law_956 rfl (lv_at hl 1 rfl) ?_
    refine lv_iload hx hb dL_law_957 (lv_at hl 5 rfl) ?_
    refine lv_iconst (v := (1 : Int32)) hx hb dL_law_959 (by decide) ?_
    refine lv_iadd hx hb dL_law_960 ?_
    refine va_sld hx hb hX hbl hbA S.2 h1 dL_law_961 ?_
    refine lv_aload_n hx hb dL_law_962 rfl (lv_at hl 1 rfl) ?_
    refine lv_iload hx hb dL_law_963 (lv_at hl 5 rfl) ?_
    refine lv_iconst (v := (2 : Int32)) hx hb dL_law_965 (by decide) ?_
    refine lv_iadd hx hb dL_law_966 ?_
    refine va_sld hx hb hX hbl hbA S.2 h2 dL_law_967 ?_
    refine x_callVI C S KX12 ok_178 (ok_X12_vibration (L := L) hmod hSh ok_178) ⟨cd_X12_vibration, ni_RX12, ml_RL_230, in_X12_vibration, sl_X12_vibration⟩ ⟨by decide, by decide⟩ rfl ⟨by decide, by decide⟩ hl.1 rfl (Nat.le_of_ble_eq_true rfl) ⟨by show _ ≤ 601024; omega, by show _ ≤ 7293034; omega⟩ dL_law_968 (fun H locs S => ?_)
    refine lv_istore (lv' := [(6, .int b2), (5, .int 1), (0, .ref b), (1, .ref (gb g + 1)), (2, .ref (gb g + 178)), (3, .ref (gb g + 194)), (4, .int x4)]) hx hb dL_law_971 hl (by decide) rfl (fun ls hl => ?_)
    refine lv_aload_n hx hb dL_law_973 rfl (lv_at hl 4 rfl) ?_
    refine x_callVI C S KX12 ok_178 (ok_X12_thrown (L := L) (thr_eq N R σ2 178) hSh ok_178) ⟨cd_X12_thrown, ni_RX12, ml_RL_178, in_X12_thrown, sl_X12_thrown⟩ ⟨by decide, by decide⟩ rfl ⟨by decide, by decide⟩ hl.1 rfl (Nat.le_of_ble_eq_true rfl) ⟨by show _ ≤ 601024; omega, by show _ ≤ 7293034; omega⟩ dL_law_974 (fun H locs S => ?_)
    refine lv_iload hx hb dL_law_977 (lv_at hl 1 rfl) ?_
    refine lv_icmp_eq (tgt := 984) hx hb dL_law_979 (by decide) (fun c1 => ?_) (fun c1 => absurd ht c1)
    refine lv_iload hx hb dL_law_984 (lv_at hl 1 rfl) ?_
    refine lv_if_ne (tgt := 1001) hx hb dL_law_986 (by decide) (fun c2 => ?_) (fun c2 => absurd c2 (by decide))
    refine lv_goto (tgt := 3423) hx hb dL_law_1001 (by decide) ?_
    exact W.widen (k := cells + 4) (n := slots + 24) (by omega) (by omega) (kk σ2 R L H locs ls hI2 S (lv_sub hl [2, 3, 4, 5, 6] rfl))
set_option maxHeartbeats 4000000 in
set_option maxRecDepth 100000 in
theorem lc_17 {l : Launch} {g : GL} {p : Program} {e : Jvm.Env} {s : State} {m : MethodId} {below : List Frame} {meth : Method} {c : Code} {b Lx : Nat} {xs : Nat → Int32} {N : Nat} {Inv : SI → (Nat → Nat → Nat) → Prop} {σ : SI} {R : Nat → Nat → Nat} {L : Nat → Nat → Int64} {x4 : Int32} {cells slots : Nat} (C : Cx l g p s m meth c cL_law 7 RL) (hX : va_X b Lx xs s s.heap) (hbl : b < s.heap.size) (hbA : ¬ gA g b) (hI : Inv σ R) (hIS : InvOk Inv) (hAg : Ag_17 N Inv) (h1 : vp_in (x4 + 1) Lx) (hcs : cells + 4 ≤ 601024 ∧ slots + 24 ≤ 7293034) (kk : ∀ (σ' : SI) (R' : Nat → Nat → Nat) (L' : Nat → Nat → Int64) (H : Heap) (locs : List Loc) (ls : Array Slot), Inv σ' R' → S2 g s σ' R' L' H locs → lv_has ls 7 [(0, .ref b), (1, .ref (gb g + 1)), (2, .ref (gb g + 178)), (3, .ref (gb g + 194)), (4, .int x4)] → W p l e room_1 s m #[Value.ref b] below meth c H locs (cells + 4) (slots + 24) (lw_Z below #[Value.ref b] s) (F0 m 3423 ls [])) : ∀ (H : Heap) (locs : List Loc) (ls : Array Slot), S2 g s σ R L H locs → lv_has ls 7 [(0, .ref b), (1, .ref (gb g + 1)), (2, .ref (gb g + 178)), (3, .ref (gb g + 194)), (4, .int x4)] → W p l e room_1 s m #[Value.ref b] below meth c H locs (cells) (slots) (lw_Z below #[Value.ref b] s) (F0 m 1004 ls []) := by
  intro H locs ls S hl
  obtain ⟨hc1, hc2⟩ := hcs
  have hx := C.1
  have hb := C.2.1
  have hSh := hIS σ R hI
  obtain ⟨res, σ1, b2, σ2, hm, hmod, hI2, hret, hthr⟩ := hAg σ R (xs (x4 + 1).toNatClampNeg) hI
  cases res with
  | inl v =>
    obtain ⟨ht, rfl⟩ := hret v rfl
    refine lv_aload_n hx hb dL_law_1004 rfl (lv_at hl 1 rfl) ?_
    refine lv_aload_n hx hb dL_law_1005 rfl (lv_at hl 0 rfl) ?_
    refine lv_iload hx hb dL_law_1006 (lv_at hl 4 rfl) ?_
    refine lv_iconst (v := (1 : Int32)) hx hb dL_law_1008 (by decide) ?_
    refine lv_iadd hx hb dL_law_1009 ?_
    refine va_sld hx hb hX hbl hbA S.2 h1 dL_law_1010 ?_
    refine lv_aload_n hx hb dL_law_1011 rfl (lv_at hl 3 rfl) ?_
    refine v_callW C S (h_mostShaken_ret (L := L) hm hSh ok_1 ok_194) ⟨cd_L_mostShaken, ni_RL, ml_RL_231, st_L_mostShaken⟩ ⟨by decide, by decide⟩ rfl ⟨by decide, by decide⟩ hl.1 rfl (Nat.le_of_ble_eq_true rfl) ⟨by show _ ≤ 601024; omega, by show _ ≤ 7293034; omega⟩ dL_law_1012 (fun w σ' H locs hp S => ?_)
    obtain ⟨rfl, rfl⟩ := hp
    have S : S2 g s σ1 R (fun a j => if a = 194 ∧ j = 0 then v.toInt64 else L a j) H locs := S
    obtain ⟨L1, hL1, hLv⟩ : ∃ L1 : Nat → Nat → Int64, (fun a j => if a = 194 ∧ j = 0 then v.toInt64 else L a j) = L1 ∧ L1 194 0 = v.toInt64 := ⟨_, rfl, if_pos ⟨rfl, rfl⟩⟩
    rw [hL1] at S
    refine lv_istore (lv' := [(5, .int 0), (0, .ref b), (1, .ref (gb g + 1)), (2, .ref (gb g + 178)), (3, .ref (gb g + 194)), (4, .int x4)]) hx hb dL_law_1015 hl (by decide) rfl (fun ls hl => ?_)
    refine lv_aload_n hx hb dL_law_1017 rfl (lv_at hl 3 rfl) ?_
    refine lv_aload_n hx hb dL_law_1018 rfl (lv_at hl 1 rfl) ?_
    refine lv_iload hx hb dL_law_1019 (lv_at hl 5 rfl) ?_
    refine lv_iconst (v := (1 : Int32)) hx hb dL_law_1021 (by decide) ?_
    refine lv_iadd hx hb dL_law_1022 ?_
    refine va_sld hx hb hX hbl hbA S.2 h1 dL_law_1023 ?_
    refine x_callVI C S KX12 ok_178 (ok_X12_mostShaken (L := L1) hmod hSh ok_178) ⟨cd_X12_mostShaken, ni_RX12, ml_RL_233, in_X12_mostShaken, sl_X12_mostShaken⟩ ⟨by decide, by decide⟩ rfl ⟨by decide, by decide⟩ hl.1 rfl (Nat.le_of_ble_eq_true rfl) ⟨by show _ ≤ 601024; omega, by show _ ≤ 7293034; omega⟩ dL_law_1024 (fun H locs S => ?_)
    refine lv_istore (lv' := [(6, .int v), (5, .int 0), (0, .ref b), (1, .ref (gb g + 1)), (2, .ref (gb g + 178)), (3, .ref (gb g + 194)), (4, .int x4)]) hx hb dL_law_1027 hl (by decide) rfl (fun ls hl => ?_)
    refine lv_aload_n hx hb dL_law_1029 rfl (lv_at hl 4 rfl) ?_
    refine x_callVI C S KX12 ok_178 (ok_X12_thrown (L := L1) (thr_eq N R σ2 178) hSh ok_178) ⟨cd_X12_thrown, ni_RX12, ml_RL_178, in_X12_thrown, sl_X12_thrown⟩ ⟨by decide, by decide⟩ rfl ⟨by decide, by decide⟩ hl.1 rfl (Nat.le_of_ble_eq_true rfl) ⟨by show _ ≤ 601024; omega, by show _ ≤ 7293034; omega⟩ dL_law_1030 (fun H locs S => ?_)
    refine lv_iload hx hb dL_law_1033 (lv_at hl 1 rfl) ?_
    refine lv_icmp_eq (tgt := 1040) hx hb dL_law_1035 (by decide) (fun c1 => ?_) (fun c1 => absurd ht c1)
    refine lv_iload hx hb dL_law_1040 (lv_at hl 1 rfl) ?_
    refine lv_if_ne (tgt := 1057) hx hb dL_law_1042 (by decide) (fun c2 => absurd rfl c2) (fun c2 => ?_)
    refine lv_aload_n hx hb dL_law_1045 rfl (lv_at hl 5 rfl) ?_
    refine lv_iconst (v := (0 : Int32)) hx hb dL_law_1046 (by decide) ?_
    refine x_lald C S ok_194 dL_law_1047 ?_
    refine lv_iload hx hb dL_law_1048 (lv_at hl 0 rfl) ?_
    refine lv_i2l hx hb dL_law_1050 rfl ?_
    refine W.lcmp hx hb dL_law_1051 ?_
    refine lv_if_eq (tgt := 1057) hx hb dL_law_1052 (by decide) (fun c4 => ?_) (fun c4 => absurd (by show lg_cmp (L1 194 0) _ = 0; rw [hLv]; exact lgc_self _) c4)
    refine lv_goto (tgt := 3423) hx hb dL_law_1057 (by decide) ?_
    exact W.widen (k := cells + 4) (n := slots + 24) (by omega) (by omega) (kk σ2 R L1 H locs ls hI2 S (lv_sub hl [2, 3, 4, 5, 6] rfl))
  | inr q =>
    obtain ⟨rfl, ht⟩ := hthr q rfl
    refine lv_aload_n hx hb dL_law_1004 rfl (lv_at hl 1 rfl) ?_
    refine lv_aload_n hx hb dL_law_1005 rfl (lv_at hl 0 rfl) ?_
    refine lv_iload hx hb dL_law_1006 (lv_at hl 4 rfl) ?_
    refine lv_iconst (v := (1 : Int32)) hx hb dL_law_1008 (by decide) ?_
    refine lv_iadd hx hb dL_law_1009 ?_
    refine va_sld hx hb hX hbl hbA S.2 h1 dL_law_1010 ?_
    refine lv_aload_n hx hb dL_law_1011 rfl (lv_at hl 3 rfl) ?_
    refine v_callW C S (h_mostShaken_x0 (L := L) hm hSh ok_1 ok_194) ⟨cd_L_mostShaken, ni_RL, ml_RL_231, st_L_mostShaken⟩ ⟨by decide, by decide⟩ rfl ⟨by decide, by decide⟩ hl.1 rfl (Nat.le_of_ble_eq_true rfl) ⟨by show _ ≤ 601024; omega, by show _ ≤ 7293034; omega⟩ dL_law_1012 (fun w σ' H locs hp S => ?_)
    obtain ⟨rfl, rfl⟩ := hp
    have S : S2 g s σ1 R L H locs := S
    refine lv_istore (lv' := [(5, .int 1), (0, .ref b), (1, .ref (gb g + 1)), (2, .ref (gb g + 178)), (3, .ref (gb g + 194)), (4, .int x4)]) hx hb dL_law_1015 hl (by decide) rfl (fun ls hl => ?_)
    refine lv_aload_n hx hb dL_law_1017 rfl (lv_at hl 3 rfl) ?_
    refine lv_aload_n hx hb dL_law_1018 rfl (lv_at hl 1 rfl) ?_
    refine lv_iload hx hb dL_law_1019 (lv_at hl 5 rfl) ?_
    refine lv_iconst (v := (1 : Int32)) hx hb dL_law_1021 (by decide) ?_
    refine lv_iadd hx hb dL_law_1022 ?_
    refine va_sld hx hb hX hbl hbA S.2 h1 dL_law_1023 ?_
    refine x_callVI C S KX12 ok_178 (ok_X12_mostShaken (L := L) hmod hSh ok_178) ⟨cd_X12_mostShaken, ni_RX12, ml_RL_233, in_X12_mostShaken, sl_X12_mostShaken⟩ ⟨by decide, by decide⟩ rfl ⟨by decide, by decide⟩ hl.1 rfl (Nat.le_of_ble_eq_true rfl) ⟨by show _ ≤ 601024; omega, by show _ ≤ 7293034; omega⟩ dL_law_1024 (fun H locs S => ?_)
    refine lv_istore (lv' := [(6, .int b2), (5, .int 1), (0, .ref b), (1, .ref (gb g + 1)), (2, .ref (gb g + 178)), (3, .ref (gb g + 194)), (4, .int x4)]) hx hb dL_law_1027 hl (by decide) rfl (fun ls hl => ?_)
    refine lv_aload_n hx hb dL_law_1029 rfl (lv_at hl 4 rfl) ?_
    refine x_callVI C S KX12 ok_178 (ok_X12_thrown (L := L) (thr_eq N R σ2 178) hSh ok_178) ⟨cd_X12_thrown, ni_RX12, ml_RL_178, in_X12_thrown, sl_X12_thrown⟩ ⟨by decide, by decide⟩ rfl ⟨by decide, by decide⟩ hl.1 rfl (Nat.le_of_ble_eq_true rfl) ⟨by show _ ≤ 601024; omega, by show _ ≤ 7293034; omega⟩ dL_law_1030 (fun H locs S => ?_)
    refine lv_iload hx hb dL_law_1033 (lv_at hl 1 rfl) ?_
    refine lv_icmp_eq (tgt := 1040) hx hb dL_law_1035 (by decide) (fun c1 => ?_) (fun c1 => absurd ht c1)
    refine lv_iload hx hb dL_law_1040 (lv_at hl 1 rfl) ?_
    refine lv_if_ne (tgt := 1057) hx hb dL_law_1042 (by decide) (fun c2 => ?_) (fun c2 => absurd c2 (by decide))
    refine lv_goto (tgt := 3423) hx hb dL_law_1057 (by decide) ?_
    exact W.widen (k := cells + 4) (n := slots + 24) (by omega) (by omega) (kk σ2 R L H locs ls hI2 S (lv_sub hl [2, 3, 4, 5, 6] rfl))
set_option maxHeartbeats 4000000 in
set_option maxRecDepth 100000 in
theorem lc_18 {l : Launch} {g : GL} {p : Program} {e : Jvm.Env} {s : State} {m : MethodId} {below : List Frame} {meth : Method} {c : Code} {b Lx : Nat} {xs : Nat → Int32} {N : Nat} {Inv : SI → (Nat → Nat → Nat) → Prop} {σ : SI} {R : Nat → Nat → Nat} {L : Nat → Nat → Int64} {x4 : Int32} {cells slots : Nat} (C : Cx l g p s m meth c cL_law 7 RL) (hX : va_X b Lx xs s s.heap) (hbl : b < s.heap.size) (hbA : ¬ gA g b) (hI : Inv σ R) (hIS : InvOk Inv) (hAg : Ag_18 N Inv) (h1 : vp_in (x4 + 1) Lx) (hcs : cells + 4 ≤ 601024 ∧ slots + 24 ≤ 7293034) (kk : ∀ (σ' : SI) (R' : Nat → Nat → Nat) (L' : Nat → Nat → Int64) (H : Heap) (locs : List Loc) (ls : Array Slot), Inv σ' R' → S2 g s σ' R' L' H locs → lv_has ls 7 [(0, .ref b), (1, .ref (gb g + 1)), (2, .ref (gb g + 178)), (3, .ref (gb g + 194)), (4, .int x4)] → W p l e room_1 s m #[Value.ref b] below meth c H locs (cells + 4) (slots + 24) (lw_Z below #[Value.ref b] s) (F0 m 3423 ls [])) : ∀ (H : Heap) (locs : List Loc) (ls : Array Slot), S2 g s σ R L H locs → lv_has ls 7 [(0, .ref b), (1, .ref (gb g + 1)), (2, .ref (gb g + 178)), (3, .ref (gb g + 194)), (4, .int x4)] → W p l e room_1 s m #[Value.ref b] below meth c H locs (cells) (slots) (lw_Z below #[Value.ref b] s) (F0 m 1060 ls []) := by
  intro H locs ls S hl
  obtain ⟨hc1, hc2⟩ := hcs
  have hx := C.1
  have hb := C.2.1
  have hSh := hIS σ R hI
  obtain ⟨res, σ1, b2, σ2, hm, hmod, hI2, hret, hthr⟩ := hAg σ R (xs (x4 + 1).toNatClampNeg) hI
  cases res with
  | inl v =>
    obtain ⟨ht, rfl⟩ := hret v rfl
    refine lv_aload_n hx hb dL_law_1060 rfl (lv_at hl 1 rfl) ?_
    refine lv_aload_n hx hb dL_law_1061 rfl (lv_at hl 0 rfl) ?_
    refine lv_iload hx hb dL_law_1062 (lv_at hl 4 rfl) ?_
    refine lv_iconst (v := (1 : Int32)) hx hb dL_law_1064 (by decide) ?_
    refine lv_iadd hx hb dL_law_1065 ?_
    refine va_sld hx hb hX hbl hbA S.2 h1 dL_law_1066 ?_
    refine lv_aload_n hx hb dL_law_1067 rfl (lv_at hl 3 rfl) ?_
    refine v_callW C S (h_tooStrongAt_ret (L := L) hm hSh ok_1 ok_194) ⟨cd_L_tooStrongAt, ni_RL, ml_RL_234, st_L_tooStrongAt⟩ ⟨by decide, by decide⟩ rfl ⟨by decide, by decide⟩ hl.1 rfl (Nat.le_of_ble_eq_true rfl) ⟨by show _ ≤ 601024; omega, by show _ ≤ 7293034; omega⟩ dL_law_1068 (fun w σ' H locs hp S => ?_)
    obtain ⟨rfl, rfl⟩ := hp
    have S : S2 g s σ1 R (fun a j => if a = 194 ∧ j = 0 then v.toInt64 else L a j) H locs := S
    obtain ⟨L1, hL1, hLv⟩ : ∃ L1 : Nat → Nat → Int64, (fun a j => if a = 194 ∧ j = 0 then v.toInt64 else L a j) = L1 ∧ L1 194 0 = v.toInt64 := ⟨_, rfl, if_pos ⟨rfl, rfl⟩⟩
    rw [hL1] at S
    refine lv_istore (lv' := [(5, .int 0), (0, .ref b), (1, .ref (gb g + 1)), (2, .ref (gb g + 178)), (3, .ref (gb g + 194)), (4, .int x4)]) hx hb dL_law_1071 hl (by decide) rfl (fun ls hl => ?_)
    refine lv_aload_n hx hb dL_law_1073 rfl (lv_at hl 3 rfl) ?_
    refine lv_aload_n hx hb dL_law_1074 rfl (lv_at hl 1 rfl) ?_
    refine lv_iload hx hb dL_law_1075 (lv_at hl 5 rfl) ?_
    refine lv_iconst (v := (1 : Int32)) hx hb dL_law_1077 (by decide) ?_
    refine lv_iadd hx hb dL_law_1078 ?_
    refine va_sld hx hb hX hbl hbA S.2 h1 dL_law_1079 ?_
    refine x_callVI C S KX12 ok_178 (ok_X12_tooStrongAt (L := L1) hmod hSh ok_178) ⟨cd_X12_tooStrongAt, ni_RX12, ml_RL_236, in_X12_tooStrongAt, sl_X12_tooStrongAt⟩ ⟨by decide, by decide⟩ rfl ⟨by decide, by decide⟩ hl.1 rfl (Nat.le_of_ble_eq_true rfl) ⟨by show _ ≤ 601024; omega, by show _ ≤ 7293034; omega⟩ dL_law_1080 (fun H locs S => ?_)
    refine lv_istore (lv' := [(6, .int v), (5, .int 0), (0, .ref b), (1, .ref (gb g + 1)), (2, .ref (gb g + 178)), (3, .ref (gb g + 194)), (4, .int x4)]) hx hb dL_law_1083 hl (by decide) rfl (fun ls hl => ?_)
    refine lv_aload_n hx hb dL_law_1085 rfl (lv_at hl 4 rfl) ?_
    refine x_callVI C S KX12 ok_178 (ok_X12_thrown (L := L1) (thr_eq N R σ2 178) hSh ok_178) ⟨cd_X12_thrown, ni_RX12, ml_RL_178, in_X12_thrown, sl_X12_thrown⟩ ⟨by decide, by decide⟩ rfl ⟨by decide, by decide⟩ hl.1 rfl (Nat.le_of_ble_eq_true rfl) ⟨by show _ ≤ 601024; omega, by show _ ≤ 7293034; omega⟩ dL_law_1086 (fun H locs S => ?_)
    refine lv_iload hx hb dL_law_1089 (lv_at hl 1 rfl) ?_
    refine lv_icmp_eq (tgt := 1096) hx hb dL_law_1091 (by decide) (fun c1 => ?_) (fun c1 => absurd ht c1)
    refine lv_iload hx hb dL_law_1096 (lv_at hl 1 rfl) ?_
    refine lv_if_ne (tgt := 1113) hx hb dL_law_1098 (by decide) (fun c2 => absurd rfl c2) (fun c2 => ?_)
    refine lv_aload_n hx hb dL_law_1101 rfl (lv_at hl 5 rfl) ?_
    refine lv_iconst (v := (0 : Int32)) hx hb dL_law_1102 (by decide) ?_
    refine x_lald C S ok_194 dL_law_1103 ?_
    refine lv_iload hx hb dL_law_1104 (lv_at hl 0 rfl) ?_
    refine lv_i2l hx hb dL_law_1106 rfl ?_
    refine W.lcmp hx hb dL_law_1107 ?_
    refine lv_if_eq (tgt := 1113) hx hb dL_law_1108 (by decide) (fun c4 => ?_) (fun c4 => absurd (by show lg_cmp (L1 194 0) _ = 0; rw [hLv]; exact lgc_self _) c4)
    refine lv_goto (tgt := 3423) hx hb dL_law_1113 (by decide) ?_
    exact W.widen (k := cells + 4) (n := slots + 24) (by omega) (by omega) (kk σ2 R L1 H locs ls hI2 S (lv_sub hl [2, 3, 4, 5, 6] rfl))
  | inr q =>
    obtain ⟨rfl, ht⟩ := hthr q rfl
    refine lv_aload_n hx hb dL_law_1060 rfl (lv_at hl 1 rfl) ?_
    refine lv_aload_n hx hb dL_law_1061 rfl (lv_at hl 0 rfl) ?_
    refine lv_iload hx hb dL_law_1062 (lv_at hl 4 rfl) ?_
    refine lv_iconst (v := (1 : Int32)) hx hb dL_law_1064 (by decide) ?_
    refine lv_iadd hx hb dL_law_1065 ?_
    refine va_sld hx hb hX hbl hbA S.2 h1 dL_law_1066 ?_
    refine lv_aload_n hx hb dL_law_1067 rfl (lv_at hl 3 rfl) ?_
    refine v_callW C S (h_tooStrongAt_x0 (L := L) hm hSh ok_1 ok_194) ⟨cd_L_tooStrongAt, ni_RL, ml_RL_234, st_L_tooStrongAt⟩ ⟨by decide, by decide⟩ rfl ⟨by decide, by decide⟩ hl.1 rfl (Nat.le_of_ble_eq_true rfl) ⟨by show _ ≤ 601024; omega, by show _ ≤ 7293034; omega⟩ dL_law_1068 (fun w σ' H locs hp S => ?_)
    obtain ⟨rfl, rfl⟩ := hp
    have S : S2 g s σ1 R L H locs := S
    refine lv_istore (lv' := [(5, .int 1), (0, .ref b), (1, .ref (gb g + 1)), (2, .ref (gb g + 178)), (3, .ref (gb g + 194)), (4, .int x4)]) hx hb dL_law_1071 hl (by decide) rfl (fun ls hl => ?_)
    refine lv_aload_n hx hb dL_law_1073 rfl (lv_at hl 3 rfl) ?_
    refine lv_aload_n hx hb dL_law_1074 rfl (lv_at hl 1 rfl) ?_
    refine lv_iload hx hb dL_law_1075 (lv_at hl 5 rfl) ?_
    refine lv_iconst (v := (1 : Int32)) hx hb dL_law_1077 (by decide) ?_
    refine lv_iadd hx hb dL_law_1078 ?_
    refine va_sld hx hb hX hbl hbA S.2 h1 dL_law_1079 ?_
    refine x_callVI C S KX12 ok_178 (ok_X12_tooStrongAt (L := L) hmod hSh ok_178) ⟨cd_X12_tooStrongAt, ni_RX12, ml_RL_236, in_X12_tooStrongAt, sl_X12_tooStrongAt⟩ ⟨by decide, by decide⟩ rfl ⟨by decide, by decide⟩ hl.1 rfl (Nat.le_of_ble_eq_true rfl) ⟨by show _ ≤ 601024; omega, by show _ ≤ 7293034; omega⟩ dL_law_1080 (fun H locs S => ?_)
    refine lv_istore (lv' := [(6, .int b2), (5, .int 1), (0, .ref b), (1, .ref (gb g + 1)), (2, .ref (gb g + 178)), (3, .ref (gb g + 194)), (4, .int x4)]) hx hb dL_law_1083 hl (by decide) rfl (fun ls hl => ?_)
    refine lv_aload_n hx hb dL_law_1085 rfl (lv_at hl 4 rfl) ?_
    refine x_callVI C S KX12 ok_178 (ok_X12_thrown (L := L) (thr_eq N R σ2 178) hSh ok_178) ⟨cd_X12_thrown, ni_RX12, ml_RL_178, in_X12_thrown, sl_X12_thrown⟩ ⟨by decide, by decide⟩ rfl ⟨by decide, by decide⟩ hl.1 rfl (Nat.le_of_ble_eq_true rfl) ⟨by show _ ≤ 601024; omega, by show _ ≤ 7293034; omega⟩ dL_law_1086 (fun H locs S => ?_)
    refine lv_iload hx hb dL_law_1089 (lv_at hl 1 rfl) ?_
    refine lv_icmp_eq (tgt := 1096) hx hb dL_law_1091 (by decide) (fun c1 => ?_) (fun c1 => absurd ht c1)
    refine lv_iload hx hb dL_law_1096 (lv_at hl 1 rfl) ?_
    refine lv_if_ne (tgt := 1113) hx hb dL_law_1098 (by decide) (fun c2 => ?_) (fun c2 => absurd c2 (by decide))
    refine lv_goto (tgt := 3423) hx hb dL_law_1113 (by decide) ?_
    exact W.widen (k := cells + 4) (n := slots + 24) (by omega) (by omega) (kk σ2 R L H locs ls hI2 S (lv_sub hl [2, 3, 4, 5, 6] rfl))
set_option maxHeartbeats 4000000 in
set_option maxRecDepth 100000 in
theorem lc_19 {l : Launch} {g : GL} {p : Program} {e : Jvm.Env} {s : State} {m : MethodId} {below : List Frame} {meth : Method} {c : Code} {b Lx : Nat} {xs : Nat → Int32} {N : Nat} {Inv : SI → (Nat → Nat → Nat) → Prop} {σ : SI} {R : Nat → Nat → Nat} {L : Nat → Nat → Int64} {x4 : Int32} {cells slots : Nat} (C : Cx l g p s m meth c cL_law 7 RL) (hX : va_X b Lx xs s s.heap) (hbl : b < s.heap.size) (hbA : ¬ gA g b) (hI : Inv σ R) (hIS : InvOk Inv) (hAg : Ag_19 N Inv) (h1 : vp_in (x4 + 1) Lx) (h2 : vp_in (x4 + 2) Lx) (hcs : cells + 4 ≤ 601024 ∧ slots + 24 ≤ 7293034) (kk : ∀ (σ' : SI) (R' : Nat → Nat → Nat) (L' : Nat → Nat → Int64) (H : Heap) (locs : List Loc) (ls : Array Slot), Inv σ' R' → S2 g s σ' R' L' H locs → lv_has ls 7 [(0, .ref b), (1, .ref (gb g + 1)), (2, .ref (gb g + 178)), (3, .ref (gb g + 194)), (4, .int x4)] → W p l e room_1 s m #[Value.ref b] below meth c H locs (cells + 4) (slots + 24) (lw_Z below #[Value.ref b] s) (F0 m 3423 ls [])) : ∀ (H : Heap) (locs : List Loc) (ls : Array Slot), S2 g s σ R L H locs → lv_has ls 7 [(0, .ref b), (1, .ref (gb g + 1)), (2, .ref (gb g + 178)), (3, .ref (gb g + 194)), (4, .int x4)] → W p l e room_1 s m #[Value.ref b] below meth c H locs (cells) (slots) (lw_Z below #[Value.ref b] s) (F0 m 1116 ls []) := by
  intro H locs ls S hl
  obtain ⟨hc1, hc2⟩ := hcs
  have hx := C.1
  have hb := C.2.1
  have hSh := hIS σ R hI
  obtain ⟨res, σ1, b2, σ2, hm, hmod, hI2, hret, hthr⟩ := hAg σ R (xs (x4 + 1).toNatClampNeg) (xs (x4 + 2).toNatClampNeg) hI
  cases res with
  | inl v =>
    obtain ⟨ht, rfl⟩ := hret v rfl
    refine lv_aload_n hx hb dL_law_1116 rfl (lv_at hl 1 rfl) ?_
    refine lv_aload_n hx hb dL_law_1117 rfl (lv_at hl 0 rfl) ?_
    refine lv_iload hx hb dL_law_1118 (lv_at hl 4 rfl) ?_
    refine lv_iconst (v := (1 : Int32)) hx hb dL_law_1120 (by decide) ?_
    refine lv_iadd hx hb dL_law_1121 ?_
    refine va_sld hx hb hX hbl hbA S.2 h1 dL_law_1122 ?_
    refine lv_aload_n hx hb dL_law_1123 rfl (lv_at hl 0 rfl) ?_
    refine lv_iload hx hb dL_law_1124 (lv_at hl 4 rfl) ?_
    refine lv_iconst (v := (2 : Int32)) hx hb dL_law_1126 (by decide) ?_
    refine lv_iadd hx hb dL_law_1127 ?_
    refine va_sld hx hb hX hbl hbA S.2 h2 dL_law_1128 ?_
    refine lv_aload_n hx hb dL_law_1129 rfl (lv_at hl 3 rfl) ?_
    refine v_callW C S (h_neededGap_ret (L := L) hm hSh ok_1 ok_194) ⟨cd_L_neededGap, ni_RL, ml_RL_237, st_L_neededGap⟩ ⟨by decide, by decide⟩ rfl ⟨by decide, by decide⟩ hl.1 rfl (Nat.le_of_ble_eq_true rfl) ⟨by show _ ≤ 601024; omega, by show _ ≤ 7293034; omega⟩ dL_law_1130 (fun w σ' H locs hp S => ?_)
    obtain ⟨rfl, rfl⟩ := hp
    have S : S2 g s σ1 R (fun a j => if a = 194 ∧ j = 0 then v.toInt64 else L a j) H locs := S
    obtain ⟨L1, hL1, hLv⟩ : ∃ L1 : Nat → Nat → Int64, (fun a j => if a = 194 ∧ j = 0 then v.toInt64 else L a j) = L1 ∧ L1 194 0 = v.toInt64 := ⟨_, rfl, if_pos ⟨rfl, rfl⟩⟩
    rw [hL1] at S
    refine lv_istore (lv' := [(5, .int 0), (0, .ref b), (1, .ref (gb g + 1)), (2, .ref (gb g + 178)), (3, .ref (gb g + 194)), (4, .int x4)]) hx hb dL_law_1133 hl (by decide) rfl (fun ls hl => ?_)
    refine lv_aload_n hx hb dL_law_1135 rfl (lv_at hl 3 rfl) ?_
    refine lv_aload_n hx hb dL_law_1136 rfl (lv_at hl 1 rfl) ?_
    refine lv_iload hx hb dL_law_1137 (lv_at hl 5 rfl) ?_
    refine lv_iconst (v := (1 : Int32)) hx hb dL_law_1139 (by decide) ?_
    refine lv_iadd hx hb dL_law_1140 ?_
    refine va_sld hx hb hX hbl hbA S.2 h1 dL_law_1141 ?_
    refine lv_aload_n hx hb dL_law_1142 rfl (lv_at hl 1 rfl) ?_
    refine lv_iload hx hb dL_law_1143 (lv_at hl 5 rfl) ?_
    refine lv_iconst (v := (2 : Int32)) hx hb dL_law_1145 (by decide) ?_
    refine lv_iadd hx hb dL_law_1146 ?_
    refine va_sld hx hb hX hbl hbA S.2 h2 dL_law_1147 ?_
    refine x_callVI C S KX12 ok_178 (ok_X12_neededGap (L := L1) hmod hSh ok_178) ⟨cd_X12_neededGap, ni_RX12, ml_RL_239, in_X12_neededGap, sl_X12_neededGap⟩ ⟨by decide, by decide⟩ rfl ⟨by decide, by decide⟩ hl.1 rfl (Nat.le_of_ble_eq_true rfl) ⟨by show _ ≤ 601024; omega, by show _ ≤ 7293034; omega⟩ dL_law_1148 (fun H locs S => ?_)
    refine lv_istore (lv' := [(6, .int v), (5, .int 0), (0, .ref b), (1, .ref (gb g + 1)), (2, .ref (gb g + 178)), (3, .ref (gb g + 194)), (4, .int x4)]) hx hb dL_law_1151 hl (by decide) rfl (fun ls hl => ?_)
    refine lv_aload_n hx hb dL_law_1153 rfl (lv_at hl 4 rfl) ?_
    refine x_callVI C S KX12 ok_178 (ok_X12_thrown (L := L1) (thr_eq N R σ2 178) hSh ok_178) ⟨cd_X12_thrown, ni_RX12, ml_RL_178, in_X12_thrown, sl_X12_thrown⟩ ⟨by decide, by decide⟩ rfl ⟨by decide, by decide⟩ hl.1 rfl (Nat.le_of_ble_eq_true rfl) ⟨by show _ ≤ 601024; omega, by show _ ≤ 7293034; omega⟩ dL_law_1154 (fun H locs S => ?_)
    refine lv_iload hx hb dL_law_1157 (lv_at hl 1 rfl) ?_
    refine lv_icmp_eq (tgt := 1164) hx hb dL_law_1159 (by decide) (fun c1 => ?_) (fun c1 => absurd ht c1)
    refine lv_iload hx hb dL_law_1164 (lv_at hl 1 rfl) ?_
    refine lv_if_ne (tgt := 1181) hx hb dL_law_1166 (by decide) (fun c2 => absurd rfl c2) (fun c2 => ?_)
    refine lv_aload_n hx hb dL_law_1169 rfl (lv_at hl 5 rfl) ?_
    refine lv_iconst (v := (0 : Int32)) hx hb dL_law_1170 (by decide) ?_
    refine x_lald C S ok_194 dL_law_1171 ?_
    refine lv_iload hx hb dL_law_1172 (lv_at hl 0 rfl) ?_
    refine lv_i2l hx hb dL_law_1174 rfl ?_
    refine W.lcmp hx hb dL_law_1175 ?_
    refine lv_if_eq (tgt := 1181) hx hb dL_law_1176 (by decide) (fun c4 => ?_) (fun c4 => absurd (by show lg_cmp (L1 194 0) _ = 0; rw [hLv]; exact lgc_self _) c4)
    refine lv_goto (tgt := 3423) hx hb dL_law_1181 (by decide) ?_
    exact W.widen (k := cells + 4) (n := slots + 24) (by omega) (by omega) (kk σ2 R L1 H locs ls hI2 S (lv_sub hl [2, 3, 4, 5, 6] rfl))
  | inr q =>
    obtain ⟨rfl, ht⟩ := hthr q rfl
    refine lv_aload_n hx hb dL_law_1116 rfl (lv_at hl 1 rfl) ?_
    refine lv_aload_n hx hb dL_law_1117 rfl (lv_at hl 0 rfl) ?_
    refine lv_iload hx hb dL_law_1118 (lv_at hl 4 rfl) ?_
    refine lv_iconst (v := (1 : Int32)) hx hb dL_law_1120 (by decide) ?_
    refine lv_iadd hx hb dL_law_1121 ?_
    refine va_sld hx hb hX hbl hbA S.2 h1 dL_law_1122 ?_
    refine lv_aload_n hx hb dL_law_1123 rfl (lv_at hl 0 rfl) ?_
    refine lv_iload hx hb dL_law_1124 (lv_at hl 4 rfl) ?_
    refine lv_iconst (v := (2 : Int32)) hx hb dL_law_1126 (by decide) ?_
    refine lv_iadd hx hb dL_law_1127 ?_
    refine va_sld hx hb hX hbl hbA S.2 h2 dL_law_1128 ?_
    refine lv_aload_n hx hb dL_law_1129 rfl (lv_at hl 3 rfl) ?_
    refine v_callW C S (h_neededGap_x0 (L := L) hm hSh ok_1 ok_194) ⟨cd_L_neededGap, ni_RL, ml_RL_237, st_L_neededGap⟩ ⟨by decide, by decide⟩ rfl ⟨by decide, by decide⟩ hl.1 rfl (Nat.le_of_ble_eq_true rfl) ⟨by show _ ≤ 601024; omega, by show _ ≤ 7293034; omega⟩ dL_law_1130 (fun w σ' H locs hp S => ?_)
    obtain ⟨rfl, rfl⟩ := hp
    have S : S2 g s σ1 R L H locs := S
    refine lv_istore (lv' := [(5, .int 1), (0, .ref b), (1, .ref (gb g + 1)), (2, .ref (gb g + 178)), (3, .ref (gb g + 194)), (4, .int x4)]) hx hb dL_law_1133 hl (by decide) rfl (fun ls hl => ?_)
    refine lv_aload_n hx hb dL_law_1135 rfl (lv_at hl 3 rfl) ?_
    refine lv_aload_n hx hb dL_law_1136 rfl (lv_at hl 1 rfl) ?_
    refine lv_iload hx hb dL_law_1137 (lv_at hl 5 rfl) ?_
    refine lv_iconst (v := (1 : Int32)) hx hb dL_law_1139 (by decide) ?_
    refine lv_iadd hx hb dL_law_1140 ?_
    refine va_sld hx hb hX hbl hbA S.2 h1 dL_law_1141 ?_
    refine lv_aload_n hx hb dL_law_1142 rfl (lv_at hl 1 rfl) ?_
    refine lv_iload hx hb dL_law_1143 (lv_at hl 5 rfl) ?_
    refine lv_iconst (v := (2 : Int32)) hx hb dL_law_1145 (by decide) ?_
    refine lv_iadd hx hb dL_law_1146 ?_
    refine va_sld hx hb hX hbl hbA S.2 h2 dL_law_1147 ?_
    refine x_callVI C S KX12 ok_178 (ok_X12_neededGap (L := L) hmod hSh ok_178) ⟨cd_X12_neededGap, ni_RX12, ml_RL_239, in_X12_neededGap, sl_X12_neededGap⟩ ⟨by decide, by decide⟩ rfl ⟨by decide, by decide⟩ hl.1 rfl (Nat.le_of_ble_eq_true rfl) ⟨by show _ ≤ 601024; omega, by show _ ≤ 7293034; omega⟩ dL_law_1148 (fun H locs S => ?_)
    refine lv_istore (lv' := [(6, .int b2), (5, .int 1), (0, .ref b), (1, .ref (gb g + 1)), (2, .ref (gb g + 178)), (3, .ref (gb g + 194)), (4, .int x4)]) hx hb dL_law_1151 hl (by decide) rfl (fun ls hl => ?_)
    refine lv_aload_n hx hb dL_law_1153 rfl (lv_at hl 4 rfl) ?_
    refine x_callVI C S KX12 ok_178 (ok_X12_thrown (L := L) (thr_eq N R σ2 178) hSh ok_178) ⟨cd_X12_thrown, ni_RX12, ml_RL_178, in_X12_thrown, sl_X12_thrown⟩ ⟨by decide, by decide⟩ rfl ⟨by decide, by decide⟩ hl.1 rfl (Nat.le_of_ble_eq_true rfl) ⟨by show _ ≤ 601024; omega, by show _ ≤ 7293034; omega⟩ dL_law_1154 (fun H locs S => ?_)
    refine lv_iload hx hb dL_law_1157 (lv_at hl 1 rfl) ?_
    refine lv_icmp_eq (tgt := 1164) hx hb dL_law_1159 (by decide) (fun c1 => ?_) (fun c1 => absurd ht c1)
    refine lv_iload hx hb dL_law_1164 (lv_at hl 1 rfl) ?_
    refine lv_if_ne (tgt := 1181) hx hb dL_law_1166 (by decide) (fun c2 => ?_) (fun c2 => absurd c2 (by decide))
    refine lv_goto (tgt := 3423) hx hb dL_law_1181 (by decide) ?_
    exact W.widen (k := cells + 4) (n := slots + 24) (by omega) (by omega) (kk σ2 R L H locs ls hI2 S (lv_sub hl [2, 3, 4, 5, 6] rfl))
set_option maxHeartbeats 4000000 in
set_option maxRecDepth 100000 in
theorem lc_20 {l : Launch} {g : GL} {p : Program} {e : Jvm.Env} {s : State} {m : MethodId} {below : List Frame} {meth : Method} {c : Code} {b Lx : Nat} {xs : Nat → Int32} {N : Nat} {Inv : SI → (Nat → Nat → Nat) → Prop} {σ : SI} {R : Nat → Nat → Nat} {L : Nat → Nat → Int64} {x4 : Int32} {cells slots : Nat} (C : Cx l g p s m meth c cL_law 7 RL) (hX : va_X b Lx xs s s.heap) (hbl : b < s.heap.size) (hbA : ¬ gA g b) (hI : Inv σ R) (hIS : InvOk Inv) (hAg : Ag_20 N Inv) (h1 : vp_in (x4 + 1) Lx) (h2 : vp_in (x4 + 2) Lx) (h3 : vp_in (x4 + 3) Lx) (hcs : cells + 4 ≤ 601024 ∧ slots + 24 ≤ 7293034) (kk : ∀ (σ' : SI) (R' : Nat → Nat → Nat) (L' : Nat → Nat → Int64) (H : Heap) (locs : List Loc) (ls : Array Slot), Inv σ' R' → S2 g s σ' R' L' H locs → lv_has ls 7 [(0, .ref b), (1, .ref (gb g + 1)), (2, .ref (gb g + 178)), (3, .ref (gb g + 194)), (4, .int x4)] → W p l e room_1 s m #[Value.ref b] below meth c H locs (cells + 4) (slots + 24) (lw_Z below #[Value.ref b] s) (F0 m 3423 ls [])) : ∀ (H : Heap) (locs : List Loc) (ls : Array Slot), S2 g s σ R L H locs → lv_has ls 7 [(0, .ref b), (1, .ref (gb g + 1)), (2, .ref (gb g + 178)), (3, .ref (gb g + 194)), (4, .int x4)] → W p l e room_1 s m #[Value.ref b] below meth c H locs (cells) (slots) (lw_Z below #[Value.ref b] s) (F0 m 1184 ls []) := by
  intro H locs ls S hl
  obtain ⟨hc1, hc2⟩ := hcs
  have hx := C.1
  have hb := C.2.1
  have hSh := hIS σ R hI
  obtain ⟨res, σ1, b2, σ2, hm, hmod, hI2, hret, hthr⟩ := hAg σ R (xs (x4 + 1).toNatClampNeg) (xs (x4 + 2).toNatClampNeg) (xs (x4 + 3).toNatClampNeg) hI
  cases res with
  | inl v =>
    obtain ⟨ht, rfl⟩ := hret v rfl
    refine lv_aload_n hx hb dL_law_1184 rfl (lv_at hl 1 rfl) ?_
    refine lv_aload_n hx hb dL_law_1185 rfl (lv_at hl 0 rfl) ?_
    refine lv_iload hx hb dL_law_1186 (lv_at hl 4 rfl) ?_
    refine lv_iconst (v := (1 : Int32)) hx hb dL_law_1188 (by decide) ?_
    refine lv_iadd hx hb dL_law_1189 ?_
    refine va_sld hx hb hX hbl hbA S.2 h1 dL_law_1190 ?_
    refine lv_aload_n hx hb dL_law_1191 rfl (lv_at hl 0 rfl) ?_
    refine lv_iload hx hb dL_law_1192 (lv_at hl 4 rfl) ?_
    refine lv_iconst (v := (2 : Int32)) hx hb dL_law_1194 (by decide) ?_
    refine lv_iadd hx hb dL_law_1195 ?_
    refine va_sld hx hb hX hbl hbA S.2 h2 dL_law_1196 ?_
    refine lv_aload_n hx hb dL_law_1197 rfl (lv_at hl 0 rfl) ?_
    refine lv_iload hx hb dL_law_1198 (lv_at hl 4 rfl) ?_
    refine lv_iconst (v := (3 : Int32)) hx hb dL_law_1200 (by decide) ?_
    refine lv_iadd hx hb dL_law_1201 ?_
    refine va_sld hx hb hX hbl hbA S.2 h3 dL_law_1202 ?_
    refine lv_aload_n hx hb dL_law_1203 rfl (lv_at hl 3 rfl) ?_
    refine v_callW C S (h_vibrationIfGap_ret (L := L) hm hSh ok_1 ok_194) ⟨cd_L_vibrationIfGap, ni_RL, ml_RL_240, st_L_vibrationIfGap⟩ ⟨by decide, by decide⟩ rfl ⟨by decide, by decide⟩ hl.1 rfl (Nat.le_of_ble_eq_true rfl) ⟨by show _ ≤ 601024; omega, by show _ ≤ 7293034; omega⟩ dL_law_1204 (fun w σ' H locs hp S => ?_)
    obtain ⟨rfl, rfl⟩ := hp
    have S : S2 g s σ1 R (fun a j => if a = 194 ∧ j = 0 then v.toInt64 else L a j) H locs := S
    obtain ⟨L1, hL1, hLv⟩ : ∃ L1 : Nat → Nat → Int64, (fun a j => if a = 194 ∧ j = 0 then v.toInt64 else L a j) = L1 ∧ L1 194 0 = v.toInt64 := ⟨_, rfl, if_pos ⟨rfl, rfl⟩⟩
    rw [hL1] at S
    refine lv_istore (lv' := [(5, .int 0), (0, .ref b), (1, .ref (gb g + 1)), (2, .ref (gb g + 178)), (3, .ref (gb g + 194)), (4, .int x4)]) hx hb dL_law_1207 hl (by decide) rfl (fun ls hl => ?_)
    refine lv_aload_n hx hb dL_law_1209 rfl (lv_at hl 3 rfl) ?_
    refine lv_aload_n hx hb dL_law_1210 rfl (lv_at hl 1 rfl) ?_
    refine lv_iload hx hb dL_law_1211 (lv_at hl 5 rfl) ?_
    refine lv_iconst (v := (1 : Int32)) hx hb dL_law_1213 (by decide) ?_
    refine lv_iadd hx hb dL_law_1214 ?_
    refine va_sld hx hb hX hbl hbA S.2 h1 dL_law_1215 ?_
    refine lv_aload_n hx hb dL_law_1216 rfl (lv_at hl 1 rfl) ?_
    refine lv_iload hx hb dL_law_1217 (lv_at hl 5 rfl) ?_
    refine lv_iconst (v := (2 : Int32)) hx hb dL_law_1219 (by decide) ?_
    refine lv_iadd hx hb dL_law_1220 ?_
    refine va_sld hx hb hX hbl hbA S.2 h2 dL_law_1221 ?_
    refine lv_aload_n hx hb dL_law_1222 rfl (lv_at hl 1 rfl) ?_
    refine lv_iload hx hb dL_law_1223 (lv_at hl 5 rfl) ?_
    refine lv_iconst (v := (3 : Int32)) hx hb dL_law_1225 (by decide) ?_
    refine lv_iadd hx hb dL_law_1226 ?_
    refine va_sld hx hb hX hbl hbA S.2 h3 dL_law_1227 ?_
    refine x_callVI C S KX12 ok_178 (ok_X12_vibrationIfGap (L := L1) hmod hSh ok_178) ⟨cd_X12_vibrationIfGap, ni_RX12, ml_RL_243, in_X12_vibrationIfGap, sl_X12_vibrationIfGap⟩ ⟨by decide, by decide⟩ rfl ⟨by decide, by decide⟩ hl.1 rfl (Nat.le_of_ble_eq_true rfl) ⟨by show _ ≤ 601024; omega, by show _ ≤ 7293034; omega⟩ dL_law_1228 (fun H locs S => ?_)
    refine lv_istore (lv' := [(6, .int v), (5, .int 0), (0, .ref b), (1, .ref (gb g + 1)), (2, .ref (gb g + 178)), (3, .ref (gb g + 194)), (4, .int x4)]) hx hb dL_law_1231 hl (by decide) rfl (fun ls hl => ?_)
    refine lv_aload_n hx hb dL_law_1233 rfl (lv_at hl 4 rfl) ?_
    refine x_callVI C S KX12 ok_178 (ok_X12_thrown (L := L1) (thr_eq N R σ2 178) hSh ok_178) ⟨cd_X12_thrown, ni_RX12, ml_RL_178, in_X12_thrown, sl_X12_thrown⟩ ⟨by decide, by decide⟩ rfl ⟨by decide, by decide⟩ hl.1 rfl (Nat.le_of_ble_eq_true rfl) ⟨by show _ ≤ 601024; omega, by show _ ≤ 7293034; omega⟩ dL_law_1234 (fun H locs S => ?_)
    refine lv_iload hx hb dL_law_1237 (lv_at hl 1 rfl) ?_
    refine lv_icmp_eq (tgt := 1244) hx hb dL_law_1239 (by decide) (fun c1 => ?_) (fun c1 => absurd ht c1)
    refine lv_iload hx hb dL_law_1244 (lv_at hl 1 rfl) ?_
    refine lv_if_ne (tgt := 1261) hx hb dL_law_1246 (by decide) (fun c2 => absurd rfl c2) (fun c2 => ?_)
    refine lv_aload_n hx hb dL_law_1249 rfl (lv_at hl 5 rfl) ?_
    refine lv_iconst (v := (0 : Int32)) hx hb dL_law_1250 (by decide) ?_
    refine x_lald C S ok_194 dL_law_1251 ?_
    refine lv_iload hx hb dL_law_1252 (lv_at hl 0 rfl) ?_
    refine lv_i2l hx hb dL_law_1254 rfl ?_
    refine W.lcmp hx hb dL_law_1255 ?_
    refine lv_if_eq (tgt := 1261) hx hb dL_law_1256 (by decide) (fun c4 => ?_) (fun c4 => absurd (by show lg_cmp (L1 194 0) _ = 0; rw [hLv]; exact lgc_self _) c4)
    refine lv_goto (tgt := 3423) hx hb dL_law_1261 (by decide) ?_
    exact W.widen (k := cells + 4) (n := slots + 24) (by omega) (by omega) (kk σ2 R L1 H locs ls hI2 S (lv_sub hl [2, 3, 4, 5, 6] rfl))
  | inr q =>
    rcases hthr q rfl with ⟨rfl, ht⟩ | ⟨rfl, ht⟩
    · refine lv_aload_n hx hb dL_law_1184 rfl (lv_at hl 1 rfl) ?_
      refine lv_aload_n hx hb dL_law_1185 rfl (lv_at hl 0 rfl) ?_
      refine lv_iload hx hb dL_law_1186 (lv_at hl 4 rfl) ?_
      refine lv_iconst (v := (1 : Int32)) hx hb dL_law_1188 (by decide) ?_
      refine lv_iadd hx hb dL_law_1189 ?_
      refine va_sld hx hb hX hbl hbA S.2 h1 dL_law_1190 ?_
      refine lv_aload_n hx hb dL_law_1191 rfl (lv_at hl 0 rfl) ?_
      refine lv_iload hx hb dL_law_1192 (lv_at hl 4 rfl) ?_
      refine lv_iconst (v := (2 : Int32)) hx hb dL_law_1194 (by decide) ?_
      refine lv_iadd hx hb dL_law_1195 ?_
      refine va_sld hx hb hX hbl hbA S.2 h2 dL_law_1196 ?_
      refine lv_aload_n hx hb dL_law_1197 rfl (lv_at hl 0 rfl) ?_
      refine lv_iload hx hb dL_law_1198 (lv_at hl 4 rfl) ?_
      refine lv_iconst (v := (3 : Int32)) hx hb dL_law_1200 (by decide) ?_
      refine lv_iadd hx hb dL_law_1201 ?_
      refine va_sld hx hb hX hbl hbA S.2 h3 dL_law_1202 ?_
      refine lv_aload_n hx hb dL_law_1203 rfl (lv_at hl 3 rfl) ?_
      refine v_callW C S (h_vibrationIfGap_x0 (L := L) hm hSh ok_1 ok_194) ⟨cd_L_vibrationIfGap, ni_RL, ml_RL_240, st_L_vibrationIfGap⟩ ⟨by decide, by decide⟩ rfl ⟨by decide, by decide⟩ hl.1 rfl (Nat.le_of_ble_eq_true rfl) ⟨by show _ ≤ 601024; omega, by show _ ≤ 7293034; omega⟩ dL_law_1204 (fun w σ' H locs hp S => ?_)
      obtain ⟨rfl, rfl⟩ := hp
      have S : S2 g s σ1 R L H locs := S
      refine lv_istore (lv' := [(5, .int 1), (0, .ref b), (1, .ref (gb g + 1)), (2, .ref (gb g + 178)), (3, .ref (gb g + 194)), (4, .int x4)]) hx hb dL_law_1207 hl (by decide) rfl (fun ls hl => ?_)
      refine lv_aload_n hx hb dL_law_1209 rfl (lv_at hl 3 rfl) ?_
      refine lv_aload_n hx hb dL_law_1210 rfl (lv_at hl 1 rfl) ?_
      refine lv_iload hx hb dL_law_1211 (lv_at hl 5 rfl) ?_
      refine lv_iconst (v := (1 : Int32)) hx hb dL_law_1213 (by decide) ?_
      refine lv_iadd hx hb dL_law_1214 ?_
      refine va_sld hx hb hX hbl hbA S.2 h1 dL_law_1215 ?_
      refine lv_aload_n hx hb dL_law_1216 rfl (lv_at hl 1 rfl) ?_
      refine lv_iload hx hb dL_law_1217 (lv_at hl 5 rfl) ?_
      refine lv_iconst (v := (2 : Int32)) hx hb dL_law_1219 (by decide) ?_
      refine lv_iadd hx hb dL_law_1220 ?_
      refine va_sld hx hb hX hbl hbA S.2 h2 dL_law_1221 ?_
      refine lv_aload_n hx hb dL_law_1222 rfl (lv_at hl 1 rfl) ?_
      refine lv_iload hx hb dL_law_1223 (lv_at hl 5 rfl) ?_
      refine lv_iconst (v := (3 : Int32)) hx hb dL_law_1225 (by decide) ?_
      refine lv_iadd hx hb dL_law_1226 ?_
      refine va_sld hx hb hX hbl hbA S.2 h3 dL_law_1227 ?_
      refine x_callVI C S KX12 ok_178 (ok_X12_vibrationIfGap (L := L) hmod hSh ok_178) ⟨cd_X12_vibrationIfGap, ni_RX12, ml_RL_243, in_X12_vibrationIfGap, sl_X12_vibrationIfGap⟩ ⟨by decide, by decide⟩ rfl ⟨by decide, by decide⟩ hl.1 rfl (Nat.le_of_ble_eq_true rfl) ⟨by show _ ≤ 601024; omega, by show _ ≤ 7293034; omega⟩ dL_law_1228 (fun H locs S => ?_)
      refine lv_istore (lv' := [(6, .int b2), (5, .int 1), (0, .ref b), (1, .ref (gb g + 1)), (2, .ref (gb g + 178)), (3, .ref (gb g + 194)), (4, .int x4)]) hx hb dL_law_1231 hl (by decide) rfl (fun ls hl => ?_)
      refine lv_aload_n hx hb dL_law_1233 rfl (lv_at hl 4 rfl) ?_
      refine x_callVI C S KX12 ok_178 (ok_X12_thrown (L := L) (thr_eq N R σ2 178) hSh ok_178) ⟨cd_X12_thrown, ni_RX12, ml_RL_178, in_X12_thrown, sl_X12_thrown⟩ ⟨by decide, by decide⟩ rfl ⟨by decide, by decide⟩ hl.1 rfl (Nat.le_of_ble_eq_true rfl) ⟨by show _ ≤ 601024; omega, by show _ ≤ 7293034; omega⟩ dL_law_1234 (fun H locs S => ?_)
      refine lv_iload hx hb dL_law_1237 (lv_at hl 1 rfl) ?_
      refine lv_icmp_eq (tgt := 1244) hx hb dL_law_1239 (by decide) (fun c1 => ?_) (fun c1 => absurd ht c1)
      refine lv_iload hx hb dL_law_1244 (lv_at hl 1 rfl) ?_
      refine lv_if_ne (tgt := 1261) hx hb dL_law_1246 (by decide) (fun c2 => ?_) (fun c2 => absurd c2 (by decide))
      refine lv_goto (tgt := 3423) hx hb dL_law_1261 (by decide) ?_
      exact W.widen (k := cells + 4) (n := slots + 24) (by omega) (by omega) (kk σ2 R L H locs ls hI2 S (lv_sub hl [2, 3, 4, 5, 6] rfl))
    · refine lv_aload_n hx hb dL_law_1184 rfl (lv_at hl 1 rfl) ?_
      refine lv_aload_n hx hb dL_law_1185 rfl (lv_at hl 0 rfl) ?_
      refine lv_iload hx hb dL_law_1186 (lv_at hl 4 rfl) ?_
      refine lv_iconst (v := (1 : Int32)) hx hb dL_law_1188 (by decide) ?_
      refine lv_iadd hx hb dL_law_1189 ?_
      refine va_sld hx hb hX hbl hbA S.2 h1 dL_law_1190 ?_
      refine lv_aload_n hx hb dL_law_1191 rfl (lv_at hl 0 rfl) ?_
      refine lv_iload hx hb dL_law_1192 (lv_at hl 4 rfl) ?_
      refine lv_iconst (v := (2 : Int32)) hx hb dL_law_1194 (by decide) ?_
      refine lv_iadd hx hb dL_law_1195 ?_
      refine va_sld hx hb hX hbl hbA S.2 h2 dL_law_1196 ?_
      refine lv_aload_n hx hb dL_law_1197 rfl (lv_at hl 0 rfl) ?_
      refine lv_iload hx hb dL_law_1198 (lv_at hl 4 rfl) ?_
      refine lv_iconst (v := (3 : Int32)) hx hb dL_law_1200 (by decide) ?_
      refine lv_iadd hx hb dL_law_1201 ?_
      refine va_sld hx hb hX hbl hbA S.2 h3 dL_law_1202 ?_
      refine lv_aload_n hx hb dL_law_1203 rfl (lv_at hl 3 rfl) ?_
      refine v_callW C S (h_vibrationIfGap_x1 (L := L) hm hSh ok_1 ok_194) ⟨cd_L_vibrationIfGap, ni_RL, ml_RL_240, st_L_vibrationIfGap⟩ ⟨by decide, by decide⟩ rfl ⟨by decide, by decide⟩ hl.1 rfl (Nat.le_of_ble_eq_true rfl) ⟨by show _ ≤ 601024; omega, by show _ ≤ 7293034; omega⟩ dL_law_1204 (fun w σ' H locs hp S => ?_)
      obtain ⟨rfl, rfl⟩ := hp
      have S : S2 g s σ1 R L H locs := S
      refine lv_istore (lv' := [(5, .int 2), (0, .ref b), (1, .ref (gb g + 1)), (2, .ref (gb g + 178)), (3, .ref (gb g + 194)), (4, .int x4)]) hx hb dL_law_1207 hl (by decide) rfl (fun ls hl => ?_)
      refine lv_aload_n hx hb dL_law_1209 rfl (lv_at hl 3 rfl) ?_
      refine lv_aload_n hx hb dL_law_1210 rfl (lv_at hl 1 rfl) ?_
      refine lv_iload hx hb dL_law_1211 (lv_at hl 5 rfl) ?_
      refine lv_iconst (v := (1 : Int32)) hx hb dL_law_1213 (by decide) ?_
      refine lv_iadd hx hb dL_law_1214 ?_
      refine va_sld hx hb hX hbl hbA S.2 h1 dL_law_1215 ?_
      refine lv_aload_n hx hb dL_law_1216 rfl (lv_at hl 1 rfl) ?_
      refine lv_iload hx hb dL_law_1217 (lv_at hl 5 rfl) ?_
      refine lv_iconst (v := (2 : Int32)) hx hb dL_law_1219 (by decide) ?_
      refine lv_iadd hx hb dL_law_1220 ?_
      refine va_sld hx hb hX hbl hbA S.2 h2 dL_law_1221 ?_
      refine lv_aload_n hx hb dL_law_1222 rfl (lv_at hl 1 rfl) ?_
      refine lv_iload hx hb dL_law_1223 (lv_at hl 5 rfl) ?_
      refine lv_iconst (v := (3 : Int32)) hx hb dL_law_1225 (by decide) ?_
      refine lv_iadd hx hb dL_law_1226 ?_
      refine va_sld hx hb hX hbl hbA S.2 h3 dL_law_1227 ?_
      refine x_callVI C S KX12 ok_178 (ok_X12_vibrationIfGap (L := L) hmod hSh ok_178) ⟨cd_X12_vibrationIfGap, ni_RX12, ml_RL_243, in_X12_vibrationIfGap, sl_X12_vibrationIfGap⟩ ⟨by decide, by decide⟩ rfl ⟨by decide, by decide⟩ hl.1 rfl (Nat.le_of_ble_eq_true rfl) ⟨by show _ ≤ 601024; omega, by show _ ≤ 7293034; omega⟩ dL_law_1228 (fun H locs S => ?_)
      refine lv_istore (lv' := [(6, .int b2), (5, .int 2), (0, .ref b), (1, .ref (gb g + 1)), (2, .ref (gb g + 178)), (3, .ref (gb g + 194)), (4, .int x4)]) hx hb dL_law_1231 hl (by decide) rfl (fun ls hl => ?_)
      refine lv_aload_n hx hb dL_law_1233 rfl (lv_at hl 4 rfl) ?_
      refine x_callVI C S KX12 ok_178 (ok_X12_thrown (L := L) (thr_eq N R σ2 178) hSh ok_178) ⟨cd_X12_thrown, ni_RX12, ml_RL_178, in_X12_thrown, sl_X12_thrown⟩ ⟨by decide, by decide⟩ rfl ⟨by decide, by decide⟩ hl.1 rfl (Nat.le_of_ble_eq_true rfl) ⟨by show _ ≤ 601024; omega, by show _ ≤ 7293034; omega⟩ dL_law_1234 (fun H locs S => ?_)
      refine lv_iload hx hb dL_law_1237 (lv_at hl 1 rfl) ?_
      refine lv_icmp_eq (tgt := 1244) hx hb dL_law_1239 (by decide) (fun c1 => ?_) (fun c1 => absurd ht c1)
      refine lv_iload hx hb dL_law_1244 (lv_at hl 1 rfl) ?_
      refine lv_if_ne (tgt := 1261) hx hb dL_law_1246 (by decide) (fun c2 => ?_) (fun c2 => absurd c2 (by decide))
      refine lv_goto (tgt := 3423) hx hb dL_law_1261 (by decide) ?_
      exact W.widen (k := cells + 4) (n := slots + 24) (by omega) (by omega) (kk σ2 R L H locs ls hI2 S (lv_sub hl [2, 3, 4, 5, 6] rfl))
set_option maxHeartbeats 4000000 in
set_option maxRecDepth 100000 in
theorem lc_21 {l : Launch} {g : GL} {p : Program} {e : Jvm.Env} {s : State} {m : MethodId} {below : List Frame} {meth : Method} {c : Code} {b Lx : Nat} {xs : Nat → Int32} {N : Nat} {Inv : SI → (Nat → Nat → Nat) → Prop} {σ : SI} {R : Nat → Nat → Nat} {L : Nat → Nat → Int64} {x4 : Int32} {cells slots : Nat} (C : Cx l g p s m meth c cL_law 7 RL) (hX : va_X b Lx xs s s.heap) (hbl : b < s.heap.size) (hbA : ¬ gA g b) (hI : Inv σ R) (hIS : InvOk Inv) (hAg : Ag_21 N Inv) (h1 : vp_in (x4 + 1) Lx) (h2 : vp_in (x4 + 2) Lx) (hcs : cells + 4 ≤ 601024 ∧ slots + 24 ≤ 7293034) (kk : ∀ (σ' : SI) (R' : Nat → Nat → Nat) (L' : Nat → Nat → Int64) (H : Heap) (locs : List Loc) (ls : Array Slot), Inv σ' R' → S2 g s σ' R' L' H locs → lv_has ls 7 [(0, .ref b), (1, .ref (gb g + 1)), (2, .ref (gb g + 178)), (3, .ref (gb g + 194)), (4, .int x4)] → W p l e room_1 s m #[Value.ref b] below meth c H locs (cells + 4) (slots + 24) (lw_Z below #[Value.ref b] s) (F0 m 3423 ls [])) : ∀ (H : Heap) (locs : List Loc) (ls : Array Slot), S2 g s σ R L H locs → lv_has ls 7 [(0, .ref b), (1, .ref (gb g + 1)), (2, .ref (gb g + 178)), (3, .ref (gb g + 194)), (4, .int x4)] → W p l e room_1 s m #[Value.ref b] below meth c H locs (cells) (slots) (lw_Z below #[Value.ref b] s) (F0 m 1264 ls []) := by
  intro H locs ls S hl
  obtain ⟨hc1, hc2⟩ := hcs
  have hx := C.1
  have hb := C.2.1
  have hSh := hIS σ R hI
  obtain ⟨res, σ1, b2, σ2, hm, hmod, hI2, hret, hthr⟩ := hAg σ R (xs (x4 + 1).toNatClampNeg) (xs (x4 + 2).toNatClampNeg) hI
  cases res with
  | inl v =>
    obtain ⟨ht, rfl⟩ := hret v rfl
    refine lv_aload_n hx hb dL_law_1264 rfl (lv_at hl 1 rfl) ?_
    refine lv_aload_n hx hb dL_law_1265 rfl (lv_at hl 0 rfl) ?_
    refine lv_iload hx hb dL_law_1266 (lv_at hl 4 rfl) ?_
    refine lv_iconst (v := (1 : Int32)) hx hb dL_law_1268 (by decide) ?_
    refine lv_iadd hx hb dL_law_1269 ?_
    refine va_sld hx hb hX hbl hbA S.2 h1 dL_law_1270 ?_
    refine lv_aload_n hx hb dL_law_1271 rfl (lv_at hl 0 rfl) ?_
    refine lv_iload hx hb dL_law_1272 (lv_at hl 4 rfl) ?_
    refine lv_iconst (v := (2 : Int32)) hx hb dL_law_1274 (by decide) ?_
    refine lv_iadd hx hb dL_law_1275 ?_
    refine va_sld hx hb hX hbl hbA S.2 h2 dL_law_1276 ?_
    refine lv_aload_n hx hb dL_law_1277 rfl (lv_at hl 3 rfl) ?_
    refine v_callW C S (h_closes_ret (L := L) hm hSh ok_1 ok_194) ⟨cd_L_closes, ni_RL, ml_RL_244, st_L_closes⟩ ⟨by decide, by decide⟩ rfl ⟨by decide, by decide⟩ hl.1 rfl (Nat.le_of_ble_eq_true rfl) ⟨by show _ ≤ 601024; omega, by show _ ≤ 7293034; omega⟩ dL_law_1278 (fun w σ' H locs hp S => ?_)
    obtain ⟨rfl, rfl⟩ := hp
    have S : S2 g s σ1 R (fun a j => if a = 194 ∧ j = 0 then (if v = 0 then 0 else 1 : Int64) else L a j) H locs := S
    obtain ⟨L1, hL1, hLv⟩ : ∃ L1 : Nat → Nat → Int64, (fun a j => if a = 194 ∧ j = 0 then (if v = 0 then 0 else 1 : Int64) else L a j) = L1 ∧ L1 194 0 = (if v = 0 then 0 else 1 : Int64) := ⟨_, rfl, if_pos ⟨rfl, rfl⟩⟩
    rw [hL1] at S
    refine lv_istore (lv' := [(5, .int 0), (0, .ref b), (1, .ref (gb g + 1)), (2, .ref (gb g + 178)), (3, .ref (gb g + 194)), (4, .int x4)]) hx hb dL_law_1281 hl (by decide) rfl (fun ls hl => ?_)
    refine lv_aload_n hx hb dL_law_1283 rfl (lv_at hl 3 rfl) ?_
    refine lv_aload_n hx hb dL_law_1284 rfl (lv_at hl 1 rfl) ?_
    refine lv_iload hx hb dL_law_1285 (lv_at hl 5 rfl) ?_
    refine lv_iconst (v := (1 : Int32)) hx hb dL_law_1287 (by decide) ?_
    refine lv_iadd hx hb dL_law_1288 ?_
    refine va_sld hx hb hX hbl hbA S.2 h1 dL_law_1289 ?_
    refine lv_aload_n hx hb dL_law_1290 rfl (lv_at hl 1 rfl) ?_
    refine lv_iload hx hb dL_law_1291 (lv_at hl 5 rfl) ?_
    refine lv_iconst (v := (2 : Int32)) hx hb dL_law_1293 (by decide) ?_
    refine lv_iadd hx hb dL_law_1294 ?_
    refine va_sld hx hb hX hbl hbA S.2 h2 dL_law_1295 ?_
    refine x_callVI C S KX12 ok_178 (ok_X12_closes (L := L1) hmod hSh ok_178) ⟨cd_X12_closes, ni_RX12, ml_RL_246, in_X12_closes, sl_X12_closes⟩ ⟨by decide, by decide⟩ rfl ⟨by decide, by decide⟩ hl.1 rfl (Nat.le_of_ble_eq_true rfl) ⟨by show _ ≤ 601024; omega, by show _ ≤ 7293034; omega⟩ dL_law_1296 (fun H locs S => ?_)
    refine lv_istore (lv' := [(6, .int v), (5, .int 0), (0, .ref b), (1, .ref (gb g + 1)), (2, .ref (gb g + 178)), (3, .ref (gb g + 194)), (4, .int x4)]) hx hb dL_law_1299 hl (by decide) rfl (fun ls hl => ?_)
    refine lv_aload_n hx hb dL_law_1301 rfl (lv_at hl 4 rfl) ?_
    refine x_callVI C S KX12 ok_178 (ok_X12_thrown (L := L1) (thr_eq N R σ2 178) hSh ok_178) ⟨cd_X12_thrown, ni_RX12, ml_RL_178, in_X12_thrown, sl_X12_thrown⟩ ⟨by decide, by decide⟩ rfl ⟨by decide, by decide⟩ hl.1 rfl (Nat.le_of_ble_eq_true rfl) ⟨by show _ ≤ 601024; omega, by show _ ≤ 7293034; omega⟩ dL_law_1302 (fun H locs S => ?_)
    refine lv_iload hx hb dL_law_1305 (lv_at hl 1 rfl) ?_
    refine lv_icmp_eq (tgt := 1312) hx hb dL_law_1307 (by decide) (fun c1 => ?_) (fun c1 => absurd ht c1)
    refine lv_iload hx hb dL_law_1312 (lv_at hl 1 rfl) ?_
    refine lv_if_ne (tgt := 1336) hx hb dL_law_1314 (by decide) (fun c2 => absurd rfl c2) (fun c2 => ?_)
    refine lv_aload_n hx hb dL_law_1317 rfl (lv_at hl 5 rfl) ?_
    refine lv_iconst (v := (0 : Int32)) hx hb dL_law_1318 (by decide) ?_
    refine x_lald C S ok_194 dL_law_1319 ?_
    refine lv_iload hx hb dL_law_1320 (lv_at hl 0 rfl) ?_
    refine lv_if_eq (tgt := 1329) hx hb dL_law_1322 (by decide) (fun c3 => ?_) (fun c3 => ?_)
    · refine lv_lconst (v := (0 : Int64)) hx hb dL_law_1329 (by decide) ?_
      refine W.lcmp hx hb dL_law_1330 ?_
      refine lv_if_eq (tgt := 1336) hx hb dL_law_1331 (by decide) (fun c4 => ?_) (fun c4 => absurd (by show lg_cmp (L1 194 0) _ = 0; rw [hLv, if_pos c3]; exact lgc_self _) c4)
      refine lv_goto (tgt := 3423) hx hb dL_law_1336 (by decide) ?_
      exact W.widen (k := cells + 4) (n := slots + 24) (by omega) (by omega) (kk σ2 R L1 H locs ls hI2 S (lv_sub hl [2, 3, 4, 5, 6] rfl))
    · refine lv_lconst (v := (1 : Int64)) hx hb dL_law_1325 (by decide) ?_
      refine lv_goto (tgt := 1330) hx hb dL_law_1326 (by decide) ?_
      refine W.lcmp hx hb dL_law_1330 ?_
      refine lv_if_eq (tgt := 1336) hx hb dL_law_1331 (by decide) (fun c4 => ?_) (fun c4 => absurd (by show lg_cmp (L1 194 0) _ = 0; rw [hLv, if_neg c3]; exact lgc_self _) c4)
      refine lv_goto (tgt := 3423) hx hb dL_law_1336 (by decide) ?_
      exact W.widen (k := cells + 4) (n := slots + 24) (by omega) (by omega) (kk σ2 R L1 H locs ls hI2 S (lv_sub hl [2, 3, 4, 5, 6] rfl))
  | inr q =>
    obtain ⟨rfl, ht⟩ := hthr q rfl
    refine lv_aload_n hx hb dL_law_1264 rfl (lv_at hl 1 rfl) ?_
    refine lv_aload_n hx hb dL_law_1265 rfl (lv_at hl 0 rfl) ?_
    refine lv_iload hx hb dL_law_1266 (lv_at hl 4 rfl) ?_
    refine lv_iconst (v := (1 : Int32)) hx hb dL_law_1268 (by decide) ?_
    refine lv_iadd hx hb dL_law_1269 ?_
    refine va_sld hx hb hX hbl hbA S.2 h1 dL_law_1270 ?_
    refine lv_aload_n hx hb dL_law_1271 rfl (lv_at hl 0 rfl) ?_
    refine lv_iload hx hb dL_law_1272 (lv_at hl 4 rfl) ?_
    refine lv_iconst (v := (2 : Int32)) hx hb dL_law_1274 (by decide) ?_
    refine lv_iadd hx hb dL_law_1275 ?_
    refine va_sld hx hb hX hbl hbA S.2 h2 dL_law_1276 ?_
    refine lv_aload_n hx hb dL_law_1277 rfl (lv_at hl 3 rfl) ?_
    refine v_callW C S (h_closes_x0 (L := L) hm hSh ok_1 ok_194) ⟨cd_L_closes, ni_RL, ml_RL_244, st_L_closes⟩ ⟨by decide, by decide⟩ rfl ⟨by decide, by decide⟩ hl.1 rfl (Nat.le_of_ble_eq_true rfl) ⟨by show _ ≤ 601024; omega, by show _ ≤ 7293034; omega⟩ dL_law_1278 (fun w σ' H locs hp S => ?_)
    obtain ⟨rfl, rfl⟩ := hp
    have S : S2 g s σ1 R L H locs := S
    refine lv_istore (lv' := [(5, .int 1), (0, .ref b), (1, .ref (gb g + 1)), (2, .ref (gb g + 178)), (3, .ref (gb g + 194)), (4, .int x4)]) hx hb dL_law_1281 hl (by decide) rfl (fun ls hl => ?_)
    refine lv_aload_n hx hb dL_law_1283 rfl (lv_at hl 3 rfl) ?_
    refine lv_aload_n hx hb dL_law_1284 rfl (lv_at hl 1 rfl) ?_
    refine lv_iload hx hb dL_law_1285 (lv_at hl 5 rfl) ?_
    refine lv_iconst (v := (1 : Int32)) hx hb dL_law_1287 (by decide) ?_
    refine lv_iadd hx hb dL_law_1288 ?_
    refine va_sld hx hb hX hbl hbA S.2 h1 dL_law_1289 ?_
    refine lv_aload_n hx hb dL_law_1290 rfl (lv_at hl 1 rfl) ?_
    refine lv_iload hx hb dL_law_1291 (lv_at hl 5 rfl) ?_
    refine lv_iconst (v := (2 : Int32)) hx hb dL_law_1293 (by decide) ?_
    refine lv_iadd hx hb dL_law_1294 ?_
    refine va_sld hx hb hX hbl hbA S.2 h2 dL_law_1295 ?_
    refine x_callVI C S KX12 ok_178 (ok_X12_closes (L := L) hmod hSh ok_178) ⟨cd_X12_closes, ni_RX12, ml_RL_246, in_X12_closes, sl_X12_closes⟩ ⟨by decide, by decide⟩ rfl ⟨by decide, by decide⟩ hl.1 rfl (Nat.le_of_ble_eq_true rfl) ⟨by show _ ≤ 601024; omega, by show _ ≤ 7293034; omega⟩ dL_law_1296 (fun H locs S => ?_)
    refine lv_istore (lv' := [(6, .int b2), (5, .int 1), (0, .ref b), (1, .ref (gb g + 1)), (2, .ref (gb g + 178)), (3, .ref (gb g + 194)), (4, .int x4)]) hx hb dL_law_1299 hl (by decide) rfl (fun ls hl => ?_)
    refine lv_aload_n hx hb dL_law_1301 rfl (lv_at hl 4 rfl) ?_
    refine x_callVI C S KX12 ok_178 (ok_X12_thrown (L := L) (thr_eq N R σ2 178) hSh ok_178) ⟨cd_X12_thrown, ni_RX12, ml_RL_178, in_X12_thrown, sl_X12_thrown⟩ ⟨by decide, by decide⟩ rfl ⟨by decide, by decide⟩ hl.1 rfl (Nat.le_of_ble_eq_true rfl) ⟨by show _ ≤ 601024; omega, by show _ ≤ 7293034; omega⟩ dL_law_1302 (fun H locs S => ?_)
    refine lv_iload hx hb dL_law_1305 (lv_at hl 1 rfl) ?_
    refine lv_icmp_eq (tgt := 1312) hx hb dL_law_1307 (by decide) (fun c1 => ?_) (fun c1 => absurd ht c1)
    refine lv_iload hx hb dL_law_1312 (lv_at hl 1 rfl) ?_
    refine lv_if_ne (tgt := 1336) hx hb dL_law_1314 (by decide) (fun c2 => ?_) (fun c2 => absurd c2 (by decide))
    refine lv_goto (tgt := 3423) hx hb dL_law_1336 (by decide) ?_
    exact W.widen (k := cells + 4) (n := slots + 24) (by omega) (by omega) (kk σ2 R L H locs ls hI2 S (lv_sub hl [2, 3, 4, 5, 6] rfl))
set_option maxHeartbeats 4000000 in
set_option maxRecDepth 100000 in
theorem lc_22 {l : Launch} {g : GL} {p : Program} {e : Jvm.Env} {s : State} {m : MethodId} {below : List Frame} {meth : Method} {c : Code} {b Lx : Nat} {xs : Nat → Int32} {N : Nat} {Inv : SI → (Nat → Nat → Nat) → Prop} {σ : SI} {R : Nat → Nat → Nat} {L : Nat → Nat → Int64} {x4 : Int32} {cells slots : Nat} (C : Cx l g p s m meth c cL_law 7 RL) (hX : va_X b Lx xs s s.heap) (hbl : b < s.heap.size) (hbA : ¬ gA g b) (hI : Inv σ R) (hIS : InvOk Inv) (hAg : Ag_22 N Inv) (h1 : vp_in (x4 + 1) Lx) (hcs : cells + 4 ≤ 601024 ∧ slots + 24 ≤ 7293034) (kk : ∀ (σ' : SI) (R' : Nat → Nat → Nat) (L' : Nat → Nat → Int64) (H : Heap) (locs : List Loc) (ls : Array Slot), Inv σ' R' → S2 g s σ' R' L' H locs → lv_has ls 7 [(0, .ref b), (1, .ref (gb g + 1)), (2, .ref (gb g + 178)), (3, .ref (gb g + 194)), (4, .int x4)] → W p l e room_1 s m #[Value.ref b] below meth c H locs (cells + 4) (slots + 24) (lw_Z below #[Value.ref b] s) (F0 m 3423 ls [])) : ∀ (H : Heap) (locs : List Loc) (ls : Array Slot), S2 g s σ R L H locs → lv_has ls 7 [(0, .ref b), (1, .ref (gb g + 1)), (2, .ref (gb g + 178)), (3, .ref (gb g + 194)), (4, .int x4)] → W p l e room_1 s m #[Value.ref b] below meth c H locs (cells) (slots) (lw_Z below #[Value.ref b] s) (F0 m 1339 ls []) := by
  intro H locs ls S hl
  obtain ⟨hc1, hc2⟩ := hcs
  have hx := C.1
  have hb := C.2.1
  have hSh := hIS σ R hI
  obtain ⟨res, σ1, b2, σ2, hm, hmod, hI2, hret, hthr⟩ := hAg σ R (xs (x4 + 1).toNatClampNeg) hI
  cases res with
  | inl v =>
    obtain ⟨ht, rfl⟩ := hret v rfl
    refine lv_aload_n hx hb dL_law_1339 rfl (lv_at hl 1 rfl) ?_
    refine lv_aload_n hx hb dL_law_1340 rfl (lv_at hl 0 rfl) ?_
    refine lv_iload hx hb dL_law_1341 (lv_at hl 4 rfl) ?_
    refine lv_iconst (v := (1 : Int32)) hx hb dL_law_1343 (by decide) ?_
    refine lv_iadd hx hb dL_law_1344 ?_
    refine va_sld hx hb hX hbl hbA S.2 h1 dL_law_1345 ?_
    refine lv_aload_n hx hb dL_law_1346 rfl (lv_at hl 3 rfl) ?_
    refine v_callW C S (h_closedBy_ret (L := L) hm hSh ok_1 ok_194) ⟨cd_L_closedBy, ni_RL, ml_RL_247, st_L_closedBy⟩ ⟨by decide, by decide⟩ rfl ⟨by decide, by decide⟩ hl.1 rfl (Nat.le_of_ble_eq_true rfl) ⟨by show _ ≤ 601024; omega, by show _ ≤ 7293034; omega⟩ dL_law_1347 (fun w σ' H locs hp S => ?_)
    obtain ⟨rfl, rfl⟩ := hp
    have S : S2 g s σ1 R (fun a j => if a = 194 ∧ j = 0 then v.toInt64 else L a j) H locs := S
    obtain ⟨L1, hL1, hLv⟩ : ∃ L1 : Nat → Nat → Int64, (fun a j => if a = 194 ∧ j = 0 then v.toInt64 else L a j) = L1 ∧ L1 194 0 = v.toInt64 := ⟨_, rfl, if_pos ⟨rfl, rfl⟩⟩
    rw [hL1] at S
    refine lv_istore (lv' := [(5, .int 0), (0, .ref b), (1, .ref (gb g + 1)), (2, .ref (gb g + 178)), (3, .ref (gb g + 194)), (4, .int x4)]) hx hb dL_law_1350 hl (by decide) rfl (fun ls hl => ?_)
    refine lv_aload_n hx hb dL_law_1352 rfl (lv_at hl 3 rfl) ?_
    refine lv_aload_n hx hb dL_law_1353 rfl (lv_at hl 1 rfl) ?_
    refine lv_iload hx hb dL_law_1354 (lv_at hl 5 rfl) ?_
    refine lv_iconst (v := (1 : Int32)) hx hb dL_law_1356 (by decide) ?_
    refine lv_iadd hx hb dL_law_1357 ?_
    refine va_sld hx hb hX hbl hbA S.2 h1 dL_law_1358 ?_
    refine x_callVI C S KX12 ok_178 (ok_X12_closedBy (L := L1) hmod hSh ok_178) ⟨cd_X12_closedBy, ni_RX12, ml_RL_249, in_X12_closedBy, sl_X12_closedBy⟩ ⟨by decide, by decide⟩ rfl ⟨by decide, by decide⟩ hl.1 rfl (Nat.le_of_ble_eq_true rfl) ⟨by show _ ≤ 601024; omega, by show _ ≤ 7293034; omega⟩ dL_law_1359 (fun H locs S => ?_)
    refine lv_istore (lv' := [(6, .int v), (5, .int 0), (0, .ref b), (1, .ref (gb g + 1)), (2, .ref (gb g + 178)), (3, .ref (gb g + 194)), (4, .int x4)]) hx hb dL_law_1362 hl (by decide) rfl (fun ls hl => ?_)
    refine lv_aload_n hx hb dL_law_1364 rfl (lv_at hl 4 rfl) ?_
    refine x_callVI C S KX12 ok_178 (ok_X12_thrown (L := L1) (thr_eq N R σ2 178) hSh ok_178) ⟨cd_X12_thrown, ni_RX12, ml_RL_178, in_X12_thrown, sl_X12_thrown⟩ ⟨by decide, by decide⟩ rfl ⟨by decide, by decide⟩ hl.1 rfl (Nat.le_of_ble_eq_true rfl) ⟨by show _ ≤ 601024; omega, by show _ ≤ 7293034; omega⟩ dL_law_1365 (fun H locs S => ?_)
    refine lv_iload hx hb dL_law_1368 (lv_at hl 1 rfl) ?_
    refine lv_icmp_eq (tgt := 1375) hx hb dL_law_1370 (by decide) (fun c1 => ?_) (fun c1 => absurd ht c1)
    refine lv_iload hx hb dL_law_1375 (lv_at hl 1 rfl) ?_
    refine lv_if_ne (tgt := 1392) hx hb dL_law_1377 (by decide) (fun c2 => absurd rfl c2) (fun c2 => ?_)
    refine lv_aload_n hx hb dL_law_1380 rfl (lv_at hl 5 rfl) ?_
    refine lv_iconst (v := (0 : Int32)) hx hb dL_law_1381 (by decide) ?_
    refine x_lald C S ok_194 dL_law_1382 ?_
    refine lv_iload hx hb dL_law_1383 (lv_at hl 0 rfl) ?_
    refine lv_i2l hx hb dL_law_1385 rfl ?_
    refine W.lcmp hx hb dL_law_1386 ?_
    refine lv_if_eq (tgt := 1392) hx hb dL_law_1387 (by decide) (fun c4 => ?_) (fun c4 => absurd (by show lg_cmp (L1 194 0) _ = 0; rw [hLv]; exact lgc_self _) c4)
    refine lv_goto (tgt := 3423) hx hb dL_law_1392 (by decide) ?_
    exact W.widen (k := cells + 4) (n := slots + 24) (by omega) (by omega) (kk σ2 R L1 H locs ls hI2 S (lv_sub hl [2, 3, 4, 5, 6] rfl))
  | inr q =>
    obtain ⟨rfl, ht⟩ := hthr q rfl
    refine lv_aload_n hx hb dL_law_1339 rfl (lv_at hl 1 rfl) ?_
    refine lv_aload_n hx hb dL_law_1340 rfl (lv_at hl 0 rfl) ?_
    refine lv_iload hx hb dL_law_1341 (lv_at hl 4 rfl) ?_
    refine lv_iconst (v := (1 : Int32)) hx hb dL_law_1343 (by decide) ?_
    refine lv_iadd hx hb dL_law_1344 ?_
    refine va_sld hx hb hX hbl hbA S.2 h1 dL_law_1345 ?_
    refine lv_aload_n hx hb dL_law_1346 rfl (lv_at hl 3 rfl) ?_
    refine v_callW C S (h_closedBy_x0 (L := L) hm hSh ok_1 ok_194) ⟨cd_L_closedBy, ni_RL, ml_RL_247, st_L_closedBy⟩ ⟨by decide, by decide⟩ rfl ⟨by decide, by decide⟩ hl.1 rfl (Nat.le_of_ble_eq_true rfl) ⟨by show _ ≤ 601024; omega, by show _ ≤ 7293034; omega⟩ dL_law_1347 (fun w σ' H locs hp S => ?_)
    obtain ⟨rfl, rfl⟩ := hp
    have S : S2 g s σ1 R L H locs := S
    refine lv_istore (lv' := [(5, .int 1), (0, .ref b), (1, .ref (gb g + 1)), (2, .ref (gb g + 178)), (3, .ref (gb g + 194)), (4, .int x4)]) hx hb dL_law_1350 hl (by decide) rfl (fun ls hl => ?_)
    refine lv_aload_n hx hb dL_law_1352 rfl (lv_at hl 3 rfl) ?_
    refine lv_aload_n hx hb dL_law_1353 rfl (lv_at hl 1 rfl) ?_
    refine lv_iload hx hb dL_law_1354 (lv_at hl 5 rfl) ?_
    refine lv_iconst (v := (1 : Int32)) hx hb dL_law_1356 (by decide) ?_
    refine lv_iadd hx hb dL_law_1357 ?_
    refine va_sld hx hb hX hbl hbA S.2 h1 dL_law_1358 ?_
    refine x_callVI C S KX12 ok_178 (ok_X12_closedBy (L := L) hmod hSh ok_178) ⟨cd_X12_closedBy, ni_RX12, ml_RL_249, in_X12_closedBy, sl_X12_closedBy⟩ ⟨by decide, by decide⟩ rfl ⟨by decide, by decide⟩ hl.1 rfl (Nat.le_of_ble_eq_true rfl) ⟨by show _ ≤ 601024; omega, by show _ ≤ 7293034; omega⟩ dL_law_1359 (fun H locs S => ?_)
    refine lv_istore (lv' := [(6, .int b2), (5, .int 1), (0, .ref b), (1, .ref (gb g + 1)), (2, .ref (gb g + 178)), (3, .ref (gb g + 194)), (4, .int x4)]) hx hb dL_law_1362 hl (by decide) rfl (fun ls hl => ?_)
    refine lv_aload_n hx hb dL_law_1364 rfl (lv_at hl 4 rfl) ?_
    refine x_callVI C S KX12 ok_178 (ok_X12_thrown (L := L) (thr_eq N R σ2 178) hSh ok_178) ⟨cd_X12_thrown, ni_RX12, ml_RL_178, in_X12_thrown, sl_X12_thrown⟩ ⟨by decide, by decide⟩ rfl ⟨by decide, by decide⟩ hl.1 rfl (Nat.le_of_ble_eq_true rfl) ⟨by show _ ≤ 601024; omega, by show _ ≤ 7293034; omega⟩ dL_law_1365 (fun H locs S => ?_)
    refine lv_iload hx hb dL_law_1368 (lv_at hl 1 rfl) ?_
    refine lv_icmp_eq (tgt := 1375) hx hb dL_law_1370 (by decide) (fun c1 => ?_) (fun c1 => absurd ht c1)
    refine lv_iload hx hb dL_law_1375 (lv_at hl 1 rfl) ?_
    refine lv_if_ne (tgt := 1392) hx hb dL_law_1377 (by decide) (fun c2 => ?_) (fun c2 => absurd c2 (by decide))
    refine lv_goto (tgt := 3423) hx hb dL_law_1392 (by decide) ?_
    exact W.widen (k := cells + 4) (n := slots + 24) (by omega) (by omega) (kk σ2 R L H locs ls hI2 S (lv_sub hl [2, 3, 4, 5, 6] rfl))
set_option maxHeartbeats 4000000 in
set_option maxRecDepth 100000 in
theorem lc_23 {l : Launch} {g : GL} {p : Program} {e : Jvm.Env} {s : State} {m : MethodId} {below : List Frame} {meth : Method} {c : Code} {b Lx : Nat} {xs : Nat → Int32} {N : Nat} {Inv : SI → (Nat → Nat → Nat) → Prop} {σ : SI} {R : Nat → Nat → Nat} {L : Nat → Nat → Int64} {x4 : Int32} {cells slots : Nat} (C : Cx l g p s m meth c cL_law 7 RL) (hX : va_X b Lx xs s s.heap) (hbl : b < s.heap.size) (hbA : ¬ gA g b) (hI : Inv σ R) (hIS : InvOk Inv) (hAg : Ag_23 N Inv) (h1 : vp_in (x4 + 1) Lx) (h2 : vp_in (x4 + 2) Lx) (hcs : cells + 4 ≤ 601024 ∧ slots + 24 ≤ 7293034) (kk : ∀ (σ' : SI) (R' : Nat → Nat → Nat) (L' : Nat → Nat → Int64) (H : Heap) (locs : List Loc) (ls : Array Slot), Inv σ' R' → S2 g s σ' R' L' H locs → lv_has ls 7 [(0, .ref b), (1, .ref (gb g + 1)), (2, .ref (gb g + 178)), (3, .ref (gb g + 194)), (4, .int x4)] → W p l e room_1 s m #[Value.ref b] below meth c H locs (cells + 4) (slots + 24) (lw_Z below #[Value.ref b] s) (F0 m 3423 ls [])) : ∀ (H : Heap) (locs : List Loc) (ls : Array Slot), S2 g s σ R L H locs → lv_has ls 7 [(0, .ref b), (1, .ref (gb g + 1)), (2, .ref (gb g + 178)), (3, .ref (gb g + 194)), (4, .int x4)] → W p l e room_1 s m #[Value.ref b] below meth c H locs (cells) (slots) (lw_Z below #[Value.ref b] s) (F0 m 1395 ls []) := by
  intro H locs ls S hl
  obtain ⟨hc1, hc2⟩ := hcs
  have hx := C.1
  have hb := C.2.1
  have hSh := hIS σ R hI
  obtain ⟨res, σ1, b2, σ2, hm, hmod, hI2, hret, hthr⟩ := hAg σ R (xs (x4 + 1).toNatClampNeg) (xs (x4 + 2).toNatClampNeg) hI
  cases res with
  | inl v =>
    obtain ⟨ht, rfl⟩ := hret v rfl
    refine lv_aload_n hx hb dL_law_1395 rfl (lv_at hl 1 rfl) ?_
    refine lv_aload_n hx hb dL_law_1396 rfl (lv_at hl 0 rfl) ?_
    refine lv_iload hx hb dL_law_1397 (lv_at hl 4 rfl) ?_
    refine lv_iconst (v := (1 : Int32)) hx hb dL_law_1399 (by decide) ?_
    refine lv_iadd hx hb dL_law_1400 ?_
    refine va_sld hx hb hX hbl hbA S.2 h1 dL_law_1401 ?_
    refine lv_aload_n hx hb dL_law_1402 rfl (lv_at hl 0 rfl) ?_
    refine lv_iload hx hb dL_law_1403 (lv_at hl 4 rfl) ?_
    refine lv_iconst (v := (2 : Int32)) hx hb dL_law_1405 (by decide) ?_
    refine lv_iadd hx hb dL_law_1406 ?_
    refine va_sld hx hb hX hbl hbA S.2 h2 dL_law_1407 ?_
    refine lv_aload_n hx hb dL_law_1408 rfl (lv_at hl 3 rfl) ?_
    refine v_callW C S (h_isQuiet_ret (L := L) hm hSh ok_1 ok_194) ⟨cd_L_isQuiet, ni_RL, ml_RL_250, st_L_isQuiet⟩ ⟨by decide, by decide⟩ rfl ⟨by decide, by decide⟩ hl.1 rfl (Nat.le_of_ble_eq_true rfl) ⟨by show _ ≤ 601024; omega, by show _ ≤ 7293034; omega⟩ dL_law_1409 (fun w σ' H locs hp S => ?_)
    obtain ⟨rfl, rfl⟩ := hp
    have S : S2 g s σ1 R (fun a j => if a = 194 ∧ j = 0 then (if v = 0 then 0 else 1 : Int64) else L a j) H locs := S
    obtain ⟨L1, hL1, hLv⟩ : ∃ L1 : Nat → Nat → Int64, (fun a j => if a = 194 ∧ j = 0 then (if v = 0 then 0 else 1 : Int64) else L a j) = L1 ∧ L1 194 0 = (if v = 0 then 0 else 1 : Int64) := ⟨_, rfl, if_pos ⟨rfl, rfl⟩⟩
    rw [hL1] at S
    refine lv_istore (lv' := [(5, .int 0), (0, .ref b), (1, .ref (gb g + 1)), (2, .ref (gb g + 178)), (3, .ref (gb g + 194)), (4, .int x4)]) hx hb dL_law_1412 hl (by decide) rfl (fun ls hl => ?_)
    refine lv_aload_n hx hb dL_law_1414 rfl (lv_at hl 3 rfl) ?_
    refine lv_aload_n hx hb dL_law_1415 rfl (lv_at hl 1 rfl) ?_
    refine lv_iload hx hb dL_law_1416 (lv_at hl 5 rfl) ?_
    refine lv_iconst (v := (1 : Int32)) hx hb dL_law_1418 (by decide) ?_
    refine lv_iadd hx hb dL_law_1419 ?_
    refine va_sld hx hb hX hbl hbA S.2 h1 dL_law_1420 ?_
    refine lv_aload_n hx hb dL_law_1421 rfl (lv_at hl 1 rfl) ?_
    refine lv_iload hx hb dL_law_1422 (lv_at hl 5 rfl) ?_
    refine lv_iconst (v := (2 : Int32)) hx hb dL_law_1424 (by decide) ?_
    refine lv_iadd hx hb dL_law_1425 ?_
    refine va_sld hx hb hX hbl hbA S.2 h2 dL_law_1426 ?_
    refine x_callVI C S KX12 ok_178 (ok_X12_isQuiet (L := L1) hmod hSh ok_178) ⟨cd_X12_isQuiet, ni_RX12, ml_RL_252, in_X12_isQuiet, sl_X12_isQuiet⟩ ⟨by decide, by decide⟩ rfl ⟨by decide, by decide⟩ hl.1 rfl (Nat.le_of_ble_eq_true rfl) ⟨by show _ ≤ 601024; omega, by show _ ≤ 7293034; omega⟩ dL_law_1427 (fun H locs S => ?_)
    refine lv_istore (lv' := [(6, .int v), (5, .int 0), (0, .ref b), (1, .ref (gb g + 1)), (2, .ref (gb g + 178)), (3, .ref (gb g + 194)), (4, .int x4)]) hx hb dL_law_1430 hl (by decide) rfl (fun ls hl => ?_)
    refine lv_aload_n hx hb dL_law_1432 rfl (lv_at hl 4 rfl) ?_
    refine x_callVI C S KX12 ok_178 (ok_X12_thrown (L := L1) (thr_eq N R σ2 178) hSh ok_178) ⟨cd_X12_thrown, ni_RX12, ml_RL_178, in_X12_thrown, sl_X12_thrown⟩ ⟨by decide, by decide⟩ rfl ⟨by decide, by decide⟩ hl.1 rfl (Nat.le_of_ble_eq_true rfl) ⟨by show _ ≤ 601024; omega, by show _ ≤ 7293034; omega⟩ dL_law_1433 (fun H locs S => ?_)
    refine lv_iload hx hb dL_law_1436 (lv_at hl 1 rfl) ?_
    refine lv_icmp_eq (tgt := 1443) hx hb dL_law_1438 (by decide) (fun c1 => ?_) (fun c1 => absurd ht c1)
    refine lv_iload hx hb dL_law_1443 (lv_at hl 1 rfl) ?_
    refine lv_if_ne (tgt := 1467) hx hb dL_law_1445 (by decide) (fun c2 => absurd rfl c2) (fun c2 => ?_)
    refine lv_aload_n hx hb dL_law_1448 rfl (lv_at hl 5 rfl) ?_
    refine lv_iconst (v := (0 : Int32)) hx hb dL_law_1449 (by decide) ?_
    refine x_lald C S ok_194 dL_law_1450 ?_
    refine lv_iload hx hb dL_law_1451 (lv_at hl 0 rfl) ?_
    refine lv_if_eq (tgt := 1460) hx hb dL_law_1453 (by decide) (fun c3 => ?_) (fun c3 => ?_)
    · refine lv_lconst (v := (0 : Int64)) hx hb dL_law_1460 (by decide) ?_
      refine W.lcmp hx hb dL_law_1461 ?_
      refine lv_if_eq (tgt := 1467) hx hb dL_law_1462 (by decide) (fun c4 => ?_) (fun c4 => absurd (by show lg_cmp (L1 194 0) _ = 0; rw [hLv, if_pos c3]; exact lgc_self _) c4)
      refine lv_goto (tgt := 3423) hx hb dL_law_1467 (by decide) ?_
      exact W.widen (k := cells + 4) (n := slots + 24) (by omega) (by omega) (kk σ2 R L1 H locs ls hI2 S (lv_sub hl [2, 3, 4, 5, 6] rfl))
    · refine lv_lconst (v := (1 : Int64)) hx hb dL_law_1456 (by decide) ?_
      refine lv_goto (tgt := 1461) hx hb dL_law_1457 (by decide) ?_
      refine W.lcmp hx hb dL_law_1461 ?_
      refine lv_if_eq (tgt := 1467) hx hb dL_law_1462 (by decide) (fun c4 => ?_) (fun c4 => absurd (by show lg_cmp (L1 194 0) _ = 0; rw [hLv, if_neg c3]; exact lgc_self _) c4)
      refine lv_goto (tgt := 3423) hx hb dL_law_1467 (by decide) ?_
      exact W.widen (k := cells + 4) (n := slots + 24) (by omega) (by omega) (kk σ2 R L1 H locs ls hI2 S (lv_sub hl [2, 3, 4, 5, 6] rfl))
  | inr q =>
    obtain ⟨rfl, ht⟩ := hthr q rfl
    refine lv_aload_n hx hb dL_law_1395 rfl (lv_at hl 1 rfl) ?_
    refine lv_aload_n hx hb dL_law_1396 rfl (lv_at hl 0 rfl) ?_
    refine lv_iload hx hb dL_law_1397 (lv_at hl 4 rfl) ?_
    refine lv_iconst (v := (1 : Int32)) hx hb dL_law_1399 (by decide) ?_
    refine lv_iadd hx hb dL_law_1400 ?_
    refine va_sld hx hb hX hbl hbA S.2 h1 dL_law_1401 ?_
    refine lv_aload_n hx hb dL_law_1402 rfl (lv_at hl 0 rfl) ?_
    refine lv_iload hx hb dL_law_1403 (lv_at hl 4 rfl) ?_
    refine lv_iconst (v := (2 : Int32)) hx hb dL_law_1405 (by decide) ?_
    refine lv_iadd hx hb dL_law_1406 ?_
    refine va_sld hx hb hX hbl hbA S.2 h2 dL_law_1407 ?_
    refine lv_aload_n hx hb dL_law_1408 rfl (lv_at hl 3 rfl) ?_
    refine v_callW C S (h_isQuiet_x0 (L := L) hm hSh ok_1 ok_194) ⟨cd_L_isQuiet, ni_RL, ml_RL_250, st_L_isQuiet⟩ ⟨by decide, by decide⟩ rfl ⟨by decide, by decide⟩ hl.1 rfl (Nat.le_of_ble_eq_true rfl) ⟨by show _ ≤ 601024; omega, by show _ ≤ 7293034; omega⟩ dL_law_1409 (fun w σ' H locs hp S => ?_)
    obtain ⟨rfl, rfl⟩ := hp
    have S : S2 g s σ1 R L H locs := S
    refine lv_istore (lv' := [(5, .int 1), (0, .ref b), (1, .ref (gb g + 1)), (2, .ref (gb g + 178)), (3, .ref (gb g + 194)), (4, .int x4)]) hx hb dL_law_1412 hl (by decide) rfl (fun ls hl => ?_)
    refine lv_aload_n hx hb dL_law_1414 rfl (lv_at hl 3 rfl) ?_
    refine lv_aload_n hx hb dL_law_1415 rfl (lv_at hl 1 rfl) ?_
    refine lv_iload hx hb dL_law_1416 (lv_at hl 5 rfl) ?_
    refine lv_iconst (v := (1 : Int32)) hx hb dL_law_1418 (by decide) ?_
    refine lv_iadd hx hb dL_law_1419 ?_
    refine va_sld hx hb hX hbl hbA S.2 h1 dL_law_1420 ?_
    refine lv_aload_n hx hb dL_law_1421 rfl (lv_at hl 1 rfl) ?_
    refine lv_iload hx hb dL_law_1422 (lv_at hl 5 rfl) ?_
    refine lv_iconst (v := (2 : Int32)) hx hb dL_law_1424 (by decide) ?_
    refine lv_iadd hx hb dL_law_1425 ?_
    refine va_sld hx hb hX hbl hbA S.2 h2 dL_law_1426 ?_
    refine x_callVI C S KX12 ok_178 (ok_X12_isQuiet (L := L) hmod hSh ok_178) ⟨cd_X12_isQuiet, ni_RX12, ml_RL_252, in_X12_isQuiet, sl_X12_isQuiet⟩ ⟨by decide, by decide⟩ rfl ⟨by decide, by decide⟩ hl.1 rfl (Nat.le_of_ble_eq_true rfl) ⟨by show _ ≤ 601024; omega, by show _ ≤ 7293034; omega⟩ dL_law_1427 (fun H locs S => ?_)
    refine lv_istore (lv' := [(6, .int b2), (5, .int 1), (0, .ref b), (1, .ref (gb g + 1)), (2, .ref (gb g + 178)), (3, .ref (gb g + 194)), (4, .int x4)]) hx hb dL_law_1430 hl (by decide) rfl (fun ls hl => ?_)
    refine lv_aload_n hx hb dL_law_1432 rfl (lv_at hl 4 rfl) ?_
    refine x_callVI C S KX12 ok_178 (ok_X12_thrown (L := L) (thr_eq N R σ2 178) hSh ok_178) ⟨cd_X12_thrown, ni_RX12, ml_RL_178, in_X12_thrown, sl_X12_thrown⟩ ⟨by decide, by decide⟩ rfl ⟨by decide, by decide⟩ hl.1 rfl (Nat.le_of_ble_eq_true rfl) ⟨by show _ ≤ 601024; omega, by show _ ≤ 7293034; omega⟩ dL_law_1433 (fun H locs S => ?_)
    refine lv_iload hx hb dL_law_1436 (lv_at hl 1 rfl) ?_
    refine lv_icmp_eq (tgt := 1443) hx hb dL_law_1438 (by decide) (fun c1 => ?_) (fun c1 => absurd ht c1)
    refine lv_iload hx hb dL_law_1443 (lv_at hl 1 rfl) ?_
    refine lv_if_ne (tgt := 1467) hx hb dL_law_1445 (by decide) (fun c2 => ?_) (fun c2 => absurd c2 (by decide))
    refine lv_goto (tgt := 3423) hx hb dL_law_1467 (by decide) ?_
    exact W.widen (k := cells + 4) (n := slots + 24) (by omega) (by omega) (kk σ2 R L H locs ls hI2 S (lv_sub hl [2, 3, 4, 5, 6] rfl))
set_option maxHeartbeats 4000000 in
set_option maxRecDepth 100000 in
theorem lc_24 {l : Launch} {g : GL} {p : Program} {e : Jvm.Env} {s : State} {m : MethodId} {below : List Frame} {meth : Method} {c : Code} {b Lx : Nat} {xs : Nat → Int32} {N : Nat} {Inv : SI → (Nat → Nat → Nat) → Prop} {σ : SI} {R : Nat → Nat → Nat} {L : Nat → Nat → Int64} {x4 : Int32} {cells slots : Nat} (C : Cx l g p s m meth c cL_law 7 RL) (hX : va_X b Lx xs s s.heap) (hbl : b < s.heap.size) (hbA : ¬ gA g b) (hI : Inv σ R) (hIS : InvOk Inv) (hAg : Ag_24 N Inv) (h1 : vp_in (x4 + 1) Lx) (h2 : vp_in (x4 + 2) Lx) (hcs : cells + 4 ≤ 601024 ∧ slots + 24 ≤ 7293034) (kk : ∀ (σ' : SI) (R' : Nat → Nat → Nat) (L' : Nat → Nat → Int64) (H : Heap) (locs : List Loc) (ls : Array Slot), Inv σ' R' → S2 g s σ' R' L' H locs → lv_has ls 7 [(0, .ref b), (1, .ref (gb g + 1)), (2, .ref (gb g + 178)), (3, .ref (gb g + 194)), (4, .int x4)] → W p l e room_1 s m #[Value.ref b] below meth c H locs (cells + 4) (slots + 24) (lw_Z below #[Value.ref b] s) (F0 m 3423 ls [])) : ∀ (H : Heap) (locs : List Loc) (ls : Array Slot), S2 g s σ R L H locs → lv_has ls 7 [(0, .ref b), (1, .ref (gb g + 1)), (2, .ref (gb g + 178)), (3, .ref (gb g + 194)), (4, .int x4)] → W p l e room_1 s m #[Value.ref b] below meth c H locs (cells) (slots) (lw_Z below #[Value.ref b] s) (F0 m 1470 ls []) := by
  intro H locs ls S hl
  obtain ⟨hc1, hc2⟩ := hcs
  have hx := C.1
  have hb := C.2.1
  have hSh := hIS σ R hI
  obtain ⟨res, σ1, b2, σ2, hm, hmod, hI2, hret, hthr⟩ := hAg σ R (xs (x4 + 1).toNatClampNeg) (xs (x4 + 2).toNatClampNeg) hI
  cases res with
  | inl v =>
    obtain ⟨ht, rfl⟩ := hret v rfl
    refine lv_aload_n hx hb dL_law_1470 rfl (lv_at hl 1 rfl) ?_
    refine lv_aload_n hx hb dL_law_1471 rfl (lv_at hl 0 rfl) ?_
    refine lv_iload hx hb dL_law_1472 (lv_at hl 4 rfl) ?_
    refine lv_iconst (v := (1 : Int32)) hx hb dL_law_1474 (by decide) ?_
    refine lv_iadd hx hb dL_law_1475 ?_
    refine va_sld hx hb hX hbl hbA S.2 h1 dL_law_1476 ?_
    refine lv_aload_n hx hb dL_law_1477 rfl (lv_at hl 0 rfl) ?_
    refine lv_iload hx hb dL_law_1478 (lv_at hl 4 rfl) ?_
    refine lv_iconst (v := (2 : Int32)) hx hb dL_law_1480 (by decide) ?_
    refine lv_iadd hx hb dL_law_1481 ?_
    refine va_sld hx hb hX hbl hbA S.2 h2 dL_law_1482 ?_
    refine lv_aload_n hx hb dL_law_1483 rfl (lv_at hl 3 rfl) ?_
    refine v_callW C S (h_dustAt_ret (L := L) hm hSh ok_1 ok_194) ⟨cd_L_dustAt, ni_RL, ml_RL_253, st_L_dustAt⟩ ⟨by decide, by decide⟩ rfl ⟨by decide, by decide⟩ hl.1 rfl (Nat.le_of_ble_eq_true rfl) ⟨by show _ ≤ 601024; omega, by show _ ≤ 7293034; omega⟩ dL_law_1484 (fun w σ' H locs hp S => ?_)
    obtain ⟨rfl, rfl⟩ := hp
    have S : S2 g s σ1 R (fun a j => if a = 194 ∧ j = 0 then v.toInt64 else L a j) H locs := S
    obtain ⟨L1, hL1, hLv⟩ : ∃ L1 : Nat → Nat → Int64, (fun a j => if a = 194 ∧ j = 0 then v.toInt64 else L a j) = L1 ∧ L1 194 0 = v.toInt64 := ⟨_, rfl, if_pos ⟨rfl, rfl⟩⟩
    rw [hL1] at S
    refine lv_istore (lv' := [(5, .int 0), (0, .ref b), (1, .ref (gb g + 1)), (2, .ref (gb g + 178)), (3, .ref (gb g + 194)), (4, .int x4)]) hx hb dL_law_1487 hl (by decide) rfl (fun ls hl => ?_)
    refine lv_aload_n hx hb dL_law_1489 rfl (lv_at hl 3 rfl) ?_
    refine lv_aload_n hx hb dL_law_1490 rfl (lv_at hl 1 rfl) ?_
    refine lv_iload hx hb dL_law_1491 (lv_at hl 5 rfl) ?_
    refine lv_iconst (v := (1 : Int32)) hx hb dL_law_1493 (by decide) ?_
    refine lv_iadd hx hb dL_law_1494 ?_
    refine va_sld hx hb hX hbl hbA S.2 h1 dL_law_1495 ?_
    refine lv_aload_n hx hb dL_law_1496 rfl (lv_at hl 1 rfl) ?_
    refine lv_iload hx hb dL_law_1497 (lv_at hl 5 rfl) ?_
    refine lv_iconst (v := (2 : Int32)) hx hb dL_law_1499 (by decide) ?_
    refine lv_iadd hx hb dL_law_1500 ?_
    refine va_sld hx hb hX hbl hbA S.2 h2 dL_law_1501 ?_
    refine x_callVI C S KX12 ok_178 (ok_X12_dustAt (L := L1) hmod hSh ok_178) ⟨cd_X12_dustAt, ni_RX12, ml_RL_255, in_X12_dustAt, sl_X12_dustAt⟩ ⟨by decide, by decide⟩ rfl ⟨by decide, by decide⟩ hl.1 rfl (Nat.le_of_ble_eq_true rfl) ⟨by show _ ≤ 601024; omega, by show _ ≤ 7293034; omega⟩ dL_law_1502 (fun H locs S => ?_)
    refine lv_istore (lv' := [(6, .int v), (5, .int 0), (0, .ref b), (1, .ref (gb g + 1)), (2, .ref (gb g + 178)), (3, .ref (gb g + 194)), (4, .int x4)]) hx hb dL_law_1505 hl (by decide) rfl (fun ls hl => ?_)
    refine lv_aload_n hx hb dL_law_1507 rfl (lv_at hl 4 rfl) ?_
    refine x_callVI C S KX12 ok_178 (ok_X12_thrown (L := L1) (thr_eq N R σ2 178) hSh ok_178) ⟨cd_X12_thrown, ni_RX12, ml_RL_178, in_X12_thrown, sl_X12_thrown⟩ ⟨by decide, by decide⟩ rfl ⟨by decide, by decide⟩ hl.1 rfl (Nat.le_of_ble_eq_true rfl) ⟨by show _ ≤ 601024; omega, by show _ ≤ 7293034; omega⟩ dL_law_1508 (fun H locs S => ?_)
    refine lv_iload hx hb dL_law_1511 (lv_at hl 1 rfl) ?_
    refine lv_icmp_eq (tgt := 1518) hx hb dL_law_1513 (by decide) (fun c1 => ?_) (fun c1 => absurd ht c1)
    refine lv_iload hx hb dL_law_1518 (lv_at hl 1 rfl) ?_
    refine lv_if_ne (tgt := 1535) hx hb dL_law_1520 (by decide) (fun c2 => absurd rfl c2) (fun c2 => ?_)
    refine lv_aload_n hx hb dL_law_1523 rfl (lv_at hl 5 rfl) ?_
    refine lv_iconst (v := (0 : Int32)) hx hb dL_law_1524 (by decide) ?_
    refine x_lald C S ok_194 dL_law_1525 ?_
    refine lv_iload hx hb dL_law_1526 (lv_at hl 0 rfl) ?_
    refine lv_i2l hx hb dL_law_1528 rfl ?_
    refine W.lcmp hx hb dL_law_1529 ?_
    refine lv_if_eq (tgt := 1535) hx hb dL_law_1530 (by decide) (fun c4 => ?_) (fun c4 => absurd (by show lg_cmp (L1 194 0) _ = 0; rw [hLv]; exact lgc_self _) c4)
    refine lv_goto (tgt := 3423) hx hb dL_law_1535 (by decide) ?_
    exact W.widen (k := cells + 4) (n := slots + 24) (by omega) (by omega) (kk σ2 R L1 H locs ls hI2 S (lv_sub hl [2, 3, 4, 5, 6] rfl))
  | inr q =>
    rcases hthr q rfl with ⟨rfl, ht⟩ | ⟨rfl, ht⟩
    · refine lv_aload_n hx hb dL_law_1470 rfl (lv_at hl 1 rfl) ?_
      refine lv_aload_n hx hb dL_law_1471 rfl (lv_at hl 0 rfl) ?_
      refine lv_iload hx hb dL_law_1472 (lv_at hl 4 rfl) ?_
      refine lv_iconst (v := (1 : Int32)) hx hb dL_law_1474 (by decide) ?_
      refine lv_iadd hx hb dL_law_1475 ?_
      refine va_sld hx hb hX hbl hbA S.2 h1 dL_law_1476 ?_
      refine lv_aload_n hx hb dL_law_1477 rfl (lv_at hl 0 rfl) ?_
      refine lv_iload hx hb dL_law_1478 (lv_at hl 4 rfl) ?_
      refine lv_iconst (v := (2 : Int32)) hx hb dL_law_1480 (by decide) ?_
      refine lv_iadd hx hb dL_law_1481 ?_
      refine va_sld hx hb hX hbl hbA S.2 h2 dL_law_1482 ?_
      refine lv_aload_n hx hb dL_law_1483 rfl (lv_at hl 3 rfl) ?_
      refine v_callW C S (h_dustAt_x0 (L := L) hm hSh ok_1 ok_194) ⟨cd_L_dustAt, ni_RL, ml_RL_253, st_L_dustAt⟩ ⟨by decide, by decide⟩ rfl ⟨by decide, by decide⟩ hl.1 rfl (Nat.le_of_ble_eq_true rfl) ⟨by show _ ≤ 601024; omega, by show _ ≤ 7293034; omega⟩ dL_law_1484 (fun w σ' H locs hp S => ?_)
      obtain ⟨rfl, rfl⟩ := hp
      have S : S2 g s σ1 R L H locs := S
      refine lv_istore (lv' := [(5, .int 1), (0, .ref b), (1, .ref (gb g + 1)), (2, .ref (gb g + 178)), (3, .ref (gb g + 194)), (4, .int x4)]) hx hb dL_law_1487 hl (by decide) rfl (fun ls hl => ?_)
      refine lv_aload_n hx hb dL_law_1489 rfl (lv_at hl 3 rfl) ?_
      refine lv_aload_n hx hb dL_law_1490 rfl (lv_at hl 1 rfl) ?_
      refine lv_iload hx hb dL_law_1491 (lv_at hl 5 rfl) ?_
      refine lv_iconst (v := (1 : Int32)) hx hb dL_law_1493 (by decide) ?_
      refine lv_iadd hx hb dL_law_1494 ?_
      refine va_sld hx hb hX hbl hbA S.2 h1 dL_law_1495 ?_
      refine lv_aload_n hx hb dL_law_1496 rfl (lv_at hl 1 rfl) ?_
      refine lv_iload hx hb dL_law_1497 (lv_at hl 5 rfl) ?_
      refine lv_iconst (v := (2 : Int32)) hx hb dL_law_1499 (by decide) ?_
      refine lv_iadd hx hb dL_law_1500 ?_
      refine va_sld hx hb hX hbl hbA S.2 h2 dL_law_1501 ?_
      refine x_callVI C S KX12 ok_178 (ok_X12_dustAt (L := L) hmod hSh ok_178) ⟨cd_X12_dustAt, ni_RX12, ml_RL_255, in_X12_dustAt, sl_X12_dustAt⟩ ⟨by decide, by decide⟩ rfl ⟨by decide, by decide⟩ hl.1 rfl (Nat.le_of_ble_eq_true rfl) ⟨by show _ ≤ 601024; omega, by show _ ≤ 7293034; omega⟩ dL_law_1502 (fun H locs S => ?_)
      refine lv_istore (lv' := [(6, .int b2), (5, .int 1), (0, .ref b), (1, .ref (gb g + 1)), (2, .ref (gb g + 178)), (3, .ref (gb g + 194)), (4, .int x4)]) hx hb dL_law_1505 hl (by decide) rfl (fun ls hl => ?_)
      refine lv_aload_n hx hb dL_law_1507 rfl (lv_at hl 4 rfl) ?_
      refine x_callVI C S KX12 ok_178 (ok_X12_thrown (L := L) (thr_eq N R σ2 178) hSh ok_178) ⟨cd_X12_thrown, ni_RX12, ml_RL_178, in_X12_thrown, sl_X12_thrown⟩ ⟨by decide, by decide⟩ rfl ⟨by decide, by decide⟩ hl.1 rfl (Nat.le_of_ble_eq_true rfl) ⟨by show _ ≤ 601024; omega, by show _ ≤ 7293034; omega⟩ dL_law_1508 (fun H locs S => ?_)
      refine lv_iload hx hb dL_law_1511 (lv_at hl 1 rfl) ?_
      refine lv_icmp_eq (tgt := 1518) hx hb dL_law_1513 (by decide) (fun c1 => ?_) (fun c1 => absurd ht c1)
      refine lv_iload hx hb dL_law_1518 (lv_at hl 1 rfl) ?_
      refine lv_if_ne (tgt := 1535) hx hb dL_law_1520 (by decide) (fun c2 => ?_) (fun c2 => absurd c2 (by decide))
      refine lv_goto (tgt := 3423) hx hb dL_law_1535 (by decide) ?_
      exact W.widen (k := cells + 4) (n := slots + 24) (by omega) (by omega) (kk σ2 R L H locs ls hI2 S (lv_sub hl [2, 3, 4, 5, 6] rfl))
    · refine lv_aload_n hx hb dL_law_1470 rfl (lv_at hl 1 rfl) ?_
      refine lv_aload_n hx hb dL_law_1471 rfl (lv_at hl 0 rfl) ?_
      refine lv_iload hx hb dL_law_1472 (lv_at hl 4 rfl) ?_
      refine lv_iconst (v := (1 : Int32)) hx hb dL_law_1474 (by decide) ?_
      refine lv_iadd hx hb dL_law_1475 ?_
      refine va_sld hx hb hX hbl hbA S.2 h1 dL_law_1476 ?_
      refine lv_aload_n hx hb dL_law_1477 rfl (lv_at hl 0 rfl) ?_
      refine lv_iload hx hb dL_law_1478 (lv_at hl 4 rfl) ?_
      refine lv_iconst (v := (2 : Int32)) hx hb dL_law_1480 (by decide) ?_
      refine lv_iadd hx hb dL_law_1481 ?_
      refine va_sld hx hb hX hbl hbA S.2 h2 dL_law_1482 ?_
      refine lv_aload_n hx hb dL_law_1483 rfl (lv_at hl 3 rfl) ?_
      refine v_callW C S (h_dustAt_x1 (L := L) hm hSh ok_1 ok_194) ⟨cd_L_dustAt, ni_RL, ml_RL_253, st_L_dustAt⟩ ⟨by decide, by decide⟩ rfl ⟨by decide, by decide⟩ hl.1 rfl (Nat.le_of_ble_eq_true rfl) ⟨by show _ ≤ 601024; omega, by show _ ≤ 7293034; omega⟩ dL_law_1484 (fun w σ' H locs hp S => ?_)
      obtain ⟨rfl, rfl⟩ := hp
      have S : S2 g s σ1 R L H locs := S
      refine lv_istore (lv' := [(5, .int 2), (0, .ref b), (1, .ref (gb g + 1)), (2, .ref (gb g + 178)), (3, .ref (gb g + 194)), (4, .int x4)]) hx hb dL_law_1487 hl (by decide) rfl (fun ls hl => ?_)
      refine lv_aload_n hx hb dL_law_1489 rfl (lv_at hl 3 rfl) ?_
      refine lv_aload_n hx hb dL_law_1490 rfl (lv_at hl 1 rfl) ?_
      refine lv_iload hx hb dL_law_1491 (lv_at hl 5 rfl) ?_
      refine lv_iconst (v := (1 : Int32)) hx hb dL_law_1493 (by decide) ?_
      refine lv_iadd hx hb dL_law_1494 ?_
      refine va_sld hx hb hX hbl hbA S.2 h1 dL_law_1495 ?_
      refine lv_aload_n hx hb dL_law_1496 rfl (lv_at hl 1 rfl) ?_
      refine lv_iload hx hb dL_law_1497 (lv_at hl 5 rfl) ?_
      refine lv_iconst (v := (2 : Int32)) hx hb dL_law_1499 (by decide) ?_
      refine lv_iadd hx hb dL_law_1500 ?_
      refine va_sld hx hb hX hbl hbA S.2 h2 dL_law_1501 ?_
      refine x_callVI C S KX12 ok_178 (ok_X12_dustAt (L := L) hmod hSh ok_178) ⟨cd_X12_dustAt, ni_RX12, ml_RL_255, in_X12_dustAt, sl_X12_dustAt⟩ ⟨by decide, by decide⟩ rfl ⟨by decide, by decide⟩ hl.1 rfl (Nat.le_of_ble_eq_true rfl) ⟨by show _ ≤ 601024; omega, by show _ ≤ 7293034; omega⟩ dL_law_1502 (fun H locs S => ?_)
      refine lv_istore (lv' := [(6, .int b2), (5, .int 2), (0, .ref b), (1, .ref (gb g + 1)), (2, .ref (gb g + 178)), (3, .ref (gb g + 194)), (4, .int x4)]) hx hb dL_law_1505 hl (by decide) rfl (fun ls hl => ?_)
      refine lv_aload_n hx hb dL_law_1507 rfl (lv_at hl 4 rfl) ?_
      refine x_callVI C S KX12 ok_178 (ok_X12_thrown (L := L) (thr_eq N R σ2 178) hSh ok_178) ⟨cd_X12_thrown, ni_RX12, ml_RL_178, in_X12_thrown, sl_X12_thrown⟩ ⟨by decide, by decide⟩ rfl ⟨by decide, by decide⟩ hl.1 rfl (Nat.le_of_ble_eq_true rfl) ⟨by show _ ≤ 601024; omega, by show _ ≤ 7293034; omega⟩ dL_law_1508 (fun H locs S => ?_)
      refine lv_iload hx hb dL_law_1511 (lv_at hl 1 rfl) ?_
      refine lv_icmp_eq (tgt := 1518) hx hb dL_law_1513 (by decide) (fun c1 => ?_) (fun c1 => absurd ht c1)
      refine lv_iload hx hb dL_law_1518 (lv_at hl 1 rfl) ?_
      refine lv_if_ne (tgt := 1535) hx hb dL_law_1520 (by decide) (fun c2 => ?_) (fun c2 => absurd c2 (by decide))
      refine lv_goto (tgt := 3423) hx hb dL_law_1535 (by decide) ?_
      exact W.widen (k := cells + 4) (n := slots + 24) (by omega) (by omega) (kk σ2 R L H locs ls hI2 S (lv_sub hl [2, 3, 4, 5, 6] rfl))
set_option maxHeartbeats 4000000 in
set_option maxRecDepth 100000 in
theorem lc_25 {l : Launch} {g : GL} {p : Program} {e : Jvm.Env} {s : State} {m : MethodId} {below : List Frame} {meth : Method} {c : Code} {b Lx : Nat} {xs : Nat → Int32} {N : Nat} {Inv : SI → (Nat → Nat → Nat) → Prop} {σ : SI} {R : Nat → Nat → Nat} {L : Nat → Nat → Int64} {x4 : Int32} {cells slots : Nat} (C : Cx l g p s m meth c cL_law 7 RL) (hX : va_X b Lx xs s s.heap) (hbl : b < s.heap.size) (hbA : ¬ gA g b) (hI : Inv σ R) (hIS : InvOk Inv) (hAg : Ag_25 N Inv) (h1 : vp_in (x4 + 1) Lx) (h2 : vp_in (x4 + 2) Lx) (hcs : cells + 4 ≤ 601024 ∧ slots + 24 ≤ 7293034) (kk : ∀ (σ' : SI) (R' : Nat → Nat → Nat) (L' : Nat → Nat → Int64) (H : Heap) (locs : List Loc) (ls : Array Slot), Inv σ' R' → S2 g s σ' R' L' H locs → lv_has ls 7 [(0, .ref b), (1, .ref (gb g + 1)), (2, .ref (gb g + 178)), (3, .ref (gb g + 194)), (4, .int x4)] → W p l e room_1 s m #[Value.ref b] below meth c H locs (cells + 4) (slots + 24) (lw_Z below #[Value.ref b] s) (F0 m 3423 ls [])) : ∀ (H : Heap) (locs : List Loc) (ls : Array Slot), S2 g s σ R L H locs → lv_has ls 7 [(0, .ref b), (1, .ref (gb g + 1)), (2, .ref (gb g + 178)), (3, .ref (gb g + 194)), (4, .int x4)] → W p l e room_1 s m #[Value.ref b] below meth c H locs (cells) (slots) (lw_Z below #[Value.ref b] s) (F0 m 1538 ls []) := by
  intro H locs ls S hl
  obtain ⟨hc1, hc2⟩ := hcs
  have hx := C.1
  have hb := C.2.1
  have hSh := hIS σ R hI
  obtain ⟨res, σ1, b2, σ2, hm, hmod, hI2, hret, hthr⟩ := hAg σ R (xs (x4 + 1).toNatClampNeg) (xs (x4 + 2).toNatClampNeg) hI
  cases res with
  | inl v =>
    obtain ⟨ht, rfl⟩ := hret v rfl
    refine lv_aload_n hx hb dL_law_1538 rfl (lv_at hl 1 rfl) ?_
    refine lv_aload_n hx hb dL_law_1539 rfl (lv_at hl 0 rfl) ?_
    refine lv_iload hx hb dL_law_1540 (lv_at hl 4 rfl) ?_
    refine lv_iconst (v := (1 : Int32)) hx hb dL_law_1542 (by decide) ?_
    refine lv_iadd hx hb dL_law_1543 ?_
    refine va_sld hx hb hX hbl hbA S.2 h1 dL_law_1544 ?_
    refine lv_aload_n hx hb dL_law_1545 rfl (lv_at hl 0 rfl) ?_
    refine lv_iload hx hb dL_law_1546 (lv_at hl 4 rfl) ?_
    refine lv_iconst (v := (2 : Int32)) hx hb dL_law_1548 (by decide) ?_
    refine lv_iadd hx hb dL_law_1549 ?_
    refine va_sld hx hb hX hbl hbA S.2 h2 dL_law_1550 ?_
    refine lv_aload_n hx hb dL_law_1551 rfl (lv_at hl 3 rfl) ?_
    refine v_callW C S (h_neededRadius_ret (L := L) hm hSh ok_1 ok_194) ⟨cd_L_neededRadius, ni_RL, ml_RL_256, st_L_neededRadius⟩ ⟨by decide, by decide⟩ rfl ⟨by decide, by decide⟩ hl.1 rfl (Nat.le_of_ble_eq_true rfl) ⟨by show _ ≤ 601024; omega, by show _ ≤ 7293034; omega⟩ dL_law_1552 (fun w σ' H locs hp S => ?_)
    obtain ⟨rfl, rfl⟩ := hp
    have S : S2 g s σ1 R (fun a j => if a = 194 ∧ j = 0 then v.toInt64 else L a j) H locs := S
    obtain ⟨L1, hL1, hLv⟩ : ∃ L1 : Nat → Nat → Int64, (fun a j => if a = 194 ∧ j = 0 then v.toInt64 else L a j) = L1 ∧ L1 194 0 = v.toInt64 := ⟨_, rfl, if_pos ⟨rfl, rfl⟩⟩
    rw [hL1] at S
    refine lv_istore (lv' := [(5, .int 0), (0, .ref b), (1, .ref (gb g + 1)), (2, .ref (gb g + 178)), (3, .ref (gb g + 194)), (4, .int x4)]) hx hb dL_law_1555 hl (by decide) rfl (fun ls hl => ?_)
    refine lv_aload_n hx hb dL_law_1557 rfl (lv_at hl 3 rfl) ?_
    refine lv_aload_n hx hb dL_law_1558 rfl (lv_at hl 1 rfl) ?_
    refine lv_iload hx hb dL_law_1559 (lv_at hl 5 rfl) ?_
    refine lv_iconst (v := (1 : Int32)) hx hb dL_law_1561 (by decide) ?_
    refine lv_iadd hx hb dL_law_1562 ?_
    refine va_sld hx hb hX hbl hbA S.2 h1 dL_law_1563 ?_
    refine lv_aload_n hx hb dL_law_1564 rfl (lv_at hl 1 rfl) ?_
    refine lv_iload hx hb dL_law_1565 (lv_at hl 5 rfl) ?_
    refine lv_iconst (v := (2 : Int32)) hx hb dL_law_1567 (by decide) ?_
    refine lv_iadd hx hb dL_law_1568 ?_
    refine va_sld hx hb hX hbl hbA S.2 h2 dL_law_1569 ?_
    refine x_callVI C S KX12 ok_178 (ok_X12_neededRadius (L := L1) hmod hSh ok_178) ⟨cd_X12_neededRadius, ni_RX12, ml_RL_258, in_X12_neededRadius, sl_X12_neededRadius⟩ ⟨by decide, by decide⟩ rfl ⟨by decide, by decide⟩ hl.1 rfl (Nat.le_of_ble_eq_true rfl) ⟨by show _ ≤ 601024; omega, by show _ ≤ 7293034; omega⟩ dL_law_1570 (fun H locs S => ?_)
    refine lv_istore (lv' := [(6, .int v), (5, .int 0), (0, .ref b), (1, .ref (gb g + 1)), (2, .ref (gb g + 178)), (3, .ref (gb g + 194)), (4, .int x4)]) hx hb dL_law_1573 hl (by decide) rfl (fun ls hl => ?_)
    refine lv_aload_n hx hb dL_law_1575 rfl (lv_at hl 4 rfl) ?_
    refine x_callVI C S KX12 ok_178 (ok_X12_thrown (L := L1) (thr_eq N R σ2 178) hSh ok_178) ⟨cd_X12_thrown, ni_RX12, ml_RL_178, in_X12_thrown, sl_X12_thrown⟩ ⟨by decide, by decide⟩ rfl ⟨by decide, by decide⟩ hl.1 rfl (Nat.le_of_ble_eq_true rfl) ⟨by show _ ≤ 601024; omega, by show _ ≤ 7293034; omega⟩ dL_law_1576 (fun H locs S => ?_)
    refine lv_iload hx hb dL_law_1579 (lv_at hl 1 rfl) ?_
    refine lv_icmp_eq (tgt := 1586) hx hb dL_law_1581 (by decide) (fun c1 => ?_) (fun c1 => absurd ht c1)
    refine lv_iload hx hb dL_law_1586 (lv_at hl 1 rfl) ?_
    refine lv_if_ne (tgt := 1603) hx hb dL_law_1588 (by decide) (fun c2 => absurd rfl c2) (fun c2 => ?_)
    refine lv_aload_n hx hb dL_law_1591 rfl (lv_at hl 5 rfl) ?_
    refine lv_iconst (v := (0 : Int32)) hx hb dL_law_1592 (by decide) ?_
    refine x_lald C S ok_194 dL_law_1593 ?_
    refine lv_iload hx hb dL_law_1594 (lv_at hl 0 rfl) ?_
    refine lv_i2l hx hb dL_law_1596 rfl ?_
    refine W.lcmp hx hb dL_law_1597 ?_
    refine lv_if_eq (tgt := 1603) hx hb dL_law_1598 (by decide) (fun c4 => ?_) (fun c4 => absurd (by show lg_cmp (L1 194 0) _ = 0; rw [hLv]; exact lgc_self _) c4)
    refine lv_goto (tgt := 3423) hx hb dL_law_1603 (by decide) ?_
    exact W.widen (k := cells + 4) (n := slots + 24) (by omega) (by omega) (kk σ2 R L1 H locs ls hI2 S (lv_sub hl [2, 3, 4, 5, 6] rfl))
  | inr q =>
    obtain ⟨rfl, ht⟩ := hthr q rfl
    refine lv_aload_n hx hb dL_law_1538 rfl (lv_at hl 1 rfl) ?_
    refine lv_aload_n hx hb dL_law_1539 rfl (lv_at hl 0 rfl) ?_
    refine lv_iload hx hb dL_law_1540 (lv_at hl 4 rfl) ?_
    refine lv_iconst (v := (1 : Int32)) hx hb dL_law_1542 (by decide) ?_
    refine lv_iadd hx hb dL_law_1543 ?_
    refine va_sld hx hb hX hbl hbA S.2 h1 dL_law_1544 ?_
    refine lv_aload_n hx hb dL_law_1545 rfl (lv_at hl 0 rfl) ?_
    refine lv_iload hx hb dL_law_1546 (lv_at hl 4 rfl) ?_
    refine lv_iconst (v := (2 : Int32)) hx hb dL_law_1548 (by decide) ?_
    refine lv_iadd hx hb dL_law_1549 ?_
    refine va_sld hx hb hX hbl hbA S.2 h2 dL_law_1550 ?_
    refine lv_aload_n hx hb dL_law_1551 rfl (lv_at hl 3 rfl) ?_
    refine v_callW C S (h_neededRadius_x0 (L := L) hm hSh ok_1 ok_194) ⟨cd_L_neededRadius, ni_RL, ml_RL_256, st_L_neededRadius⟩ ⟨by decide, by decide⟩ rfl ⟨by decide, by decide⟩ hl.1 rfl (Nat.le_of_ble_eq_true rfl) ⟨by show _ ≤ 601024; omega, by show _ ≤ 7293034; omega⟩ dL_law_1552 (fun w σ' H locs hp S => ?_)
    obtain ⟨rfl, rfl⟩ := hp
    have S : S2 g s σ1 R L H locs := S
    refine lv_istore (lv' := [(5, .int 1), (0, .ref b), (1, .ref (gb g + 1)), (2, .ref (gb g + 178)), (3, .ref (gb g + 194)), (4, .int x4)]) hx hb dL_law_1555 hl (by decide) rfl (fun ls hl => ?_)
    refine lv_aload_n hx hb dL_law_1557 rfl (lv_at hl 3 rfl) ?_
    refine lv_aload_n hx hb dL_law_1558 rfl (lv_at hl 1 rfl) ?_
    refine lv_iload hx hb dL_law_1559 (lv_at hl 5 rfl) ?_
    refine lv_iconst (v := (1 : Int32)) hx hb dL_law_1561 (by decide) ?_
    refine lv_iadd hx hb dL_law_1562 ?_
    refine va_sld hx hb hX hbl hbA S.2 h1 dL_law_1563 ?_
    refine lv_aload_n hx hb dL_law_1564 rfl (lv_at hl 1 rfl) ?_
    refine lv_iload hx hb dL_law_1565 (lv_at hl 5 rfl) ?_
    refine lv_iconst (v := (2 : Int32)) hx hb dL_law_1567 (by decide) ?_
    refine lv_iadd hx hb dL_law_1568 ?_
    refine va_sld hx hb hX hbl hbA S.2 h2 dL_law_1569 ?_
    refine x_callVI C S KX12 ok_178 (ok_X12_neededRadius (L := L) hmod hSh ok_178) ⟨cd_X12_neededRadius, ni_RX12, ml_RL_258, in_X12_neededRadius, sl_X12_neededRadius⟩ ⟨by decide, by decide⟩ rfl ⟨by decide, by decide⟩ hl.1 rfl (Nat.le_of_ble_eq_true rfl) ⟨by show _ ≤ 601024; omega, by show _ ≤ 7293034; omega⟩ dL_law_1570 (fun H locs S => ?_)
    refine lv_istore (lv' := [(6, .int b2), (5, .int 1), (0, .ref b), (1, .ref (gb g + 1)), (2, .ref (gb g + 178)), (3, .ref (gb g + 194)), (4, .int x4)]) hx hb dL_law_1573 hl (by decide) rfl (fun ls hl => ?_)
    refine lv_aload_n hx hb dL_law_1575 rfl (lv_at hl 4 rfl) ?_
    refine x_callVI C S KX12 ok_178 (ok_X12_thrown (L := L) (thr_eq N R σ2 178) hSh ok_178) ⟨cd_X12_thrown, ni_RX12, ml_RL_178, in_X12_thrown, sl_X12_thrown⟩ ⟨by decide, by decide⟩ rfl ⟨by decide, by decide⟩ hl.1 rfl (Nat.le_of_ble_eq_true rfl) ⟨by show _ ≤ 601024; omega, by show _ ≤ 7293034; omega⟩ dL_law_1576 (fun H locs S => ?_)
    refine lv_iload hx hb dL_law_1579 (lv_at hl 1 rfl) ?_
    refine lv_icmp_eq (tgt := 1586) hx hb dL_law_1581 (by decide) (fun c1 => ?_) (fun c1 => absurd ht c1)
    refine lv_iload hx hb dL_law_1586 (lv_at hl 1 rfl) ?_
    refine lv_if_ne (tgt := 1603) hx hb dL_law_1588 (by decide) (fun c2 => ?_) (fun c2 => absurd c2 (by decide))
    refine lv_goto (tgt := 3423) hx hb dL_law_1603 (by decide) ?_
    exact W.widen (k := cells + 4) (n := slots + 24) (by omega) (by omega) (kk σ2 R L H locs ls hI2 S (lv_sub hl [2, 3, 4, 5, 6] rfl))
set_option maxHeartbeats 4000000 in
set_option maxRecDepth 100000 in
theorem lc_26 {l : Launch} {g : GL} {p : Program} {e : Jvm.Env} {s : State} {m : MethodId} {below : List Frame} {meth : Method} {c : Code} {b Lx : Nat} {xs : Nat → Int32} {N : Nat} {Inv : SI → (Nat → Nat → Nat) → Prop} {σ : SI} {R : Nat → Nat → Nat} {L : Nat → Nat → Int64} {x4 : Int32} {cells slots : Nat} (C : Cx l g p s m meth c cL_law 7 RL) (hX : va_X b Lx xs s s.heap) (hbl : b < s.heap.size) (hbA : ¬ gA g b) (hI : Inv σ R) (hIS : InvOk Inv) (hAg : Ag_26 N Inv) (h1 : vp_in (x4 + 1) Lx) (hcs : cells + 4 ≤ 601024 ∧ slots + 24 ≤ 7293034) (kk : ∀ (σ' : SI) (R' : Nat → Nat → Nat) (L' : Nat → Nat → Int64) (H : Heap) (locs : List Loc) (ls : Array Slot), Inv σ' R' → S2 g s σ' R' L' H locs → lv_has ls 7 [(0, .ref b), (1, .ref (gb g + 1)), (2, .ref (gb g + 178)), (3, .ref (gb g + 194)), (4, .int x4)] → W p l e room_1 s m #[Value.ref b] below meth c H locs (cells + 4) (slots + 24) (lw_Z below #[Value.ref b] s) (F0 m 3423 ls [])) : ∀ (H : Heap) (locs : List Loc) (ls : Array Slot), S2 g s σ R L H locs → lv_has ls 7 [(0, .ref b), (1, .ref (gb g + 1)), (2, .ref (gb g + 178)), (3, .ref (gb g + 194)), (4, .int x4)] → W p l e room_1 s m #[Value.ref b] below meth c H locs (cells) (slots) (lw_Z below #[Value.ref b] s) (F0 m 1606 ls []) := by
  intro H locs ls S hl
  obtain ⟨hc1, hc2⟩ := hcs
  have hx := C.1
  have hb := C.2.1
  have hSh := hIS σ R hI
  obtain ⟨res, σ1, b2, σ2, hm, hmod, hI2, hret, hthr⟩ := hAg σ R (xs (x4 + 1).toNatClampNeg) hI
  cases res with
  | inl v =>
    obtain ⟨ht, rfl⟩ := hret v rfl
    refine lv_aload_n hx hb dL_law_1606 rfl (lv_at hl 1 rfl) ?_
    refine lv_aload_n hx hb dL_law_1607 rfl (lv_at hl 0 rfl) ?_
    refine lv_iload hx hb dL_law_1608 (lv_at hl 4 rfl) ?_
    refine lv_iconst (v := (1 : Int32)) hx hb dL_law_1610 (by decide) ?_
    refine lv_iadd hx hb dL_law_1611 ?_
    refine va_sld hx hb hX hbl hbA S.2 h1 dL_law_1612 ?_
    refine lv_aload_n hx hb dL_law_1613 rfl (lv_at hl 3 rfl) ?_
    refine v_callW C S (h_quietMinutes_ret (L := L) hm hSh ok_1 ok_194) ⟨cd_L_quietMinutes, ni_RL, ml_RL_259, st_L_quietMinutes⟩ ⟨by decide, by decide⟩ rfl ⟨by decide, by decide⟩ hl.1 rfl (Nat.le_of_ble_eq_true rfl) ⟨by show _ ≤ 601024; omega, by show _ ≤ 7293034; omega⟩ dL_law_1614 (fun w σ' H locs hp S => ?_)
    obtain ⟨rfl, rfl⟩ := hp
    have S : S2 g s σ1 R (fun a j => if a = 194 ∧ j = 0 then v.toInt64 else L a j) H locs := S
    obtain ⟨L1, hL1, hLv⟩ : ∃ L1 : Nat → Nat → Int64, (fun a j => if a = 194 ∧ j = 0 then v.toInt64 else L a j) = L1 ∧ L1 194 0 = v.toInt64 := ⟨_, rfl, if_pos ⟨rfl, rfl⟩⟩
    rw [hL1] at S
    refine lv_istore (lv' := [(5, .int 0), (0, .ref b), (1, .ref (gb g + 1)), (2, .ref (gb g + 178)), (3, .ref (gb g + 194)), (4, .int x4)]) hx hb dL_law_1617 hl (by decide) rfl (fun ls hl => ?_)
    refine lv_aload_n hx hb dL_law_1619 rfl (lv_at hl 3 rfl) ?_
    refine lv_aload_n hx hb dL_law_1620 rfl (lv_at hl 1 rfl) ?_
    refine lv_iload hx hb dL_law_1621 (lv_at hl 5 rfl) ?_
    refine lv_iconst (v := (1 : Int32)) hx hb dL_law_1623 (by decide) ?_
    refine lv_iadd hx hb dL_law_1624 ?_
    refine va_sld hx hb hX hbl hbA S.2 h1 dL_law_1625 ?_
    refine x_callVI C S KX12 ok_178 (ok_X12_quietMinutes (L := L1) hmod hSh ok_178) ⟨cd_X12_quietMinutes, ni_RX12, ml_RL_261, in_X12_quietMinutes, sl_X12_quietMinutes⟩ ⟨by decide, by decide⟩ rfl ⟨by decide, by decide⟩ hl.1 rfl (Nat.le_of_ble_eq_true rfl) ⟨by show _ ≤ 601024; omega, by show _ ≤ 7293034; omega⟩ dL_law_1626 (fun H locs S => ?_)
    refine lv_istore (lv' := [(6, .int v), (5, .int 0), (0, .ref b), (1, .ref (gb g + 1)), (2, .ref (gb g + 178)), (3, .ref (gb g + 194)), (4, .int x4)]) hx hb dL_law_1629 hl (by decide) rfl (fun ls hl => ?_)
    refine lv_aload_n hx hb dL_law_1631 rfl (lv_at hl 4 rfl) ?_
    refine x_callVI C S KX12 ok_178 (ok_X12_thrown (L := L1) (thr_eq N R σ2 178) hSh ok_178) ⟨cd_X12_thrown, ni_RX12, ml_RL_178, in_X12_thrown, sl_X12_thrown⟩ ⟨by decide, by decide⟩ rfl ⟨by decide, by decide⟩ hl.1 rfl (Nat.le_of_ble_eq_true rfl) ⟨by show _ ≤ 601024; omega, by show _ ≤ 7293034; omega⟩ dL_law_1632 (fun H locs S => ?_)
    refine lv_iload hx hb dL_law_1635 (lv_at hl 1 rfl) ?_
    refine lv_icmp_eq (tgt := 1642) hx hb dL_law_1637 (by decide) (fun c1 => ?_) (fun c1 => absurd ht c1)
    refine lv_iload hx hb dL_law_1642 (lv_at hl 1 rfl) ?_
    refine lv_if_ne (tgt := 1659) hx hb dL_law_1644 (by decide) (fun c2 => absurd rfl c2) (fun c2 => ?_)
    refine lv_aload_n hx hb dL_law_1647 rfl (lv_at hl 5 rfl) ?_
    refine lv_iconst (v := (0 : Int32)) hx hb dL_law_1648 (by decide) ?_
    refine x_lald C S ok_194 dL_law_1649 ?_
    refine lv_iload hx hb dL_law_1650 (lv_at hl 0 rfl) ?_
    refine lv_i2l hx hb dL_law_1652 rfl ?_
    refine W.lcmp hx hb dL_law_1653 ?_
    refine lv_if_eq (tgt := 1659) hx hb dL_law_1654 (by decide) (fun c4 => ?_) (fun c4 => absurd (by show lg_cmp (L1 194 0) _ = 0; rw [hLv]; exact lgc_self _) c4)
    refine lv_goto (tgt := 3423) hx hb dL_law_1659 (by decide) ?_
    exact W.widen (k := cells + 4) (n := slots + 24) (by omega) (by omega) (kk σ2 R L1 H locs ls hI2 S (lv_sub hl [2, 3, 4, 5, 6] rfl))
  | inr q =>
    obtain ⟨rfl, ht⟩ := hthr q rfl
    refine lv_aload_n hx hb dL_law_1606 rfl (lv_at hl 1 rfl) ?_
    refine lv_aload_n hx hb dL_law_1607 rfl (lv_at hl 0 rfl) ?_
    refine lv_iload hx hb dL_law_1608 (lv_at hl 4 rfl) ?_
    refine lv_iconst (v := (1 : Int32)) hx hb dL_law_1610 (by decide) ?_
    refine lv_iadd hx hb dL_law_1611 ?_
    refine va_sld hx hb hX hbl hbA S.2 h1 dL_law_1612 ?_
    refine lv_aload_n hx hb dL_law_1613 rfl (lv_at hl 3 rfl) ?_
    refine v_callW C S (h_quietMinutes_x0 (L := L) hm hSh ok_1 ok_194) ⟨cd_L_quietMinutes, ni_RL, ml_RL_259, st_L_quietMinutes⟩ ⟨by decide, by decide⟩ rfl ⟨by decide, by decide⟩ hl.1 rfl (Nat.le_of_ble_eq_true rfl) ⟨by show _ ≤ 601024; omega, by show _ ≤ 7293034; omega⟩ dL_law_1614 (fun w σ' H locs hp S => ?_)
    obtain ⟨rfl, rfl⟩ := hp
    have S : S2 g s σ1 R L H locs := S
    refine lv_istore (lv' := [(5, .int 1), (0, .ref b), (1, .ref (gb g + 1)), (2, .ref (gb g + 178)), (3, .ref (gb g + 194)), (4, .int x4)]) hx hb dL_law_1617 hl (by decide) rfl (fun ls hl => ?_)
    refine lv_aload_n hx hb dL_law_1619 rfl (lv_at hl 3 rfl) ?_
    refine lv_aload_n hx hb dL_law_1620 rfl (lv_at hl 1 rfl) ?_
    refine lv_iload hx hb dL_law_1621 (lv_at hl 5 rfl) ?_
    refine lv_iconst (v := (1 : Int32)) hx hb dL_law_1623 (by decide) ?_
    refine lv_iadd hx hb dL_law_1624 ?_
    refine va_sld hx hb hX hbl hbA S.2 h1 dL_law_1625 ?_
    refine x_callVI C S KX12 ok_178 (ok_X12_quietMinutes (L := L) hmod hSh ok_178) ⟨cd_X12_quietMinutes, ni_RX12, ml_RL_261, in_X12_quietMinutes, sl_X12_quietMinutes⟩ ⟨by decide, by decide⟩ rfl ⟨by decide, by decide⟩ hl.1 rfl (Nat.le_of_ble_eq_true rfl) ⟨by show _ ≤ 601024; omega, by show _ ≤ 7293034; omega⟩ dL_law_1626 (fun H locs S => ?_)
    refine lv_istore (lv' := [(6, .int b2), (5, .int 1), (0, .ref b), (1, .ref (gb g + 1)), (2, .ref (gb g + 178)), (3, .ref (gb g + 194)), (4, .int x4)]) hx hb dL_law_1629 hl (by decide) rfl (fun ls hl => ?_)
    refine lv_aload_n hx hb dL_law_1631 rfl (lv_at hl 4 rfl) ?_
    refine x_callVI C S KX12 ok_178 (ok_X12_thrown (L := L) (thr_eq N R σ2 178) hSh ok_178) ⟨cd_X12_thrown, ni_RX12, ml_RL_178, in_X12_thrown, sl_X12_thrown⟩ ⟨by decide, by decide⟩ rfl ⟨by decide, by decide⟩ hl.1 rfl (Nat.le_of_ble_eq_true rfl) ⟨by show _ ≤ 601024; omega, by show _ ≤ 7293034; omega⟩ dL_law_1632 (fun H locs S => ?_)
    refine lv_iload hx hb dL_law_1635 (lv_at hl 1 rfl) ?_
    refine lv_icmp_eq (tgt := 1642) hx hb dL_law_1637 (by decide) (fun c1 => ?_) (fun c1 => absurd ht c1)
    refine lv_iload hx hb dL_law_1642 (lv_at hl 1 rfl) ?_
    refine lv_if_ne (tgt := 1659) hx hb dL_law_1644 (by decide) (fun c2 => ?_) (fun c2 => absurd c2 (by decide))
    refine lv_goto (tgt := 3423) hx hb dL_law_1659 (by decide) ?_
    exact W.widen (k := cells + 4) (n := slots + 24) (by omega) (by omega) (kk σ2 R L H locs ls hI2 S (lv_sub hl [2, 3, 4, 5, 6] rfl))
set_option maxHeartbeats 4000000 in
set_option maxRecDepth 100000 in
theorem lc_27 {l : Launch} {g : GL} {p : Program} {e : Jvm.Env} {s : State} {m : MethodId} {below : List Frame} {meth : Method} {c : Code} {b Lx : Nat} {xs : Nat → Int32} {N : Nat} {Inv : SI → (Nat → Nat → Nat) → Prop} {σ : SI} {R : Nat → Nat → Nat} {L : Nat → Nat → Int64} {x4 : Int32} {cells slots : Nat} (C : Cx l g p s m meth c cL_law 7 RL) (hX : va_X b Lx xs s s.heap) (hbl : b < s.heap.size) (hbA : ¬ gA g b) (hI : Inv σ R) (hIS : InvOk Inv) (hAg : Ag_27 N Inv) (h1 : vp_in (x4 + 1) Lx) (hcs : cells + 4 ≤ 601024 ∧ slots + 24 ≤ 7293034) (kk : ∀ (σ' : SI) (R' : Nat → Nat → Nat) (L' : Nat → Nat → Int64) (H : Heap) (locs : List Loc) (ls : Array Slot), Inv σ' R' → S2 g s σ' R' L' H locs → lv_has ls 7 [(0, .ref b), (1, .ref (gb g + 1)), (2, .ref (gb g + 178)), (3, .ref (gb g + 194)), (4, .int x4)] → W p l e room_1 s m #[Value.ref b] below meth c H locs (cells + 4) (slots + 24) (lw_Z below #[Value.ref b] s) (F0 m 3423 ls [])) : ∀ (H : Heap) (locs : List Loc) (ls : Array Slot), S2 g s σ R L H locs → lv_has ls 7 [(0, .ref b), (1, .ref (gb g + 1)), (2, .ref (gb g + 178)), (3, .ref (gb g + 194)), (4, .int x4)] → W p l e room_1 s m #[Value.ref b] below meth c H locs (cells) (slots) (lw_Z below #[Value.ref b] s) (F0 m 1662 ls []) := by
  intro H locs ls S hl
  obtain ⟨hc1, hc2⟩ := hcs
  have hx := C.1
  have hb := C.2.1
  have hSh := hIS σ R hI
  obtain ⟨res, σ1, b2, σ2, hm, hmod, hI2, hret, hthr⟩ := hAg σ R (xs (x4 + 1).toNatClampNeg) hI
  cases res with
  | inl v =>
    obtain ⟨ht, rfl⟩ := hret v rfl
    refine lv_aload_n hx hb dL_law_1662 rfl (lv_at hl 1 rfl) ?_
    refine lv_aload_n hx hb dL_law_1663 rfl (lv_at hl 0 rfl) ?_
    refine lv_iload hx hb dL_law_1664 (lv_at hl 4 rfl) ?_
    refine lv_iconst (v := (1 : Int32)) hx hb dL_law_1666 (by decide) ?_
    refine lv_iadd hx hb dL_law_1667 ?_
    refine va_sld hx hb hX hbl hbA S.2 h1 dL_law_1668 ?_
    refine lv_aload_n hx hb dL_law_1669 rfl (lv_at hl 3 rfl) ?_
    refine v_callW C S (h_dustHours_ret (L := L) hm hSh ok_1 ok_194) ⟨cd_L_dustHours, ni_RL, ml_RL_262, st_L_dustHours⟩ ⟨by decide, by decide⟩ rfl ⟨by decide, by decide⟩ hl.1 rfl (Nat.le_of_ble_eq_true rfl) ⟨by show _ ≤ 601024; omega, by show _ ≤ 7293034; omega⟩ dL_law_1670 (fun w σ' H locs hp S => ?_)
    obtain ⟨rfl, rfl⟩ := hp
    have S : S2 g s σ1 R (fun a j => if a = 194 ∧ j = 0 then v.toInt64 else L a j) H locs := S
    obtain ⟨L1, hL1, hLv⟩ : ∃ L1 : Nat → Nat → Int64, (fun a j => if a = 194 ∧ j = 0 then v.toInt64 else L a j) = L1 ∧ L1 194 0 = v.toInt64 := ⟨_, rfl, if_pos ⟨rfl, rfl⟩⟩
    rw [hL1] at S
    refine lv_istore (lv' := [(5, .int 0), (0, .ref b), (1, .ref (gb g + 1)), (2, .ref (gb g + 178)), (3, .ref (gb g + 194)), (4, .int x4)]) hx hb dL_law_1673 hl (by decide) rfl (fun ls hl => ?_)
    refine lv_aload_n hx hb dL_law_1675 rfl (lv_at hl 3 rfl) ?_
    refine lv_aload_n hx hb dL_law_1676 rfl (lv_at hl 1 rfl) ?_
    refine lv_iload hx hb dL_law_1677 (lv_at hl 5 rfl) ?_
    refine lv_iconst (v := (1 : Int32)) hx hb dL_law_1679 (by decide) ?_
    refine lv_iadd hx hb dL_law_1680 ?_
    refine va_sld hx hb hX hbl hbA S.2 h1 dL_law_1681 ?_
    refine x_callVI C S KX12 ok_178 (ok_X12_dustHours (L := L1) hmod hSh ok_178) ⟨cd_X12_dustHours, ni_RX12, ml_RL_264, in_X12_dustHours, sl_X12_dustHours⟩ ⟨by decide, by decide⟩ rfl ⟨by decide, by decide⟩ hl.1 rfl (Nat.le_of_ble_eq_true rfl) ⟨by show _ ≤ 601024; omega, by show _ ≤ 7293034; omega⟩ dL_law_1682 (fun H locs S => ?_)
    refine lv_istore (lv' := [(6, .int v), (5, .int 0), (0, .ref b), (1, .ref (gb g + 1)), (2, .ref (gb g + 178)), (3, .ref (gb g + 194)), (4, .int x4)]) hx hb dL_law_1685 hl (by decide) rfl (fun ls hl => ?_)
    refine lv_aload_n hx hb dL_law_1687 rfl (lv_at hl 4 rfl) ?_
    refine x_callVI C S KX12 ok_178 (ok_X12_thrown (L := L1) (thr_eq N R σ2 178) hSh ok_178) ⟨cd_X12_thrown, ni_RX12, ml_RL_178, in_X12_thrown, sl_X12_thrown⟩ ⟨by decide, by decide⟩ rfl ⟨by decide, by decide⟩ hl.1 rfl (Nat.le_of_ble_eq_true rfl) ⟨by show _ ≤ 601024; omega, by show _ ≤ 7293034; omega⟩ dL_law_1688 (fun H locs S => ?_)
    refine lv_iload hx hb dL_law_1691 (lv_at hl 1 rfl) ?_
    refine lv_icmp_eq (tgt := 1698) hx hb dL_law_1693 (by decide) (fun c1 => ?_) (fun c1 => absurd ht c1)
    refine lv_iload hx hb dL_law_1698 (lv_at hl 1 rfl) ?_
    refine lv_if_ne (tgt := 1715) hx hb dL_law_1700 (by decide) (fun c2 => absurd rfl c2) (fun c2 => ?_)
    refine lv_aload_n hx hb dL_law_1703 rfl (lv_at hl 5 rfl) ?_
    refine lv_iconst (v := (0 : Int32)) hx hb dL_law_1704 (by decide) ?_
    refine x_lald C S ok_194 dL_law_1705 ?_
    refine lv_iload hx hb dL_law_1706 (lv_at hl 0 rfl) ?_
    refine lv_i2l hx hb dL_law_1708 rfl ?_
    refine W.lcmp hx hb dL_law_1709 ?_
    refine lv_if_eq (tgt := 1715) hx hb dL_law_1710 (by decide) (fun c4 => ?_) (fun c4 => absurd (by show lg_cmp (L1 194 0) _ = 0; rw [hLv]; exact lgc_self _) c4)
    refine lv_goto (tgt := 3423) hx hb dL_law_1715 (by decide) ?_
    exact W.widen (k := cells + 4) (n := slots + 24) (by omega) (by omega) (kk σ2 R L1 H locs ls hI2 S (lv_sub hl [2, 3, 4, 5, 6] rfl))
  | inr q =>
    obtain ⟨rfl, ht⟩ := hthr q rfl
    refine lv_aload_n hx hb dL_law_1662 rfl (lv_at hl 1 rfl) ?_
    refine lv_aload_n hx hb dL_law_1663 rfl (lv_at hl 0 rfl) ?_
    refine lv_iload hx hb dL_law_1664 (lv_at hl 4 rfl) ?_
    refine lv_iconst (v := (1 : Int32)) hx hb dL_law_1666 (by decide) ?_
    refine lv_iadd hx hb dL_law_1667 ?_
    refine va_sld hx hb hX hbl hbA S.2 h1 dL_law_1668 ?_
    refine lv_aload_n hx hb dL_law_1669 rfl (lv_at hl 3 rfl) ?_
    refine v_callW C S (h_dustHours_x0 (L := L) hm hSh ok_1 ok_194) ⟨cd_L_dustHours, ni_RL, ml_RL_262, st_L_dustHours⟩ ⟨by decide, by decide⟩ rfl ⟨by decide, by decide⟩ hl.1 rfl (Nat.le_of_ble_eq_true rfl) ⟨by show _ ≤ 601024; omega, by show _ ≤ 7293034; omega⟩ dL_law_1670 (fun w σ' H locs hp S => ?_)
    obtain ⟨rfl, rfl⟩ := hp
    have S : S2 g s σ1 R L H locs := S
    refine lv_istore (lv' := [(5, .int 1), (0, .ref b), (1, .ref (gb g + 1)), (2, .ref (gb g + 178)), (3, .ref (gb g + 194)), (4, .int x4)]) hx hb dL_law_1673 hl (by decide) rfl (fun ls hl => ?_)
    refine lv_aload_n hx hb dL_law_1675 rfl (lv_at hl 3 rfl) ?_
    refine lv_aload_n hx hb dL_law_1676 rfl (lv_at hl 1 rfl) ?_
    refine lv_iload hx hb dL_law_1677 (lv_at hl 5 rfl) ?_
    refine lv_iconst (v := (1 : Int32)) hx hb dL_law_1679 (by decide) ?_
    refine lv_iadd hx hb dL_law_1680 ?_
    refine va_sld hx hb hX hbl hbA S.2 h1 dL_law_1681 ?_
    refine x_callVI C S KX12 ok_178 (ok_X12_dustHours (L := L) hmod hSh ok_178) ⟨cd_X12_dustHours, ni_RX12, ml_RL_264, in_X12_dustHours, sl_X12_dustHours⟩ ⟨by decide, by decide⟩ rfl ⟨by decide, by decide⟩ hl.1 rfl (Nat.le_of_ble_eq_true rfl) ⟨by show _ ≤ 601024; omega, by show _ ≤ 7293034; omega⟩ dL_law_1682 (fun H locs S => ?_)
    refine lv_istore (lv' := [(6, .int b2), (5, .int 1), (0, .ref b), (1, .ref (gb g + 1)), (2, .ref (gb g + 178)), (3, .ref (gb g + 194)), (4, .int x4)]) hx hb dL_law_1685 hl (by decide) rfl (fun ls hl => ?_)
    refine lv_aload_n hx hb dL_law_1687 rfl (lv_at hl 4 rfl) ?_
    refine x_callVI C S KX12 ok_178 (ok_X12_thrown (L := L) (thr_eq N R σ2 178) hSh ok_178) ⟨cd_X12_thrown, ni_RX12, ml_RL_178, in_X12_thrown, sl_X12_thrown⟩ ⟨by decide, by decide⟩ rfl ⟨by decide, by decide⟩ hl.1 rfl (Nat.le_of_ble_eq_true rfl) ⟨by show _ ≤ 601024; omega, by show _ ≤ 7293034; omega⟩ dL_law_1688 (fun H locs S => ?_)
    refine lv_iload hx hb dL_law_1691 (lv_at hl 1 rfl) ?_
    refine lv_icmp_eq (tgt := 1698) hx hb dL_law_1693 (by decide) (fun c1 => ?_) (fun c1 => absurd ht c1)
    refine lv_iload hx hb dL_law_1698 (lv_at hl 1 rfl) ?_
    refine lv_if_ne (tgt := 1715) hx hb dL_law_1700 (by decide) (fun c2 => ?_) (fun c2 => absurd c2 (by decide))
    refine lv_goto (tgt := 3423) hx hb dL_law_1715 (by decide) ?_
    exact W.widen (k := cells + 4) (n := slots + 24) (by omega) (by omega) (kk σ2 R L H locs ls hI2 S (lv_sub hl [2, 3, 4, 5, 6] rfl))
set_option maxHeartbeats 4000000 in
set_option maxRecDepth 100000 in
theorem lc_28 {l : Launch} {g : GL} {p : Program} {e : Jvm.Env} {s : State} {m : MethodId} {below : List Frame} {meth : Method} {c : Code} {b Lx : Nat} {xs : Nat → Int32} {N : Nat} {Inv : SI → (Nat → Nat → Nat) → Prop} {σ : SI} {R : Nat → Nat → Nat} {L : Nat → Nat → Int64} {x4 : Int32} {cells slots : Nat} (C : Cx l g p s m meth c cL_law 7 RL) (hX : va_X b Lx xs s s.heap) (hbl : b < s.heap.size) (hbA : ¬ gA g b) (hI : Inv σ R) (hIS : InvOk Inv) (hAg : Ag_28 N Inv) (h1 : vp_in (x4 + 1) Lx) (hcs : cells + 4 ≤ 601024 ∧ slots + 24 ≤ 7293034) (kk : ∀ (σ' : SI) (R' : Nat → Nat → Nat) (L' : Nat → Nat → Int64) (H : Heap) (locs : List Loc) (ls : Array Slot), Inv σ' R' → S2 g s σ' R' L' H locs → lv_has ls 7 [(0, .ref b), (1, .ref (gb g + 1)), (2, .ref (gb g + 178)), (3, .ref (gb g + 194)), (4, .int x4)] → W p l e room_1 s m #[Value.ref b] below meth c H locs (cells + 4) (slots + 24) (lw_Z below #[Value.ref b] s) (F0 m 3423 ls [])) : ∀ (H : Heap) (locs : List Loc) (ls : Array Slot), S2 g s σ R L H locs → lv_has ls 7 [(0, .ref b), (1, .ref (gb g + 1)), (2, .ref (gb g + 178)), (3, .ref (gb g + 194)), (4, .int x4)] → W p l e room_1 s m #[Value.ref b] below meth c H locs (cells) (slots) (lw_Z below #[Value.ref b] s) (F0 m 1718 ls []) := by
  intro H locs ls S hl
  obtain ⟨hc1, hc2⟩ := hcs
  have hx := C.1
  have hb := C.2.1
  have hSh := hIS σ R hI
  obtain ⟨res, σ1, b2, σ2, hm, hmod, hI2, hret, hthr⟩ := hAg σ R (xs (x4 + 1).toNatClampNeg) hI
  cases res with
  | inl v =>
    obtain ⟨ht, rfl⟩ := hret v rfl
    refine lv_aload_n hx hb dL_law_1718 rfl (lv_at hl 1 rfl) ?_
    refine lv_aload_n hx hb dL_law_1719 rfl (lv_at hl 0 rfl) ?_
    refine lv_iload hx hb dL_law_1720 (lv_at hl 4 rfl) ?_
    refine lv_iconst (v := (1 : Int32)) hx hb dL_law_1722 (by decide) ?_
    refine lv_iadd hx hb dL_law_1723 ?_
    refine va_sld hx hb hX hbl hbA S.2 h1 dL_law_1724 ?_
    refine lv_aload_n hx hb dL_law_1725 rfl (lv_at hl 3 rfl) ?_
    refine v_callW C S (h_timeOf_ret (L := L) hm hSh ok_1 ok_194) ⟨cd_L_timeOf, ni_RL, ml_RL_265, st_L_timeOf⟩ ⟨by decide, by decide⟩ rfl ⟨by decide, by decide⟩ hl.1 rfl (Nat.le_of_ble_eq_true rfl) ⟨by show _ ≤ 601024; omega, by show _ ≤ 7293034; omega⟩ dL_law_1726 (fun w σ' H locs hp S => ?_)
    obtain ⟨rfl, rfl⟩ := hp
    have S : S2 g s σ1 R (fun a j => if a = 194 ∧ j = 0 then v.toInt64 else L a j) H locs := S
    obtain ⟨L1, hL1, hLv⟩ : ∃ L1 : Nat → Nat → Int64, (fun a j => if a = 194 ∧ j = 0 then v.toInt64 else L a j) = L1 ∧ L1 194 0 = v.toInt64 := ⟨_, rfl, if_pos ⟨rfl, rfl⟩⟩
    rw [hL1] at S
    refine lv_istore (lv' := [(5, .int 0), (0, .ref b), (1, .ref (gb g + 1)), (2, .ref (gb g + 178)), (3, .ref (gb g + 194)), (4, .int x4)]) hx hb dL_law_1729 hl (by decide) rfl (fun ls hl => ?_)
    refine lv_aload_n hx hb dL_law_1731 rfl (lv_at hl 3 rfl) ?_
    refine lv_aload_n hx hb dL_law_1732 rfl (lv_at hl 1 rfl) ?_
    refine lv_iload hx hb dL_law_1733 (lv_at hl 5 rfl) ?_
    refine lv_iconst (v := (1 : Int32)) hx hb dL_law_1735 (by decide) ?_
    refine lv_iadd hx hb dL_law_1736 ?_
    refine va_sld hx hb hX hbl hbA S.2 h1 dL_law_1737 ?_
    refine x_callVI C S KX12 ok_178 (ok_X12_timeOf (L := L1) hmod hSh ok_178) ⟨cd_X12_timeOf, ni_RX12, ml_RL_267, in_X12_timeOf, sl_X12_timeOf⟩ ⟨by decide, by decide⟩ rfl ⟨by decide, by decide⟩ hl.1 rfl (Nat.le_of_ble_eq_true rfl) ⟨by show _ ≤ 601024; omega, by show _ ≤ 7293034; omega⟩ dL_law_1738 (fun H locs S => ?_)
    refine lv_istore (lv' := [(6, .int v), (5, .int 0), (0, .ref b), (1, .ref (gb g + 1)), (2, .ref (gb g + 178)), (3, .ref (gb g + 194)), (4, .int x4)]) hx hb dL_law_1741 hl (by decide) rfl (fun ls hl => ?_)
    refine lv_aload_n hx hb dL_law_1743 rfl (lv_at hl 4 rfl) ?_
    refine x_callVI C S KX12 ok_178 (ok_X12_thrown (L := L1) (thr_eq N R σ2 178) hSh ok_178) ⟨cd_X12_thrown, ni_RX12, ml_RL_178, in_X12_thrown, sl_X12_thrown⟩ ⟨by decide, by decide⟩ rfl ⟨by decide, by decide⟩ hl.1 rfl (Nat.le_of_ble_eq_true rfl) ⟨by show _ ≤ 601024; omega, by show _ ≤ 7293034; omega⟩ dL_law_1744 (fun H locs S => ?_)
    refine lv_iload hx hb dL_law_1747 (lv_at hl 1 rfl) ?_
    refine lv_icmp_eq (tgt := 1754) hx hb dL_law_1749 (by decide) (fun c1 => ?_) (fun c1 => absurd ht c1)
    refine lv_iload hx hb dL_law_1754 (lv_at hl 1 rfl) ?_
    refine lv_if_ne (tgt := 1771) hx hb dL_law_1756 (by decide) (fun c2 => absurd rfl c2) (fun c2 => ?_)
    refine lv_aload_n hx hb dL_law_1759 rfl (lv_at hl 5 rfl) ?_
    refine lv_iconst (v := (0 : Int32)) hx hb dL_law_1760 (by decide) ?_
    refine x_lald C S ok_194 dL_law_1761 ?_
    refine lv_iload hx hb dL_law_1762 (lv_at hl 0 rfl) ?_
    refine lv_i2l hx hb dL_law_1764 rfl ?_
    refine W.lcmp hx hb dL_law_1765 ?_
    refine lv_if_eq (tgt := 1771) hx hb dL_law_1766 (by decide) (fun c4 => ?_) (fun c4 => absurd (by show lg_cmp (L1 194 0) _ = 0; rw [hLv]; exact lgc_self _) c4)
    refine lv_goto (tgt := 3423) hx hb dL_law_1771 (by decide) ?_
    exact W.widen (k := cells + 4) (n := slots + 24) (by omega) (by omega) (kk σ2 R L1 H locs ls hI2 S (lv_sub hl [2, 3, 4, 5, 6] rfl))
  | inr q =>
    obtain ⟨rfl, ht⟩ := hthr q rfl
    refine lv_aload_n hx hb dL_law_1718 rfl (lv_at hl 1 rfl) ?_
    refine lv_aload_n hx hb dL_law_1719 rfl (lv_at hl 0 rfl) ?_
    refine lv_iload hx hb dL_law_1720 (lv_at hl 4 rfl) ?_
    refine lv_iconst (v := (1 : Int32)) hx hb dL_law_1722 (by decide) ?_
    refine lv_iadd hx hb dL_law_1723 ?_
    refine va_sld hx hb hX hbl hbA S.2 h1 dL_law_1724 ?_
    refine lv_aload_n hx hb dL_law_1725 rfl (lv_at hl 3 rfl) ?_
    refine v_callW C S (h_timeOf_x0 (L := L) hm hSh ok_1 ok_194) ⟨cd_L_timeOf, ni_RL, ml_RL_265, st_L_timeOf⟩ ⟨by decide, by decide⟩ rfl ⟨by decide, by decide⟩ hl.1 rfl (Nat.le_of_ble_eq_true rfl) ⟨by show _ ≤ 601024; omega, by show _ ≤ 7293034; omega⟩ dL_law_1726 (fun w σ' H locs hp S => ?_)
    obtain ⟨rfl, rfl⟩ := hp
    have S : S2 g s σ1 R L H locs := S
    refine lv_istore (lv' := [(5, .int 1), (0, .ref b), (1, .ref (gb g + 1)), (2, .ref (gb g + 178)), (3, .ref (gb g + 194)), (4, .int x4)]) hx hb dL_law_1729 hl (by decide) rfl (fun ls hl => ?_)
    refine lv_aload_n hx hb dL_law_1731 rfl (lv_at hl 3 rfl) ?_
    refine lv_aload_n hx hb dL_law_1732 rfl (lv_at hl 1 rfl) ?_
    refine lv_iload hx hb dL_law_1733 (lv_at hl 5 rfl) ?_
    refine lv_iconst (v := (1 : Int32)) hx hb dL_law_1735 (by decide) ?_
    refine lv_iadd hx hb dL_law_1736 ?_
    refine va_sld hx hb hX hbl hbA S.2 h1 dL_law_1737 ?_
    refine x_callVI C S KX12 ok_178 (ok_X12_timeOf (L := L) hmod hSh ok_178) ⟨cd_X12_timeOf, ni_RX12, ml_RL_267, in_X12_timeOf, sl_X12_timeOf⟩ ⟨by decide, by decide⟩ rfl ⟨by decide, by decide⟩ hl.1 rfl (Nat.le_of_ble_eq_true rfl) ⟨by show _ ≤ 601024; omega, by show _ ≤ 7293034; omega⟩ dL_law_1738 (fun H locs S => ?_)
    refine lv_istore (lv' := [(6, .int b2), (5, .int 1), (0, .ref b), (1, .ref (gb g + 1)), (2, .ref (gb g + 178)), (3, .ref (gb g + 194)), (4, .int x4)]) hx hb dL_law_1741 hl (by decide) rfl (fun ls hl => ?_)
    refine lv_aload_n hx hb dL_law_1743 rfl (lv_at hl 4 rfl) ?_
    refine x_callVI C S KX12 ok_178 (ok_X12_thrown (L := L) (thr_eq N R σ2 178) hSh ok_178) ⟨cd_X12_thrown, ni_RX12, ml_RL_178, in_X12_thrown, sl_X12_thrown⟩ ⟨by decide, by decide⟩ rfl ⟨by decide, by decide⟩ hl.1 rfl (Nat.le_of_ble_eq_true rfl) ⟨by show _ ≤ 601024; omega, by show _ ≤ 7293034; omega⟩ dL_law_1744 (fun H locs S => ?_)
    refine lv_iload hx hb dL_law_1747 (lv_at hl 1 rfl) ?_
    refine lv_icmp_eq (tgt := 1754) hx hb dL_law_1749 (by decide) (fun c1 => ?_) (fun c1 => absurd ht c1)
    refine lv_iload hx hb dL_law_1754 (lv_at hl 1 rfl) ?_
    refine lv_if_ne (tgt := 1771) hx hb dL_law_1756 (by decide) (fun c2 => ?_) (fun c2 => absurd c2 (by decide))
    refine lv_goto (tgt := 3423) hx hb dL_law_1771 (by decide) ?_
    exact W.widen (k := cells + 4) (n := slots + 24) (by omega) (by omega) (kk σ2 R L H locs ls hI2 S (lv_sub hl [2, 3, 4, 5, 6] rfl))
set_option maxHeartbeats 4000000 in
set_option maxRecDepth 100000 in
theorem lc_29 {l : Launch} {g : GL} {p : Program} {e : Jvm.Env} {s : State} {m : MethodId} {below : List Frame} {meth : Method} {c : Code} {b Lx : Nat} {xs : Nat → Int32} {N : Nat} {Inv : SI → (Nat → Nat → Nat) → Prop} {σ : SI} {R : Nat → Nat → Nat} {L : Nat → Nat → Int64} {x4 : Int32} {cells slots : Nat} (C : Cx l g p s m meth c cL_law 7 RL) (hX : va_X b Lx xs s s.heap) (hbl : b < s.heap.size) (hbA : ¬ gA g b) (hI : Inv σ R) (hIS : InvOk Inv) (hAg : Ag_29 N Inv) (h1 : vp_in (x4 + 1) Lx) (hcs : cells + 4 ≤ 601024 ∧ slots + 24 ≤ 7293034) (kk : ∀ (σ' : SI) (R' : Nat → Nat → Nat) (L' : Nat → Nat → Int64) (H : Heap) (locs : List Loc) (ls : Array Slot), Inv σ' R' → S2 g s σ' R' L' H locs → lv_has ls 7 [(0, .ref b), (1, .ref (gb g + 1)), (2, .ref (gb g + 178)), (3, .ref (gb g + 194)), (4, .int x4)] → W p l e room_1 s m #[Value.ref b] below meth c H locs (cells + 4) (slots + 24) (lw_Z below #[Value.ref b] s) (F0 m 3423 ls [])) : ∀ (H : Heap) (locs : List Loc) (ls : Array Slot), S2 g s σ R L H locs → lv_has ls 7 [(0, .ref b), (1, .ref (gb g + 1)), (2, .ref (gb g + 178)), (3, .ref (gb g + 194)), (4, .int x4)] → W p l e room_1 s m #[Value.ref b] below meth c H locs (cells) (slots) (lw_Z below #[Value.ref b] s) (F0 m 1774 ls []) := by
  intro H locs ls S hl
  obtain ⟨hc1, hc2⟩ := hcs
  have hx := C.1
  have hb := C.2.1
  have hSh := hIS σ R hI
  obtain ⟨res, σ1, b2, σ2, hm, hmod, hI2, hret, hthr⟩ := hAg σ R (xs (x4 + 1).toNatClampNeg) hI
  cases res with
  | inl v =>
    obtain ⟨ht, rfl⟩ := hret v rfl
    refine lv_aload_n hx hb dL_law_1774 rfl (lv_at hl 1 rfl) ?_
    refine lv_aload_n hx hb dL_law_1775 rfl (lv_at hl 0 rfl) ?_
    refine lv_iload hx hb dL_law_1776 (lv_at hl 4 rfl) ?_
    refine lv_iconst (v := (1 : Int32)) hx hb dL_law_1778 (by decide) ?_
    refine lv_iadd hx hb dL_law_1779 ?_
    refine va_sld hx hb hX hbl hbA S.2 h1 dL_law_1780 ?_
    refine lv_aload_n hx hb dL_law_1781 rfl (lv_at hl 3 rfl) ?_
    refine v_callW C S (h_isFired_ret (L := L) hm hSh ok_1 ok_194) ⟨cd_L_isFired, ni_RL, ml_RL_268, st_L_isFired⟩ ⟨by decide, by decide⟩ rfl ⟨by decide, by decide⟩ hl.1 rfl (Nat.le_of_ble_eq_true rfl) ⟨by show _ ≤ 601024; omega, by show _ ≤ 7293034; omega⟩ dL_law_1782 (fun w σ' H locs hp S => ?_)
    obtain ⟨rfl, rfl⟩ := hp
    have S : S2 g s σ1 R (fun a j => if a = 194 ∧ j = 0 then (if v = 0 then 0 else 1 : Int64) else L a j) H locs := S
    obtain ⟨L1, hL1, hLv⟩ : ∃ L1 : Nat → Nat → Int64, (fun a j => if a = 194 ∧ j = 0 then (if v = 0 then 0 else 1 : Int64) else L a j) = L1 ∧ L1 194 0 = (if v = 0 then 0 else 1 : Int64) := ⟨_, rfl, if_pos ⟨rfl, rfl⟩⟩
    rw [hL1] at S
    refine lv_istore (lv' := [(5, .int 0), (0, .ref b), (1, .ref (gb g + 1)), (2, .ref (gb g + 178)), (3, .ref (gb g + 194)), (4, .int x4)]) hx hb dL_law_1785 hl (by decide) rfl (fun ls hl => ?_)
    refine lv_aload_n hx hb dL_law_1787 rfl (lv_at hl 3 rfl) ?_
    refine lv_aload_n hx hb dL_law_1788 rfl (lv_at hl 1 rfl) ?_
    refine lv_iload hx hb dL_law_1789 (lv_at hl 5 rfl) ?_
    refine lv_iconst (v := (1 : Int32)) hx hb dL_law_1791 (by decide) ?_
    refine lv_iadd hx hb dL_law_1792 ?_
    refine va_sld hx hb hX hbl hbA S.2 h1 dL_law_1793 ?_
    refine x_callVI C S KX12 ok_178 (ok_X12_isFired (L := L1) hmod hSh ok_178) ⟨cd_X12_isFired, ni_RX12, ml_RL_270, in_X12_isFired, sl_X12_isFired⟩ ⟨by decide, by decide⟩ rfl ⟨by decide, by decide⟩ hl.1 rfl (Nat.le_of_ble_eq_true rfl) ⟨by show _ ≤ 601024; omega, by show _ ≤ 7293034; omega⟩ dL_law_1794 (fun H locs S => ?_)
    refine lv_istore (lv' := [(6, .int v), (5, .int 0), (0, .ref b), (1, .ref (gb g + 1)), (2, .ref (gb g + 178)), (3, .ref (gb g + 194)), (4, .int x4)]) hx hb dL_law_1797 hl (by decide) rfl (fun ls hl => ?_)
    refine lv_aload_n hx hb dL_law_1799 rfl (lv_at hl 4 rfl) ?_
    refine x_callVI C S KX12 ok_178 (ok_X12_thrown (L := L1) (thr_eq N R σ2 178) hSh ok_178) ⟨cd_X12_thrown, ni_RX12, ml_RL_178, in_X12_thrown, sl_X12_thrown⟩ ⟨by decide, by decide⟩ rfl ⟨by decide, by decide⟩ hl.1 rfl (Nat.le_of_ble_eq_true rfl) ⟨by show _ ≤ 601024; omega, by show _ ≤ 7293034; omega⟩ dL_law_1800 (fun H locs S => ?_)
    refine lv_iload hx hb dL_law_1803 (lv_at hl 1 rfl) ?_
    refine lv_icmp_eq (tgt := 1810) hx hb dL_law_1805 (by decide) (fun c1 => ?_) (fun c1 => absurd ht c1)
    refine lv_iload hx hb dL_law_1810 (lv_at hl 1 rfl) ?_
    refine lv_if_ne (tgt := 1834) hx hb dL_law_1812 (by decide) (fun c2 => absurd rfl c2) (fun c2 => ?_)
    refine lv_aload_n hx hb dL_law_1815 rfl (lv_at hl 5 rfl) ?_
    refine lv_iconst (v := (0 : Int32)) hx hb dL_law_1816 (by decide) ?_
    refine x_lald C S ok_194 dL_law_1817 ?_
    refine lv_iload hx hb dL_law_1818 (lv_at hl 0 rfl) ?_
    refine lv_if_eq (tgt := 1827) hx hb dL_law_1820 (by decide) (fun c3 => ?_) (fun c3 => ?_)
    · refine lv_lconst (v := (0 : Int64)) hx hb dL_law_1827 (by decide) ?_
      refine W.lcmp hx hb dL_law_1828 ?_
      refine lv_if_eq (tgt := 1834) hx hb dL_law_1829 (by decide) (fun c4 => ?_) (fun c4 => absurd (by show lg_cmp (L1 194 0) _ = 0; rw [hLv, if_pos c3]; exact lgc_self _) c4)
      refine lv_goto (tgt := 3423) hx hb dL_law_1834 (by decide) ?_
      exact W.widen (k := cells + 4) (n := slots + 24) (by omega) (by omega) (kk σ2 R L1 H locs ls hI2 S (lv_sub hl [2, 3, 4, 5, 6] rfl))
    · refine lv_lconst (v := (1 : Int64)) hx hb dL_law_1823 (by decide) ?_
      refine lv_goto (tgt := 1828) hx hb dL_law_1824 (by decide) ?_
      refine W.lcmp hx hb dL_law_1828 ?_
      refine lv_if_eq (tgt := 1834) hx hb dL_law_1829 (by decide) (fun c4 => ?_) (fun c4 => absurd (by show lg_cmp (L1 194 0) _ = 0; rw [hLv, if_neg c3]; exact lgc_self _) c4)
      refine lv_goto (tgt := 3423) hx hb dL_law_1834 (by decide) ?_
      exact W.widen (k := cells + 4) (n := slots + 24) (by omega) (by omega) (kk σ2 R L1 H locs ls hI2 S (lv_sub hl [2, 3, 4, 5, 6] rfl))
  | inr q =>
    obtain ⟨rfl, ht⟩ := hthr q rfl
    refine lv_aload_n hx hb dL_law_1774 rfl (lv_at hl 1 rfl) ?_
    refine lv_aload_n hx hb dL_law_1775 rfl (lv_at hl 0 rfl) ?_
    refine lv_iload hx hb dL_law_1776 (lv_at hl 4 rfl) ?_
    refine lv_iconst (v := (1 : Int32)) hx hb dL_law_1778 (by decide) ?_
    refine lv_iadd hx hb dL_law_1779 ?_
    refine va_sld hx hb hX hbl hbA S.2 h1 dL_law_1780 ?_
    refine lv_aload_n hx hb dL_law_1781 rfl (lv_at hl 3 rfl) ?_
    refine v_callW C S (h_isFired_x0 (L := L) hm hSh ok_1 ok_194) ⟨cd_L_isFired, ni_RL, ml_RL_268, st_L_isFired⟩ ⟨by decide, by decide⟩ rfl ⟨by decide, by decide⟩ hl.1 rfl (Nat.le_of_ble_eq_true rfl) ⟨by show _ ≤ 601024; omega, by show _ ≤ 7293034; omega⟩ dL_law_1782 (fun w σ' H locs hp S => ?_)
    obtain ⟨rfl, rfl⟩ := hp
    have S : S2 g s σ1 R L H locs := S
    refine lv_istore (lv' := [(5, .int 1), (0, .ref b), (1, .ref (gb g + 1)), (2, .ref (gb g + 178)), (3, .ref (gb g + 194)), (4, .int x4)]) hx hb dL_law_1785 hl (by decide) rfl (fun ls hl => ?_)
    refine lv_aload_n hx hb dL_law_1787 rfl (lv_at hl 3 rfl) ?_
    refine lv_aload_n hx hb dL_law_1788 rfl (lv_at hl 1 rfl) ?_
    refine lv_iload hx hb dL_law_1789 (lv_at hl 5 rfl) ?_
    refine lv_iconst (v := (1 : Int32)) hx hb dL_law_1791 (by decide) ?_
    refine lv_iadd hx hb dL_law_1792 ?_
    refine va_sld hx hb hX hbl hbA S.2 h1 dL_law_1793 ?_
    refine x_callVI C S KX12 ok_178 (ok_X12_isFired (L := L) hmod hSh ok_178) ⟨cd_X12_isFired, ni_RX12, ml_RL_270, in_X12_isFired, sl_X12_isFired⟩ ⟨by decide, by decide⟩ rfl ⟨by decide, by decide⟩ hl.1 rfl (Nat.le_of_ble_eq_true rfl) ⟨by show _ ≤ 601024; omega, by show _ ≤ 7293034; omega⟩ dL_law_1794 (fun H locs S => ?_)
    refine lv_istore (lv' := [(6, .int b2), (5, .int 1), (0, .ref b), (1, .ref (gb g + 1)), (2, .ref (gb g + 178)), (3, .ref (gb g + 194)), (4, .int x4)]) hx hb dL_law_1797 hl (by decide) rfl (fun ls hl => ?_)
    refine lv_aload_n hx hb dL_law_1799 rfl (lv_at hl 4 rfl) ?_
    refine x_callVI C S KX12 ok_178 (ok_X12_thrown (L := L) (thr_eq N R σ2 178) hSh ok_178) ⟨cd_X12_thrown, ni_RX12, ml_RL_178, in_X12_thrown, sl_X12_thrown⟩ ⟨by decide, by decide⟩ rfl ⟨by decide, by decide⟩ hl.1 rfl (Nat.le_of_ble_eq_true rfl) ⟨by show _ ≤ 601024; omega, by show _ ≤ 7293034; omega⟩ dL_law_1800 (fun H locs S => ?_)
    refine lv_iload hx hb dL_law_1803 (lv_at hl 1 rfl) ?_
    refine lv_icmp_eq (tgt := 1810) hx hb dL_law_1805 (by decide) (fun c1 => ?_) (fun c1 => absurd ht c1)
    refine lv_iload hx hb dL_law_1810 (lv_at hl 1 rfl) ?_
    refine lv_if_ne (tgt := 1834) hx hb dL_law_1812 (by decide) (fun c2 => ?_) (fun c2 => absurd c2 (by decide))
    refine lv_goto (tgt := 3423) hx hb dL_law_1834 (by decide) ?_
    exact W.widen (k := cells + 4) (n := slots + 24) (by omega) (by omega) (kk σ2 R L H locs ls hI2 S (lv_sub hl [2, 3, 4, 5, 6] rfl))
set_option maxHeartbeats 4000000 in
set_option maxRecDepth 100000 in
theorem lc_30 {l : Launch} {g : GL} {p : Program} {e : Jvm.Env} {s : State} {m : MethodId} {below : List Frame} {meth : Method} {c : Code} {b Lx : Nat} {xs : Nat → Int32} {N : Nat} {Inv : SI → (Nat → Nat → Nat) → Prop} {σ : SI} {R : Nat → Nat → Nat} {L : Nat → Nat → Int64} {x4 : Int32} {cells slots : Nat} (C : Cx l g p s m meth c cL_law 7 RL) (hX : va_X b Lx xs s s.heap) (hbl : b < s.heap.size) (hbA : ¬ gA g b) (hI : Inv σ R) (hIS : InvOk Inv) (hAg : Ag_30 N Inv) (h1 : vp_in (x4 + 1) Lx) (h2 : vp_in (x4 + 2) Lx) (hcs : cells + 4 ≤ 601024 ∧ slots + 24 ≤ 7293034) (kk : ∀ (σ' : SI) (R' : Nat → Nat → Nat) (L' : Nat → Nat → Int64) (H : Heap) (locs : List Loc) (ls : Array Slot), Inv σ' R' → S2 g s σ' R' L' H locs → lv_has ls 7 [(0, .ref b), (1, .ref (gb g + 1)), (2, .ref (gb g + 178)), (3, .ref (gb g + 194)), (4, .int x4)] → W p l e room_1 s m #[Value.ref b] below meth c H locs (cells + 4) (slots + 24) (lw_Z below #[Value.ref b] s) (F0 m 3423 ls [])) : ∀ (H : Heap) (locs : List Loc) (ls : Array Slot), S2 g s σ R L H locs → lv_has ls 7 [(0, .ref b), (1, .ref (gb g + 1)), (2, .ref (gb g + 178)), (3, .ref (gb g + 194)), (4, .int x4)] → W p l e room_1 s m #[Value.ref b] below meth c H locs (cells) (slots) (lw_Z below #[Value.ref b] s) (F0 m 1837 ls []) := by
  intro H locs ls S hl
  obtain ⟨hc1, hc2⟩ := hcs
  have hx := C.1
  have hb := C.2.1
  have hSh := hIS σ R hI
  obtain ⟨res, σ1, b2, σ2, hm, hmod, hI2, hret, hthr⟩ := hAg σ R (xs (x4 + 1).toNatClampNeg) (xs (x4 + 2).toNatClampNeg) hI
  cases res with
  | inl v =>
    obtain ⟨ht, rfl⟩ := hret v rfl
    refine lv_aload_n hx hb dL_law_1837 rfl (lv_at hl 1 rfl) ?_
    refine lv_aload_n hx hb dL_law_1838 rfl (lv_at hl 0 rfl) ?_
    refine lv_iload hx hb dL_law_1839 (lv_at hl 4 rfl) ?_
    refine lv_iconst (v := (1 : Int32)) hx hb dL_law_1841 (by decide) ?_
    refine lv_iadd hx hb dL_law_1842 ?_
    refine va_sld hx hb hX hbl hbA S.2 h1 dL_law_1843 ?_
    refine lv_aload_n hx hb dL_law_1844 rfl (lv_at hl 0 rfl) ?_
    refine lv_iload hx hb dL_law_1845 (lv_at hl 4 rfl) ?_
    refine lv_iconst (v := (2 : Int32)) hx hb dL_law_1847 (by decide) ?_
    refine lv_iadd hx hb dL_law_1848 ?_
    refine va_sld hx hb hX hbl hbA S.2 h2 dL_law_1849 ?_
    refine lv_aload_n hx hb dL_law_1850 rfl (lv_at hl 3 rfl) ?_
    refine v_callW C S (h_reason_ret (L := L) hm hSh ok_1 ok_194) ⟨cd_L_reason, ni_RL, ml_RL_271, st_L_reason⟩ ⟨by decide, by decide⟩ rfl ⟨by decide, by decide⟩ hl.1 rfl (Nat.le_of_ble_eq_true rfl) ⟨by show _ ≤ 601024; omega, by show _ ≤ 7293034; omega⟩ dL_law_1851 (fun w σ' H locs hp S => ?_)
    obtain ⟨rfl, rfl⟩ := hp
    have S : S2 g s σ1 R (fun a j => if a = 194 ∧ j = 0 then v.toInt64 else L a j) H locs := S
    obtain ⟨L1, hL1, hLv⟩ : ∃ L1 : Nat → Nat → Int64, (fun a j => if a = 194 ∧ j = 0 then v.toInt64 else L a j) = L1 ∧ L1 194 0 = v.toInt64 := ⟨_, rfl, if_pos ⟨rfl, rfl⟩⟩
    rw [hL1] at S
    refine lv_istore (lv' := [(5, .int 0), (0, .ref b), (1, .ref (gb g + 1)), (2, .ref (gb g + 178)), (3, .ref (gb g + 194)), (4, .int x4)]) hx hb dL_law_1854 hl (by decide) rfl (fun ls hl => ?_)
    refine lv_aload_n hx hb dL_law_1856 rfl (lv_at hl 3 rfl) ?_
    refine lv_aload_n hx hb dL_law_1857 rfl (lv_at hl 1 rfl) ?_
    refine lv_iload hx hb dL_law_1858 (lv_at hl 5 rfl) ?_
    refine lv_iconst (v := (1 : Int32)) hx hb dL_law_1860 (by decide) ?_
    refine lv_iadd hx hb dL_law_1861 ?_
    refine va_sld hx hb hX hbl hbA S.2 h1 dL_law_1862 ?_
    refine lv_aload_n hx hb dL_law_1863 rfl (lv_at hl 1 rfl) ?_
    refine lv_iload hx hb dL_law_1864 (lv_at hl 5 rfl) ?_
    refine lv_iconst (v := (2 : Int32)) hx hb dL_law_1866 (by decide) ?_
    refine lv_iadd hx hb dL_law_1867 ?_
    refine va_sld hx hb hX hbl hbA S.2 h2 dL_law_1868 ?_
    refine x_callVI C S KX12 ok_178 (ok_X12_reason (L := L1) hmod hSh ok_178) ⟨cd_X12_reason, ni_RX12, ml_RL_273, in_X12_reason, sl_X12_reason⟩ ⟨by decide, by decide⟩ rfl ⟨by decide, by decide⟩ hl.1 rfl (Nat.le_of_ble_eq_true rfl) ⟨by show _ ≤ 601024; omega, by show _ ≤ 7293034; omega⟩ dL_law_1869 (fun H locs S => ?_)
    refine lv_istore (lv' := [(6, .int v), (5, .int 0), (0, .ref b), (1, .ref (gb g + 1)), (2, .ref (gb g + 178)), (3, .ref (gb g + 194)), (4, .int x4)]) hx hb dL_law_1872 hl (by decide) rfl (fun ls hl => ?_)
    refine lv_aload_n hx hb dL_law_1874 rfl (lv_at hl 4 rfl) ?_
    refine x_callVI C S KX12 ok_178 (ok_X12_thrown (L := L1) (thr_eq N R σ2 178) hSh ok_178) ⟨cd_X12_thrown, ni_RX12, ml_RL_178, in_X12_thrown, sl_X12_thrown⟩ ⟨by decide, by decide⟩ rfl ⟨by decide, by decide⟩ hl.1 rfl (Nat.le_of_ble_eq_true rfl) ⟨by show _ ≤ 601024; omega, by show _ ≤ 7293034; omega⟩ dL_law_1875 (fun H locs S => ?_)
    refine lv_iload hx hb dL_law_1878 (lv_at hl 1 rfl) ?_
    refine lv_icmp_eq (tgt := 1885) hx hb dL_law_1880 (by decide) (fun c1 => ?_) (fun c1 => absurd ht c1)
    refine lv_iload hx hb dL_law_1885 (lv_at hl 1 rfl) ?_
    refine lv_if_ne (tgt := 1902) hx hb dL_law_1887 (by decide) (fun c2 => absurd rfl c2) (fun c2 => ?_)
    refine lv_aload_n hx hb dL_law_1890 rfl (lv_at hl 5 rfl) ?_
    refine lv_iconst (v := (0 : Int32)) hx hb dL_law_1891 (by decide) ?_
    refine x_lald C S ok_194 dL_law_1892 ?_
    refine lv_iload hx hb dL_law_1893 (lv_at hl 0 rfl) ?_
    refine lv_i2l hx hb dL_law_1895 rfl ?_
    refine W.lcmp hx hb dL_law_1896 ?_
    refine lv_if_eq (tgt := 1902) hx hb dL_law_1897 (by decide) (fun c4 => ?_) (fun c4 => absurd (by show lg_cmp (L1 194 0) _ = 0; rw [hLv]; exact lgc_self _) c4)
    refine lv_goto (tgt := 3423) hx hb dL_law_1902 (by decide) ?_
    exact W.widen (k := cells + 4) (n := slots + 24) (by omega) (by omega) (kk σ2 R L1 H locs ls hI2 S (lv_sub hl [2, 3, 4, 5, 6] rfl))
  | inr q =>
    rcases hthr q rfl with ⟨rfl, ht⟩ | ⟨rfl, ht⟩
    · refine lv_aload_n hx hb dL_law_1837 rfl (lv_at hl 1 rfl) ?_
      refine lv_aload_n hx hb dL_law_1838 rfl (lv_at hl 0 rfl) ?_
      refine lv_iload hx hb dL_law_1839 (lv_at hl 4 rfl) ?_
      refine lv_iconst (v := (1 : Int32)) hx hb dL_law_1841 (by decide) ?_
      refine lv_iadd hx hb dL_law_1842 ?_
      refine va_sld hx hb hX hbl hbA S.2 h1 dL_law_1843 ?_
      refine lv_aload_n hx hb dL_law_1844 rfl (lv_at hl 0 rfl) ?_
      refine lv_iload hx hb dL_law_1845 (lv_at hl 4 rfl) ?_
      refine lv_iconst (v := (2 : Int32)) hx hb dL_law_1847 (by decide) ?_
      refine lv_iadd hx hb dL_law_1848 ?_
      refine va_sld hx hb hX hbl hbA S.2 h2 dL_law_1849 ?_
      refine lv_aload_n hx hb dL_law_1850 rfl (lv_at hl 3 rfl) ?_
      refine v_callW C S (h_reason_x0 (L := L) hm hSh ok_1 ok_194) ⟨cd_L_reason, ni_RL, ml_RL_271, st_L_reason⟩ ⟨by decide, by decide⟩ rfl ⟨by decide, by decide⟩ hl.1 rfl (Nat.le_of_ble_eq_true rfl) ⟨by show _ ≤ 601024; omega, by show _ ≤ 7293034; omega⟩ dL_law_1851 (fun w σ' H locs hp S => ?_)
      obtain ⟨rfl, rfl⟩ := hp
      have S : S2 g s σ1 R L H locs := S
      refine lv_istore (lv' := [(5, .int 1), (0, .ref b), (1, .ref (gb g + 1)), (2, .ref (gb g + 178)), (3, .ref (gb g + 194)), (4, .int x4)]) hx hb dL_law_1854 hl (by decide) rfl (fun ls hl => ?_)
      refine lv_aload_n hx hb dL_law_1856 rfl (lv_at hl 3 rfl) ?_
      refine lv_aload_n hx hb dL_law_1857 rfl (lv_at hl 1 rfl) ?_
      refine lv_iload hx hb dL_law_1858 (lv_at hl 5 rfl) ?_
      refine lv_iconst (v := (1 : Int32)) hx hb dL_law_1860 (by decide) ?_
      refine lv_iadd hx hb dL_law_1861 ?_
      refine va_sld hx hb hX hbl hbA S.2 h1 dL_law_1862 ?_
      refine lv_aload_n hx hb dL_law_1863 rfl (lv_at hl 1 rfl) ?_
      refine lv_iload hx hb dL_law_1864 (lv_at hl 5 rfl) ?_
      refine lv_iconst (v := (2 : Int32)) hx hb dL_law_1866 (by decide) ?_
      refine lv_iadd hx hb dL_law_1867 ?_
      refine va_sld hx hb hX hbl hbA S.2 h2 dL_law_1868 ?_
      refine x_callVI C S KX12 ok_178 (ok_X12_reason (L := L) hmod hSh ok_178) ⟨cd_X12_reason, ni_RX12, ml_RL_273, in_X12_reason, sl_X12_reason⟩ ⟨by decide, by decide⟩ rfl ⟨by decide, by decide⟩ hl.1 rfl (Nat.le_of_ble_eq_true rfl) ⟨by show _ ≤ 601024; omega, by show _ ≤ 7293034; omega⟩ dL_law_1869 (fun H locs S => ?_)
      refine lv_istore (lv' := [(6, .int b2), (5, .int 1), (0, .ref b), (1, .ref (gb g + 1)), (2, .ref (gb g + 178)), (3, .ref (gb g + 194)), (4, .int x4)]) hx hb dL_law_1872 hl (by decide) rfl (fun ls hl => ?_)
      refine lv_aload_n hx hb dL_law_1874 rfl (lv_at hl 4 rfl) ?_
      refine x_callVI C S KX12 ok_178 (ok_X12_thrown (L := L) (thr_eq N R σ2 178) hSh ok_178) ⟨cd_X12_thrown, ni_RX12, ml_RL_178, in_X12_thrown, sl_X12_thrown⟩ ⟨by decide, by decide⟩ rfl ⟨by decide, by decide⟩ hl.1 rfl (Nat.le_of_ble_eq_true rfl) ⟨by show _ ≤ 601024; omega, by show _ ≤ 7293034; omega⟩ dL_law_1875 (fun H locs S => ?_)
      refine lv_iload hx hb dL_law_1878 (lv_at hl 1 rfl) ?_
      refine lv_icmp_eq (tgt := 1885) hx hb dL_law_1880 (by decide) (fun c1 => ?_) (fun c1 => absurd ht c1)
      refine lv_iload hx hb dL_law_1885 (lv_at hl 1 rfl) ?_
      refine lv_if_ne (tgt := 1902) hx hb dL_law_1887 (by decide) (fun c2 => ?_) (fun c2 => absurd c2 (by decide))
      refine lv_goto (tgt := 3423) hx hb dL_law_1902 (by decide) ?_
      exact W.widen (k := cells + 4) (n := slots + 24) (by omega) (by omega) (kk σ2 R L H locs ls hI2 S (lv_sub hl [2, 3, 4, 5, 6] rfl))
    · refine lv_aload_n hx hb dL_law_1837 rfl (lv_at hl 1 rfl) ?_
      refine lv_aload_n hx hb dL_law_1838 rfl (lv_at hl 0 rfl) ?_
      refine lv_iload hx hb dL_law_1839 (lv_at hl 4 rfl) ?_
      refine lv_iconst (v := (1 : Int32)) hx hb dL_law_1841 (by decide) ?_
      refine lv_iadd hx hb dL_law_1842 ?_
      refine va_sld hx hb hX hbl hbA S.2 h1 dL_law_1843 ?_
      refine lv_aload_n hx hb dL_law_1844 rfl (lv_at hl 0 rfl) ?_
      refine lv_iload hx hb dL_law_1845 (lv_at hl 4 rfl) ?_
      refine lv_iconst (v := (2 : Int32)) hx hb dL_law_1847 (by decide) ?_
      refine lv_iadd hx hb dL_law_1848 ?_
      refine va_sld hx hb hX hbl hbA S.2 h2 dL_law_1849 ?_
      refine lv_aload_n hx hb dL_law_1850 rfl (lv_at hl 3 rfl) ?_
      refine v_callW C S (h_reason_x1 (L := L) hm hSh ok_1 ok_194) ⟨cd_L_reason, ni_RL, ml_RL_271, st_L_reason⟩ ⟨by decide, by decide⟩ rfl ⟨by decide, by decide⟩ hl.1 rfl (Nat.le_of_ble_eq_true rfl) ⟨by show _ ≤ 601024; omega, by show _ ≤ 7293034; omega⟩ dL_law_1851 (fun w σ' H locs hp S => ?_)
      obtain ⟨rfl, rfl⟩ := hp
      have S : S2 g s σ1 R L H locs := S
      refine lv_istore (lv' := [(5, .int 2), (0, .ref b), (1, .ref (gb g + 1)), (2, .ref (gb g + 178)), (3, .ref (gb g + 194)), (4, .int x4)]) hx hb dL_law_1854 hl (by decide) rfl (fun ls hl => ?_)
      refine lv_aload_n hx hb dL_law_1856 rfl (lv_at hl 3 rfl) ?_
      refine lv_aload_n hx hb dL_law_1857 rfl (lv_at hl 1 rfl) ?_
      refine lv_iload hx hb dL_law_1858 (lv_at hl 5 rfl) ?_
      refine lv_iconst (v := (1 : Int32)) hx hb dL_law_1860 (by decide) ?_
      refine lv_iadd hx hb dL_law_1861 ?_
      refine va_sld hx hb hX hbl hbA S.2 h1 dL_law_1862 ?_
      refine lv_aload_n hx hb dL_law_1863 rfl (lv_at hl 1 rfl) ?_
      refine lv_iload hx hb dL_law_1864 (lv_at hl 5 rfl) ?_
      refine lv_iconst (v := (2 : Int32)) hx hb dL_law_1866 (by decide) ?_
      refine lv_iadd hx hb dL_law_1867 ?_
      refine va_sld hx hb hX hbl hbA S.2 h2 dL_law_1868 ?_
      refine x_callVI C S KX12 ok_178 (ok_X12_reason (L := L) hmod hSh ok_178) ⟨cd_X12_reason, ni_RX12, ml_RL_273, in_X12_reason, sl_X12_reason⟩ ⟨by decide, by decide⟩ rfl ⟨by decide, by decide⟩ hl.1 rfl (Nat.le_of_ble_eq_true rfl) ⟨by show _ ≤ 601024; omega, by show _ ≤ 7293034; omega⟩ dL_law_1869 (fun H locs S => ?_)
      refine lv_istore (lv' := [(6, .int b2), (5, .int 2), (0, .ref b), (1, .ref (gb g + 1)), (2, .ref (gb g + 178)), (3, .ref (gb g + 194)), (4, .int x4)]) hx hb dL_law_1872 hl (by decide) rfl (fun ls hl => ?_)
      refine lv_aload_n hx hb dL_law_1874 rfl (lv_at hl 4 rfl) ?_
      refine x_callVI C S KX12 ok_178 (ok_X12_thrown (L := L) (thr_eq N R σ2 178) hSh ok_178) ⟨cd_X12_thrown, ni_RX12, ml_RL_178, in_X12_thrown, sl_X12_thrown⟩ ⟨by decide, by decide⟩ rfl ⟨by decide, by decide⟩ hl.1 rfl (Nat.le_of_ble_eq_true rfl) ⟨by show _ ≤ 601024; omega, by show _ ≤ 7293034; omega⟩ dL_law_1875 (fun H locs S => ?_)
      refine lv_iload hx hb dL_law_1878 (lv_at hl 1 rfl) ?_
      refine lv_icmp_eq (tgt := 1885) hx hb dL_law_1880 (by decide) (fun c1 => ?_) (fun c1 => absurd ht c1)
      refine lv_iload hx hb dL_law_1885 (lv_at hl 1 rfl) ?_
      refine lv_if_ne (tgt := 1902) hx hb dL_law_1887 (by decide) (fun c2 => ?_) (fun c2 => absurd c2 (by decide))
      refine lv_goto (tgt := 3423) hx hb dL_law_1902 (by decide) ?_
      exact W.widen (k := cells + 4) (n := slots + 24) (by omega) (by omega) (kk σ2 R L H locs ls hI2 S (lv_sub hl [2, 3, 4, 5, 6] rfl))
