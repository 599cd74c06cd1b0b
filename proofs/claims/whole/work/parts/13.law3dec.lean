/-! decode rows of the law (by program) -/
theorem d_L_960 : decode code 960 = .ok (.iconst 2, 1) := by decide +kernel
theorem d_L_961 : decode code 961 = .ok (.iadd, 1) := by decide +kernel
theorem d_L_962 : decode code 962 = .ok (.iaload, 1) := by decide +kernel
theorem d_L_963 : decode code 963 = .ok (.aload_n 0, 1) := by decide +kernel
theorem d_L_964 : decode code 964 = .ok (.iload_n 3, 1) := by decide +kernel
theorem d_L_965 : decode code 965 = .ok (.iconst 3, 1) := by decide +kernel
theorem d_L_966 : decode code 966 = .ok (.iadd, 1) := by decide +kernel
theorem d_L_967 : decode code 967 = .ok (.iaload, 1) := by decide +kernel
theorem d_L_968 : decode code 968 = .ok (.aload_n 0, 1) := by decide +kernel
theorem d_L_969 : decode code 969 = .ok (.iload_n 3, 1) := by decide +kernel
theorem d_L_970 : decode code 970 = .ok (.iconst 4, 1) := by decide +kernel
theorem d_L_971 : decode code 971 = .ok (.iadd, 1) := by decide +kernel
theorem d_L_972 : decode code 972 = .ok (.iaload, 1) := by decide +kernel
theorem d_L_973 : decode code 973 = .ok (.invokevirtual 95, 3) := by decide +kernel
theorem d_L_976 : decode code 976 = .ok (.if_icmp .eq 717, 3) := by decide +kernel
theorem d_L_979 : decode code 979 = .ok (.iconst 0, 1) := by decide +kernel
theorem d_L_980 : decode code 980 = .ok (.ireturn, 1) := by decide +kernel
theorem d_L_981 : decode code 981 = .ok (.aload_n 1, 1) := by decide +kernel
theorem d_L_982 : decode code 982 = .ok (.aload_n 0, 1) := by decide +kernel
theorem d_L_983 : decode code 983 = .ok (.iload_n 3, 1) := by decide +kernel
theorem d_L_984 : decode code 984 = .ok (.iconst 1, 1) := by decide +kernel
theorem d_L_985 : decode code 985 = .ok (.iadd, 1) := by decide +kernel
theorem d_L_986 : decode code 986 = .ok (.iaload, 1) := by decide +kernel
theorem d_L_987 : decode code 987 = .ok (.invokevirtual 96, 3) := by decide +kernel
theorem d_L_990 : decode code 990 = .ok (.aload_n 2, 1) := by decide +kernel
theorem d_L_991 : decode code 991 = .ok (.aload_n 0, 1) := by decide +kernel
theorem d_L_992 : decode code 992 = .ok (.iload_n 3, 1) := by decide +kernel
theorem d_L_993 : decode code 993 = .ok (.iconst 1, 1) := by decide +kernel
theorem d_L_994 : decode code 994 = .ok (.iadd, 1) := by decide +kernel
theorem d_L_995 : decode code 995 = .ok (.iaload, 1) := by decide +kernel
theorem d_L_996 : decode code 996 = .ok (.invokevirtual 99, 3) := by decide +kernel
theorem d_L_999 : decode code 999 = .ok (.if_icmp .eq 694, 3) := by decide +kernel
theorem d_L_1002 : decode code 1002 = .ok (.iconst 0, 1) := by decide +kernel
theorem d_L_1003 : decode code 1003 = .ok (.ireturn, 1) := by decide +kernel
theorem d_L_1004 : decode code 1004 = .ok (.aload_n 1, 1) := by decide +kernel
theorem d_L_1005 : decode code 1005 = .ok (.aload_n 0, 1) := by decide +kernel
theorem d_L_1006 : decode code 1006 = .ok (.iload_n 3, 1) := by decide +kernel
theorem d_L_1007 : decode code 1007 = .ok (.iconst 1, 1) := by decide +kernel
theorem d_L_1008 : decode code 1008 = .ok (.iadd, 1) := by decide +kernel
theorem d_L_1009 : decode code 1009 = .ok (.iaload, 1) := by decide +kernel
theorem d_L_1010 : decode code 1010 = .ok (.aload_n 0, 1) := by decide +kernel
theorem d_L_1011 : decode code 1011 = .ok (.iload_n 3, 1) := by decide +kernel
theorem d_L_1012 : decode code 1012 = .ok (.iconst 2, 1) := by decide +kernel
theorem d_L_1013 : decode code 1013 = .ok (.iadd, 1) := by decide +kernel
theorem d_L_1014 : decode code 1014 = .ok (.iaload, 1) := by decide +kernel
theorem d_L_1015 : decode code 1015 = .ok (.aload_n 0, 1) := by decide +kernel
theorem d_L_1016 : decode code 1016 = .ok (.iload_n 3, 1) := by decide +kernel
theorem d_L_1017 : decode code 1017 = .ok (.iconst 3, 1) := by decide +kernel
theorem d_L_1018 : decode code 1018 = .ok (.iadd, 1) := by decide +kernel
theorem d_L_1019 : decode code 1019 = .ok (.iaload, 1) := by decide +kernel
theorem d_L_1020 : decode code 1020 = .ok (.ifCond .eq 7, 3) := by decide +kernel
theorem d_L_1023 : decode code 1023 = .ok (.iconst 1, 1) := by decide +kernel
theorem d_L_1024 : decode code 1024 = .ok (.goto 4, 3) := by decide +kernel
theorem d_L_1027 : decode code 1027 = .ok (.iconst 0, 1) := by decide +kernel
theorem d_L_1028 : decode code 1028 = .ok (.invokevirtual 100, 3) := by decide +kernel
theorem d_L_1031 : decode code 1031 = .ok (.aload_n 2, 1) := by decide +kernel
theorem d_L_1032 : decode code 1032 = .ok (.aload_n 0, 1) := by decide +kernel
theorem d_L_1033 : decode code 1033 = .ok (.iload_n 3, 1) := by decide +kernel
theorem d_L_1034 : decode code 1034 = .ok (.iconst 1, 1) := by decide +kernel
theorem d_L_1035 : decode code 1035 = .ok (.iadd, 1) := by decide +kernel
theorem d_L_1036 : decode code 1036 = .ok (.iaload, 1) := by decide +kernel
theorem d_L_1037 : decode code 1037 = .ok (.aload_n 0, 1) := by decide +kernel
theorem d_L_1038 : decode code 1038 = .ok (.iload_n 3, 1) := by decide +kernel
theorem d_L_1039 : decode code 1039 = .ok (.iconst 2, 1) := by decide +kernel
theorem d_L_1040 : decode code 1040 = .ok (.iadd, 1) := by decide +kernel
theorem d_L_1041 : decode code 1041 = .ok (.iaload, 1) := by decide +kernel
theorem d_L_1042 : decode code 1042 = .ok (.aload_n 0, 1) := by decide +kernel
theorem d_L_1043 : decode code 1043 = .ok (.iload_n 3, 1) := by decide +kernel
theorem d_L_1044 : decode code 1044 = .ok (.iconst 3, 1) := by decide +kernel
theorem d_L_1045 : decode code 1045 = .ok (.iadd, 1) := by decide +kernel
theorem d_L_1046 : decode code 1046 = .ok (.iaload, 1) := by decide +kernel
theorem d_L_1047 : decode code 1047 = .ok (.ifCond .eq 7, 3) := by decide +kernel
theorem d_L_1050 : decode code 1050 = .ok (.iconst 1, 1) := by decide +kernel
theorem d_L_1051 : decode code 1051 = .ok (.goto 4, 3) := by decide +kernel
theorem d_L_1054 : decode code 1054 = .ok (.iconst 0, 1) := by decide +kernel
theorem d_L_1055 : decode code 1055 = .ok (.invokevirtual 103, 3) := by decide +kernel
theorem d_L_1058 : decode code 1058 = .ok (.if_icmp .eq 635, 3) := by decide +kernel
theorem d_L_1061 : decode code 1061 = .ok (.iconst 0, 1) := by decide +kernel
theorem d_L_1062 : decode code 1062 = .ok (.ireturn, 1) := by decide +kernel
theorem d_L_1063 : decode code 1063 = .ok (.aload_n 1, 1) := by decide +kernel
theorem d_L_1064 : decode code 1064 = .ok (.aload_n 0, 1) := by decide +kernel
theorem d_L_1065 : decode code 1065 = .ok (.iload_n 3, 1) := by decide +kernel
theorem d_L_1066 : decode code 1066 = .ok (.iconst 1, 1) := by decide +kernel
theorem d_L_1067 : decode code 1067 = .ok (.iadd, 1) := by decide +kernel
theorem d_L_1068 : decode code 1068 = .ok (.iaload, 1) := by decide +kernel
theorem d_L_1069 : decode code 1069 = .ok (.invokevirtual 104, 3) := by decide +kernel
theorem d_L_1072 : decode code 1072 = .ok (.aload_n 2, 1) := by decide +kernel
theorem d_L_1073 : decode code 1073 = .ok (.aload_n 0, 1) := by decide +kernel
theorem d_L_1074 : decode code 1074 = .ok (.iload_n 3, 1) := by decide +kernel
theorem d_L_1075 : decode code 1075 = .ok (.iconst 1, 1) := by decide +kernel
theorem d_L_1076 : decode code 1076 = .ok (.iadd, 1) := by decide +kernel
theorem d_L_1077 : decode code 1077 = .ok (.iaload, 1) := by decide +kernel
theorem d_L_1078 : decode code 1078 = .ok (.invokevirtual 107, 3) := by decide +kernel
theorem d_L_1081 : decode code 1081 = .ok (.if_icmp .eq 612, 3) := by decide +kernel
theorem d_L_1084 : decode code 1084 = .ok (.iconst 0, 1) := by decide +kernel
theorem d_L_1085 : decode code 1085 = .ok (.ireturn, 1) := by decide +kernel
theorem d_L_1086 : decode code 1086 = .ok (.aload_n 1, 1) := by decide +kernel
theorem d_L_1087 : decode code 1087 = .ok (.aload_n 0, 1) := by decide +kernel
theorem d_L_1088 : decode code 1088 = .ok (.iload_n 3, 1) := by decide +kernel
theorem d_L_1089 : decode code 1089 = .ok (.iconst 1, 1) := by decide +kernel
theorem d_L_1090 : decode code 1090 = .ok (.iadd, 1) := by decide +kernel
theorem d_L_1091 : decode code 1091 = .ok (.iaload, 1) := by decide +kernel
theorem d_L_1092 : decode code 1092 = .ok (.aload_n 0, 1) := by decide +kernel
theorem d_L_1093 : decode code 1093 = .ok (.iload_n 3, 1) := by decide +kernel
theorem d_L_1094 : decode code 1094 = .ok (.iconst 2, 1) := by decide +kernel
theorem d_L_1095 : decode code 1095 = .ok (.iadd, 1) := by decide +kernel
theorem d_L_1096 : decode code 1096 = .ok (.iaload, 1) := by decide +kernel
theorem d_L_1097 : decode code 1097 = .ok (.aload_n 0, 1) := by decide +kernel
theorem d_L_1098 : decode code 1098 = .ok (.iload_n 3, 1) := by decide +kernel
theorem d_L_1099 : decode code 1099 = .ok (.iconst 3, 1) := by decide +kernel
theorem d_L_1100 : decode code 1100 = .ok (.iadd, 1) := by decide +kernel
theorem d_L_1101 : decode code 1101 = .ok (.iaload, 1) := by decide +kernel
theorem d_L_1102 : decode code 1102 = .ok (.invokevirtual 108, 3) := by decide +kernel
theorem d_L_1105 : decode code 1105 = .ok (.aload_n 2, 1) := by decide +kernel
theorem d_L_1106 : decode code 1106 = .ok (.aload_n 0, 1) := by decide +kernel
theorem d_L_1107 : decode code 1107 = .ok (.iload_n 3, 1) := by decide +kernel
theorem d_L_1108 : decode code 1108 = .ok (.iconst 1, 1) := by decide +kernel
theorem d_L_1109 : decode code 1109 = .ok (.iadd, 1) := by decide +kernel
theorem d_L_1110 : decode code 1110 = .ok (.iaload, 1) := by decide +kernel
theorem d_L_1111 : decode code 1111 = .ok (.aload_n 0, 1) := by decide +kernel
theorem d_L_1112 : decode code 1112 = .ok (.iload_n 3, 1) := by decide +kernel
theorem d_L_1113 : decode code 1113 = .ok (.iconst 2, 1) := by decide +kernel
theorem d_L_1114 : decode code 1114 = .ok (.iadd, 1) := by decide +kernel
theorem d_L_1115 : decode code 1115 = .ok (.iaload, 1) := by decide +kernel
theorem d_L_1116 : decode code 1116 = .ok (.aload_n 0, 1) := by decide +kernel
theorem d_L_1117 : decode code 1117 = .ok (.iload_n 3, 1) := by decide +kernel
theorem d_L_1118 : decode code 1118 = .ok (.iconst 3, 1) := by decide +kernel
theorem d_L_1119 : decode code 1119 = .ok (.iadd, 1) := by decide +kernel
theorem d_L_1120 : decode code 1120 = .ok (.iaload, 1) := by decide +kernel
theorem d_L_1121 : decode code 1121 = .ok (.invokevirtual 111, 3) := by decide +kernel
theorem d_L_1124 : decode code 1124 = .ok (.if_icmp .eq 569, 3) := by decide +kernel
theorem d_L_1127 : decode code 1127 = .ok (.iconst 0, 1) := by decide +kernel
theorem d_L_1128 : decode code 1128 = .ok (.ireturn, 1) := by decide +kernel
theorem d_L_1129 : decode code 1129 = .ok (.aload_n 1, 1) := by decide +kernel
theorem d_L_1130 : decode code 1130 = .ok (.invokevirtual 112, 3) := by decide +kernel
theorem d_L_1133 : decode code 1133 = .ok (.aload_n 2, 1) := by decide +kernel
theorem d_L_1134 : decode code 1134 = .ok (.invokevirtual 116, 3) := by decide +kernel
theorem d_L_1137 : decode code 1137 = .ok (.if_icmp .eq 556, 3) := by decide +kernel
theorem d_L_1140 : decode code 1140 = .ok (.iconst 0, 1) := by decide +kernel
theorem d_L_1141 : decode code 1141 = .ok (.ireturn, 1) := by decide +kernel
theorem d_L_1142 : decode code 1142 = .ok (.aload_n 1, 1) := by decide +kernel
theorem d_L_1143 : decode code 1143 = .ok (.aload_n 0, 1) := by decide +kernel
theorem d_L_1144 : decode code 1144 = .ok (.iload_n 3, 1) := by decide +kernel
theorem d_L_1145 : decode code 1145 = .ok (.iconst 1, 1) := by decide +kernel
theorem d_L_1146 : decode code 1146 = .ok (.iadd, 1) := by decide +kernel
theorem d_L_1147 : decode code 1147 = .ok (.iaload, 1) := by decide +kernel
theorem d_L_1148 : decode code 1148 = .ok (.invokevirtual 117, 3) := by decide +kernel
theorem d_L_1151 : decode code 1151 = .ok (.aload_n 2, 1) := by decide +kernel
theorem d_L_1152 : decode code 1152 = .ok (.aload_n 0, 1) := by decide +kernel
theorem d_L_1153 : decode code 1153 = .ok (.iload_n 3, 1) := by decide +kernel
theorem d_L_1154 : decode code 1154 = .ok (.iconst 1, 1) := by decide +kernel
theorem d_L_1155 : decode code 1155 = .ok (.iadd, 1) := by decide +kernel
theorem d_L_1156 : decode code 1156 = .ok (.iaload, 1) := by decide +kernel
theorem d_L_1157 : decode code 1157 = .ok (.invokevirtual 120, 3) := by decide +kernel
theorem d_L_1160 : decode code 1160 = .ok (.if_icmp .eq 533, 3) := by decide +kernel
theorem d_L_1163 : decode code 1163 = .ok (.iconst 0, 1) := by decide +kernel
theorem d_L_1164 : decode code 1164 = .ok (.ireturn, 1) := by decide +kernel
theorem d_L_1165 : decode code 1165 = .ok (.aload_n 1, 1) := by decide +kernel
theorem d_L_1166 : decode code 1166 = .ok (.aload_n 0, 1) := by decide +kernel
theorem d_L_1167 : decode code 1167 = .ok (.iload_n 3, 1) := by decide +kernel
theorem d_L_1168 : decode code 1168 = .ok (.iconst 1, 1) := by decide +kernel
theorem d_L_1169 : decode code 1169 = .ok (.iadd, 1) := by decide +kernel
theorem d_L_1170 : decode code 1170 = .ok (.iaload, 1) := by decide +kernel
theorem d_L_1171 : decode code 1171 = .ok (.invokevirtual 121, 3) := by decide +kernel
theorem d_L_1174 : decode code 1174 = .ok (.aload_n 2, 1) := by decide +kernel
theorem d_L_1175 : decode code 1175 = .ok (.aload_n 0, 1) := by decide +kernel
theorem d_L_1176 : decode code 1176 = .ok (.iload_n 3, 1) := by decide +kernel
theorem d_L_1177 : decode code 1177 = .ok (.iconst 1, 1) := by decide +kernel
theorem d_L_1178 : decode code 1178 = .ok (.iadd, 1) := by decide +kernel
theorem d_L_1179 : decode code 1179 = .ok (.iaload, 1) := by decide +kernel
theorem d_L_1180 : decode code 1180 = .ok (.invokevirtual 124, 3) := by decide +kernel
theorem d_L_1183 : decode code 1183 = .ok (.if_icmp .eq 510, 3) := by decide +kernel
theorem d_L_1186 : decode code 1186 = .ok (.iconst 0, 1) := by decide +kernel
theorem d_L_1187 : decode code 1187 = .ok (.ireturn, 1) := by decide +kernel
theorem d_L_1188 : decode code 1188 = .ok (.aload_n 1, 1) := by decide +kernel
theorem d_L_1189 : decode code 1189 = .ok (.aload_n 0, 1) := by decide +kernel
theorem d_L_1190 : decode code 1190 = .ok (.iload_n 3, 1) := by decide +kernel
theorem d_L_1191 : decode code 1191 = .ok (.iconst 1, 1) := by decide +kernel
theorem d_L_1192 : decode code 1192 = .ok (.iadd, 1) := by decide +kernel
theorem d_L_1193 : decode code 1193 = .ok (.iaload, 1) := by decide +kernel
theorem d_L_1194 : decode code 1194 = .ok (.invokevirtual 125, 3) := by decide +kernel
theorem d_L_1197 : decode code 1197 = .ok (.aload_n 2, 1) := by decide +kernel
theorem d_L_1198 : decode code 1198 = .ok (.aload_n 0, 1) := by decide +kernel
theorem d_L_1199 : decode code 1199 = .ok (.iload_n 3, 1) := by decide +kernel
theorem d_L_1200 : decode code 1200 = .ok (.iconst 1, 1) := by decide +kernel
theorem d_L_1201 : decode code 1201 = .ok (.iadd, 1) := by decide +kernel
theorem d_L_1202 : decode code 1202 = .ok (.iaload, 1) := by decide +kernel
theorem d_L_1203 : decode code 1203 = .ok (.invokevirtual 128, 3) := by decide +kernel
theorem d_L_1206 : decode code 1206 = .ok (.if_icmp .eq 487, 3) := by decide +kernel
theorem d_L_1209 : decode code 1209 = .ok (.iconst 0, 1) := by decide +kernel
theorem d_L_1210 : decode code 1210 = .ok (.ireturn, 1) := by decide +kernel
theorem d_L_1211 : decode code 1211 = .ok (.aload_n 1, 1) := by decide +kernel
theorem d_L_1212 : decode code 1212 = .ok (.invokevirtual 129, 3) := by decide +kernel
theorem d_L_1215 : decode code 1215 = .ok (.aload_n 2, 1) := by decide +kernel
theorem d_L_1216 : decode code 1216 = .ok (.invokevirtual 132, 3) := by decide +kernel
theorem d_L_1219 : decode code 1219 = .ok (.if_icmp .eq 474, 3) := by decide +kernel
theorem d_L_1222 : decode code 1222 = .ok (.iconst 0, 1) := by decide +kernel
theorem d_L_1223 : decode code 1223 = .ok (.ireturn, 1) := by decide +kernel
theorem d_L_1224 : decode code 1224 = .ok (.aload_n 1, 1) := by decide +kernel
theorem d_L_1225 : decode code 1225 = .ok (.aload_n 0, 1) := by decide +kernel
theorem d_L_1226 : decode code 1226 = .ok (.iload_n 3, 1) := by decide +kernel
theorem d_L_1227 : decode code 1227 = .ok (.iconst 1, 1) := by decide +kernel
theorem d_L_1228 : decode code 1228 = .ok (.iadd, 1) := by decide +kernel
theorem d_L_1229 : decode code 1229 = .ok (.iaload, 1) := by decide +kernel
theorem d_L_1230 : decode code 1230 = .ok (.invokevirtual 133, 3) := by decide +kernel
theorem d_L_1233 : decode code 1233 = .ok (.aload_n 2, 1) := by decide +kernel
theorem d_L_1234 : decode code 1234 = .ok (.aload_n 0, 1) := by decide +kernel
theorem d_L_1235 : decode code 1235 = .ok (.iload_n 3, 1) := by decide +kernel
theorem d_L_1236 : decode code 1236 = .ok (.iconst 1, 1) := by decide +kernel
theorem d_L_1237 : decode code 1237 = .ok (.iadd, 1) := by decide +kernel
theorem d_L_1238 : decode code 1238 = .ok (.iaload, 1) := by decide +kernel
theorem d_L_1239 : decode code 1239 = .ok (.invokevirtual 136, 3) := by decide +kernel
theorem d_L_1242 : decode code 1242 = .ok (.if_icmp .eq 451, 3) := by decide +kernel
theorem d_L_1245 : decode code 1245 = .ok (.iconst 0, 1) := by decide +kernel
theorem d_L_1246 : decode code 1246 = .ok (.ireturn, 1) := by decide +kernel
theorem d_L_1247 : decode code 1247 = .ok (.aload_n 1, 1) := by decide +kernel
theorem d_L_1248 : decode code 1248 = .ok (.aload_n 0, 1) := by decide +kernel
theorem d_L_1249 : decode code 1249 = .ok (.iload_n 3, 1) := by decide +kernel
theorem d_L_1250 : decode code 1250 = .ok (.iconst 1, 1) := by decide +kernel
theorem d_L_1251 : decode code 1251 = .ok (.iadd, 1) := by decide +kernel
theorem d_L_1252 : decode code 1252 = .ok (.iaload, 1) := by decide +kernel
theorem d_L_1253 : decode code 1253 = .ok (.aload_n 0, 1) := by decide +kernel
theorem d_L_1254 : decode code 1254 = .ok (.iload_n 3, 1) := by decide +kernel
theorem d_L_1255 : decode code 1255 = .ok (.iconst 2, 1) := by decide +kernel
theorem d_L_1256 : decode code 1256 = .ok (.iadd, 1) := by decide +kernel
theorem d_L_1257 : decode code 1257 = .ok (.iaload, 1) := by decide +kernel
theorem d_L_1258 : decode code 1258 = .ok (.invokevirtual 137, 3) := by decide +kernel
theorem d_L_1261 : decode code 1261 = .ok (.aload_n 2, 1) := by decide +kernel
theorem d_L_1262 : decode code 1262 = .ok (.aload_n 0, 1) := by decide +kernel
theorem d_L_1263 : decode code 1263 = .ok (.iload_n 3, 1) := by decide +kernel
theorem d_L_1264 : decode code 1264 = .ok (.iconst 1, 1) := by decide +kernel
theorem d_L_1265 : decode code 1265 = .ok (.iadd, 1) := by decide +kernel
theorem d_L_1266 : decode code 1266 = .ok (.iaload, 1) := by decide +kernel
theorem d_L_1267 : decode code 1267 = .ok (.aload_n 0, 1) := by decide +kernel
theorem d_L_1268 : decode code 1268 = .ok (.iload_n 3, 1) := by decide +kernel
theorem d_L_1269 : decode code 1269 = .ok (.iconst 2, 1) := by decide +kernel
theorem d_L_1270 : decode code 1270 = .ok (.iadd, 1) := by decide +kernel
theorem d_L_1271 : decode code 1271 = .ok (.iaload, 1) := by decide +kernel
theorem d_L_1272 : decode code 1272 = .ok (.invokevirtual 140, 3) := by decide +kernel
theorem d_L_1275 : decode code 1275 = .ok (.if_icmp .eq 418, 3) := by decide +kernel
theorem d_L_1278 : decode code 1278 = .ok (.iconst 0, 1) := by decide +kernel
theorem d_L_1279 : decode code 1279 = .ok (.ireturn, 1) := by decide +kernel
theorem d_L_1280 : decode code 1280 = .ok (.aload_n 1, 1) := by decide +kernel
theorem d_L_1281 : decode code 1281 = .ok (.aload_n 0, 1) := by decide +kernel
theorem d_L_1282 : decode code 1282 = .ok (.iload_n 3, 1) := by decide +kernel
theorem d_L_1283 : decode code 1283 = .ok (.iconst 1, 1) := by decide +kernel
theorem d_L_1284 : decode code 1284 = .ok (.iadd, 1) := by decide +kernel
theorem d_L_1285 : decode code 1285 = .ok (.iaload, 1) := by decide +kernel
theorem d_L_1286 : decode code 1286 = .ok (.invokevirtual 141, 3) := by decide +kernel
theorem d_L_1289 : decode code 1289 = .ok (.aload_n 2, 1) := by decide +kernel
theorem d_L_1290 : decode code 1290 = .ok (.aload_n 0, 1) := by decide +kernel
theorem d_L_1291 : decode code 1291 = .ok (.iload_n 3, 1) := by decide +kernel
theorem d_L_1292 : decode code 1292 = .ok (.iconst 1, 1) := by decide +kernel
theorem d_L_1293 : decode code 1293 = .ok (.iadd, 1) := by decide +kernel
theorem d_L_1294 : decode code 1294 = .ok (.iaload, 1) := by decide +kernel
theorem d_L_1295 : decode code 1295 = .ok (.invokevirtual 144, 3) := by decide +kernel
theorem d_L_1298 : decode code 1298 = .ok (.if_icmp .eq 395, 3) := by decide +kernel
theorem d_L_1301 : decode code 1301 = .ok (.iconst 0, 1) := by decide +kernel
theorem d_L_1302 : decode code 1302 = .ok (.ireturn, 1) := by decide +kernel
theorem d_L_1303 : decode code 1303 = .ok (.aload_n 1, 1) := by decide +kernel
theorem d_L_1304 : decode code 1304 = .ok (.invokevirtual 145, 3) := by decide +kernel
theorem d_L_1307 : decode code 1307 = .ok (.aload_n 2, 1) := by decide +kernel
theorem d_L_1308 : decode code 1308 = .ok (.invokevirtual 148, 3) := by decide +kernel
theorem d_L_1311 : decode code 1311 = .ok (.if_icmp .eq 382, 3) := by decide +kernel
theorem d_L_1314 : decode code 1314 = .ok (.iconst 0, 1) := by decide +kernel
theorem d_L_1315 : decode code 1315 = .ok (.ireturn, 1) := by decide +kernel
theorem d_L_1316 : decode code 1316 = .ok (.aload_n 1, 1) := by decide +kernel
theorem d_L_1317 : decode code 1317 = .ok (.aload_n 0, 1) := by decide +kernel
theorem d_L_1318 : decode code 1318 = .ok (.iload_n 3, 1) := by decide +kernel
theorem d_L_1319 : decode code 1319 = .ok (.iconst 1, 1) := by decide +kernel
theorem d_L_1320 : decode code 1320 = .ok (.iadd, 1) := by decide +kernel
theorem d_L_1321 : decode code 1321 = .ok (.iaload, 1) := by decide +kernel
theorem d_L_1322 : decode code 1322 = .ok (.invokevirtual 149, 3) := by decide +kernel
theorem d_L_1325 : decode code 1325 = .ok (.aload_n 2, 1) := by decide +kernel
theorem d_L_1326 : decode code 1326 = .ok (.aload_n 0, 1) := by decide +kernel
theorem d_L_1327 : decode code 1327 = .ok (.iload_n 3, 1) := by decide +kernel
theorem d_L_1328 : decode code 1328 = .ok (.iconst 1, 1) := by decide +kernel
theorem d_L_1329 : decode code 1329 = .ok (.iadd, 1) := by decide +kernel
theorem d_L_1330 : decode code 1330 = .ok (.iaload, 1) := by decide +kernel
theorem d_L_1331 : decode code 1331 = .ok (.invokevirtual 152, 3) := by decide +kernel
theorem d_L_1334 : decode code 1334 = .ok (.if_icmp .eq 359, 3) := by decide +kernel
theorem d_L_1337 : decode code 1337 = .ok (.iconst 0, 1) := by decide +kernel
theorem d_L_1338 : decode code 1338 = .ok (.ireturn, 1) := by decide +kernel
theorem d_L_1339 : decode code 1339 = .ok (.aload_n 1, 1) := by decide +kernel
theorem d_L_1340 : decode code 1340 = .ok (.aload_n 0, 1) := by decide +kernel
theorem d_L_1341 : decode code 1341 = .ok (.iload_n 3, 1) := by decide +kernel
theorem d_L_1342 : decode code 1342 = .ok (.iconst 1, 1) := by decide +kernel
theorem d_L_1343 : decode code 1343 = .ok (.iadd, 1) := by decide +kernel
theorem d_L_1344 : decode code 1344 = .ok (.iaload, 1) := by decide +kernel
theorem d_L_1345 : decode code 1345 = .ok (.aload_n 0, 1) := by decide +kernel
theorem d_L_1346 : decode code 1346 = .ok (.iload_n 3, 1) := by decide +kernel
theorem d_L_1347 : decode code 1347 = .ok (.iconst 2, 1) := by decide +kernel
theorem d_L_1348 : decode code 1348 = .ok (.iadd, 1) := by decide +kernel
theorem d_L_1349 : decode code 1349 = .ok (.iaload, 1) := by decide +kernel
theorem d_L_1350 : decode code 1350 = .ok (.aload_n 0, 1) := by decide +kernel
theorem d_L_1351 : decode code 1351 = .ok (.iload_n 3, 1) := by decide +kernel
theorem d_L_1352 : decode code 1352 = .ok (.iconst 3, 1) := by decide +kernel
theorem d_L_1353 : decode code 1353 = .ok (.iadd, 1) := by decide +kernel
theorem d_L_1354 : decode code 1354 = .ok (.iaload, 1) := by decide +kernel
theorem d_L_1355 : decode code 1355 = .ok (.invokevirtual 153, 3) := by decide +kernel
