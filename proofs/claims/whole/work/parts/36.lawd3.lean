-- the law: its instructions, 3
theorem d_law_961 : decode code 961 = .ok (.aload_n 0, 1) := by decide +kernel
theorem d_law_962 : decode code 962 = .ok (.iload 5, 2) := by decide +kernel
theorem d_law_964 : decode code 964 = .ok (.iconst 1, 1) := by decide +kernel
theorem d_law_965 : decode code 965 = .ok (.iadd, 1) := by decide +kernel
theorem d_law_966 : decode code 966 = .ok (.iaload, 1) := by decide +kernel
theorem d_law_967 : decode code 967 = .ok (.aload_n 3, 1) := by decide +kernel
theorem d_law_968 : decode code 968 = .ok (.invokestatic 126, 3) := by decide +kernel
theorem d_law_971 : decode code 971 = .ok (.istore 6, 2) := by decide +kernel
theorem d_law_973 : decode code 973 = .ok (.aload_n 2, 1) := by decide +kernel
theorem d_law_974 : decode code 974 = .ok (.aload_n 0, 1) := by decide +kernel
theorem d_law_975 : decode code 975 = .ok (.iload 5, 2) := by decide +kernel
theorem d_law_977 : decode code 977 = .ok (.iconst 1, 1) := by decide +kernel
theorem d_law_978 : decode code 978 = .ok (.iadd, 1) := by decide +kernel
theorem d_law_979 : decode code 979 = .ok (.iaload, 1) := by decide +kernel
theorem d_law_980 : decode code 980 = .ok (.invokevirtual 128, 3) := by decide +kernel
theorem d_law_983 : decode code 983 = .ok (.istore 7, 2) := by decide +kernel
theorem d_law_985 : decode code 985 = .ok (.aload_n 2, 1) := by decide +kernel
theorem d_law_986 : decode code 986 = .ok (.invokevirtual 86, 3) := by decide +kernel
theorem d_law_989 : decode code 989 = .ok (.iload 6, 2) := by decide +kernel
theorem d_law_991 : decode code 991 = .ok (.if_icmp .eq 5, 3) := by decide +kernel
theorem d_law_994 : decode code 994 = .ok (.iconst 0, 1) := by decide +kernel
theorem d_law_995 : decode code 995 = .ok (.ireturn, 1) := by decide +kernel
theorem d_law_996 : decode code 996 = .ok (.iload 6, 2) := by decide +kernel
theorem d_law_998 : decode code 998 = .ok (.ifCond .ne 15, 3) := by decide +kernel
theorem d_law_1001 : decode code 1001 = .ok (.aload_n 3, 1) := by decide +kernel
theorem d_law_1002 : decode code 1002 = .ok (.iconst 0, 1) := by decide +kernel
theorem d_law_1003 : decode code 1003 = .ok (.laload, 1) := by decide +kernel
theorem d_law_1004 : decode code 1004 = .ok (.iload 7, 2) := by decide +kernel
theorem d_law_1006 : decode code 1006 = .ok (.i2l, 1) := by decide +kernel
theorem d_law_1007 : decode code 1007 = .ok (.lcmp, 1) := by decide +kernel
theorem d_law_1008 : decode code 1008 = .ok (.ifCond .eq 5, 3) := by decide +kernel
theorem d_law_1011 : decode code 1011 = .ok (.iconst 0, 1) := by decide +kernel
theorem d_law_1012 : decode code 1012 = .ok (.ireturn, 1) := by decide +kernel
theorem d_law_1013 : decode code 1013 = .ok (.goto 328, 3) := by decide +kernel
theorem d_law_1016 : decode code 1016 = .ok (.aload_n 1, 1) := by decide +kernel
theorem d_law_1017 : decode code 1017 = .ok (.aload_n 0, 1) := by decide +kernel
theorem d_law_1018 : decode code 1018 = .ok (.iload 5, 2) := by decide +kernel
theorem d_law_1020 : decode code 1020 = .ok (.iconst 1, 1) := by decide +kernel
theorem d_law_1021 : decode code 1021 = .ok (.iadd, 1) := by decide +kernel
theorem d_law_1022 : decode code 1022 = .ok (.iaload, 1) := by decide +kernel
theorem d_law_1023 : decode code 1023 = .ok (.aload_n 0, 1) := by decide +kernel
theorem d_law_1024 : decode code 1024 = .ok (.iload 5, 2) := by decide +kernel
theorem d_law_1026 : decode code 1026 = .ok (.iconst 2, 1) := by decide +kernel
theorem d_law_1027 : decode code 1027 = .ok (.iadd, 1) := by decide +kernel
theorem d_law_1028 : decode code 1028 = .ok (.iaload, 1) := by decide +kernel
theorem d_law_1029 : decode code 1029 = .ok (.aload 4, 2) := by decide +kernel
theorem d_law_1031 : decode code 1031 = .ok (.invokestatic 129, 3) := by decide +kernel
theorem d_law_1034 : decode code 1034 = .ok (.istore 6, 2) := by decide +kernel
theorem d_law_1036 : decode code 1036 = .ok (.aload_n 2, 1) := by decide +kernel
theorem d_law_1037 : decode code 1037 = .ok (.aload_n 0, 1) := by decide +kernel
theorem d_law_1038 : decode code 1038 = .ok (.iload 5, 2) := by decide +kernel
theorem d_law_1040 : decode code 1040 = .ok (.iconst 1, 1) := by decide +kernel
theorem d_law_1041 : decode code 1041 = .ok (.iadd, 1) := by decide +kernel
theorem d_law_1042 : decode code 1042 = .ok (.iaload, 1) := by decide +kernel
theorem d_law_1043 : decode code 1043 = .ok (.aload_n 0, 1) := by decide +kernel
theorem d_law_1044 : decode code 1044 = .ok (.iload 5, 2) := by decide +kernel
theorem d_law_1046 : decode code 1046 = .ok (.iconst 2, 1) := by decide +kernel
theorem d_law_1047 : decode code 1047 = .ok (.iadd, 1) := by decide +kernel
theorem d_law_1048 : decode code 1048 = .ok (.iaload, 1) := by decide +kernel
theorem d_law_1049 : decode code 1049 = .ok (.invokevirtual 132, 3) := by decide +kernel
theorem d_law_1052 : decode code 1052 = .ok (.dstore 7, 2) := by decide +kernel
theorem d_law_1054 : decode code 1054 = .ok (.aload_n 2, 1) := by decide +kernel
theorem d_law_1055 : decode code 1055 = .ok (.invokevirtual 86, 3) := by decide +kernel
theorem d_law_1058 : decode code 1058 = .ok (.iload 6, 2) := by decide +kernel
theorem d_law_1060 : decode code 1060 = .ok (.if_icmp .eq 5, 3) := by decide +kernel
theorem d_law_1063 : decode code 1063 = .ok (.iconst 0, 1) := by decide +kernel
theorem d_law_1064 : decode code 1064 = .ok (.ireturn, 1) := by decide +kernel
theorem d_law_1065 : decode code 1065 = .ok (.iload 6, 2) := by decide +kernel
theorem d_law_1067 : decode code 1067 = .ok (.ifCond .ne 35, 3) := by decide +kernel
theorem d_law_1070 : decode code 1070 = .ok (.aload 4, 2) := by decide +kernel
theorem d_law_1072 : decode code 1072 = .ok (.iconst 0, 1) := by decide +kernel
theorem d_law_1073 : decode code 1073 = .ok (.daload, 1) := by decide +kernel
theorem d_law_1074 : decode code 1074 = .ok (.dload 7, 2) := by decide +kernel
theorem d_law_1076 : decode code 1076 = .ok (.dcmp .l, 1) := by decide +kernel
theorem d_law_1077 : decode code 1077 = .ok (.ifCond .eq 25, 3) := by decide +kernel
theorem d_law_1080 : decode code 1080 = .ok (.aload 4, 2) := by decide +kernel
theorem d_law_1082 : decode code 1082 = .ok (.iconst 0, 1) := by decide +kernel
theorem d_law_1083 : decode code 1083 = .ok (.daload, 1) := by decide +kernel
theorem d_law_1084 : decode code 1084 = .ok (.aload 4, 2) := by decide +kernel
theorem d_law_1086 : decode code 1086 = .ok (.iconst 0, 1) := by decide +kernel
theorem d_law_1087 : decode code 1087 = .ok (.daload, 1) := by decide +kernel
theorem d_law_1088 : decode code 1088 = .ok (.dcmp .l, 1) := by decide +kernel
theorem d_law_1089 : decode code 1089 = .ok (.ifCond .eq 11, 3) := by decide +kernel
theorem d_law_1092 : decode code 1092 = .ok (.dload 7, 2) := by decide +kernel
theorem d_law_1094 : decode code 1094 = .ok (.dload 7, 2) := by decide +kernel
theorem d_law_1096 : decode code 1096 = .ok (.dcmp .l, 1) := by decide +kernel
theorem d_law_1097 : decode code 1097 = .ok (.ifCond .ne 5, 3) := by decide +kernel
theorem d_law_1100 : decode code 1100 = .ok (.iconst 0, 1) := by decide +kernel
theorem d_law_1101 : decode code 1101 = .ok (.ireturn, 1) := by decide +kernel
theorem d_law_1102 : decode code 1102 = .ok (.goto 239, 3) := by decide +kernel
theorem d_law_1105 : decode code 1105 = .ok (.aload_n 1, 1) := by decide +kernel
theorem d_law_1106 : decode code 1106 = .ok (.aload_n 0, 1) := by decide +kernel
theorem d_law_1107 : decode code 1107 = .ok (.iload 5, 2) := by decide +kernel
theorem d_law_1109 : decode code 1109 = .ok (.iconst 1, 1) := by decide +kernel
theorem d_law_1110 : decode code 1110 = .ok (.iadd, 1) := by decide +kernel
theorem d_law_1111 : decode code 1111 = .ok (.iaload, 1) := by decide +kernel
theorem d_law_1112 : decode code 1112 = .ok (.i2d, 1) := by decide +kernel
theorem d_law_1113 : decode code 1113 = .ok (.ldc2_w 78, 3) := by decide +kernel
theorem d_law_1116 : decode code 1116 = .ok (.dmul, 1) := by decide +kernel
theorem d_law_1117 : decode code 1117 = .ok (.aload 4, 2) := by decide +kernel
theorem d_law_1119 : decode code 1119 = .ok (.invokestatic 133, 3) := by decide +kernel
theorem d_law_1122 : decode code 1122 = .ok (.istore 6, 2) := by decide +kernel
theorem d_law_1124 : decode code 1124 = .ok (.aload_n 2, 1) := by decide +kernel
theorem d_law_1125 : decode code 1125 = .ok (.aload_n 0, 1) := by decide +kernel
theorem d_law_1126 : decode code 1126 = .ok (.iload 5, 2) := by decide +kernel
theorem d_law_1128 : decode code 1128 = .ok (.iconst 1, 1) := by decide +kernel
theorem d_law_1129 : decode code 1129 = .ok (.iadd, 1) := by decide +kernel
theorem d_law_1130 : decode code 1130 = .ok (.iaload, 1) := by decide +kernel
theorem d_law_1131 : decode code 1131 = .ok (.i2d, 1) := by decide +kernel
theorem d_law_1132 : decode code 1132 = .ok (.ldc2_w 78, 3) := by decide +kernel
theorem d_law_1135 : decode code 1135 = .ok (.dmul, 1) := by decide +kernel
theorem d_law_1136 : decode code 1136 = .ok (.invokevirtual 136, 3) := by decide +kernel
theorem d_law_1139 : decode code 1139 = .ok (.dstore 7, 2) := by decide +kernel
theorem d_law_1141 : decode code 1141 = .ok (.aload_n 2, 1) := by decide +kernel
theorem d_law_1142 : decode code 1142 = .ok (.invokevirtual 86, 3) := by decide +kernel
theorem d_law_1145 : decode code 1145 = .ok (.iload 6, 2) := by decide +kernel
theorem d_law_1147 : decode code 1147 = .ok (.if_icmp .eq 5, 3) := by decide +kernel
theorem d_law_1150 : decode code 1150 = .ok (.iconst 0, 1) := by decide +kernel
theorem d_law_1151 : decode code 1151 = .ok (.ireturn, 1) := by decide +kernel
theorem d_law_1152 : decode code 1152 = .ok (.iload 6, 2) := by decide +kernel
theorem d_law_1154 : decode code 1154 = .ok (.ifCond .ne 35, 3) := by decide +kernel
theorem d_law_1157 : decode code 1157 = .ok (.aload 4, 2) := by decide +kernel
theorem d_law_1159 : decode code 1159 = .ok (.iconst 0, 1) := by decide +kernel
theorem d_law_1160 : decode code 1160 = .ok (.daload, 1) := by decide +kernel
theorem d_law_1161 : decode code 1161 = .ok (.dload 7, 2) := by decide +kernel
theorem d_law_1163 : decode code 1163 = .ok (.dcmp .l, 1) := by decide +kernel
theorem d_law_1164 : decode code 1164 = .ok (.ifCond .eq 25, 3) := by decide +kernel
theorem d_law_1167 : decode code 1167 = .ok (.aload 4, 2) := by decide +kernel
theorem d_law_1169 : decode code 1169 = .ok (.iconst 0, 1) := by decide +kernel
theorem d_law_1170 : decode code 1170 = .ok (.daload, 1) := by decide +kernel
theorem d_law_1171 : decode code 1171 = .ok (.aload 4, 2) := by decide +kernel
theorem d_law_1173 : decode code 1173 = .ok (.iconst 0, 1) := by decide +kernel
theorem d_law_1174 : decode code 1174 = .ok (.daload, 1) := by decide +kernel
theorem d_law_1175 : decode code 1175 = .ok (.dcmp .l, 1) := by decide +kernel
theorem d_law_1176 : decode code 1176 = .ok (.ifCond .eq 11, 3) := by decide +kernel
theorem d_law_1179 : decode code 1179 = .ok (.dload 7, 2) := by decide +kernel
theorem d_law_1181 : decode code 1181 = .ok (.dload 7, 2) := by decide +kernel
theorem d_law_1183 : decode code 1183 = .ok (.dcmp .l, 1) := by decide +kernel
theorem d_law_1184 : decode code 1184 = .ok (.ifCond .ne 5, 3) := by decide +kernel
theorem d_law_1187 : decode code 1187 = .ok (.iconst 0, 1) := by decide +kernel
theorem d_law_1188 : decode code 1188 = .ok (.ireturn, 1) := by decide +kernel
theorem d_law_1189 : decode code 1189 = .ok (.goto 152, 3) := by decide +kernel
theorem d_law_1192 : decode code 1192 = .ok (.aload_n 1, 1) := by decide +kernel
theorem d_law_1193 : decode code 1193 = .ok (.aload_n 0, 1) := by decide +kernel
theorem d_law_1194 : decode code 1194 = .ok (.iload 5, 2) := by decide +kernel
theorem d_law_1196 : decode code 1196 = .ok (.iconst 1, 1) := by decide +kernel
theorem d_law_1197 : decode code 1197 = .ok (.iadd, 1) := by decide +kernel
theorem d_law_1198 : decode code 1198 = .ok (.iaload, 1) := by decide +kernel
theorem d_law_1199 : decode code 1199 = .ok (.aload_n 3, 1) := by decide +kernel
theorem d_law_1200 : decode code 1200 = .ok (.invokestatic 137, 3) := by decide +kernel
theorem d_law_1203 : decode code 1203 = .ok (.istore 6, 2) := by decide +kernel
theorem d_law_1205 : decode code 1205 = .ok (.aload_n 2, 1) := by decide +kernel
theorem d_law_1206 : decode code 1206 = .ok (.aload_n 0, 1) := by decide +kernel
theorem d_law_1207 : decode code 1207 = .ok (.iload 5, 2) := by decide +kernel
theorem d_law_1209 : decode code 1209 = .ok (.iconst 1, 1) := by decide +kernel
theorem d_law_1210 : decode code 1210 = .ok (.iadd, 1) := by decide +kernel
theorem d_law_1211 : decode code 1211 = .ok (.iaload, 1) := by decide +kernel
theorem d_law_1212 : decode code 1212 = .ok (.invokevirtual 139, 3) := by decide +kernel
theorem d_law_1215 : decode code 1215 = .ok (.istore 7, 2) := by decide +kernel
theorem d_law_1217 : decode code 1217 = .ok (.aload_n 2, 1) := by decide +kernel
theorem d_law_1218 : decode code 1218 = .ok (.invokevirtual 86, 3) := by decide +kernel
theorem d_law_1221 : decode code 1221 = .ok (.iload 6, 2) := by decide +kernel
theorem d_law_1223 : decode code 1223 = .ok (.if_icmp .eq 5, 3) := by decide +kernel
theorem d_law_1226 : decode code 1226 = .ok (.iconst 0, 1) := by decide +kernel
theorem d_law_1227 : decode code 1227 = .ok (.ireturn, 1) := by decide +kernel
theorem d_law_1228 : decode code 1228 = .ok (.iload 6, 2) := by decide +kernel
theorem d_law_1230 : decode code 1230 = .ok (.ifCond .ne 15, 3) := by decide +kernel
theorem d_law_1233 : decode code 1233 = .ok (.aload_n 3, 1) := by decide +kernel
theorem d_law_1234 : decode code 1234 = .ok (.iconst 0, 1) := by decide +kernel
theorem d_law_1235 : decode code 1235 = .ok (.laload, 1) := by decide +kernel
theorem d_law_1236 : decode code 1236 = .ok (.iload 7, 2) := by decide +kernel
theorem d_law_1238 : decode code 1238 = .ok (.i2l, 1) := by decide +kernel
theorem d_law_1239 : decode code 1239 = .ok (.lcmp, 1) := by decide +kernel
theorem d_law_1240 : decode code 1240 = .ok (.ifCond .eq 5, 3) := by decide +kernel
theorem d_law_1243 : decode code 1243 = .ok (.iconst 0, 1) := by decide +kernel
theorem d_law_1244 : decode code 1244 = .ok (.ireturn, 1) := by decide +kernel
theorem d_law_1245 : decode code 1245 = .ok (.goto 96, 3) := by decide +kernel
theorem d_law_1248 : decode code 1248 = .ok (.aload_n 1, 1) := by decide +kernel
theorem d_law_1249 : decode code 1249 = .ok (.aload_n 0, 1) := by decide +kernel
theorem d_law_1250 : decode code 1250 = .ok (.iload 5, 2) := by decide +kernel
theorem d_law_1252 : decode code 1252 = .ok (.iconst 1, 1) := by decide +kernel
theorem d_law_1253 : decode code 1253 = .ok (.iadd, 1) := by decide +kernel
theorem d_law_1254 : decode code 1254 = .ok (.iaload, 1) := by decide +kernel
theorem d_law_1255 : decode code 1255 = .ok (.aload_n 0, 1) := by decide +kernel
theorem d_law_1256 : decode code 1256 = .ok (.iload 5, 2) := by decide +kernel
theorem d_law_1258 : decode code 1258 = .ok (.iconst 2, 1) := by decide +kernel
theorem d_law_1259 : decode code 1259 = .ok (.iadd, 1) := by decide +kernel
theorem d_law_1260 : decode code 1260 = .ok (.iaload, 1) := by decide +kernel
theorem d_law_1261 : decode code 1261 = .ok (.aload_n 3, 1) := by decide +kernel
theorem d_law_1262 : decode code 1262 = .ok (.invokestatic 140, 3) := by decide +kernel
