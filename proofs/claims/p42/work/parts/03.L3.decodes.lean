theorem dL_acts_868 : decode cL_acts 868 = .ok (.invokestatic 70, 3) := by decide +kernel
theorem dL_acts_871 : decode cL_acts 871 = .ok (.istore 10, 2) := by decide +kernel
theorem dL_acts_873 : decode cL_acts 873 = .ok (.iload_n 2, 1) := by decide +kernel
theorem dL_acts_874 : decode cL_acts 874 = .ok (.iconst 3, 1) := by decide +kernel
theorem dL_acts_875 : decode cL_acts 875 = .ok (.ishr, 1) := by decide +kernel
theorem dL_acts_876 : decode cL_acts 876 = .ok (.bipush 6, 2) := by decide +kernel
theorem dL_acts_878 : decode cL_acts 878 = .ok (.invokestatic 70, 3) := by decide +kernel
theorem dL_acts_881 : decode cL_acts 881 = .ok (.istore 11, 2) := by decide +kernel
theorem dL_acts_883 : decode cL_acts 883 = .ok (.iload_n 2, 1) := by decide +kernel
theorem dL_acts_884 : decode cL_acts 884 = .ok (.bipush 6, 2) := by decide +kernel
theorem dL_acts_886 : decode cL_acts 886 = .ok (.ishr, 1) := by decide +kernel
theorem dL_acts_887 : decode cL_acts 887 = .ok (.iload_n 2, 1) := by decide +kernel
theorem dL_acts_888 : decode cL_acts 888 = .ok (.bipush 15, 2) := by decide +kernel
theorem dL_acts_890 : decode cL_acts 890 = .ok (.ishr, 1) := by decide +kernel
theorem dL_acts_891 : decode cL_acts 891 = .ok (.bipush 6, 2) := by decide +kernel
theorem dL_acts_893 : decode cL_acts 893 = .ok (.invokestatic 70, 3) := by decide +kernel
theorem dL_acts_896 : decode cL_acts 896 = .ok (.ifCond .ne 7, 3) := by decide +kernel
theorem dL_acts_899 : decode cL_acts 899 = .ok (.iconst 5, 1) := by decide +kernel
theorem dL_acts_900 : decode cL_acts 900 = .ok (.goto 4, 3) := by decide +kernel
theorem dL_acts_903 : decode cL_acts 903 = .ok (.iconst 4, 1) := by decide +kernel
theorem dL_acts_904 : decode cL_acts 904 = .ok (.invokestatic 70, 3) := by decide +kernel
theorem dL_acts_907 : decode cL_acts 907 = .ok (.istore 12, 2) := by decide +kernel
theorem dL_acts_909 : decode cL_acts 909 = .ok (.iload_n 2, 1) := by decide +kernel
theorem dL_acts_910 : decode cL_acts 910 = .ok (.bipush 9, 2) := by decide +kernel
theorem dL_acts_912 : decode cL_acts 912 = .ok (.ishr, 1) := by decide +kernel
theorem dL_acts_913 : decode cL_acts 913 = .ok (.iload_n 2, 1) := by decide +kernel
theorem dL_acts_914 : decode cL_acts 914 = .ok (.bipush 16, 2) := by decide +kernel
theorem dL_acts_916 : decode cL_acts 916 = .ok (.ishr, 1) := by decide +kernel
theorem dL_acts_917 : decode cL_acts 917 = .ok (.bipush 6, 2) := by decide +kernel
theorem dL_acts_919 : decode cL_acts 919 = .ok (.invokestatic 70, 3) := by decide +kernel
theorem dL_acts_922 : decode cL_acts 922 = .ok (.ifCond .ne 7, 3) := by decide +kernel
theorem dL_acts_925 : decode cL_acts 925 = .ok (.iconst 5, 1) := by decide +kernel
theorem dL_acts_926 : decode cL_acts 926 = .ok (.goto 4, 3) := by decide +kernel
theorem dL_acts_929 : decode cL_acts 929 = .ok (.iconst 4, 1) := by decide +kernel
theorem dL_acts_930 : decode cL_acts 930 = .ok (.invokestatic 70, 3) := by decide +kernel
theorem dL_acts_933 : decode cL_acts 933 = .ok (.istore 13, 2) := by decide +kernel
theorem dL_acts_935 : decode cL_acts 935 = .ok (.iload 10, 2) := by decide +kernel
theorem dL_acts_937 : decode cL_acts 937 = .ok (.bipush 6, 2) := by decide +kernel
theorem dL_acts_939 : decode cL_acts 939 = .ok (.if_icmp .eq 15, 3) := by decide +kernel
theorem dL_acts_942 : decode cL_acts 942 = .ok (.iload 12, 2) := by decide +kernel
theorem dL_acts_944 : decode cL_acts 944 = .ok (.iconst 4, 1) := by decide +kernel
theorem dL_acts_945 : decode cL_acts 945 = .ok (.if_icmp .eq 9, 3) := by decide +kernel
theorem dL_acts_948 : decode cL_acts 948 = .ok (.iload 13, 2) := by decide +kernel
theorem dL_acts_950 : decode cL_acts 950 = .ok (.iconst 4, 1) := by decide +kernel
theorem dL_acts_951 : decode cL_acts 951 = .ok (.if_icmp .ne 7, 3) := by decide +kernel
theorem dL_acts_954 : decode cL_acts 954 = .ok (.iconst 1, 1) := by decide +kernel
theorem dL_acts_955 : decode cL_acts 955 = .ok (.goto 4, 3) := by decide +kernel
theorem dL_acts_958 : decode cL_acts 958 = .ok (.iconst 0, 1) := by decide +kernel
theorem dL_acts_959 : decode cL_acts 959 = .ok (.istore 14, 2) := by decide +kernel
theorem dL_acts_961 : decode cL_acts 961 = .ok (.iload 10, 2) := by decide +kernel
theorem dL_acts_963 : decode cL_acts 963 = .ok (.bipush 6, 2) := by decide +kernel
theorem dL_acts_965 : decode cL_acts 965 = .ok (.if_icmp .ne 7, 3) := by decide +kernel
theorem dL_acts_968 : decode cL_acts 968 = .ok (.iconst 0, 1) := by decide +kernel
theorem dL_acts_969 : decode cL_acts 969 = .ok (.goto 10, 3) := by decide +kernel
theorem dL_acts_972 : decode cL_acts 972 = .ok (.aload_n 0, 1) := by decide +kernel
theorem dL_acts_973 : decode cL_acts 973 = .ok (.iload 10, 2) := by decide +kernel
theorem dL_acts_975 : decode cL_acts 975 = .ok (.iconst 0, 1) := by decide +kernel
theorem dL_acts_976 : decode cL_acts 976 = .ok (.invokevirtual 13, 3) := by decide +kernel
theorem dL_acts_979 : decode cL_acts 979 = .ok (.istore 15, 2) := by decide +kernel
theorem dL_acts_981 : decode cL_acts 981 = .ok (.aload_n 0, 1) := by decide +kernel
theorem dL_acts_982 : decode cL_acts 982 = .ok (.iload 10, 2) := by decide +kernel
theorem dL_acts_984 : decode cL_acts 984 = .ok (.iload 11, 2) := by decide +kernel
theorem dL_acts_986 : decode cL_acts 986 = .ok (.iload 12, 2) := by decide +kernel
theorem dL_acts_988 : decode cL_acts 988 = .ok (.iload 13, 2) := by decide +kernel
theorem dL_acts_990 : decode cL_acts 990 = .ok (.invokevirtual 159, 3) := by decide +kernel
theorem dL_acts_993 : decode cL_acts 993 = .ok (.iload 14, 2) := by decide +kernel
theorem dL_acts_995 : decode cL_acts 995 = .ok (.ifCond .eq 8, 3) := by decide +kernel
theorem dL_acts_998 : decode cL_acts 998 = .ok (.ldc 60, 2) := by decide +kernel
theorem dL_acts_1000 : decode cL_acts 1000 = .ok (.goto 16, 3) := by decide +kernel
theorem dL_acts_1003 : decode cL_acts 1003 = .ok (.iload 11, 2) := by decide +kernel
theorem dL_acts_1005 : decode cL_acts 1005 = .ok (.iconst 5, 1) := by decide +kernel
theorem dL_acts_1006 : decode cL_acts 1006 = .ok (.if_icmp .ne 8, 3) := by decide +kernel
theorem dL_acts_1009 : decode cL_acts 1009 = .ok (.ldc 59, 2) := by decide +kernel
theorem dL_acts_1011 : decode cL_acts 1011 = .ok (.goto 5, 3) := by decide +kernel
theorem dL_acts_1014 : decode cL_acts 1014 = .ok (.iload 15, 2) := by decide +kernel
theorem dL_acts_1016 : decode cL_acts 1016 = .ok (.if_icmp .ne 54, 3) := by decide +kernel
theorem dL_acts_1019 : decode cL_acts 1019 = .ok (.iload 14, 2) := by decide +kernel
theorem dL_acts_1021 : decode cL_acts 1021 = .ok (.ifCond .ne 45, 3) := by decide +kernel
theorem dL_acts_1024 : decode cL_acts 1024 = .ok (.iload 11, 2) := by decide +kernel
theorem dL_acts_1026 : decode cL_acts 1026 = .ok (.iconst 5, 1) := by decide +kernel
theorem dL_acts_1027 : decode cL_acts 1027 = .ok (.if_icmp .eq 39, 3) := by decide +kernel
theorem dL_acts_1030 : decode cL_acts 1030 = .ok (.aload_n 0, 1) := by decide +kernel
theorem dL_acts_1031 : decode cL_acts 1031 = .ok (.iload 10, 2) := by decide +kernel
theorem dL_acts_1033 : decode cL_acts 1033 = .ok (.iconst 0, 1) := by decide +kernel
theorem dL_acts_1034 : decode cL_acts 1034 = .ok (.invokevirtual 13, 3) := by decide +kernel
theorem dL_acts_1037 : decode cL_acts 1037 = .ok (.iload 11, 2) := by decide +kernel
theorem dL_acts_1039 : decode cL_acts 1039 = .ok (.if_icmp .ne 31, 3) := by decide +kernel
theorem dL_acts_1042 : decode cL_acts 1042 = .ok (.aload_n 0, 1) := by decide +kernel
theorem dL_acts_1043 : decode cL_acts 1043 = .ok (.iload 10, 2) := by decide +kernel
theorem dL_acts_1045 : decode cL_acts 1045 = .ok (.iconst 1, 1) := by decide +kernel
theorem dL_acts_1046 : decode cL_acts 1046 = .ok (.invokevirtual 13, 3) := by decide +kernel
theorem dL_acts_1049 : decode cL_acts 1049 = .ok (.iload 12, 2) := by decide +kernel
theorem dL_acts_1051 : decode cL_acts 1051 = .ok (.if_icmp .ne 19, 3) := by decide +kernel
theorem dL_acts_1054 : decode cL_acts 1054 = .ok (.aload_n 0, 1) := by decide +kernel
theorem dL_acts_1055 : decode cL_acts 1055 = .ok (.iload 10, 2) := by decide +kernel
theorem dL_acts_1057 : decode cL_acts 1057 = .ok (.iconst 2, 1) := by decide +kernel
theorem dL_acts_1058 : decode cL_acts 1058 = .ok (.invokevirtual 13, 3) := by decide +kernel
theorem dL_acts_1061 : decode cL_acts 1061 = .ok (.iload 13, 2) := by decide +kernel
theorem dL_acts_1063 : decode cL_acts 1063 = .ok (.if_icmp .ne 7, 3) := by decide +kernel
theorem dL_acts_1066 : decode cL_acts 1066 = .ok (.iconst 1, 1) := by decide +kernel
theorem dL_acts_1067 : decode cL_acts 1067 = .ok (.goto 4, 3) := by decide +kernel
theorem dL_acts_1070 : decode cL_acts 1070 = .ok (.iconst 0, 1) := by decide +kernel
theorem dL_acts_1071 : decode cL_acts 1071 = .ok (.ireturn, 1) := by decide +kernel
theorem dL_acts_1072 : decode cL_acts 1072 = .ok (.iload_n 2, 1) := by decide +kernel
theorem dL_acts_1073 : decode cL_acts 1073 = .ok (.bipush 9, 2) := by decide +kernel
theorem dL_acts_1075 : decode cL_acts 1075 = .ok (.invokestatic 70, 3) := by decide +kernel
theorem dL_acts_1078 : decode cL_acts 1078 = .ok (.istore 10, 2) := by decide +kernel
theorem dL_acts_1080 : decode cL_acts 1080 = .ok (.iload_n 3, 1) := by decide +kernel
theorem dL_acts_1081 : decode cL_acts 1081 = .ok (.bipush 29, 2) := by decide +kernel
theorem dL_acts_1083 : decode cL_acts 1083 = .ok (.if_icmp .ge 190, 3) := by decide +kernel
theorem dL_acts_1086 : decode cL_acts 1086 = .ok (.iload_n 2, 1) := by decide +kernel
theorem dL_acts_1087 : decode cL_acts 1087 = .ok (.iconst 3, 1) := by decide +kernel
theorem dL_acts_1088 : decode cL_acts 1088 = .ok (.ishr, 1) := by decide +kernel
theorem dL_acts_1089 : decode cL_acts 1089 = .ok (.bipush 7, 2) := by decide +kernel
theorem dL_acts_1091 : decode cL_acts 1091 = .ok (.invokestatic 70, 3) := by decide +kernel
theorem dL_acts_1094 : decode cL_acts 1094 = .ok (.istore 11, 2) := by decide +kernel
theorem dL_acts_1096 : decode cL_acts 1096 = .ok (.iload_n 2, 1) := by decide +kernel
theorem dL_acts_1097 : decode cL_acts 1097 = .ok (.bipush 6, 2) := by decide +kernel
theorem dL_acts_1099 : decode cL_acts 1099 = .ok (.ishr, 1) := by decide +kernel
theorem dL_acts_1100 : decode cL_acts 1100 = .ok (.iconst 4, 1) := by decide +kernel
theorem dL_acts_1101 : decode cL_acts 1101 = .ok (.invokestatic 70, 3) := by decide +kernel
theorem dL_acts_1104 : decode cL_acts 1104 = .ok (.istore 12, 2) := by decide +kernel
theorem dL_acts_1106 : decode cL_acts 1106 = .ok (.iload_n 2, 1) := by decide +kernel
theorem dL_acts_1107 : decode cL_acts 1107 = .ok (.bipush 8, 2) := by decide +kernel
theorem dL_acts_1109 : decode cL_acts 1109 = .ok (.ishr, 1) := by decide +kernel
theorem dL_acts_1110 : decode cL_acts 1110 = .ok (.iload_n 2, 1) := by decide +kernel
theorem dL_acts_1111 : decode cL_acts 1111 = .ok (.bipush 17, 2) := by decide +kernel
theorem dL_acts_1113 : decode cL_acts 1113 = .ok (.ishr, 1) := by decide +kernel
theorem dL_acts_1114 : decode cL_acts 1114 = .ok (.iconst 5, 1) := by decide +kernel
theorem dL_acts_1115 : decode cL_acts 1115 = .ok (.invokestatic 70, 3) := by decide +kernel
theorem dL_acts_1118 : decode cL_acts 1118 = .ok (.ifCond .ne 8, 3) := by decide +kernel
theorem dL_acts_1121 : decode cL_acts 1121 = .ok (.ldc 162, 2) := by decide +kernel
theorem dL_acts_1123 : decode cL_acts 1123 = .ok (.goto 5, 3) := by decide +kernel
theorem dL_acts_1126 : decode cL_acts 1126 = .ok (.bipush 11, 2) := by decide +kernel
theorem dL_acts_1128 : decode cL_acts 1128 = .ok (.invokestatic 70, 3) := by decide +kernel
theorem dL_acts_1131 : decode cL_acts 1131 = .ok (.iload_n 2, 1) := by decide +kernel
theorem dL_acts_1132 : decode cL_acts 1132 = .ok (.bipush 17, 2) := by decide +kernel
theorem dL_acts_1134 : decode cL_acts 1134 = .ok (.ishr, 1) := by decide +kernel
theorem dL_acts_1135 : decode cL_acts 1135 = .ok (.iconst 5, 1) := by decide +kernel
theorem dL_acts_1136 : decode cL_acts 1136 = .ok (.invokestatic 70, 3) := by decide +kernel
theorem dL_acts_1139 : decode cL_acts 1139 = .ok (.ifCond .ne 8, 3) := by decide +kernel
theorem dL_acts_1142 : decode cL_acts 1142 = .ok (.ldc 163, 2) := by decide +kernel
theorem dL_acts_1144 : decode cL_acts 1144 = .ok (.goto 4, 3) := by decide +kernel
theorem dL_acts_1147 : decode cL_acts 1147 = .ok (.iconst 5, 1) := by decide +kernel
theorem dL_acts_1148 : decode cL_acts 1148 = .ok (.isub, 1) := by decide +kernel
theorem dL_acts_1149 : decode cL_acts 1149 = .ok (.istore 13, 2) := by decide +kernel
theorem dL_acts_1151 : decode cL_acts 1151 = .ok (.iload 12, 2) := by decide +kernel
theorem dL_acts_1153 : decode cL_acts 1153 = .ok (.iconst 3, 1) := by decide +kernel
theorem dL_acts_1154 : decode cL_acts 1154 = .ok (.if_icmp .eq 17, 3) := by decide +kernel
theorem dL_acts_1157 : decode cL_acts 1157 = .ok (.iload 13, 2) := by decide +kernel
theorem dL_acts_1159 : decode cL_acts 1159 = .ok (.ldc 164, 2) := by decide +kernel
theorem dL_acts_1161 : decode cL_acts 1161 = .ok (.if_icmp .lt 10, 3) := by decide +kernel
theorem dL_acts_1164 : decode cL_acts 1164 = .ok (.iload 13, 2) := by decide +kernel
theorem dL_acts_1166 : decode cL_acts 1166 = .ok (.ldc 165, 2) := by decide +kernel
theorem dL_acts_1168 : decode cL_acts 1168 = .ok (.if_icmp .le 7, 3) := by decide +kernel
theorem dL_acts_1171 : decode cL_acts 1171 = .ok (.iconst 1, 1) := by decide +kernel
theorem dL_acts_1172 : decode cL_acts 1172 = .ok (.goto 4, 3) := by decide +kernel
theorem dL_acts_1175 : decode cL_acts 1175 = .ok (.iconst 0, 1) := by decide +kernel
theorem dL_acts_1176 : decode cL_acts 1176 = .ok (.istore 14, 2) := by decide +kernel
theorem dL_acts_1178 : decode cL_acts 1178 = .ok (.aload_n 0, 1) := by decide +kernel
theorem dL_acts_1179 : decode cL_acts 1179 = .ok (.iload 11, 2) := by decide +kernel
theorem dL_acts_1181 : decode cL_acts 1181 = .ok (.iload 12, 2) := by decide +kernel
theorem dL_acts_1183 : decode cL_acts 1183 = .ok (.iload 13, 2) := by decide +kernel
theorem dL_acts_1185 : decode cL_acts 1185 = .ok (.iload_n 2, 1) := by decide +kernel
theorem dL_acts_1186 : decode cL_acts 1186 = .ok (.bipush 12, 2) := by decide +kernel
theorem dL_acts_1188 : decode cL_acts 1188 = .ok (.ishr, 1) := by decide +kernel
theorem dL_acts_1189 : decode cL_acts 1189 = .ok (.iconst 2, 1) := by decide +kernel
theorem dL_acts_1190 : decode cL_acts 1190 = .ok (.invokestatic 70, 3) := by decide +kernel
theorem dL_acts_1193 : decode cL_acts 1193 = .ok (.ifCond .ne 7, 3) := by decide +kernel
theorem dL_acts_1196 : decode cL_acts 1196 = .ok (.iconst 1, 1) := by decide +kernel
theorem dL_acts_1197 : decode cL_acts 1197 = .ok (.goto 4, 3) := by decide +kernel
theorem dL_acts_1200 : decode cL_acts 1200 = .ok (.iconst 0, 1) := by decide +kernel
theorem dL_acts_1201 : decode cL_acts 1201 = .ok (.iload 10, 2) := by decide +kernel
theorem dL_acts_1203 : decode cL_acts 1203 = .ok (.invokevirtual 166, 3) := by decide +kernel
theorem dL_acts_1206 : decode cL_acts 1206 = .ok (.istore 15, 2) := by decide +kernel
theorem dL_acts_1208 : decode cL_acts 1208 = .ok (.iload 15, 2) := by decide +kernel
theorem dL_acts_1210 : decode cL_acts 1210 = .ok (.iload 11, 2) := by decide +kernel
theorem dL_acts_1212 : decode cL_acts 1212 = .ok (.bipush 6, 2) := by decide +kernel
theorem dL_acts_1214 : decode cL_acts 1214 = .ok (.if_icmp .eq 10, 3) := by decide +kernel
theorem dL_acts_1217 : decode cL_acts 1217 = .ok (.iload 10, 2) := by decide +kernel
theorem dL_acts_1219 : decode cL_acts 1219 = .ok (.bipush 8, 2) := by decide +kernel
theorem dL_acts_1221 : decode cL_acts 1221 = .ok (.if_icmp .ne 8, 3) := by decide +kernel
theorem dL_acts_1224 : decode cL_acts 1224 = .ok (.ldc 60, 2) := by decide +kernel
theorem dL_acts_1226 : decode cL_acts 1226 = .ok (.goto 15, 3) := by decide +kernel
theorem dL_acts_1229 : decode cL_acts 1229 = .ok (.iload 14, 2) := by decide +kernel
theorem dL_acts_1231 : decode cL_acts 1231 = .ok (.ifCond .eq 8, 3) := by decide +kernel
theorem dL_acts_1234 : decode cL_acts 1234 = .ok (.ldc 59, 2) := by decide +kernel
theorem dL_acts_1236 : decode cL_acts 1236 = .ok (.goto 5, 3) := by decide +kernel
theorem dL_acts_1239 : decode cL_acts 1239 = .ok (.iload 15, 2) := by decide +kernel
theorem dL_acts_1241 : decode cL_acts 1241 = .ok (.if_icmp .ne 30, 3) := by decide +kernel
theorem dL_acts_1244 : decode cL_acts 1244 = .ok (.iload 15, 2) := by decide +kernel
theorem dL_acts_1246 : decode cL_acts 1246 = .ok (.ifCond .lt 21, 3) := by decide +kernel
theorem dL_acts_1249 : decode cL_acts 1249 = .ok (.iload 15, 2) := by decide +kernel
theorem dL_acts_1251 : decode cL_acts 1251 = .ok (.iload 4, 2) := by decide +kernel
theorem dL_acts_1253 : decode cL_acts 1253 = .ok (.if_icmp .gt 18, 3) := by decide +kernel
theorem dL_acts_1256 : decode cL_acts 1256 = .ok (.aload_n 0, 1) := by decide +kernel
theorem dL_acts_1257 : decode cL_acts 1257 = .ok (.iload 10, 2) := by decide +kernel
theorem dL_acts_1259 : decode cL_acts 1259 = .ok (.invokevirtual 23, 3) := by decide +kernel
theorem dL_acts_1262 : decode cL_acts 1262 = .ok (.iload 15, 2) := by decide +kernel
theorem dL_acts_1264 : decode cL_acts 1264 = .ok (.if_icmp .ne 7, 3) := by decide +kernel
theorem dL_acts_1267 : decode cL_acts 1267 = .ok (.iconst 1, 1) := by decide +kernel
theorem dL_acts_1268 : decode cL_acts 1268 = .ok (.goto 4, 3) := by decide +kernel
theorem dL_acts_1271 : decode cL_acts 1271 = .ok (.iconst 0, 1) := by decide +kernel
theorem dL_acts_1272 : decode cL_acts 1272 = .ok (.ireturn, 1) := by decide +kernel
theorem dL_acts_1273 : decode cL_acts 1273 = .ok (.iload_n 3, 1) := by decide +kernel
theorem dL_acts_1274 : decode cL_acts 1274 = .ok (.bipush 31, 2) := by decide +kernel
theorem dL_acts_1276 : decode cL_acts 1276 = .ok (.if_icmp .ge 274, 3) := by decide +kernel
theorem dL_acts_1279 : decode cL_acts 1279 = .ok (.iload_n 2, 1) := by decide +kernel
theorem dL_acts_1280 : decode cL_acts 1280 = .ok (.iconst 4, 1) := by decide +kernel
theorem dL_acts_1281 : decode cL_acts 1281 = .ok (.ishr, 1) := by decide +kernel
theorem dL_acts_1282 : decode cL_acts 1282 = .ok (.iconst 4, 1) := by decide +kernel
theorem dL_acts_1283 : decode cL_acts 1283 = .ok (.invokestatic 70, 3) := by decide +kernel
theorem dL_acts_1286 : decode cL_acts 1286 = .ok (.istore 11, 2) := by decide +kernel
theorem dL_acts_1288 : decode cL_acts 1288 = .ok (.iload_n 2, 1) := by decide +kernel
theorem dL_acts_1289 : decode cL_acts 1289 = .ok (.bipush 6, 2) := by decide +kernel
theorem dL_acts_1291 : decode cL_acts 1291 = .ok (.ishr, 1) := by decide +kernel
theorem dL_acts_1292 : decode cL_acts 1292 = .ok (.iload_n 2, 1) := by decide +kernel
theorem dL_acts_1293 : decode cL_acts 1293 = .ok (.bipush 15, 2) := by decide +kernel
theorem dL_acts_1295 : decode cL_acts 1295 = .ok (.ishr, 1) := by decide +kernel
theorem dL_acts_1296 : decode cL_acts 1296 = .ok (.bipush 6, 2) := by decide +kernel
theorem dL_acts_1298 : decode cL_acts 1298 = .ok (.invokestatic 70, 3) := by decide +kernel
theorem dL_acts_1301 : decode cL_acts 1301 = .ok (.ifCond .ne 8, 3) := by decide +kernel
theorem dL_acts_1304 : decode cL_acts 1304 = .ok (.bipush 9, 2) := by decide +kernel
theorem dL_acts_1306 : decode cL_acts 1306 = .ok (.goto 5, 3) := by decide +kernel
theorem dL_acts_1309 : decode cL_acts 1309 = .ok (.bipush 8, 2) := by decide +kernel
theorem dL_acts_1311 : decode cL_acts 1311 = .ok (.invokestatic 70, 3) := by decide +kernel
theorem dL_acts_1314 : decode cL_acts 1314 = .ok (.istore 12, 2) := by decide +kernel
theorem dL_acts_1316 : decode cL_acts 1316 = .ok (.iload_n 2, 1) := by decide +kernel
theorem dL_acts_1317 : decode cL_acts 1317 = .ok (.bipush 9, 2) := by decide +kernel
theorem dL_acts_1319 : decode cL_acts 1319 = .ok (.ishr, 1) := by decide +kernel
theorem dL_acts_1320 : decode cL_acts 1320 = .ok (.iload_n 2, 1) := by decide +kernel
theorem dL_acts_1321 : decode cL_acts 1321 = .ok (.bipush 16, 2) := by decide +kernel
theorem dL_acts_1323 : decode cL_acts 1323 = .ok (.ishr, 1) := by decide +kernel
theorem dL_acts_1324 : decode cL_acts 1324 = .ok (.bipush 6, 2) := by decide +kernel
theorem dL_acts_1326 : decode cL_acts 1326 = .ok (.invokestatic 70, 3) := by decide +kernel
theorem dL_acts_1329 : decode cL_acts 1329 = .ok (.ifCond .ne 8, 3) := by decide +kernel
theorem dL_acts_1332 : decode cL_acts 1332 = .ok (.bipush 9, 2) := by decide +kernel
theorem dL_acts_1334 : decode cL_acts 1334 = .ok (.goto 5, 3) := by decide +kernel
theorem dL_acts_1337 : decode cL_acts 1337 = .ok (.bipush 8, 2) := by decide +kernel
theorem dL_acts_1339 : decode cL_acts 1339 = .ok (.invokestatic 70, 3) := by decide +kernel
theorem dL_acts_1342 : decode cL_acts 1342 = .ok (.istore 13, 2) := by decide +kernel
theorem dL_acts_1344 : decode cL_acts 1344 = .ok (.iload 10, 2) := by decide +kernel
theorem dL_acts_1346 : decode cL_acts 1346 = .ok (.bipush 8, 2) := by decide +kernel
theorem dL_acts_1348 : decode cL_acts 1348 = .ok (.if_icmp .eq 17, 3) := by decide +kernel
theorem dL_acts_1351 : decode cL_acts 1351 = .ok (.iload 12, 2) := by decide +kernel
theorem dL_acts_1353 : decode cL_acts 1353 = .ok (.bipush 8, 2) := by decide +kernel
theorem dL_acts_1355 : decode cL_acts 1355 = .ok (.if_icmp .eq 10, 3) := by decide +kernel
theorem dL_acts_1358 : decode cL_acts 1358 = .ok (.iload 13, 2) := by decide +kernel
theorem dL_acts_1360 : decode cL_acts 1360 = .ok (.bipush 8, 2) := by decide +kernel
theorem dL_acts_1362 : decode cL_acts 1362 = .ok (.if_icmp .ne 7, 3) := by decide +kernel
theorem dL_acts_1365 : decode cL_acts 1365 = .ok (.iconst 1, 1) := by decide +kernel
theorem dL_acts_1366 : decode cL_acts 1366 = .ok (.goto 4, 3) := by decide +kernel
theorem dL_acts_1369 : decode cL_acts 1369 = .ok (.iconst 0, 1) := by decide +kernel
theorem dL_acts_1370 : decode cL_acts 1370 = .ok (.istore 14, 2) := by decide +kernel
theorem dL_acts_1372 : decode cL_acts 1372 = .ok (.iload 14, 2) := by decide +kernel
theorem dL_acts_1374 : decode cL_acts 1374 = .ok (.ifCond .eq 7, 3) := by decide +kernel
theorem dL_acts_1377 : decode cL_acts 1377 = .ok (.iconst 0, 1) := by decide +kernel
theorem dL_acts_1378 : decode cL_acts 1378 = .ok (.goto 9, 3) := by decide +kernel
theorem dL_acts_1381 : decode cL_acts 1381 = .ok (.aload_n 0, 1) := by decide +kernel
theorem dL_acts_1382 : decode cL_acts 1382 = .ok (.iload 12, 2) := by decide +kernel
theorem dL_acts_1384 : decode cL_acts 1384 = .ok (.invokevirtual 23, 3) := by decide +kernel
theorem dL_acts_1387 : decode cL_acts 1387 = .ok (.istore 15, 2) := by decide +kernel
theorem dL_acts_1389 : decode cL_acts 1389 = .ok (.iload 14, 2) := by decide +kernel
theorem dL_acts_1391 : decode cL_acts 1391 = .ok (.ifCond .eq 7, 3) := by decide +kernel
theorem dL_acts_1394 : decode cL_acts 1394 = .ok (.iconst 0, 1) := by decide +kernel
theorem dL_acts_1395 : decode cL_acts 1395 = .ok (.goto 9, 3) := by decide +kernel
theorem dL_acts_1398 : decode cL_acts 1398 = .ok (.aload_n 0, 1) := by decide +kernel
theorem dL_acts_1399 : decode cL_acts 1399 = .ok (.iload 13, 2) := by decide +kernel
theorem dL_acts_1401 : decode cL_acts 1401 = .ok (.invokevirtual 23, 3) := by decide +kernel
theorem dL_acts_1404 : decode cL_acts 1404 = .ok (.istore 16, 2) := by decide +kernel
theorem dL_acts_1406 : decode cL_acts 1406 = .ok (.aload_n 0, 1) := by decide +kernel
theorem dL_acts_1407 : decode cL_acts 1407 = .ok (.iload 11, 2) := by decide +kernel
theorem dL_acts_1409 : decode cL_acts 1409 = .ok (.iload 12, 2) := by decide +kernel
theorem dL_acts_1411 : decode cL_acts 1411 = .ok (.iload 13, 2) := by decide +kernel
theorem dL_acts_1413 : decode cL_acts 1413 = .ok (.iload 10, 2) := by decide +kernel
theorem dL_acts_1415 : decode cL_acts 1415 = .ok (.invokevirtual 170, 3) := by decide +kernel
theorem dL_acts_1418 : decode cL_acts 1418 = .ok (.istore 17, 2) := by decide +kernel
theorem dL_acts_1420 : decode cL_acts 1420 = .ok (.iload 14, 2) := by decide +kernel
theorem dL_acts_1422 : decode cL_acts 1422 = .ok (.ifCond .eq 18, 3) := by decide +kernel
theorem dL_acts_1425 : decode cL_acts 1425 = .ok (.iload 17, 2) := by decide +kernel
theorem dL_acts_1427 : decode cL_acts 1427 = .ok (.ldc 60, 2) := by decide +kernel
theorem dL_acts_1429 : decode cL_acts 1429 = .ok (.if_icmp .ne 7, 3) := by decide +kernel
theorem dL_acts_1432 : decode cL_acts 1432 = .ok (.iconst 1, 1) := by decide +kernel
theorem dL_acts_1433 : decode cL_acts 1433 = .ok (.goto 116, 3) := by decide +kernel
theorem dL_acts_1436 : decode cL_acts 1436 = .ok (.iconst 0, 1) := by decide +kernel
theorem dL_acts_1437 : decode cL_acts 1437 = .ok (.goto 112, 3) := by decide +kernel
theorem dL_acts_1440 : decode cL_acts 1440 = .ok (.iload 11, 2) := by decide +kernel
theorem dL_acts_1442 : decode cL_acts 1442 = .ok (.iconst 3, 1) := by decide +kernel
theorem dL_acts_1443 : decode cL_acts 1443 = .ok (.if_icmp .ne 18, 3) := by decide +kernel
theorem dL_acts_1446 : decode cL_acts 1446 = .ok (.iload 17, 2) := by decide +kernel
theorem dL_acts_1448 : decode cL_acts 1448 = .ok (.ldc 59, 2) := by decide +kernel
theorem dL_acts_1450 : decode cL_acts 1450 = .ok (.if_icmp .ne 7, 3) := by decide +kernel
theorem dL_acts_1453 : decode cL_acts 1453 = .ok (.iconst 1, 1) := by decide +kernel
theorem dL_acts_1454 : decode cL_acts 1454 = .ok (.goto 95, 3) := by decide +kernel
theorem dL_acts_1457 : decode cL_acts 1457 = .ok (.iconst 0, 1) := by decide +kernel
theorem dL_acts_1458 : decode cL_acts 1458 = .ok (.goto 91, 3) := by decide +kernel
theorem dL_acts_1461 : decode cL_acts 1461 = .ok (.aload_n 0, 1) := by decide +kernel
theorem dL_acts_1462 : decode cL_acts 1462 = .ok (.iload 10, 2) := by decide +kernel
theorem dL_acts_1464 : decode cL_acts 1464 = .ok (.invokevirtual 23, 3) := by decide +kernel
theorem dL_acts_1467 : decode cL_acts 1467 = .ok (.iload 17, 2) := by decide +kernel
theorem dL_acts_1469 : decode cL_acts 1469 = .ok (.if_icmp .ne 79, 3) := by decide +kernel
theorem dL_acts_1472 : decode cL_acts 1472 = .ok (.iload 11, 2) := by decide +kernel
theorem dL_acts_1474 : decode cL_acts 1474 = .ok (.ifCond .ne 20, 3) := by decide +kernel
theorem dL_acts_1477 : decode cL_acts 1477 = .ok (.iload 17, 2) := by decide +kernel
theorem dL_acts_1479 : decode cL_acts 1479 = .ok (.iload 15, 2) := by decide +kernel
theorem dL_acts_1481 : decode cL_acts 1481 = .ok (.if_icmp .gt 67, 3) := by decide +kernel
theorem dL_acts_1484 : decode cL_acts 1484 = .ok (.iload 17, 2) := by decide +kernel
theorem dL_acts_1486 : decode cL_acts 1486 = .ok (.iload 16, 2) := by decide +kernel
theorem dL_acts_1488 : decode cL_acts 1488 = .ok (.if_icmp .gt 60, 3) := by decide +kernel
theorem dL_acts_1491 : decode cL_acts 1491 = .ok (.goto 53, 3) := by decide +kernel
theorem dL_acts_1494 : decode cL_acts 1494 = .ok (.iload 11, 2) := by decide +kernel
theorem dL_acts_1496 : decode cL_acts 1496 = .ok (.iconst 1, 1) := by decide +kernel
theorem dL_acts_1497 : decode cL_acts 1497 = .ok (.if_icmp .ne 30, 3) := by decide +kernel
theorem dL_acts_1500 : decode cL_acts 1500 = .ok (.iload 17, 2) := by decide +kernel
theorem dL_acts_1502 : decode cL_acts 1502 = .ok (.iload 15, 2) := by decide +kernel
theorem dL_acts_1504 : decode cL_acts 1504 = .ok (.if_icmp .lt 44, 3) := by decide +kernel
theorem dL_acts_1507 : decode cL_acts 1507 = .ok (.iload 17, 2) := by decide +kernel
theorem dL_acts_1509 : decode cL_acts 1509 = .ok (.iload 16, 2) := by decide +kernel
theorem dL_acts_1511 : decode cL_acts 1511 = .ok (.if_icmp .lt 37, 3) := by decide +kernel
theorem dL_acts_1514 : decode cL_acts 1514 = .ok (.iload 17, 2) := by decide +kernel
theorem dL_acts_1516 : decode cL_acts 1516 = .ok (.iload 15, 2) := by decide +kernel
theorem dL_acts_1518 : decode cL_acts 1518 = .ok (.iload 16, 2) := by decide +kernel
theorem dL_acts_1520 : decode cL_acts 1520 = .ok (.iadd, 1) := by decide +kernel
theorem dL_acts_1521 : decode cL_acts 1521 = .ok (.if_icmp .gt 27, 3) := by decide +kernel
theorem dL_acts_1524 : decode cL_acts 1524 = .ok (.goto 20, 3) := by decide +kernel
theorem dL_acts_1527 : decode cL_acts 1527 = .ok (.iload 17, 2) := by decide +kernel
theorem dL_acts_1529 : decode cL_acts 1529 = .ok (.iload 15, 2) := by decide +kernel
theorem dL_acts_1531 : decode cL_acts 1531 = .ok (.if_icmp .gt 17, 3) := by decide +kernel
theorem dL_acts_1534 : decode cL_acts 1534 = .ok (.iload 17, 2) := by decide +kernel
theorem dL_acts_1536 : decode cL_acts 1536 = .ok (.iload 15, 2) := by decide +kernel
theorem dL_acts_1538 : decode cL_acts 1538 = .ok (.iload 16, 2) := by decide +kernel
theorem dL_acts_1540 : decode cL_acts 1540 = .ok (.isub, 1) := by decide +kernel
theorem dL_acts_1541 : decode cL_acts 1541 = .ok (.if_icmp .lt 7, 3) := by decide +kernel
theorem dL_acts_1544 : decode cL_acts 1544 = .ok (.iconst 1, 1) := by decide +kernel
theorem dL_acts_1545 : decode cL_acts 1545 = .ok (.goto 4, 3) := by decide +kernel
theorem dL_acts_1548 : decode cL_acts 1548 = .ok (.iconst 0, 1) := by decide +kernel
theorem dL_acts_1549 : decode cL_acts 1549 = .ok (.ireturn, 1) := by decide +kernel
theorem dL_acts_1550 : decode cL_acts 1550 = .ok (.iload 10, 2) := by decide +kernel
theorem dL_acts_1552 : decode cL_acts 1552 = .ok (.bipush 8, 2) := by decide +kernel
theorem dL_acts_1554 : decode cL_acts 1554 = .ok (.if_icmp .ne 8, 3) := by decide +kernel
theorem dL_acts_1557 : decode cL_acts 1557 = .ok (.ldc 60, 2) := by decide +kernel
theorem dL_acts_1559 : decode cL_acts 1559 = .ok (.goto 9, 3) := by decide +kernel
theorem dL_acts_1562 : decode cL_acts 1562 = .ok (.aload_n 0, 1) := by decide +kernel
theorem dL_acts_1563 : decode cL_acts 1563 = .ok (.iload 10, 2) := by decide +kernel
theorem dL_acts_1565 : decode cL_acts 1565 = .ok (.invokevirtual 23, 3) := by decide +kernel
theorem dL_acts_1568 : decode cL_acts 1568 = .ok (.istore 11, 2) := by decide +kernel
theorem dL_acts_1570 : decode cL_acts 1570 = .ok (.aload_n 0, 1) := by decide +kernel
theorem dL_acts_1571 : decode cL_acts 1571 = .ok (.iload 10, 2) := by decide +kernel
theorem dL_acts_1573 : decode cL_acts 1573 = .ok (.invokevirtual 173, 3) := by decide +kernel
theorem dL_acts_1576 : decode cL_acts 1576 = .ok (.iload 11, 2) := by decide +kernel
theorem dL_acts_1578 : decode cL_acts 1578 = .ok (.if_icmp .ne 23, 3) := by decide +kernel
theorem dL_acts_1581 : decode cL_acts 1581 = .ok (.iload 10, 2) := by decide +kernel
theorem dL_acts_1583 : decode cL_acts 1583 = .ok (.bipush 8, 2) := by decide +kernel
theorem dL_acts_1585 : decode cL_acts 1585 = .ok (.if_icmp .eq 12, 3) := by decide +kernel
theorem dL_acts_1588 : decode cL_acts 1588 = .ok (.aload_n 0, 1) := by decide +kernel
theorem dL_acts_1589 : decode cL_acts 1589 = .ok (.iload 10, 2) := by decide +kernel
theorem dL_acts_1591 : decode cL_acts 1591 = .ok (.invokevirtual 23, 3) := by decide +kernel
theorem dL_acts_1594 : decode cL_acts 1594 = .ok (.ifCond .ne 7, 3) := by decide +kernel
theorem dL_acts_1597 : decode cL_acts 1597 = .ok (.iconst 1, 1) := by decide +kernel
theorem dL_acts_1598 : decode cL_acts 1598 = .ok (.goto 4, 3) := by decide +kernel
theorem dL_acts_1601 : decode cL_acts 1601 = .ok (.iconst 0, 1) := by decide +kernel
theorem dL_acts_1602 : decode cL_acts 1602 = .ok (.ireturn, 1) := by decide +kernel
theorem dL_law_0 : decode cL_law 0 = .ok (.new 14, 3) := by decide +kernel
theorem dL_law_3 : decode cL_law 3 = .ok (.dup, 1) := by decide +kernel
theorem dL_law_4 : decode cL_law 4 = .ok (.invokespecial 176, 3) := by decide +kernel
theorem dL_law_7 : decode cL_law 7 = .ok (.astore_n 1, 1) := by decide +kernel
theorem dL_law_8 : decode cL_law 8 = .ok (.aload_n 1, 1) := by decide +kernel
theorem dL_law_9 : decode cL_law 9 = .ok (.invokestatic 177, 3) := by decide +kernel
theorem dL_law_12 : decode cL_law 12 = .ok (.ifCond .eq 24, 3) := by decide +kernel
theorem dL_law_15 : decode cL_law 15 = .ok (.aload_n 1, 1) := by decide +kernel
theorem dL_law_16 : decode cL_law 16 = .ok (.iconst 0, 1) := by decide +kernel
theorem dL_law_17 : decode cL_law 17 = .ok (.invokestatic 181, 3) := by decide +kernel
theorem dL_law_20 : decode cL_law 20 = .ok (.ifCond .eq 16, 3) := by decide +kernel
theorem dL_law_23 : decode cL_law 23 = .ok (.aload_n 1, 1) := by decide +kernel
theorem dL_law_24 : decode cL_law 24 = .ok (.invokevirtual 184, 3) := by decide +kernel
theorem dL_law_27 : decode cL_law 27 = .ok (.ldc 58, 2) := by decide +kernel
theorem dL_law_29 : decode cL_law 29 = .ok (.if_icmp .ne 7, 3) := by decide +kernel
theorem dL_law_32 : decode cL_law 32 = .ok (.iconst 1, 1) := by decide +kernel
theorem dL_law_33 : decode cL_law 33 = .ok (.goto 4, 3) := by decide +kernel
theorem dL_law_36 : decode cL_law 36 = .ok (.iconst 0, 1) := by decide +kernel
theorem dL_law_37 : decode cL_law 37 = .ok (.istore_n 2, 1) := by decide +kernel
theorem dL_law_38 : decode cL_law 38 = .ok (.iconst 0, 1) := by decide +kernel
theorem dL_law_39 : decode cL_law 39 = .ok (.istore_n 3, 1) := by decide +kernel
theorem dL_law_40 : decode cL_law 40 = .ok (.iload_n 3, 1) := by decide +kernel
theorem dL_law_41 : decode cL_law 41 = .ok (.bipush 56, 2) := by decide +kernel
theorem dL_law_43 : decode cL_law 43 = .ok (.if_icmp .ge 177, 3) := by decide +kernel
theorem dL_law_46 : decode cL_law 46 = .ok (.iload_n 2, 1) := by decide +kernel
theorem dL_law_47 : decode cL_law 47 = .ok (.ifCond .eq 173, 3) := by decide +kernel
theorem dL_law_50 : decode cL_law 50 = .ok (.aload_n 0, 1) := by decide +kernel
theorem dL_law_51 : decode cL_law 51 = .ok (.iconst 2, 1) := by decide +kernel
theorem dL_law_52 : decode cL_law 52 = .ok (.iload_n 3, 1) := by decide +kernel
theorem dL_law_53 : decode cL_law 53 = .ok (.imul, 1) := by decide +kernel
theorem dL_law_54 : decode cL_law 54 = .ok (.invokestatic 187, 3) := by decide +kernel
theorem dL_law_57 : decode cL_law 57 = .ok (.istore 4, 2) := by decide +kernel
theorem dL_law_59 : decode cL_law 59 = .ok (.aload_n 0, 1) := by decide +kernel
theorem dL_law_60 : decode cL_law 60 = .ok (.iconst 2, 1) := by decide +kernel
theorem dL_law_61 : decode cL_law 61 = .ok (.iload_n 3, 1) := by decide +kernel
theorem dL_law_62 : decode cL_law 62 = .ok (.imul, 1) := by decide +kernel
theorem dL_law_63 : decode cL_law 63 = .ok (.iconst 1, 1) := by decide +kernel
theorem dL_law_64 : decode cL_law 64 = .ok (.iadd, 1) := by decide +kernel
theorem dL_law_65 : decode cL_law 65 = .ok (.invokestatic 187, 3) := by decide +kernel
theorem dL_law_68 : decode cL_law 68 = .ok (.istore 5, 2) := by decide +kernel
theorem dL_law_70 : decode cL_law 70 = .ok (.aload_n 1, 1) := by decide +kernel
theorem dL_law_71 : decode cL_law 71 = .ok (.invokestatic 101, 3) := by decide +kernel
theorem dL_law_74 : decode cL_law 74 = .ok (.lstore 6, 2) := by decide +kernel
theorem dL_law_76 : decode cL_law 76 = .ok (.aload_n 1, 1) := by decide +kernel
theorem dL_law_77 : decode cL_law 77 = .ok (.iload 4, 2) := by decide +kernel
theorem dL_law_79 : decode cL_law 79 = .ok (.iload 5, 2) := by decide +kernel
theorem dL_law_81 : decode cL_law 81 = .ok (.invokestatic 191, 3) := by decide +kernel
theorem dL_law_84 : decode cL_law 84 = .ok (.ifCond .eq 36, 3) := by decide +kernel
theorem dL_law_87 : decode cL_law 87 = .ok (.iload_n 3, 1) := by decide +kernel
theorem dL_law_88 : decode cL_law 88 = .ok (.iconst 4, 1) := by decide +kernel
theorem dL_law_89 : decode cL_law 89 = .ok (.irem, 1) := by decide +kernel
theorem dL_law_90 : decode cL_law 90 = .ok (.ifCond .gt 10, 3) := by decide +kernel
theorem dL_law_93 : decode cL_law 93 = .ok (.aload_n 1, 1) := by decide +kernel
theorem dL_law_94 : decode cL_law 94 = .ok (.invokestatic 177, 3) := by decide +kernel
theorem dL_law_97 : decode cL_law 97 = .ok (.ifCond .eq 23, 3) := by decide +kernel
theorem dL_law_100 : decode cL_law 100 = .ok (.iload_n 3, 1) := by decide +kernel
theorem dL_law_101 : decode cL_law 101 = .ok (.iconst 3, 1) := by decide +kernel
theorem dL_law_102 : decode cL_law 102 = .ok (.irem, 1) := by decide +kernel
theorem dL_law_103 : decode cL_law 103 = .ok (.iconst 2, 1) := by decide +kernel
theorem dL_law_104 : decode cL_law 104 = .ok (.if_icmp .ne 12, 3) := by decide +kernel
theorem dL_law_107 : decode cL_law 107 = .ok (.aload_n 1, 1) := by decide +kernel
theorem dL_law_108 : decode cL_law 108 = .ok (.iload 5, 2) := by decide +kernel
theorem dL_law_110 : decode cL_law 110 = .ok (.invokestatic 181, 3) := by decide +kernel
theorem dL_law_113 : decode cL_law 113 = .ok (.ifCond .eq 7, 3) := by decide +kernel
theorem dL_law_116 : decode cL_law 116 = .ok (.iconst 1, 1) := by decide +kernel
theorem dL_law_117 : decode cL_law 117 = .ok (.goto 4, 3) := by decide +kernel
theorem dL_law_120 : decode cL_law 120 = .ok (.iconst 0, 1) := by decide +kernel
theorem dL_law_121 : decode cL_law 121 = .ok (.istore_n 2, 1) := by decide +kernel
theorem dL_law_122 : decode cL_law 122 = .ok (.iload_n 2, 1) := by decide +kernel
theorem dL_law_123 : decode cL_law 123 = .ok (.ifCond .eq 48, 3) := by decide +kernel
theorem dL_law_126 : decode cL_law 126 = .ok (.aload_n 1, 1) := by decide +kernel
theorem dL_law_127 : decode cL_law 127 = .ok (.invokestatic 101, 3) := by decide +kernel
theorem dL_law_130 : decode cL_law 130 = .ok (.lload 6, 2) := by decide +kernel
theorem dL_law_132 : decode cL_law 132 = .ok (.lcmp, 1) := by decide +kernel
theorem dL_law_133 : decode cL_law 133 = .ok (.ifCond .eq 38, 3) := by decide +kernel
theorem dL_law_136 : decode cL_law 136 = .ok (.iload 5, 2) := by decide +kernel
theorem dL_law_138 : decode cL_law 138 = .ok (.bipush 8, 2) := by decide +kernel
theorem dL_law_140 : decode cL_law 140 = .ok (.ishr, 1) := by decide +kernel
theorem dL_law_141 : decode cL_law 141 = .ok (.iconst 3, 1) := by decide +kernel
theorem dL_law_142 : decode cL_law 142 = .ok (.invokestatic 70, 3) := by decide +kernel
theorem dL_law_145 : decode cL_law 145 = .ok (.ifCond .ne 26, 3) := by decide +kernel
theorem dL_law_148 : decode cL_law 148 = .ok (.aload_n 1, 1) := by decide +kernel
theorem dL_law_149 : decode cL_law 149 = .ok (.invokevirtual 184, 3) := by decide +kernel
theorem dL_law_152 : decode cL_law 152 = .ok (.ifCond .lt 17, 3) := by decide +kernel
theorem dL_law_155 : decode cL_law 155 = .ok (.aload_n 1, 1) := by decide +kernel
theorem dL_law_156 : decode cL_law 156 = .ok (.invokestatic 101, 3) := by decide +kernel
theorem dL_law_159 : decode cL_law 159 = .ok (.lload 6, 2) := by decide +kernel
theorem dL_law_161 : decode cL_law 161 = .ok (.lcmp, 1) := by decide +kernel
theorem dL_law_162 : decode cL_law 162 = .ok (.ifCond .ne 7, 3) := by decide +kernel
theorem dL_law_165 : decode cL_law 165 = .ok (.iconst 1, 1) := by decide +kernel
theorem dL_law_166 : decode cL_law 166 = .ok (.goto 4, 3) := by decide +kernel
theorem dL_law_169 : decode cL_law 169 = .ok (.iconst 0, 1) := by decide +kernel
theorem dL_law_170 : decode cL_law 170 = .ok (.istore_n 2, 1) := by decide +kernel
theorem dL_law_171 : decode cL_law 171 = .ok (.iload_n 2, 1) := by decide +kernel
theorem dL_law_172 : decode cL_law 172 = .ok (.ifCond .eq 42, 3) := by decide +kernel
theorem dL_law_175 : decode cL_law 175 = .ok (.iload_n 3, 1) := by decide +kernel
theorem dL_law_176 : decode cL_law 176 = .ok (.bipush 11, 2) := by decide +kernel
theorem dL_law_178 : decode cL_law 178 = .ok (.irem, 1) := by decide +kernel
theorem dL_law_179 : decode cL_law 179 = .ok (.bipush 10, 2) := by decide +kernel
theorem dL_law_181 : decode cL_law 181 = .ok (.if_icmp .ne 33, 3) := by decide +kernel
theorem dL_law_184 : decode cL_law 184 = .ok (.aload_n 1, 1) := by decide +kernel
theorem dL_law_185 : decode cL_law 185 = .ok (.invokevirtual 184, 3) := by decide +kernel
theorem dL_law_188 : decode cL_law 188 = .ok (.istore 8, 2) := by decide +kernel
theorem dL_law_190 : decode cL_law 190 = .ok (.iload 8, 2) := by decide +kernel
theorem dL_law_192 : decode cL_law 192 = .ok (.ldc 58, 2) := by decide +kernel
theorem dL_law_194 : decode cL_law 194 = .ok (.if_icmp .eq 14, 3) := by decide +kernel
theorem dL_law_197 : decode cL_law 197 = .ok (.iload 8, 2) := by decide +kernel
theorem dL_law_199 : decode cL_law 199 = .ok (.ifCond .lt 13, 3) := by decide +kernel
theorem dL_law_202 : decode cL_law 202 = .ok (.iload 8, 2) := by decide +kernel
theorem dL_law_204 : decode cL_law 204 = .ok (.iconst 4, 1) := by decide +kernel
theorem dL_law_205 : decode cL_law 205 = .ok (.if_icmp .ge 7, 3) := by decide +kernel
theorem dL_law_208 : decode cL_law 208 = .ok (.iconst 1, 1) := by decide +kernel
theorem dL_law_209 : decode cL_law 209 = .ok (.goto 4, 3) := by decide +kernel
theorem dL_law_212 : decode cL_law 212 = .ok (.iconst 0, 1) := by decide +kernel
theorem dL_law_213 : decode cL_law 213 = .ok (.istore_n 2, 1) := by decide +kernel
theorem dL_law_214 : decode cL_law 214 = .ok (.iinc 3 1, 3) := by decide +kernel
theorem dL_law_217 : decode cL_law 217 = .ok (.goto (-177), 3) := by decide +kernel
theorem dL_law_220 : decode cL_law 220 = .ok (.iload_n 2, 1) := by decide +kernel
theorem dL_law_221 : decode cL_law 221 = .ok (.ifCond .eq 14, 3) := by decide +kernel
theorem dL_law_224 : decode cL_law 224 = .ok (.aload_n 1, 1) := by decide +kernel
theorem dL_law_225 : decode cL_law 225 = .ok (.invokestatic 177, 3) := by decide +kernel
theorem dL_law_228 : decode cL_law 228 = .ok (.ifCond .eq 7, 3) := by decide +kernel
theorem dL_law_231 : decode cL_law 231 = .ok (.iconst 1, 1) := by decide +kernel
theorem dL_law_232 : decode cL_law 232 = .ok (.goto 4, 3) := by decide +kernel
theorem dL_law_235 : decode cL_law 235 = .ok (.iconst 0, 1) := by decide +kernel
theorem dL_law_236 : decode cL_law 236 = .ok (.ireturn, 1) := by decide +kernel
