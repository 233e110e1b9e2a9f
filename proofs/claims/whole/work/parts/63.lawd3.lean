/-! the law, instruction by instruction (laid by wip/gen/lawd.py) -/
theorem d_law_875 : decode code 875 = .ok (.istore 6, 2) := by decide +kernel
theorem d_law_877 : decode code 877 = .ok (.aload_n 2, 1) := by decide +kernel
theorem d_law_878 : decode code 878 = .ok (.invokevirtual 99, 3) := by decide +kernel
theorem d_law_881 : decode code 881 = .ok (.iload 5, 2) := by decide +kernel
theorem d_law_883 : decode code 883 = .ok (.if_icmp .eq 5, 3) := by decide +kernel
theorem d_law_886 : decode code 886 = .ok (.iconst 0, 1) := by decide +kernel
theorem d_law_887 : decode code 887 = .ok (.ireturn, 1) := by decide +kernel
theorem d_law_888 : decode code 888 = .ok (.iload 5, 2) := by decide +kernel
theorem d_law_890 : decode code 890 = .ok (.ifCond .ne 15, 3) := by decide +kernel
theorem d_law_893 : decode code 893 = .ok (.aload_n 3, 1) := by decide +kernel
theorem d_law_894 : decode code 894 = .ok (.iconst 0, 1) := by decide +kernel
theorem d_law_895 : decode code 895 = .ok (.laload, 1) := by decide +kernel
theorem d_law_896 : decode code 896 = .ok (.iload 6, 2) := by decide +kernel
theorem d_law_898 : decode code 898 = .ok (.i2l, 1) := by decide +kernel
theorem d_law_899 : decode code 899 = .ok (.lcmp, 1) := by decide +kernel
theorem d_law_900 : decode code 900 = .ok (.ifCond .eq 5, 3) := by decide +kernel
theorem d_law_903 : decode code 903 = .ok (.iconst 0, 1) := by decide +kernel
theorem d_law_904 : decode code 904 = .ok (.ireturn, 1) := by decide +kernel
theorem d_law_905 : decode code 905 = .ok (.goto 774, 3) := by decide +kernel
theorem d_law_908 : decode code 908 = .ok (.aload_n 1, 1) := by decide +kernel
theorem d_law_909 : decode code 909 = .ok (.aload_n 0, 1) := by decide +kernel
theorem d_law_910 : decode code 910 = .ok (.iload 4, 2) := by decide +kernel
theorem d_law_912 : decode code 912 = .ok (.iconst 1, 1) := by decide +kernel
theorem d_law_913 : decode code 913 = .ok (.iadd, 1) := by decide +kernel
theorem d_law_914 : decode code 914 = .ok (.iaload, 1) := by decide +kernel
theorem d_law_915 : decode code 915 = .ok (.aload_n 0, 1) := by decide +kernel
theorem d_law_916 : decode code 916 = .ok (.iload 4, 2) := by decide +kernel
theorem d_law_918 : decode code 918 = .ok (.iconst 2, 1) := by decide +kernel
theorem d_law_919 : decode code 919 = .ok (.iadd, 1) := by decide +kernel
theorem d_law_920 : decode code 920 = .ok (.iaload, 1) := by decide +kernel
theorem d_law_921 : decode code 921 = .ok (.ifCond .eq 7, 3) := by decide +kernel
theorem d_law_924 : decode code 924 = .ok (.iconst 1, 1) := by decide +kernel
theorem d_law_925 : decode code 925 = .ok (.goto 4, 3) := by decide +kernel
theorem d_law_928 : decode code 928 = .ok (.iconst 0, 1) := by decide +kernel
theorem d_law_929 : decode code 929 = .ok (.aload_n 3, 1) := by decide +kernel
theorem d_law_930 : decode code 930 = .ok (.invokestatic 134, 3) := by decide +kernel
theorem d_law_933 : decode code 933 = .ok (.istore 5, 2) := by decide +kernel
theorem d_law_935 : decode code 935 = .ok (.aload_n 2, 1) := by decide +kernel
theorem d_law_936 : decode code 936 = .ok (.aload_n 0, 1) := by decide +kernel
theorem d_law_937 : decode code 937 = .ok (.iload 4, 2) := by decide +kernel
theorem d_law_939 : decode code 939 = .ok (.iconst 1, 1) := by decide +kernel
theorem d_law_940 : decode code 940 = .ok (.iadd, 1) := by decide +kernel
theorem d_law_941 : decode code 941 = .ok (.iaload, 1) := by decide +kernel
theorem d_law_942 : decode code 942 = .ok (.aload_n 0, 1) := by decide +kernel
theorem d_law_943 : decode code 943 = .ok (.iload 4, 2) := by decide +kernel
theorem d_law_945 : decode code 945 = .ok (.iconst 2, 1) := by decide +kernel
theorem d_law_946 : decode code 946 = .ok (.iadd, 1) := by decide +kernel
theorem d_law_947 : decode code 947 = .ok (.iaload, 1) := by decide +kernel
theorem d_law_948 : decode code 948 = .ok (.ifCond .eq 7, 3) := by decide +kernel
theorem d_law_951 : decode code 951 = .ok (.iconst 1, 1) := by decide +kernel
theorem d_law_952 : decode code 952 = .ok (.goto 4, 3) := by decide +kernel
theorem d_law_955 : decode code 955 = .ok (.iconst 0, 1) := by decide +kernel
theorem d_law_956 : decode code 956 = .ok (.invokevirtual 136, 3) := by decide +kernel
theorem d_law_959 : decode code 959 = .ok (.istore 6, 2) := by decide +kernel
theorem d_law_961 : decode code 961 = .ok (.aload_n 2, 1) := by decide +kernel
theorem d_law_962 : decode code 962 = .ok (.invokevirtual 99, 3) := by decide +kernel
theorem d_law_965 : decode code 965 = .ok (.iload 5, 2) := by decide +kernel
theorem d_law_967 : decode code 967 = .ok (.if_icmp .eq 5, 3) := by decide +kernel
theorem d_law_970 : decode code 970 = .ok (.iconst 0, 1) := by decide +kernel
theorem d_law_971 : decode code 971 = .ok (.ireturn, 1) := by decide +kernel
theorem d_law_972 : decode code 972 = .ok (.iload 5, 2) := by decide +kernel
theorem d_law_974 : decode code 974 = .ok (.ifCond .ne 15, 3) := by decide +kernel
theorem d_law_977 : decode code 977 = .ok (.aload_n 3, 1) := by decide +kernel
theorem d_law_978 : decode code 978 = .ok (.iconst 0, 1) := by decide +kernel
theorem d_law_979 : decode code 979 = .ok (.laload, 1) := by decide +kernel
theorem d_law_980 : decode code 980 = .ok (.iload 6, 2) := by decide +kernel
theorem d_law_982 : decode code 982 = .ok (.i2l, 1) := by decide +kernel
theorem d_law_983 : decode code 983 = .ok (.lcmp, 1) := by decide +kernel
theorem d_law_984 : decode code 984 = .ok (.ifCond .eq 5, 3) := by decide +kernel
theorem d_law_987 : decode code 987 = .ok (.iconst 0, 1) := by decide +kernel
theorem d_law_988 : decode code 988 = .ok (.ireturn, 1) := by decide +kernel
theorem d_law_989 : decode code 989 = .ok (.goto 690, 3) := by decide +kernel
theorem d_law_992 : decode code 992 = .ok (.aload_n 1, 1) := by decide +kernel
theorem d_law_993 : decode code 993 = .ok (.invokevirtual 137, 3) := by decide +kernel
theorem d_law_996 : decode code 996 = .ok (.aload_n 2, 1) := by decide +kernel
theorem d_law_997 : decode code 997 = .ok (.invokevirtual 140, 3) := by decide +kernel
theorem d_law_1000 : decode code 1000 = .ok (.if_icmp .eq 679, 3) := by decide +kernel
theorem d_law_1003 : decode code 1003 = .ok (.iconst 0, 1) := by decide +kernel
theorem d_law_1004 : decode code 1004 = .ok (.ireturn, 1) := by decide +kernel
theorem d_law_1005 : decode code 1005 = .ok (.aload_n 1, 1) := by decide +kernel
theorem d_law_1006 : decode code 1006 = .ok (.invokevirtual 141, 3) := by decide +kernel
theorem d_law_1009 : decode code 1009 = .ok (.aload_n 2, 1) := by decide +kernel
theorem d_law_1010 : decode code 1010 = .ok (.invokevirtual 144, 3) := by decide +kernel
theorem d_law_1013 : decode code 1013 = .ok (.if_icmp .eq 666, 3) := by decide +kernel
theorem d_law_1016 : decode code 1016 = .ok (.iconst 0, 1) := by decide +kernel
theorem d_law_1017 : decode code 1017 = .ok (.ireturn, 1) := by decide +kernel
theorem d_law_1018 : decode code 1018 = .ok (.aload_n 1, 1) := by decide +kernel
theorem d_law_1019 : decode code 1019 = .ok (.invokevirtual 145, 3) := by decide +kernel
theorem d_law_1022 : decode code 1022 = .ok (.aload_n 2, 1) := by decide +kernel
theorem d_law_1023 : decode code 1023 = .ok (.invokevirtual 148, 3) := by decide +kernel
theorem d_law_1026 : decode code 1026 = .ok (.if_icmp .eq 653, 3) := by decide +kernel
theorem d_law_1029 : decode code 1029 = .ok (.iconst 0, 1) := by decide +kernel
theorem d_law_1030 : decode code 1030 = .ok (.ireturn, 1) := by decide +kernel
theorem d_law_1031 : decode code 1031 = .ok (.aload_n 1, 1) := by decide +kernel
theorem d_law_1032 : decode code 1032 = .ok (.aload_n 0, 1) := by decide +kernel
theorem d_law_1033 : decode code 1033 = .ok (.iload 4, 2) := by decide +kernel
theorem d_law_1035 : decode code 1035 = .ok (.iconst 1, 1) := by decide +kernel
theorem d_law_1036 : decode code 1036 = .ok (.iadd, 1) := by decide +kernel
theorem d_law_1037 : decode code 1037 = .ok (.iaload, 1) := by decide +kernel
theorem d_law_1038 : decode code 1038 = .ok (.aload_n 3, 1) := by decide +kernel
theorem d_law_1039 : decode code 1039 = .ok (.invokestatic 149, 3) := by decide +kernel
theorem d_law_1042 : decode code 1042 = .ok (.istore 5, 2) := by decide +kernel
theorem d_law_1044 : decode code 1044 = .ok (.aload_n 2, 1) := by decide +kernel
theorem d_law_1045 : decode code 1045 = .ok (.aload_n 0, 1) := by decide +kernel
theorem d_law_1046 : decode code 1046 = .ok (.iload 4, 2) := by decide +kernel
theorem d_law_1048 : decode code 1048 = .ok (.iconst 1, 1) := by decide +kernel
theorem d_law_1049 : decode code 1049 = .ok (.iadd, 1) := by decide +kernel
theorem d_law_1050 : decode code 1050 = .ok (.iaload, 1) := by decide +kernel
theorem d_law_1051 : decode code 1051 = .ok (.invokevirtual 151, 3) := by decide +kernel
theorem d_law_1054 : decode code 1054 = .ok (.istore 6, 2) := by decide +kernel
theorem d_law_1056 : decode code 1056 = .ok (.aload_n 2, 1) := by decide +kernel
theorem d_law_1057 : decode code 1057 = .ok (.invokevirtual 99, 3) := by decide +kernel
theorem d_law_1060 : decode code 1060 = .ok (.iload 5, 2) := by decide +kernel
theorem d_law_1062 : decode code 1062 = .ok (.if_icmp .eq 5, 3) := by decide +kernel
theorem d_law_1065 : decode code 1065 = .ok (.iconst 0, 1) := by decide +kernel
theorem d_law_1066 : decode code 1066 = .ok (.ireturn, 1) := by decide +kernel
theorem d_law_1067 : decode code 1067 = .ok (.iload 5, 2) := by decide +kernel
theorem d_law_1069 : decode code 1069 = .ok (.ifCond .ne 15, 3) := by decide +kernel
theorem d_law_1072 : decode code 1072 = .ok (.aload_n 3, 1) := by decide +kernel
theorem d_law_1073 : decode code 1073 = .ok (.iconst 0, 1) := by decide +kernel
theorem d_law_1074 : decode code 1074 = .ok (.laload, 1) := by decide +kernel
theorem d_law_1075 : decode code 1075 = .ok (.iload 6, 2) := by decide +kernel
theorem d_law_1077 : decode code 1077 = .ok (.i2l, 1) := by decide +kernel
theorem d_law_1078 : decode code 1078 = .ok (.lcmp, 1) := by decide +kernel
theorem d_law_1079 : decode code 1079 = .ok (.ifCond .eq 5, 3) := by decide +kernel
theorem d_law_1082 : decode code 1082 = .ok (.iconst 0, 1) := by decide +kernel
theorem d_law_1083 : decode code 1083 = .ok (.ireturn, 1) := by decide +kernel
theorem d_law_1084 : decode code 1084 = .ok (.goto 595, 3) := by decide +kernel
theorem d_law_1087 : decode code 1087 = .ok (.aload_n 1, 1) := by decide +kernel
theorem d_law_1088 : decode code 1088 = .ok (.aload_n 0, 1) := by decide +kernel
theorem d_law_1089 : decode code 1089 = .ok (.iload 4, 2) := by decide +kernel
theorem d_law_1091 : decode code 1091 = .ok (.iconst 1, 1) := by decide +kernel
theorem d_law_1092 : decode code 1092 = .ok (.iadd, 1) := by decide +kernel
theorem d_law_1093 : decode code 1093 = .ok (.iaload, 1) := by decide +kernel
theorem d_law_1094 : decode code 1094 = .ok (.aload_n 3, 1) := by decide +kernel
theorem d_law_1095 : decode code 1095 = .ok (.invokestatic 152, 3) := by decide +kernel
theorem d_law_1098 : decode code 1098 = .ok (.istore 5, 2) := by decide +kernel
theorem d_law_1100 : decode code 1100 = .ok (.aload_n 2, 1) := by decide +kernel
theorem d_law_1101 : decode code 1101 = .ok (.aload_n 0, 1) := by decide +kernel
theorem d_law_1102 : decode code 1102 = .ok (.iload 4, 2) := by decide +kernel
theorem d_law_1104 : decode code 1104 = .ok (.iconst 1, 1) := by decide +kernel
theorem d_law_1105 : decode code 1105 = .ok (.iadd, 1) := by decide +kernel
theorem d_law_1106 : decode code 1106 = .ok (.iaload, 1) := by decide +kernel
theorem d_law_1107 : decode code 1107 = .ok (.invokevirtual 154, 3) := by decide +kernel
theorem d_law_1110 : decode code 1110 = .ok (.istore 6, 2) := by decide +kernel
theorem d_law_1112 : decode code 1112 = .ok (.aload_n 2, 1) := by decide +kernel
theorem d_law_1113 : decode code 1113 = .ok (.invokevirtual 99, 3) := by decide +kernel
theorem d_law_1116 : decode code 1116 = .ok (.iload 5, 2) := by decide +kernel
theorem d_law_1118 : decode code 1118 = .ok (.if_icmp .eq 5, 3) := by decide +kernel
theorem d_law_1121 : decode code 1121 = .ok (.iconst 0, 1) := by decide +kernel
theorem d_law_1122 : decode code 1122 = .ok (.ireturn, 1) := by decide +kernel
theorem d_law_1123 : decode code 1123 = .ok (.iload 5, 2) := by decide +kernel
theorem d_law_1125 : decode code 1125 = .ok (.ifCond .ne 22, 3) := by decide +kernel
theorem d_law_1128 : decode code 1128 = .ok (.aload_n 3, 1) := by decide +kernel
theorem d_law_1129 : decode code 1129 = .ok (.iconst 0, 1) := by decide +kernel
theorem d_law_1130 : decode code 1130 = .ok (.laload, 1) := by decide +kernel
theorem d_law_1131 : decode code 1131 = .ok (.iload 6, 2) := by decide +kernel
theorem d_law_1133 : decode code 1133 = .ok (.ifCond .eq 7, 3) := by decide +kernel
theorem d_law_1136 : decode code 1136 = .ok (.lconst 1, 1) := by decide +kernel
theorem d_law_1137 : decode code 1137 = .ok (.goto 4, 3) := by decide +kernel
theorem d_law_1140 : decode code 1140 = .ok (.lconst 0, 1) := by decide +kernel
theorem d_law_1141 : decode code 1141 = .ok (.lcmp, 1) := by decide +kernel
theorem d_law_1142 : decode code 1142 = .ok (.ifCond .eq 5, 3) := by decide +kernel
theorem d_law_1145 : decode code 1145 = .ok (.iconst 0, 1) := by decide +kernel
theorem d_law_1146 : decode code 1146 = .ok (.ireturn, 1) := by decide +kernel
theorem d_law_1147 : decode code 1147 = .ok (.goto 532, 3) := by decide +kernel
theorem d_law_1150 : decode code 1150 = .ok (.aload_n 1, 1) := by decide +kernel
theorem d_law_1151 : decode code 1151 = .ok (.aload_n 0, 1) := by decide +kernel
theorem d_law_1152 : decode code 1152 = .ok (.iload 4, 2) := by decide +kernel
theorem d_law_1154 : decode code 1154 = .ok (.iconst 1, 1) := by decide +kernel
theorem d_law_1155 : decode code 1155 = .ok (.iadd, 1) := by decide +kernel
theorem d_law_1156 : decode code 1156 = .ok (.iaload, 1) := by decide +kernel
theorem d_law_1157 : decode code 1157 = .ok (.aload_n 0, 1) := by decide +kernel
theorem d_law_1158 : decode code 1158 = .ok (.iload 4, 2) := by decide +kernel
theorem d_law_1160 : decode code 1160 = .ok (.iconst 2, 1) := by decide +kernel
theorem d_law_1161 : decode code 1161 = .ok (.iadd, 1) := by decide +kernel
theorem d_law_1162 : decode code 1162 = .ok (.iaload, 1) := by decide +kernel
theorem d_law_1163 : decode code 1163 = .ok (.aload_n 3, 1) := by decide +kernel
theorem d_law_1164 : decode code 1164 = .ok (.invokestatic 155, 3) := by decide +kernel
theorem d_law_1167 : decode code 1167 = .ok (.istore 5, 2) := by decide +kernel
theorem d_law_1169 : decode code 1169 = .ok (.aload_n 2, 1) := by decide +kernel
theorem d_law_1170 : decode code 1170 = .ok (.aload_n 0, 1) := by decide +kernel
theorem d_law_1171 : decode code 1171 = .ok (.iload 4, 2) := by decide +kernel
theorem d_law_1173 : decode code 1173 = .ok (.iconst 1, 1) := by decide +kernel
theorem d_law_1174 : decode code 1174 = .ok (.iadd, 1) := by decide +kernel
theorem d_law_1175 : decode code 1175 = .ok (.iaload, 1) := by decide +kernel
theorem d_law_1176 : decode code 1176 = .ok (.aload_n 0, 1) := by decide +kernel
theorem d_law_1177 : decode code 1177 = .ok (.iload 4, 2) := by decide +kernel
theorem d_law_1179 : decode code 1179 = .ok (.iconst 2, 1) := by decide +kernel
theorem d_law_1180 : decode code 1180 = .ok (.iadd, 1) := by decide +kernel
theorem d_law_1181 : decode code 1181 = .ok (.iaload, 1) := by decide +kernel
theorem d_law_1182 : decode code 1182 = .ok (.invokevirtual 157, 3) := by decide +kernel
theorem d_law_1185 : decode code 1185 = .ok (.istore 6, 2) := by decide +kernel
theorem d_law_1187 : decode code 1187 = .ok (.aload_n 2, 1) := by decide +kernel
theorem d_law_1188 : decode code 1188 = .ok (.invokevirtual 99, 3) := by decide +kernel
theorem d_law_1191 : decode code 1191 = .ok (.iload 5, 2) := by decide +kernel
theorem d_law_1193 : decode code 1193 = .ok (.if_icmp .eq 5, 3) := by decide +kernel
theorem d_law_1196 : decode code 1196 = .ok (.iconst 0, 1) := by decide +kernel
theorem d_law_1197 : decode code 1197 = .ok (.ireturn, 1) := by decide +kernel
theorem d_law_1198 : decode code 1198 = .ok (.iload 5, 2) := by decide +kernel
theorem d_law_1200 : decode code 1200 = .ok (.ifCond .ne 15, 3) := by decide +kernel
theorem d_law_1203 : decode code 1203 = .ok (.aload_n 3, 1) := by decide +kernel
theorem d_law_1204 : decode code 1204 = .ok (.iconst 0, 1) := by decide +kernel
theorem d_law_1205 : decode code 1205 = .ok (.laload, 1) := by decide +kernel
theorem d_law_1206 : decode code 1206 = .ok (.iload 6, 2) := by decide +kernel
theorem d_law_1208 : decode code 1208 = .ok (.i2l, 1) := by decide +kernel
theorem d_law_1209 : decode code 1209 = .ok (.lcmp, 1) := by decide +kernel
theorem d_law_1210 : decode code 1210 = .ok (.ifCond .eq 5, 3) := by decide +kernel
theorem d_law_1213 : decode code 1213 = .ok (.iconst 0, 1) := by decide +kernel
theorem d_law_1214 : decode code 1214 = .ok (.ireturn, 1) := by decide +kernel
theorem d_law_1215 : decode code 1215 = .ok (.goto 464, 3) := by decide +kernel
theorem d_law_1218 : decode code 1218 = .ok (.aload_n 1, 1) := by decide +kernel
theorem d_law_1219 : decode code 1219 = .ok (.aload_n 0, 1) := by decide +kernel
theorem d_law_1220 : decode code 1220 = .ok (.iload 4, 2) := by decide +kernel
theorem d_law_1222 : decode code 1222 = .ok (.iconst 1, 1) := by decide +kernel
theorem d_law_1223 : decode code 1223 = .ok (.iadd, 1) := by decide +kernel
theorem d_law_1224 : decode code 1224 = .ok (.iaload, 1) := by decide +kernel
theorem d_law_1225 : decode code 1225 = .ok (.aload_n 3, 1) := by decide +kernel
theorem d_law_1226 : decode code 1226 = .ok (.invokestatic 158, 3) := by decide +kernel
theorem d_law_1229 : decode code 1229 = .ok (.istore 5, 2) := by decide +kernel
theorem d_law_1231 : decode code 1231 = .ok (.aload_n 2, 1) := by decide +kernel
theorem d_law_1232 : decode code 1232 = .ok (.aload_n 0, 1) := by decide +kernel
theorem d_law_1233 : decode code 1233 = .ok (.iload 4, 2) := by decide +kernel
theorem d_law_1235 : decode code 1235 = .ok (.iconst 1, 1) := by decide +kernel
theorem d_law_1236 : decode code 1236 = .ok (.iadd, 1) := by decide +kernel
theorem d_law_1237 : decode code 1237 = .ok (.iaload, 1) := by decide +kernel
theorem d_law_1238 : decode code 1238 = .ok (.invokevirtual 160, 3) := by decide +kernel
theorem d_law_1241 : decode code 1241 = .ok (.istore 6, 2) := by decide +kernel
theorem d_law_1243 : decode code 1243 = .ok (.aload_n 2, 1) := by decide +kernel
theorem d_law_1244 : decode code 1244 = .ok (.invokevirtual 99, 3) := by decide +kernel
theorem d_law_1247 : decode code 1247 = .ok (.iload 5, 2) := by decide +kernel
theorem d_law_1249 : decode code 1249 = .ok (.if_icmp .eq 5, 3) := by decide +kernel
theorem d_law_1252 : decode code 1252 = .ok (.iconst 0, 1) := by decide +kernel
theorem d_law_1253 : decode code 1253 = .ok (.ireturn, 1) := by decide +kernel
theorem d_law_1254 : decode code 1254 = .ok (.iload 5, 2) := by decide +kernel
theorem d_law_1256 : decode code 1256 = .ok (.ifCond .ne 15, 3) := by decide +kernel
theorem d_law_1259 : decode code 1259 = .ok (.aload_n 3, 1) := by decide +kernel
theorem d_law_1260 : decode code 1260 = .ok (.iconst 0, 1) := by decide +kernel
theorem d_law_1261 : decode code 1261 = .ok (.laload, 1) := by decide +kernel
theorem d_law_1262 : decode code 1262 = .ok (.iload 6, 2) := by decide +kernel
theorem d_law_1264 : decode code 1264 = .ok (.i2l, 1) := by decide +kernel
theorem d_law_1265 : decode code 1265 = .ok (.lcmp, 1) := by decide +kernel
theorem d_law_1266 : decode code 1266 = .ok (.ifCond .eq 5, 3) := by decide +kernel
theorem d_law_1269 : decode code 1269 = .ok (.iconst 0, 1) := by decide +kernel
theorem d_law_1270 : decode code 1270 = .ok (.ireturn, 1) := by decide +kernel
theorem d_law_1271 : decode code 1271 = .ok (.goto 408, 3) := by decide +kernel
theorem d_law_1274 : decode code 1274 = .ok (.aload_n 1, 1) := by decide +kernel
theorem d_law_1275 : decode code 1275 = .ok (.aload_n 0, 1) := by decide +kernel
theorem d_law_1276 : decode code 1276 = .ok (.iload 4, 2) := by decide +kernel
theorem d_law_1278 : decode code 1278 = .ok (.iconst 1, 1) := by decide +kernel
theorem d_law_1279 : decode code 1279 = .ok (.iadd, 1) := by decide +kernel
