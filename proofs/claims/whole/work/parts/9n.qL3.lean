theorem q326_955 : qD 326 955 (.iconst 1) 1 956 ∧ Int32.ofInt (1) = (1 : Int32) := by decide +kernel
theorem q326_956 : qD 326 956 (.iadd) 1 957 := by decide +kernel
theorem q326_957 : qD 326 957 (.iaload) 1 958 := by decide +kernel
theorem q326_958 : qD 326 958 (.aload_n 0) 1 959 ∧ ((0 : Fin 4) : Nat) = 0 := by decide +kernel
theorem q326_959 : qD 326 959 (.iload 4) 2 961 := by decide +kernel
theorem q326_961 : qD 326 961 (.iconst 2) 1 962 ∧ Int32.ofInt (2) = (2 : Int32) := by decide +kernel
theorem q326_962 : qD 326 962 (.iadd) 1 963 := by decide +kernel
theorem q326_963 : qD 326 963 (.iaload) 1 964 := by decide +kernel
theorem q326_964 : qD 326 964 (.invokevirtual 116) 3 967 ∧ qI 326 116 252 1761 := by decide +kernel
theorem q326_967 : qJ 326 967 (.if_icmp .eq 745) 970 (745) 1712 := by decide +kernel
theorem q326_970 : qD 326 970 (.iconst 0) 1 971 ∧ Int32.ofInt (0) = (0 : Int32) := by decide +kernel
theorem q326_971 : qD 326 971 (.ireturn) 1 972 ∧ mR 326 = some .boolean := by decide +kernel
theorem q326_972 : qD 326 972 (.aload_n 1) 1 973 ∧ ((1 : Fin 4) : Nat) = 1 := by decide +kernel
theorem q326_973 : qD 326 973 (.aload_n 0) 1 974 ∧ ((0 : Fin 4) : Nat) = 0 := by decide +kernel
theorem q326_974 : qD 326 974 (.iload 4) 2 976 := by decide +kernel
theorem q326_976 : qD 326 976 (.iconst 1) 1 977 ∧ Int32.ofInt (1) = (1 : Int32) := by decide +kernel
theorem q326_977 : qD 326 977 (.iadd) 1 978 := by decide +kernel
theorem q326_978 : qD 326 978 (.iaload) 1 979 := by decide +kernel
theorem q326_979 : qD 326 979 (.invokevirtual 117) 3 982 ∧ qI 326 117 128 991 := by decide +kernel
theorem q326_982 : qD 326 982 (.aload_n 2) 1 983 ∧ ((2 : Fin 4) : Nat) = 2 := by decide +kernel
theorem q326_983 : qD 326 983 (.aload_n 0) 1 984 ∧ ((0 : Fin 4) : Nat) = 0 := by decide +kernel
theorem q326_984 : qD 326 984 (.iload 4) 2 986 := by decide +kernel
theorem q326_986 : qD 326 986 (.iconst 1) 1 987 ∧ Int32.ofInt (1) = (1 : Int32) := by decide +kernel
theorem q326_987 : qD 326 987 (.iadd) 1 988 := by decide +kernel
theorem q326_988 : qD 326 988 (.iaload) 1 989 := by decide +kernel
theorem q326_989 : qD 326 989 (.invokevirtual 120) 3 992 ∧ qI 326 120 253 1776 := by decide +kernel
theorem q326_992 : qJ 326 992 (.if_icmp .eq 720) 995 (720) 1712 := by decide +kernel
theorem q326_995 : qD 326 995 (.iconst 0) 1 996 ∧ Int32.ofInt (0) = (0 : Int32) := by decide +kernel
theorem q326_996 : qD 326 996 (.ireturn) 1 997 ∧ mR 326 = some .boolean := by decide +kernel
theorem q326_997 : qD 326 997 (.aload_n 1) 1 998 ∧ ((1 : Fin 4) : Nat) = 1 := by decide +kernel
theorem q326_998 : qD 326 998 (.aload_n 0) 1 999 ∧ ((0 : Fin 4) : Nat) = 0 := by decide +kernel
theorem q326_999 : qD 326 999 (.iload 4) 2 1001 := by decide +kernel
theorem q326_1001 : qD 326 1001 (.iconst 1) 1 1002 ∧ Int32.ofInt (1) = (1 : Int32) := by decide +kernel
theorem q326_1002 : qD 326 1002 (.iadd) 1 1003 := by decide +kernel
theorem q326_1003 : qD 326 1003 (.iaload) 1 1004 := by decide +kernel
theorem q326_1004 : qD 326 1004 (.aload_n 0) 1 1005 ∧ ((0 : Fin 4) : Nat) = 0 := by decide +kernel
theorem q326_1005 : qD 326 1005 (.iload 4) 2 1007 := by decide +kernel
theorem q326_1007 : qD 326 1007 (.iconst 2) 1 1008 ∧ Int32.ofInt (2) = (2 : Int32) := by decide +kernel
theorem q326_1008 : qD 326 1008 (.iadd) 1 1009 := by decide +kernel
theorem q326_1009 : qD 326 1009 (.iaload) 1 1010 := by decide +kernel
theorem q326_1010 : qD 326 1010 (.invokevirtual 121) 3 1013 ∧ qI 326 121 131 995 := by decide +kernel
theorem q326_1013 : qD 326 1013 (.aload_n 2) 1 1014 ∧ ((2 : Fin 4) : Nat) = 2 := by decide +kernel
theorem q326_1014 : qD 326 1014 (.aload_n 0) 1 1015 ∧ ((0 : Fin 4) : Nat) = 0 := by decide +kernel
theorem q326_1015 : qD 326 1015 (.iload 4) 2 1017 := by decide +kernel
theorem q326_1017 : qD 326 1017 (.iconst 1) 1 1018 ∧ Int32.ofInt (1) = (1 : Int32) := by decide +kernel
theorem q326_1018 : qD 326 1018 (.iadd) 1 1019 := by decide +kernel
theorem q326_1019 : qD 326 1019 (.iaload) 1 1020 := by decide +kernel
theorem q326_1020 : qD 326 1020 (.aload_n 0) 1 1021 ∧ ((0 : Fin 4) : Nat) = 0 := by decide +kernel
theorem q326_1021 : qD 326 1021 (.iload 4) 2 1023 := by decide +kernel
theorem q326_1023 : qD 326 1023 (.iconst 2) 1 1024 ∧ Int32.ofInt (2) = (2 : Int32) := by decide +kernel
theorem q326_1024 : qD 326 1024 (.iadd) 1 1025 := by decide +kernel
theorem q326_1025 : qD 326 1025 (.iaload) 1 1026 := by decide +kernel
theorem q326_1026 : qD 326 1026 (.invokevirtual 124) 3 1029 ∧ qI 326 124 254 1780 := by decide +kernel
theorem q326_1029 : qJ 326 1029 (.if_icmp .eq 683) 1032 (683) 1712 := by decide +kernel
theorem q326_1032 : qD 326 1032 (.iconst 0) 1 1033 ∧ Int32.ofInt (0) = (0 : Int32) := by decide +kernel
theorem q326_1033 : qD 326 1033 (.ireturn) 1 1034 ∧ mR 326 = some .boolean := by decide +kernel
theorem q326_1034 : qD 326 1034 (.aload_n 1) 1 1035 ∧ ((1 : Fin 4) : Nat) = 1 := by decide +kernel
theorem q326_1035 : qD 326 1035 (.aload_n 0) 1 1036 ∧ ((0 : Fin 4) : Nat) = 0 := by decide +kernel
theorem q326_1036 : qD 326 1036 (.iload 4) 2 1038 := by decide +kernel
theorem q326_1038 : qD 326 1038 (.iconst 1) 1 1039 ∧ Int32.ofInt (1) = (1 : Int32) := by decide +kernel
theorem q326_1039 : qD 326 1039 (.iadd) 1 1040 := by decide +kernel
theorem q326_1040 : qD 326 1040 (.iaload) 1 1041 := by decide +kernel
theorem q326_1041 : qD 326 1041 (.aload_n 0) 1 1042 ∧ ((0 : Fin 4) : Nat) = 0 := by decide +kernel
theorem q326_1042 : qD 326 1042 (.iload 4) 2 1044 := by decide +kernel
theorem q326_1044 : qD 326 1044 (.iconst 2) 1 1045 ∧ Int32.ofInt (2) = (2 : Int32) := by decide +kernel
theorem q326_1045 : qD 326 1045 (.iadd) 1 1046 := by decide +kernel
theorem q326_1046 : qD 326 1046 (.iaload) 1 1047 := by decide +kernel
theorem q326_1047 : qD 326 1047 (.invokevirtual 125) 3 1050 ∧ qI 326 125 132 1000 := by decide +kernel
theorem q326_1050 : qD 326 1050 (.aload_n 2) 1 1051 ∧ ((2 : Fin 4) : Nat) = 2 := by decide +kernel
theorem q326_1051 : qD 326 1051 (.aload_n 0) 1 1052 ∧ ((0 : Fin 4) : Nat) = 0 := by decide +kernel
theorem q326_1052 : qD 326 1052 (.iload 4) 2 1054 := by decide +kernel
theorem q326_1054 : qD 326 1054 (.iconst 1) 1 1055 ∧ Int32.ofInt (1) = (1 : Int32) := by decide +kernel
theorem q326_1055 : qD 326 1055 (.iadd) 1 1056 := by decide +kernel
theorem q326_1056 : qD 326 1056 (.iaload) 1 1057 := by decide +kernel
theorem q326_1057 : qD 326 1057 (.aload_n 0) 1 1058 ∧ ((0 : Fin 4) : Nat) = 0 := by decide +kernel
theorem q326_1058 : qD 326 1058 (.iload 4) 2 1060 := by decide +kernel
theorem q326_1060 : qD 326 1060 (.iconst 2) 1 1061 ∧ Int32.ofInt (2) = (2 : Int32) := by decide +kernel
theorem q326_1061 : qD 326 1061 (.iadd) 1 1062 := by decide +kernel
theorem q326_1062 : qD 326 1062 (.iaload) 1 1063 := by decide +kernel
theorem q326_1063 : qD 326 1063 (.invokevirtual 128) 3 1066 ∧ qI 326 128 255 1784 := by decide +kernel
theorem q326_1066 : qJ 326 1066 (.if_icmp .eq 646) 1069 (646) 1712 := by decide +kernel
theorem q326_1069 : qD 326 1069 (.iconst 0) 1 1070 ∧ Int32.ofInt (0) = (0 : Int32) := by decide +kernel
theorem q326_1070 : qD 326 1070 (.ireturn) 1 1071 ∧ mR 326 = some .boolean := by decide +kernel
theorem q326_1071 : qD 326 1071 (.aload_n 1) 1 1072 ∧ ((1 : Fin 4) : Nat) = 1 := by decide +kernel
theorem q326_1072 : qD 326 1072 (.aload_n 0) 1 1073 ∧ ((0 : Fin 4) : Nat) = 0 := by decide +kernel
theorem q326_1073 : qD 326 1073 (.iload 4) 2 1075 := by decide +kernel
theorem q326_1075 : qD 326 1075 (.iconst 1) 1 1076 ∧ Int32.ofInt (1) = (1 : Int32) := by decide +kernel
theorem q326_1076 : qD 326 1076 (.iadd) 1 1077 := by decide +kernel
theorem q326_1077 : qD 326 1077 (.iaload) 1 1078 := by decide +kernel
theorem q326_1078 : qD 326 1078 (.invokevirtual 129) 3 1081 ∧ qI 326 129 138 1028 := by decide +kernel
theorem q326_1081 : qD 326 1081 (.aload_n 2) 1 1082 ∧ ((2 : Fin 4) : Nat) = 2 := by decide +kernel
theorem q326_1082 : qD 326 1082 (.aload_n 0) 1 1083 ∧ ((0 : Fin 4) : Nat) = 0 := by decide +kernel
theorem q326_1083 : qD 326 1083 (.iload 4) 2 1085 := by decide +kernel
theorem q326_1085 : qD 326 1085 (.iconst 1) 1 1086 ∧ Int32.ofInt (1) = (1 : Int32) := by decide +kernel
theorem q326_1086 : qD 326 1086 (.iadd) 1 1087 := by decide +kernel
theorem q326_1087 : qD 326 1087 (.iaload) 1 1088 := by decide +kernel
theorem q326_1088 : qD 326 1088 (.invokevirtual 132) 3 1091 ∧ qI 326 132 258 1788 := by decide +kernel
theorem q326_1091 : qJ 326 1091 (.if_icmp .eq 621) 1094 (621) 1712 := by decide +kernel
theorem q326_1094 : qD 326 1094 (.iconst 0) 1 1095 ∧ Int32.ofInt (0) = (0 : Int32) := by decide +kernel
theorem q326_1095 : qD 326 1095 (.ireturn) 1 1096 ∧ mR 326 = some .boolean := by decide +kernel
theorem q326_1096 : qD 326 1096 (.aload_n 1) 1 1097 ∧ ((1 : Fin 4) : Nat) = 1 := by decide +kernel
theorem q326_1097 : qD 326 1097 (.invokevirtual 133) 3 1100 ∧ qI 326 133 139 1040 := by decide +kernel
theorem q326_1100 : qD 326 1100 (.aload_n 2) 1 1101 ∧ ((2 : Fin 4) : Nat) = 2 := by decide +kernel
theorem q326_1101 : qD 326 1101 (.invokevirtual 136) 3 1104 ∧ qI 326 136 259 1800 := by decide +kernel
theorem q326_1104 : qJ 326 1104 (.if_icmp .eq 608) 1107 (608) 1712 := by decide +kernel
theorem q326_1107 : qD 326 1107 (.iconst 0) 1 1108 ∧ Int32.ofInt (0) = (0 : Int32) := by decide +kernel
theorem q326_1108 : qD 326 1108 (.ireturn) 1 1109 ∧ mR 326 = some .boolean := by decide +kernel
theorem q326_1109 : qD 326 1109 (.aload_n 1) 1 1110 ∧ ((1 : Fin 4) : Nat) = 1 := by decide +kernel
theorem q326_1110 : qD 326 1110 (.aload_n 0) 1 1111 ∧ ((0 : Fin 4) : Nat) = 0 := by decide +kernel
theorem q326_1111 : qD 326 1111 (.iload 4) 2 1113 := by decide +kernel
theorem q326_1113 : qD 326 1113 (.iconst 1) 1 1114 ∧ Int32.ofInt (1) = (1 : Int32) := by decide +kernel
theorem q326_1114 : qD 326 1114 (.iadd) 1 1115 := by decide +kernel
theorem q326_1115 : qD 326 1115 (.iaload) 1 1116 := by decide +kernel
theorem q326_1116 : qD 326 1116 (.invokevirtual 137) 3 1119 ∧ qI 326 137 149 1072 := by decide +kernel
theorem q326_1119 : qD 326 1119 (.aload_n 2) 1 1120 ∧ ((2 : Fin 4) : Nat) = 2 := by decide +kernel
theorem q326_1120 : qD 326 1120 (.aload_n 0) 1 1121 ∧ ((0 : Fin 4) : Nat) = 0 := by decide +kernel
theorem q326_1121 : qD 326 1121 (.iload 4) 2 1123 := by decide +kernel
theorem q326_1123 : qD 326 1123 (.iconst 1) 1 1124 ∧ Int32.ofInt (1) = (1 : Int32) := by decide +kernel
theorem q326_1124 : qD 326 1124 (.iadd) 1 1125 := by decide +kernel
theorem q326_1125 : qD 326 1125 (.iaload) 1 1126 := by decide +kernel
theorem q326_1126 : qD 326 1126 (.invokevirtual 140) 3 1129 ∧ qI 326 140 261 1804 := by decide +kernel
theorem q326_1129 : qJ 326 1129 (.if_icmp .eq 583) 1132 (583) 1712 := by decide +kernel
theorem q326_1132 : qD 326 1132 (.iconst 0) 1 1133 ∧ Int32.ofInt (0) = (0 : Int32) := by decide +kernel
theorem q326_1133 : qD 326 1133 (.ireturn) 1 1134 ∧ mR 326 = some .boolean := by decide +kernel
theorem q326_1134 : qD 326 1134 (.aload_n 1) 1 1135 ∧ ((1 : Fin 4) : Nat) = 1 := by decide +kernel
theorem q326_1135 : qD 326 1135 (.aload_n 0) 1 1136 ∧ ((0 : Fin 4) : Nat) = 0 := by decide +kernel
theorem q326_1136 : qD 326 1136 (.iload 4) 2 1138 := by decide +kernel
theorem q326_1138 : qD 326 1138 (.iconst 1) 1 1139 ∧ Int32.ofInt (1) = (1 : Int32) := by decide +kernel
theorem q326_1139 : qD 326 1139 (.iadd) 1 1140 := by decide +kernel
theorem q326_1140 : qD 326 1140 (.iaload) 1 1141 := by decide +kernel
theorem q326_1141 : qD 326 1141 (.aload_n 0) 1 1142 ∧ ((0 : Fin 4) : Nat) = 0 := by decide +kernel
theorem q326_1142 : qD 326 1142 (.iload 4) 2 1144 := by decide +kernel
theorem q326_1144 : qD 326 1144 (.iconst 2) 1 1145 ∧ Int32.ofInt (2) = (2 : Int32) := by decide +kernel
theorem q326_1145 : qD 326 1145 (.iadd) 1 1146 := by decide +kernel
theorem q326_1146 : qD 326 1146 (.iaload) 1 1147 := by decide +kernel
theorem q326_1147 : qD 326 1147 (.aload_n 0) 1 1148 ∧ ((0 : Fin 4) : Nat) = 0 := by decide +kernel
theorem q326_1148 : qD 326 1148 (.iload 4) 2 1150 := by decide +kernel
theorem q326_1150 : qD 326 1150 (.iconst 3) 1 1151 ∧ Int32.ofInt (3) = (3 : Int32) := by decide +kernel
theorem q326_1151 : qD 326 1151 (.iadd) 1 1152 := by decide +kernel
theorem q326_1152 : qD 326 1152 (.iaload) 1 1153 := by decide +kernel
theorem q326_1153 : qJ 326 1153 (.ifCond .eq 7) 1156 (7) 1160 := by decide +kernel
theorem q326_1156 : qD 326 1156 (.iconst 1) 1 1157 ∧ Int32.ofInt (1) = (1 : Int32) := by decide +kernel
theorem q326_1157 : qJ 326 1157 (.goto 4) 1160 (4) 1161 := by decide +kernel
theorem q326_1160 : qD 326 1160 (.iconst 0) 1 1161 ∧ Int32.ofInt (0) = (0 : Int32) := by decide +kernel
theorem q326_1161 : qD 326 1161 (.invokevirtual 141) 3 1164 ∧ qI 326 141 154 1102 := by decide +kernel
theorem q326_1164 : qD 326 1164 (.aload_n 2) 1 1165 ∧ ((2 : Fin 4) : Nat) = 2 := by decide +kernel
theorem q326_1165 : qD 326 1165 (.aload_n 0) 1 1166 ∧ ((0 : Fin 4) : Nat) = 0 := by decide +kernel
theorem q326_1166 : qD 326 1166 (.iload 4) 2 1168 := by decide +kernel
theorem q326_1168 : qD 326 1168 (.iconst 1) 1 1169 ∧ Int32.ofInt (1) = (1 : Int32) := by decide +kernel
theorem q326_1169 : qD 326 1169 (.iadd) 1 1170 := by decide +kernel
theorem q326_1170 : qD 326 1170 (.iaload) 1 1171 := by decide +kernel
theorem q326_1171 : qD 326 1171 (.aload_n 0) 1 1172 ∧ ((0 : Fin 4) : Nat) = 0 := by decide +kernel
theorem q326_1172 : qD 326 1172 (.iload 4) 2 1174 := by decide +kernel
theorem q326_1174 : qD 326 1174 (.iconst 2) 1 1175 ∧ Int32.ofInt (2) = (2 : Int32) := by decide +kernel
theorem q326_1175 : qD 326 1175 (.iadd) 1 1176 := by decide +kernel
theorem q326_1176 : qD 326 1176 (.iaload) 1 1177 := by decide +kernel
theorem q326_1177 : qD 326 1177 (.aload_n 0) 1 1178 ∧ ((0 : Fin 4) : Nat) = 0 := by decide +kernel
theorem q326_1178 : qD 326 1178 (.iload 4) 2 1180 := by decide +kernel
theorem q326_1180 : qD 326 1180 (.iconst 3) 1 1181 ∧ Int32.ofInt (3) = (3 : Int32) := by decide +kernel
theorem q326_1181 : qD 326 1181 (.iadd) 1 1182 := by decide +kernel
theorem q326_1182 : qD 326 1182 (.iaload) 1 1183 := by decide +kernel
theorem q326_1183 : qJ 326 1183 (.ifCond .eq 7) 1186 (7) 1190 := by decide +kernel
theorem q326_1186 : qD 326 1186 (.iconst 1) 1 1187 ∧ Int32.ofInt (1) = (1 : Int32) := by decide +kernel
theorem q326_1187 : qJ 326 1187 (.goto 4) 1190 (4) 1191 := by decide +kernel
theorem q326_1190 : qD 326 1190 (.iconst 0) 1 1191 ∧ Int32.ofInt (0) = (0 : Int32) := by decide +kernel
theorem q326_1191 : qD 326 1191 (.invokevirtual 145) 3 1194 ∧ qI 326 145 262 1812 := by decide +kernel
theorem q326_1194 : qJ 326 1194 (.if_icmp .eq 518) 1197 (518) 1712 := by decide +kernel
theorem q326_1197 : qD 326 1197 (.iconst 0) 1 1198 ∧ Int32.ofInt (0) = (0 : Int32) := by decide +kernel
theorem q326_1198 : qD 326 1198 (.ireturn) 1 1199 ∧ mR 326 = some .boolean := by decide +kernel
theorem q326_1199 : qD 326 1199 (.aload_n 1) 1 1200 ∧ ((1 : Fin 4) : Nat) = 1 := by decide +kernel
theorem q326_1200 : qD 326 1200 (.invokevirtual 146) 3 1203 ∧ qI 326 146 155 1110 := by decide +kernel
theorem q326_1203 : qD 326 1203 (.aload_n 2) 1 1204 ∧ ((2 : Fin 4) : Nat) = 2 := by decide +kernel
theorem q326_1204 : qD 326 1204 (.invokevirtual 149) 3 1207 ∧ qI 326 149 266 1816 := by decide +kernel
theorem q326_1207 : qJ 326 1207 (.if_icmp .eq 505) 1210 (505) 1712 := by decide +kernel
theorem q326_1210 : qD 326 1210 (.iconst 0) 1 1211 ∧ Int32.ofInt (0) = (0 : Int32) := by decide +kernel
theorem q326_1211 : qD 326 1211 (.ireturn) 1 1212 ∧ mR 326 = some .boolean := by decide +kernel
theorem q326_1212 : qD 326 1212 (.aload_n 1) 1 1213 ∧ ((1 : Fin 4) : Nat) = 1 := by decide +kernel
theorem q326_1213 : qD 326 1213 (.aload_n 0) 1 1214 ∧ ((0 : Fin 4) : Nat) = 0 := by decide +kernel
theorem q326_1214 : qD 326 1214 (.iload 4) 2 1216 := by decide +kernel
theorem q326_1216 : qD 326 1216 (.iconst 1) 1 1217 ∧ Int32.ofInt (1) = (1 : Int32) := by decide +kernel
theorem q326_1217 : qD 326 1217 (.iadd) 1 1218 := by decide +kernel
theorem q326_1218 : qD 326 1218 (.iaload) 1 1219 := by decide +kernel
theorem q326_1219 : qD 326 1219 (.aload_n 0) 1 1220 ∧ ((0 : Fin 4) : Nat) = 0 := by decide +kernel
theorem q326_1220 : qD 326 1220 (.iload 4) 2 1222 := by decide +kernel
theorem q326_1222 : qD 326 1222 (.iconst 2) 1 1223 ∧ Int32.ofInt (2) = (2 : Int32) := by decide +kernel
theorem q326_1223 : qD 326 1223 (.iadd) 1 1224 := by decide +kernel
theorem q326_1224 : qD 326 1224 (.iaload) 1 1225 := by decide +kernel
theorem q326_1225 : qD 326 1225 (.invokevirtual 150) 3 1228 ∧ qI 326 150 156 1134 := by decide +kernel
theorem q326_1228 : qD 326 1228 (.aload_n 2) 1 1229 ∧ ((2 : Fin 4) : Nat) = 2 := by decide +kernel
theorem q326_1229 : qD 326 1229 (.aload_n 0) 1 1230 ∧ ((0 : Fin 4) : Nat) = 0 := by decide +kernel
theorem q326_1230 : qD 326 1230 (.iload 4) 2 1232 := by decide +kernel
theorem q326_1232 : qD 326 1232 (.iconst 1) 1 1233 ∧ Int32.ofInt (1) = (1 : Int32) := by decide +kernel
theorem q326_1233 : qD 326 1233 (.iadd) 1 1234 := by decide +kernel
theorem q326_1234 : qD 326 1234 (.iaload) 1 1235 := by decide +kernel
theorem q326_1235 : qD 326 1235 (.aload_n 0) 1 1236 ∧ ((0 : Fin 4) : Nat) = 0 := by decide +kernel
theorem q326_1236 : qD 326 1236 (.iload 4) 2 1238 := by decide +kernel
theorem q326_1238 : qD 326 1238 (.iconst 2) 1 1239 ∧ Int32.ofInt (2) = (2 : Int32) := by decide +kernel
theorem q326_1239 : qD 326 1239 (.iadd) 1 1240 := by decide +kernel
theorem q326_1240 : qD 326 1240 (.iaload) 1 1241 := by decide +kernel
theorem q326_1241 : qD 326 1241 (.invokevirtual 153) 3 1244 ∧ qI 326 153 268 1832 := by decide +kernel
theorem q326_1244 : qJ 326 1244 (.if_icmp .eq 468) 1247 (468) 1712 := by decide +kernel
theorem q326_1247 : qD 326 1247 (.iconst 0) 1 1248 ∧ Int32.ofInt (0) = (0 : Int32) := by decide +kernel
theorem q326_1248 : qD 326 1248 (.ireturn) 1 1249 ∧ mR 326 = some .boolean := by decide +kernel
theorem q326_1249 : qD 326 1249 (.aload_n 1) 1 1250 ∧ ((1 : Fin 4) : Nat) = 1 := by decide +kernel
theorem q326_1250 : qD 326 1250 (.aload_n 0) 1 1251 ∧ ((0 : Fin 4) : Nat) = 0 := by decide +kernel
theorem q326_1251 : qD 326 1251 (.iload 4) 2 1253 := by decide +kernel
theorem q326_1253 : qD 326 1253 (.iconst 1) 1 1254 ∧ Int32.ofInt (1) = (1 : Int32) := by decide +kernel
theorem q326_1254 : qD 326 1254 (.iadd) 1 1255 := by decide +kernel
theorem q326_1255 : qD 326 1255 (.iaload) 1 1256 := by decide +kernel
theorem q326_1256 : qD 326 1256 (.aload_n 0) 1 1257 ∧ ((0 : Fin 4) : Nat) = 0 := by decide +kernel
theorem q326_1257 : qD 326 1257 (.iload 4) 2 1259 := by decide +kernel
theorem q326_1259 : qD 326 1259 (.iconst 2) 1 1260 ∧ Int32.ofInt (2) = (2 : Int32) := by decide +kernel
theorem q326_1260 : qD 326 1260 (.iadd) 1 1261 := by decide +kernel
theorem q326_1261 : qD 326 1261 (.iaload) 1 1262 := by decide +kernel
theorem q326_1262 : qD 326 1262 (.invokevirtual 154) 3 1265 ∧ qI 326 154 157 1142 := by decide +kernel
theorem q326_1265 : qD 326 1265 (.aload_n 2) 1 1266 ∧ ((2 : Fin 4) : Nat) = 2 := by decide +kernel
theorem q326_1266 : qD 326 1266 (.aload_n 0) 1 1267 ∧ ((0 : Fin 4) : Nat) = 0 := by decide +kernel
theorem q326_1267 : qD 326 1267 (.iload 4) 2 1269 := by decide +kernel
theorem q326_1269 : qD 326 1269 (.iconst 1) 1 1270 ∧ Int32.ofInt (1) = (1 : Int32) := by decide +kernel
theorem q326_1270 : qD 326 1270 (.iadd) 1 1271 := by decide +kernel
theorem q326_1271 : qD 326 1271 (.iaload) 1 1272 := by decide +kernel
theorem q326_1272 : qD 326 1272 (.aload_n 0) 1 1273 ∧ ((0 : Fin 4) : Nat) = 0 := by decide +kernel
theorem q326_1273 : qD 326 1273 (.iload 4) 2 1275 := by decide +kernel
theorem q326_1275 : qD 326 1275 (.iconst 2) 1 1276 ∧ Int32.ofInt (2) = (2 : Int32) := by decide +kernel
theorem q326_1276 : qD 326 1276 (.iadd) 1 1277 := by decide +kernel
theorem q326_1277 : qD 326 1277 (.iaload) 1 1278 := by decide +kernel
theorem q326_1278 : qD 326 1278 (.invokevirtual 157) 3 1281 ∧ qI 326 157 269 1841 := by decide +kernel
theorem q326_1281 : qJ 326 1281 (.if_icmp .eq 431) 1284 (431) 1712 := by decide +kernel
theorem q326_1284 : qD 326 1284 (.iconst 0) 1 1285 ∧ Int32.ofInt (0) = (0 : Int32) := by decide +kernel
theorem q326_1285 : qD 326 1285 (.ireturn) 1 1286 ∧ mR 326 = some .boolean := by decide +kernel
theorem q326_1286 : qD 326 1286 (.aload_n 1) 1 1287 ∧ ((1 : Fin 4) : Nat) = 1 := by decide +kernel
theorem q326_1287 : qD 326 1287 (.aload_n 0) 1 1288 ∧ ((0 : Fin 4) : Nat) = 0 := by decide +kernel
theorem q326_1288 : qD 326 1288 (.iload 4) 2 1290 := by decide +kernel
theorem q326_1290 : qD 326 1290 (.iconst 1) 1 1291 ∧ Int32.ofInt (1) = (1 : Int32) := by decide +kernel
theorem q326_1291 : qD 326 1291 (.iadd) 1 1292 := by decide +kernel
theorem q326_1292 : qD 326 1292 (.iaload) 1 1293 := by decide +kernel
theorem q326_1293 : qD 326 1293 (.invokevirtual 158) 3 1296 ∧ qI 326 158 158 1146 := by decide +kernel
theorem q326_1296 : qD 326 1296 (.aload_n 2) 1 1297 ∧ ((2 : Fin 4) : Nat) = 2 := by decide +kernel
theorem q326_1297 : qD 326 1297 (.aload_n 0) 1 1298 ∧ ((0 : Fin 4) : Nat) = 0 := by decide +kernel
theorem q326_1298 : qD 326 1298 (.iload 4) 2 1300 := by decide +kernel
theorem q326_1300 : qD 326 1300 (.iconst 1) 1 1301 ∧ Int32.ofInt (1) = (1 : Int32) := by decide +kernel
theorem q326_1301 : qD 326 1301 (.iadd) 1 1302 := by decide +kernel
theorem q326_1302 : qD 326 1302 (.iaload) 1 1303 := by decide +kernel
theorem q326_1303 : qD 326 1303 (.invokevirtual 161) 3 1306 ∧ qI 326 161 270 1846 := by decide +kernel
theorem q326_1306 : qJ 326 1306 (.if_icmp .eq 406) 1309 (406) 1712 := by decide +kernel
theorem q326_1309 : qD 326 1309 (.iconst 0) 1 1310 ∧ Int32.ofInt (0) = (0 : Int32) := by decide +kernel
theorem q326_1310 : qD 326 1310 (.ireturn) 1 1311 ∧ mR 326 = some .boolean := by decide +kernel
theorem q326_1311 : qD 326 1311 (.aload_n 1) 1 1312 ∧ ((1 : Fin 4) : Nat) = 1 := by decide +kernel
theorem q326_1312 : qD 326 1312 (.invokevirtual 162) 3 1315 ∧ qI 326 162 159 1157 := by decide +kernel
theorem q326_1315 : qD 326 1315 (.aload_n 2) 1 1316 ∧ ((2 : Fin 4) : Nat) = 2 := by decide +kernel
theorem q326_1316 : qD 326 1316 (.invokevirtual 165) 3 1319 ∧ qI 326 165 271 1851 := by decide +kernel
theorem q326_1319 : qJ 326 1319 (.if_icmp .eq 393) 1322 (393) 1712 := by decide +kernel
theorem q326_1322 : qD 326 1322 (.iconst 0) 1 1323 ∧ Int32.ofInt (0) = (0 : Int32) := by decide +kernel
theorem q326_1323 : qD 326 1323 (.ireturn) 1 1324 ∧ mR 326 = some .boolean := by decide +kernel
theorem q326_1324 : qD 326 1324 (.aload_n 1) 1 1325 ∧ ((1 : Fin 4) : Nat) = 1 := by decide +kernel
theorem q326_1325 : qD 326 1325 (.aload_n 0) 1 1326 ∧ ((0 : Fin 4) : Nat) = 0 := by decide +kernel
theorem q326_1326 : qD 326 1326 (.iload 4) 2 1328 := by decide +kernel
theorem q326_1328 : qD 326 1328 (.iconst 1) 1 1329 ∧ Int32.ofInt (1) = (1 : Int32) := by decide +kernel
theorem q326_1329 : qD 326 1329 (.iadd) 1 1330 := by decide +kernel
theorem q326_1330 : qD 326 1330 (.iaload) 1 1331 := by decide +kernel
theorem q326_1331 : qD 326 1331 (.invokevirtual 166) 3 1334 ∧ qI 326 166 160 1161 := by decide +kernel
