theorem dL_law_1119 : decode cL_law 1119 = .ok (.iconst 3, 1) := by decide +kernel
theorem dL_law_1120 : decode cL_law 1120 = .ok (.iadd, 1) := by decide +kernel
theorem dL_law_1121 : decode cL_law 1121 = .ok (.iaload, 1) := by decide +kernel
theorem dL_law_1122 : decode cL_law 1122 = .ok (.aload_n 0, 1) := by decide +kernel
theorem dL_law_1123 : decode cL_law 1123 = .ok (.iload 4, 2) := by decide +kernel
theorem dL_law_1125 : decode cL_law 1125 = .ok (.iconst 4, 1) := by decide +kernel
theorem dL_law_1126 : decode cL_law 1126 = .ok (.iadd, 1) := by decide +kernel
theorem dL_law_1127 : decode cL_law 1127 = .ok (.iaload, 1) := by decide +kernel
theorem dL_law_1128 : decode cL_law 1128 = .ok (.invokevirtual 115, 3) := by decide +kernel
theorem dL_law_1131 : decode cL_law 1131 = .ok (.aload_n 2, 1) := by decide +kernel
theorem dL_law_1132 : decode cL_law 1132 = .ok (.aload_n 0, 1) := by decide +kernel
theorem dL_law_1133 : decode cL_law 1133 = .ok (.iload 4, 2) := by decide +kernel
theorem dL_law_1135 : decode cL_law 1135 = .ok (.iconst 1, 1) := by decide +kernel
theorem dL_law_1136 : decode cL_law 1136 = .ok (.iadd, 1) := by decide +kernel
theorem dL_law_1137 : decode cL_law 1137 = .ok (.iaload, 1) := by decide +kernel
theorem dL_law_1138 : decode cL_law 1138 = .ok (.aload_n 0, 1) := by decide +kernel
theorem dL_law_1139 : decode cL_law 1139 = .ok (.iload 4, 2) := by decide +kernel
theorem dL_law_1141 : decode cL_law 1141 = .ok (.iconst 2, 1) := by decide +kernel
theorem dL_law_1142 : decode cL_law 1142 = .ok (.iadd, 1) := by decide +kernel
theorem dL_law_1143 : decode cL_law 1143 = .ok (.iaload, 1) := by decide +kernel
theorem dL_law_1144 : decode cL_law 1144 = .ok (.aload_n 0, 1) := by decide +kernel
theorem dL_law_1145 : decode cL_law 1145 = .ok (.iload 4, 2) := by decide +kernel
theorem dL_law_1147 : decode cL_law 1147 = .ok (.iconst 3, 1) := by decide +kernel
theorem dL_law_1148 : decode cL_law 1148 = .ok (.iadd, 1) := by decide +kernel
theorem dL_law_1149 : decode cL_law 1149 = .ok (.iaload, 1) := by decide +kernel
theorem dL_law_1150 : decode cL_law 1150 = .ok (.aload_n 0, 1) := by decide +kernel
theorem dL_law_1151 : decode cL_law 1151 = .ok (.iload 4, 2) := by decide +kernel
theorem dL_law_1153 : decode cL_law 1153 = .ok (.iconst 4, 1) := by decide +kernel
theorem dL_law_1154 : decode cL_law 1154 = .ok (.iadd, 1) := by decide +kernel
theorem dL_law_1155 : decode cL_law 1155 = .ok (.iaload, 1) := by decide +kernel
theorem dL_law_1156 : decode cL_law 1156 = .ok (.invokevirtual 119, 3) := by decide +kernel
theorem dL_law_1159 : decode cL_law 1159 = .ok (.if_icmp .eq 600, 3) := by decide +kernel
theorem dL_law_1162 : decode cL_law 1162 = .ok (.iconst 0, 1) := by decide +kernel
theorem dL_law_1163 : decode cL_law 1163 = .ok (.ireturn, 1) := by decide +kernel
theorem dL_law_1164 : decode cL_law 1164 = .ok (.aload_n 1, 1) := by decide +kernel
theorem dL_law_1165 : decode cL_law 1165 = .ok (.aload_n 0, 1) := by decide +kernel
theorem dL_law_1166 : decode cL_law 1166 = .ok (.iload 4, 2) := by decide +kernel
theorem dL_law_1168 : decode cL_law 1168 = .ok (.iconst 1, 1) := by decide +kernel
theorem dL_law_1169 : decode cL_law 1169 = .ok (.iadd, 1) := by decide +kernel
theorem dL_law_1170 : decode cL_law 1170 = .ok (.iaload, 1) := by decide +kernel
theorem dL_law_1171 : decode cL_law 1171 = .ok (.invokevirtual 120, 3) := by decide +kernel
theorem dL_law_1174 : decode cL_law 1174 = .ok (.aload_n 2, 1) := by decide +kernel
theorem dL_law_1175 : decode cL_law 1175 = .ok (.aload_n 0, 1) := by decide +kernel
theorem dL_law_1176 : decode cL_law 1176 = .ok (.iload 4, 2) := by decide +kernel
theorem dL_law_1178 : decode cL_law 1178 = .ok (.iconst 1, 1) := by decide +kernel
theorem dL_law_1179 : decode cL_law 1179 = .ok (.iadd, 1) := by decide +kernel
theorem dL_law_1180 : decode cL_law 1180 = .ok (.iaload, 1) := by decide +kernel
theorem dL_law_1181 : decode cL_law 1181 = .ok (.invokevirtual 123, 3) := by decide +kernel
theorem dL_law_1184 : decode cL_law 1184 = .ok (.if_icmp .eq 575, 3) := by decide +kernel
theorem dL_law_1187 : decode cL_law 1187 = .ok (.iconst 0, 1) := by decide +kernel
theorem dL_law_1188 : decode cL_law 1188 = .ok (.ireturn, 1) := by decide +kernel
theorem dL_law_1189 : decode cL_law 1189 = .ok (.aload_n 1, 1) := by decide +kernel
theorem dL_law_1190 : decode cL_law 1190 = .ok (.invokevirtual 124, 3) := by decide +kernel
theorem dL_law_1193 : decode cL_law 1193 = .ok (.aload_n 2, 1) := by decide +kernel
theorem dL_law_1194 : decode cL_law 1194 = .ok (.invokevirtual 127, 3) := by decide +kernel
theorem dL_law_1197 : decode cL_law 1197 = .ok (.if_icmp .eq 562, 3) := by decide +kernel
theorem dL_law_1200 : decode cL_law 1200 = .ok (.iconst 0, 1) := by decide +kernel
theorem dL_law_1201 : decode cL_law 1201 = .ok (.ireturn, 1) := by decide +kernel
theorem dL_law_1202 : decode cL_law 1202 = .ok (.aload_n 1, 1) := by decide +kernel
theorem dL_law_1203 : decode cL_law 1203 = .ok (.aload_n 0, 1) := by decide +kernel
