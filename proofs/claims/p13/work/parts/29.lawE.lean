theorem dL_law_940 : decode cL_law 940 = .ok (.aload_n 1, 1) := by decide +kernel
theorem dL_law_941 : decode cL_law 941 = .ok (.aload_n 0, 1) := by decide +kernel
theorem dL_law_942 : decode cL_law 942 = .ok (.iload 4, 2) := by decide +kernel
theorem dL_law_944 : decode cL_law 944 = .ok (.iconst 1, 1) := by decide +kernel
theorem dL_law_945 : decode cL_law 945 = .ok (.iadd, 1) := by decide +kernel
theorem dL_law_946 : decode cL_law 946 = .ok (.iaload, 1) := by decide +kernel
theorem dL_law_947 : decode cL_law 947 = .ok (.aload_n 0, 1) := by decide +kernel
theorem dL_law_948 : decode cL_law 948 = .ok (.iload 4, 2) := by decide +kernel
theorem dL_law_950 : decode cL_law 950 = .ok (.iconst 2, 1) := by decide +kernel
theorem dL_law_951 : decode cL_law 951 = .ok (.iadd, 1) := by decide +kernel
theorem dL_law_952 : decode cL_law 952 = .ok (.iaload, 1) := by decide +kernel
theorem dL_law_953 : decode cL_law 953 = .ok (.aload_n 3, 1) := by decide +kernel
theorem dL_law_954 : decode cL_law 954 = .ok (.invokestatic 139, 3) := by decide +kernel
theorem dL_law_957 : decode cL_law 957 = .ok (.istore 5, 2) := by decide +kernel
theorem dL_law_959 : decode cL_law 959 = .ok (.aload_n 2, 1) := by decide +kernel
theorem dL_law_960 : decode cL_law 960 = .ok (.aload_n 0, 1) := by decide +kernel
theorem dL_law_961 : decode cL_law 961 = .ok (.iload 4, 2) := by decide +kernel
theorem dL_law_963 : decode cL_law 963 = .ok (.iconst 1, 1) := by decide +kernel
theorem dL_law_964 : decode cL_law 964 = .ok (.iadd, 1) := by decide +kernel
theorem dL_law_965 : decode cL_law 965 = .ok (.iaload, 1) := by decide +kernel
theorem dL_law_966 : decode cL_law 966 = .ok (.aload_n 0, 1) := by decide +kernel
theorem dL_law_967 : decode cL_law 967 = .ok (.iload 4, 2) := by decide +kernel
theorem dL_law_969 : decode cL_law 969 = .ok (.iconst 2, 1) := by decide +kernel
theorem dL_law_970 : decode cL_law 970 = .ok (.iadd, 1) := by decide +kernel
theorem dL_law_971 : decode cL_law 971 = .ok (.iaload, 1) := by decide +kernel
theorem dL_law_972 : decode cL_law 972 = .ok (.invokevirtual 141, 3) := by decide +kernel
theorem dL_law_975 : decode cL_law 975 = .ok (.istore 6, 2) := by decide +kernel
theorem dL_law_977 : decode cL_law 977 = .ok (.goto 247, 3) := by decide +kernel
theorem dL_law_980 : decode cL_law 980 = .ok (.aload_n 1, 1) := by decide +kernel
theorem dL_law_981 : decode cL_law 981 = .ok (.aload_n 0, 1) := by decide +kernel
theorem dL_law_982 : decode cL_law 982 = .ok (.iload 4, 2) := by decide +kernel
theorem dL_law_984 : decode cL_law 984 = .ok (.iconst 1, 1) := by decide +kernel
theorem dL_law_985 : decode cL_law 985 = .ok (.iadd, 1) := by decide +kernel
theorem dL_law_986 : decode cL_law 986 = .ok (.iaload, 1) := by decide +kernel
theorem dL_law_987 : decode cL_law 987 = .ok (.aload_n 0, 1) := by decide +kernel
theorem dL_law_988 : decode cL_law 988 = .ok (.iload 4, 2) := by decide +kernel
theorem dL_law_990 : decode cL_law 990 = .ok (.iconst 2, 1) := by decide +kernel
theorem dL_law_991 : decode cL_law 991 = .ok (.iadd, 1) := by decide +kernel
theorem dL_law_992 : decode cL_law 992 = .ok (.iaload, 1) := by decide +kernel
theorem dL_law_993 : decode cL_law 993 = .ok (.aload_n 0, 1) := by decide +kernel
theorem dL_law_994 : decode cL_law 994 = .ok (.iload 4, 2) := by decide +kernel
theorem dL_law_996 : decode cL_law 996 = .ok (.iconst 3, 1) := by decide +kernel
theorem dL_law_997 : decode cL_law 997 = .ok (.iadd, 1) := by decide +kernel
theorem dL_law_998 : decode cL_law 998 = .ok (.iaload, 1) := by decide +kernel
theorem dL_law_999 : decode cL_law 999 = .ok (.aload_n 3, 1) := by decide +kernel
theorem dL_law_1000 : decode cL_law 1000 = .ok (.invokestatic 142, 3) := by decide +kernel
theorem dL_law_1003 : decode cL_law 1003 = .ok (.istore 5, 2) := by decide +kernel
theorem dL_law_1005 : decode cL_law 1005 = .ok (.aload_n 2, 1) := by decide +kernel
theorem dL_law_1006 : decode cL_law 1006 = .ok (.aload_n 0, 1) := by decide +kernel
theorem dL_law_1007 : decode cL_law 1007 = .ok (.iload 4, 2) := by decide +kernel
theorem dL_law_1009 : decode cL_law 1009 = .ok (.iconst 1, 1) := by decide +kernel
theorem dL_law_1010 : decode cL_law 1010 = .ok (.iadd, 1) := by decide +kernel
theorem dL_law_1011 : decode cL_law 1011 = .ok (.iaload, 1) := by decide +kernel
theorem dL_law_1012 : decode cL_law 1012 = .ok (.aload_n 0, 1) := by decide +kernel
theorem dL_law_1013 : decode cL_law 1013 = .ok (.iload 4, 2) := by decide +kernel
theorem dL_law_1015 : decode cL_law 1015 = .ok (.iconst 2, 1) := by decide +kernel
theorem dL_law_1016 : decode cL_law 1016 = .ok (.iadd, 1) := by decide +kernel
theorem dL_law_1017 : decode cL_law 1017 = .ok (.iaload, 1) := by decide +kernel
theorem dL_law_1018 : decode cL_law 1018 = .ok (.aload_n 0, 1) := by decide +kernel
theorem dL_law_1019 : decode cL_law 1019 = .ok (.iload 4, 2) := by decide +kernel
theorem dL_law_1021 : decode cL_law 1021 = .ok (.iconst 3, 1) := by decide +kernel
theorem dL_law_1022 : decode cL_law 1022 = .ok (.iadd, 1) := by decide +kernel
theorem dL_law_1023 : decode cL_law 1023 = .ok (.iaload, 1) := by decide +kernel
theorem dL_law_1024 : decode cL_law 1024 = .ok (.invokevirtual 144, 3) := by decide +kernel
theorem dL_law_1027 : decode cL_law 1027 = .ok (.istore 6, 2) := by decide +kernel
theorem dL_law_1029 : decode cL_law 1029 = .ok (.goto 195, 3) := by decide +kernel
theorem dL_law_1032 : decode cL_law 1032 = .ok (.aload_n 1, 1) := by decide +kernel
theorem dL_law_1033 : decode cL_law 1033 = .ok (.aload_n 0, 1) := by decide +kernel
theorem dL_law_1034 : decode cL_law 1034 = .ok (.iload 4, 2) := by decide +kernel
theorem dL_law_1036 : decode cL_law 1036 = .ok (.iconst 1, 1) := by decide +kernel
theorem dL_law_1037 : decode cL_law 1037 = .ok (.iadd, 1) := by decide +kernel
theorem dL_law_1038 : decode cL_law 1038 = .ok (.iaload, 1) := by decide +kernel
theorem dL_law_1039 : decode cL_law 1039 = .ok (.aload_n 0, 1) := by decide +kernel
theorem dL_law_1040 : decode cL_law 1040 = .ok (.iload 4, 2) := by decide +kernel
theorem dL_law_1042 : decode cL_law 1042 = .ok (.iconst 2, 1) := by decide +kernel
theorem dL_law_1043 : decode cL_law 1043 = .ok (.iadd, 1) := by decide +kernel
theorem dL_law_1044 : decode cL_law 1044 = .ok (.iaload, 1) := by decide +kernel
theorem dL_law_1045 : decode cL_law 1045 = .ok (.ifCond .eq 7, 3) := by decide +kernel
theorem dL_law_1048 : decode cL_law 1048 = .ok (.iconst 1, 1) := by decide +kernel
theorem dL_law_1049 : decode cL_law 1049 = .ok (.goto 4, 3) := by decide +kernel
theorem dL_law_1052 : decode cL_law 1052 = .ok (.iconst 0, 1) := by decide +kernel
theorem dL_law_1053 : decode cL_law 1053 = .ok (.aload_n 0, 1) := by decide +kernel
theorem dL_law_1054 : decode cL_law 1054 = .ok (.iload 4, 2) := by decide +kernel
theorem dL_law_1056 : decode cL_law 1056 = .ok (.iconst 3, 1) := by decide +kernel
theorem dL_law_1057 : decode cL_law 1057 = .ok (.iadd, 1) := by decide +kernel
theorem dL_law_1058 : decode cL_law 1058 = .ok (.iaload, 1) := by decide +kernel
theorem dL_law_1059 : decode cL_law 1059 = .ok (.invokevirtual 145, 3) := by decide +kernel
theorem dL_law_1062 : decode cL_law 1062 = .ok (.pop, 1) := by decide +kernel
theorem dL_law_1063 : decode cL_law 1063 = .ok (.aload_n 2, 1) := by decide +kernel
theorem dL_law_1064 : decode cL_law 1064 = .ok (.aload_n 0, 1) := by decide +kernel
theorem dL_law_1065 : decode cL_law 1065 = .ok (.iload 4, 2) := by decide +kernel
theorem dL_law_1067 : decode cL_law 1067 = .ok (.iconst 1, 1) := by decide +kernel
theorem dL_law_1068 : decode cL_law 1068 = .ok (.iadd, 1) := by decide +kernel
theorem dL_law_1069 : decode cL_law 1069 = .ok (.iaload, 1) := by decide +kernel
theorem dL_law_1070 : decode cL_law 1070 = .ok (.aload_n 0, 1) := by decide +kernel
theorem dL_law_1071 : decode cL_law 1071 = .ok (.iload 4, 2) := by decide +kernel
theorem dL_law_1073 : decode cL_law 1073 = .ok (.iconst 2, 1) := by decide +kernel
theorem dL_law_1074 : decode cL_law 1074 = .ok (.iadd, 1) := by decide +kernel
theorem dL_law_1075 : decode cL_law 1075 = .ok (.iaload, 1) := by decide +kernel
theorem dL_law_1076 : decode cL_law 1076 = .ok (.ifCond .eq 7, 3) := by decide +kernel
theorem dL_law_1079 : decode cL_law 1079 = .ok (.iconst 1, 1) := by decide +kernel
theorem dL_law_1080 : decode cL_law 1080 = .ok (.goto 4, 3) := by decide +kernel
theorem dL_law_1083 : decode cL_law 1083 = .ok (.iconst 0, 1) := by decide +kernel
theorem dL_law_1084 : decode cL_law 1084 = .ok (.aload_n 0, 1) := by decide +kernel
theorem dL_law_1085 : decode cL_law 1085 = .ok (.iload 4, 2) := by decide +kernel
theorem dL_law_1087 : decode cL_law 1087 = .ok (.iconst 3, 1) := by decide +kernel
theorem dL_law_1088 : decode cL_law 1088 = .ok (.iadd, 1) := by decide +kernel
theorem dL_law_1089 : decode cL_law 1089 = .ok (.iaload, 1) := by decide +kernel
theorem dL_law_1090 : decode cL_law 1090 = .ok (.invokevirtual 149, 3) := by decide +kernel
theorem dL_law_1093 : decode cL_law 1093 = .ok (.pop, 1) := by decide +kernel
theorem dL_law_1094 : decode cL_law 1094 = .ok (.goto 130, 3) := by decide +kernel
theorem dL_law_1097 : decode cL_law 1097 = .ok (.aload_n 1, 1) := by decide +kernel
theorem dL_law_1098 : decode cL_law 1098 = .ok (.aload_n 0, 1) := by decide +kernel
theorem dL_law_1099 : decode cL_law 1099 = .ok (.iload 4, 2) := by decide +kernel
theorem dL_law_1101 : decode cL_law 1101 = .ok (.iconst 1, 1) := by decide +kernel
theorem dL_law_1102 : decode cL_law 1102 = .ok (.iadd, 1) := by decide +kernel
theorem dL_law_1103 : decode cL_law 1103 = .ok (.iaload, 1) := by decide +kernel
theorem dL_law_1104 : decode cL_law 1104 = .ok (.aload_n 0, 1) := by decide +kernel
theorem dL_law_1105 : decode cL_law 1105 = .ok (.iload 4, 2) := by decide +kernel
theorem dL_law_1107 : decode cL_law 1107 = .ok (.iconst 2, 1) := by decide +kernel
theorem dL_law_1108 : decode cL_law 1108 = .ok (.iadd, 1) := by decide +kernel
theorem dL_law_1109 : decode cL_law 1109 = .ok (.iaload, 1) := by decide +kernel
theorem dL_law_1110 : decode cL_law 1110 = .ok (.aload_n 0, 1) := by decide +kernel
theorem dL_law_1111 : decode cL_law 1111 = .ok (.iload 4, 2) := by decide +kernel
theorem dL_law_1113 : decode cL_law 1113 = .ok (.iconst 3, 1) := by decide +kernel
theorem dL_law_1114 : decode cL_law 1114 = .ok (.iadd, 1) := by decide +kernel
theorem dL_law_1115 : decode cL_law 1115 = .ok (.iaload, 1) := by decide +kernel
theorem dL_law_1116 : decode cL_law 1116 = .ok (.aload_n 0, 1) := by decide +kernel
theorem dL_law_1117 : decode cL_law 1117 = .ok (.iload 4, 2) := by decide +kernel
theorem dL_law_1119 : decode cL_law 1119 = .ok (.iconst 4, 1) := by decide +kernel
theorem dL_law_1120 : decode cL_law 1120 = .ok (.iadd, 1) := by decide +kernel
theorem dL_law_1121 : decode cL_law 1121 = .ok (.iaload, 1) := by decide +kernel
theorem dL_law_1122 : decode cL_law 1122 = .ok (.aload_n 3, 1) := by decide +kernel
theorem dL_law_1123 : decode cL_law 1123 = .ok (.invokestatic 150, 3) := by decide +kernel
theorem dL_law_1126 : decode cL_law 1126 = .ok (.istore 5, 2) := by decide +kernel
theorem dL_law_1128 : decode cL_law 1128 = .ok (.aload_n 2, 1) := by decide +kernel
theorem dL_law_1129 : decode cL_law 1129 = .ok (.aload_n 0, 1) := by decide +kernel
theorem dL_law_1130 : decode cL_law 1130 = .ok (.iload 4, 2) := by decide +kernel
theorem dL_law_1132 : decode cL_law 1132 = .ok (.iconst 1, 1) := by decide +kernel
theorem dL_law_1133 : decode cL_law 1133 = .ok (.iadd, 1) := by decide +kernel
theorem dL_law_1134 : decode cL_law 1134 = .ok (.iaload, 1) := by decide +kernel
theorem dL_law_1135 : decode cL_law 1135 = .ok (.aload_n 0, 1) := by decide +kernel
theorem dL_law_1136 : decode cL_law 1136 = .ok (.iload 4, 2) := by decide +kernel
theorem dL_law_1138 : decode cL_law 1138 = .ok (.iconst 2, 1) := by decide +kernel
theorem dL_law_1139 : decode cL_law 1139 = .ok (.iadd, 1) := by decide +kernel
theorem dL_law_1140 : decode cL_law 1140 = .ok (.iaload, 1) := by decide +kernel
theorem dL_law_1141 : decode cL_law 1141 = .ok (.aload_n 0, 1) := by decide +kernel
theorem dL_law_1142 : decode cL_law 1142 = .ok (.iload 4, 2) := by decide +kernel
theorem dL_law_1144 : decode cL_law 1144 = .ok (.iconst 3, 1) := by decide +kernel
theorem dL_law_1145 : decode cL_law 1145 = .ok (.iadd, 1) := by decide +kernel
theorem dL_law_1146 : decode cL_law 1146 = .ok (.iaload, 1) := by decide +kernel
theorem dL_law_1147 : decode cL_law 1147 = .ok (.aload_n 0, 1) := by decide +kernel
theorem dL_law_1148 : decode cL_law 1148 = .ok (.iload 4, 2) := by decide +kernel
theorem dL_law_1150 : decode cL_law 1150 = .ok (.iconst 4, 1) := by decide +kernel
theorem dL_law_1151 : decode cL_law 1151 = .ok (.iadd, 1) := by decide +kernel
theorem dL_law_1152 : decode cL_law 1152 = .ok (.iaload, 1) := by decide +kernel
theorem dL_law_1153 : decode cL_law 1153 = .ok (.invokevirtual 152, 3) := by decide +kernel
theorem dL_law_1156 : decode cL_law 1156 = .ok (.istore 6, 2) := by decide +kernel
theorem dL_law_1158 : decode cL_law 1158 = .ok (.goto 66, 3) := by decide +kernel
theorem dL_law_1161 : decode cL_law 1161 = .ok (.aload_n 1, 1) := by decide +kernel
theorem dL_law_1162 : decode cL_law 1162 = .ok (.aload_n 0, 1) := by decide +kernel
theorem dL_law_1163 : decode cL_law 1163 = .ok (.iload 4, 2) := by decide +kernel
theorem dL_law_1165 : decode cL_law 1165 = .ok (.iconst 1, 1) := by decide +kernel
theorem dL_law_1166 : decode cL_law 1166 = .ok (.iadd, 1) := by decide +kernel
theorem dL_law_1167 : decode cL_law 1167 = .ok (.iaload, 1) := by decide +kernel
theorem dL_law_1168 : decode cL_law 1168 = .ok (.invokevirtual 153, 3) := by decide +kernel
theorem dL_law_1171 : decode cL_law 1171 = .ok (.pop, 1) := by decide +kernel
theorem dL_law_1172 : decode cL_law 1172 = .ok (.aload_n 2, 1) := by decide +kernel
theorem dL_law_1173 : decode cL_law 1173 = .ok (.aload_n 0, 1) := by decide +kernel
theorem dL_law_1174 : decode cL_law 1174 = .ok (.iload 4, 2) := by decide +kernel
theorem dL_law_1176 : decode cL_law 1176 = .ok (.iconst 1, 1) := by decide +kernel
theorem dL_law_1177 : decode cL_law 1177 = .ok (.iadd, 1) := by decide +kernel
theorem dL_law_1178 : decode cL_law 1178 = .ok (.iaload, 1) := by decide +kernel
theorem dL_law_1179 : decode cL_law 1179 = .ok (.invokevirtual 157, 3) := by decide +kernel
theorem dL_law_1182 : decode cL_law 1182 = .ok (.pop, 1) := by decide +kernel
theorem dL_law_1183 : decode cL_law 1183 = .ok (.goto 41, 3) := by decide +kernel
theorem dL_law_1186 : decode cL_law 1186 = .ok (.aload_n 1, 1) := by decide +kernel
theorem dL_law_1187 : decode cL_law 1187 = .ok (.invokevirtual 158, 3) := by decide +kernel
theorem dL_law_1190 : decode cL_law 1190 = .ok (.pop, 1) := by decide +kernel
theorem dL_law_1191 : decode cL_law 1191 = .ok (.aload_n 2, 1) := by decide +kernel
theorem dL_law_1192 : decode cL_law 1192 = .ok (.invokevirtual 161, 3) := by decide +kernel
theorem dL_law_1195 : decode cL_law 1195 = .ok (.pop, 1) := by decide +kernel
theorem dL_law_1196 : decode cL_law 1196 = .ok (.goto 28, 3) := by decide +kernel
theorem dL_law_1199 : decode cL_law 1199 = .ok (.aload_n 1, 1) := by decide +kernel
theorem dL_law_1200 : decode cL_law 1200 = .ok (.aload_n 0, 1) := by decide +kernel
theorem dL_law_1201 : decode cL_law 1201 = .ok (.iload 4, 2) := by decide +kernel
theorem dL_law_1203 : decode cL_law 1203 = .ok (.iconst 1, 1) := by decide +kernel
theorem dL_law_1204 : decode cL_law 1204 = .ok (.iadd, 1) := by decide +kernel
theorem dL_law_1205 : decode cL_law 1205 = .ok (.iaload, 1) := by decide +kernel
theorem dL_law_1206 : decode cL_law 1206 = .ok (.invokevirtual 162, 3) := by decide +kernel
theorem dL_law_1209 : decode cL_law 1209 = .ok (.pop, 1) := by decide +kernel
theorem dL_law_1210 : decode cL_law 1210 = .ok (.aload_n 2, 1) := by decide +kernel
theorem dL_law_1211 : decode cL_law 1211 = .ok (.aload_n 0, 1) := by decide +kernel
theorem dL_law_1212 : decode cL_law 1212 = .ok (.iload 4, 2) := by decide +kernel
theorem dL_law_1214 : decode cL_law 1214 = .ok (.iconst 1, 1) := by decide +kernel
theorem dL_law_1215 : decode cL_law 1215 = .ok (.iadd, 1) := by decide +kernel
theorem dL_law_1216 : decode cL_law 1216 = .ok (.iaload, 1) := by decide +kernel
theorem dL_law_1217 : decode cL_law 1217 = .ok (.invokevirtual 165, 3) := by decide +kernel
theorem dL_law_1220 : decode cL_law 1220 = .ok (.pop, 1) := by decide +kernel
theorem dL_law_1221 : decode cL_law 1221 = .ok (.goto 3, 3) := by decide +kernel
theorem wd_892 : (.codeWith ⟨"DrawingVaultLaw", "about", "(LDrawingVault;II[J)I"⟩ method_18_code 5 (Option.some .int) [(0, 10, 13, 60)] : Cond) ∈ aw := aw_in (tb_3 (List.mem_of_getElem? (i := 229) rfl)) rfl
theorem wd_893 : (.methodLink "DrawingVaultLaw" 139 ⟨"DrawingVaultLaw", "about", "(LDrawingVault;II[J)I"⟩ : Cond) ∈ aw := aw_in (tb_3 (List.mem_of_getElem? (i := 227) rfl)) rfl
theorem wd_894 : (.static ⟨"DrawingVaultLaw", "about", "(LDrawingVault;II[J)I"⟩ : Cond) ∈ aw := aw_in (tb_3 (List.mem_of_getElem? (i := 228) rfl)) rfl
theorem wd_895 : (.code ⟨"DrawingVaultModel", "about", "(II)I"⟩ prog_9_method_61_code 7 (Option.some .int) : Cond) ∈ aw := aw_in (tb_5 (List.mem_of_getElem? (i := 58) rfl)) rfl
theorem wd_896 : (.methodLink "DrawingVaultLaw" 141 ⟨"DrawingVaultModel", "about", "(II)I"⟩ : Cond) ∈ aw := aw_in (tb_5 (List.mem_of_getElem? (i := 55) rfl)) rfl
theorem wd_897 : (.instanceMethod ⟨"DrawingVaultModel", "about", "(II)I"⟩ : Cond) ∈ aw := aw_in (tb_5 (List.mem_of_getElem? (i := 56) rfl)) rfl
theorem wd_898 : (.selects "DrawingVaultModel" ⟨"DrawingVaultModel", "about", "(II)I"⟩ ⟨"DrawingVaultModel", "about", "(II)I"⟩ : Cond) ∈ aw := aw_in (tb_5 (List.mem_of_getElem? (i := 57) rfl)) rfl
theorem wd_899 : (.codeWith ⟨"DrawingVaultLaw", "inBaseline", "(LDrawingVault;III[J)I"⟩ method_19_code 6 (Option.some .int) [(0, 12, 15, 60)] : Cond) ∈ aw := aw_in (tb_3 (List.mem_of_getElem? (i := 239) rfl)) rfl
theorem wd_900 : (.methodLink "DrawingVaultLaw" 142 ⟨"DrawingVaultLaw", "inBaseline", "(LDrawingVault;III[J)I"⟩ : Cond) ∈ aw := aw_in (tb_3 (List.mem_of_getElem? (i := 237) rfl)) rfl
theorem wd_901 : (.static ⟨"DrawingVaultLaw", "inBaseline", "(LDrawingVault;III[J)I"⟩ : Cond) ∈ aw := aw_in (tb_3 (List.mem_of_getElem? (i := 238) rfl)) rfl
theorem wd_902 : (.code ⟨"DrawingVaultModel", "inBaseline", "(III)I"⟩ prog_9_method_62_code 9 (Option.some .int) : Cond) ∈ aw := aw_in (tb_5 (List.mem_of_getElem? (i := 62) rfl)) rfl
theorem wd_903 : (.methodLink "DrawingVaultLaw" 144 ⟨"DrawingVaultModel", "inBaseline", "(III)I"⟩ : Cond) ∈ aw := aw_in (tb_5 (List.mem_of_getElem? (i := 59) rfl)) rfl
theorem wd_904 : (.instanceMethod ⟨"DrawingVaultModel", "inBaseline", "(III)I"⟩ : Cond) ∈ aw := aw_in (tb_5 (List.mem_of_getElem? (i := 60) rfl)) rfl
theorem wd_905 : (.selects "DrawingVaultModel" ⟨"DrawingVaultModel", "inBaseline", "(III)I"⟩ ⟨"DrawingVaultModel", "inBaseline", "(III)I"⟩ : Cond) ∈ aw := aw_in (tb_5 (List.mem_of_getElem? (i := 61) rfl)) rfl
theorem wd_906 : (.code ⟨"DrawingVault", "user", "(IZI)I"⟩ prog_1_method_20_code 7 (Option.some .int) : Cond) ∈ aw := aw_in (tb_1 (List.mem_of_getElem? (i := 134) rfl)) rfl
theorem wd_907 : (.methodLink "DrawingVaultLaw" 145 ⟨"DrawingVault", "user", "(IZI)I"⟩ : Cond) ∈ aw := aw_in (tb_1 (List.mem_of_getElem? (i := 131) rfl)) rfl
theorem wd_908 : (.instanceMethod ⟨"DrawingVault", "user", "(IZI)I"⟩ : Cond) ∈ aw := aw_in (tb_1 (List.mem_of_getElem? (i := 132) rfl)) rfl
theorem wd_909 : (.selects "DrawingVault" ⟨"DrawingVault", "user", "(IZI)I"⟩ ⟨"DrawingVault", "user", "(IZI)I"⟩ : Cond) ∈ aw := aw_in (tb_1 (List.mem_of_getElem? (i := 133) rfl)) rfl
theorem wd_910 : (.code ⟨"DrawingVaultModel", "user", "(IZI)I"⟩ prog_9_method_63_code 9 (Option.some .int) : Cond) ∈ aw := aw_in (tb_5 (List.mem_of_getElem? (i := 66) rfl)) rfl
theorem wd_911 : (.methodLink "DrawingVaultLaw" 149 ⟨"DrawingVaultModel", "user", "(IZI)I"⟩ : Cond) ∈ aw := aw_in (tb_5 (List.mem_of_getElem? (i := 63) rfl)) rfl
theorem wd_912 : (.instanceMethod ⟨"DrawingVaultModel", "user", "(IZI)I"⟩ : Cond) ∈ aw := aw_in (tb_5 (List.mem_of_getElem? (i := 64) rfl)) rfl
theorem wd_913 : (.selects "DrawingVaultModel" ⟨"DrawingVaultModel", "user", "(IZI)I"⟩ ⟨"DrawingVaultModel", "user", "(IZI)I"⟩ : Cond) ∈ aw := aw_in (tb_5 (List.mem_of_getElem? (i := 65) rfl)) rfl
theorem wd_914 : (.codeWith ⟨"DrawingVaultLaw", "difference", "(LDrawingVault;IIII[J)I"⟩ method_20_code 7 (Option.some .int) [(0, 14, 17, 60)] : Cond) ∈ aw := aw_in (tb_4 (List.mem_of_getElem? (i := 10) rfl)) rfl
theorem wd_915 : (.methodLink "DrawingVaultLaw" 150 ⟨"DrawingVaultLaw", "difference", "(LDrawingVault;IIII[J)I"⟩ : Cond) ∈ aw := aw_in (tb_4 (List.mem_of_getElem? (i := 8) rfl)) rfl
theorem wd_916 : (.static ⟨"DrawingVaultLaw", "difference", "(LDrawingVault;IIII[J)I"⟩ : Cond) ∈ aw := aw_in (tb_4 (List.mem_of_getElem? (i := 9) rfl)) rfl
theorem wd_917 : (.code ⟨"DrawingVaultModel", "difference", "(IIII)I"⟩ prog_9_method_64_code 12 (Option.some .int) : Cond) ∈ aw := aw_in (tb_5 (List.mem_of_getElem? (i := 70) rfl)) rfl
theorem wd_918 : (.methodLink "DrawingVaultLaw" 152 ⟨"DrawingVaultModel", "difference", "(IIII)I"⟩ : Cond) ∈ aw := aw_in (tb_5 (List.mem_of_getElem? (i := 67) rfl)) rfl
theorem wd_919 : (.instanceMethod ⟨"DrawingVaultModel", "difference", "(IIII)I"⟩ : Cond) ∈ aw := aw_in (tb_5 (List.mem_of_getElem? (i := 68) rfl)) rfl
theorem wd_920 : (.selects "DrawingVaultModel" ⟨"DrawingVaultModel", "difference", "(IIII)I"⟩ ⟨"DrawingVaultModel", "difference", "(IIII)I"⟩ : Cond) ∈ aw := aw_in (tb_5 (List.mem_of_getElem? (i := 69) rfl)) rfl
theorem wd_921 : (.code ⟨"DrawingVault", "failAfter", "(I)Z"⟩ prog_1_method_22_code 2 (Option.some .boolean) : Cond) ∈ aw := aw_in (tb_1 (List.mem_of_getElem? (i := 170) rfl)) rfl
theorem wd_922 : (.methodLink "DrawingVaultLaw" 153 ⟨"DrawingVault", "failAfter", "(I)Z"⟩ : Cond) ∈ aw := aw_in (tb_1 (List.mem_of_getElem? (i := 167) rfl)) rfl
theorem wd_923 : (.instanceMethod ⟨"DrawingVault", "failAfter", "(I)Z"⟩ : Cond) ∈ aw := aw_in (tb_1 (List.mem_of_getElem? (i := 168) rfl)) rfl
theorem wd_924 : (.selects "DrawingVault" ⟨"DrawingVault", "failAfter", "(I)Z"⟩ ⟨"DrawingVault", "failAfter", "(I)Z"⟩ : Cond) ∈ aw := aw_in (tb_1 (List.mem_of_getElem? (i := 169) rfl)) rfl
theorem wd_925 : (.code ⟨"DrawingVaultModel", "failAfter", "(I)Z"⟩ prog_9_method_65_code 2 (Option.some .boolean) : Cond) ∈ aw := aw_in (tb_5 (List.mem_of_getElem? (i := 74) rfl)) rfl
theorem wd_926 : (.methodLink "DrawingVaultLaw" 157 ⟨"DrawingVaultModel", "failAfter", "(I)Z"⟩ : Cond) ∈ aw := aw_in (tb_5 (List.mem_of_getElem? (i := 71) rfl)) rfl
theorem wd_927 : (.instanceMethod ⟨"DrawingVaultModel", "failAfter", "(I)Z"⟩ : Cond) ∈ aw := aw_in (tb_5 (List.mem_of_getElem? (i := 72) rfl)) rfl
theorem wd_928 : (.selects "DrawingVaultModel" ⟨"DrawingVaultModel", "failAfter", "(I)Z"⟩ ⟨"DrawingVaultModel", "failAfter", "(I)Z"⟩ : Cond) ∈ aw := aw_in (tb_5 (List.mem_of_getElem? (i := 73) rfl)) rfl
theorem wd_929 : (.code ⟨"DrawingVault", "start", "()I"⟩ prog_1_method_23_code 2 (Option.some .int) : Cond) ∈ aw := aw_in (tb_1 (List.mem_of_getElem? (i := 178) rfl)) rfl
theorem wd_930 : (.methodLink "DrawingVaultLaw" 158 ⟨"DrawingVault", "start", "()I"⟩ : Cond) ∈ aw := aw_in (tb_1 (List.mem_of_getElem? (i := 175) rfl)) rfl
theorem wd_931 : (.instanceMethod ⟨"DrawingVault", "start", "()I"⟩ : Cond) ∈ aw := aw_in (tb_1 (List.mem_of_getElem? (i := 176) rfl)) rfl
theorem wd_932 : (.selects "DrawingVault" ⟨"DrawingVault", "start", "()I"⟩ ⟨"DrawingVault", "start", "()I"⟩ : Cond) ∈ aw := aw_in (tb_1 (List.mem_of_getElem? (i := 177) rfl)) rfl
theorem wd_933 : (.code ⟨"DrawingVaultModel", "start", "()I"⟩ prog_9_method_66_code 3 (Option.some .int) : Cond) ∈ aw := aw_in (tb_5 (List.mem_of_getElem? (i := 78) rfl)) rfl
theorem wd_934 : (.methodLink "DrawingVaultLaw" 161 ⟨"DrawingVaultModel", "start", "()I"⟩ : Cond) ∈ aw := aw_in (tb_5 (List.mem_of_getElem? (i := 75) rfl)) rfl
theorem wd_935 : (.instanceMethod ⟨"DrawingVaultModel", "start", "()I"⟩ : Cond) ∈ aw := aw_in (tb_5 (List.mem_of_getElem? (i := 76) rfl)) rfl
theorem wd_936 : (.selects "DrawingVaultModel" ⟨"DrawingVaultModel", "start", "()I"⟩ ⟨"DrawingVaultModel", "start", "()I"⟩ : Cond) ∈ aw := aw_in (tb_5 (List.mem_of_getElem? (i := 77) rfl)) rfl
theorem wd_937 : (.code ⟨"DrawingVault", "count", "(I)I"⟩ prog_1_method_24_code 2 (Option.some .int) : Cond) ∈ aw := aw_in (tb_1 (List.mem_of_getElem? (i := 197) rfl)) rfl
theorem wd_938 : (.methodLink "DrawingVaultLaw" 162 ⟨"DrawingVault", "count", "(I)I"⟩ : Cond) ∈ aw := aw_in (tb_1 (List.mem_of_getElem? (i := 194) rfl)) rfl
theorem wd_939 : (.instanceMethod ⟨"DrawingVault", "count", "(I)I"⟩ : Cond) ∈ aw := aw_in (tb_1 (List.mem_of_getElem? (i := 195) rfl)) rfl
theorem wd_940 : (.selects "DrawingVault" ⟨"DrawingVault", "count", "(I)I"⟩ ⟨"DrawingVault", "count", "(I)I"⟩ : Cond) ∈ aw := aw_in (tb_1 (List.mem_of_getElem? (i := 196) rfl)) rfl
theorem wd_941 : (.code ⟨"DrawingVaultModel", "count", "(I)I"⟩ prog_9_method_67_code 4 (Option.some .int) : Cond) ∈ aw := aw_in (tb_5 (List.mem_of_getElem? (i := 82) rfl)) rfl
theorem wd_942 : (.methodLink "DrawingVaultLaw" 165 ⟨"DrawingVaultModel", "count", "(I)I"⟩ : Cond) ∈ aw := aw_in (tb_5 (List.mem_of_getElem? (i := 79) rfl)) rfl
theorem wd_943 : (.instanceMethod ⟨"DrawingVaultModel", "count", "(I)I"⟩ : Cond) ∈ aw := aw_in (tb_5 (List.mem_of_getElem? (i := 80) rfl)) rfl
theorem wd_944 : (.selects "DrawingVaultModel" ⟨"DrawingVaultModel", "count", "(I)I"⟩ ⟨"DrawingVaultModel", "count", "(I)I"⟩ : Cond) ∈ aw := aw_in (tb_5 (List.mem_of_getElem? (i := 81) rfl)) rfl
def LC_16 (n : Nat) (σ : hT) (v1 v2 v3 v4 v5 : Int32) : Option (Int32 × hT) := Option.bind (L_about n σ v1 v2) fun ⟨y1, σ2⟩ => Option.bind (M_about n σ2 v1 v2) fun ⟨y4, σ5⟩ => some (1, σ5)
def LC_17 (n : Nat) (σ : hT) (v1 v2 v3 v4 v5 : Int32) : Option (Int32 × hT) := Option.bind (L_inBaseline n σ v1 v2 v3) fun ⟨y1, σ2⟩ => Option.bind (M_inBaseline n σ2 v1 v2 v3) fun ⟨y4, σ5⟩ => some (1, σ5)
def LC_18 (n : Nat) (σ : hT) (v1 v2 v3 v4 v5 : Int32) : Option (Int32 × hT) := lt9 (α := Int32 → Option (Int32 × hT)) (fun (s2 : Int32) => Option.bind (V_user n σ v1 s2 v3) fun y5 => lt9 (α := Int32 → Option (Int32 × hT)) (fun (s7 : Int32) => Option.bind (M_user n σ v1 s7 v3) fun ⟨y10, σ11⟩ => some (1, σ11)) fun x6 => if v2 = 0 then x6 0 else x6 1) fun x1 => if v2 = 0 then x1 0 else x1 1
def LC_19 (n : Nat) (σ : hT) (v1 v2 v3 v4 v5 : Int32) : Option (Int32 × hT) := Option.bind (L_difference n σ v1 v2 v3 v4) fun ⟨y1, σ2⟩ => Option.bind (M_difference n σ2 v1 v2 v3 v4) fun ⟨y4, σ5⟩ => some (1, σ5)
def LC_20 (n : Nat) (σ : hT) (v1 v2 v3 v4 v5 : Int32) : Option (Int32 × hT) := Option.bind (V_failAfter σ v1) fun ⟨y2, σ3⟩ => Option.bind (M_failAfter σ3 v1) fun ⟨y5, σ6⟩ => some (1, σ6)
def LC_21 (n : Nat) (σ : hT) (v1 v2 v3 v4 v5 : Int32) : Option (Int32 × hT) := Option.bind (V_start n σ) fun ⟨y2, σ3⟩ => Option.bind (M_start n σ3) fun ⟨y5, σ6⟩ => some (1, σ6)
def LC_22 (n : Nat) (σ : hT) (v1 v2 v3 v4 v5 : Int32) : Option (Int32 × hT) := Option.bind (V_count n σ v1) fun ⟨y2, σ3⟩ => Option.bind (M_count n σ3 v1) fun ⟨y5, σ6⟩ => some (1, σ6)
set_option maxHeartbeats 4000000 in
set_option maxRecDepth 100000 in
theorem lawc_16 {p : Program} {l : Launch} {e : Env} {s : State} {m : MethodId} {below : List Frame} {meth : Method} {c : Code} {b L : Nat} {xs : Nat → Int32} {A : Nat → Prop} {H : Heap} {locs : List Loc} {ls : Array Slot} {dC : Nat → ClassId} {dI : Nat → Nat → Nat} {Q : State → Prop} {kc ks : Nat} (hfl : l.stackTraces = false) (C : lawH p s m meth c b L xs A) (ad : Nat → Nat → Nat) (ca : Nat → Nat → ClassId) (dom : List (Nat × Nat)) (σ : hT) (i : Int32) (n : Nat) (v1 v2 v3 v4 v5 : Int32)
    (hv1 : vp_in (i + 1) L) (hv2 : vp_in (i + 2) L) (hv3 : vp_in (i + 3) L) (hv4 : vp_in (i + 4) L) (hv5 : vp_in (i + 5) L) (e1 : xs (i + 1).toNatClampNeg = v1) (e2 : xs (i + 2).toNatClampNeg = v2) (e3 : xs (i + 3).toNatClampNeg = v3) (e4 : xs (i + 4).toNatClampNeg = v4) (e5 : xs (i + 5).toNatClampNeg = v5)
    (hmV : (0, 0) ∈ dom) (hmM : (4, 0) ∈ dom) (hmO : (24, 0) ∈ dom) (hN : dom.Nodup) (hC : clo dom σ.2.2) (hP : va_P (dC, dI) kCl (w9 ad ca dom σ) H) (hD : va_D A (w9 ad ca dom σ)) (hK : hkt (dC, dI) ca dom s) (hS : va_S A s.heap H locs) (hl : lv_has ls 7 [(4, .int i), (3, .ref (ad 24 0)), (2, .ref (ad 4 0)), (1, .ref (ad 0 0)), (0, .ref b)]) (hkc : kc + 16 ≤ 601024) (hks : ks + 101 ≤ 7293033) (σ' : hT) (hf : LC_16 n σ v1 v2 v3 v4 v5 = some (1, σ'))
    (kk : ∀ (ad' : Nat → Nat → Nat) (ca' : Nat → Nat → ClassId) (dom' : List (Nat × Nat)) (H' : Heap) (locs' : List Loc) (ls' : Array Slot), dom' = dom → dom'.Nodup → clo dom' σ'.2.2 → va_P (dC, dI) kCl (w9 ad' ca' dom' σ') H' → va_D A (w9 ad' ca' dom' σ') → hkt (dC, dI) ca' dom' s → va_S A s.heap H' locs' → lv_has ls' 7 [(4, .int i), (3, .ref (ad' 24 0)), (2, .ref (ad' 4 0)), (1, .ref (ad' 0 0)), (0, .ref b)] → W p l e room_1 s m #[Value.ref b] below meth c H' locs' (kc + 16) (ks + 101) Q (F0 m 1224 ls' [])) :
    W p l e room_1 s m #[Value.ref b] below meth c H locs kc ks Q (F0 m 940 ls []) := by
  obtain ⟨hx, hb, hr, hml, hown, hts, hX, hbl, hbA, hlocks, hA, hA2, hG, hE0⟩ := C
  unfold LC_16 at hf
  refine lv_aload_n (pc := 940) hx hb dL_law_940 rfl (lv_at hl 3 rfl) ?_
  refine lv_aload_n (pc := 941) hx hb dL_law_941 rfl (lv_at hl 4 rfl) ?_
  refine lv_iload (pc := 942) hx hb dL_law_942 (lv_at hl 0 rfl) ?_
  refine lv_iconst (pc := 944) (v := 1) hx hb dL_law_944 (by decide) ?_
  refine lv_iadd (pc := 945) hx hb dL_law_945 ?_
  refine va_sld (A := A) (pc := 946) hx hb hX hbl hbA hS hv1 dL_law_946 ?_
  refine W.eq (g2 := F0 m 947 ls [.int v1, .ref (ad 0 0)]) (by rw [e1]) ?_
  refine lv_aload_n (pc := 947) hx hb dL_law_947 rfl (lv_at hl 4 rfl) ?_
  refine lv_iload (pc := 948) hx hb dL_law_948 (lv_at hl 0 rfl) ?_
  refine lv_iconst (pc := 950) (v := 2) hx hb dL_law_950 (by decide) ?_
  refine lv_iadd (pc := 951) hx hb dL_law_951 ?_
  refine va_sld (A := A) (pc := 952) hx hb hX hbl hbA hS hv2 dL_law_952 ?_
  refine W.eq (g2 := F0 m 953 ls [.int v2, .int v1, .ref (ad 0 0)]) (by rw [e2]) ?_
  refine lv_aload_n (pc := 953) hx hb dL_law_953 rfl (lv_at hl 1 rfl) ?_
  obtain ⟨⟨y1, σ2⟩, hy1, hf⟩ := ob hf
  have hE := xE.mono hE0 (fun q z => hA2 q (w9_xA hD z))
  have hSA : ∀ q : Nat, q < s.heap.size → A q → xS ad dom q := fun q h z => absurd (hA2 q z) (Nat.not_le.mpr h)
  have hFc := w9_free hD hS hA
  refine va_calli (pc := 954) (hxR (As := [.ref (ad 0 0), .int v1, .int v2, .ref (ad 24 0)]) (rest := []) ⟨hx, hb, hml, hown, hts⟩ (t_L_about l dC dI ad ca dom H.size n σ v1 v2 hmV hmO hN hC hfl y1 σ2 hy1) 4 wd_893 wd_894 wd_777 wd_892 rfl rfl ⟨Nat.le_of_ble_eq_true rfl, Nat.le_of_ble_eq_true rfl⟩ (by decide +kernel) ⟨hX_blind, hX_pre hP hK hD hG hE hS hSA⟩ rfl rfl hl.1 rfl (lv_room (Nat.le_of_ble_eq_true rfl)) dL_law_954 ⟨show kc + 0 + 1 ≤ 601024 by omega, show ks + 0 + 6 ≤ 7293033 by omega⟩) hS (fun q _ h => hFc q h) hFc (fun r9 u t H1 locs ht hvm hr9 hB hz1 hk1 hS => ?_)
  obtain ⟨hP, hD, hC⟩ := hB
  rw [ht] at hP
  replace hD := hD.weaken (fun _ _ _ h => hFc _ h)
  generalize H1 = H at hP hS ⊢
  refine W.widen (k := (kc + 1)) (n := (ks + 6)) (by omega) (by omega) ?_
  refine W.eq (g2 := F0 m 957 ls [.int y1]) (by rw [hr9]) ?_
  refine lv_istore (pc := 957) hx hb dL_law_957 hl (by decide) rfl (fun ls hl => ?_)
  have hl : lv_has ls 7 [(5, .int y1), (4, .int i), (3, .ref (ad 24 0)), (2, .ref (ad 4 0)), (1, .ref (ad 0 0)), (0, .ref b)] := hl
  refine lv_aload_n (pc := 959) hx hb dL_law_959 rfl (lv_at hl 3 rfl) ?_
  refine lv_aload_n (pc := 960) hx hb dL_law_960 rfl (lv_at hl 5 rfl) ?_
  refine lv_iload (pc := 961) hx hb dL_law_961 (lv_at hl 1 rfl) ?_
  refine lv_iconst (pc := 963) (v := 1) hx hb dL_law_963 (by decide) ?_
  refine lv_iadd (pc := 964) hx hb dL_law_964 ?_
  refine va_sld (A := A) (pc := 965) hx hb hX hbl hbA hS hv1 dL_law_965 ?_
  refine W.eq (g2 := F0 m 966 ls [.int v1, .ref (ad 4 0)]) (by rw [e1]) ?_
  refine lv_aload_n (pc := 966) hx hb dL_law_966 rfl (lv_at hl 5 rfl) ?_
  refine lv_iload (pc := 967) hx hb dL_law_967 (lv_at hl 1 rfl) ?_
  refine lv_iconst (pc := 969) (v := 2) hx hb dL_law_969 (by decide) ?_
  refine lv_iadd (pc := 970) hx hb dL_law_970 ?_
  refine va_sld (A := A) (pc := 971) hx hb hX hbl hbA hS hv2 dL_law_971 ?_
  refine W.eq (g2 := F0 m 972 ls [.int v2, .int v1, .ref (ad 4 0)]) (by rw [e2]) ?_
  obtain ⟨q3, hq3, eq3⟩ := at_4 (ad := ad) (ca := ca) (σ := σ2) hmM
  obtain ⟨⟨y4, σ5⟩, hy4, hf⟩ := ob hf
  have hFc := w9_free hD hS hA
  refine va_calli (pc := 972) (va_runV (As := [.int v1, .int v2]) (rest := []) ⟨hx, hb, hml, hown, hts⟩ (t_M_about l dC dI ad ca dom H.size n σ2 v1 v2 hmM hN hC y4 σ5 hy4) (cwV 2 hts (gV wd_896 wd_897 wd_898 wd_50 wd_895) rfl rfl rfl (by decide +kernel) ⟨Nat.le_of_ble_eq_true rfl, Nat.le_of_ble_eq_true rfl⟩) ⟨hW_blind, va_recv (q := (RM, TM, 11)) (q0 := q3) (ci := 4) hK.1 hP rfl eq3, hW_pre hP hK hD hG⟩ rfl rfl hl.1 rfl (lv_room (Nat.le_of_ble_eq_true rfl)) dL_law_972 ⟨show kc + 1 + 0 ≤ 601024 by omega, show ks + 6 + 0 ≤ 7293033 by omega⟩) hS (fun q _ h => hFc q h) hFc (fun r9 u t H1 locs ht hvm hr9 hB hz1 hk1 hS => ?_)
  obtain ⟨hP, hD, hC⟩ := hB
  rw [ht] at hP
  replace hD := hD.weaken (fun _ _ _ h => hFc _ h)
  generalize H1 = H at hP hS ⊢
  refine W.eq (g2 := F0 m 975 ls [.int y4]) (by rw [hr9]) ?_
  refine lv_istore (pc := 975) hx hb dL_law_975 hl (by decide) rfl (fun ls hl => ?_)
  have hl : lv_has ls 7 [(6, .int y4), (5, .int y1), (4, .int i), (3, .ref (ad 24 0)), (2, .ref (ad 4 0)), (1, .ref (ad 0 0)), (0, .ref b)] := hl
  refine lv_goto (pc := 977) (tgt := 1224) hx hb dL_law_977 rfl ?_
  obtain ⟨-, h9⟩ := Prod.mk.inj (Option.some.inj hf)
  subst h9
  have hl := lv_sub hl (l' := [(4, .int i), (3, .ref (ad 24 0)), (2, .ref (ad 4 0)), (1, .ref (ad 0 0)), (0, .ref b)]) [2, 3, 4, 5, 6] rfl
  refine W.widen (k := kc + 16) (n := ks + 101) (by omega) (by omega) ?_
  exact kk ad ca dom H _ ls rfl hN hC hP hD hK hS hl
set_option maxHeartbeats 4000000 in
set_option maxRecDepth 100000 in
theorem lawc_17 {p : Program} {l : Launch} {e : Env} {s : State} {m : MethodId} {below : List Frame} {meth : Method} {c : Code} {b L : Nat} {xs : Nat → Int32} {A : Nat → Prop} {H : Heap} {locs : List Loc} {ls : Array Slot} {dC : Nat → ClassId} {dI : Nat → Nat → Nat} {Q : State → Prop} {kc ks : Nat} (hfl : l.stackTraces = false) (C : lawH p s m meth c b L xs A) (ad : Nat → Nat → Nat) (ca : Nat → Nat → ClassId) (dom : List (Nat × Nat)) (σ : hT) (i : Int32) (n : Nat) (v1 v2 v3 v4 v5 : Int32)
    (hv1 : vp_in (i + 1) L) (hv2 : vp_in (i + 2) L) (hv3 : vp_in (i + 3) L) (hv4 : vp_in (i + 4) L) (hv5 : vp_in (i + 5) L) (e1 : xs (i + 1).toNatClampNeg = v1) (e2 : xs (i + 2).toNatClampNeg = v2) (e3 : xs (i + 3).toNatClampNeg = v3) (e4 : xs (i + 4).toNatClampNeg = v4) (e5 : xs (i + 5).toNatClampNeg = v5)
    (hmV : (0, 0) ∈ dom) (hmM : (4, 0) ∈ dom) (hmO : (24, 0) ∈ dom) (hN : dom.Nodup) (hC : clo dom σ.2.2) (hP : va_P (dC, dI) kCl (w9 ad ca dom σ) H) (hD : va_D A (w9 ad ca dom σ)) (hK : hkt (dC, dI) ca dom s) (hS : va_S A s.heap H locs) (hl : lv_has ls 7 [(4, .int i), (3, .ref (ad 24 0)), (2, .ref (ad 4 0)), (1, .ref (ad 0 0)), (0, .ref b)]) (hkc : kc + 16 ≤ 601024) (hks : ks + 101 ≤ 7293033) (σ' : hT) (hf : LC_17 n σ v1 v2 v3 v4 v5 = some (1, σ'))
    (kk : ∀ (ad' : Nat → Nat → Nat) (ca' : Nat → Nat → ClassId) (dom' : List (Nat × Nat)) (H' : Heap) (locs' : List Loc) (ls' : Array Slot), dom' = dom → dom'.Nodup → clo dom' σ'.2.2 → va_P (dC, dI) kCl (w9 ad' ca' dom' σ') H' → va_D A (w9 ad' ca' dom' σ') → hkt (dC, dI) ca' dom' s → va_S A s.heap H' locs' → lv_has ls' 7 [(4, .int i), (3, .ref (ad' 24 0)), (2, .ref (ad' 4 0)), (1, .ref (ad' 0 0)), (0, .ref b)] → W p l e room_1 s m #[Value.ref b] below meth c H' locs' (kc + 16) (ks + 101) Q (F0 m 1224 ls' [])) :
    W p l e room_1 s m #[Value.ref b] below meth c H locs kc ks Q (F0 m 980 ls []) := by
  obtain ⟨hx, hb, hr, hml, hown, hts, hX, hbl, hbA, hlocks, hA, hA2, hG, hE0⟩ := C
  unfold LC_17 at hf
  refine lv_aload_n (pc := 980) hx hb dL_law_980 rfl (lv_at hl 3 rfl) ?_
  refine lv_aload_n (pc := 981) hx hb dL_law_981 rfl (lv_at hl 4 rfl) ?_
  refine lv_iload (pc := 982) hx hb dL_law_982 (lv_at hl 0 rfl) ?_
  refine lv_iconst (pc := 984) (v := 1) hx hb dL_law_984 (by decide) ?_
  refine lv_iadd (pc := 985) hx hb dL_law_985 ?_
  refine va_sld (A := A) (pc := 986) hx hb hX hbl hbA hS hv1 dL_law_986 ?_
  refine W.eq (g2 := F0 m 987 ls [.int v1, .ref (ad 0 0)]) (by rw [e1]) ?_
  refine lv_aload_n (pc := 987) hx hb dL_law_987 rfl (lv_at hl 4 rfl) ?_
  refine lv_iload (pc := 988) hx hb dL_law_988 (lv_at hl 0 rfl) ?_
  refine lv_iconst (pc := 990) (v := 2) hx hb dL_law_990 (by decide) ?_
  refine lv_iadd (pc := 991) hx hb dL_law_991 ?_
  refine va_sld (A := A) (pc := 992) hx hb hX hbl hbA hS hv2 dL_law_992 ?_
  refine W.eq (g2 := F0 m 993 ls [.int v2, .int v1, .ref (ad 0 0)]) (by rw [e2]) ?_
  refine lv_aload_n (pc := 993) hx hb dL_law_993 rfl (lv_at hl 4 rfl) ?_
  refine lv_iload (pc := 994) hx hb dL_law_994 (lv_at hl 0 rfl) ?_
  refine lv_iconst (pc := 996) (v := 3) hx hb dL_law_996 (by decide) ?_
  refine lv_iadd (pc := 997) hx hb dL_law_997 ?_
  refine va_sld (A := A) (pc := 998) hx hb hX hbl hbA hS hv3 dL_law_998 ?_
  refine W.eq (g2 := F0 m 999 ls [.int v3, .int v2, .int v1, .ref (ad 0 0)]) (by rw [e3]) ?_
  refine lv_aload_n (pc := 999) hx hb dL_law_999 rfl (lv_at hl 1 rfl) ?_
  obtain ⟨⟨y1, σ2⟩, hy1, hf⟩ := ob hf
  have hE := xE.mono hE0 (fun q z => hA2 q (w9_xA hD z))
  have hSA : ∀ q : Nat, q < s.heap.size → A q → xS ad dom q := fun q h z => absurd (hA2 q z) (Nat.not_le.mpr h)
  have hFc := w9_free hD hS hA
  refine va_calli (pc := 1000) (hxR (As := [.ref (ad 0 0), .int v1, .int v2, .int v3, .ref (ad 24 0)]) (rest := []) ⟨hx, hb, hml, hown, hts⟩ (t_L_inBaseline l dC dI ad ca dom H.size n σ v1 v2 v3 hmV hmO hN hC hfl y1 σ2 hy1) 5 wd_900 wd_901 wd_777 wd_899 rfl rfl ⟨Nat.le_of_ble_eq_true rfl, Nat.le_of_ble_eq_true rfl⟩ (by decide +kernel) ⟨hX_blind, hX_pre hP hK hD hG hE hS hSA⟩ rfl rfl hl.1 rfl (lv_room (Nat.le_of_ble_eq_true rfl)) dL_law_1000 ⟨show kc + 0 + 1 ≤ 601024 by omega, show ks + 0 + 6 ≤ 7293033 by omega⟩) hS (fun q _ h => hFc q h) hFc (fun r9 u t H1 locs ht hvm hr9 hB hz1 hk1 hS => ?_)
  obtain ⟨hP, hD, hC⟩ := hB
  rw [ht] at hP
  replace hD := hD.weaken (fun _ _ _ h => hFc _ h)
  generalize H1 = H at hP hS ⊢
  refine W.widen (k := (kc + 1)) (n := (ks + 6)) (by omega) (by omega) ?_
  refine W.eq (g2 := F0 m 1003 ls [.int y1]) (by rw [hr9]) ?_
  refine lv_istore (pc := 1003) hx hb dL_law_1003 hl (by decide) rfl (fun ls hl => ?_)
  have hl : lv_has ls 7 [(5, .int y1), (4, .int i), (3, .ref (ad 24 0)), (2, .ref (ad 4 0)), (1, .ref (ad 0 0)), (0, .ref b)] := hl
  refine lv_aload_n (pc := 1005) hx hb dL_law_1005 rfl (lv_at hl 3 rfl) ?_
  refine lv_aload_n (pc := 1006) hx hb dL_law_1006 rfl (lv_at hl 5 rfl) ?_
  refine lv_iload (pc := 1007) hx hb dL_law_1007 (lv_at hl 1 rfl) ?_
  refine lv_iconst (pc := 1009) (v := 1) hx hb dL_law_1009 (by decide) ?_
  refine lv_iadd (pc := 1010) hx hb dL_law_1010 ?_
  refine va_sld (A := A) (pc := 1011) hx hb hX hbl hbA hS hv1 dL_law_1011 ?_
  refine W.eq (g2 := F0 m 1012 ls [.int v1, .ref (ad 4 0)]) (by rw [e1]) ?_
  refine lv_aload_n (pc := 1012) hx hb dL_law_1012 rfl (lv_at hl 5 rfl) ?_
  refine lv_iload (pc := 1013) hx hb dL_law_1013 (lv_at hl 1 rfl) ?_
  refine lv_iconst (pc := 1015) (v := 2) hx hb dL_law_1015 (by decide) ?_
  refine lv_iadd (pc := 1016) hx hb dL_law_1016 ?_
  refine va_sld (A := A) (pc := 1017) hx hb hX hbl hbA hS hv2 dL_law_1017 ?_
  refine W.eq (g2 := F0 m 1018 ls [.int v2, .int v1, .ref (ad 4 0)]) (by rw [e2]) ?_
  refine lv_aload_n (pc := 1018) hx hb dL_law_1018 rfl (lv_at hl 5 rfl) ?_
  refine lv_iload (pc := 1019) hx hb dL_law_1019 (lv_at hl 1 rfl) ?_
  refine lv_iconst (pc := 1021) (v := 3) hx hb dL_law_1021 (by decide) ?_
  refine lv_iadd (pc := 1022) hx hb dL_law_1022 ?_
  refine va_sld (A := A) (pc := 1023) hx hb hX hbl hbA hS hv3 dL_law_1023 ?_
  refine W.eq (g2 := F0 m 1024 ls [.int v3, .int v2, .int v1, .ref (ad 4 0)]) (by rw [e3]) ?_
  obtain ⟨q3, hq3, eq3⟩ := at_4 (ad := ad) (ca := ca) (σ := σ2) hmM
  obtain ⟨⟨y4, σ5⟩, hy4, hf⟩ := ob hf
  have hFc := w9_free hD hS hA
  refine va_calli (pc := 1024) (va_runV (As := [.int v1, .int v2, .int v3]) (rest := []) ⟨hx, hb, hml, hown, hts⟩ (t_M_inBaseline l dC dI ad ca dom H.size n σ2 v1 v2 v3 hmM hN hC y4 σ5 hy4) (cwV 3 hts (gV wd_903 wd_904 wd_905 wd_50 wd_902) rfl rfl rfl (by decide +kernel) ⟨Nat.le_of_ble_eq_true rfl, Nat.le_of_ble_eq_true rfl⟩) ⟨hW_blind, va_recv (q := (RM, TM, 11)) (q0 := q3) (ci := 4) hK.1 hP rfl eq3, hW_pre hP hK hD hG⟩ rfl rfl hl.1 rfl (lv_room (Nat.le_of_ble_eq_true rfl)) dL_law_1024 ⟨show kc + 1 + 0 ≤ 601024 by omega, show ks + 6 + 0 ≤ 7293033 by omega⟩) hS (fun q _ h => hFc q h) hFc (fun r9 u t H1 locs ht hvm hr9 hB hz1 hk1 hS => ?_)
  obtain ⟨hP, hD, hC⟩ := hB
  rw [ht] at hP
  replace hD := hD.weaken (fun _ _ _ h => hFc _ h)
  generalize H1 = H at hP hS ⊢
  refine W.eq (g2 := F0 m 1027 ls [.int y4]) (by rw [hr9]) ?_
  refine lv_istore (pc := 1027) hx hb dL_law_1027 hl (by decide) rfl (fun ls hl => ?_)
  have hl : lv_has ls 7 [(6, .int y4), (5, .int y1), (4, .int i), (3, .ref (ad 24 0)), (2, .ref (ad 4 0)), (1, .ref (ad 0 0)), (0, .ref b)] := hl
  refine lv_goto (pc := 1029) (tgt := 1224) hx hb dL_law_1029 rfl ?_
  obtain ⟨-, h9⟩ := Prod.mk.inj (Option.some.inj hf)
  subst h9
  have hl := lv_sub hl (l' := [(4, .int i), (3, .ref (ad 24 0)), (2, .ref (ad 4 0)), (1, .ref (ad 0 0)), (0, .ref b)]) [2, 3, 4, 5, 6] rfl
  refine W.widen (k := kc + 16) (n := ks + 101) (by omega) (by omega) ?_
  exact kk ad ca dom H _ ls rfl hN hC hP hD hK hS hl
set_option maxHeartbeats 4000000 in
set_option maxRecDepth 100000 in
theorem lawc_18 {p : Program} {l : Launch} {e : Env} {s : State} {m : MethodId} {below : List Frame} {meth : Method} {c : Code} {b L : Nat} {xs : Nat → Int32} {A : Nat → Prop} {H : Heap} {locs : List Loc} {ls : Array Slot} {dC : Nat → ClassId} {dI : Nat → Nat → Nat} {Q : State → Prop} {kc ks : Nat} (hfl : l.stackTraces = false) (C : lawH p s m meth c b L xs A) (ad : Nat → Nat → Nat) (ca : Nat → Nat → ClassId) (dom : List (Nat × Nat)) (σ : hT) (i : Int32) (n : Nat) (v1 v2 v3 v4 v5 : Int32)
    (hv1 : vp_in (i + 1) L) (hv2 : vp_in (i + 2) L) (hv3 : vp_in (i + 3) L) (hv4 : vp_in (i + 4) L) (hv5 : vp_in (i + 5) L) (e1 : xs (i + 1).toNatClampNeg = v1) (e2 : xs (i + 2).toNatClampNeg = v2) (e3 : xs (i + 3).toNatClampNeg = v3) (e4 : xs (i + 4).toNatClampNeg = v4) (e5 : xs (i + 5).toNatClampNeg = v5)
    (hmV : (0, 0) ∈ dom) (hmM : (4, 0) ∈ dom) (hmO : (24, 0) ∈ dom) (hN : dom.Nodup) (hC : clo dom σ.2.2) (hP : va_P (dC, dI) kCl (w9 ad ca dom σ) H) (hD : va_D A (w9 ad ca dom σ)) (hK : hkt (dC, dI) ca dom s) (hS : va_S A s.heap H locs) (hl : lv_has ls 7 [(4, .int i), (3, .ref (ad 24 0)), (2, .ref (ad 4 0)), (1, .ref (ad 0 0)), (0, .ref b)]) (hkc : kc + 16 ≤ 601024) (hks : ks + 101 ≤ 7293033) (σ' : hT) (hf : LC_18 n σ v1 v2 v3 v4 v5 = some (1, σ'))
    (kk : ∀ (ad' : Nat → Nat → Nat) (ca' : Nat → Nat → ClassId) (dom' : List (Nat × Nat)) (H' : Heap) (locs' : List Loc) (ls' : Array Slot), dom' = dom → dom'.Nodup → clo dom' σ'.2.2 → va_P (dC, dI) kCl (w9 ad' ca' dom' σ') H' → va_D A (w9 ad' ca' dom' σ') → hkt (dC, dI) ca' dom' s → va_S A s.heap H' locs' → lv_has ls' 7 [(4, .int i), (3, .ref (ad' 24 0)), (2, .ref (ad' 4 0)), (1, .ref (ad' 0 0)), (0, .ref b)] → W p l e room_1 s m #[Value.ref b] below meth c H' locs' (kc + 16) (ks + 101) Q (F0 m 1224 ls' [])) :
    W p l e room_1 s m #[Value.ref b] below meth c H locs kc ks Q (F0 m 1032 ls []) := by
  obtain ⟨hx, hb, hr, hml, hown, hts, hX, hbl, hbA, hlocks, hA, hA2, hG, hE0⟩ := C
  unfold LC_18 at hf
  refine lv_aload_n (pc := 1032) hx hb dL_law_1032 rfl (lv_at hl 3 rfl) ?_
  refine lv_aload_n (pc := 1033) hx hb dL_law_1033 rfl (lv_at hl 4 rfl) ?_
  refine lv_iload (pc := 1034) hx hb dL_law_1034 (lv_at hl 0 rfl) ?_
  refine lv_iconst (pc := 1036) (v := 1) hx hb dL_law_1036 (by decide) ?_
  refine lv_iadd (pc := 1037) hx hb dL_law_1037 ?_
  refine va_sld (A := A) (pc := 1038) hx hb hX hbl hbA hS hv1 dL_law_1038 ?_
  refine W.eq (g2 := F0 m 1039 ls [.int v1, .ref (ad 0 0)]) (by rw [e1]) ?_
  refine lv_aload_n (pc := 1039) hx hb dL_law_1039 rfl (lv_at hl 4 rfl) ?_
  refine lv_iload (pc := 1040) hx hb dL_law_1040 (lv_at hl 0 rfl) ?_
  refine lv_iconst (pc := 1042) (v := 2) hx hb dL_law_1042 (by decide) ?_
  refine lv_iadd (pc := 1043) hx hb dL_law_1043 ?_
  refine va_sld (A := A) (pc := 1044) hx hb hX hbl hbA hS hv2 dL_law_1044 ?_
  refine W.eq (g2 := F0 m 1045 ls [.int v2, .int v1, .ref (ad 0 0)]) (by rw [e2]) ?_
  obtain ⟨x1, hx1, hf⟩ := lt_9 hf
  refine jnF (τ := (Int32) × (Heap) × (List Loc) × (Array Slot)) (fun pc st z => W p l e _ s m _ below meth c z.2.1 z.2.2.1 (kc + 0) (ks + 0) _ (F0 m pc z.2.2.2 st)) (pc0 := 1045) (st0 := [.int v2, .int v1, .ref (ad 0 0)]) (z0 := (0, H, _, ls)) 1053 (fun z => [.int z.1, .int v1, .ref (ad 0 0)]) (fun z => va_P (dC, dI) kCl (w9 ad ca dom (σ)) z.2.1 ∧ va_D A (w9 ad ca dom (σ)) ∧ va_S A s.heap z.2.1 z.2.2.1 ∧ lv_has z.2.2.2 7 [(4, .int i), (3, .ref (ad 24 0)), (2, .ref (ad 4 0)), (1, .ref (ad 0 0)), (0, .ref b)]) (fun z => x1 z.1) (1, σ') ?_ ?_
  · intro hJx1
    dsimp only at hJx1 ⊢
    refine lv_if_eq (pc := 1045) (tgt := 1052) hx hb dL_law_1045 rfl (fun h3 => ?_) (fun h3 => ?_)
    · replace hf := ite_t h3 hf
      refine lv_iconst (pc := 1052) (v := 0) hx hb dL_law_1052 (by decide) ?_
      have hl := lv_sub hl (l' := [(4, .int i), (3, .ref (ad 24 0)), (2, .ref (ad 4 0)), (1, .ref (ad 0 0)), (0, .ref b)]) [0, 1, 2, 3, 4] rfl
      exact hJx1 (0, H, _, ls) ⟨hP, hD, hS, hl⟩ hf
    · replace hf := ite_f h3 hf
      refine lv_iconst (pc := 1048) (v := 1) hx hb dL_law_1048 (by decide) ?_
      refine lv_goto (pc := 1049) (tgt := 1053) hx hb dL_law_1049 rfl ?_
      have hl := lv_sub hl (l' := [(4, .int i), (3, .ref (ad 24 0)), (2, .ref (ad 4 0)), (1, .ref (ad 0 0)), (0, .ref b)]) [0, 1, 2, 3, 4] rfl
      exact hJx1 (1, H, _, ls) ⟨hP, hD, hS, hl⟩ hf
  · rintro ⟨s2, H, locs, ls⟩ ⟨hP, hD, hS, hl⟩ hf
    dsimp only at hP hD hS hl hf ⊢
    rw [hx1] at hf
    have hl : lv_has ls 7 [(4, .int i), (3, .ref (ad 24 0)), (2, .ref (ad 4 0)), (1, .ref (ad 0 0)), (0, .ref b)] := hl
    refine lv_aload_n (pc := 1053) hx hb dL_law_1053 rfl (lv_at hl 4 rfl) ?_
    refine lv_iload (pc := 1054) hx hb dL_law_1054 (lv_at hl 0 rfl) ?_
    refine lv_iconst (pc := 1056) (v := 3) hx hb dL_law_1056 (by decide) ?_
    refine lv_iadd (pc := 1057) hx hb dL_law_1057 ?_
    refine va_sld (A := A) (pc := 1058) hx hb hX hbl hbA hS hv3 dL_law_1058 ?_
    refine W.eq (g2 := F0 m 1059 ls [.int v3, .int s2, .int v1, .ref (ad 0 0)]) (by rw [e3]) ?_
    obtain ⟨q4, hq4, eq4⟩ := at_0 (ad := ad) (ca := ca) (σ := σ) hmV
    obtain ⟨y5, hy5, hf⟩ := ob hf
    refine vp_callSi (pc := 1059) (W.runV (As := [.int v1, .int s2, .int v3]) (rest := []) ⟨hx, hb, hml, hown, hts⟩ (t_V_user l dC dI ad ca dom n σ v1 s2 v3 hmV hN hC y5 hy5) (cwV 3 hts (gV wd_907 wd_908 wd_909 wd_254 wd_906) rfl rfl rfl (by decide +kernel) ⟨Nat.le_of_ble_eq_true rfl, Nat.le_of_ble_eq_true rfl⟩) ⟨hR_blind, va_recv (q := (RV, TV, 9)) (q0 := q4) (ci := 0) hK.1 hP rfl eq4, hR_pre hP hK hG⟩ rfl rfl hl.1 rfl (lv_room (Nat.le_of_ble_eq_true rfl)) dL_law_1059 ⟨show kc + 0 + 0 ≤ 601024 by omega, show ks + 0 + 0 ≤ 7293033 by omega⟩) (fun r9 hr9 => ?_)
    refine W.eq (g2 := F0 m 1062 ls [.int y5]) (by rw [hr9]) ?_
    refine lv_pop (pc := 1062) hx hb dL_law_1062 rfl ?_
    refine lv_aload_n (pc := 1063) hx hb dL_law_1063 rfl (lv_at hl 2 rfl) ?_
    refine lv_aload_n (pc := 1064) hx hb dL_law_1064 rfl (lv_at hl 4 rfl) ?_
    refine lv_iload (pc := 1065) hx hb dL_law_1065 (lv_at hl 0 rfl) ?_
    refine lv_iconst (pc := 1067) (v := 1) hx hb dL_law_1067 (by decide) ?_
    refine lv_iadd (pc := 1068) hx hb dL_law_1068 ?_
    refine va_sld (A := A) (pc := 1069) hx hb hX hbl hbA hS hv1 dL_law_1069 ?_
    refine W.eq (g2 := F0 m 1070 ls [.int v1, .ref (ad 4 0)]) (by rw [e1]) ?_
    refine lv_aload_n (pc := 1070) hx hb dL_law_1070 rfl (lv_at hl 4 rfl) ?_
    refine lv_iload (pc := 1071) hx hb dL_law_1071 (lv_at hl 0 rfl) ?_
    refine lv_iconst (pc := 1073) (v := 2) hx hb dL_law_1073 (by decide) ?_
    refine lv_iadd (pc := 1074) hx hb dL_law_1074 ?_
    refine va_sld (A := A) (pc := 1075) hx hb hX hbl hbA hS hv2 dL_law_1075 ?_
    refine W.eq (g2 := F0 m 1076 ls [.int v2, .int v1, .ref (ad 4 0)]) (by rw [e2]) ?_
    obtain ⟨x6, hx6, hf⟩ := lt_9 hf
    refine jnF (τ := (Int32) × (Heap) × (List Loc) × (Array Slot)) (fun pc st z => W p l e _ s m _ below meth c z.2.1 z.2.2.1 (kc + 0) (ks + 0) _ (F0 m pc z.2.2.2 st)) (pc0 := 1076) (st0 := [.int v2, .int v1, .ref (ad 4 0)]) (z0 := (0, H, _, ls)) 1084 (fun z => [.int z.1, .int v1, .ref (ad 4 0)]) (fun z => va_P (dC, dI) kCl (w9 ad ca dom (σ)) z.2.1 ∧ va_D A (w9 ad ca dom (σ)) ∧ va_S A s.heap z.2.1 z.2.2.1 ∧ lv_has z.2.2.2 7 [(4, .int i), (3, .ref (ad 24 0)), (2, .ref (ad 4 0)), (1, .ref (ad 0 0)), (0, .ref b)]) (fun z => x6 z.1) (1, σ') ?_ ?_
    · intro hJx6
      dsimp only at hJx6 ⊢
      refine lv_if_eq (pc := 1076) (tgt := 1083) hx hb dL_law_1076 rfl (fun h8 => ?_) (fun h8 => ?_)
      · replace hf := ite_t h8 hf
        refine lv_iconst (pc := 1083) (v := 0) hx hb dL_law_1083 (by decide) ?_
        have hl := lv_sub hl (l' := [(4, .int i), (3, .ref (ad 24 0)), (2, .ref (ad 4 0)), (1, .ref (ad 0 0)), (0, .ref b)]) [0, 1, 2, 3, 4] rfl
        exact hJx6 (0, H, _, ls) ⟨hP, hD, hS, hl⟩ hf
      · replace hf := ite_f h8 hf
        refine lv_iconst (pc := 1079) (v := 1) hx hb dL_law_1079 (by decide) ?_
        refine lv_goto (pc := 1080) (tgt := 1084) hx hb dL_law_1080 rfl ?_
        have hl := lv_sub hl (l' := [(4, .int i), (3, .ref (ad 24 0)), (2, .ref (ad 4 0)), (1, .ref (ad 0 0)), (0, .ref b)]) [0, 1, 2, 3, 4] rfl
        exact hJx6 (1, H, _, ls) ⟨hP, hD, hS, hl⟩ hf
    · rintro ⟨s7, H, locs, ls⟩ ⟨hP, hD, hS, hl⟩ hf
      dsimp only at hP hD hS hl hf ⊢
      rw [hx6] at hf
      have hl : lv_has ls 7 [(4, .int i), (3, .ref (ad 24 0)), (2, .ref (ad 4 0)), (1, .ref (ad 0 0)), (0, .ref b)] := hl
      refine lv_aload_n (pc := 1084) hx hb dL_law_1084 rfl (lv_at hl 4 rfl) ?_
      refine lv_iload (pc := 1085) hx hb dL_law_1085 (lv_at hl 0 rfl) ?_
      refine lv_iconst (pc := 1087) (v := 3) hx hb dL_law_1087 (by decide) ?_
      refine lv_iadd (pc := 1088) hx hb dL_law_1088 ?_
      refine va_sld (A := A) (pc := 1089) hx hb hX hbl hbA hS hv3 dL_law_1089 ?_
      refine W.eq (g2 := F0 m 1090 ls [.int v3, .int s7, .int v1, .ref (ad 4 0)]) (by rw [e3]) ?_
      obtain ⟨q9, hq9, eq9⟩ := at_4 (ad := ad) (ca := ca) (σ := σ) hmM
      obtain ⟨⟨y10, σ11⟩, hy10, hf⟩ := ob hf
      have hFc := w9_free hD hS hA
      refine va_calli (pc := 1090) (va_runV (As := [.int v1, .int s7, .int v3]) (rest := []) ⟨hx, hb, hml, hown, hts⟩ (t_M_user l dC dI ad ca dom H.size n σ v1 s7 v3 hmM hN hC y10 σ11 hy10) (cwV 3 hts (gV wd_911 wd_912 wd_913 wd_50 wd_910) rfl rfl rfl (by decide +kernel) ⟨Nat.le_of_ble_eq_true rfl, Nat.le_of_ble_eq_true rfl⟩) ⟨hW_blind, va_recv (q := (RM, TM, 11)) (q0 := q9) (ci := 4) hK.1 hP rfl eq9, hW_pre hP hK hD hG⟩ rfl rfl hl.1 rfl (lv_room (Nat.le_of_ble_eq_true rfl)) dL_law_1090 ⟨show kc + 0 + 0 ≤ 601024 by omega, show ks + 0 + 0 ≤ 7293033 by omega⟩) hS (fun q _ h => hFc q h) hFc (fun r9 u t H1 locs ht hvm hr9 hB hz1 hk1 hS => ?_)
      obtain ⟨hP, hD, hC⟩ := hB
      rw [ht] at hP
      replace hD := hD.weaken (fun _ _ _ h => hFc _ h)
      generalize H1 = H at hP hS ⊢
      refine W.eq (g2 := F0 m 1093 ls [.int y10]) (by rw [hr9]) ?_
      refine lv_pop (pc := 1093) hx hb dL_law_1093 rfl ?_
      refine lv_goto (pc := 1094) (tgt := 1224) hx hb dL_law_1094 rfl ?_
      obtain ⟨-, h9⟩ := Prod.mk.inj (Option.some.inj hf)
      subst h9
      have hl := lv_sub hl (l' := [(4, .int i), (3, .ref (ad 24 0)), (2, .ref (ad 4 0)), (1, .ref (ad 0 0)), (0, .ref b)]) [0, 1, 2, 3, 4] rfl
      refine W.widen (k := kc + 16) (n := ks + 101) (by omega) (by omega) ?_
      exact kk ad ca dom H _ ls rfl hN hC hP hD hK hS hl
set_option maxHeartbeats 4000000 in
set_option maxRecDepth 100000 in
theorem lawc_19 {p : Program} {l : Launch} {e : Env} {s : State} {m : MethodId} {below : List Frame} {meth : Method} {c : Code} {b L : Nat} {xs : Nat → Int32} {A : Nat → Prop} {H : Heap} {locs : List Loc} {ls : Array Slot} {dC : Nat → ClassId} {dI : Nat → Nat → Nat} {Q : State → Prop} {kc ks : Nat} (hfl : l.stackTraces = false) (C : lawH p s m meth c b L xs A) (ad : Nat → Nat → Nat) (ca : Nat → Nat → ClassId) (dom : List (Nat × Nat)) (σ : hT) (i : Int32) (n : Nat) (v1 v2 v3 v4 v5 : Int32)
    (hv1 : vp_in (i + 1) L) (hv2 : vp_in (i + 2) L) (hv3 : vp_in (i + 3) L) (hv4 : vp_in (i + 4) L) (hv5 : vp_in (i + 5) L) (e1 : xs (i + 1).toNatClampNeg = v1) (e2 : xs (i + 2).toNatClampNeg = v2) (e3 : xs (i + 3).toNatClampNeg = v3) (e4 : xs (i + 4).toNatClampNeg = v4) (e5 : xs (i + 5).toNatClampNeg = v5)
    (hmV : (0, 0) ∈ dom) (hmM : (4, 0) ∈ dom) (hmO : (24, 0) ∈ dom) (hN : dom.Nodup) (hC : clo dom σ.2.2) (hP : va_P (dC, dI) kCl (w9 ad ca dom σ) H) (hD : va_D A (w9 ad ca dom σ)) (hK : hkt (dC, dI) ca dom s) (hS : va_S A s.heap H locs) (hl : lv_has ls 7 [(4, .int i), (3, .ref (ad 24 0)), (2, .ref (ad 4 0)), (1, .ref (ad 0 0)), (0, .ref b)]) (hkc : kc + 16 ≤ 601024) (hks : ks + 101 ≤ 7293033) (σ' : hT) (hf : LC_19 n σ v1 v2 v3 v4 v5 = some (1, σ'))
    (kk : ∀ (ad' : Nat → Nat → Nat) (ca' : Nat → Nat → ClassId) (dom' : List (Nat × Nat)) (H' : Heap) (locs' : List Loc) (ls' : Array Slot), dom' = dom → dom'.Nodup → clo dom' σ'.2.2 → va_P (dC, dI) kCl (w9 ad' ca' dom' σ') H' → va_D A (w9 ad' ca' dom' σ') → hkt (dC, dI) ca' dom' s → va_S A s.heap H' locs' → lv_has ls' 7 [(4, .int i), (3, .ref (ad' 24 0)), (2, .ref (ad' 4 0)), (1, .ref (ad' 0 0)), (0, .ref b)] → W p l e room_1 s m #[Value.ref b] below meth c H' locs' (kc + 16) (ks + 101) Q (F0 m 1224 ls' [])) :
    W p l e room_1 s m #[Value.ref b] below meth c H locs kc ks Q (F0 m 1097 ls []) := by
  obtain ⟨hx, hb, hr, hml, hown, hts, hX, hbl, hbA, hlocks, hA, hA2, hG, hE0⟩ := C
  unfold LC_19 at hf
  refine lv_aload_n (pc := 1097) hx hb dL_law_1097 rfl (lv_at hl 3 rfl) ?_
  refine lv_aload_n (pc := 1098) hx hb dL_law_1098 rfl (lv_at hl 4 rfl) ?_
  refine lv_iload (pc := 1099) hx hb dL_law_1099 (lv_at hl 0 rfl) ?_
  refine lv_iconst (pc := 1101) (v := 1) hx hb dL_law_1101 (by decide) ?_
  refine lv_iadd (pc := 1102) hx hb dL_law_1102 ?_
  refine va_sld (A := A) (pc := 1103) hx hb hX hbl hbA hS hv1 dL_law_1103 ?_
  refine W.eq (g2 := F0 m 1104 ls [.int v1, .ref (ad 0 0)]) (by rw [e1]) ?_
  refine lv_aload_n (pc := 1104) hx hb dL_law_1104 rfl (lv_at hl 4 rfl) ?_
  refine lv_iload (pc := 1105) hx hb dL_law_1105 (lv_at hl 0 rfl) ?_
  refine lv_iconst (pc := 1107) (v := 2) hx hb dL_law_1107 (by decide) ?_
  refine lv_iadd (pc := 1108) hx hb dL_law_1108 ?_
  refine va_sld (A := A) (pc := 1109) hx hb hX hbl hbA hS hv2 dL_law_1109 ?_
  refine W.eq (g2 := F0 m 1110 ls [.int v2, .int v1, .ref (ad 0 0)]) (by rw [e2]) ?_
  refine lv_aload_n (pc := 1110) hx hb dL_law_1110 rfl (lv_at hl 4 rfl) ?_
  refine lv_iload (pc := 1111) hx hb dL_law_1111 (lv_at hl 0 rfl) ?_
  refine lv_iconst (pc := 1113) (v := 3) hx hb dL_law_1113 (by decide) ?_
  refine lv_iadd (pc := 1114) hx hb dL_law_1114 ?_
  refine va_sld (A := A) (pc := 1115) hx hb hX hbl hbA hS hv3 dL_law_1115 ?_
  refine W.eq (g2 := F0 m 1116 ls [.int v3, .int v2, .int v1, .ref (ad 0 0)]) (by rw [e3]) ?_
  refine lv_aload_n (pc := 1116) hx hb dL_law_1116 rfl (lv_at hl 4 rfl) ?_
  refine lv_iload (pc := 1117) hx hb dL_law_1117 (lv_at hl 0 rfl) ?_
  refine lv_iconst (pc := 1119) (v := 4) hx hb dL_law_1119 (by decide) ?_
  refine lv_iadd (pc := 1120) hx hb dL_law_1120 ?_
  refine va_sld (A := A) (pc := 1121) hx hb hX hbl hbA hS hv4 dL_law_1121 ?_
  refine W.eq (g2 := F0 m 1122 ls [.int v4, .int v3, .int v2, .int v1, .ref (ad 0 0)]) (by rw [e4]) ?_
  refine lv_aload_n (pc := 1122) hx hb dL_law_1122 rfl (lv_at hl 1 rfl) ?_
  obtain ⟨⟨y1, σ2⟩, hy1, hf⟩ := ob hf
  have hE := xE.mono hE0 (fun q z => hA2 q (w9_xA hD z))
  have hSA : ∀ q : Nat, q < s.heap.size → A q → xS ad dom q := fun q h z => absurd (hA2 q z) (Nat.not_le.mpr h)
  have hFc := w9_free hD hS hA
  refine va_calli (pc := 1123) (hxR (As := [.ref (ad 0 0), .int v1, .int v2, .int v3, .int v4, .ref (ad 24 0)]) (rest := []) ⟨hx, hb, hml, hown, hts⟩ (t_L_difference l dC dI ad ca dom H.size n σ v1 v2 v3 v4 hmV hmO hN hC hfl y1 σ2 hy1) 6 wd_915 wd_916 wd_777 wd_914 rfl rfl ⟨Nat.le_of_ble_eq_true rfl, Nat.le_of_ble_eq_true rfl⟩ (by decide +kernel) ⟨hX_blind, hX_pre hP hK hD hG hE hS hSA⟩ rfl rfl hl.1 rfl (lv_room (Nat.le_of_ble_eq_true rfl)) dL_law_1123 ⟨show kc + 0 + 1 ≤ 601024 by omega, show ks + 0 + 6 ≤ 7293033 by omega⟩) hS (fun q _ h => hFc q h) hFc (fun r9 u t H1 locs ht hvm hr9 hB hz1 hk1 hS => ?_)
  obtain ⟨hP, hD, hC⟩ := hB
  rw [ht] at hP
  replace hD := hD.weaken (fun _ _ _ h => hFc _ h)
  generalize H1 = H at hP hS ⊢
  refine W.widen (k := (kc + 1)) (n := (ks + 6)) (by omega) (by omega) ?_
  refine W.eq (g2 := F0 m 1126 ls [.int y1]) (by rw [hr9]) ?_
  refine lv_istore (pc := 1126) hx hb dL_law_1126 hl (by decide) rfl (fun ls hl => ?_)
  have hl : lv_has ls 7 [(5, .int y1), (4, .int i), (3, .ref (ad 24 0)), (2, .ref (ad 4 0)), (1, .ref (ad 0 0)), (0, .ref b)] := hl
  refine lv_aload_n (pc := 1128) hx hb dL_law_1128 rfl (lv_at hl 3 rfl) ?_
  refine lv_aload_n (pc := 1129) hx hb dL_law_1129 rfl (lv_at hl 5 rfl) ?_
  refine lv_iload (pc := 1130) hx hb dL_law_1130 (lv_at hl 1 rfl) ?_
  refine lv_iconst (pc := 1132) (v := 1) hx hb dL_law_1132 (by decide) ?_
  refine lv_iadd (pc := 1133) hx hb dL_law_1133 ?_
  refine va_sld (A := A) (pc := 1134) hx hb hX hbl hbA hS hv1 dL_law_1134 ?_
  refine W.eq (g2 := F0 m 1135 ls [.int v1, .ref (ad 4 0)]) (by rw [e1]) ?_
  refine lv_aload_n (pc := 1135) hx hb dL_law_1135 rfl (lv_at hl 5 rfl) ?_
  refine lv_iload (pc := 1136) hx hb dL_law_1136 (lv_at hl 1 rfl) ?_
  refine lv_iconst (pc := 1138) (v := 2) hx hb dL_law_1138 (by decide) ?_
  refine lv_iadd (pc := 1139) hx hb dL_law_1139 ?_
  refine va_sld (A := A) (pc := 1140) hx hb hX hbl hbA hS hv2 dL_law_1140 ?_
  refine W.eq (g2 := F0 m 1141 ls [.int v2, .int v1, .ref (ad 4 0)]) (by rw [e2]) ?_
  refine lv_aload_n (pc := 1141) hx hb dL_law_1141 rfl (lv_at hl 5 rfl) ?_
  refine lv_iload (pc := 1142) hx hb dL_law_1142 (lv_at hl 1 rfl) ?_
  refine lv_iconst (pc := 1144) (v := 3) hx hb dL_law_1144 (by decide) ?_
  refine lv_iadd (pc := 1145) hx hb dL_law_1145 ?_
  refine va_sld (A := A) (pc := 1146) hx hb hX hbl hbA hS hv3 dL_law_1146 ?_
  refine W.eq (g2 := F0 m 1147 ls [.int v3, .int v2, .int v1, .ref (ad 4 0)]) (by rw [e3]) ?_
  refine lv_aload_n (pc := 1147) hx hb dL_law_1147 rfl (lv_at hl 5 rfl) ?_
  refine lv_iload (pc := 1148) hx hb dL_law_1148 (lv_at hl 1 rfl) ?_
  refine lv_iconst (pc := 1150) (v := 4) hx hb dL_law_1150 (by decide) ?_
  refine lv_iadd (pc := 1151) hx hb dL_law_1151 ?_
  refine va_sld (A := A) (pc := 1152) hx hb hX hbl hbA hS hv4 dL_law_1152 ?_
  refine W.eq (g2 := F0 m 1153 ls [.int v4, .int v3, .int v2, .int v1, .ref (ad 4 0)]) (by rw [e4]) ?_
  obtain ⟨q3, hq3, eq3⟩ := at_4 (ad := ad) (ca := ca) (σ := σ2) hmM
  obtain ⟨⟨y4, σ5⟩, hy4, hf⟩ := ob hf
  have hFc := w9_free hD hS hA
  refine va_calli (pc := 1153) (va_runV (As := [.int v1, .int v2, .int v3, .int v4]) (rest := []) ⟨hx, hb, hml, hown, hts⟩ (t_M_difference l dC dI ad ca dom H.size n σ2 v1 v2 v3 v4 hmM hN hC y4 σ5 hy4) (cwV 4 hts (gV wd_918 wd_919 wd_920 wd_50 wd_917) rfl rfl rfl (by decide +kernel) ⟨Nat.le_of_ble_eq_true rfl, Nat.le_of_ble_eq_true rfl⟩) ⟨hW_blind, va_recv (q := (RM, TM, 11)) (q0 := q3) (ci := 4) hK.1 hP rfl eq3, hW_pre hP hK hD hG⟩ rfl rfl hl.1 rfl (lv_room (Nat.le_of_ble_eq_true rfl)) dL_law_1153 ⟨show kc + 1 + 0 ≤ 601024 by omega, show ks + 6 + 0 ≤ 7293033 by omega⟩) hS (fun q _ h => hFc q h) hFc (fun r9 u t H1 locs ht hvm hr9 hB hz1 hk1 hS => ?_)
  obtain ⟨hP, hD, hC⟩ := hB
  rw [ht] at hP
  replace hD := hD.weaken (fun _ _ _ h => hFc _ h)
  generalize H1 = H at hP hS ⊢
  refine W.eq (g2 := F0 m 1156 ls [.int y4]) (by rw [hr9]) ?_
  refine lv_istore (pc := 1156) hx hb dL_law_1156 hl (by decide) rfl (fun ls hl => ?_)
  have hl : lv_has ls 7 [(6, .int y4), (5, .int y1), (4, .int i), (3, .ref (ad 24 0)), (2, .ref (ad 4 0)), (1, .ref (ad 0 0)), (0, .ref b)] := hl
  refine lv_goto (pc := 1158) (tgt := 1224) hx hb dL_law_1158 rfl ?_
  obtain ⟨-, h9⟩ := Prod.mk.inj (Option.some.inj hf)
  subst h9
  have hl := lv_sub hl (l' := [(4, .int i), (3, .ref (ad 24 0)), (2, .ref (ad 4 0)), (1, .ref (ad 0 0)), (0, .ref b)]) [2, 3, 4, 5, 6] rfl
  refine W.widen (k := kc + 16) (n := ks + 101) (by omega) (by omega) ?_
  exact kk ad ca dom H _ ls rfl hN hC hP hD hK hS hl
set_option maxHeartbeats 4000000 in
set_option maxRecDepth 100000 in
theorem lawc_20 {p : Program} {l : Launch} {e : Env} {s : State} {m : MethodId} {below : List Frame} {meth : Method} {c : Code} {b L : Nat} {xs : Nat → Int32} {A : Nat → Prop} {H : Heap} {locs : List Loc} {ls : Array Slot} {dC : Nat → ClassId} {dI : Nat → Nat → Nat} {Q : State → Prop} {kc ks : Nat} (hfl : l.stackTraces = false) (C : lawH p s m meth c b L xs A) (ad : Nat → Nat → Nat) (ca : Nat → Nat → ClassId) (dom : List (Nat × Nat)) (σ : hT) (i : Int32) (n : Nat) (v1 v2 v3 v4 v5 : Int32)
    (hv1 : vp_in (i + 1) L) (hv2 : vp_in (i + 2) L) (hv3 : vp_in (i + 3) L) (hv4 : vp_in (i + 4) L) (hv5 : vp_in (i + 5) L) (e1 : xs (i + 1).toNatClampNeg = v1) (e2 : xs (i + 2).toNatClampNeg = v2) (e3 : xs (i + 3).toNatClampNeg = v3) (e4 : xs (i + 4).toNatClampNeg = v4) (e5 : xs (i + 5).toNatClampNeg = v5)
    (hmV : (0, 0) ∈ dom) (hmM : (4, 0) ∈ dom) (hmO : (24, 0) ∈ dom) (hN : dom.Nodup) (hC : clo dom σ.2.2) (hP : va_P (dC, dI) kCl (w9 ad ca dom σ) H) (hD : va_D A (w9 ad ca dom σ)) (hK : hkt (dC, dI) ca dom s) (hS : va_S A s.heap H locs) (hl : lv_has ls 7 [(4, .int i), (3, .ref (ad 24 0)), (2, .ref (ad 4 0)), (1, .ref (ad 0 0)), (0, .ref b)]) (hkc : kc + 16 ≤ 601024) (hks : ks + 101 ≤ 7293033) (σ' : hT) (hf : LC_20 n σ v1 v2 v3 v4 v5 = some (1, σ'))
    (kk : ∀ (ad' : Nat → Nat → Nat) (ca' : Nat → Nat → ClassId) (dom' : List (Nat × Nat)) (H' : Heap) (locs' : List Loc) (ls' : Array Slot), dom' = dom → dom'.Nodup → clo dom' σ'.2.2 → va_P (dC, dI) kCl (w9 ad' ca' dom' σ') H' → va_D A (w9 ad' ca' dom' σ') → hkt (dC, dI) ca' dom' s → va_S A s.heap H' locs' → lv_has ls' 7 [(4, .int i), (3, .ref (ad' 24 0)), (2, .ref (ad' 4 0)), (1, .ref (ad' 0 0)), (0, .ref b)] → W p l e room_1 s m #[Value.ref b] below meth c H' locs' (kc + 16) (ks + 101) Q (F0 m 1224 ls' [])) :
    W p l e room_1 s m #[Value.ref b] below meth c H locs kc ks Q (F0 m 1161 ls []) := by
  obtain ⟨hx, hb, hr, hml, hown, hts, hX, hbl, hbA, hlocks, hA, hA2, hG, hE0⟩ := C
  unfold LC_20 at hf
  refine lv_aload_n (pc := 1161) hx hb dL_law_1161 rfl (lv_at hl 3 rfl) ?_
  refine lv_aload_n (pc := 1162) hx hb dL_law_1162 rfl (lv_at hl 4 rfl) ?_
  refine lv_iload (pc := 1163) hx hb dL_law_1163 (lv_at hl 0 rfl) ?_
  refine lv_iconst (pc := 1165) (v := 1) hx hb dL_law_1165 (by decide) ?_
  refine lv_iadd (pc := 1166) hx hb dL_law_1166 ?_
  refine va_sld (A := A) (pc := 1167) hx hb hX hbl hbA hS hv1 dL_law_1167 ?_
  refine W.eq (g2 := F0 m 1168 ls [.int v1, .ref (ad 0 0)]) (by rw [e1]) ?_
  obtain ⟨q1, hq1, eq1⟩ := at_0 (ad := ad) (ca := ca) (σ := σ) hmV
  obtain ⟨⟨y2, σ3⟩, hy2, hf⟩ := ob hf
  have hFc := w9_free hD hS hA
  refine va_calli (pc := 1168) (va_runV (As := [.int v1]) (rest := []) ⟨hx, hb, hml, hown, hts⟩ (t_V_failAfter l dC dI ad ca dom H.size σ v1 hmV hN hC y2 σ3 hy2) (cwV 1 hts (gV wd_922 wd_923 wd_924 wd_254 wd_921) rfl rfl rfl (by decide +kernel) ⟨Nat.le_of_ble_eq_true rfl, Nat.le_of_ble_eq_true rfl⟩) ⟨hW_blind, va_recv (q := (RV, TV, 9)) (q0 := q1) (ci := 0) hK.1 hP rfl eq1, hW_pre hP hK hD hG⟩ rfl rfl hl.1 rfl (lv_room (Nat.le_of_ble_eq_true rfl)) dL_law_1168 ⟨show kc + 0 + 0 ≤ 601024 by omega, show ks + 0 + 0 ≤ 7293033 by omega⟩) hS (fun q _ h => hFc q h) hFc (fun r9 u t H1 locs ht hvm hr9 hB hz1 hk1 hS => ?_)
  obtain ⟨hP, hD, hC⟩ := hB
  rw [ht] at hP
  replace hD := hD.weaken (fun _ _ _ h => hFc _ h)
  generalize H1 = H at hP hS ⊢
  refine W.eq (g2 := F0 m 1171 ls [.int y2]) (by rw [hr9]) ?_
  refine lv_pop (pc := 1171) hx hb dL_law_1171 rfl ?_
  refine lv_aload_n (pc := 1172) hx hb dL_law_1172 rfl (lv_at hl 2 rfl) ?_
  refine lv_aload_n (pc := 1173) hx hb dL_law_1173 rfl (lv_at hl 4 rfl) ?_
  refine lv_iload (pc := 1174) hx hb dL_law_1174 (lv_at hl 0 rfl) ?_
  refine lv_iconst (pc := 1176) (v := 1) hx hb dL_law_1176 (by decide) ?_
  refine lv_iadd (pc := 1177) hx hb dL_law_1177 ?_
  refine va_sld (A := A) (pc := 1178) hx hb hX hbl hbA hS hv1 dL_law_1178 ?_
  refine W.eq (g2 := F0 m 1179 ls [.int v1, .ref (ad 4 0)]) (by rw [e1]) ?_
  obtain ⟨q4, hq4, eq4⟩ := at_4 (ad := ad) (ca := ca) (σ := σ3) hmM
  obtain ⟨⟨y5, σ6⟩, hy5, hf⟩ := ob hf
  have hFc := w9_free hD hS hA
  refine va_calli (pc := 1179) (va_runV (As := [.int v1]) (rest := []) ⟨hx, hb, hml, hown, hts⟩ (t_M_failAfter l dC dI ad ca dom H.size σ3 v1 hmM hN hC y5 σ6 hy5) (cwV 1 hts (gV wd_926 wd_927 wd_928 wd_50 wd_925) rfl rfl rfl (by decide +kernel) ⟨Nat.le_of_ble_eq_true rfl, Nat.le_of_ble_eq_true rfl⟩) ⟨hW_blind, va_recv (q := (RM, TM, 11)) (q0 := q4) (ci := 4) hK.1 hP rfl eq4, hW_pre hP hK hD hG⟩ rfl rfl hl.1 rfl (lv_room (Nat.le_of_ble_eq_true rfl)) dL_law_1179 ⟨show kc + 0 + 0 ≤ 601024 by omega, show ks + 0 + 0 ≤ 7293033 by omega⟩) hS (fun q _ h => hFc q h) hFc (fun r9 u t H1 locs ht hvm hr9 hB hz1 hk1 hS => ?_)
  obtain ⟨hP, hD, hC⟩ := hB
  rw [ht] at hP
  replace hD := hD.weaken (fun _ _ _ h => hFc _ h)
  generalize H1 = H at hP hS ⊢
  refine W.eq (g2 := F0 m 1182 ls [.int y5]) (by rw [hr9]) ?_
  refine lv_pop (pc := 1182) hx hb dL_law_1182 rfl ?_
  refine lv_goto (pc := 1183) (tgt := 1224) hx hb dL_law_1183 rfl ?_
  obtain ⟨-, h9⟩ := Prod.mk.inj (Option.some.inj hf)
  subst h9
  have hl := lv_sub hl (l' := [(4, .int i), (3, .ref (ad 24 0)), (2, .ref (ad 4 0)), (1, .ref (ad 0 0)), (0, .ref b)]) [0, 1, 2, 3, 4] rfl
  refine W.widen (k := kc + 16) (n := ks + 101) (by omega) (by omega) ?_
  exact kk ad ca dom H _ ls rfl hN hC hP hD hK hS hl
set_option maxHeartbeats 4000000 in
set_option maxRecDepth 100000 in
theorem lawc_21 {p : Program} {l : Launch} {e : Env} {s : State} {m : MethodId} {below : List Frame} {meth : Method} {c : Code} {b L : Nat} {xs : Nat → Int32} {A : Nat → Prop} {H : Heap} {locs : List Loc} {ls : Array Slot} {dC : Nat → ClassId} {dI : Nat → Nat → Nat} {Q : State → Prop} {kc ks : Nat} (hfl : l.stackTraces = false) (C : lawH p s m meth c b L xs A) (ad : Nat → Nat → Nat) (ca : Nat → Nat → ClassId) (dom : List (Nat × Nat)) (σ : hT) (i : Int32) (n : Nat) (v1 v2 v3 v4 v5 : Int32)
    (hv1 : vp_in (i + 1) L) (hv2 : vp_in (i + 2) L) (hv3 : vp_in (i + 3) L) (hv4 : vp_in (i + 4) L) (hv5 : vp_in (i + 5) L) (e1 : xs (i + 1).toNatClampNeg = v1) (e2 : xs (i + 2).toNatClampNeg = v2) (e3 : xs (i + 3).toNatClampNeg = v3) (e4 : xs (i + 4).toNatClampNeg = v4) (e5 : xs (i + 5).toNatClampNeg = v5)
    (hmV : (0, 0) ∈ dom) (hmM : (4, 0) ∈ dom) (hmO : (24, 0) ∈ dom) (hN : dom.Nodup) (hC : clo dom σ.2.2) (hP : va_P (dC, dI) kCl (w9 ad ca dom σ) H) (hD : va_D A (w9 ad ca dom σ)) (hK : hkt (dC, dI) ca dom s) (hS : va_S A s.heap H locs) (hl : lv_has ls 7 [(4, .int i), (3, .ref (ad 24 0)), (2, .ref (ad 4 0)), (1, .ref (ad 0 0)), (0, .ref b)]) (hkc : kc + 16 ≤ 601024) (hks : ks + 101 ≤ 7293033) (σ' : hT) (hf : LC_21 n σ v1 v2 v3 v4 v5 = some (1, σ'))
    (kk : ∀ (ad' : Nat → Nat → Nat) (ca' : Nat → Nat → ClassId) (dom' : List (Nat × Nat)) (H' : Heap) (locs' : List Loc) (ls' : Array Slot), dom' = dom → dom'.Nodup → clo dom' σ'.2.2 → va_P (dC, dI) kCl (w9 ad' ca' dom' σ') H' → va_D A (w9 ad' ca' dom' σ') → hkt (dC, dI) ca' dom' s → va_S A s.heap H' locs' → lv_has ls' 7 [(4, .int i), (3, .ref (ad' 24 0)), (2, .ref (ad' 4 0)), (1, .ref (ad' 0 0)), (0, .ref b)] → W p l e room_1 s m #[Value.ref b] below meth c H' locs' (kc + 16) (ks + 101) Q (F0 m 1224 ls' [])) :
    W p l e room_1 s m #[Value.ref b] below meth c H locs kc ks Q (F0 m 1186 ls []) := by
  obtain ⟨hx, hb, hr, hml, hown, hts, hX, hbl, hbA, hlocks, hA, hA2, hG, hE0⟩ := C
  unfold LC_21 at hf
  refine lv_aload_n (pc := 1186) hx hb dL_law_1186 rfl (lv_at hl 3 rfl) ?_
  obtain ⟨q1, hq1, eq1⟩ := at_0 (ad := ad) (ca := ca) (σ := σ) hmV
  obtain ⟨⟨y2, σ3⟩, hy2, hf⟩ := ob hf
  have hFc := w9_free hD hS hA
  refine va_calli (pc := 1187) (va_runV (As := []) (rest := []) ⟨hx, hb, hml, hown, hts⟩ (t_V_start l dC dI ad ca dom H.size n σ hmV hN hC y2 σ3 hy2) (cwV 0 hts (gV wd_930 wd_931 wd_932 wd_254 wd_929) rfl rfl rfl (by decide +kernel) ⟨Nat.le_of_ble_eq_true rfl, Nat.le_of_ble_eq_true rfl⟩) ⟨hW_blind, va_recv (q := (RV, TV, 9)) (q0 := q1) (ci := 0) hK.1 hP rfl eq1, hW_pre hP hK hD hG⟩ rfl rfl hl.1 rfl (lv_room (Nat.le_of_ble_eq_true rfl)) dL_law_1187 ⟨show kc + 0 + 0 ≤ 601024 by omega, show ks + 0 + 0 ≤ 7293033 by omega⟩) hS (fun q _ h => hFc q h) hFc (fun r9 u t H1 locs ht hvm hr9 hB hz1 hk1 hS => ?_)
  obtain ⟨hP, hD, hC⟩ := hB
  rw [ht] at hP
  replace hD := hD.weaken (fun _ _ _ h => hFc _ h)
  generalize H1 = H at hP hS ⊢
  refine W.eq (g2 := F0 m 1190 ls [.int y2]) (by rw [hr9]) ?_
  refine lv_pop (pc := 1190) hx hb dL_law_1190 rfl ?_
  refine lv_aload_n (pc := 1191) hx hb dL_law_1191 rfl (lv_at hl 2 rfl) ?_
  obtain ⟨q4, hq4, eq4⟩ := at_4 (ad := ad) (ca := ca) (σ := σ3) hmM
  obtain ⟨⟨y5, σ6⟩, hy5, hf⟩ := ob hf
  have hFc := w9_free hD hS hA
  refine va_calli (pc := 1192) (va_runV (As := []) (rest := []) ⟨hx, hb, hml, hown, hts⟩ (t_M_start l dC dI ad ca dom H.size n σ3 hmM hN hC y5 σ6 hy5) (cwV 0 hts (gV wd_934 wd_935 wd_936 wd_50 wd_933) rfl rfl rfl (by decide +kernel) ⟨Nat.le_of_ble_eq_true rfl, Nat.le_of_ble_eq_true rfl⟩) ⟨hW_blind, va_recv (q := (RM, TM, 11)) (q0 := q4) (ci := 4) hK.1 hP rfl eq4, hW_pre hP hK hD hG⟩ rfl rfl hl.1 rfl (lv_room (Nat.le_of_ble_eq_true rfl)) dL_law_1192 ⟨show kc + 0 + 0 ≤ 601024 by omega, show ks + 0 + 0 ≤ 7293033 by omega⟩) hS (fun q _ h => hFc q h) hFc (fun r9 u t H1 locs ht hvm hr9 hB hz1 hk1 hS => ?_)
  obtain ⟨hP, hD, hC⟩ := hB
  rw [ht] at hP
  replace hD := hD.weaken (fun _ _ _ h => hFc _ h)
  generalize H1 = H at hP hS ⊢
  refine W.eq (g2 := F0 m 1195 ls [.int y5]) (by rw [hr9]) ?_
  refine lv_pop (pc := 1195) hx hb dL_law_1195 rfl ?_
  refine lv_goto (pc := 1196) (tgt := 1224) hx hb dL_law_1196 rfl ?_
  obtain ⟨-, h9⟩ := Prod.mk.inj (Option.some.inj hf)
  subst h9
  have hl := lv_sub hl (l' := [(4, .int i), (3, .ref (ad 24 0)), (2, .ref (ad 4 0)), (1, .ref (ad 0 0)), (0, .ref b)]) [0, 1, 2, 3, 4] rfl
  refine W.widen (k := kc + 16) (n := ks + 101) (by omega) (by omega) ?_
  exact kk ad ca dom H _ ls rfl hN hC hP hD hK hS hl
set_option maxHeartbeats 4000000 in
set_option maxRecDepth 100000 in
theorem lawc_22 {p : Program} {l : Launch} {e : Env} {s : State} {m : MethodId} {below : List Frame} {meth : Method} {c : Code} {b L : Nat} {xs : Nat → Int32} {A : Nat → Prop} {H : Heap} {locs : List Loc} {ls : Array Slot} {dC : Nat → ClassId} {dI : Nat → Nat → Nat} {Q : State → Prop} {kc ks : Nat} (hfl : l.stackTraces = false) (C : lawH p s m meth c b L xs A) (ad : Nat → Nat → Nat) (ca : Nat → Nat → ClassId) (dom : List (Nat × Nat)) (σ : hT) (i : Int32) (n : Nat) (v1 v2 v3 v4 v5 : Int32)
    (hv1 : vp_in (i + 1) L) (hv2 : vp_in (i + 2) L) (hv3 : vp_in (i + 3) L) (hv4 : vp_in (i + 4) L) (hv5 : vp_in (i + 5) L) (e1 : xs (i + 1).toNatClampNeg = v1) (e2 : xs (i + 2).toNatClampNeg = v2) (e3 : xs (i + 3).toNatClampNeg = v3) (e4 : xs (i + 4).toNatClampNeg = v4) (e5 : xs (i + 5).toNatClampNeg = v5)
    (hmV : (0, 0) ∈ dom) (hmM : (4, 0) ∈ dom) (hmO : (24, 0) ∈ dom) (hN : dom.Nodup) (hC : clo dom σ.2.2) (hP : va_P (dC, dI) kCl (w9 ad ca dom σ) H) (hD : va_D A (w9 ad ca dom σ)) (hK : hkt (dC, dI) ca dom s) (hS : va_S A s.heap H locs) (hl : lv_has ls 7 [(4, .int i), (3, .ref (ad 24 0)), (2, .ref (ad 4 0)), (1, .ref (ad 0 0)), (0, .ref b)]) (hkc : kc + 16 ≤ 601024) (hks : ks + 101 ≤ 7293033) (σ' : hT) (hf : LC_22 n σ v1 v2 v3 v4 v5 = some (1, σ'))
    (kk : ∀ (ad' : Nat → Nat → Nat) (ca' : Nat → Nat → ClassId) (dom' : List (Nat × Nat)) (H' : Heap) (locs' : List Loc) (ls' : Array Slot), dom' = dom → dom'.Nodup → clo dom' σ'.2.2 → va_P (dC, dI) kCl (w9 ad' ca' dom' σ') H' → va_D A (w9 ad' ca' dom' σ') → hkt (dC, dI) ca' dom' s → va_S A s.heap H' locs' → lv_has ls' 7 [(4, .int i), (3, .ref (ad' 24 0)), (2, .ref (ad' 4 0)), (1, .ref (ad' 0 0)), (0, .ref b)] → W p l e room_1 s m #[Value.ref b] below meth c H' locs' (kc + 16) (ks + 101) Q (F0 m 1224 ls' [])) :
    W p l e room_1 s m #[Value.ref b] below meth c H locs kc ks Q (F0 m 1199 ls []) := by
  obtain ⟨hx, hb, hr, hml, hown, hts, hX, hbl, hbA, hlocks, hA, hA2, hG, hE0⟩ := C
  unfold LC_22 at hf
  refine lv_aload_n (pc := 1199) hx hb dL_law_1199 rfl (lv_at hl 3 rfl) ?_
  refine lv_aload_n (pc := 1200) hx hb dL_law_1200 rfl (lv_at hl 4 rfl) ?_
  refine lv_iload (pc := 1201) hx hb dL_law_1201 (lv_at hl 0 rfl) ?_
  refine lv_iconst (pc := 1203) (v := 1) hx hb dL_law_1203 (by decide) ?_
  refine lv_iadd (pc := 1204) hx hb dL_law_1204 ?_
  refine va_sld (A := A) (pc := 1205) hx hb hX hbl hbA hS hv1 dL_law_1205 ?_
  refine W.eq (g2 := F0 m 1206 ls [.int v1, .ref (ad 0 0)]) (by rw [e1]) ?_
  obtain ⟨q1, hq1, eq1⟩ := at_0 (ad := ad) (ca := ca) (σ := σ) hmV
  obtain ⟨⟨y2, σ3⟩, hy2, hf⟩ := ob hf
  have hFc := w9_free hD hS hA
  refine va_calli (pc := 1206) (va_runV (As := [.int v1]) (rest := []) ⟨hx, hb, hml, hown, hts⟩ (t_V_count l dC dI ad ca dom H.size n σ v1 hmV hN hC y2 σ3 hy2) (cwV 1 hts (gV wd_938 wd_939 wd_940 wd_254 wd_937) rfl rfl rfl (by decide +kernel) ⟨Nat.le_of_ble_eq_true rfl, Nat.le_of_ble_eq_true rfl⟩) ⟨hW_blind, va_recv (q := (RV, TV, 9)) (q0 := q1) (ci := 0) hK.1 hP rfl eq1, hW_pre hP hK hD hG⟩ rfl rfl hl.1 rfl (lv_room (Nat.le_of_ble_eq_true rfl)) dL_law_1206 ⟨show kc + 0 + 0 ≤ 601024 by omega, show ks + 0 + 0 ≤ 7293033 by omega⟩) hS (fun q _ h => hFc q h) hFc (fun r9 u t H1 locs ht hvm hr9 hB hz1 hk1 hS => ?_)
  obtain ⟨hP, hD, hC⟩ := hB
  rw [ht] at hP
  replace hD := hD.weaken (fun _ _ _ h => hFc _ h)
  generalize H1 = H at hP hS ⊢
  refine W.eq (g2 := F0 m 1209 ls [.int y2]) (by rw [hr9]) ?_
  refine lv_pop (pc := 1209) hx hb dL_law_1209 rfl ?_
  refine lv_aload_n (pc := 1210) hx hb dL_law_1210 rfl (lv_at hl 2 rfl) ?_
  refine lv_aload_n (pc := 1211) hx hb dL_law_1211 rfl (lv_at hl 4 rfl) ?_
  refine lv_iload (pc := 1212) hx hb dL_law_1212 (lv_at hl 0 rfl) ?_
  refine lv_iconst (pc := 1214) (v := 1) hx hb dL_law_1214 (by decide) ?_
  refine lv_iadd (pc := 1215) hx hb dL_law_1215 ?_
  refine va_sld (A := A) (pc := 1216) hx hb hX hbl hbA hS hv1 dL_law_1216 ?_
  refine W.eq (g2 := F0 m 1217 ls [.int v1, .ref (ad 4 0)]) (by rw [e1]) ?_
  obtain ⟨q4, hq4, eq4⟩ := at_4 (ad := ad) (ca := ca) (σ := σ3) hmM
  obtain ⟨⟨y5, σ6⟩, hy5, hf⟩ := ob hf
  have hFc := w9_free hD hS hA
  refine va_calli (pc := 1217) (va_runV (As := [.int v1]) (rest := []) ⟨hx, hb, hml, hown, hts⟩ (t_M_count l dC dI ad ca dom H.size n σ3 v1 hmM hN hC y5 σ6 hy5) (cwV 1 hts (gV wd_942 wd_943 wd_944 wd_50 wd_941) rfl rfl rfl (by decide +kernel) ⟨Nat.le_of_ble_eq_true rfl, Nat.le_of_ble_eq_true rfl⟩) ⟨hW_blind, va_recv (q := (RM, TM, 11)) (q0 := q4) (ci := 4) hK.1 hP rfl eq4, hW_pre hP hK hD hG⟩ rfl rfl hl.1 rfl (lv_room (Nat.le_of_ble_eq_true rfl)) dL_law_1217 ⟨show kc + 0 + 0 ≤ 601024 by omega, show ks + 0 + 0 ≤ 7293033 by omega⟩) hS (fun q _ h => hFc q h) hFc (fun r9 u t H1 locs ht hvm hr9 hB hz1 hk1 hS => ?_)
  obtain ⟨hP, hD, hC⟩ := hB
  rw [ht] at hP
  replace hD := hD.weaken (fun _ _ _ h => hFc _ h)
  generalize H1 = H at hP hS ⊢
  refine W.eq (g2 := F0 m 1220 ls [.int y5]) (by rw [hr9]) ?_
  refine lv_pop (pc := 1220) hx hb dL_law_1220 rfl ?_
  refine lv_goto (pc := 1221) (tgt := 1224) hx hb dL_law_1221 rfl ?_
  obtain ⟨-, h9⟩ := Prod.mk.inj (Option.some.inj hf)
  subst h9
  have hl := lv_sub hl (l' := [(4, .int i), (3, .ref (ad 24 0)), (2, .ref (ad 4 0)), (1, .ref (ad 0 0)), (0, .ref b)]) [0, 1, 2, 3, 4] rfl
  refine W.widen (k := kc + 16) (n := ks + 101) (by omega) (by omega) ?_
  exact kk ad ca dom H _ ls rfl hN hC hP hD hK hS hl
