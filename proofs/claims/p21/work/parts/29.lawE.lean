theorem dL_law_905 : decode cL_law 905 = .ok (.aload_n 1, 1) := by decide +kernel
theorem dL_law_906 : decode cL_law 906 = .ok (.aload_n 0, 1) := by decide +kernel
theorem dL_law_907 : decode cL_law 907 = .ok (.iload 4, 2) := by decide +kernel
theorem dL_law_909 : decode cL_law 909 = .ok (.iconst 1, 1) := by decide +kernel
theorem dL_law_910 : decode cL_law 910 = .ok (.iadd, 1) := by decide +kernel
theorem dL_law_911 : decode cL_law 911 = .ok (.iaload, 1) := by decide +kernel
theorem dL_law_912 : decode cL_law 912 = .ok (.aload_n 0, 1) := by decide +kernel
theorem dL_law_913 : decode cL_law 913 = .ok (.iload 4, 2) := by decide +kernel
theorem dL_law_915 : decode cL_law 915 = .ok (.iconst 2, 1) := by decide +kernel
theorem dL_law_916 : decode cL_law 916 = .ok (.iadd, 1) := by decide +kernel
theorem dL_law_917 : decode cL_law 917 = .ok (.iaload, 1) := by decide +kernel
theorem dL_law_918 : decode cL_law 918 = .ok (.aload_n 3, 1) := by decide +kernel
theorem dL_law_919 : decode cL_law 919 = .ok (.invokestatic 136, 3) := by decide +kernel
theorem dL_law_922 : decode cL_law 922 = .ok (.istore 5, 2) := by decide +kernel
theorem dL_law_924 : decode cL_law 924 = .ok (.aload_n 2, 1) := by decide +kernel
theorem dL_law_925 : decode cL_law 925 = .ok (.aload_n 0, 1) := by decide +kernel
theorem dL_law_926 : decode cL_law 926 = .ok (.iload 4, 2) := by decide +kernel
theorem dL_law_928 : decode cL_law 928 = .ok (.iconst 1, 1) := by decide +kernel
theorem dL_law_929 : decode cL_law 929 = .ok (.iadd, 1) := by decide +kernel
theorem dL_law_930 : decode cL_law 930 = .ok (.iaload, 1) := by decide +kernel
theorem dL_law_931 : decode cL_law 931 = .ok (.aload_n 0, 1) := by decide +kernel
theorem dL_law_932 : decode cL_law 932 = .ok (.iload 4, 2) := by decide +kernel
theorem dL_law_934 : decode cL_law 934 = .ok (.iconst 2, 1) := by decide +kernel
theorem dL_law_935 : decode cL_law 935 = .ok (.iadd, 1) := by decide +kernel
theorem dL_law_936 : decode cL_law 936 = .ok (.iaload, 1) := by decide +kernel
theorem dL_law_937 : decode cL_law 937 = .ok (.invokevirtual 138, 3) := by decide +kernel
theorem dL_law_940 : decode cL_law 940 = .ok (.istore 6, 2) := by decide +kernel
theorem dL_law_942 : decode cL_law 942 = .ok (.goto 275, 3) := by decide +kernel
theorem dL_law_945 : decode cL_law 945 = .ok (.aload_n 1, 1) := by decide +kernel
theorem dL_law_946 : decode cL_law 946 = .ok (.aload_n 0, 1) := by decide +kernel
theorem dL_law_947 : decode cL_law 947 = .ok (.iload 4, 2) := by decide +kernel
theorem dL_law_949 : decode cL_law 949 = .ok (.iconst 1, 1) := by decide +kernel
theorem dL_law_950 : decode cL_law 950 = .ok (.iadd, 1) := by decide +kernel
theorem dL_law_951 : decode cL_law 951 = .ok (.iaload, 1) := by decide +kernel
theorem dL_law_952 : decode cL_law 952 = .ok (.aload_n 0, 1) := by decide +kernel
theorem dL_law_953 : decode cL_law 953 = .ok (.iload 4, 2) := by decide +kernel
theorem dL_law_955 : decode cL_law 955 = .ok (.iconst 2, 1) := by decide +kernel
theorem dL_law_956 : decode cL_law 956 = .ok (.iadd, 1) := by decide +kernel
theorem dL_law_957 : decode cL_law 957 = .ok (.iaload, 1) := by decide +kernel
theorem dL_law_958 : decode cL_law 958 = .ok (.aload_n 0, 1) := by decide +kernel
theorem dL_law_959 : decode cL_law 959 = .ok (.iload 4, 2) := by decide +kernel
theorem dL_law_961 : decode cL_law 961 = .ok (.iconst 3, 1) := by decide +kernel
theorem dL_law_962 : decode cL_law 962 = .ok (.iadd, 1) := by decide +kernel
theorem dL_law_963 : decode cL_law 963 = .ok (.iaload, 1) := by decide +kernel
theorem dL_law_964 : decode cL_law 964 = .ok (.aload_n 3, 1) := by decide +kernel
theorem dL_law_965 : decode cL_law 965 = .ok (.invokestatic 139, 3) := by decide +kernel
theorem dL_law_968 : decode cL_law 968 = .ok (.istore 5, 2) := by decide +kernel
theorem dL_law_970 : decode cL_law 970 = .ok (.aload_n 2, 1) := by decide +kernel
theorem dL_law_971 : decode cL_law 971 = .ok (.aload_n 0, 1) := by decide +kernel
theorem dL_law_972 : decode cL_law 972 = .ok (.iload 4, 2) := by decide +kernel
theorem dL_law_974 : decode cL_law 974 = .ok (.iconst 1, 1) := by decide +kernel
theorem dL_law_975 : decode cL_law 975 = .ok (.iadd, 1) := by decide +kernel
theorem dL_law_976 : decode cL_law 976 = .ok (.iaload, 1) := by decide +kernel
theorem dL_law_977 : decode cL_law 977 = .ok (.aload_n 0, 1) := by decide +kernel
theorem dL_law_978 : decode cL_law 978 = .ok (.iload 4, 2) := by decide +kernel
theorem dL_law_980 : decode cL_law 980 = .ok (.iconst 2, 1) := by decide +kernel
theorem dL_law_981 : decode cL_law 981 = .ok (.iadd, 1) := by decide +kernel
theorem dL_law_982 : decode cL_law 982 = .ok (.iaload, 1) := by decide +kernel
theorem dL_law_983 : decode cL_law 983 = .ok (.aload_n 0, 1) := by decide +kernel
theorem dL_law_984 : decode cL_law 984 = .ok (.iload 4, 2) := by decide +kernel
theorem dL_law_986 : decode cL_law 986 = .ok (.iconst 3, 1) := by decide +kernel
theorem dL_law_987 : decode cL_law 987 = .ok (.iadd, 1) := by decide +kernel
theorem dL_law_988 : decode cL_law 988 = .ok (.iaload, 1) := by decide +kernel
theorem dL_law_989 : decode cL_law 989 = .ok (.invokevirtual 141, 3) := by decide +kernel
theorem dL_law_992 : decode cL_law 992 = .ok (.istore 6, 2) := by decide +kernel
theorem dL_law_994 : decode cL_law 994 = .ok (.goto 223, 3) := by decide +kernel
theorem dL_law_997 : decode cL_law 997 = .ok (.aload_n 1, 1) := by decide +kernel
theorem dL_law_998 : decode cL_law 998 = .ok (.aload_n 0, 1) := by decide +kernel
theorem dL_law_999 : decode cL_law 999 = .ok (.iload 4, 2) := by decide +kernel
theorem dL_law_1001 : decode cL_law 1001 = .ok (.iconst 1, 1) := by decide +kernel
theorem dL_law_1002 : decode cL_law 1002 = .ok (.iadd, 1) := by decide +kernel
theorem dL_law_1003 : decode cL_law 1003 = .ok (.iaload, 1) := by decide +kernel
theorem dL_law_1004 : decode cL_law 1004 = .ok (.aload_n 0, 1) := by decide +kernel
theorem dL_law_1005 : decode cL_law 1005 = .ok (.iload 4, 2) := by decide +kernel
theorem dL_law_1007 : decode cL_law 1007 = .ok (.iconst 2, 1) := by decide +kernel
theorem dL_law_1008 : decode cL_law 1008 = .ok (.iadd, 1) := by decide +kernel
theorem dL_law_1009 : decode cL_law 1009 = .ok (.iaload, 1) := by decide +kernel
theorem dL_law_1010 : decode cL_law 1010 = .ok (.ifCond .eq 7, 3) := by decide +kernel
theorem dL_law_1013 : decode cL_law 1013 = .ok (.iconst 1, 1) := by decide +kernel
theorem dL_law_1014 : decode cL_law 1014 = .ok (.goto 4, 3) := by decide +kernel
theorem dL_law_1017 : decode cL_law 1017 = .ok (.iconst 0, 1) := by decide +kernel
theorem dL_law_1018 : decode cL_law 1018 = .ok (.aload_n 0, 1) := by decide +kernel
theorem dL_law_1019 : decode cL_law 1019 = .ok (.iload 4, 2) := by decide +kernel
theorem dL_law_1021 : decode cL_law 1021 = .ok (.iconst 3, 1) := by decide +kernel
theorem dL_law_1022 : decode cL_law 1022 = .ok (.iadd, 1) := by decide +kernel
theorem dL_law_1023 : decode cL_law 1023 = .ok (.iaload, 1) := by decide +kernel
theorem dL_law_1024 : decode cL_law 1024 = .ok (.invokevirtual 142, 3) := by decide +kernel
theorem dL_law_1027 : decode cL_law 1027 = .ok (.pop, 1) := by decide +kernel
theorem dL_law_1028 : decode cL_law 1028 = .ok (.aload_n 2, 1) := by decide +kernel
theorem dL_law_1029 : decode cL_law 1029 = .ok (.aload_n 0, 1) := by decide +kernel
theorem dL_law_1030 : decode cL_law 1030 = .ok (.iload 4, 2) := by decide +kernel
theorem dL_law_1032 : decode cL_law 1032 = .ok (.iconst 1, 1) := by decide +kernel
theorem dL_law_1033 : decode cL_law 1033 = .ok (.iadd, 1) := by decide +kernel
theorem dL_law_1034 : decode cL_law 1034 = .ok (.iaload, 1) := by decide +kernel
theorem dL_law_1035 : decode cL_law 1035 = .ok (.aload_n 0, 1) := by decide +kernel
theorem dL_law_1036 : decode cL_law 1036 = .ok (.iload 4, 2) := by decide +kernel
theorem dL_law_1038 : decode cL_law 1038 = .ok (.iconst 2, 1) := by decide +kernel
theorem dL_law_1039 : decode cL_law 1039 = .ok (.iadd, 1) := by decide +kernel
theorem dL_law_1040 : decode cL_law 1040 = .ok (.iaload, 1) := by decide +kernel
theorem dL_law_1041 : decode cL_law 1041 = .ok (.ifCond .eq 7, 3) := by decide +kernel
theorem dL_law_1044 : decode cL_law 1044 = .ok (.iconst 1, 1) := by decide +kernel
theorem dL_law_1045 : decode cL_law 1045 = .ok (.goto 4, 3) := by decide +kernel
theorem dL_law_1048 : decode cL_law 1048 = .ok (.iconst 0, 1) := by decide +kernel
theorem dL_law_1049 : decode cL_law 1049 = .ok (.aload_n 0, 1) := by decide +kernel
theorem dL_law_1050 : decode cL_law 1050 = .ok (.iload 4, 2) := by decide +kernel
theorem dL_law_1052 : decode cL_law 1052 = .ok (.iconst 3, 1) := by decide +kernel
theorem dL_law_1053 : decode cL_law 1053 = .ok (.iadd, 1) := by decide +kernel
theorem dL_law_1054 : decode cL_law 1054 = .ok (.iaload, 1) := by decide +kernel
theorem dL_law_1055 : decode cL_law 1055 = .ok (.invokevirtual 146, 3) := by decide +kernel
theorem dL_law_1058 : decode cL_law 1058 = .ok (.pop, 1) := by decide +kernel
theorem dL_law_1059 : decode cL_law 1059 = .ok (.goto 158, 3) := by decide +kernel
theorem dL_law_1062 : decode cL_law 1062 = .ok (.aload_n 1, 1) := by decide +kernel
theorem dL_law_1063 : decode cL_law 1063 = .ok (.aload_n 0, 1) := by decide +kernel
theorem dL_law_1064 : decode cL_law 1064 = .ok (.iload 4, 2) := by decide +kernel
theorem dL_law_1066 : decode cL_law 1066 = .ok (.iconst 1, 1) := by decide +kernel
theorem dL_law_1067 : decode cL_law 1067 = .ok (.iadd, 1) := by decide +kernel
theorem dL_law_1068 : decode cL_law 1068 = .ok (.iaload, 1) := by decide +kernel
theorem dL_law_1069 : decode cL_law 1069 = .ok (.aload_n 0, 1) := by decide +kernel
theorem dL_law_1070 : decode cL_law 1070 = .ok (.iload 4, 2) := by decide +kernel
theorem dL_law_1072 : decode cL_law 1072 = .ok (.iconst 2, 1) := by decide +kernel
theorem dL_law_1073 : decode cL_law 1073 = .ok (.iadd, 1) := by decide +kernel
theorem dL_law_1074 : decode cL_law 1074 = .ok (.iaload, 1) := by decide +kernel
theorem dL_law_1075 : decode cL_law 1075 = .ok (.aload_n 0, 1) := by decide +kernel
theorem dL_law_1076 : decode cL_law 1076 = .ok (.iload 4, 2) := by decide +kernel
theorem dL_law_1078 : decode cL_law 1078 = .ok (.iconst 3, 1) := by decide +kernel
theorem dL_law_1079 : decode cL_law 1079 = .ok (.iadd, 1) := by decide +kernel
theorem dL_law_1080 : decode cL_law 1080 = .ok (.iaload, 1) := by decide +kernel
theorem dL_law_1081 : decode cL_law 1081 = .ok (.aload_n 0, 1) := by decide +kernel
theorem dL_law_1082 : decode cL_law 1082 = .ok (.iload 4, 2) := by decide +kernel
theorem dL_law_1084 : decode cL_law 1084 = .ok (.iconst 4, 1) := by decide +kernel
theorem dL_law_1085 : decode cL_law 1085 = .ok (.iadd, 1) := by decide +kernel
theorem dL_law_1086 : decode cL_law 1086 = .ok (.iaload, 1) := by decide +kernel
theorem dL_law_1087 : decode cL_law 1087 = .ok (.aload_n 3, 1) := by decide +kernel
theorem dL_law_1088 : decode cL_law 1088 = .ok (.invokestatic 147, 3) := by decide +kernel
theorem dL_law_1091 : decode cL_law 1091 = .ok (.istore 5, 2) := by decide +kernel
theorem dL_law_1093 : decode cL_law 1093 = .ok (.aload_n 2, 1) := by decide +kernel
theorem dL_law_1094 : decode cL_law 1094 = .ok (.aload_n 0, 1) := by decide +kernel
theorem dL_law_1095 : decode cL_law 1095 = .ok (.iload 4, 2) := by decide +kernel
theorem dL_law_1097 : decode cL_law 1097 = .ok (.iconst 1, 1) := by decide +kernel
theorem dL_law_1098 : decode cL_law 1098 = .ok (.iadd, 1) := by decide +kernel
theorem dL_law_1099 : decode cL_law 1099 = .ok (.iaload, 1) := by decide +kernel
theorem dL_law_1100 : decode cL_law 1100 = .ok (.aload_n 0, 1) := by decide +kernel
theorem dL_law_1101 : decode cL_law 1101 = .ok (.iload 4, 2) := by decide +kernel
theorem dL_law_1103 : decode cL_law 1103 = .ok (.iconst 2, 1) := by decide +kernel
theorem dL_law_1104 : decode cL_law 1104 = .ok (.iadd, 1) := by decide +kernel
theorem dL_law_1105 : decode cL_law 1105 = .ok (.iaload, 1) := by decide +kernel
theorem dL_law_1106 : decode cL_law 1106 = .ok (.aload_n 0, 1) := by decide +kernel
theorem dL_law_1107 : decode cL_law 1107 = .ok (.iload 4, 2) := by decide +kernel
theorem dL_law_1109 : decode cL_law 1109 = .ok (.iconst 3, 1) := by decide +kernel
theorem dL_law_1110 : decode cL_law 1110 = .ok (.iadd, 1) := by decide +kernel
theorem dL_law_1111 : decode cL_law 1111 = .ok (.iaload, 1) := by decide +kernel
theorem dL_law_1112 : decode cL_law 1112 = .ok (.aload_n 0, 1) := by decide +kernel
theorem dL_law_1113 : decode cL_law 1113 = .ok (.iload 4, 2) := by decide +kernel
theorem dL_law_1115 : decode cL_law 1115 = .ok (.iconst 4, 1) := by decide +kernel
theorem dL_law_1116 : decode cL_law 1116 = .ok (.iadd, 1) := by decide +kernel
theorem dL_law_1117 : decode cL_law 1117 = .ok (.iaload, 1) := by decide +kernel
theorem dL_law_1118 : decode cL_law 1118 = .ok (.invokevirtual 149, 3) := by decide +kernel
theorem dL_law_1121 : decode cL_law 1121 = .ok (.istore 6, 2) := by decide +kernel
theorem dL_law_1123 : decode cL_law 1123 = .ok (.aload_n 2, 1) := by decide +kernel
theorem dL_law_1124 : decode cL_law 1124 = .ok (.invokevirtual 150, 3) := by decide +kernel
theorem dL_law_1127 : decode cL_law 1127 = .ok (.iload 5, 2) := by decide +kernel
theorem dL_law_1129 : decode cL_law 1129 = .ok (.if_icmp .eq 5, 3) := by decide +kernel
theorem dL_law_1132 : decode cL_law 1132 = .ok (.iconst 0, 1) := by decide +kernel
theorem dL_law_1134 : decode cL_law 1134 = .ok (.iload 5, 2) := by decide +kernel
theorem dL_law_1136 : decode cL_law 1136 = .ok (.ifCond .ne 15, 3) := by decide +kernel
theorem dL_law_1139 : decode cL_law 1139 = .ok (.aload_n 3, 1) := by decide +kernel
theorem dL_law_1140 : decode cL_law 1140 = .ok (.iconst 0, 1) := by decide +kernel
theorem dL_law_1141 : decode cL_law 1141 = .ok (.laload, 1) := by decide +kernel
theorem dL_law_1142 : decode cL_law 1142 = .ok (.iload 6, 2) := by decide +kernel
theorem dL_law_1144 : decode cL_law 1144 = .ok (.i2l, 1) := by decide +kernel
theorem dL_law_1145 : decode cL_law 1145 = .ok (.lcmp, 1) := by decide +kernel
theorem dL_law_1146 : decode cL_law 1146 = .ok (.ifCond .eq 5, 3) := by decide +kernel
theorem dL_law_1149 : decode cL_law 1149 = .ok (.iconst 0, 1) := by decide +kernel
theorem dL_law_1151 : decode cL_law 1151 = .ok (.goto 66, 3) := by decide +kernel
theorem dL_law_1154 : decode cL_law 1154 = .ok (.aload_n 1, 1) := by decide +kernel
theorem dL_law_1155 : decode cL_law 1155 = .ok (.aload_n 0, 1) := by decide +kernel
theorem dL_law_1156 : decode cL_law 1156 = .ok (.iload 4, 2) := by decide +kernel
theorem dL_law_1158 : decode cL_law 1158 = .ok (.iconst 1, 1) := by decide +kernel
theorem dL_law_1159 : decode cL_law 1159 = .ok (.iadd, 1) := by decide +kernel
theorem dL_law_1160 : decode cL_law 1160 = .ok (.iaload, 1) := by decide +kernel
theorem dL_law_1161 : decode cL_law 1161 = .ok (.invokevirtual 153, 3) := by decide +kernel
theorem dL_law_1164 : decode cL_law 1164 = .ok (.pop, 1) := by decide +kernel
theorem dL_law_1165 : decode cL_law 1165 = .ok (.aload_n 2, 1) := by decide +kernel
theorem dL_law_1166 : decode cL_law 1166 = .ok (.aload_n 0, 1) := by decide +kernel
theorem dL_law_1167 : decode cL_law 1167 = .ok (.iload 4, 2) := by decide +kernel
theorem dL_law_1169 : decode cL_law 1169 = .ok (.iconst 1, 1) := by decide +kernel
theorem dL_law_1170 : decode cL_law 1170 = .ok (.iadd, 1) := by decide +kernel
theorem dL_law_1171 : decode cL_law 1171 = .ok (.iaload, 1) := by decide +kernel
theorem dL_law_1172 : decode cL_law 1172 = .ok (.invokevirtual 157, 3) := by decide +kernel
theorem dL_law_1175 : decode cL_law 1175 = .ok (.pop, 1) := by decide +kernel
theorem dL_law_1176 : decode cL_law 1176 = .ok (.goto 41, 3) := by decide +kernel
theorem dL_law_1179 : decode cL_law 1179 = .ok (.aload_n 1, 1) := by decide +kernel
theorem dL_law_1180 : decode cL_law 1180 = .ok (.invokevirtual 158, 3) := by decide +kernel
theorem dL_law_1183 : decode cL_law 1183 = .ok (.pop, 1) := by decide +kernel
theorem dL_law_1184 : decode cL_law 1184 = .ok (.aload_n 2, 1) := by decide +kernel
theorem dL_law_1185 : decode cL_law 1185 = .ok (.invokevirtual 161, 3) := by decide +kernel
theorem dL_law_1188 : decode cL_law 1188 = .ok (.pop, 1) := by decide +kernel
theorem dL_law_1189 : decode cL_law 1189 = .ok (.goto 28, 3) := by decide +kernel
theorem dL_law_1192 : decode cL_law 1192 = .ok (.aload_n 1, 1) := by decide +kernel
theorem dL_law_1193 : decode cL_law 1193 = .ok (.aload_n 0, 1) := by decide +kernel
theorem dL_law_1194 : decode cL_law 1194 = .ok (.iload 4, 2) := by decide +kernel
theorem dL_law_1196 : decode cL_law 1196 = .ok (.iconst 1, 1) := by decide +kernel
theorem dL_law_1197 : decode cL_law 1197 = .ok (.iadd, 1) := by decide +kernel
theorem dL_law_1198 : decode cL_law 1198 = .ok (.iaload, 1) := by decide +kernel
theorem dL_law_1199 : decode cL_law 1199 = .ok (.invokevirtual 162, 3) := by decide +kernel
theorem dL_law_1202 : decode cL_law 1202 = .ok (.pop, 1) := by decide +kernel
theorem dL_law_1203 : decode cL_law 1203 = .ok (.aload_n 2, 1) := by decide +kernel
theorem dL_law_1204 : decode cL_law 1204 = .ok (.aload_n 0, 1) := by decide +kernel
theorem dL_law_1205 : decode cL_law 1205 = .ok (.iload 4, 2) := by decide +kernel
theorem dL_law_1207 : decode cL_law 1207 = .ok (.iconst 1, 1) := by decide +kernel
theorem dL_law_1208 : decode cL_law 1208 = .ok (.iadd, 1) := by decide +kernel
theorem dL_law_1209 : decode cL_law 1209 = .ok (.iaload, 1) := by decide +kernel
theorem dL_law_1210 : decode cL_law 1210 = .ok (.invokevirtual 165, 3) := by decide +kernel
theorem dL_law_1213 : decode cL_law 1213 = .ok (.pop, 1) := by decide +kernel
theorem dL_law_1214 : decode cL_law 1214 = .ok (.goto 3, 3) := by decide +kernel
theorem wd_888 : (.codeWith ⟨"DrawingVaultLaw", "about", "(LDrawingVault;II[J)I"⟩ method_18_code 5 (Option.some .int) [(0, 10, 13, 60)] : Cond) ∈ aw := aw_in (tb_3 (List.mem_of_getElem? (i := 229) rfl)) rfl
theorem wd_889 : (.methodLink "DrawingVaultLaw" 136 ⟨"DrawingVaultLaw", "about", "(LDrawingVault;II[J)I"⟩ : Cond) ∈ aw := aw_in (tb_3 (List.mem_of_getElem? (i := 227) rfl)) rfl
theorem wd_890 : (.static ⟨"DrawingVaultLaw", "about", "(LDrawingVault;II[J)I"⟩ : Cond) ∈ aw := aw_in (tb_3 (List.mem_of_getElem? (i := 228) rfl)) rfl
theorem wd_891 : (.code ⟨"DrawingVaultModel", "about", "(II)I"⟩ prog_9_method_61_code 7 (Option.some .int) : Cond) ∈ aw := aw_in (tb_5 (List.mem_of_getElem? (i := 58) rfl)) rfl
theorem wd_892 : (.methodLink "DrawingVaultLaw" 138 ⟨"DrawingVaultModel", "about", "(II)I"⟩ : Cond) ∈ aw := aw_in (tb_5 (List.mem_of_getElem? (i := 55) rfl)) rfl
theorem wd_893 : (.instanceMethod ⟨"DrawingVaultModel", "about", "(II)I"⟩ : Cond) ∈ aw := aw_in (tb_5 (List.mem_of_getElem? (i := 56) rfl)) rfl
theorem wd_894 : (.selects "DrawingVaultModel" ⟨"DrawingVaultModel", "about", "(II)I"⟩ ⟨"DrawingVaultModel", "about", "(II)I"⟩ : Cond) ∈ aw := aw_in (tb_5 (List.mem_of_getElem? (i := 57) rfl)) rfl
theorem wd_895 : (.codeWith ⟨"DrawingVaultLaw", "inBaseline", "(LDrawingVault;III[J)I"⟩ method_19_code 6 (Option.some .int) [(0, 12, 15, 60)] : Cond) ∈ aw := aw_in (tb_3 (List.mem_of_getElem? (i := 239) rfl)) rfl
theorem wd_896 : (.methodLink "DrawingVaultLaw" 139 ⟨"DrawingVaultLaw", "inBaseline", "(LDrawingVault;III[J)I"⟩ : Cond) ∈ aw := aw_in (tb_3 (List.mem_of_getElem? (i := 237) rfl)) rfl
theorem wd_897 : (.static ⟨"DrawingVaultLaw", "inBaseline", "(LDrawingVault;III[J)I"⟩ : Cond) ∈ aw := aw_in (tb_3 (List.mem_of_getElem? (i := 238) rfl)) rfl
theorem wd_898 : (.code ⟨"DrawingVaultModel", "inBaseline", "(III)I"⟩ prog_9_method_62_code 9 (Option.some .int) : Cond) ∈ aw := aw_in (tb_5 (List.mem_of_getElem? (i := 62) rfl)) rfl
theorem wd_899 : (.methodLink "DrawingVaultLaw" 141 ⟨"DrawingVaultModel", "inBaseline", "(III)I"⟩ : Cond) ∈ aw := aw_in (tb_5 (List.mem_of_getElem? (i := 59) rfl)) rfl
theorem wd_900 : (.instanceMethod ⟨"DrawingVaultModel", "inBaseline", "(III)I"⟩ : Cond) ∈ aw := aw_in (tb_5 (List.mem_of_getElem? (i := 60) rfl)) rfl
theorem wd_901 : (.selects "DrawingVaultModel" ⟨"DrawingVaultModel", "inBaseline", "(III)I"⟩ ⟨"DrawingVaultModel", "inBaseline", "(III)I"⟩ : Cond) ∈ aw := aw_in (tb_5 (List.mem_of_getElem? (i := 61) rfl)) rfl
theorem wd_902 : (.code ⟨"DrawingVault", "user", "(IZI)I"⟩ prog_1_method_20_code 7 (Option.some .int) : Cond) ∈ aw := aw_in (tb_1 (List.mem_of_getElem? (i := 134) rfl)) rfl
theorem wd_903 : (.methodLink "DrawingVaultLaw" 142 ⟨"DrawingVault", "user", "(IZI)I"⟩ : Cond) ∈ aw := aw_in (tb_1 (List.mem_of_getElem? (i := 131) rfl)) rfl
theorem wd_904 : (.instanceMethod ⟨"DrawingVault", "user", "(IZI)I"⟩ : Cond) ∈ aw := aw_in (tb_1 (List.mem_of_getElem? (i := 132) rfl)) rfl
theorem wd_905 : (.selects "DrawingVault" ⟨"DrawingVault", "user", "(IZI)I"⟩ ⟨"DrawingVault", "user", "(IZI)I"⟩ : Cond) ∈ aw := aw_in (tb_1 (List.mem_of_getElem? (i := 133) rfl)) rfl
theorem wd_906 : (.code ⟨"DrawingVaultModel", "user", "(IZI)I"⟩ prog_9_method_63_code 9 (Option.some .int) : Cond) ∈ aw := aw_in (tb_5 (List.mem_of_getElem? (i := 66) rfl)) rfl
theorem wd_907 : (.methodLink "DrawingVaultLaw" 146 ⟨"DrawingVaultModel", "user", "(IZI)I"⟩ : Cond) ∈ aw := aw_in (tb_5 (List.mem_of_getElem? (i := 63) rfl)) rfl
theorem wd_908 : (.instanceMethod ⟨"DrawingVaultModel", "user", "(IZI)I"⟩ : Cond) ∈ aw := aw_in (tb_5 (List.mem_of_getElem? (i := 64) rfl)) rfl
theorem wd_909 : (.selects "DrawingVaultModel" ⟨"DrawingVaultModel", "user", "(IZI)I"⟩ ⟨"DrawingVaultModel", "user", "(IZI)I"⟩ : Cond) ∈ aw := aw_in (tb_5 (List.mem_of_getElem? (i := 65) rfl)) rfl
theorem wd_910 : (.codeWith ⟨"DrawingVaultLaw", "difference", "(LDrawingVault;IIII[J)I"⟩ method_20_code 7 (Option.some .int) [(0, 14, 17, 60)] : Cond) ∈ aw := aw_in (tb_4 (List.mem_of_getElem? (i := 10) rfl)) rfl
theorem wd_911 : (.methodLink "DrawingVaultLaw" 147 ⟨"DrawingVaultLaw", "difference", "(LDrawingVault;IIII[J)I"⟩ : Cond) ∈ aw := aw_in (tb_4 (List.mem_of_getElem? (i := 8) rfl)) rfl
theorem wd_912 : (.static ⟨"DrawingVaultLaw", "difference", "(LDrawingVault;IIII[J)I"⟩ : Cond) ∈ aw := aw_in (tb_4 (List.mem_of_getElem? (i := 9) rfl)) rfl
theorem wd_913 : (.code ⟨"DrawingVaultModel", "difference", "(IIII)I"⟩ prog_9_method_64_code 12 (Option.some .int) : Cond) ∈ aw := aw_in (tb_5 (List.mem_of_getElem? (i := 70) rfl)) rfl
theorem wd_914 : (.methodLink "DrawingVaultLaw" 149 ⟨"DrawingVaultModel", "difference", "(IIII)I"⟩ : Cond) ∈ aw := aw_in (tb_5 (List.mem_of_getElem? (i := 67) rfl)) rfl
theorem wd_915 : (.instanceMethod ⟨"DrawingVaultModel", "difference", "(IIII)I"⟩ : Cond) ∈ aw := aw_in (tb_5 (List.mem_of_getElem? (i := 68) rfl)) rfl
theorem wd_916 : (.selects "DrawingVaultModel" ⟨"DrawingVaultModel", "difference", "(IIII)I"⟩ ⟨"DrawingVaultModel", "difference", "(IIII)I"⟩ : Cond) ∈ aw := aw_in (tb_5 (List.mem_of_getElem? (i := 69) rfl)) rfl
theorem wd_917 : (.code ⟨"DrawingVaultModel", "thrown", "()I"⟩ prog_9_method_2_code 1 (Option.some .int) : Cond) ∈ aw := aw_in (tb_4 (List.mem_of_getElem? (i := 68) rfl)) rfl
theorem wd_918 : (.methodLink "DrawingVaultLaw" 150 ⟨"DrawingVaultModel", "thrown", "()I"⟩ : Cond) ∈ aw := aw_in (tb_4 (List.mem_of_getElem? (i := 65) rfl)) rfl
theorem wd_919 : (.instanceMethod ⟨"DrawingVaultModel", "thrown", "()I"⟩ : Cond) ∈ aw := aw_in (tb_4 (List.mem_of_getElem? (i := 66) rfl)) rfl
theorem wd_920 : (.selects "DrawingVaultModel" ⟨"DrawingVaultModel", "thrown", "()I"⟩ ⟨"DrawingVaultModel", "thrown", "()I"⟩ : Cond) ∈ aw := aw_in (tb_4 (List.mem_of_getElem? (i := 67) rfl)) rfl
theorem wd_921 : (.code ⟨"DrawingVault", "failAfter", "(I)Z"⟩ prog_1_method_22_code 2 (Option.some .boolean) : Cond) ∈ aw := aw_in (tb_1 (List.mem_of_getElem? (i := 170) rfl)) rfl
theorem wd_922 : (.methodLink "DrawingVaultLaw" 153 ⟨"DrawingVault", "failAfter", "(I)Z"⟩ : Cond) ∈ aw := aw_in (tb_1 (List.mem_of_getElem? (i := 167) rfl)) rfl
theorem wd_923 : (.instanceMethod ⟨"DrawingVault", "failAfter", "(I)Z"⟩ : Cond) ∈ aw := aw_in (tb_1 (List.mem_of_getElem? (i := 168) rfl)) rfl
theorem wd_924 : (.selects "DrawingVault" ⟨"DrawingVault", "failAfter", "(I)Z"⟩ ⟨"DrawingVault", "failAfter", "(I)Z"⟩ : Cond) ∈ aw := aw_in (tb_1 (List.mem_of_getElem? (i := 169) rfl)) rfl
theorem wd_925 : (.code ⟨"DrawingVaultModel", "failAfter", "(I)Z"⟩ prog_9_method_65_code 2 (Option.some .boolean) : Cond) ∈ aw := aw_in (tb_5 (List.mem_of_getElem? (i := 74) rfl)) rfl
theorem wd_926 : (.methodLink "DrawingVaultLaw" 157 ⟨"DrawingVaultModel", "failAfter", "(I)Z"⟩ : Cond) ∈ aw := aw_in (tb_5 (List.mem_of_getElem? (i := 71) rfl)) rfl
theorem wd_927 : (.instanceMethod ⟨"DrawingVaultModel", "failAfter", "(I)Z"⟩ : Cond) ∈ aw := aw_in (tb_5 (List.mem_of_getElem? (i := 72) rfl)) rfl
theorem wd_928 : (.selects "DrawingVaultModel" ⟨"DrawingVaultModel", "failAfter", "(I)Z"⟩ ⟨"DrawingVaultModel", "failAfter", "(I)Z"⟩ : Cond) ∈ aw := aw_in (tb_5 (List.mem_of_getElem? (i := 73) rfl)) rfl
theorem wd_929 : (.code ⟨"DrawingVault", "start", "()I"⟩ prog_1_method_23_code 2 (Option.some .int) : Cond) ∈ aw := aw_in (tb_1 (List.mem_of_getElem? (i := 178) rfl)) rfl
theorem wd_930 : (.methodLink "DrawingVaultLaw" 158 ⟨"DrawingVault", "start", "()I"⟩ : Cond) ∈ aw := aw_in (tb_1 (List.mem_of_getElem? (i := 175) rfl)) rfl
theorem wd_931 : (.instanceMethod ⟨"DrawingVault", "start", "()I"⟩ : Cond) ∈ aw := aw_in (tb_1 (List.mem_of_getElem? (i := 176) rfl)) rfl
theorem wd_932 : (.selects "DrawingVault" ⟨"DrawingVault", "start", "()I"⟩ ⟨"DrawingVault", "start", "()I"⟩ : Cond) ∈ aw := aw_in (tb_1 (List.mem_of_getElem? (i := 177) rfl)) rfl
theorem wd_933 : (.code ⟨"DrawingVaultModel", "start", "()I"⟩ prog_9_method_66_code 3 (Option.some .int) : Cond) ∈ aw := aw_in (tb_5 (List.mem_of_getElem? (i := 78) rfl)) rfl
theorem wd_934 : (.methodLink "DrawingVaultLaw" 161 ⟨"DrawingVaultModel", "start", "()I"⟩ : Cond) ∈ aw := aw_in (tb_5 (List.mem_of_getElem? (i := 75) rfl)) rfl
theorem wd_935 : (.instanceMethod ⟨"DrawingVaultModel", "start", "()I"⟩ : Cond) ∈ aw := aw_in (tb_5 (List.mem_of_getElem? (i := 76) rfl)) rfl
theorem wd_936 : (.selects "DrawingVaultModel" ⟨"DrawingVaultModel", "start", "()I"⟩ ⟨"DrawingVaultModel", "start", "()I"⟩ : Cond) ∈ aw := aw_in (tb_5 (List.mem_of_getElem? (i := 77) rfl)) rfl
theorem wd_937 : (.code ⟨"DrawingVault", "count", "(I)I"⟩ prog_1_method_24_code 2 (Option.some .int) : Cond) ∈ aw := aw_in (tb_1 (List.mem_of_getElem? (i := 197) rfl)) rfl
theorem wd_938 : (.methodLink "DrawingVaultLaw" 162 ⟨"DrawingVault", "count", "(I)I"⟩ : Cond) ∈ aw := aw_in (tb_1 (List.mem_of_getElem? (i := 194) rfl)) rfl
theorem wd_939 : (.instanceMethod ⟨"DrawingVault", "count", "(I)I"⟩ : Cond) ∈ aw := aw_in (tb_1 (List.mem_of_getElem? (i := 195) rfl)) rfl
theorem wd_940 : (.selects "DrawingVault" ⟨"DrawingVault", "count", "(I)I"⟩ ⟨"DrawingVault", "count", "(I)I"⟩ : Cond) ∈ aw := aw_in (tb_1 (List.mem_of_getElem? (i := 196) rfl)) rfl
theorem wd_941 : (.code ⟨"DrawingVaultModel", "count", "(I)I"⟩ prog_9_method_67_code 4 (Option.some .int) : Cond) ∈ aw := aw_in (tb_5 (List.mem_of_getElem? (i := 82) rfl)) rfl
theorem wd_942 : (.methodLink "DrawingVaultLaw" 165 ⟨"DrawingVaultModel", "count", "(I)I"⟩ : Cond) ∈ aw := aw_in (tb_5 (List.mem_of_getElem? (i := 79) rfl)) rfl
theorem wd_943 : (.instanceMethod ⟨"DrawingVaultModel", "count", "(I)I"⟩ : Cond) ∈ aw := aw_in (tb_5 (List.mem_of_getElem? (i := 80) rfl)) rfl
theorem wd_944 : (.selects "DrawingVaultModel" ⟨"DrawingVaultModel", "count", "(I)I"⟩ ⟨"DrawingVaultModel", "count", "(I)I"⟩ : Cond) ∈ aw := aw_in (tb_5 (List.mem_of_getElem? (i := 81) rfl)) rfl
def LC_16 (n : Nat) (σ : hT) (v1 v2 v3 v4 v5 : Int32) : Option (Int32 × hT) := Option.bind (L_about n σ v1 v2) fun ⟨y1, σ2⟩ => Option.bind (M_about n σ2 v1 v2) fun ⟨y4, σ5⟩ => some (1, σ5)
def LC_17 (n : Nat) (σ : hT) (v1 v2 v3 v4 v5 : Int32) : Option (Int32 × hT) := Option.bind (L_inBaseline n σ v1 v2 v3) fun ⟨y1, σ2⟩ => Option.bind (M_inBaseline n σ2 v1 v2 v3) fun ⟨y4, σ5⟩ => some (1, σ5)
def LC_18 (n : Nat) (σ : hT) (v1 v2 v3 v4 v5 : Int32) : Option (Int32 × hT) := lt9 (α := Int32 → Option (Int32 × hT)) (fun (s2 : Int32) => Option.bind (V_user n σ v1 s2 v3) fun y5 => lt9 (α := Int32 → Option (Int32 × hT)) (fun (s7 : Int32) => Option.bind (M_user n σ v1 s7 v3) fun ⟨y10, σ11⟩ => some (1, σ11)) fun x6 => if v2 = 0 then x6 0 else x6 1) fun x1 => if v2 = 0 then x1 0 else x1 1
def LC_19 (n : Nat) (σ : hT) (v1 v2 v3 v4 v5 : Int32) : Option (Int32 × hT) := Option.bind (L_difference n σ v1 v2 v3 v4) fun ⟨y1, σ2⟩ => Option.bind (M_difference n σ2 v1 v2 v3 v4) fun ⟨y4, σ5⟩ => if (M_thrown σ5) = y1 then if y1 = 0 then if (lg_cmp (xL σ5 24 0 0) (y4).toInt64) = 0 then some (1, σ5) else some (0, σ5) else some (1, σ5) else some (0, σ5)
def LC_20 (n : Nat) (σ : hT) (v1 v2 v3 v4 v5 : Int32) : Option (Int32 × hT) := Option.bind (V_failAfter σ v1) fun ⟨y2, σ3⟩ => Option.bind (M_failAfter σ3 v1) fun ⟨y5, σ6⟩ => some (1, σ6)
def LC_21 (n : Nat) (σ : hT) (v1 v2 v3 v4 v5 : Int32) : Option (Int32 × hT) := Option.bind (V_start n σ) fun ⟨y2, σ3⟩ => Option.bind (M_start n σ3) fun ⟨y5, σ6⟩ => some (1, σ6)
def LC_22 (n : Nat) (σ : hT) (v1 v2 v3 v4 v5 : Int32) : Option (Int32 × hT) := Option.bind (V_count n σ v1) fun ⟨y2, σ3⟩ => Option.bind (M_count n σ3 v1) fun ⟨y5, σ6⟩ => some (1, σ6)
set_option maxHeartbeats 4000000 in
set_option maxRecDepth 100000 in
theorem lawc_16 {p : Program} {l : Launch} {e : Env} {s : State} {m : MethodId} {below : List Frame} {meth : Method} {c : Code} {b L : Nat} {xs : Nat → Int32} {A : Nat → Prop} {H : Heap} {locs : List Loc} {ls : Array Slot} {dC : Nat → ClassId} {dI : Nat → Nat → Nat} {Q : State → Prop} {kc ks : Nat} (hfl : l.stackTraces = false) (C : lawH p s m meth c b L xs A) (ad : Nat → Nat → Nat) (ca : Nat → Nat → ClassId) (dom : List (Nat × Nat)) (σ : hT) (i : Int32) (n : Nat) (v1 v2 v3 v4 v5 : Int32)
    (hv1 : vp_in (i + 1) L) (hv2 : vp_in (i + 2) L) (hv3 : vp_in (i + 3) L) (hv4 : vp_in (i + 4) L) (hv5 : vp_in (i + 5) L) (e1 : xs (i + 1).toNatClampNeg = v1) (e2 : xs (i + 2).toNatClampNeg = v2) (e3 : xs (i + 3).toNatClampNeg = v3) (e4 : xs (i + 4).toNatClampNeg = v4) (e5 : xs (i + 5).toNatClampNeg = v5)
    (hmV : (0, 0) ∈ dom) (hmM : (4, 0) ∈ dom) (hmO : (24, 0) ∈ dom) (hN : dom.Nodup) (hC : clo dom σ.2.2) (hP : va_P (dC, dI) kCl (w9 ad ca dom σ) H) (hD : va_D A (w9 ad ca dom σ)) (hK : hkt (dC, dI) ca dom s) (hS : va_S A s.heap H locs) (hl : lv_has ls 7 [(4, .int i), (3, .ref (ad 24 0)), (2, .ref (ad 4 0)), (1, .ref (ad 0 0)), (0, .ref b)]) (hkc : kc + 16 ≤ 601024) (hks : ks + 101 ≤ 7293033) (σ' : hT) (hf : LC_16 n σ v1 v2 v3 v4 v5 = some (1, σ'))
    (kk : ∀ (ad' : Nat → Nat → Nat) (ca' : Nat → Nat → ClassId) (dom' : List (Nat × Nat)) (H' : Heap) (locs' : List Loc) (ls' : Array Slot), dom' = dom → dom'.Nodup → clo dom' σ'.2.2 → va_P (dC, dI) kCl (w9 ad' ca' dom' σ') H' → va_D A (w9 ad' ca' dom' σ') → hkt (dC, dI) ca' dom' s → va_S A s.heap H' locs' → lv_has ls' 7 [(4, .int i), (3, .ref (ad' 24 0)), (2, .ref (ad' 4 0)), (1, .ref (ad' 0 0)), (0, .ref b)] → W p l e room_1 s m #[Value.ref b] below meth c H' locs' (kc + 16) (ks + 101) Q (F0 m 1217 ls' [])) :
    W p l e room_1 s m #[Value.ref b] below meth c H locs kc ks Q (F0 m 905 ls []) := by
  obtain ⟨hx, hb, hr, hml, hown, hts, hX, hbl, hbA, hlocks, hA, hA2, hG, hE0⟩ := C
  unfold LC_16 at hf
  refine lv_aload_n (pc := 905) hx hb dL_law_905 rfl (lv_at hl 3 rfl) ?_
  refine lv_aload_n (pc := 906) hx hb dL_law_906 rfl (lv_at hl 4 rfl) ?_
  refine lv_iload (pc := 907) hx hb dL_law_907 (lv_at hl 0 rfl) ?_
  refine lv_iconst (pc := 909) (v := 1) hx hb dL_law_909 (by decide) ?_
  refine lv_iadd (pc := 910) hx hb dL_law_910 ?_
  refine va_sld (A := A) (pc := 911) hx hb hX hbl hbA hS hv1 dL_law_911 ?_
  refine W.eq (g2 := F0 m 912 ls [.int v1, .ref (ad 0 0)]) (by rw [e1]) ?_
  refine lv_aload_n (pc := 912) hx hb dL_law_912 rfl (lv_at hl 4 rfl) ?_
  refine lv_iload (pc := 913) hx hb dL_law_913 (lv_at hl 0 rfl) ?_
  refine lv_iconst (pc := 915) (v := 2) hx hb dL_law_915 (by decide) ?_
  refine lv_iadd (pc := 916) hx hb dL_law_916 ?_
  refine va_sld (A := A) (pc := 917) hx hb hX hbl hbA hS hv2 dL_law_917 ?_
  refine W.eq (g2 := F0 m 918 ls [.int v2, .int v1, .ref (ad 0 0)]) (by rw [e2]) ?_
  refine lv_aload_n (pc := 918) hx hb dL_law_918 rfl (lv_at hl 1 rfl) ?_
  obtain ⟨⟨y1, σ2⟩, hy1, hf⟩ := ob hf
  have hE := xE.mono hE0 (fun q z => hA2 q (w9_xA hD z))
  have hSA : ∀ q : Nat, q < s.heap.size → A q → xS ad dom q := fun q h z => absurd (hA2 q z) (Nat.not_le.mpr h)
  have hFc := w9_free hD hS hA
  refine va_calli (pc := 919) (hxR (As := [.ref (ad 0 0), .int v1, .int v2, .ref (ad 24 0)]) (rest := []) ⟨hx, hb, hml, hown, hts⟩ (t_L_about l dC dI ad ca dom H.size n σ v1 v2 hmV hmO hN hC hfl y1 σ2 hy1) 4 wd_889 wd_890 wd_777 wd_888 rfl rfl ⟨Nat.le_of_ble_eq_true rfl, Nat.le_of_ble_eq_true rfl⟩ (by decide +kernel) ⟨hX_blind, hX_pre hP hK hD hG hE hS hSA⟩ rfl rfl hl.1 rfl (lv_room (Nat.le_of_ble_eq_true rfl)) dL_law_919 ⟨show kc + 0 + 1 ≤ 601024 by omega, show ks + 0 + 6 ≤ 7293033 by omega⟩) hS (fun q _ h => hFc q h) hFc (fun r9 u t H1 locs ht hvm hr9 hB hz1 hk1 hS => ?_)
  obtain ⟨hP, hD, hC⟩ := hB
  rw [ht] at hP
  replace hD := hD.weaken (fun _ _ _ h => hFc _ h)
  generalize H1 = H at hP hS ⊢
  refine W.widen (k := (kc + 1)) (n := (ks + 6)) (by omega) (by omega) ?_
  refine W.eq (g2 := F0 m 922 ls [.int y1]) (by rw [hr9]) ?_
  refine lv_istore (pc := 922) hx hb dL_law_922 hl (by decide) rfl (fun ls hl => ?_)
  have hl : lv_has ls 7 [(5, .int y1), (4, .int i), (3, .ref (ad 24 0)), (2, .ref (ad 4 0)), (1, .ref (ad 0 0)), (0, .ref b)] := hl
  refine lv_aload_n (pc := 924) hx hb dL_law_924 rfl (lv_at hl 3 rfl) ?_
  refine lv_aload_n (pc := 925) hx hb dL_law_925 rfl (lv_at hl 5 rfl) ?_
  refine lv_iload (pc := 926) hx hb dL_law_926 (lv_at hl 1 rfl) ?_
  refine lv_iconst (pc := 928) (v := 1) hx hb dL_law_928 (by decide) ?_
  refine lv_iadd (pc := 929) hx hb dL_law_929 ?_
  refine va_sld (A := A) (pc := 930) hx hb hX hbl hbA hS hv1 dL_law_930 ?_
  refine W.eq (g2 := F0 m 931 ls [.int v1, .ref (ad 4 0)]) (by rw [e1]) ?_
  refine lv_aload_n (pc := 931) hx hb dL_law_931 rfl (lv_at hl 5 rfl) ?_
  refine lv_iload (pc := 932) hx hb dL_law_932 (lv_at hl 1 rfl) ?_
  refine lv_iconst (pc := 934) (v := 2) hx hb dL_law_934 (by decide) ?_
  refine lv_iadd (pc := 935) hx hb dL_law_935 ?_
  refine va_sld (A := A) (pc := 936) hx hb hX hbl hbA hS hv2 dL_law_936 ?_
  refine W.eq (g2 := F0 m 937 ls [.int v2, .int v1, .ref (ad 4 0)]) (by rw [e2]) ?_
  obtain ⟨q3, hq3, eq3⟩ := at_4 (ad := ad) (ca := ca) (σ := σ2) hmM
  obtain ⟨⟨y4, σ5⟩, hy4, hf⟩ := ob hf
  have hFc := w9_free hD hS hA
  refine va_calli (pc := 937) (va_runV (As := [.int v1, .int v2]) (rest := []) ⟨hx, hb, hml, hown, hts⟩ (t_M_about l dC dI ad ca dom H.size n σ2 v1 v2 hmM hN hC y4 σ5 hy4) (cwV 2 hts (gV wd_892 wd_893 wd_894 wd_50 wd_891) rfl rfl rfl (by decide +kernel) ⟨Nat.le_of_ble_eq_true rfl, Nat.le_of_ble_eq_true rfl⟩) ⟨hW_blind, va_recv (q := (RM, TM, 11)) (q0 := q3) (ci := 4) hK.1 hP rfl eq3, hW_pre hP hK hD hG⟩ rfl rfl hl.1 rfl (lv_room (Nat.le_of_ble_eq_true rfl)) dL_law_937 ⟨show kc + 1 + 0 ≤ 601024 by omega, show ks + 6 + 0 ≤ 7293033 by omega⟩) hS (fun q _ h => hFc q h) hFc (fun r9 u t H1 locs ht hvm hr9 hB hz1 hk1 hS => ?_)
  obtain ⟨hP, hD, hC⟩ := hB
  rw [ht] at hP
  replace hD := hD.weaken (fun _ _ _ h => hFc _ h)
  generalize H1 = H at hP hS ⊢
  refine W.eq (g2 := F0 m 940 ls [.int y4]) (by rw [hr9]) ?_
  refine lv_istore (pc := 940) hx hb dL_law_940 hl (by decide) rfl (fun ls hl => ?_)
  have hl : lv_has ls 7 [(6, .int y4), (5, .int y1), (4, .int i), (3, .ref (ad 24 0)), (2, .ref (ad 4 0)), (1, .ref (ad 0 0)), (0, .ref b)] := hl
  refine lv_goto (pc := 942) (tgt := 1217) hx hb dL_law_942 rfl ?_
  obtain ⟨-, h9⟩ := Prod.mk.inj (Option.some.inj hf)
  subst h9
  have hl := lv_sub hl (l' := [(4, .int i), (3, .ref (ad 24 0)), (2, .ref (ad 4 0)), (1, .ref (ad 0 0)), (0, .ref b)]) [2, 3, 4, 5, 6] rfl
  refine W.widen (k := kc + 16) (n := ks + 101) (by omega) (by omega) ?_
  exact kk ad ca dom H _ ls rfl hN hC hP hD hK hS hl
set_option maxHeartbeats 4000000 in
set_option maxRecDepth 100000 in
theorem lawc_17 {p : Program} {l : Launch} {e : Env} {s : State} {m : MethodId} {below : List Frame} {meth : Method} {c : Code} {b L : Nat} {xs : Nat → Int32} {A : Nat → Prop} {H : Heap} {locs : List Loc} {ls : Array Slot} {dC : Nat → ClassId} {dI : Nat → Nat → Nat} {Q : State → Prop} {kc ks : Nat} (hfl : l.stackTraces = false) (C : lawH p s m meth c b L xs A) (ad : Nat → Nat → Nat) (ca : Nat → Nat → ClassId) (dom : List (Nat × Nat)) (σ : hT) (i : Int32) (n : Nat) (v1 v2 v3 v4 v5 : Int32)
    (hv1 : vp_in (i + 1) L) (hv2 : vp_in (i + 2) L) (hv3 : vp_in (i + 3) L) (hv4 : vp_in (i + 4) L) (hv5 : vp_in (i + 5) L) (e1 : xs (i + 1).toNatClampNeg = v1) (e2 : xs (i + 2).toNatClampNeg = v2) (e3 : xs (i + 3).toNatClampNeg = v3) (e4 : xs (i + 4).toNatClampNeg = v4) (e5 : xs (i + 5).toNatClampNeg = v5)
    (hmV : (0, 0) ∈ dom) (hmM : (4, 0) ∈ dom) (hmO : (24, 0) ∈ dom) (hN : dom.Nodup) (hC : clo dom σ.2.2) (hP : va_P (dC, dI) kCl (w9 ad ca dom σ) H) (hD : va_D A (w9 ad ca dom σ)) (hK : hkt (dC, dI) ca dom s) (hS : va_S A s.heap H locs) (hl : lv_has ls 7 [(4, .int i), (3, .ref (ad 24 0)), (2, .ref (ad 4 0)), (1, .ref (ad 0 0)), (0, .ref b)]) (hkc : kc + 16 ≤ 601024) (hks : ks + 101 ≤ 7293033) (σ' : hT) (hf : LC_17 n σ v1 v2 v3 v4 v5 = some (1, σ'))
    (kk : ∀ (ad' : Nat → Nat → Nat) (ca' : Nat → Nat → ClassId) (dom' : List (Nat × Nat)) (H' : Heap) (locs' : List Loc) (ls' : Array Slot), dom' = dom → dom'.Nodup → clo dom' σ'.2.2 → va_P (dC, dI) kCl (w9 ad' ca' dom' σ') H' → va_D A (w9 ad' ca' dom' σ') → hkt (dC, dI) ca' dom' s → va_S A s.heap H' locs' → lv_has ls' 7 [(4, .int i), (3, .ref (ad' 24 0)), (2, .ref (ad' 4 0)), (1, .ref (ad' 0 0)), (0, .ref b)] → W p l e room_1 s m #[Value.ref b] below meth c H' locs' (kc + 16) (ks + 101) Q (F0 m 1217 ls' [])) :
    W p l e room_1 s m #[Value.ref b] below meth c H locs kc ks Q (F0 m 945 ls []) := by
  obtain ⟨hx, hb, hr, hml, hown, hts, hX, hbl, hbA, hlocks, hA, hA2, hG, hE0⟩ := C
  unfold LC_17 at hf
  refine lv_aload_n (pc := 945) hx hb dL_law_945 rfl (lv_at hl 3 rfl) ?_
  refine lv_aload_n (pc := 946) hx hb dL_law_946 rfl (lv_at hl 4 rfl) ?_
  refine lv_iload (pc := 947) hx hb dL_law_947 (lv_at hl 0 rfl) ?_
  refine lv_iconst (pc := 949) (v := 1) hx hb dL_law_949 (by decide) ?_
  refine lv_iadd (pc := 950) hx hb dL_law_950 ?_
  refine va_sld (A := A) (pc := 951) hx hb hX hbl hbA hS hv1 dL_law_951 ?_
  refine W.eq (g2 := F0 m 952 ls [.int v1, .ref (ad 0 0)]) (by rw [e1]) ?_
  refine lv_aload_n (pc := 952) hx hb dL_law_952 rfl (lv_at hl 4 rfl) ?_
  refine lv_iload (pc := 953) hx hb dL_law_953 (lv_at hl 0 rfl) ?_
  refine lv_iconst (pc := 955) (v := 2) hx hb dL_law_955 (by decide) ?_
  refine lv_iadd (pc := 956) hx hb dL_law_956 ?_
  refine va_sld (A := A) (pc := 957) hx hb hX hbl hbA hS hv2 dL_law_957 ?_
  refine W.eq (g2 := F0 m 958 ls [.int v2, .int v1, .ref (ad 0 0)]) (by rw [e2]) ?_
  refine lv_aload_n (pc := 958) hx hb dL_law_958 rfl (lv_at hl 4 rfl) ?_
  refine lv_iload (pc := 959) hx hb dL_law_959 (lv_at hl 0 rfl) ?_
  refine lv_iconst (pc := 961) (v := 3) hx hb dL_law_961 (by decide) ?_
  refine lv_iadd (pc := 962) hx hb dL_law_962 ?_
  refine va_sld (A := A) (pc := 963) hx hb hX hbl hbA hS hv3 dL_law_963 ?_
  refine W.eq (g2 := F0 m 964 ls [.int v3, .int v2, .int v1, .ref (ad 0 0)]) (by rw [e3]) ?_
  refine lv_aload_n (pc := 964) hx hb dL_law_964 rfl (lv_at hl 1 rfl) ?_
  obtain ⟨⟨y1, σ2⟩, hy1, hf⟩ := ob hf
  have hE := xE.mono hE0 (fun q z => hA2 q (w9_xA hD z))
  have hSA : ∀ q : Nat, q < s.heap.size → A q → xS ad dom q := fun q h z => absurd (hA2 q z) (Nat.not_le.mpr h)
  have hFc := w9_free hD hS hA
  refine va_calli (pc := 965) (hxR (As := [.ref (ad 0 0), .int v1, .int v2, .int v3, .ref (ad 24 0)]) (rest := []) ⟨hx, hb, hml, hown, hts⟩ (t_L_inBaseline l dC dI ad ca dom H.size n σ v1 v2 v3 hmV hmO hN hC hfl y1 σ2 hy1) 5 wd_896 wd_897 wd_777 wd_895 rfl rfl ⟨Nat.le_of_ble_eq_true rfl, Nat.le_of_ble_eq_true rfl⟩ (by decide +kernel) ⟨hX_blind, hX_pre hP hK hD hG hE hS hSA⟩ rfl rfl hl.1 rfl (lv_room (Nat.le_of_ble_eq_true rfl)) dL_law_965 ⟨show kc + 0 + 1 ≤ 601024 by omega, show ks + 0 + 6 ≤ 7293033 by omega⟩) hS (fun q _ h => hFc q h) hFc (fun r9 u t H1 locs ht hvm hr9 hB hz1 hk1 hS => ?_)
  obtain ⟨hP, hD, hC⟩ := hB
  rw [ht] at hP
  replace hD := hD.weaken (fun _ _ _ h => hFc _ h)
  generalize H1 = H at hP hS ⊢
  refine W.widen (k := (kc + 1)) (n := (ks + 6)) (by omega) (by omega) ?_
  refine W.eq (g2 := F0 m 968 ls [.int y1]) (by rw [hr9]) ?_
  refine lv_istore (pc := 968) hx hb dL_law_968 hl (by decide) rfl (fun ls hl => ?_)
  have hl : lv_has ls 7 [(5, .int y1), (4, .int i), (3, .ref (ad 24 0)), (2, .ref (ad 4 0)), (1, .ref (ad 0 0)), (0, .ref b)] := hl
  refine lv_aload_n (pc := 970) hx hb dL_law_970 rfl (lv_at hl 3 rfl) ?_
  refine lv_aload_n (pc := 971) hx hb dL_law_971 rfl (lv_at hl 5 rfl) ?_
  refine lv_iload (pc := 972) hx hb dL_law_972 (lv_at hl 1 rfl) ?_
  refine lv_iconst (pc := 974) (v := 1) hx hb dL_law_974 (by decide) ?_
  refine lv_iadd (pc := 975) hx hb dL_law_975 ?_
  refine va_sld (A := A) (pc := 976) hx hb hX hbl hbA hS hv1 dL_law_976 ?_
  refine W.eq (g2 := F0 m 977 ls [.int v1, .ref (ad 4 0)]) (by rw [e1]) ?_
  refine lv_aload_n (pc := 977) hx hb dL_law_977 rfl (lv_at hl 5 rfl) ?_
  refine lv_iload (pc := 978) hx hb dL_law_978 (lv_at hl 1 rfl) ?_
  refine lv_iconst (pc := 980) (v := 2) hx hb dL_law_980 (by decide) ?_
  refine lv_iadd (pc := 981) hx hb dL_law_981 ?_
  refine va_sld (A := A) (pc := 982) hx hb hX hbl hbA hS hv2 dL_law_982 ?_
  refine W.eq (g2 := F0 m 983 ls [.int v2, .int v1, .ref (ad 4 0)]) (by rw [e2]) ?_
  refine lv_aload_n (pc := 983) hx hb dL_law_983 rfl (lv_at hl 5 rfl) ?_
  refine lv_iload (pc := 984) hx hb dL_law_984 (lv_at hl 1 rfl) ?_
  refine lv_iconst (pc := 986) (v := 3) hx hb dL_law_986 (by decide) ?_
  refine lv_iadd (pc := 987) hx hb dL_law_987 ?_
  refine va_sld (A := A) (pc := 988) hx hb hX hbl hbA hS hv3 dL_law_988 ?_
  refine W.eq (g2 := F0 m 989 ls [.int v3, .int v2, .int v1, .ref (ad 4 0)]) (by rw [e3]) ?_
  obtain ⟨q3, hq3, eq3⟩ := at_4 (ad := ad) (ca := ca) (σ := σ2) hmM
  obtain ⟨⟨y4, σ5⟩, hy4, hf⟩ := ob hf
  have hFc := w9_free hD hS hA
  refine va_calli (pc := 989) (va_runV (As := [.int v1, .int v2, .int v3]) (rest := []) ⟨hx, hb, hml, hown, hts⟩ (t_M_inBaseline l dC dI ad ca dom H.size n σ2 v1 v2 v3 hmM hN hC y4 σ5 hy4) (cwV 3 hts (gV wd_899 wd_900 wd_901 wd_50 wd_898) rfl rfl rfl (by decide +kernel) ⟨Nat.le_of_ble_eq_true rfl, Nat.le_of_ble_eq_true rfl⟩) ⟨hW_blind, va_recv (q := (RM, TM, 11)) (q0 := q3) (ci := 4) hK.1 hP rfl eq3, hW_pre hP hK hD hG⟩ rfl rfl hl.1 rfl (lv_room (Nat.le_of_ble_eq_true rfl)) dL_law_989 ⟨show kc + 1 + 0 ≤ 601024 by omega, show ks + 6 + 0 ≤ 7293033 by omega⟩) hS (fun q _ h => hFc q h) hFc (fun r9 u t H1 locs ht hvm hr9 hB hz1 hk1 hS => ?_)
  obtain ⟨hP, hD, hC⟩ := hB
  rw [ht] at hP
  replace hD := hD.weaken (fun _ _ _ h => hFc _ h)
  generalize H1 = H at hP hS ⊢
  refine W.eq (g2 := F0 m 992 ls [.int y4]) (by rw [hr9]) ?_
  refine lv_istore (pc := 992) hx hb dL_law_992 hl (by decide) rfl (fun ls hl => ?_)
  have hl : lv_has ls 7 [(6, .int y4), (5, .int y1), (4, .int i), (3, .ref (ad 24 0)), (2, .ref (ad 4 0)), (1, .ref (ad 0 0)), (0, .ref b)] := hl
  refine lv_goto (pc := 994) (tgt := 1217) hx hb dL_law_994 rfl ?_
  obtain ⟨-, h9⟩ := Prod.mk.inj (Option.some.inj hf)
  subst h9
  have hl := lv_sub hl (l' := [(4, .int i), (3, .ref (ad 24 0)), (2, .ref (ad 4 0)), (1, .ref (ad 0 0)), (0, .ref b)]) [2, 3, 4, 5, 6] rfl
  refine W.widen (k := kc + 16) (n := ks + 101) (by omega) (by omega) ?_
  exact kk ad ca dom H _ ls rfl hN hC hP hD hK hS hl
set_option maxHeartbeats 4000000 in
set_option maxRecDepth 100000 in
theorem lawc_18 {p : Program} {l : Launch} {e : Env} {s : State} {m : MethodId} {below : List Frame} {meth : Method} {c : Code} {b L : Nat} {xs : Nat → Int32} {A : Nat → Prop} {H : Heap} {locs : List Loc} {ls : Array Slot} {dC : Nat → ClassId} {dI : Nat → Nat → Nat} {Q : State → Prop} {kc ks : Nat} (hfl : l.stackTraces = false) (C : lawH p s m meth c b L xs A) (ad : Nat → Nat → Nat) (ca : Nat → Nat → ClassId) (dom : List (Nat × Nat)) (σ : hT) (i : Int32) (n : Nat) (v1 v2 v3 v4 v5 : Int32)
    (hv1 : vp_in (i + 1) L) (hv2 : vp_in (i + 2) L) (hv3 : vp_in (i + 3) L) (hv4 : vp_in (i + 4) L) (hv5 : vp_in (i + 5) L) (e1 : xs (i + 1).toNatClampNeg = v1) (e2 : xs (i + 2).toNatClampNeg = v2) (e3 : xs (i + 3).toNatClampNeg = v3) (e4 : xs (i + 4).toNatClampNeg = v4) (e5 : xs (i + 5).toNatClampNeg = v5)
    (hmV : (0, 0) ∈ dom) (hmM : (4, 0) ∈ dom) (hmO : (24, 0) ∈ dom) (hN : dom.Nodup) (hC : clo dom σ.2.2) (hP : va_P (dC, dI) kCl (w9 ad ca dom σ) H) (hD : va_D A (w9 ad ca dom σ)) (hK : hkt (dC, dI) ca dom s) (hS : va_S A s.heap H locs) (hl : lv_has ls 7 [(4, .int i), (3, .ref (ad 24 0)), (2, .ref (ad 4 0)), (1, .ref (ad 0 0)), (0, .ref b)]) (hkc : kc + 16 ≤ 601024) (hks : ks + 101 ≤ 7293033) (σ' : hT) (hf : LC_18 n σ v1 v2 v3 v4 v5 = some (1, σ'))
    (kk : ∀ (ad' : Nat → Nat → Nat) (ca' : Nat → Nat → ClassId) (dom' : List (Nat × Nat)) (H' : Heap) (locs' : List Loc) (ls' : Array Slot), dom' = dom → dom'.Nodup → clo dom' σ'.2.2 → va_P (dC, dI) kCl (w9 ad' ca' dom' σ') H' → va_D A (w9 ad' ca' dom' σ') → hkt (dC, dI) ca' dom' s → va_S A s.heap H' locs' → lv_has ls' 7 [(4, .int i), (3, .ref (ad' 24 0)), (2, .ref (ad' 4 0)), (1, .ref (ad' 0 0)), (0, .ref b)] → W p l e room_1 s m #[Value.ref b] below meth c H' locs' (kc + 16) (ks + 101) Q (F0 m 1217 ls' [])) :
    W p l e room_1 s m #[Value.ref b] below meth c H locs kc ks Q (F0 m 997 ls []) := by
  obtain ⟨hx, hb, hr, hml, hown, hts, hX, hbl, hbA, hlocks, hA, hA2, hG, hE0⟩ := C
  unfold LC_18 at hf
  refine lv_aload_n (pc := 997) hx hb dL_law_997 rfl (lv_at hl 3 rfl) ?_
  refine lv_aload_n (pc := 998) hx hb dL_law_998 rfl (lv_at hl 4 rfl) ?_
  refine lv_iload (pc := 999) hx hb dL_law_999 (lv_at hl 0 rfl) ?_
  refine lv_iconst (pc := 1001) (v := 1) hx hb dL_law_1001 (by decide) ?_
  refine lv_iadd (pc := 1002) hx hb dL_law_1002 ?_
  refine va_sld (A := A) (pc := 1003) hx hb hX hbl hbA hS hv1 dL_law_1003 ?_
  refine W.eq (g2 := F0 m 1004 ls [.int v1, .ref (ad 0 0)]) (by rw [e1]) ?_
  refine lv_aload_n (pc := 1004) hx hb dL_law_1004 rfl (lv_at hl 4 rfl) ?_
  refine lv_iload (pc := 1005) hx hb dL_law_1005 (lv_at hl 0 rfl) ?_
  refine lv_iconst (pc := 1007) (v := 2) hx hb dL_law_1007 (by decide) ?_
  refine lv_iadd (pc := 1008) hx hb dL_law_1008 ?_
  refine va_sld (A := A) (pc := 1009) hx hb hX hbl hbA hS hv2 dL_law_1009 ?_
  refine W.eq (g2 := F0 m 1010 ls [.int v2, .int v1, .ref (ad 0 0)]) (by rw [e2]) ?_
  obtain ⟨x1, hx1, hf⟩ := lt_9 hf
  refine jnF (τ := (Int32) × (Heap) × (List Loc) × (Array Slot)) (fun pc st z => W p l e _ s m _ below meth c z.2.1 z.2.2.1 (kc + 0) (ks + 0) _ (F0 m pc z.2.2.2 st)) (pc0 := 1010) (st0 := [.int v2, .int v1, .ref (ad 0 0)]) (z0 := (0, H, _, ls)) 1018 (fun z => [.int z.1, .int v1, .ref (ad 0 0)]) (fun z => va_P (dC, dI) kCl (w9 ad ca dom (σ)) z.2.1 ∧ va_D A (w9 ad ca dom (σ)) ∧ va_S A s.heap z.2.1 z.2.2.1 ∧ lv_has z.2.2.2 7 [(4, .int i), (3, .ref (ad 24 0)), (2, .ref (ad 4 0)), (1, .ref (ad 0 0)), (0, .ref b)]) (fun z => x1 z.1) (1, σ') ?_ ?_
  · intro hJx1
    dsimp only at hJx1 ⊢
    refine lv_if_eq (pc := 1010) (tgt := 1017) hx hb dL_law_1010 rfl (fun h3 => ?_) (fun h3 => ?_)
    · replace hf := ite_t h3 hf
      refine lv_iconst (pc := 1017) (v := 0) hx hb dL_law_1017 (by decide) ?_
      have hl := lv_sub hl (l' := [(4, .int i), (3, .ref (ad 24 0)), (2, .ref (ad 4 0)), (1, .ref (ad 0 0)), (0, .ref b)]) [0, 1, 2, 3, 4] rfl
      exact hJx1 (0, H, _, ls) ⟨hP, hD, hS, hl⟩ hf
    · replace hf := ite_f h3 hf
      refine lv_iconst (pc := 1013) (v := 1) hx hb dL_law_1013 (by decide) ?_
      refine lv_goto (pc := 1014) (tgt := 1018) hx hb dL_law_1014 rfl ?_
      have hl := lv_sub hl (l' := [(4, .int i), (3, .ref (ad 24 0)), (2, .ref (ad 4 0)), (1, .ref (ad 0 0)), (0, .ref b)]) [0, 1, 2, 3, 4] rfl
      exact hJx1 (1, H, _, ls) ⟨hP, hD, hS, hl⟩ hf
  · rintro ⟨s2, H, locs, ls⟩ ⟨hP, hD, hS, hl⟩ hf
    dsimp only at hP hD hS hl hf ⊢
    rw [hx1] at hf
    have hl : lv_has ls 7 [(4, .int i), (3, .ref (ad 24 0)), (2, .ref (ad 4 0)), (1, .ref (ad 0 0)), (0, .ref b)] := hl
    refine lv_aload_n (pc := 1018) hx hb dL_law_1018 rfl (lv_at hl 4 rfl) ?_
    refine lv_iload (pc := 1019) hx hb dL_law_1019 (lv_at hl 0 rfl) ?_
    refine lv_iconst (pc := 1021) (v := 3) hx hb dL_law_1021 (by decide) ?_
    refine lv_iadd (pc := 1022) hx hb dL_law_1022 ?_
    refine va_sld (A := A) (pc := 1023) hx hb hX hbl hbA hS hv3 dL_law_1023 ?_
    refine W.eq (g2 := F0 m 1024 ls [.int v3, .int s2, .int v1, .ref (ad 0 0)]) (by rw [e3]) ?_
    obtain ⟨q4, hq4, eq4⟩ := at_0 (ad := ad) (ca := ca) (σ := σ) hmV
    obtain ⟨y5, hy5, hf⟩ := ob hf
    refine vp_callSi (pc := 1024) (W.runV (As := [.int v1, .int s2, .int v3]) (rest := []) ⟨hx, hb, hml, hown, hts⟩ (t_V_user l dC dI ad ca dom n σ v1 s2 v3 hmV hN hC y5 hy5) (cwV 3 hts (gV wd_903 wd_904 wd_905 wd_254 wd_902) rfl rfl rfl (by decide +kernel) ⟨Nat.le_of_ble_eq_true rfl, Nat.le_of_ble_eq_true rfl⟩) ⟨hR_blind, va_recv (q := (RV, TV, 9)) (q0 := q4) (ci := 0) hK.1 hP rfl eq4, hR_pre hP hK hG⟩ rfl rfl hl.1 rfl (lv_room (Nat.le_of_ble_eq_true rfl)) dL_law_1024 ⟨show kc + 0 + 0 ≤ 601024 by omega, show ks + 0 + 0 ≤ 7293033 by omega⟩) (fun r9 hr9 => ?_)
    refine W.eq (g2 := F0 m 1027 ls [.int y5]) (by rw [hr9]) ?_
    refine lv_pop (pc := 1027) hx hb dL_law_1027 rfl ?_
    refine lv_aload_n (pc := 1028) hx hb dL_law_1028 rfl (lv_at hl 2 rfl) ?_
    refine lv_aload_n (pc := 1029) hx hb dL_law_1029 rfl (lv_at hl 4 rfl) ?_
    refine lv_iload (pc := 1030) hx hb dL_law_1030 (lv_at hl 0 rfl) ?_
    refine lv_iconst (pc := 1032) (v := 1) hx hb dL_law_1032 (by decide) ?_
    refine lv_iadd (pc := 1033) hx hb dL_law_1033 ?_
    refine va_sld (A := A) (pc := 1034) hx hb hX hbl hbA hS hv1 dL_law_1034 ?_
    refine W.eq (g2 := F0 m 1035 ls [.int v1, .ref (ad 4 0)]) (by rw [e1]) ?_
    refine lv_aload_n (pc := 1035) hx hb dL_law_1035 rfl (lv_at hl 4 rfl) ?_
    refine lv_iload (pc := 1036) hx hb dL_law_1036 (lv_at hl 0 rfl) ?_
    refine lv_iconst (pc := 1038) (v := 2) hx hb dL_law_1038 (by decide) ?_
    refine lv_iadd (pc := 1039) hx hb dL_law_1039 ?_
    refine va_sld (A := A) (pc := 1040) hx hb hX hbl hbA hS hv2 dL_law_1040 ?_
    refine W.eq (g2 := F0 m 1041 ls [.int v2, .int v1, .ref (ad 4 0)]) (by rw [e2]) ?_
    obtain ⟨x6, hx6, hf⟩ := lt_9 hf
    refine jnF (τ := (Int32) × (Heap) × (List Loc) × (Array Slot)) (fun pc st z => W p l e _ s m _ below meth c z.2.1 z.2.2.1 (kc + 0) (ks + 0) _ (F0 m pc z.2.2.2 st)) (pc0 := 1041) (st0 := [.int v2, .int v1, .ref (ad 4 0)]) (z0 := (0, H, _, ls)) 1049 (fun z => [.int z.1, .int v1, .ref (ad 4 0)]) (fun z => va_P (dC, dI) kCl (w9 ad ca dom (σ)) z.2.1 ∧ va_D A (w9 ad ca dom (σ)) ∧ va_S A s.heap z.2.1 z.2.2.1 ∧ lv_has z.2.2.2 7 [(4, .int i), (3, .ref (ad 24 0)), (2, .ref (ad 4 0)), (1, .ref (ad 0 0)), (0, .ref b)]) (fun z => x6 z.1) (1, σ') ?_ ?_
    · intro hJx6
      dsimp only at hJx6 ⊢
      refine lv_if_eq (pc := 1041) (tgt := 1048) hx hb dL_law_1041 rfl (fun h8 => ?_) (fun h8 => ?_)
      · replace hf := ite_t h8 hf
        refine lv_iconst (pc := 1048) (v := 0) hx hb dL_law_1048 (by decide) ?_
        have hl := lv_sub hl (l' := [(4, .int i), (3, .ref (ad 24 0)), (2, .ref (ad 4 0)), (1, .ref (ad 0 0)), (0, .ref b)]) [0, 1, 2, 3, 4] rfl
        exact hJx6 (0, H, _, ls) ⟨hP, hD, hS, hl⟩ hf
      · replace hf := ite_f h8 hf
        refine lv_iconst (pc := 1044) (v := 1) hx hb dL_law_1044 (by decide) ?_
        refine lv_goto (pc := 1045) (tgt := 1049) hx hb dL_law_1045 rfl ?_
        have hl := lv_sub hl (l' := [(4, .int i), (3, .ref (ad 24 0)), (2, .ref (ad 4 0)), (1, .ref (ad 0 0)), (0, .ref b)]) [0, 1, 2, 3, 4] rfl
        exact hJx6 (1, H, _, ls) ⟨hP, hD, hS, hl⟩ hf
    · rintro ⟨s7, H, locs, ls⟩ ⟨hP, hD, hS, hl⟩ hf
      dsimp only at hP hD hS hl hf ⊢
      rw [hx6] at hf
      have hl : lv_has ls 7 [(4, .int i), (3, .ref (ad 24 0)), (2, .ref (ad 4 0)), (1, .ref (ad 0 0)), (0, .ref b)] := hl
      refine lv_aload_n (pc := 1049) hx hb dL_law_1049 rfl (lv_at hl 4 rfl) ?_
      refine lv_iload (pc := 1050) hx hb dL_law_1050 (lv_at hl 0 rfl) ?_
      refine lv_iconst (pc := 1052) (v := 3) hx hb dL_law_1052 (by decide) ?_
      refine lv_iadd (pc := 1053) hx hb dL_law_1053 ?_
      refine va_sld (A := A) (pc := 1054) hx hb hX hbl hbA hS hv3 dL_law_1054 ?_
      refine W.eq (g2 := F0 m 1055 ls [.int v3, .int s7, .int v1, .ref (ad 4 0)]) (by rw [e3]) ?_
      obtain ⟨q9, hq9, eq9⟩ := at_4 (ad := ad) (ca := ca) (σ := σ) hmM
      obtain ⟨⟨y10, σ11⟩, hy10, hf⟩ := ob hf
      have hFc := w9_free hD hS hA
      refine va_calli (pc := 1055) (va_runV (As := [.int v1, .int s7, .int v3]) (rest := []) ⟨hx, hb, hml, hown, hts⟩ (t_M_user l dC dI ad ca dom H.size n σ v1 s7 v3 hmM hN hC y10 σ11 hy10) (cwV 3 hts (gV wd_907 wd_908 wd_909 wd_50 wd_906) rfl rfl rfl (by decide +kernel) ⟨Nat.le_of_ble_eq_true rfl, Nat.le_of_ble_eq_true rfl⟩) ⟨hW_blind, va_recv (q := (RM, TM, 11)) (q0 := q9) (ci := 4) hK.1 hP rfl eq9, hW_pre hP hK hD hG⟩ rfl rfl hl.1 rfl (lv_room (Nat.le_of_ble_eq_true rfl)) dL_law_1055 ⟨show kc + 0 + 0 ≤ 601024 by omega, show ks + 0 + 0 ≤ 7293033 by omega⟩) hS (fun q _ h => hFc q h) hFc (fun r9 u t H1 locs ht hvm hr9 hB hz1 hk1 hS => ?_)
      obtain ⟨hP, hD, hC⟩ := hB
      rw [ht] at hP
      replace hD := hD.weaken (fun _ _ _ h => hFc _ h)
      generalize H1 = H at hP hS ⊢
      refine W.eq (g2 := F0 m 1058 ls [.int y10]) (by rw [hr9]) ?_
      refine lv_pop (pc := 1058) hx hb dL_law_1058 rfl ?_
      refine lv_goto (pc := 1059) (tgt := 1217) hx hb dL_law_1059 rfl ?_
      obtain ⟨-, h9⟩ := Prod.mk.inj (Option.some.inj hf)
      subst h9
      have hl := lv_sub hl (l' := [(4, .int i), (3, .ref (ad 24 0)), (2, .ref (ad 4 0)), (1, .ref (ad 0 0)), (0, .ref b)]) [0, 1, 2, 3, 4] rfl
      refine W.widen (k := kc + 16) (n := ks + 101) (by omega) (by omega) ?_
      exact kk ad ca dom H _ ls rfl hN hC hP hD hK hS hl
set_option maxHeartbeats 4000000 in
set_option maxRecDepth 100000 in
theorem lawc_19 {p : Program} {l : Launch} {e : Env} {s : State} {m : MethodId} {below : List Frame} {meth : Method} {c : Code} {b L : Nat} {xs : Nat → Int32} {A : Nat → Prop} {H : Heap} {locs : List Loc} {ls : Array Slot} {dC : Nat → ClassId} {dI : Nat → Nat → Nat} {Q : State → Prop} {kc ks : Nat} (hfl : l.stackTraces = false) (C : lawH p s m meth c b L xs A) (ad : Nat → Nat → Nat) (ca : Nat → Nat → ClassId) (dom : List (Nat × Nat)) (σ : hT) (i : Int32) (n : Nat) (v1 v2 v3 v4 v5 : Int32)
    (hv1 : vp_in (i + 1) L) (hv2 : vp_in (i + 2) L) (hv3 : vp_in (i + 3) L) (hv4 : vp_in (i + 4) L) (hv5 : vp_in (i + 5) L) (e1 : xs (i + 1).toNatClampNeg = v1) (e2 : xs (i + 2).toNatClampNeg = v2) (e3 : xs (i + 3).toNatClampNeg = v3) (e4 : xs (i + 4).toNatClampNeg = v4) (e5 : xs (i + 5).toNatClampNeg = v5)
    (hmV : (0, 0) ∈ dom) (hmM : (4, 0) ∈ dom) (hmO : (24, 0) ∈ dom) (hN : dom.Nodup) (hC : clo dom σ.2.2) (hP : va_P (dC, dI) kCl (w9 ad ca dom σ) H) (hD : va_D A (w9 ad ca dom σ)) (hK : hkt (dC, dI) ca dom s) (hS : va_S A s.heap H locs) (hl : lv_has ls 7 [(4, .int i), (3, .ref (ad 24 0)), (2, .ref (ad 4 0)), (1, .ref (ad 0 0)), (0, .ref b)]) (hkc : kc + 16 ≤ 601024) (hks : ks + 101 ≤ 7293033) (σ' : hT) (hf : LC_19 n σ v1 v2 v3 v4 v5 = some (1, σ'))
    (kk : ∀ (ad' : Nat → Nat → Nat) (ca' : Nat → Nat → ClassId) (dom' : List (Nat × Nat)) (H' : Heap) (locs' : List Loc) (ls' : Array Slot), dom' = dom → dom'.Nodup → clo dom' σ'.2.2 → va_P (dC, dI) kCl (w9 ad' ca' dom' σ') H' → va_D A (w9 ad' ca' dom' σ') → hkt (dC, dI) ca' dom' s → va_S A s.heap H' locs' → lv_has ls' 7 [(4, .int i), (3, .ref (ad' 24 0)), (2, .ref (ad' 4 0)), (1, .ref (ad' 0 0)), (0, .ref b)] → W p l e room_1 s m #[Value.ref b] below meth c H' locs' (kc + 16) (ks + 101) Q (F0 m 1217 ls' [])) :
    W p l e room_1 s m #[Value.ref b] below meth c H locs kc ks Q (F0 m 1062 ls []) := by
  obtain ⟨hx, hb, hr, hml, hown, hts, hX, hbl, hbA, hlocks, hA, hA2, hG, hE0⟩ := C
  unfold LC_19 at hf
  refine lv_aload_n (pc := 1062) hx hb dL_law_1062 rfl (lv_at hl 3 rfl) ?_
  refine lv_aload_n (pc := 1063) hx hb dL_law_1063 rfl (lv_at hl 4 rfl) ?_
  refine lv_iload (pc := 1064) hx hb dL_law_1064 (lv_at hl 0 rfl) ?_
  refine lv_iconst (pc := 1066) (v := 1) hx hb dL_law_1066 (by decide) ?_
  refine lv_iadd (pc := 1067) hx hb dL_law_1067 ?_
  refine va_sld (A := A) (pc := 1068) hx hb hX hbl hbA hS hv1 dL_law_1068 ?_
  refine W.eq (g2 := F0 m 1069 ls [.int v1, .ref (ad 0 0)]) (by rw [e1]) ?_
  refine lv_aload_n (pc := 1069) hx hb dL_law_1069 rfl (lv_at hl 4 rfl) ?_
  refine lv_iload (pc := 1070) hx hb dL_law_1070 (lv_at hl 0 rfl) ?_
  refine lv_iconst (pc := 1072) (v := 2) hx hb dL_law_1072 (by decide) ?_
  refine lv_iadd (pc := 1073) hx hb dL_law_1073 ?_
  refine va_sld (A := A) (pc := 1074) hx hb hX hbl hbA hS hv2 dL_law_1074 ?_
  refine W.eq (g2 := F0 m 1075 ls [.int v2, .int v1, .ref (ad 0 0)]) (by rw [e2]) ?_
  refine lv_aload_n (pc := 1075) hx hb dL_law_1075 rfl (lv_at hl 4 rfl) ?_
  refine lv_iload (pc := 1076) hx hb dL_law_1076 (lv_at hl 0 rfl) ?_
  refine lv_iconst (pc := 1078) (v := 3) hx hb dL_law_1078 (by decide) ?_
  refine lv_iadd (pc := 1079) hx hb dL_law_1079 ?_
  refine va_sld (A := A) (pc := 1080) hx hb hX hbl hbA hS hv3 dL_law_1080 ?_
  refine W.eq (g2 := F0 m 1081 ls [.int v3, .int v2, .int v1, .ref (ad 0 0)]) (by rw [e3]) ?_
  refine lv_aload_n (pc := 1081) hx hb dL_law_1081 rfl (lv_at hl 4 rfl) ?_
  refine lv_iload (pc := 1082) hx hb dL_law_1082 (lv_at hl 0 rfl) ?_
  refine lv_iconst (pc := 1084) (v := 4) hx hb dL_law_1084 (by decide) ?_
  refine lv_iadd (pc := 1085) hx hb dL_law_1085 ?_
  refine va_sld (A := A) (pc := 1086) hx hb hX hbl hbA hS hv4 dL_law_1086 ?_
  refine W.eq (g2 := F0 m 1087 ls [.int v4, .int v3, .int v2, .int v1, .ref (ad 0 0)]) (by rw [e4]) ?_
  refine lv_aload_n (pc := 1087) hx hb dL_law_1087 rfl (lv_at hl 1 rfl) ?_
  obtain ⟨⟨y1, σ2⟩, hy1, hf⟩ := ob hf
  have hE := xE.mono hE0 (fun q z => hA2 q (w9_xA hD z))
  have hSA : ∀ q : Nat, q < s.heap.size → A q → xS ad dom q := fun q h z => absurd (hA2 q z) (Nat.not_le.mpr h)
  have hFc := w9_free hD hS hA
  refine va_calli (pc := 1088) (hxR (As := [.ref (ad 0 0), .int v1, .int v2, .int v3, .int v4, .ref (ad 24 0)]) (rest := []) ⟨hx, hb, hml, hown, hts⟩ (t_L_difference l dC dI ad ca dom H.size n σ v1 v2 v3 v4 hmV hmO hN hC hfl y1 σ2 hy1) 6 wd_911 wd_912 wd_777 wd_910 rfl rfl ⟨Nat.le_of_ble_eq_true rfl, Nat.le_of_ble_eq_true rfl⟩ (by decide +kernel) ⟨hX_blind, hX_pre hP hK hD hG hE hS hSA⟩ rfl rfl hl.1 rfl (lv_room (Nat.le_of_ble_eq_true rfl)) dL_law_1088 ⟨show kc + 0 + 1 ≤ 601024 by omega, show ks + 0 + 6 ≤ 7293033 by omega⟩) hS (fun q _ h => hFc q h) hFc (fun r9 u t H1 locs ht hvm hr9 hB hz1 hk1 hS => ?_)
  obtain ⟨hP, hD, hC⟩ := hB
  rw [ht] at hP
  replace hD := hD.weaken (fun _ _ _ h => hFc _ h)
  generalize H1 = H at hP hS ⊢
  refine W.widen (k := (kc + 1)) (n := (ks + 6)) (by omega) (by omega) ?_
  refine W.eq (g2 := F0 m 1091 ls [.int y1]) (by rw [hr9]) ?_
  refine lv_istore (pc := 1091) hx hb dL_law_1091 hl (by decide) rfl (fun ls hl => ?_)
  have hl : lv_has ls 7 [(5, .int y1), (4, .int i), (3, .ref (ad 24 0)), (2, .ref (ad 4 0)), (1, .ref (ad 0 0)), (0, .ref b)] := hl
  refine lv_aload_n (pc := 1093) hx hb dL_law_1093 rfl (lv_at hl 3 rfl) ?_
  refine lv_aload_n (pc := 1094) hx hb dL_law_1094 rfl (lv_at hl 5 rfl) ?_
  refine lv_iload (pc := 1095) hx hb dL_law_1095 (lv_at hl 1 rfl) ?_
  refine lv_iconst (pc := 1097) (v := 1) hx hb dL_law_1097 (by decide) ?_
  refine lv_iadd (pc := 1098) hx hb dL_law_1098 ?_
  refine va_sld (A := A) (pc := 1099) hx hb hX hbl hbA hS hv1 dL_law_1099 ?_
  refine W.eq (g2 := F0 m 1100 ls [.int v1, .ref (ad 4 0)]) (by rw [e1]) ?_
  refine lv_aload_n (pc := 1100) hx hb dL_law_1100 rfl (lv_at hl 5 rfl) ?_
  refine lv_iload (pc := 1101) hx hb dL_law_1101 (lv_at hl 1 rfl) ?_
  refine lv_iconst (pc := 1103) (v := 2) hx hb dL_law_1103 (by decide) ?_
  refine lv_iadd (pc := 1104) hx hb dL_law_1104 ?_
  refine va_sld (A := A) (pc := 1105) hx hb hX hbl hbA hS hv2 dL_law_1105 ?_
  refine W.eq (g2 := F0 m 1106 ls [.int v2, .int v1, .ref (ad 4 0)]) (by rw [e2]) ?_
  refine lv_aload_n (pc := 1106) hx hb dL_law_1106 rfl (lv_at hl 5 rfl) ?_
  refine lv_iload (pc := 1107) hx hb dL_law_1107 (lv_at hl 1 rfl) ?_
  refine lv_iconst (pc := 1109) (v := 3) hx hb dL_law_1109 (by decide) ?_
  refine lv_iadd (pc := 1110) hx hb dL_law_1110 ?_
  refine va_sld (A := A) (pc := 1111) hx hb hX hbl hbA hS hv3 dL_law_1111 ?_
  refine W.eq (g2 := F0 m 1112 ls [.int v3, .int v2, .int v1, .ref (ad 4 0)]) (by rw [e3]) ?_
  refine lv_aload_n (pc := 1112) hx hb dL_law_1112 rfl (lv_at hl 5 rfl) ?_
  refine lv_iload (pc := 1113) hx hb dL_law_1113 (lv_at hl 1 rfl) ?_
  refine lv_iconst (pc := 1115) (v := 4) hx hb dL_law_1115 (by decide) ?_
  refine lv_iadd (pc := 1116) hx hb dL_law_1116 ?_
  refine va_sld (A := A) (pc := 1117) hx hb hX hbl hbA hS hv4 dL_law_1117 ?_
  refine W.eq (g2 := F0 m 1118 ls [.int v4, .int v3, .int v2, .int v1, .ref (ad 4 0)]) (by rw [e4]) ?_
  obtain ⟨q3, hq3, eq3⟩ := at_4 (ad := ad) (ca := ca) (σ := σ2) hmM
  obtain ⟨⟨y4, σ5⟩, hy4, hf⟩ := ob hf
  have hFc := w9_free hD hS hA
  refine va_calli (pc := 1118) (va_runV (As := [.int v1, .int v2, .int v3, .int v4]) (rest := []) ⟨hx, hb, hml, hown, hts⟩ (t_M_difference l dC dI ad ca dom H.size n σ2 v1 v2 v3 v4 hmM hN hC y4 σ5 hy4) (cwV 4 hts (gV wd_914 wd_915 wd_916 wd_50 wd_913) rfl rfl rfl (by decide +kernel) ⟨Nat.le_of_ble_eq_true rfl, Nat.le_of_ble_eq_true rfl⟩) ⟨hW_blind, va_recv (q := (RM, TM, 11)) (q0 := q3) (ci := 4) hK.1 hP rfl eq3, hW_pre hP hK hD hG⟩ rfl rfl hl.1 rfl (lv_room (Nat.le_of_ble_eq_true rfl)) dL_law_1118 ⟨show kc + 1 + 0 ≤ 601024 by omega, show ks + 6 + 0 ≤ 7293033 by omega⟩) hS (fun q _ h => hFc q h) hFc (fun r9 u t H1 locs ht hvm hr9 hB hz1 hk1 hS => ?_)
  obtain ⟨hP, hD, hC⟩ := hB
  rw [ht] at hP
  replace hD := hD.weaken (fun _ _ _ h => hFc _ h)
  generalize H1 = H at hP hS ⊢
  refine W.eq (g2 := F0 m 1121 ls [.int y4]) (by rw [hr9]) ?_
  refine lv_istore (pc := 1121) hx hb dL_law_1121 hl (by decide) rfl (fun ls hl => ?_)
  have hl : lv_has ls 7 [(6, .int y4), (5, .int y1), (4, .int i), (3, .ref (ad 24 0)), (2, .ref (ad 4 0)), (1, .ref (ad 0 0)), (0, .ref b)] := hl
  refine lv_aload_n (pc := 1123) hx hb dL_law_1123 rfl (lv_at hl 4 rfl) ?_
  obtain ⟨q6, hq6, eq6⟩ := at_4 (ad := ad) (ca := ca) (σ := σ5) hmM
  refine vp_callSi (pc := 1124) (W.runV (As := []) (rest := []) ⟨hx, hb, hml, hown, hts⟩ (t_M_thrown l dC dI ad ca dom σ5 hmM hN hC (M_thrown σ5) rfl) (cwV 0 hts (gV wd_918 wd_919 wd_920 wd_50 wd_917) rfl rfl rfl (by decide +kernel) ⟨Nat.le_of_ble_eq_true rfl, Nat.le_of_ble_eq_true rfl⟩) ⟨hR_blind, va_recv (q := (RM, TM, 11)) (q0 := q6) (ci := 4) hK.1 hP rfl eq6, hR_pre hP hK hG⟩ rfl rfl hl.1 rfl (lv_room (Nat.le_of_ble_eq_true rfl)) dL_law_1124 ⟨show kc + 1 + 0 ≤ 601024 by omega, show ks + 6 + 0 ≤ 7293033 by omega⟩) (fun r9 hr9 => ?_)
  refine W.eq (g2 := F0 m 1127 ls [.int (M_thrown σ5)]) (by rw [hr9]) ?_
  refine lv_iload (pc := 1127) hx hb dL_law_1127 (lv_at hl 1 rfl) ?_
  refine lv_icmp_eq (pc := 1129) (tgt := 1134) hx hb dL_law_1129 rfl (fun h7 => ?_) (fun h7 => ?_)
  · replace hf := ite_t h7 hf
    refine lv_iload (pc := 1134) hx hb dL_law_1134 (lv_at hl 1 rfl) ?_
    refine lv_if_ne (pc := 1136) (tgt := 1151) hx hb dL_law_1136 rfl (fun h8 => ?_) (fun h8 => ?_)
    · replace hf := ite_f h8 hf
      refine lv_goto (pc := 1151) (tgt := 1217) hx hb dL_law_1151 rfl ?_
      obtain ⟨-, h9⟩ := Prod.mk.inj (Option.some.inj hf)
      subst h9
      have hl := lv_sub hl (l' := [(4, .int i), (3, .ref (ad 24 0)), (2, .ref (ad 4 0)), (1, .ref (ad 0 0)), (0, .ref b)]) [2, 3, 4, 5, 6] rfl
      refine W.widen (k := kc + 16) (n := ks + 101) (by omega) (by omega) ?_
      exact kk ad ca dom H _ ls rfl hN hC hP hD hK hS hl
    · replace hf := ite_t h8 hf
      refine lv_aload_n (pc := 1139) hx hb dL_law_1139 rfl (lv_at hl 3 rfl) ?_
      refine lv_iconst (pc := 1140) (v := 0) hx hb dL_law_1140 (by decide) ?_
      obtain ⟨q9, hq9, eq9⟩ := at_24 (ad := ad) (ca := ca) (σ := σ5) hmO
      refine va_lald (D := (dC, dI)) (cl := kCl) (pc := 1141) hx hb (hK.2 24 0 .long hmO rfl) hP q9 0 eq9 rfl (vp_in_lit 0 1 (by decide)) dL_law_1141 ?_
      refine W.eq (g2 := F0 m 1142 ls [.long (xL σ5 24 0 0)]) rfl ?_
      refine lv_iload (pc := 1142) hx hb dL_law_1142 (lv_at hl 0 rfl) ?_
      refine lv_i2l (pc := 1144) hx hb dL_law_1144 rfl ?_
      refine W.lcmp (pc := 1145) hx hb dL_law_1145 ?_
      refine lv_if_eq (pc := 1146) (tgt := 1151) hx hb dL_law_1146 rfl (fun h10 => ?_) (fun h10 => ?_)
      · replace hf := ite_t h10 hf
        refine lv_goto (pc := 1151) (tgt := 1217) hx hb dL_law_1151 rfl ?_
        obtain ⟨-, h9⟩ := Prod.mk.inj (Option.some.inj hf)
        subst h9
        have hl := lv_sub hl (l' := [(4, .int i), (3, .ref (ad 24 0)), (2, .ref (ad 4 0)), (1, .ref (ad 0 0)), (0, .ref b)]) [2, 3, 4, 5, 6] rfl
        refine W.widen (k := kc + 16) (n := ks + 101) (by omega) (by omega) ?_
        exact kk ad ca dom H _ ls rfl hN hC hP hD hK hS hl
      · replace hf := ite_f h10 hf
        refine lv_iconst (pc := 1149) (v := 0) hx hb dL_law_1149 (by decide) ?_
        exact absurd (Prod.mk.inj (Option.some.inj hf)).1 (by decide)
  · replace hf := ite_f h7 hf
    refine lv_iconst (pc := 1132) (v := 0) hx hb dL_law_1132 (by decide) ?_
    exact absurd (Prod.mk.inj (Option.some.inj hf)).1 (by decide)
set_option maxHeartbeats 4000000 in
set_option maxRecDepth 100000 in
theorem lawc_20 {p : Program} {l : Launch} {e : Env} {s : State} {m : MethodId} {below : List Frame} {meth : Method} {c : Code} {b L : Nat} {xs : Nat → Int32} {A : Nat → Prop} {H : Heap} {locs : List Loc} {ls : Array Slot} {dC : Nat → ClassId} {dI : Nat → Nat → Nat} {Q : State → Prop} {kc ks : Nat} (hfl : l.stackTraces = false) (C : lawH p s m meth c b L xs A) (ad : Nat → Nat → Nat) (ca : Nat → Nat → ClassId) (dom : List (Nat × Nat)) (σ : hT) (i : Int32) (n : Nat) (v1 v2 v3 v4 v5 : Int32)
    (hv1 : vp_in (i + 1) L) (hv2 : vp_in (i + 2) L) (hv3 : vp_in (i + 3) L) (hv4 : vp_in (i + 4) L) (hv5 : vp_in (i + 5) L) (e1 : xs (i + 1).toNatClampNeg = v1) (e2 : xs (i + 2).toNatClampNeg = v2) (e3 : xs (i + 3).toNatClampNeg = v3) (e4 : xs (i + 4).toNatClampNeg = v4) (e5 : xs (i + 5).toNatClampNeg = v5)
    (hmV : (0, 0) ∈ dom) (hmM : (4, 0) ∈ dom) (hmO : (24, 0) ∈ dom) (hN : dom.Nodup) (hC : clo dom σ.2.2) (hP : va_P (dC, dI) kCl (w9 ad ca dom σ) H) (hD : va_D A (w9 ad ca dom σ)) (hK : hkt (dC, dI) ca dom s) (hS : va_S A s.heap H locs) (hl : lv_has ls 7 [(4, .int i), (3, .ref (ad 24 0)), (2, .ref (ad 4 0)), (1, .ref (ad 0 0)), (0, .ref b)]) (hkc : kc + 16 ≤ 601024) (hks : ks + 101 ≤ 7293033) (σ' : hT) (hf : LC_20 n σ v1 v2 v3 v4 v5 = some (1, σ'))
    (kk : ∀ (ad' : Nat → Nat → Nat) (ca' : Nat → Nat → ClassId) (dom' : List (Nat × Nat)) (H' : Heap) (locs' : List Loc) (ls' : Array Slot), dom' = dom → dom'.Nodup → clo dom' σ'.2.2 → va_P (dC, dI) kCl (w9 ad' ca' dom' σ') H' → va_D A (w9 ad' ca' dom' σ') → hkt (dC, dI) ca' dom' s → va_S A s.heap H' locs' → lv_has ls' 7 [(4, .int i), (3, .ref (ad' 24 0)), (2, .ref (ad' 4 0)), (1, .ref (ad' 0 0)), (0, .ref b)] → W p l e room_1 s m #[Value.ref b] below meth c H' locs' (kc + 16) (ks + 101) Q (F0 m 1217 ls' [])) :
    W p l e room_1 s m #[Value.ref b] below meth c H locs kc ks Q (F0 m 1154 ls []) := by
  obtain ⟨hx, hb, hr, hml, hown, hts, hX, hbl, hbA, hlocks, hA, hA2, hG, hE0⟩ := C
  unfold LC_20 at hf
  refine lv_aload_n (pc := 1154) hx hb dL_law_1154 rfl (lv_at hl 3 rfl) ?_
  refine lv_aload_n (pc := 1155) hx hb dL_law_1155 rfl (lv_at hl 4 rfl) ?_
  refine lv_iload (pc := 1156) hx hb dL_law_1156 (lv_at hl 0 rfl) ?_
  refine lv_iconst (pc := 1158) (v := 1) hx hb dL_law_1158 (by decide) ?_
  refine lv_iadd (pc := 1159) hx hb dL_law_1159 ?_
  refine va_sld (A := A) (pc := 1160) hx hb hX hbl hbA hS hv1 dL_law_1160 ?_
  refine W.eq (g2 := F0 m 1161 ls [.int v1, .ref (ad 0 0)]) (by rw [e1]) ?_
  obtain ⟨q1, hq1, eq1⟩ := at_0 (ad := ad) (ca := ca) (σ := σ) hmV
  obtain ⟨⟨y2, σ3⟩, hy2, hf⟩ := ob hf
  have hFc := w9_free hD hS hA
  refine va_calli (pc := 1161) (va_runV (As := [.int v1]) (rest := []) ⟨hx, hb, hml, hown, hts⟩ (t_V_failAfter l dC dI ad ca dom H.size σ v1 hmV hN hC y2 σ3 hy2) (cwV 1 hts (gV wd_922 wd_923 wd_924 wd_254 wd_921) rfl rfl rfl (by decide +kernel) ⟨Nat.le_of_ble_eq_true rfl, Nat.le_of_ble_eq_true rfl⟩) ⟨hW_blind, va_recv (q := (RV, TV, 9)) (q0 := q1) (ci := 0) hK.1 hP rfl eq1, hW_pre hP hK hD hG⟩ rfl rfl hl.1 rfl (lv_room (Nat.le_of_ble_eq_true rfl)) dL_law_1161 ⟨show kc + 0 + 0 ≤ 601024 by omega, show ks + 0 + 0 ≤ 7293033 by omega⟩) hS (fun q _ h => hFc q h) hFc (fun r9 u t H1 locs ht hvm hr9 hB hz1 hk1 hS => ?_)
  obtain ⟨hP, hD, hC⟩ := hB
  rw [ht] at hP
  replace hD := hD.weaken (fun _ _ _ h => hFc _ h)
  generalize H1 = H at hP hS ⊢
  refine W.eq (g2 := F0 m 1164 ls [.int y2]) (by rw [hr9]) ?_
  refine lv_pop (pc := 1164) hx hb dL_law_1164 rfl ?_
  refine lv_aload_n (pc := 1165) hx hb dL_law_1165 rfl (lv_at hl 2 rfl) ?_
  refine lv_aload_n (pc := 1166) hx hb dL_law_1166 rfl (lv_at hl 4 rfl) ?_
  refine lv_iload (pc := 1167) hx hb dL_law_1167 (lv_at hl 0 rfl) ?_
  refine lv_iconst (pc := 1169) (v := 1) hx hb dL_law_1169 (by decide) ?_
  refine lv_iadd (pc := 1170) hx hb dL_law_1170 ?_
  refine va_sld (A := A) (pc := 1171) hx hb hX hbl hbA hS hv1 dL_law_1171 ?_
  refine W.eq (g2 := F0 m 1172 ls [.int v1, .ref (ad 4 0)]) (by rw [e1]) ?_
  obtain ⟨q4, hq4, eq4⟩ := at_4 (ad := ad) (ca := ca) (σ := σ3) hmM
  obtain ⟨⟨y5, σ6⟩, hy5, hf⟩ := ob hf
  have hFc := w9_free hD hS hA
  refine va_calli (pc := 1172) (va_runV (As := [.int v1]) (rest := []) ⟨hx, hb, hml, hown, hts⟩ (t_M_failAfter l dC dI ad ca dom H.size σ3 v1 hmM hN hC y5 σ6 hy5) (cwV 1 hts (gV wd_926 wd_927 wd_928 wd_50 wd_925) rfl rfl rfl (by decide +kernel) ⟨Nat.le_of_ble_eq_true rfl, Nat.le_of_ble_eq_true rfl⟩) ⟨hW_blind, va_recv (q := (RM, TM, 11)) (q0 := q4) (ci := 4) hK.1 hP rfl eq4, hW_pre hP hK hD hG⟩ rfl rfl hl.1 rfl (lv_room (Nat.le_of_ble_eq_true rfl)) dL_law_1172 ⟨show kc + 0 + 0 ≤ 601024 by omega, show ks + 0 + 0 ≤ 7293033 by omega⟩) hS (fun q _ h => hFc q h) hFc (fun r9 u t H1 locs ht hvm hr9 hB hz1 hk1 hS => ?_)
  obtain ⟨hP, hD, hC⟩ := hB
  rw [ht] at hP
  replace hD := hD.weaken (fun _ _ _ h => hFc _ h)
  generalize H1 = H at hP hS ⊢
  refine W.eq (g2 := F0 m 1175 ls [.int y5]) (by rw [hr9]) ?_
  refine lv_pop (pc := 1175) hx hb dL_law_1175 rfl ?_
  refine lv_goto (pc := 1176) (tgt := 1217) hx hb dL_law_1176 rfl ?_
  obtain ⟨-, h9⟩ := Prod.mk.inj (Option.some.inj hf)
  subst h9
  have hl := lv_sub hl (l' := [(4, .int i), (3, .ref (ad 24 0)), (2, .ref (ad 4 0)), (1, .ref (ad 0 0)), (0, .ref b)]) [0, 1, 2, 3, 4] rfl
  refine W.widen (k := kc + 16) (n := ks + 101) (by omega) (by omega) ?_
  exact kk ad ca dom H _ ls rfl hN hC hP hD hK hS hl
set_option maxHeartbeats 4000000 in
set_option maxRecDepth 100000 in
theorem lawc_21 {p : Program} {l : Launch} {e : Env} {s : State} {m : MethodId} {below : List Frame} {meth : Method} {c : Code} {b L : Nat} {xs : Nat → Int32} {A : Nat → Prop} {H : Heap} {locs : List Loc} {ls : Array Slot} {dC : Nat → ClassId} {dI : Nat → Nat → Nat} {Q : State → Prop} {kc ks : Nat} (hfl : l.stackTraces = false) (C : lawH p s m meth c b L xs A) (ad : Nat → Nat → Nat) (ca : Nat → Nat → ClassId) (dom : List (Nat × Nat)) (σ : hT) (i : Int32) (n : Nat) (v1 v2 v3 v4 v5 : Int32)
    (hv1 : vp_in (i + 1) L) (hv2 : vp_in (i + 2) L) (hv3 : vp_in (i + 3) L) (hv4 : vp_in (i + 4) L) (hv5 : vp_in (i + 5) L) (e1 : xs (i + 1).toNatClampNeg = v1) (e2 : xs (i + 2).toNatClampNeg = v2) (e3 : xs (i + 3).toNatClampNeg = v3) (e4 : xs (i + 4).toNatClampNeg = v4) (e5 : xs (i + 5).toNatClampNeg = v5)
    (hmV : (0, 0) ∈ dom) (hmM : (4, 0) ∈ dom) (hmO : (24, 0) ∈ dom) (hN : dom.Nodup) (hC : clo dom σ.2.2) (hP : va_P (dC, dI) kCl (w9 ad ca dom σ) H) (hD : va_D A (w9 ad ca dom σ)) (hK : hkt (dC, dI) ca dom s) (hS : va_S A s.heap H locs) (hl : lv_has ls 7 [(4, .int i), (3, .ref (ad 24 0)), (2, .ref (ad 4 0)), (1, .ref (ad 0 0)), (0, .ref b)]) (hkc : kc + 16 ≤ 601024) (hks : ks + 101 ≤ 7293033) (σ' : hT) (hf : LC_21 n σ v1 v2 v3 v4 v5 = some (1, σ'))
    (kk : ∀ (ad' : Nat → Nat → Nat) (ca' : Nat → Nat → ClassId) (dom' : List (Nat × Nat)) (H' : Heap) (locs' : List Loc) (ls' : Array Slot), dom' = dom → dom'.Nodup → clo dom' σ'.2.2 → va_P (dC, dI) kCl (w9 ad' ca' dom' σ') H' → va_D A (w9 ad' ca' dom' σ') → hkt (dC, dI) ca' dom' s → va_S A s.heap H' locs' → lv_has ls' 7 [(4, .int i), (3, .ref (ad' 24 0)), (2, .ref (ad' 4 0)), (1, .ref (ad' 0 0)), (0, .ref b)] → W p l e room_1 s m #[Value.ref b] below meth c H' locs' (kc + 16) (ks + 101) Q (F0 m 1217 ls' [])) :
    W p l e room_1 s m #[Value.ref b] below meth c H locs kc ks Q (F0 m 1179 ls []) := by
  obtain ⟨hx, hb, hr, hml, hown, hts, hX, hbl, hbA, hlocks, hA, hA2, hG, hE0⟩ := C
  unfold LC_21 at hf
  refine lv_aload_n (pc := 1179) hx hb dL_law_1179 rfl (lv_at hl 3 rfl) ?_
  obtain ⟨q1, hq1, eq1⟩ := at_0 (ad := ad) (ca := ca) (σ := σ) hmV
  obtain ⟨⟨y2, σ3⟩, hy2, hf⟩ := ob hf
  have hFc := w9_free hD hS hA
  refine va_calli (pc := 1180) (va_runV (As := []) (rest := []) ⟨hx, hb, hml, hown, hts⟩ (t_V_start l dC dI ad ca dom H.size n σ hmV hN hC y2 σ3 hy2) (cwV 0 hts (gV wd_930 wd_931 wd_932 wd_254 wd_929) rfl rfl rfl (by decide +kernel) ⟨Nat.le_of_ble_eq_true rfl, Nat.le_of_ble_eq_true rfl⟩) ⟨hW_blind, va_recv (q := (RV, TV, 9)) (q0 := q1) (ci := 0) hK.1 hP rfl eq1, hW_pre hP hK hD hG⟩ rfl rfl hl.1 rfl (lv_room (Nat.le_of_ble_eq_true rfl)) dL_law_1180 ⟨show kc + 0 + 0 ≤ 601024 by omega, show ks + 0 + 0 ≤ 7293033 by omega⟩) hS (fun q _ h => hFc q h) hFc (fun r9 u t H1 locs ht hvm hr9 hB hz1 hk1 hS => ?_)
  obtain ⟨hP, hD, hC⟩ := hB
  rw [ht] at hP
  replace hD := hD.weaken (fun _ _ _ h => hFc _ h)
  generalize H1 = H at hP hS ⊢
  refine W.eq (g2 := F0 m 1183 ls [.int y2]) (by rw [hr9]) ?_
  refine lv_pop (pc := 1183) hx hb dL_law_1183 rfl ?_
  refine lv_aload_n (pc := 1184) hx hb dL_law_1184 rfl (lv_at hl 2 rfl) ?_
  obtain ⟨q4, hq4, eq4⟩ := at_4 (ad := ad) (ca := ca) (σ := σ3) hmM
  obtain ⟨⟨y5, σ6⟩, hy5, hf⟩ := ob hf
  have hFc := w9_free hD hS hA
  refine va_calli (pc := 1185) (va_runV (As := []) (rest := []) ⟨hx, hb, hml, hown, hts⟩ (t_M_start l dC dI ad ca dom H.size n σ3 hmM hN hC y5 σ6 hy5) (cwV 0 hts (gV wd_934 wd_935 wd_936 wd_50 wd_933) rfl rfl rfl (by decide +kernel) ⟨Nat.le_of_ble_eq_true rfl, Nat.le_of_ble_eq_true rfl⟩) ⟨hW_blind, va_recv (q := (RM, TM, 11)) (q0 := q4) (ci := 4) hK.1 hP rfl eq4, hW_pre hP hK hD hG⟩ rfl rfl hl.1 rfl (lv_room (Nat.le_of_ble_eq_true rfl)) dL_law_1185 ⟨show kc + 0 + 0 ≤ 601024 by omega, show ks + 0 + 0 ≤ 7293033 by omega⟩) hS (fun q _ h => hFc q h) hFc (fun r9 u t H1 locs ht hvm hr9 hB hz1 hk1 hS => ?_)
  obtain ⟨hP, hD, hC⟩ := hB
  rw [ht] at hP
  replace hD := hD.weaken (fun _ _ _ h => hFc _ h)
  generalize H1 = H at hP hS ⊢
  refine W.eq (g2 := F0 m 1188 ls [.int y5]) (by rw [hr9]) ?_
  refine lv_pop (pc := 1188) hx hb dL_law_1188 rfl ?_
  refine lv_goto (pc := 1189) (tgt := 1217) hx hb dL_law_1189 rfl ?_
  obtain ⟨-, h9⟩ := Prod.mk.inj (Option.some.inj hf)
  subst h9
  have hl := lv_sub hl (l' := [(4, .int i), (3, .ref (ad 24 0)), (2, .ref (ad 4 0)), (1, .ref (ad 0 0)), (0, .ref b)]) [0, 1, 2, 3, 4] rfl
  refine W.widen (k := kc + 16) (n := ks + 101) (by omega) (by omega) ?_
  exact kk ad ca dom H _ ls rfl hN hC hP hD hK hS hl
set_option maxHeartbeats 4000000 in
set_option maxRecDepth 100000 in
theorem lawc_22 {p : Program} {l : Launch} {e : Env} {s : State} {m : MethodId} {below : List Frame} {meth : Method} {c : Code} {b L : Nat} {xs : Nat → Int32} {A : Nat → Prop} {H : Heap} {locs : List Loc} {ls : Array Slot} {dC : Nat → ClassId} {dI : Nat → Nat → Nat} {Q : State → Prop} {kc ks : Nat} (hfl : l.stackTraces = false) (C : lawH p s m meth c b L xs A) (ad : Nat → Nat → Nat) (ca : Nat → Nat → ClassId) (dom : List (Nat × Nat)) (σ : hT) (i : Int32) (n : Nat) (v1 v2 v3 v4 v5 : Int32)
    (hv1 : vp_in (i + 1) L) (hv2 : vp_in (i + 2) L) (hv3 : vp_in (i + 3) L) (hv4 : vp_in (i + 4) L) (hv5 : vp_in (i + 5) L) (e1 : xs (i + 1).toNatClampNeg = v1) (e2 : xs (i + 2).toNatClampNeg = v2) (e3 : xs (i + 3).toNatClampNeg = v3) (e4 : xs (i + 4).toNatClampNeg = v4) (e5 : xs (i + 5).toNatClampNeg = v5)
    (hmV : (0, 0) ∈ dom) (hmM : (4, 0) ∈ dom) (hmO : (24, 0) ∈ dom) (hN : dom.Nodup) (hC : clo dom σ.2.2) (hP : va_P (dC, dI) kCl (w9 ad ca dom σ) H) (hD : va_D A (w9 ad ca dom σ)) (hK : hkt (dC, dI) ca dom s) (hS : va_S A s.heap H locs) (hl : lv_has ls 7 [(4, .int i), (3, .ref (ad 24 0)), (2, .ref (ad 4 0)), (1, .ref (ad 0 0)), (0, .ref b)]) (hkc : kc + 16 ≤ 601024) (hks : ks + 101 ≤ 7293033) (σ' : hT) (hf : LC_22 n σ v1 v2 v3 v4 v5 = some (1, σ'))
    (kk : ∀ (ad' : Nat → Nat → Nat) (ca' : Nat → Nat → ClassId) (dom' : List (Nat × Nat)) (H' : Heap) (locs' : List Loc) (ls' : Array Slot), dom' = dom → dom'.Nodup → clo dom' σ'.2.2 → va_P (dC, dI) kCl (w9 ad' ca' dom' σ') H' → va_D A (w9 ad' ca' dom' σ') → hkt (dC, dI) ca' dom' s → va_S A s.heap H' locs' → lv_has ls' 7 [(4, .int i), (3, .ref (ad' 24 0)), (2, .ref (ad' 4 0)), (1, .ref (ad' 0 0)), (0, .ref b)] → W p l e room_1 s m #[Value.ref b] below meth c H' locs' (kc + 16) (ks + 101) Q (F0 m 1217 ls' [])) :
    W p l e room_1 s m #[Value.ref b] below meth c H locs kc ks Q (F0 m 1192 ls []) := by
  obtain ⟨hx, hb, hr, hml, hown, hts, hX, hbl, hbA, hlocks, hA, hA2, hG, hE0⟩ := C
  unfold LC_22 at hf
  refine lv_aload_n (pc := 1192) hx hb dL_law_1192 rfl (lv_at hl 3 rfl) ?_
  refine lv_aload_n (pc := 1193) hx hb dL_law_1193 rfl (lv_at hl 4 rfl) ?_
  refine lv_iload (pc := 1194) hx hb dL_law_1194 (lv_at hl 0 rfl) ?_
  refine lv_iconst (pc := 1196) (v := 1) hx hb dL_law_1196 (by decide) ?_
  refine lv_iadd (pc := 1197) hx hb dL_law_1197 ?_
  refine va_sld (A := A) (pc := 1198) hx hb hX hbl hbA hS hv1 dL_law_1198 ?_
  refine W.eq (g2 := F0 m 1199 ls [.int v1, .ref (ad 0 0)]) (by rw [e1]) ?_
  obtain ⟨q1, hq1, eq1⟩ := at_0 (ad := ad) (ca := ca) (σ := σ) hmV
  obtain ⟨⟨y2, σ3⟩, hy2, hf⟩ := ob hf
  have hFc := w9_free hD hS hA
  refine va_calli (pc := 1199) (va_runV (As := [.int v1]) (rest := []) ⟨hx, hb, hml, hown, hts⟩ (t_V_count l dC dI ad ca dom H.size n σ v1 hmV hN hC y2 σ3 hy2) (cwV 1 hts (gV wd_938 wd_939 wd_940 wd_254 wd_937) rfl rfl rfl (by decide +kernel) ⟨Nat.le_of_ble_eq_true rfl, Nat.le_of_ble_eq_true rfl⟩) ⟨hW_blind, va_recv (q := (RV, TV, 9)) (q0 := q1) (ci := 0) hK.1 hP rfl eq1, hW_pre hP hK hD hG⟩ rfl rfl hl.1 rfl (lv_room (Nat.le_of_ble_eq_true rfl)) dL_law_1199 ⟨show kc + 0 + 0 ≤ 601024 by omega, show ks + 0 + 0 ≤ 7293033 by omega⟩) hS (fun q _ h => hFc q h) hFc (fun r9 u t H1 locs ht hvm hr9 hB hz1 hk1 hS => ?_)
  obtain ⟨hP, hD, hC⟩ := hB
  rw [ht] at hP
  replace hD := hD.weaken (fun _ _ _ h => hFc _ h)
  generalize H1 = H at hP hS ⊢
  refine W.eq (g2 := F0 m 1202 ls [.int y2]) (by rw [hr9]) ?_
  refine lv_pop (pc := 1202) hx hb dL_law_1202 rfl ?_
  refine lv_aload_n (pc := 1203) hx hb dL_law_1203 rfl (lv_at hl 2 rfl) ?_
  refine lv_aload_n (pc := 1204) hx hb dL_law_1204 rfl (lv_at hl 4 rfl) ?_
  refine lv_iload (pc := 1205) hx hb dL_law_1205 (lv_at hl 0 rfl) ?_
  refine lv_iconst (pc := 1207) (v := 1) hx hb dL_law_1207 (by decide) ?_
  refine lv_iadd (pc := 1208) hx hb dL_law_1208 ?_
  refine va_sld (A := A) (pc := 1209) hx hb hX hbl hbA hS hv1 dL_law_1209 ?_
  refine W.eq (g2 := F0 m 1210 ls [.int v1, .ref (ad 4 0)]) (by rw [e1]) ?_
  obtain ⟨q4, hq4, eq4⟩ := at_4 (ad := ad) (ca := ca) (σ := σ3) hmM
  obtain ⟨⟨y5, σ6⟩, hy5, hf⟩ := ob hf
  have hFc := w9_free hD hS hA
  refine va_calli (pc := 1210) (va_runV (As := [.int v1]) (rest := []) ⟨hx, hb, hml, hown, hts⟩ (t_M_count l dC dI ad ca dom H.size n σ3 v1 hmM hN hC y5 σ6 hy5) (cwV 1 hts (gV wd_942 wd_943 wd_944 wd_50 wd_941) rfl rfl rfl (by decide +kernel) ⟨Nat.le_of_ble_eq_true rfl, Nat.le_of_ble_eq_true rfl⟩) ⟨hW_blind, va_recv (q := (RM, TM, 11)) (q0 := q4) (ci := 4) hK.1 hP rfl eq4, hW_pre hP hK hD hG⟩ rfl rfl hl.1 rfl (lv_room (Nat.le_of_ble_eq_true rfl)) dL_law_1210 ⟨show kc + 0 + 0 ≤ 601024 by omega, show ks + 0 + 0 ≤ 7293033 by omega⟩) hS (fun q _ h => hFc q h) hFc (fun r9 u t H1 locs ht hvm hr9 hB hz1 hk1 hS => ?_)
  obtain ⟨hP, hD, hC⟩ := hB
  rw [ht] at hP
  replace hD := hD.weaken (fun _ _ _ h => hFc _ h)
  generalize H1 = H at hP hS ⊢
  refine W.eq (g2 := F0 m 1213 ls [.int y5]) (by rw [hr9]) ?_
  refine lv_pop (pc := 1213) hx hb dL_law_1213 rfl ?_
  refine lv_goto (pc := 1214) (tgt := 1217) hx hb dL_law_1214 rfl ?_
  obtain ⟨-, h9⟩ := Prod.mk.inj (Option.some.inj hf)
  subst h9
  have hl := lv_sub hl (l' := [(4, .int i), (3, .ref (ad 24 0)), (2, .ref (ad 4 0)), (1, .ref (ad 0 0)), (0, .ref b)]) [0, 1, 2, 3, 4] rfl
  refine W.widen (k := kc + 16) (n := ks + 101) (by omega) (by omega) ?_
  exact kk ad ca dom H _ ls rfl hN hC hP hD hK hS hl
