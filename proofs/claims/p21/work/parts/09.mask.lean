abbrev cM_why : ByteArray := prog_9_method_58_code
abbrev yM_why : MethodName := ⟨"DrawingVaultModel", "why", "()I"⟩
theorem dM_why_0 : decode cM_why 0 = .ok (.aload_n 0, 1) := by decide +kernel
theorem dM_why_1 : decode cM_why 1 = .ok (.iconst 0, 1) := by decide +kernel
theorem dM_why_2 : decode cM_why 2 = .ok (.putfield 33, 3) := by decide +kernel
theorem dM_why_5 : decode cM_why 5 = .ok (.aload_n 0, 1) := by decide +kernel
theorem dM_why_6 : decode cM_why 6 = .ok (.getfield 106, 3) := by decide +kernel
theorem dM_why_9 : decode cM_why 9 = .ok (.ireturn, 1) := by decide +kernel
abbrev cM_look : ByteArray := prog_9_method_59_code
abbrev yM_look : MethodName := ⟨"DrawingVaultModel", "look", "(III)I"⟩
theorem dM_look_0 : decode cM_look 0 = .ok (.aload_n 0, 1) := by decide +kernel
theorem dM_look_1 : decode cM_look 1 = .ok (.iload_n 1, 1) := by decide +kernel
theorem dM_look_2 : decode cM_look 2 = .ok (.iload_n 2, 1) := by decide +kernel
theorem dM_look_3 : decode cM_look 3 = .ok (.invokevirtual 79, 3) := by decide +kernel
theorem dM_look_6 : decode cM_look 6 = .ok (.istore 4, 2) := by decide +kernel
theorem dM_look_8 : decode cM_look 8 = .ok (.iload 4, 2) := by decide +kernel
theorem dM_look_10 : decode cM_look 10 = .ok (.ifCond .eq 12, 3) := by decide +kernel
theorem dM_look_13 : decode cM_look 13 = .ok (.aload_n 0, 1) := by decide +kernel
theorem dM_look_14 : decode cM_look 14 = .ok (.iload_n 1, 1) := by decide +kernel
theorem dM_look_15 : decode cM_look 15 = .ok (.iload_n 2, 1) := by decide +kernel
theorem dM_look_16 : decode cM_look 16 = .ok (.invokevirtual 50, 3) := by decide +kernel
theorem dM_look_19 : decode cM_look 19 = .ok (.goto 6, 3) := by decide +kernel
theorem dM_look_22 : decode cM_look 22 = .ok (.sipush 1940, 3) := by decide +kernel
theorem dM_look_25 : decode cM_look 25 = .ok (.istore 5, 2) := by decide +kernel
theorem dM_look_27 : decode cM_look 27 = .ok (.aload_n 0, 1) := by decide +kernel
theorem dM_look_28 : decode cM_look 28 = .ok (.iload 4, 2) := by decide +kernel
theorem dM_look_30 : decode cM_look 30 = .ok (.ifCond .eq 38, 3) := by decide +kernel
theorem dM_look_33 : decode cM_look 33 = .ok (.iload_n 3, 1) := by decide +kernel
theorem dM_look_34 : decode cM_look 34 = .ok (.ifCond .lt 34, 3) := by decide +kernel
theorem dM_look_37 : decode cM_look 37 = .ok (.iload_n 3, 1) := by decide +kernel
theorem dM_look_38 : decode cM_look 38 = .ok (.iconst 5, 1) := by decide +kernel
theorem dM_look_39 : decode cM_look 39 = .ok (.if_icmp .lt 25, 3) := by decide +kernel
theorem dM_look_42 : decode cM_look 42 = .ok (.iload_n 3, 1) := by decide +kernel
theorem dM_look_43 : decode cM_look 43 = .ok (.bipush 8, 2) := by decide +kernel
theorem dM_look_45 : decode cM_look 45 = .ok (.if_icmp .lt 23, 3) := by decide +kernel
theorem dM_look_48 : decode cM_look 48 = .ok (.iload_n 3, 1) := by decide +kernel
theorem dM_look_49 : decode cM_look 49 = .ok (.bipush 8, 2) := by decide +kernel
theorem dM_look_51 : decode cM_look 51 = .ok (.isub, 1) := by decide +kernel
theorem dM_look_52 : decode cM_look 52 = .ok (.aload_n 0, 1) := by decide +kernel
theorem dM_look_53 : decode cM_look 53 = .ok (.getfield 7, 3) := by decide +kernel
theorem dM_look_56 : decode cM_look 56 = .ok (.iload 5, 2) := by decide +kernel
theorem dM_look_58 : decode cM_look 58 = .ok (.iconst 2, 1) := by decide +kernel
theorem dM_look_59 : decode cM_look 59 = .ok (.iadd, 1) := by decide +kernel
theorem dM_look_60 : decode cM_look 60 = .ok (.iaload, 1) := by decide +kernel
theorem dM_look_61 : decode cM_look 61 = .ok (.if_icmp .ge 7, 3) := by decide +kernel
theorem dM_look_64 : decode cM_look 64 = .ok (.iconst 0, 1) := by decide +kernel
theorem dM_look_65 : decode cM_look 65 = .ok (.goto 4, 3) := by decide +kernel
theorem dM_look_68 : decode cM_look 68 = .ok (.iconst 1, 1) := by decide +kernel
theorem dM_look_69 : decode cM_look 69 = .ok (.putfield 33, 3) := by decide +kernel
theorem dM_look_72 : decode cM_look 72 = .ok (.aload_n 0, 1) := by decide +kernel
theorem dM_look_73 : decode cM_look 73 = .ok (.getfield 33, 3) := by decide +kernel
theorem dM_look_76 : decode cM_look 76 = .ok (.ifCond .le 5, 3) := by decide +kernel
theorem dM_look_79 : decode cM_look 79 = .ok (.iconst 0, 1) := by decide +kernel
theorem dM_look_80 : decode cM_look 80 = .ok (.ireturn, 1) := by decide +kernel
theorem dM_look_81 : decode cM_look 81 = .ok (.iload_n 3, 1) := by decide +kernel
theorem dM_look_82 : decode cM_look 82 = .ok (.iconst 4, 1) := by decide +kernel
theorem dM_look_83 : decode cM_look 83 = .ok (.if_icmp .ge 15, 3) := by decide +kernel
theorem dM_look_86 : decode cM_look 86 = .ok (.aload_n 0, 1) := by decide +kernel
theorem dM_look_87 : decode cM_look 87 = .ok (.getfield 7, 3) := by decide +kernel
theorem dM_look_90 : decode cM_look 90 = .ok (.iload 5, 2) := by decide +kernel
theorem dM_look_92 : decode cM_look 92 = .ok (.iload_n 3, 1) := by decide +kernel
theorem dM_look_93 : decode cM_look 93 = .ok (.iadd, 1) := by decide +kernel
theorem dM_look_94 : decode cM_look 94 = .ok (.iaload, 1) := by decide +kernel
theorem dM_look_95 : decode cM_look 95 = .ok (.goto 32, 3) := by decide +kernel
theorem dM_look_98 : decode cM_look 98 = .ok (.iload_n 3, 1) := by decide +kernel
theorem dM_look_99 : decode cM_look 99 = .ok (.iconst 4, 1) := by decide +kernel
theorem dM_look_100 : decode cM_look 100 = .ok (.if_icmp .ne 12, 3) := by decide +kernel
theorem dM_look_103 : decode cM_look 103 = .ok (.aload_n 0, 1) := by decide +kernel
theorem dM_look_104 : decode cM_look 104 = .ok (.iload 5, 2) := by decide +kernel
theorem dM_look_106 : decode cM_look 106 = .ok (.invokevirtual 154, 3) := by decide +kernel
theorem dM_look_109 : decode cM_look 109 = .ok (.goto 18, 3) := by decide +kernel
theorem dM_look_112 : decode cM_look 112 = .ok (.aload_n 0, 1) := by decide +kernel
theorem dM_look_113 : decode cM_look 113 = .ok (.getfield 7, 3) := by decide +kernel
theorem dM_look_116 : decode cM_look 116 = .ok (.iload 5, 2) := by decide +kernel
theorem dM_look_118 : decode cM_look 118 = .ok (.bipush 16, 2) := by decide +kernel
theorem dM_look_120 : decode cM_look 120 = .ok (.iadd, 1) := by decide +kernel
theorem dM_look_121 : decode cM_look 121 = .ok (.iload_n 3, 1) := by decide +kernel
theorem dM_look_122 : decode cM_look 122 = .ok (.iadd, 1) := by decide +kernel
theorem dM_look_123 : decode cM_look 123 = .ok (.bipush 8, 2) := by decide +kernel
theorem dM_look_125 : decode cM_look 125 = .ok (.isub, 1) := by decide +kernel
theorem dM_look_126 : decode cM_look 126 = .ok (.iaload, 1) := by decide +kernel
theorem dM_look_127 : decode cM_look 127 = .ok (.ireturn, 1) := by decide +kernel
abbrev cM_reference : ByteArray := prog_9_method_60_code
abbrev yM_reference : MethodName := ⟨"DrawingVaultModel", "reference", "(IIII)I"⟩
theorem dM_reference_0 : decode cM_reference 0 = .ok (.aload_n 0, 1) := by decide +kernel
theorem dM_reference_1 : decode cM_reference 1 = .ok (.iload_n 1, 1) := by decide +kernel
theorem dM_reference_2 : decode cM_reference 2 = .ok (.iload_n 2, 1) := by decide +kernel
theorem dM_reference_3 : decode cM_reference 3 = .ok (.invokevirtual 79, 3) := by decide +kernel
theorem dM_reference_6 : decode cM_reference 6 = .ok (.istore 5, 2) := by decide +kernel
theorem dM_reference_8 : decode cM_reference 8 = .ok (.iload 5, 2) := by decide +kernel
theorem dM_reference_10 : decode cM_reference 10 = .ok (.ifCond .eq 12, 3) := by decide +kernel
theorem dM_reference_13 : decode cM_reference 13 = .ok (.aload_n 0, 1) := by decide +kernel
theorem dM_reference_14 : decode cM_reference 14 = .ok (.iload_n 1, 1) := by decide +kernel
theorem dM_reference_15 : decode cM_reference 15 = .ok (.iload_n 2, 1) := by decide +kernel
theorem dM_reference_16 : decode cM_reference 16 = .ok (.invokevirtual 50, 3) := by decide +kernel
theorem dM_reference_19 : decode cM_reference 19 = .ok (.goto 6, 3) := by decide +kernel
theorem dM_reference_22 : decode cM_reference 22 = .ok (.sipush 1940, 3) := by decide +kernel
theorem dM_reference_25 : decode cM_reference 25 = .ok (.istore 6, 2) := by decide +kernel
theorem dM_reference_27 : decode cM_reference 27 = .ok (.aload_n 0, 1) := by decide +kernel
theorem dM_reference_28 : decode cM_reference 28 = .ok (.iload 5, 2) := by decide +kernel
theorem dM_reference_30 : decode cM_reference 30 = .ok (.ifCond .eq 35, 3) := by decide +kernel
theorem dM_reference_33 : decode cM_reference 33 = .ok (.iload_n 3, 1) := by decide +kernel
theorem dM_reference_34 : decode cM_reference 34 = .ok (.ifCond .lt 31, 3) := by decide +kernel
theorem dM_reference_37 : decode cM_reference 37 = .ok (.iload_n 3, 1) := by decide +kernel
theorem dM_reference_38 : decode cM_reference 38 = .ok (.aload_n 0, 1) := by decide +kernel
theorem dM_reference_39 : decode cM_reference 39 = .ok (.getfield 7, 3) := by decide +kernel
theorem dM_reference_42 : decode cM_reference 42 = .ok (.iload 6, 2) := by decide +kernel
theorem dM_reference_44 : decode cM_reference 44 = .ok (.iconst 3, 1) := by decide +kernel
theorem dM_reference_45 : decode cM_reference 45 = .ok (.iadd, 1) := by decide +kernel
theorem dM_reference_46 : decode cM_reference 46 = .ok (.iaload, 1) := by decide +kernel
theorem dM_reference_47 : decode cM_reference 47 = .ok (.if_icmp .ge 18, 3) := by decide +kernel
theorem dM_reference_50 : decode cM_reference 50 = .ok (.iload 4, 2) := by decide +kernel
theorem dM_reference_52 : decode cM_reference 52 = .ok (.ifCond .lt 13, 3) := by decide +kernel
theorem dM_reference_55 : decode cM_reference 55 = .ok (.iload 4, 2) := by decide +kernel
theorem dM_reference_57 : decode cM_reference 57 = .ok (.iconst 3, 1) := by decide +kernel
theorem dM_reference_58 : decode cM_reference 58 = .ok (.if_icmp .ge 7, 3) := by decide +kernel
theorem dM_reference_61 : decode cM_reference 61 = .ok (.iconst 0, 1) := by decide +kernel
theorem dM_reference_62 : decode cM_reference 62 = .ok (.goto 4, 3) := by decide +kernel
theorem dM_reference_65 : decode cM_reference 65 = .ok (.iconst 1, 1) := by decide +kernel
theorem dM_reference_66 : decode cM_reference 66 = .ok (.putfield 33, 3) := by decide +kernel
theorem dM_reference_69 : decode cM_reference 69 = .ok (.aload_n 0, 1) := by decide +kernel
theorem dM_reference_70 : decode cM_reference 70 = .ok (.getfield 33, 3) := by decide +kernel
theorem dM_reference_73 : decode cM_reference 73 = .ok (.ifCond .le 5, 3) := by decide +kernel
theorem dM_reference_76 : decode cM_reference 76 = .ok (.iconst 0, 1) := by decide +kernel
theorem dM_reference_77 : decode cM_reference 77 = .ok (.ireturn, 1) := by decide +kernel
theorem dM_reference_78 : decode cM_reference 78 = .ok (.iload 4, 2) := by decide +kernel
theorem dM_reference_80 : decode cM_reference 80 = .ok (.ifCond .ne 13, 3) := by decide +kernel
theorem dM_reference_83 : decode cM_reference 83 = .ok (.aload_n 0, 1) := by decide +kernel
theorem dM_reference_84 : decode cM_reference 84 = .ok (.iload 6, 2) := by decide +kernel
theorem dM_reference_86 : decode cM_reference 86 = .ok (.iload_n 3, 1) := by decide +kernel
theorem dM_reference_87 : decode cM_reference 87 = .ok (.invokevirtual 60, 3) := by decide +kernel
theorem dM_reference_90 : decode cM_reference 90 = .ok (.goto 26, 3) := by decide +kernel
theorem dM_reference_93 : decode cM_reference 93 = .ok (.iload 4, 2) := by decide +kernel
theorem dM_reference_95 : decode cM_reference 95 = .ok (.iconst 1, 1) := by decide +kernel
theorem dM_reference_96 : decode cM_reference 96 = .ok (.if_icmp .ne 13, 3) := by decide +kernel
theorem dM_reference_99 : decode cM_reference 99 = .ok (.aload_n 0, 1) := by decide +kernel
theorem dM_reference_100 : decode cM_reference 100 = .ok (.iload 6, 2) := by decide +kernel
theorem dM_reference_102 : decode cM_reference 102 = .ok (.iload_n 3, 1) := by decide +kernel
theorem dM_reference_103 : decode cM_reference 103 = .ok (.invokevirtual 57, 3) := by decide +kernel
theorem dM_reference_106 : decode cM_reference 106 = .ok (.goto 10, 3) := by decide +kernel
theorem dM_reference_109 : decode cM_reference 109 = .ok (.aload_n 0, 1) := by decide +kernel
theorem dM_reference_110 : decode cM_reference 110 = .ok (.iload 6, 2) := by decide +kernel
theorem dM_reference_112 : decode cM_reference 112 = .ok (.iload_n 3, 1) := by decide +kernel
theorem dM_reference_113 : decode cM_reference 113 = .ok (.invokevirtual 66, 3) := by decide +kernel
theorem dM_reference_116 : decode cM_reference 116 = .ok (.ireturn, 1) := by decide +kernel
abbrev cM_about : ByteArray := prog_9_method_61_code
abbrev yM_about : MethodName := ⟨"DrawingVaultModel", "about", "(II)I"⟩
theorem dM_about_0 : decode cM_about 0 = .ok (.aload_n 0, 1) := by decide +kernel
theorem dM_about_1 : decode cM_about 1 = .ok (.iload_n 1, 1) := by decide +kernel
theorem dM_about_2 : decode cM_about 2 = .ok (.invokevirtual 44, 3) := by decide +kernel
theorem dM_about_5 : decode cM_about 5 = .ok (.istore_n 3, 1) := by decide +kernel
theorem dM_about_6 : decode cM_about 6 = .ok (.iload_n 3, 1) := by decide +kernel
theorem dM_about_7 : decode cM_about 7 = .ok (.ifCond .eq 11, 3) := by decide +kernel
theorem dM_about_10 : decode cM_about 10 = .ok (.aload_n 0, 1) := by decide +kernel
theorem dM_about_11 : decode cM_about 11 = .ok (.iload_n 1, 1) := by decide +kernel
theorem dM_about_12 : decode cM_about 12 = .ok (.invokevirtual 40, 3) := by decide +kernel
theorem dM_about_15 : decode cM_about 15 = .ok (.goto 5, 3) := by decide +kernel
theorem dM_about_18 : decode cM_about 18 = .ok (.bipush 20, 2) := by decide +kernel
theorem dM_about_20 : decode cM_about 20 = .ok (.istore 4, 2) := by decide +kernel
theorem dM_about_22 : decode cM_about 22 = .ok (.iload_n 3, 1) := by decide +kernel
theorem dM_about_23 : decode cM_about 23 = .ok (.ifCond .eq 15, 3) := by decide +kernel
theorem dM_about_26 : decode cM_about 26 = .ok (.aload_n 0, 1) := by decide +kernel
theorem dM_about_27 : decode cM_about 27 = .ok (.iload_n 1, 1) := by decide +kernel
theorem dM_about_28 : decode cM_about 28 = .ok (.invokevirtual 76, 3) := by decide +kernel
theorem dM_about_31 : decode cM_about 31 = .ok (.ifCond .lt 7, 3) := by decide +kernel
theorem dM_about_34 : decode cM_about 34 = .ok (.iconst 1, 1) := by decide +kernel
theorem dM_about_35 : decode cM_about 35 = .ok (.goto 4, 3) := by decide +kernel
theorem dM_about_38 : decode cM_about 38 = .ok (.iconst 0, 1) := by decide +kernel
theorem dM_about_39 : decode cM_about 39 = .ok (.istore 5, 2) := by decide +kernel
theorem dM_about_41 : decode cM_about 41 = .ok (.iload_n 3, 1) := by decide +kernel
theorem dM_about_42 : decode cM_about 42 = .ok (.ifCond .eq 12, 3) := by decide +kernel
theorem dM_about_45 : decode cM_about 45 = .ok (.iload_n 2, 1) := by decide +kernel
theorem dM_about_46 : decode cM_about 46 = .ok (.ifCond .lt 8, 3) := by decide +kernel
theorem dM_about_49 : decode cM_about 49 = .ok (.iload_n 2, 1) := by decide +kernel
theorem dM_about_50 : decode cM_about 50 = .ok (.iconst 5, 1) := by decide +kernel
theorem dM_about_51 : decode cM_about 51 = .ok (.if_icmp .lt 61, 3) := by decide +kernel
theorem dM_about_54 : decode cM_about 54 = .ok (.iload 5, 2) := by decide +kernel
theorem dM_about_56 : decode cM_about 56 = .ok (.ifCond .eq 25, 3) := by decide +kernel
theorem dM_about_59 : decode cM_about 59 = .ok (.iload_n 2, 1) := by decide +kernel
theorem dM_about_60 : decode cM_about 60 = .ok (.bipush 8, 2) := by decide +kernel
theorem dM_about_62 : decode cM_about 62 = .ok (.if_icmp .lt 19, 3) := by decide +kernel
theorem dM_about_65 : decode cM_about 65 = .ok (.iload_n 2, 1) := by decide +kernel
theorem dM_about_66 : decode cM_about 66 = .ok (.bipush 8, 2) := by decide +kernel
theorem dM_about_68 : decode cM_about 68 = .ok (.isub, 1) := by decide +kernel
theorem dM_about_69 : decode cM_about 69 = .ok (.aload_n 0, 1) := by decide +kernel
theorem dM_about_70 : decode cM_about 70 = .ok (.getfield 7, 3) := by decide +kernel
theorem dM_about_73 : decode cM_about 73 = .ok (.iload 4, 2) := by decide +kernel
theorem dM_about_75 : decode cM_about 75 = .ok (.iconst 2, 1) := by decide +kernel
theorem dM_about_76 : decode cM_about 76 = .ok (.iadd, 1) := by decide +kernel
theorem dM_about_77 : decode cM_about 77 = .ok (.iaload, 1) := by decide +kernel
theorem dM_about_78 : decode cM_about 78 = .ok (.if_icmp .lt 34, 3) := by decide +kernel
theorem dM_about_81 : decode cM_about 81 = .ok (.iload 5, 2) := by decide +kernel
theorem dM_about_83 : decode cM_about 83 = .ok (.ifCond .eq 33, 3) := by decide +kernel
theorem dM_about_86 : decode cM_about 86 = .ok (.iload_n 2, 1) := by decide +kernel
theorem dM_about_87 : decode cM_about 87 = .ok (.sipush 200, 3) := by decide +kernel
theorem dM_about_90 : decode cM_about 90 = .ok (.if_icmp .lt 26, 3) := by decide +kernel
theorem dM_about_93 : decode cM_about 93 = .ok (.iload_n 2, 1) := by decide +kernel
theorem dM_about_94 : decode cM_about 94 = .ok (.sipush 200, 3) := by decide +kernel
theorem dM_about_97 : decode cM_about 97 = .ok (.isub, 1) := by decide +kernel
theorem dM_about_98 : decode cM_about 98 = .ok (.iconst 2, 1) := by decide +kernel
theorem dM_about_99 : decode cM_about 99 = .ok (.aload_n 0, 1) := by decide +kernel
theorem dM_about_100 : decode cM_about 100 = .ok (.getfield 7, 3) := by decide +kernel
theorem dM_about_103 : decode cM_about 103 = .ok (.iload 4, 2) := by decide +kernel
theorem dM_about_105 : decode cM_about 105 = .ok (.iconst 3, 1) := by decide +kernel
theorem dM_about_106 : decode cM_about 106 = .ok (.iadd, 1) := by decide +kernel
theorem dM_about_107 : decode cM_about 107 = .ok (.iaload, 1) := by decide +kernel
theorem dM_about_108 : decode cM_about 108 = .ok (.imul, 1) := by decide +kernel
theorem dM_about_109 : decode cM_about 109 = .ok (.if_icmp .ge 7, 3) := by decide +kernel
theorem dM_about_112 : decode cM_about 112 = .ok (.iconst 1, 1) := by decide +kernel
theorem dM_about_113 : decode cM_about 113 = .ok (.goto 4, 3) := by decide +kernel
theorem dM_about_116 : decode cM_about 116 = .ok (.iconst 0, 1) := by decide +kernel
theorem dM_about_117 : decode cM_about 117 = .ok (.istore 6, 2) := by decide +kernel
theorem dM_about_119 : decode cM_about 119 = .ok (.aload_n 0, 1) := by decide +kernel
theorem dM_about_120 : decode cM_about 120 = .ok (.iload 6, 2) := by decide +kernel
theorem dM_about_122 : decode cM_about 122 = .ok (.ifCond .eq 7, 3) := by decide +kernel
theorem dM_about_125 : decode cM_about 125 = .ok (.iconst 0, 1) := by decide +kernel
theorem dM_about_126 : decode cM_about 126 = .ok (.goto 4, 3) := by decide +kernel
theorem dM_about_129 : decode cM_about 129 = .ok (.iconst 1, 1) := by decide +kernel
theorem dM_about_130 : decode cM_about 130 = .ok (.putfield 33, 3) := by decide +kernel
theorem dM_about_133 : decode cM_about 133 = .ok (.iload 6, 2) := by decide +kernel
theorem dM_about_135 : decode cM_about 135 = .ok (.ifCond .ne 5, 3) := by decide +kernel
theorem dM_about_138 : decode cM_about 138 = .ok (.iconst 0, 1) := by decide +kernel
theorem dM_about_139 : decode cM_about 139 = .ok (.ireturn, 1) := by decide +kernel
theorem dM_about_140 : decode cM_about 140 = .ok (.iload_n 2, 1) := by decide +kernel
theorem dM_about_141 : decode cM_about 141 = .ok (.tableswitch 93 0 4 #[35, 43, 49, 55, 74], 35) := by decide +kernel
theorem dM_about_176 : decode cM_about 176 = .ok (.aload_n 0, 1) := by decide +kernel
theorem dM_about_177 : decode cM_about 177 = .ok (.iload_n 1, 1) := by decide +kernel
theorem dM_about_178 : decode cM_about 178 = .ok (.invokevirtual 47, 3) := by decide +kernel
theorem dM_about_181 : decode cM_about 181 = .ok (.iconst 1, 1) := by decide +kernel
theorem dM_about_182 : decode cM_about 182 = .ok (.isub, 1) := by decide +kernel
theorem dM_about_183 : decode cM_about 183 = .ok (.ireturn, 1) := by decide +kernel
theorem dM_about_184 : decode cM_about 184 = .ok (.aload_n 0, 1) := by decide +kernel
theorem dM_about_185 : decode cM_about 185 = .ok (.iload_n 1, 1) := by decide +kernel
theorem dM_about_186 : decode cM_about 186 = .ok (.invokevirtual 63, 3) := by decide +kernel
theorem dM_about_189 : decode cM_about 189 = .ok (.ireturn, 1) := by decide +kernel
theorem dM_about_190 : decode cM_about 190 = .ok (.aload_n 0, 1) := by decide +kernel
theorem dM_about_191 : decode cM_about 191 = .ok (.iload_n 1, 1) := by decide +kernel
theorem dM_about_192 : decode cM_about 192 = .ok (.invokevirtual 76, 3) := by decide +kernel
theorem dM_about_195 : decode cM_about 195 = .ok (.ireturn, 1) := by decide +kernel
theorem dM_about_196 : decode cM_about 196 = .ok (.iload 5, 2) := by decide +kernel
theorem dM_about_198 : decode cM_about 198 = .ok (.ifCond .eq 15, 3) := by decide +kernel
theorem dM_about_201 : decode cM_about 201 = .ok (.aload_n 0, 1) := by decide +kernel
theorem dM_about_202 : decode cM_about 202 = .ok (.getfield 7, 3) := by decide +kernel
theorem dM_about_205 : decode cM_about 205 = .ok (.iload 4, 2) := by decide +kernel
theorem dM_about_207 : decode cM_about 207 = .ok (.iconst 2, 1) := by decide +kernel
theorem dM_about_208 : decode cM_about 208 = .ok (.iadd, 1) := by decide +kernel
theorem dM_about_209 : decode cM_about 209 = .ok (.iaload, 1) := by decide +kernel
theorem dM_about_210 : decode cM_about 210 = .ok (.goto 4, 3) := by decide +kernel
theorem dM_about_213 : decode cM_about 213 = .ok (.iconst 0, 1) := by decide +kernel
theorem dM_about_214 : decode cM_about 214 = .ok (.ireturn, 1) := by decide +kernel
theorem dM_about_215 : decode cM_about 215 = .ok (.iload 5, 2) := by decide +kernel
theorem dM_about_217 : decode cM_about 217 = .ok (.ifCond .eq 15, 3) := by decide +kernel
theorem dM_about_220 : decode cM_about 220 = .ok (.aload_n 0, 1) := by decide +kernel
theorem dM_about_221 : decode cM_about 221 = .ok (.getfield 7, 3) := by decide +kernel
theorem dM_about_224 : decode cM_about 224 = .ok (.iload 4, 2) := by decide +kernel
theorem dM_about_226 : decode cM_about 226 = .ok (.iconst 3, 1) := by decide +kernel
theorem dM_about_227 : decode cM_about 227 = .ok (.iadd, 1) := by decide +kernel
theorem dM_about_228 : decode cM_about 228 = .ok (.iaload, 1) := by decide +kernel
theorem dM_about_229 : decode cM_about 229 = .ok (.goto 4, 3) := by decide +kernel
theorem dM_about_232 : decode cM_about 232 = .ok (.iconst 0, 1) := by decide +kernel
theorem dM_about_233 : decode cM_about 233 = .ok (.ireturn, 1) := by decide +kernel
theorem dM_about_234 : decode cM_about 234 = .ok (.iload_n 2, 1) := by decide +kernel
theorem dM_about_235 : decode cM_about 235 = .ok (.sipush 200, 3) := by decide +kernel
theorem dM_about_238 : decode cM_about 238 = .ok (.if_icmp .ge 21, 3) := by decide +kernel
theorem dM_about_241 : decode cM_about 241 = .ok (.aload_n 0, 1) := by decide +kernel
theorem dM_about_242 : decode cM_about 242 = .ok (.getfield 7, 3) := by decide +kernel
theorem dM_about_245 : decode cM_about 245 = .ok (.iload 4, 2) := by decide +kernel
theorem dM_about_247 : decode cM_about 247 = .ok (.bipush 16, 2) := by decide +kernel
theorem dM_about_249 : decode cM_about 249 = .ok (.iadd, 1) := by decide +kernel
theorem dM_about_250 : decode cM_about 250 = .ok (.iload_n 2, 1) := by decide +kernel
theorem dM_about_251 : decode cM_about 251 = .ok (.iadd, 1) := by decide +kernel
theorem dM_about_252 : decode cM_about 252 = .ok (.bipush 8, 2) := by decide +kernel
theorem dM_about_254 : decode cM_about 254 = .ok (.isub, 1) := by decide +kernel
theorem dM_about_255 : decode cM_about 255 = .ok (.iaload, 1) := by decide +kernel
theorem dM_about_256 : decode cM_about 256 = .ok (.goto 18, 3) := by decide +kernel
theorem dM_about_259 : decode cM_about 259 = .ok (.aload_n 0, 1) := by decide +kernel
theorem dM_about_260 : decode cM_about 260 = .ok (.getfield 7, 3) := by decide +kernel
theorem dM_about_263 : decode cM_about 263 = .ok (.iload 4, 2) := by decide +kernel
theorem dM_about_265 : decode cM_about 265 = .ok (.iconst 4, 1) := by decide +kernel
theorem dM_about_266 : decode cM_about 266 = .ok (.iadd, 1) := by decide +kernel
theorem dM_about_267 : decode cM_about 267 = .ok (.iload_n 2, 1) := by decide +kernel
theorem dM_about_268 : decode cM_about 268 = .ok (.iadd, 1) := by decide +kernel
theorem dM_about_269 : decode cM_about 269 = .ok (.sipush 200, 3) := by decide +kernel
theorem dM_about_272 : decode cM_about 272 = .ok (.isub, 1) := by decide +kernel
theorem dM_about_273 : decode cM_about 273 = .ok (.iaload, 1) := by decide +kernel
theorem dM_about_274 : decode cM_about 274 = .ok (.ireturn, 1) := by decide +kernel
abbrev cM_inBaseline : ByteArray := prog_9_method_62_code
abbrev yM_inBaseline : MethodName := ⟨"DrawingVaultModel", "inBaseline", "(III)I"⟩
theorem dM_inBaseline_0 : decode cM_inBaseline 0 = .ok (.iload_n 1, 1) := by decide +kernel
theorem dM_inBaseline_1 : decode cM_inBaseline 1 = .ok (.ifCond .lt 40, 3) := by decide +kernel
theorem dM_inBaseline_4 : decode cM_inBaseline 4 = .ok (.iload_n 1, 1) := by decide +kernel
theorem dM_inBaseline_5 : decode cM_inBaseline 5 = .ok (.bipush 10, 2) := by decide +kernel
theorem dM_inBaseline_7 : decode cM_inBaseline 7 = .ok (.if_icmp .ge 34, 3) := by decide +kernel
theorem dM_inBaseline_10 : decode cM_inBaseline 10 = .ok (.aload_n 0, 1) := by decide +kernel
theorem dM_inBaseline_11 : decode cM_inBaseline 11 = .ok (.getfield 7, 3) := by decide +kernel
theorem dM_inBaseline_14 : decode cM_inBaseline 14 = .ok (.aload_n 0, 1) := by decide +kernel
theorem dM_inBaseline_15 : decode cM_inBaseline 15 = .ok (.iload_n 1, 1) := by decide +kernel
theorem dM_inBaseline_16 : decode cM_inBaseline 16 = .ok (.ifCond .lt 13, 3) := by decide +kernel
theorem dM_inBaseline_19 : decode cM_inBaseline 19 = .ok (.iload_n 1, 1) := by decide +kernel
theorem dM_inBaseline_20 : decode cM_inBaseline 20 = .ok (.bipush 10, 2) := by decide +kernel
theorem dM_inBaseline_22 : decode cM_inBaseline 22 = .ok (.if_icmp .ge 7, 3) := by decide +kernel
theorem dM_inBaseline_25 : decode cM_inBaseline 25 = .ok (.iload_n 1, 1) := by decide +kernel
theorem dM_inBaseline_26 : decode cM_inBaseline 26 = .ok (.goto 4, 3) := by decide +kernel
theorem dM_inBaseline_29 : decode cM_inBaseline 29 = .ok (.iconst 0, 1) := by decide +kernel
theorem dM_inBaseline_30 : decode cM_inBaseline 30 = .ok (.invokevirtual 99, 3) := by decide +kernel
theorem dM_inBaseline_33 : decode cM_inBaseline 33 = .ok (.iaload, 1) := by decide +kernel
theorem dM_inBaseline_34 : decode cM_inBaseline 34 = .ok (.ifCond .le 7, 3) := by decide +kernel
theorem dM_inBaseline_37 : decode cM_inBaseline 37 = .ok (.iconst 1, 1) := by decide +kernel
theorem dM_inBaseline_38 : decode cM_inBaseline 38 = .ok (.goto 4, 3) := by decide +kernel
theorem dM_inBaseline_41 : decode cM_inBaseline 41 = .ok (.iconst 0, 1) := by decide +kernel
theorem dM_inBaseline_42 : decode cM_inBaseline 42 = .ok (.istore 4, 2) := by decide +kernel
theorem dM_inBaseline_44 : decode cM_inBaseline 44 = .ok (.iload 4, 2) := by decide +kernel
theorem dM_inBaseline_46 : decode cM_inBaseline 46 = .ok (.ifCond .eq 11, 3) := by decide +kernel
theorem dM_inBaseline_49 : decode cM_inBaseline 49 = .ok (.aload_n 0, 1) := by decide +kernel
theorem dM_inBaseline_50 : decode cM_inBaseline 50 = .ok (.iload_n 1, 1) := by decide +kernel
theorem dM_inBaseline_51 : decode cM_inBaseline 51 = .ok (.invokevirtual 99, 3) := by decide +kernel
theorem dM_inBaseline_54 : decode cM_inBaseline 54 = .ok (.goto 6, 3) := by decide +kernel
theorem dM_inBaseline_57 : decode cM_inBaseline 57 = .ok (.sipush 24980, 3) := by decide +kernel
theorem dM_inBaseline_60 : decode cM_inBaseline 60 = .ok (.istore 5, 2) := by decide +kernel
theorem dM_inBaseline_62 : decode cM_inBaseline 62 = .ok (.iload 4, 2) := by decide +kernel
theorem dM_inBaseline_64 : decode cM_inBaseline 64 = .ok (.ifCond .eq 45, 3) := by decide +kernel
theorem dM_inBaseline_67 : decode cM_inBaseline 67 = .ok (.iload_n 2, 1) := by decide +kernel
theorem dM_inBaseline_68 : decode cM_inBaseline 68 = .ok (.iconst (-1), 1) := by decide +kernel
theorem dM_inBaseline_69 : decode cM_inBaseline 69 = .ok (.if_icmp .ne 10, 3) := by decide +kernel
theorem dM_inBaseline_72 : decode cM_inBaseline 72 = .ok (.iload_n 3, 1) := by decide +kernel
theorem dM_inBaseline_73 : decode cM_inBaseline 73 = .ok (.ifCond .ne 36, 3) := by decide +kernel
theorem dM_inBaseline_76 : decode cM_inBaseline 76 = .ok (.goto 29, 3) := by decide +kernel
theorem dM_inBaseline_79 : decode cM_inBaseline 79 = .ok (.iload_n 2, 1) := by decide +kernel
theorem dM_inBaseline_80 : decode cM_inBaseline 80 = .ok (.ifCond .lt 29, 3) := by decide +kernel
theorem dM_inBaseline_83 : decode cM_inBaseline 83 = .ok (.iload_n 2, 1) := by decide +kernel
theorem dM_inBaseline_84 : decode cM_inBaseline 84 = .ok (.aload_n 0, 1) := by decide +kernel
theorem dM_inBaseline_85 : decode cM_inBaseline 85 = .ok (.getfield 7, 3) := by decide +kernel
theorem dM_inBaseline_88 : decode cM_inBaseline 88 = .ok (.iload 5, 2) := by decide +kernel
theorem dM_inBaseline_90 : decode cM_inBaseline 90 = .ok (.iconst 1, 1) := by decide +kernel
theorem dM_inBaseline_91 : decode cM_inBaseline 91 = .ok (.iadd, 1) := by decide +kernel
theorem dM_inBaseline_92 : decode cM_inBaseline 92 = .ok (.iaload, 1) := by decide +kernel
theorem dM_inBaseline_93 : decode cM_inBaseline 93 = .ok (.if_icmp .ge 16, 3) := by decide +kernel
theorem dM_inBaseline_96 : decode cM_inBaseline 96 = .ok (.iload_n 3, 1) := by decide +kernel
theorem dM_inBaseline_97 : decode cM_inBaseline 97 = .ok (.ifCond .lt 12, 3) := by decide +kernel
theorem dM_inBaseline_100 : decode cM_inBaseline 100 = .ok (.iload_n 3, 1) := by decide +kernel
theorem dM_inBaseline_101 : decode cM_inBaseline 101 = .ok (.iconst 2, 1) := by decide +kernel
theorem dM_inBaseline_102 : decode cM_inBaseline 102 = .ok (.if_icmp .ge 7, 3) := by decide +kernel
theorem dM_inBaseline_105 : decode cM_inBaseline 105 = .ok (.iconst 1, 1) := by decide +kernel
theorem dM_inBaseline_106 : decode cM_inBaseline 106 = .ok (.goto 4, 3) := by decide +kernel
theorem dM_inBaseline_109 : decode cM_inBaseline 109 = .ok (.iconst 0, 1) := by decide +kernel
theorem dM_inBaseline_110 : decode cM_inBaseline 110 = .ok (.istore 6, 2) := by decide +kernel
theorem dM_inBaseline_112 : decode cM_inBaseline 112 = .ok (.aload_n 0, 1) := by decide +kernel
theorem dM_inBaseline_113 : decode cM_inBaseline 113 = .ok (.iload 6, 2) := by decide +kernel
theorem dM_inBaseline_115 : decode cM_inBaseline 115 = .ok (.ifCond .eq 7, 3) := by decide +kernel
theorem dM_inBaseline_118 : decode cM_inBaseline 118 = .ok (.iconst 0, 1) := by decide +kernel
theorem dM_inBaseline_119 : decode cM_inBaseline 119 = .ok (.goto 4, 3) := by decide +kernel
theorem dM_inBaseline_122 : decode cM_inBaseline 122 = .ok (.iconst 1, 1) := by decide +kernel
theorem dM_inBaseline_123 : decode cM_inBaseline 123 = .ok (.putfield 33, 3) := by decide +kernel
theorem dM_inBaseline_126 : decode cM_inBaseline 126 = .ok (.iload 6, 2) := by decide +kernel
theorem dM_inBaseline_128 : decode cM_inBaseline 128 = .ok (.ifCond .ne 5, 3) := by decide +kernel
theorem dM_inBaseline_131 : decode cM_inBaseline 131 = .ok (.iconst 0, 1) := by decide +kernel
theorem dM_inBaseline_132 : decode cM_inBaseline 132 = .ok (.ireturn, 1) := by decide +kernel
theorem dM_inBaseline_133 : decode cM_inBaseline 133 = .ok (.iload_n 2, 1) := by decide +kernel
theorem dM_inBaseline_134 : decode cM_inBaseline 134 = .ok (.iconst (-1), 1) := by decide +kernel
theorem dM_inBaseline_135 : decode cM_inBaseline 135 = .ok (.if_icmp .ne 13, 3) := by decide +kernel
theorem dM_inBaseline_138 : decode cM_inBaseline 138 = .ok (.aload_n 0, 1) := by decide +kernel
theorem dM_inBaseline_139 : decode cM_inBaseline 139 = .ok (.getfield 7, 3) := by decide +kernel
theorem dM_inBaseline_142 : decode cM_inBaseline 142 = .ok (.iload 5, 2) := by decide +kernel
theorem dM_inBaseline_144 : decode cM_inBaseline 144 = .ok (.iconst 1, 1) := by decide +kernel
theorem dM_inBaseline_145 : decode cM_inBaseline 145 = .ok (.iadd, 1) := by decide +kernel
theorem dM_inBaseline_146 : decode cM_inBaseline 146 = .ok (.iaload, 1) := by decide +kernel
theorem dM_inBaseline_147 : decode cM_inBaseline 147 = .ok (.ireturn, 1) := by decide +kernel
theorem dM_inBaseline_148 : decode cM_inBaseline 148 = .ok (.iload_n 2, 1) := by decide +kernel
theorem dM_inBaseline_149 : decode cM_inBaseline 149 = .ok (.istore 7, 2) := by decide +kernel
theorem dM_inBaseline_151 : decode cM_inBaseline 151 = .ok (.iconst 0, 1) := by decide +kernel
theorem dM_inBaseline_152 : decode cM_inBaseline 152 = .ok (.istore 8, 2) := by decide +kernel
theorem dM_inBaseline_154 : decode cM_inBaseline 154 = .ok (.aload_n 0, 1) := by decide +kernel
theorem dM_inBaseline_155 : decode cM_inBaseline 155 = .ok (.getfield 7, 3) := by decide +kernel
theorem dM_inBaseline_158 : decode cM_inBaseline 158 = .ok (.iload 5, 2) := by decide +kernel
theorem dM_inBaseline_160 : decode cM_inBaseline 160 = .ok (.iconst 2, 1) := by decide +kernel
theorem dM_inBaseline_161 : decode cM_inBaseline 161 = .ok (.iadd, 1) := by decide +kernel
theorem dM_inBaseline_162 : decode cM_inBaseline 162 = .ok (.iload 8, 2) := by decide +kernel
theorem dM_inBaseline_164 : decode cM_inBaseline 164 = .ok (.iadd, 1) := by decide +kernel
theorem dM_inBaseline_165 : decode cM_inBaseline 165 = .ok (.iaload, 1) := by decide +kernel
theorem dM_inBaseline_166 : decode cM_inBaseline 166 = .ok (.ifCond .eq 8, 3) := by decide +kernel
theorem dM_inBaseline_169 : decode cM_inBaseline 169 = .ok (.iload 7, 2) := by decide +kernel
theorem dM_inBaseline_171 : decode cM_inBaseline 171 = .ok (.ifCond .le 34, 3) := by decide +kernel
theorem dM_inBaseline_174 : decode cM_inBaseline 174 = .ok (.iload 7, 2) := by decide +kernel
theorem dM_inBaseline_176 : decode cM_inBaseline 176 = .ok (.aload_n 0, 1) := by decide +kernel
theorem dM_inBaseline_177 : decode cM_inBaseline 177 = .ok (.getfield 7, 3) := by decide +kernel
theorem dM_inBaseline_180 : decode cM_inBaseline 180 = .ok (.iload 5, 2) := by decide +kernel
theorem dM_inBaseline_182 : decode cM_inBaseline 182 = .ok (.iconst 2, 1) := by decide +kernel
theorem dM_inBaseline_183 : decode cM_inBaseline 183 = .ok (.iadd, 1) := by decide +kernel
theorem dM_inBaseline_184 : decode cM_inBaseline 184 = .ok (.iload 8, 2) := by decide +kernel
theorem dM_inBaseline_186 : decode cM_inBaseline 186 = .ok (.iadd, 1) := by decide +kernel
theorem dM_inBaseline_187 : decode cM_inBaseline 187 = .ok (.iaload, 1) := by decide +kernel
theorem dM_inBaseline_188 : decode cM_inBaseline 188 = .ok (.ifCond .le 7, 3) := by decide +kernel
theorem dM_inBaseline_191 : decode cM_inBaseline 191 = .ok (.iconst 1, 1) := by decide +kernel
theorem dM_inBaseline_192 : decode cM_inBaseline 192 = .ok (.goto 4, 3) := by decide +kernel
theorem dM_inBaseline_195 : decode cM_inBaseline 195 = .ok (.iconst 0, 1) := by decide +kernel
theorem dM_inBaseline_196 : decode cM_inBaseline 196 = .ok (.isub, 1) := by decide +kernel
theorem dM_inBaseline_197 : decode cM_inBaseline 197 = .ok (.istore 7, 2) := by decide +kernel
theorem dM_inBaseline_199 : decode cM_inBaseline 199 = .ok (.iinc 8 1, 3) := by decide +kernel
theorem dM_inBaseline_202 : decode cM_inBaseline 202 = .ok (.goto (-48), 3) := by decide +kernel
theorem dM_inBaseline_205 : decode cM_inBaseline 205 = .ok (.iload_n 3, 1) := by decide +kernel
theorem dM_inBaseline_206 : decode cM_inBaseline 206 = .ok (.ifCond .ne 8, 3) := by decide +kernel
theorem dM_inBaseline_209 : decode cM_inBaseline 209 = .ok (.iload 8, 2) := by decide +kernel
theorem dM_inBaseline_211 : decode cM_inBaseline 211 = .ok (.goto 17, 3) := by decide +kernel
theorem dM_inBaseline_214 : decode cM_inBaseline 214 = .ok (.aload_n 0, 1) := by decide +kernel
theorem dM_inBaseline_215 : decode cM_inBaseline 215 = .ok (.getfield 7, 3) := by decide +kernel
theorem dM_inBaseline_218 : decode cM_inBaseline 218 = .ok (.iload 5, 2) := by decide +kernel
theorem dM_inBaseline_220 : decode cM_inBaseline 220 = .ok (.iconst 2, 1) := by decide +kernel
theorem dM_inBaseline_221 : decode cM_inBaseline 221 = .ok (.iadd, 1) := by decide +kernel
theorem dM_inBaseline_222 : decode cM_inBaseline 222 = .ok (.iload 8, 2) := by decide +kernel
theorem dM_inBaseline_224 : decode cM_inBaseline 224 = .ok (.iadd, 1) := by decide +kernel
theorem dM_inBaseline_225 : decode cM_inBaseline 225 = .ok (.iaload, 1) := by decide +kernel
theorem dM_inBaseline_226 : decode cM_inBaseline 226 = .ok (.iconst 1, 1) := by decide +kernel
theorem dM_inBaseline_227 : decode cM_inBaseline 227 = .ok (.isub, 1) := by decide +kernel
theorem dM_inBaseline_228 : decode cM_inBaseline 228 = .ok (.ireturn, 1) := by decide +kernel
abbrev cM_user : ByteArray := prog_9_method_63_code
abbrev yM_user : MethodName := ⟨"DrawingVaultModel", "user", "(IZI)I"⟩
theorem dM_user_0 : decode cM_user 0 = .ok (.aload_n 0, 1) := by decide +kernel
theorem dM_user_1 : decode cM_user 1 = .ok (.iconst 0, 1) := by decide +kernel
theorem dM_user_2 : decode cM_user 2 = .ok (.putfield 33, 3) := by decide +kernel
theorem dM_user_5 : decode cM_user 5 = .ok (.aload_n 0, 1) := by decide +kernel
theorem dM_user_6 : decode cM_user 6 = .ok (.iload_n 1, 1) := by decide +kernel
theorem dM_user_7 : decode cM_user 7 = .ok (.invokevirtual 44, 3) := by decide +kernel
theorem dM_user_10 : decode cM_user 10 = .ok (.ifCond .eq 7, 3) := by decide +kernel
theorem dM_user_13 : decode cM_user 13 = .ok (.iload_n 3, 1) := by decide +kernel
theorem dM_user_14 : decode cM_user 14 = .ok (.ifCond .ge 5, 3) := by decide +kernel
theorem dM_user_17 : decode cM_user 17 = .ok (.iconst (-1), 1) := by decide +kernel
theorem dM_user_18 : decode cM_user 18 = .ok (.ireturn, 1) := by decide +kernel
theorem dM_user_19 : decode cM_user 19 = .ok (.aload_n 0, 1) := by decide +kernel
theorem dM_user_20 : decode cM_user 20 = .ok (.iload_n 1, 1) := by decide +kernel
theorem dM_user_21 : decode cM_user 21 = .ok (.invokevirtual 145, 3) := by decide +kernel
theorem dM_user_24 : decode cM_user 24 = .ok (.iload_n 3, 1) := by decide +kernel
theorem dM_user_25 : decode cM_user 25 = .ok (.istore 4, 2) := by decide +kernel
theorem dM_user_27 : decode cM_user 27 = .ok (.iconst (-1), 1) := by decide +kernel
theorem dM_user_28 : decode cM_user 28 = .ok (.istore 5, 2) := by decide +kernel
theorem dM_user_30 : decode cM_user 30 = .ok (.aload_n 0, 1) := by decide +kernel
theorem dM_user_31 : decode cM_user 31 = .ok (.getfield 7, 3) := by decide +kernel
theorem dM_user_34 : decode cM_user 34 = .ok (.bipush 16, 2) := by decide +kernel
theorem dM_user_36 : decode cM_user 36 = .ok (.iaload, 1) := by decide +kernel
theorem dM_user_37 : decode cM_user 37 = .ok (.iconst 1, 1) := by decide +kernel
theorem dM_user_38 : decode cM_user 38 = .ok (.isub, 1) := by decide +kernel
theorem dM_user_39 : decode cM_user 39 = .ok (.istore 6, 2) := by decide +kernel
theorem dM_user_41 : decode cM_user 41 = .ok (.iload 6, 2) := by decide +kernel
theorem dM_user_43 : decode cM_user 43 = .ok (.ifCond .lt 113, 3) := by decide +kernel
theorem dM_user_46 : decode cM_user 46 = .ok (.iconst 0, 1) := by decide +kernel
theorem dM_user_47 : decode cM_user 47 = .ok (.istore 7, 2) := by decide +kernel
theorem dM_user_49 : decode cM_user 49 = .ok (.iconst 0, 1) := by decide +kernel
theorem dM_user_50 : decode cM_user 50 = .ok (.istore 8, 2) := by decide +kernel
theorem dM_user_52 : decode cM_user 52 = .ok (.iload 8, 2) := by decide +kernel
theorem dM_user_54 : decode cM_user 54 = .ok (.iload 6, 2) := by decide +kernel
theorem dM_user_56 : decode cM_user 56 = .ok (.if_icmp .ge 51, 3) := by decide +kernel
theorem dM_user_59 : decode cM_user 59 = .ok (.iload 7, 2) := by decide +kernel
theorem dM_user_61 : decode cM_user 61 = .ok (.iload_n 2, 1) := by decide +kernel
theorem dM_user_62 : decode cM_user 62 = .ok (.ifCond .eq 21, 3) := by decide +kernel
theorem dM_user_65 : decode cM_user 65 = .ok (.aload_n 0, 1) := by decide +kernel
theorem dM_user_66 : decode cM_user 66 = .ok (.getfield 20, 3) := by decide +kernel
theorem dM_user_69 : decode cM_user 69 = .ok (.iload 8, 2) := by decide +kernel
theorem dM_user_71 : decode cM_user 71 = .ok (.baload, 1) := by decide +kernel
theorem dM_user_72 : decode cM_user 72 = .ok (.ifCond .eq 7, 3) := by decide +kernel
theorem dM_user_75 : decode cM_user 75 = .ok (.iconst 1, 1) := by decide +kernel
theorem dM_user_76 : decode cM_user 76 = .ok (.goto 22, 3) := by decide +kernel
theorem dM_user_79 : decode cM_user 79 = .ok (.iconst 0, 1) := by decide +kernel
theorem dM_user_80 : decode cM_user 80 = .ok (.goto 18, 3) := by decide +kernel
theorem dM_user_83 : decode cM_user 83 = .ok (.aload_n 0, 1) := by decide +kernel
theorem dM_user_84 : decode cM_user 84 = .ok (.iload 8, 2) := by decide +kernel
theorem dM_user_86 : decode cM_user 86 = .ok (.iload_n 1, 1) := by decide +kernel
theorem dM_user_87 : decode cM_user 87 = .ok (.invokevirtual 142, 3) := by decide +kernel
theorem dM_user_90 : decode cM_user 90 = .ok (.ifCond .eq 7, 3) := by decide +kernel
theorem dM_user_93 : decode cM_user 93 = .ok (.iconst 1, 1) := by decide +kernel
theorem dM_user_94 : decode cM_user 94 = .ok (.goto 4, 3) := by decide +kernel
theorem dM_user_97 : decode cM_user 97 = .ok (.iconst 0, 1) := by decide +kernel
theorem dM_user_98 : decode cM_user 98 = .ok (.iadd, 1) := by decide +kernel
theorem dM_user_99 : decode cM_user 99 = .ok (.istore 7, 2) := by decide +kernel
theorem dM_user_101 : decode cM_user 101 = .ok (.iinc 8 1, 3) := by decide +kernel
theorem dM_user_104 : decode cM_user 104 = .ok (.goto (-52), 3) := by decide +kernel
theorem dM_user_107 : decode cM_user 107 = .ok (.iload_n 2, 1) := by decide +kernel
theorem dM_user_108 : decode cM_user 108 = .ok (.ifCond .eq 16, 3) := by decide +kernel
theorem dM_user_111 : decode cM_user 111 = .ok (.aload_n 0, 1) := by decide +kernel
theorem dM_user_112 : decode cM_user 112 = .ok (.getfield 20, 3) := by decide +kernel
theorem dM_user_115 : decode cM_user 115 = .ok (.iload 6, 2) := by decide +kernel
theorem dM_user_117 : decode cM_user 117 = .ok (.baload, 1) := by decide +kernel
theorem dM_user_118 : decode cM_user 118 = .ok (.ifCond .eq 28, 3) := by decide +kernel
theorem dM_user_121 : decode cM_user 121 = .ok (.goto 13, 3) := by decide +kernel
theorem dM_user_124 : decode cM_user 124 = .ok (.aload_n 0, 1) := by decide +kernel
theorem dM_user_125 : decode cM_user 125 = .ok (.iload 6, 2) := by decide +kernel
theorem dM_user_127 : decode cM_user 127 = .ok (.iload_n 1, 1) := by decide +kernel
theorem dM_user_128 : decode cM_user 128 = .ok (.invokevirtual 142, 3) := by decide +kernel
theorem dM_user_131 : decode cM_user 131 = .ok (.ifCond .eq 15, 3) := by decide +kernel
theorem dM_user_134 : decode cM_user 134 = .ok (.iload 7, 2) := by decide +kernel
theorem dM_user_136 : decode cM_user 136 = .ok (.iload 4, 2) := by decide +kernel
theorem dM_user_138 : decode cM_user 138 = .ok (.if_icmp .ne 8, 3) := by decide +kernel
theorem dM_user_141 : decode cM_user 141 = .ok (.iload 6, 2) := by decide +kernel
theorem dM_user_143 : decode cM_user 143 = .ok (.goto 5, 3) := by decide +kernel
theorem dM_user_146 : decode cM_user 146 = .ok (.iload 5, 2) := by decide +kernel
theorem dM_user_148 : decode cM_user 148 = .ok (.istore 5, 2) := by decide +kernel
theorem dM_user_150 : decode cM_user 150 = .ok (.iinc 6 (-1), 3) := by decide +kernel
theorem dM_user_153 : decode cM_user 153 = .ok (.goto (-112), 3) := by decide +kernel
theorem dM_user_156 : decode cM_user 156 = .ok (.iload 5, 2) := by decide +kernel
theorem dM_user_158 : decode cM_user 158 = .ok (.ireturn, 1) := by decide +kernel
abbrev cM_difference : ByteArray := prog_9_method_64_code
abbrev yM_difference : MethodName := ⟨"DrawingVaultModel", "difference", "(IIII)I"⟩
theorem dM_difference_0 : decode cM_difference 0 = .ok (.aload_n 0, 1) := by decide +kernel
theorem dM_difference_1 : decode cM_difference 1 = .ok (.iload_n 1, 1) := by decide +kernel
theorem dM_difference_2 : decode cM_difference 2 = .ok (.iload_n 2, 1) := by decide +kernel
theorem dM_difference_3 : decode cM_difference 3 = .ok (.invokevirtual 79, 3) := by decide +kernel
theorem dM_difference_6 : decode cM_difference 6 = .ok (.ifCond .eq 16, 3) := by decide +kernel
theorem dM_difference_9 : decode cM_difference 9 = .ok (.aload_n 0, 1) := by decide +kernel
theorem dM_difference_10 : decode cM_difference 10 = .ok (.iload_n 1, 1) := by decide +kernel
theorem dM_difference_11 : decode cM_difference 11 = .ok (.iload_n 3, 1) := by decide +kernel
theorem dM_difference_12 : decode cM_difference 12 = .ok (.invokevirtual 79, 3) := by decide +kernel
theorem dM_difference_15 : decode cM_difference 15 = .ok (.ifCond .eq 7, 3) := by decide +kernel
theorem dM_difference_18 : decode cM_difference 18 = .ok (.iconst 1, 1) := by decide +kernel
theorem dM_difference_19 : decode cM_difference 19 = .ok (.goto 4, 3) := by decide +kernel
theorem dM_difference_22 : decode cM_difference 22 = .ok (.iconst 0, 1) := by decide +kernel
theorem dM_difference_23 : decode cM_difference 23 = .ok (.istore 5, 2) := by decide +kernel
theorem dM_difference_25 : decode cM_difference 25 = .ok (.aload_n 0, 1) := by decide +kernel
theorem dM_difference_26 : decode cM_difference 26 = .ok (.iload 5, 2) := by decide +kernel
theorem dM_difference_28 : decode cM_difference 28 = .ok (.ifCond .eq 7, 3) := by decide +kernel
theorem dM_difference_31 : decode cM_difference 31 = .ok (.iconst 0, 1) := by decide +kernel
theorem dM_difference_32 : decode cM_difference 32 = .ok (.goto 4, 3) := by decide +kernel
theorem dM_difference_35 : decode cM_difference 35 = .ok (.iconst 1, 1) := by decide +kernel
theorem dM_difference_36 : decode cM_difference 36 = .ok (.putfield 33, 3) := by decide +kernel
theorem dM_difference_39 : decode cM_difference 39 = .ok (.iload 5, 2) := by decide +kernel
theorem dM_difference_41 : decode cM_difference 41 = .ok (.ifCond .ne 5, 3) := by decide +kernel
theorem dM_difference_44 : decode cM_difference 44 = .ok (.iconst 0, 1) := by decide +kernel
theorem dM_difference_45 : decode cM_difference 45 = .ok (.ireturn, 1) := by decide +kernel
theorem dM_difference_46 : decode cM_difference 46 = .ok (.aload_n 0, 1) := by decide +kernel
theorem dM_difference_47 : decode cM_difference 47 = .ok (.iload_n 1, 1) := by decide +kernel
theorem dM_difference_48 : decode cM_difference 48 = .ok (.iload_n 2, 1) := by decide +kernel
theorem dM_difference_49 : decode cM_difference 49 = .ok (.invokevirtual 50, 3) := by decide +kernel
theorem dM_difference_52 : decode cM_difference 52 = .ok (.istore 6, 2) := by decide +kernel
theorem dM_difference_54 : decode cM_difference 54 = .ok (.aload_n 0, 1) := by decide +kernel
theorem dM_difference_55 : decode cM_difference 55 = .ok (.iload_n 1, 1) := by decide +kernel
theorem dM_difference_56 : decode cM_difference 56 = .ok (.iload_n 3, 1) := by decide +kernel
theorem dM_difference_57 : decode cM_difference 57 = .ok (.invokevirtual 50, 3) := by decide +kernel
theorem dM_difference_60 : decode cM_difference 60 = .ok (.istore 7, 2) := by decide +kernel
theorem dM_difference_62 : decode cM_difference 62 = .ok (.iconst 0, 1) := by decide +kernel
theorem dM_difference_63 : decode cM_difference 63 = .ok (.istore 8, 2) := by decide +kernel
theorem dM_difference_65 : decode cM_difference 65 = .ok (.iconst (-1), 1) := by decide +kernel
theorem dM_difference_66 : decode cM_difference 66 = .ok (.istore 9, 2) := by decide +kernel
theorem dM_difference_68 : decode cM_difference 68 = .ok (.iconst 0, 1) := by decide +kernel
theorem dM_difference_69 : decode cM_difference 69 = .ok (.istore 10, 2) := by decide +kernel
theorem dM_difference_71 : decode cM_difference 71 = .ok (.iload 10, 2) := by decide +kernel
theorem dM_difference_73 : decode cM_difference 73 = .ok (.bipush 8, 2) := by decide +kernel
theorem dM_difference_75 : decode cM_difference 75 = .ok (.if_icmp .ge 67, 3) := by decide +kernel
theorem dM_difference_78 : decode cM_difference 78 = .ok (.aload_n 0, 1) := by decide +kernel
theorem dM_difference_79 : decode cM_difference 79 = .ok (.iload 6, 2) := by decide +kernel
theorem dM_difference_81 : decode cM_difference 81 = .ok (.iload 10, 2) := by decide +kernel
theorem dM_difference_83 : decode cM_difference 83 = .ok (.iload 7, 2) := by decide +kernel
theorem dM_difference_85 : decode cM_difference 85 = .ok (.iload 10, 2) := by decide +kernel
theorem dM_difference_87 : decode cM_difference 87 = .ok (.invokevirtual 72, 3) := by decide +kernel
theorem dM_difference_90 : decode cM_difference 90 = .ok (.ifCond .ne 7, 3) := by decide +kernel
theorem dM_difference_93 : decode cM_difference 93 = .ok (.iconst 1, 1) := by decide +kernel
theorem dM_difference_94 : decode cM_difference 94 = .ok (.goto 4, 3) := by decide +kernel
theorem dM_difference_97 : decode cM_difference 97 = .ok (.iconst 0, 1) := by decide +kernel
theorem dM_difference_98 : decode cM_difference 98 = .ok (.istore 11, 2) := by decide +kernel
theorem dM_difference_100 : decode cM_difference 100 = .ok (.iload 11, 2) := by decide +kernel
theorem dM_difference_102 : decode cM_difference 102 = .ok (.ifCond .eq 15, 3) := by decide +kernel
theorem dM_difference_105 : decode cM_difference 105 = .ok (.iload 8, 2) := by decide +kernel
theorem dM_difference_107 : decode cM_difference 107 = .ok (.iload 4, 2) := by decide +kernel
theorem dM_difference_109 : decode cM_difference 109 = .ok (.if_icmp .ne 8, 3) := by decide +kernel
theorem dM_difference_112 : decode cM_difference 112 = .ok (.iload 10, 2) := by decide +kernel
theorem dM_difference_114 : decode cM_difference 114 = .ok (.goto 5, 3) := by decide +kernel
theorem dM_difference_117 : decode cM_difference 117 = .ok (.iload 9, 2) := by decide +kernel
theorem dM_difference_119 : decode cM_difference 119 = .ok (.istore 9, 2) := by decide +kernel
theorem dM_difference_121 : decode cM_difference 121 = .ok (.iload 8, 2) := by decide +kernel
theorem dM_difference_123 : decode cM_difference 123 = .ok (.iload 11, 2) := by decide +kernel
theorem dM_difference_125 : decode cM_difference 125 = .ok (.ifCond .eq 7, 3) := by decide +kernel
theorem dM_difference_128 : decode cM_difference 128 = .ok (.iconst 1, 1) := by decide +kernel
theorem dM_difference_129 : decode cM_difference 129 = .ok (.goto 4, 3) := by decide +kernel
theorem dM_difference_132 : decode cM_difference 132 = .ok (.iconst 0, 1) := by decide +kernel
theorem dM_difference_133 : decode cM_difference 133 = .ok (.iadd, 1) := by decide +kernel
theorem dM_difference_134 : decode cM_difference 134 = .ok (.istore 8, 2) := by decide +kernel
theorem dM_difference_136 : decode cM_difference 136 = .ok (.iinc 10 1, 3) := by decide +kernel
theorem dM_difference_139 : decode cM_difference 139 = .ok (.goto (-68), 3) := by decide +kernel
theorem dM_difference_142 : decode cM_difference 142 = .ok (.iload 9, 2) := by decide +kernel
theorem dM_difference_144 : decode cM_difference 144 = .ok (.ireturn, 1) := by decide +kernel
abbrev cM_failAfter : ByteArray := prog_9_method_65_code
abbrev yM_failAfter : MethodName := ⟨"DrawingVaultModel", "failAfter", "(I)Z"⟩
theorem dM_failAfter_0 : decode cM_failAfter 0 = .ok (.aload_n 0, 1) := by decide +kernel
theorem dM_failAfter_1 : decode cM_failAfter 1 = .ok (.iconst 0, 1) := by decide +kernel
theorem dM_failAfter_2 : decode cM_failAfter 2 = .ok (.putfield 33, 3) := by decide +kernel
theorem dM_failAfter_5 : decode cM_failAfter 5 = .ok (.iload_n 1, 1) := by decide +kernel
theorem dM_failAfter_6 : decode cM_failAfter 6 = .ok (.ifCond .lt 10, 3) := by decide +kernel
theorem dM_failAfter_9 : decode cM_failAfter 9 = .ok (.aload_n 0, 1) := by decide +kernel
theorem dM_failAfter_10 : decode cM_failAfter 10 = .ok (.getfield 102, 3) := by decide +kernel
theorem dM_failAfter_13 : decode cM_failAfter 13 = .ok (.ifCond .eq 5, 3) := by decide +kernel
theorem dM_failAfter_16 : decode cM_failAfter 16 = .ok (.iconst 0, 1) := by decide +kernel
theorem dM_failAfter_17 : decode cM_failAfter 17 = .ok (.ireturn, 1) := by decide +kernel
theorem dM_failAfter_18 : decode cM_failAfter 18 = .ok (.aload_n 0, 1) := by decide +kernel
theorem dM_failAfter_19 : decode cM_failAfter 19 = .ok (.iload_n 1, 1) := by decide +kernel
theorem dM_failAfter_20 : decode cM_failAfter 20 = .ok (.putfield 16, 3) := by decide +kernel
theorem dM_failAfter_23 : decode cM_failAfter 23 = .ok (.iconst 1, 1) := by decide +kernel
theorem dM_failAfter_24 : decode cM_failAfter 24 = .ok (.ireturn, 1) := by decide +kernel
abbrev cM_start : ByteArray := prog_9_method_66_code
abbrev yM_start : MethodName := ⟨"DrawingVaultModel", "start", "()I"⟩
theorem dM_start_0 : decode cM_start 0 = .ok (.aload_n 0, 1) := by decide +kernel
theorem dM_start_1 : decode cM_start 1 = .ok (.iconst 0, 1) := by decide +kernel
theorem dM_start_2 : decode cM_start 2 = .ok (.putfield 33, 3) := by decide +kernel
theorem dM_start_5 : decode cM_start 5 = .ok (.aload_n 0, 1) := by decide +kernel
theorem dM_start_6 : decode cM_start 6 = .ok (.iconst 0, 1) := by decide +kernel
theorem dM_start_7 : decode cM_start 7 = .ok (.putfield 102, 3) := by decide +kernel
theorem dM_start_10 : decode cM_start 10 = .ok (.aload_n 0, 1) := by decide +kernel
theorem dM_start_11 : decode cM_start 11 = .ok (.iconst (-1), 1) := by decide +kernel
theorem dM_start_12 : decode cM_start 12 = .ok (.putfield 16, 3) := by decide +kernel
theorem dM_start_15 : decode cM_start 15 = .ok (.iconst 0, 1) := by decide +kernel
theorem dM_start_16 : decode cM_start 16 = .ok (.istore_n 1, 1) := by decide +kernel
theorem dM_start_17 : decode cM_start 17 = .ok (.iconst 0, 1) := by decide +kernel
theorem dM_start_18 : decode cM_start 18 = .ok (.istore_n 2, 1) := by decide +kernel
theorem dM_start_19 : decode cM_start 19 = .ok (.iload_n 2, 1) := by decide +kernel
theorem dM_start_20 : decode cM_start 20 = .ok (.sipush 25240, 3) := by decide +kernel
theorem dM_start_23 : decode cM_start 23 = .ok (.if_icmp .ge 21, 3) := by decide +kernel
theorem dM_start_26 : decode cM_start 26 = .ok (.aload_n 0, 1) := by decide +kernel
theorem dM_start_27 : decode cM_start 27 = .ok (.getfield 7, 3) := by decide +kernel
theorem dM_start_30 : decode cM_start 30 = .ok (.iload_n 2, 1) := by decide +kernel
theorem dM_start_31 : decode cM_start 31 = .ok (.aload_n 0, 1) := by decide +kernel
theorem dM_start_32 : decode cM_start 32 = .ok (.getfield 13, 3) := by decide +kernel
theorem dM_start_35 : decode cM_start 35 = .ok (.iload_n 2, 1) := by decide +kernel
theorem dM_start_36 : decode cM_start 36 = .ok (.iaload, 1) := by decide +kernel
theorem dM_start_37 : decode cM_start 37 = .ok (.iastore, 1) := by decide +kernel
theorem dM_start_38 : decode cM_start 38 = .ok (.iinc 2 1, 3) := by decide +kernel
theorem dM_start_41 : decode cM_start 41 = .ok (.goto (-22), 3) := by decide +kernel
theorem dM_start_44 : decode cM_start 44 = .ok (.iconst 0, 1) := by decide +kernel
theorem dM_start_45 : decode cM_start 45 = .ok (.istore_n 2, 1) := by decide +kernel
theorem dM_start_46 : decode cM_start 46 = .ok (.iload_n 2, 1) := by decide +kernel
theorem dM_start_47 : decode cM_start 47 = .ok (.aload_n 0, 1) := by decide +kernel
theorem dM_start_48 : decode cM_start 48 = .ok (.getfield 7, 3) := by decide +kernel
theorem dM_start_51 : decode cM_start 51 = .ok (.bipush 16, 2) := by decide +kernel
theorem dM_start_53 : decode cM_start 53 = .ok (.iaload, 1) := by decide +kernel
theorem dM_start_54 : decode cM_start 54 = .ok (.if_icmp .ge 25, 3) := by decide +kernel
theorem dM_start_57 : decode cM_start 57 = .ok (.iload_n 1, 1) := by decide +kernel
theorem dM_start_58 : decode cM_start 58 = .ok (.aload_n 0, 1) := by decide +kernel
theorem dM_start_59 : decode cM_start 59 = .ok (.iload_n 2, 1) := by decide +kernel
theorem dM_start_60 : decode cM_start 60 = .ok (.invokevirtual 76, 3) := by decide +kernel
theorem dM_start_63 : decode cM_start 63 = .ok (.ifCond .lt 7, 3) := by decide +kernel
theorem dM_start_66 : decode cM_start 66 = .ok (.iconst 1, 1) := by decide +kernel
theorem dM_start_67 : decode cM_start 67 = .ok (.goto 4, 3) := by decide +kernel
theorem dM_start_70 : decode cM_start 70 = .ok (.iconst 0, 1) := by decide +kernel
theorem dM_start_71 : decode cM_start 71 = .ok (.iadd, 1) := by decide +kernel
theorem dM_start_72 : decode cM_start 72 = .ok (.istore_n 1, 1) := by decide +kernel
theorem dM_start_73 : decode cM_start 73 = .ok (.iinc 2 1, 3) := by decide +kernel
theorem dM_start_76 : decode cM_start 76 = .ok (.goto (-30), 3) := by decide +kernel
theorem dM_start_79 : decode cM_start 79 = .ok (.iload_n 1, 1) := by decide +kernel
theorem dM_start_80 : decode cM_start 80 = .ok (.ireturn, 1) := by decide +kernel
abbrev cM_count : ByteArray := prog_9_method_67_code
abbrev yM_count : MethodName := ⟨"DrawingVaultModel", "count", "(I)I"⟩
theorem dM_count_0 : decode cM_count 0 = .ok (.aload_n 0, 1) := by decide +kernel
theorem dM_count_1 : decode cM_count 1 = .ok (.iconst 0, 1) := by decide +kernel
theorem dM_count_2 : decode cM_count 2 = .ok (.putfield 33, 3) := by decide +kernel
theorem dM_count_5 : decode cM_count 5 = .ok (.iconst 0, 1) := by decide +kernel
theorem dM_count_6 : decode cM_count 6 = .ok (.istore_n 2, 1) := by decide +kernel
theorem dM_count_7 : decode cM_count 7 = .ok (.iconst 0, 1) := by decide +kernel
theorem dM_count_8 : decode cM_count 8 = .ok (.istore_n 3, 1) := by decide +kernel
theorem dM_count_9 : decode cM_count 9 = .ok (.iload_n 3, 1) := by decide +kernel
theorem dM_count_10 : decode cM_count 10 = .ok (.bipush 10, 2) := by decide +kernel
theorem dM_count_12 : decode cM_count 12 = .ok (.if_icmp .ge 22, 3) := by decide +kernel
theorem dM_count_15 : decode cM_count 15 = .ok (.iload_n 2, 1) := by decide +kernel
theorem dM_count_16 : decode cM_count 16 = .ok (.aload_n 0, 1) := by decide +kernel
theorem dM_count_17 : decode cM_count 17 = .ok (.getfield 7, 3) := by decide +kernel
theorem dM_count_20 : decode cM_count 20 = .ok (.aload_n 0, 1) := by decide +kernel
theorem dM_count_21 : decode cM_count 21 = .ok (.iload_n 3, 1) := by decide +kernel
theorem dM_count_22 : decode cM_count 22 = .ok (.invokevirtual 99, 3) := by decide +kernel
theorem dM_count_25 : decode cM_count 25 = .ok (.iaload, 1) := by decide +kernel
theorem dM_count_26 : decode cM_count 26 = .ok (.iadd, 1) := by decide +kernel
theorem dM_count_27 : decode cM_count 27 = .ok (.istore_n 2, 1) := by decide +kernel
theorem dM_count_28 : decode cM_count 28 = .ok (.iinc 3 1, 3) := by decide +kernel
theorem dM_count_31 : decode cM_count 31 = .ok (.goto (-22), 3) := by decide +kernel
theorem dM_count_34 : decode cM_count 34 = .ok (.iload_n 1, 1) := by decide +kernel
theorem dM_count_35 : decode cM_count 35 = .ok (.tableswitch 103 0 7 #[45, 53, 58, 64, 72, 80, 88, 90], 45) := by decide +kernel
theorem dM_count_80 : decode cM_count 80 = .ok (.aload_n 0, 1) := by decide +kernel
theorem dM_count_81 : decode cM_count 81 = .ok (.getfield 7, 3) := by decide +kernel
theorem dM_count_84 : decode cM_count 84 = .ok (.bipush 16, 2) := by decide +kernel
theorem dM_count_86 : decode cM_count 86 = .ok (.iaload, 1) := by decide +kernel
theorem dM_count_87 : decode cM_count 87 = .ok (.ireturn, 1) := by decide +kernel
theorem dM_count_88 : decode cM_count 88 = .ok (.aload_n 0, 1) := by decide +kernel
theorem dM_count_89 : decode cM_count 89 = .ok (.invokevirtual 92, 3) := by decide +kernel
theorem dM_count_92 : decode cM_count 92 = .ok (.ireturn, 1) := by decide +kernel
theorem dM_count_93 : decode cM_count 93 = .ok (.aload_n 0, 1) := by decide +kernel
theorem dM_count_94 : decode cM_count 94 = .ok (.iconst 0, 1) := by decide +kernel
theorem dM_count_95 : decode cM_count 95 = .ok (.invokevirtual 96, 3) := by decide +kernel
theorem dM_count_98 : decode cM_count 98 = .ok (.ireturn, 1) := by decide +kernel
theorem dM_count_99 : decode cM_count 99 = .ok (.aload_n 0, 1) := by decide +kernel
theorem dM_count_100 : decode cM_count 100 = .ok (.getfield 7, 3) := by decide +kernel
theorem dM_count_103 : decode cM_count 103 = .ok (.bipush 17, 2) := by decide +kernel
theorem dM_count_105 : decode cM_count 105 = .ok (.iaload, 1) := by decide +kernel
theorem dM_count_106 : decode cM_count 106 = .ok (.ireturn, 1) := by decide +kernel
theorem dM_count_107 : decode cM_count 107 = .ok (.aload_n 0, 1) := by decide +kernel
theorem dM_count_108 : decode cM_count 108 = .ok (.getfield 7, 3) := by decide +kernel
theorem dM_count_111 : decode cM_count 111 = .ok (.bipush 18, 2) := by decide +kernel
theorem dM_count_113 : decode cM_count 113 = .ok (.iaload, 1) := by decide +kernel
theorem dM_count_114 : decode cM_count 114 = .ok (.ireturn, 1) := by decide +kernel
theorem dM_count_115 : decode cM_count 115 = .ok (.aload_n 0, 1) := by decide +kernel
theorem dM_count_116 : decode cM_count 116 = .ok (.getfield 7, 3) := by decide +kernel
theorem dM_count_119 : decode cM_count 119 = .ok (.bipush 19, 2) := by decide +kernel
theorem dM_count_121 : decode cM_count 121 = .ok (.iaload, 1) := by decide +kernel
theorem dM_count_122 : decode cM_count 122 = .ok (.ireturn, 1) := by decide +kernel
theorem dM_count_123 : decode cM_count 123 = .ok (.iload_n 2, 1) := by decide +kernel
theorem dM_count_124 : decode cM_count 124 = .ok (.ireturn, 1) := by decide +kernel
theorem dM_count_125 : decode cM_count 125 = .ok (.aload_n 0, 1) := by decide +kernel
theorem dM_count_126 : decode cM_count 126 = .ok (.getfield 102, 3) := by decide +kernel
theorem dM_count_129 : decode cM_count 129 = .ok (.ifCond .eq 7, 3) := by decide +kernel
theorem dM_count_132 : decode cM_count 132 = .ok (.iconst 1, 1) := by decide +kernel
theorem dM_count_133 : decode cM_count 133 = .ok (.goto 4, 3) := by decide +kernel
theorem dM_count_136 : decode cM_count 136 = .ok (.iconst 0, 1) := by decide +kernel
theorem dM_count_137 : decode cM_count 137 = .ok (.ireturn, 1) := by decide +kernel
theorem dM_count_138 : decode cM_count 138 = .ok (.iconst (-1), 1) := by decide +kernel
theorem dM_count_139 : decode cM_count 139 = .ok (.ireturn, 1) := by decide +kernel

def M_why (σ : hT) : Option (Int32 × hT) := lt9 (sI σ 500 0 0 0) fun σ1 => some ((xI σ1 501 0 0), σ1)
set_option maxHeartbeats 4000000 in
set_option maxRecDepth 100000 in
theorem t_M_why (l : Launch) (dC : Nat → ClassId) (dI : Nat → Nat → Nat) (ad : Nat → Nat → Nat) (ca : Nat → Nat → ClassId) (dom : List (Nat × Nat)) (sz : Nat) (σ : hT) (hm0 : (4, 0) ∈ dom) (hN : dom.Nodup) (hC : clo dom σ.2.2) (ρ : Int32) (σ' : hT) (hf : M_why σ = some (ρ, σ')) : Met l yM_why (.code yM_why cM_why 1 (some .int) :: aw) ({ frames := 0, cells := 0, slots := 0, locals := 0 }) (hW (dC, dI) sz ad ca dom σ [.ref (ad 4 0)]) (va_Qi (fun r (_ : Unit) => r = ρ) (fun _ t => hB (dC, dI) (va_A (w9 ad ca dom σ) sz) ad ca dom σ' t) (va_A (w9 ad ca dom σ) sz)) 0 0 (va_A (w9 ad ca dom σ) sz) := by
  refine Met.ofW (cc := cM_why) (maxL := 1) (ret := (some .int)) (by decide) rfl ?_
  intro p e s m args below meth c s₁ B hml hv
  obtain ⟨rfl, hv⟩ := hv
  have hx := B.exec
  have hb := B.bytes
  have hr := B.returns
  have hts : ∀ w ∈ aw, w.before _ s = true := fun w h => atoms_spec (ws := (.code yM_why cM_why 1 (some .int) :: aw)) B.pre w (List.mem_cons_of_mem _ h)
  have hown : s.vm.findClass RM = some m.cls := findClass_of_methodNamed B.named
  have hlocks := B.notSynchronized
  obtain ⟨hsz, hP, hK, hD0, hG⟩ := hv
  subst hsz
  have hD := hD0.self (sz := s.heap.size)
  generalize hAe : va_A (w9 ad ca dom σ) s.heap.size = A at hD ⊢
  have hA : ∀ q : Nat, s.heap.size ≤ q → A q := fun q h => by rw [← hAe]; exact Or.inr h
  obtain ⟨H, hH⟩ : ∃ H, H = s.heap := ⟨_, rfl⟩
  have hS : va_S A s.heap H [] := by rw [hH]; exact va_S.rf
  rw [← hH] at hP ⊢
  unfold M_why at hf
  have hl := lv_entry ([.ref (ad 4 0)]) (n := 1) (Nat.le_of_ble_eq_true rfl)
  rw [lg_entry_eq]
  generalize (lg_sl ([.ref (ad 4 0)]) ++ List.replicate (1 - (lg_sl ([.ref (ad 4 0)])).length) Slot.unset).toArray = ls at hl ⊢
  have hl : lv_has ls 1 [(0, .ref (ad 4 0))] := hl
  refine lv_aload_n (pc := 0) hx hb dM_why_0 rfl (lv_at hl 0 rfl) ?_
  refine lv_iconst (pc := 1) (v := 0) hx hb dM_why_1 (by decide) ?_
  obtain ⟨q2, hq2, eq2⟩ := at_4 (ad := ad) (ca := ca) (σ := σ) hm0
  refine va_put (D := (dC, dI)) (cl := kCl) (ci := 4) (v := .int 0) (ty := .int) (C := RM) (T := TM) (N := 11) (pc := 2) hx hb hts inM tyM tyM_ok nmM hown hK.1 hP hD hS q2 eq2 rfl 0 (by decide) (hts _ wd_45) (fun _ h9 => h9) rfl (by decide +kernel) (rfl) (rfl) (Nat.le_of_ble_eq_true rfl) dM_why_2 (fun H locs hP hD hS => ?_)
  obtain ⟨σ1, hσ1, hf⟩ := lt_9 hf
  obtain ⟨hP, hD⟩ := w9_rI 500 rfl hN hq2 hσ1 (pu_500) hP hD
  have hC : clo dom σ1.2.2 := by rw [hσ1]; exact hC
  refine lv_aload_n (pc := 5) hx hb dM_why_5 rfl (lv_at hl 0 rfl) ?_
  obtain ⟨q3, hq3, eq3⟩ := at_4 (ad := ad) (ca := ca) (σ := σ1) hm0
  refine va_get (D := (dC, dI)) (cl := kCl) (C := RM) (T := TM) (N := 11) (pc := 6) hx hb hts inM hown hK.1 hP q3 eq3 rfl 1 (by decide) (hts _ wd_129) (fun _ h9 => h9) rfl dM_why_6 ?_
  obtain ⟨h8, h9⟩ := Prod.mk.inj (Option.some.inj hf)
  subst h9
  exact W.iret (pc := 9) hx hb hr (fun t ht hW => ⟨⟨_, (), rfl, h8, by rw [ht]; exact hP, hD, hC⟩, hS.F ht⟩) hS.2.2 dM_why_9
def M_look (n : Nat) (σ : hT) (a1 : Int32) (a2 : Int32) (a3 : Int32) : Option (Int32 × hT) := Option.bind (M_isRevision σ a1 a2) fun y2 => lt9 (α := Int32 → Option (Int32 × hT)) (fun (s4 : Int32) => lt9 (α := Int32 → Option (Int32 × hT)) (fun (s8 : Int32) => lt9 (sI σ 500 0 0 s8) fun σ17 => if (xI σ17 500 0 0) ≤ 0 then if 4 ≤ a3 then if a3 = 4 then Option.bind (M_ownChunks n σ17 s4) fun y27 => some (y27, σ17) else if in9 (((s4 + 16) + a3) - 8) 25240 then some ((xI σ17 15 0 ((((s4 + 16) + a3) - 8)).toNatClampNeg), σ17) else none else if in9 (s4 + a3) 25240 then some ((xI σ17 15 0 ((s4 + a3)).toNatClampNeg), σ17) else none else some (0, σ17)) fun x7 => if y2 = 0 then x7 1 else if a3 < 0 then x7 1 else if a3 < 5 then x7 0 else if a3 < 8 then x7 1 else if in9 (s4 + 2) 25240 then if (xI σ 15 0 ((s4 + 2)).toNatClampNeg) ≤ (a3 - 8) then x7 1 else x7 0 else none) fun x3 => if y2 = 0 then x3 1940 else x3 (M_revisionAt a1 a2)
set_option maxHeartbeats 4000000 in
set_option maxRecDepth 100000 in
theorem t_M_look (l : Launch) (dC : Nat → ClassId) (dI : Nat → Nat → Nat) (ad : Nat → Nat → Nat) (ca : Nat → Nat → ClassId) (dom : List (Nat × Nat)) (sz : Nat) (n : Nat) (σ : hT) (a1 : Int32) (a2 : Int32) (a3 : Int32) (hm0 : (4, 0) ∈ dom) (hN : dom.Nodup) (hC : clo dom σ.2.2) (ρ : Int32) (σ' : hT) (hf : M_look n σ a1 a2 a3 = some (ρ, σ')) : Met l yM_look (.code yM_look cM_look 6 (some .int) :: aw) ({ frames := 4, cells := 0, slots := 0, locals := 99 }) (hW (dC, dI) sz ad ca dom σ [.ref (ad 4 0), .int a1, .int a2, .int a3]) (va_Qi (fun r (_ : Unit) => r = ρ) (fun _ t => hB (dC, dI) (va_A (w9 ad ca dom σ) sz) ad ca dom σ' t) (va_A (w9 ad ca dom σ) sz)) 0 0 (va_A (w9 ad ca dom σ) sz) := by
  refine Met.ofW (cc := cM_look) (maxL := 6) (ret := (some .int)) (by decide) rfl ?_
  intro p e s m args below meth c s₁ B hml hv
  obtain ⟨rfl, hv⟩ := hv
  have hx := B.exec
  have hb := B.bytes
  have hr := B.returns
  have hts : ∀ w ∈ aw, w.before _ s = true := fun w h => atoms_spec (ws := (.code yM_look cM_look 6 (some .int) :: aw)) B.pre w (List.mem_cons_of_mem _ h)
  have hown : s.vm.findClass RM = some m.cls := findClass_of_methodNamed B.named
  have hlocks := B.notSynchronized
  obtain ⟨hsz, hP, hK, hD0, hG⟩ := hv
  subst hsz
  have hD := hD0.self (sz := s.heap.size)
  generalize hAe : va_A (w9 ad ca dom σ) s.heap.size = A at hD ⊢
  have hA : ∀ q : Nat, s.heap.size ≤ q → A q := fun q h => by rw [← hAe]; exact Or.inr h
  obtain ⟨H, hH⟩ : ∃ H, H = s.heap := ⟨_, rfl⟩
  have hS : va_S A s.heap H [] := by rw [hH]; exact va_S.rf
  rw [← hH] at hP ⊢
  unfold M_look at hf
  have hl := lv_entry ([.ref (ad 4 0), .int a1, .int a2, .int a3]) (n := 6) (Nat.le_of_ble_eq_true rfl)
  rw [lg_entry_eq]
  generalize (lg_sl ([.ref (ad 4 0), .int a1, .int a2, .int a3]) ++ List.replicate (6 - (lg_sl ([.ref (ad 4 0), .int a1, .int a2, .int a3])).length) Slot.unset).toArray = ls at hl ⊢
  have hl : lv_has ls 6 [(0, .ref (ad 4 0)), (1, .int a1), (2, .int a2), (3, .int a3)] := hl
  refine lv_aload_n (pc := 0) hx hb dM_look_0 rfl (lv_at hl 0 rfl) ?_
  refine lv_iload_n (pc := 1) hx hb dM_look_1 rfl (lv_at hl 1 rfl) ?_
  refine lv_iload_n (pc := 2) hx hb dM_look_2 rfl (lv_at hl 2 rfl) ?_
  obtain ⟨q1, hq1, eq1⟩ := at_4 (ad := ad) (ca := ca) (σ := σ) hm0
  obtain ⟨y2, hy2, hf⟩ := ob hf
  refine vp_callSi (pc := 3) (W.runV (As := [.int a1, .int a2]) (rest := []) ⟨hx, hb, hml, hown, hts⟩ (t_M_isRevision l dC dI ad ca dom σ a1 a2 hm0 hN hC y2 hy2) (cwV 2 hts (gV wd_97 wd_98 wd_99 wd_50 wd_96) rfl rfl rfl (by decide +kernel) ⟨Nat.le_of_ble_eq_true rfl, Nat.le_of_ble_eq_true rfl⟩) ⟨hR_blind, va_recv (q := (RM, TM, 11)) (q0 := q1) (ci := 4) hK.1 hP rfl eq1, hR_pre hP hK hG⟩ rfl rfl hl.1 rfl (lv_room (Nat.le_of_ble_eq_true rfl)) dM_look_3 ⟨Nat.le_of_ble_eq_true rfl, Nat.le_of_ble_eq_true rfl⟩) (fun r9 hr9 => ?_)
  refine W.eq (g2 := F0 m 6 ls [.int y2]) (by rw [hr9]) ?_
  refine lv_istore (pc := 6) hx hb dM_look_6 hl (by decide) rfl (fun ls hl => ?_)
  have hl : lv_has ls 6 [(4, .int y2), (0, .ref (ad 4 0)), (1, .int a1), (2, .int a2), (3, .int a3)] := hl
  refine lv_iload (pc := 8) hx hb dM_look_8 (lv_at hl 0 rfl) ?_
  obtain ⟨x3, hx3, hf⟩ := lt_9 hf
  refine jnF (τ := (Int32) × (Heap) × (List Loc) × (Array Slot)) (fun pc st z => W p l e _ s m _ below meth c z.2.1 z.2.2.1 0 0 _ (F0 m pc z.2.2.2 st)) (pc0 := 10) (st0 := [.int y2]) (z0 := (0, H, _, ls)) 25 (fun z => [.int z.1]) (fun z => va_P (dC, dI) kCl (w9 ad ca dom (σ)) z.2.1 ∧ va_D A (w9 ad ca dom (σ)) ∧ va_S A s.heap z.2.1 z.2.2.1 ∧ lv_has z.2.2.2 6 [(4, .int y2), (0, .ref (ad 4 0)), (1, .int a1), (2, .int a2), (3, .int a3)]) (fun z => x3 z.1) (ρ, σ') ?_ ?_
  · intro hJx3
    dsimp only at hJx3 ⊢
    refine lv_if_eq (pc := 10) (tgt := 22) hx hb dM_look_10 rfl (fun h5 => ?_) (fun h5 => ?_)
    · replace hf := ite_t h5 hf
      refine lv_sipush (pc := 22) (v := 1940) hx hb dM_look_22 (by decide) ?_
      have hl := lv_sub hl (l' := [(4, .int y2), (0, .ref (ad 4 0)), (1, .int a1), (2, .int a2), (3, .int a3)]) [0, 1, 2, 3, 4] rfl
      exact hJx3 (1940, H, _, ls) ⟨hP, hD, hS, hl⟩ hf
    · replace hf := ite_f h5 hf
      refine lv_aload_n (pc := 13) hx hb dM_look_13 rfl (lv_at hl 1 rfl) ?_
      refine lv_iload_n (pc := 14) hx hb dM_look_14 rfl (lv_at hl 2 rfl) ?_
      refine lv_iload_n (pc := 15) hx hb dM_look_15 rfl (lv_at hl 3 rfl) ?_
      obtain ⟨q6, hq6, eq6⟩ := at_4 (ad := ad) (ca := ca) (σ := σ) hm0
      refine vp_callSi (pc := 16) (W.runV (As := [.int a1, .int a2]) (rest := []) ⟨hx, hb, hml, hown, hts⟩ (t_M_revisionAt l dC dI ad ca dom a1 a2 hm0 σ hN hC (M_revisionAt a1 a2) rfl) (cwV 2 hts (gV wd_65 wd_66 wd_67 wd_50 wd_64) rfl rfl rfl (by decide +kernel) ⟨Nat.le_of_ble_eq_true rfl, Nat.le_of_ble_eq_true rfl⟩) ⟨hR_blind, va_recv (q := (RM, TM, 11)) (q0 := q6) (ci := 4) hK.1 hP rfl eq6, hR_pre hP hK hG⟩ rfl rfl hl.1 rfl (lv_room (Nat.le_of_ble_eq_true rfl)) dM_look_16 ⟨Nat.le_of_ble_eq_true rfl, Nat.le_of_ble_eq_true rfl⟩) (fun r9 hr9 => ?_)
      refine W.eq (g2 := F0 m 19 ls [.int (M_revisionAt a1 a2)]) (by rw [hr9]) ?_
      refine lv_goto (pc := 19) (tgt := 25) hx hb dM_look_19 rfl ?_
      have hl := lv_sub hl (l' := [(4, .int y2), (0, .ref (ad 4 0)), (1, .int a1), (2, .int a2), (3, .int a3)]) [0, 1, 2, 3, 4] rfl
      exact hJx3 ((M_revisionAt a1 a2), H, _, ls) ⟨hP, hD, hS, hl⟩ hf
  · rintro ⟨s4, H, locs, ls⟩ ⟨hP, hD, hS, hl⟩ hf
    dsimp only at hP hD hS hl hf ⊢
    rw [hx3] at hf
    have hl : lv_has ls 6 [(4, .int y2), (0, .ref (ad 4 0)), (1, .int a1), (2, .int a2), (3, .int a3)] := hl
    refine lv_istore (pc := 25) hx hb dM_look_25 hl (by decide) rfl (fun ls hl => ?_)
    have hl : lv_has ls 6 [(5, .int s4), (4, .int y2), (0, .ref (ad 4 0)), (1, .int a1), (2, .int a2), (3, .int a3)] := hl
    refine lv_aload_n (pc := 27) hx hb dM_look_27 rfl (lv_at hl 2 rfl) ?_
    refine lv_iload (pc := 28) hx hb dM_look_28 (lv_at hl 1 rfl) ?_
    obtain ⟨x7, hx7, hf⟩ := lt_9 hf
    refine jnF (τ := (Int32) × (Heap) × (List Loc) × (Array Slot)) (fun pc st z => W p l e _ s m _ below meth c z.2.1 z.2.2.1 0 0 _ (F0 m pc z.2.2.2 st)) (pc0 := 30) (st0 := [.int y2, .ref (ad 4 0)]) (z0 := (0, H, _, ls)) 69 (fun z => [.int z.1, .ref (ad 4 0)]) (fun z => va_P (dC, dI) kCl (w9 ad ca dom (σ)) z.2.1 ∧ va_D A (w9 ad ca dom (σ)) ∧ va_S A s.heap z.2.1 z.2.2.1 ∧ lv_has z.2.2.2 6 [(5, .int s4), (4, .int y2), (0, .ref (ad 4 0)), (1, .int a1), (2, .int a2), (3, .int a3)]) (fun z => x7 z.1) (ρ, σ') ?_ ?_
    · intro hJx7
      dsimp only at hJx7 ⊢
      refine lv_if_eq (pc := 30) (tgt := 68) hx hb dM_look_30 rfl (fun h9 => ?_) (fun h9 => ?_)
      · replace hf := ite_t h9 hf
        refine lv_iconst (pc := 68) (v := 1) hx hb dM_look_68 (by decide) ?_
        have hl := lv_sub hl (l' := [(5, .int s4), (4, .int y2), (0, .ref (ad 4 0)), (1, .int a1), (2, .int a2), (3, .int a3)]) [0, 1, 2, 3, 4, 5] rfl
        exact hJx7 (1, H, _, ls) ⟨hP, hD, hS, hl⟩ hf
      · replace hf := ite_f h9 hf
        refine lv_iload_n (pc := 33) hx hb dM_look_33 rfl (lv_at hl 5 rfl) ?_
        refine lv_if_lt (pc := 34) (tgt := 68) hx hb dM_look_34 rfl (fun h10 => ?_) (fun h10 => ?_)
        · replace hf := ite_t h10 hf
          refine lv_iconst (pc := 68) (v := 1) hx hb dM_look_68 (by decide) ?_
          have hl := lv_sub hl (l' := [(5, .int s4), (4, .int y2), (0, .ref (ad 4 0)), (1, .int a1), (2, .int a2), (3, .int a3)]) [0, 1, 2, 3, 4, 5] rfl
          exact hJx7 (1, H, _, ls) ⟨hP, hD, hS, hl⟩ hf
        · replace hf := ite_f h10 hf
          refine lv_iload_n (pc := 37) hx hb dM_look_37 rfl (lv_at hl 5 rfl) ?_
          refine lv_iconst (pc := 38) (v := 5) hx hb dM_look_38 (by decide) ?_
          refine lv_icmp_lt (pc := 39) (tgt := 64) hx hb dM_look_39 rfl (fun h11 => ?_) (fun h11 => ?_)
          · replace hf := ite_t h11 hf
            refine lv_iconst (pc := 64) (v := 0) hx hb dM_look_64 (by decide) ?_
            refine lv_goto (pc := 65) (tgt := 69) hx hb dM_look_65 rfl ?_
            have hl := lv_sub hl (l' := [(5, .int s4), (4, .int y2), (0, .ref (ad 4 0)), (1, .int a1), (2, .int a2), (3, .int a3)]) [0, 1, 2, 3, 4, 5] rfl
            exact hJx7 (0, H, _, ls) ⟨hP, hD, hS, hl⟩ hf
          · replace hf := ite_f h11 hf
            refine lv_iload_n (pc := 42) hx hb dM_look_42 rfl (lv_at hl 5 rfl) ?_
            refine lv_bipush (pc := 43) (v := 8) hx hb dM_look_43 (by decide) ?_
            refine lv_icmp_lt (pc := 45) (tgt := 68) hx hb dM_look_45 rfl (fun h12 => ?_) (fun h12 => ?_)
            · replace hf := ite_t h12 hf
              refine lv_iconst (pc := 68) (v := 1) hx hb dM_look_68 (by decide) ?_
              have hl := lv_sub hl (l' := [(5, .int s4), (4, .int y2), (0, .ref (ad 4 0)), (1, .int a1), (2, .int a2), (3, .int a3)]) [0, 1, 2, 3, 4, 5] rfl
              exact hJx7 (1, H, _, ls) ⟨hP, hD, hS, hl⟩ hf
            · replace hf := ite_f h12 hf
              refine lv_iload_n (pc := 48) hx hb dM_look_48 rfl (lv_at hl 5 rfl) ?_
              refine lv_bipush (pc := 49) (v := 8) hx hb dM_look_49 (by decide) ?_
              refine lv_isub (pc := 51) hx hb dM_look_51 ?_
              refine lv_aload_n (pc := 52) hx hb dM_look_52 rfl (lv_at hl 2 rfl) ?_
              obtain ⟨q13, hq13, eq13⟩ := at_4 (ad := ad) (ca := ca) (σ := σ) hm0
              refine va_get (D := (dC, dI)) (cl := kCl) (C := RM) (T := TM) (N := 11) (pc := 53) hx hb hts inM hown hK.1 hP q13 eq13 rfl 2 (by decide) (hts _ wd_51) (fun _ h9 => h9) rfl dM_look_53 ?_
              refine lv_iload (pc := 56) hx hb dM_look_56 (lv_at hl 0 rfl) ?_
              refine lv_iconst (pc := 58) (v := 2) hx hb dM_look_58 (by decide) ?_
              refine lv_iadd (pc := 59) hx hb dM_look_59 ?_
              obtain ⟨hv14, hf⟩ := ite_s hf
              obtain ⟨q15, hq15, eq15⟩ := at_15 (ad := ad) (ca := ca) (σ := σ) (cm_4_2 hC hm0)
              refine va_iald (D := (dC, dI)) (cl := kCl) (pc := 60) hx hb (hK.2 15 0 .int (cm_4_2 hC hm0) rfl) hP q15 0 eq15 rfl (hv14) dM_look_60 ?_
              refine W.eq (g2 := F0 m 61 ls [.int (xI σ 15 0 ((s4 + 2)).toNatClampNeg), .int (a3 - 8), .ref (ad 4 0)]) rfl ?_
              refine lv_icmp_ge (pc := 61) (tgt := 68) hx hb dM_look_61 rfl (fun h16 => ?_) (fun h16 => ?_)
              · replace hf := ite_t h16 hf
                refine lv_iconst (pc := 68) (v := 1) hx hb dM_look_68 (by decide) ?_
                have hl := lv_sub hl (l' := [(5, .int s4), (4, .int y2), (0, .ref (ad 4 0)), (1, .int a1), (2, .int a2), (3, .int a3)]) [0, 1, 2, 3, 4, 5] rfl
                exact hJx7 (1, H, _, ls) ⟨hP, hD, hS, hl⟩ hf
              · replace hf := ite_f h16 hf
                refine lv_iconst (pc := 64) (v := 0) hx hb dM_look_64 (by decide) ?_
                refine lv_goto (pc := 65) (tgt := 69) hx hb dM_look_65 rfl ?_
                have hl := lv_sub hl (l' := [(5, .int s4), (4, .int y2), (0, .ref (ad 4 0)), (1, .int a1), (2, .int a2), (3, .int a3)]) [0, 1, 2, 3, 4, 5] rfl
                exact hJx7 (0, H, _, ls) ⟨hP, hD, hS, hl⟩ hf
    · rintro ⟨s8, H, locs, ls⟩ ⟨hP, hD, hS, hl⟩ hf
      dsimp only at hP hD hS hl hf ⊢
      rw [hx7] at hf
      have hl : lv_has ls 6 [(5, .int s4), (4, .int y2), (0, .ref (ad 4 0)), (1, .int a1), (2, .int a2), (3, .int a3)] := hl
      obtain ⟨q18, hq18, eq18⟩ := at_4 (ad := ad) (ca := ca) (σ := σ) hm0
      refine va_put (D := (dC, dI)) (cl := kCl) (ci := 4) (v := .int s8) (ty := .int) (C := RM) (T := TM) (N := 11) (pc := 69) hx hb hts inM tyM tyM_ok nmM hown hK.1 hP hD hS q18 eq18 rfl 0 (by decide) (hts _ wd_45) (fun _ h9 => h9) rfl (by decide +kernel) (rfl) (rfl) (Nat.le_of_ble_eq_true rfl) dM_look_69 (fun H locs hP hD hS => ?_)
      obtain ⟨σ17, hσ17, hf⟩ := lt_9 hf
      obtain ⟨hP, hD⟩ := w9_rI 500 rfl hN hq18 hσ17 (pu_500) hP hD
      have hC : clo dom σ17.2.2 := by rw [hσ17]; exact hC
      refine lv_aload_n (pc := 72) hx hb dM_look_72 rfl (lv_at hl 2 rfl) ?_
      obtain ⟨q19, hq19, eq19⟩ := at_4 (ad := ad) (ca := ca) (σ := σ17) hm0
      refine va_get (D := (dC, dI)) (cl := kCl) (C := RM) (T := TM) (N := 11) (pc := 73) hx hb hts inM hown hK.1 hP q19 eq19 rfl 0 (by decide) (hts _ wd_45) (fun _ h9 => h9) rfl dM_look_73 ?_
      refine lv_if_le (pc := 76) (tgt := 81) hx hb dM_look_76 rfl (fun h20 => ?_) (fun h20 => ?_)
      · replace hf := ite_t h20 hf
        refine lv_iload_n (pc := 81) hx hb dM_look_81 rfl (lv_at hl 5 rfl) ?_
        refine lv_iconst (pc := 82) (v := 4) hx hb dM_look_82 (by decide) ?_
        refine lv_icmp_ge (pc := 83) (tgt := 98) hx hb dM_look_83 rfl (fun h21 => ?_) (fun h21 => ?_)
        · replace hf := ite_t h21 hf
          refine lv_iload_n (pc := 98) hx hb dM_look_98 rfl (lv_at hl 5 rfl) ?_
          refine lv_iconst (pc := 99) (v := 4) hx hb dM_look_99 (by decide) ?_
          refine lv_icmp_ne (pc := 100) (tgt := 112) hx hb dM_look_100 rfl (fun h22 => ?_) (fun h22 => ?_)
          · replace hf := ite_f h22 hf
            refine lv_aload_n (pc := 112) hx hb dM_look_112 rfl (lv_at hl 2 rfl) ?_
            obtain ⟨q23, hq23, eq23⟩ := at_4 (ad := ad) (ca := ca) (σ := σ17) hm0
            refine va_get (D := (dC, dI)) (cl := kCl) (C := RM) (T := TM) (N := 11) (pc := 113) hx hb hts inM hown hK.1 hP q23 eq23 rfl 2 (by decide) (hts _ wd_51) (fun _ h9 => h9) rfl dM_look_113 ?_
            refine lv_iload (pc := 116) hx hb dM_look_116 (lv_at hl 0 rfl) ?_
            refine lv_bipush (pc := 118) (v := 16) hx hb dM_look_118 (by decide) ?_
            refine lv_iadd (pc := 120) hx hb dM_look_120 ?_
            refine lv_iload_n (pc := 121) hx hb dM_look_121 rfl (lv_at hl 5 rfl) ?_
            refine lv_iadd (pc := 122) hx hb dM_look_122 ?_
            refine lv_bipush (pc := 123) (v := 8) hx hb dM_look_123 (by decide) ?_
            refine lv_isub (pc := 125) hx hb dM_look_125 ?_
            obtain ⟨hv24, hf⟩ := ite_s hf
            obtain ⟨q25, hq25, eq25⟩ := at_15 (ad := ad) (ca := ca) (σ := σ17) (cm_4_2 hC hm0)
            refine va_iald (D := (dC, dI)) (cl := kCl) (pc := 126) hx hb (hK.2 15 0 .int (cm_4_2 hC hm0) rfl) hP q25 0 eq25 rfl (hv24) dM_look_126 ?_
            refine W.eq (g2 := F0 m 127 ls [.int (xI σ17 15 0 ((((s4 + 16) + a3) - 8)).toNatClampNeg)]) rfl ?_
            obtain ⟨h8, h9⟩ := Prod.mk.inj (Option.some.inj hf)
            subst h9
            exact W.iret (pc := 127) hx hb hr (fun t ht hW => ⟨⟨_, (), rfl, h8, by rw [ht]; exact hP, hD, hC⟩, hS.F ht⟩) hS.2.2 dM_look_127
          · replace hf := ite_t h22 hf
            refine lv_aload_n (pc := 103) hx hb dM_look_103 rfl (lv_at hl 2 rfl) ?_
            refine lv_iload (pc := 104) hx hb dM_look_104 (lv_at hl 0 rfl) ?_
            obtain ⟨q26, hq26, eq26⟩ := at_4 (ad := ad) (ca := ca) (σ := σ17) hm0
            obtain ⟨y27, hy27, hf⟩ := ob hf
            refine vp_callSi (pc := 106) (W.runV (As := [.int s4]) (rest := []) ⟨hx, hb, hml, hown, hts⟩ (t_M_ownChunks l dC dI ad ca dom n σ17 s4 hm0 hN hC y27 hy27) (cwV 1 hts (gV wd_192 wd_193 wd_194 wd_50 wd_191) rfl rfl rfl (by decide +kernel) ⟨Nat.le_of_ble_eq_true rfl, Nat.le_of_ble_eq_true rfl⟩) ⟨hR_blind, va_recv (q := (RM, TM, 11)) (q0 := q26) (ci := 4) hK.1 hP rfl eq26, hR_pre hP hK hG⟩ rfl rfl hl.1 rfl (lv_room (Nat.le_of_ble_eq_true rfl)) dM_look_106 ⟨Nat.le_of_ble_eq_true rfl, Nat.le_of_ble_eq_true rfl⟩) (fun r9 hr9 => ?_)
            refine W.eq (g2 := F0 m 109 ls [.int y27]) (by rw [hr9]) ?_
            refine lv_goto (pc := 109) (tgt := 127) hx hb dM_look_109 rfl ?_
            obtain ⟨h8, h9⟩ := Prod.mk.inj (Option.some.inj hf)
            subst h9
            exact W.iret (pc := 127) hx hb hr (fun t ht hW => ⟨⟨_, (), rfl, h8, by rw [ht]; exact hP, hD, hC⟩, hS.F ht⟩) hS.2.2 dM_look_127
        · replace hf := ite_f h21 hf
          refine lv_aload_n (pc := 86) hx hb dM_look_86 rfl (lv_at hl 2 rfl) ?_
          obtain ⟨q28, hq28, eq28⟩ := at_4 (ad := ad) (ca := ca) (σ := σ17) hm0
          refine va_get (D := (dC, dI)) (cl := kCl) (C := RM) (T := TM) (N := 11) (pc := 87) hx hb hts inM hown hK.1 hP q28 eq28 rfl 2 (by decide) (hts _ wd_51) (fun _ h9 => h9) rfl dM_look_87 ?_
          refine lv_iload (pc := 90) hx hb dM_look_90 (lv_at hl 0 rfl) ?_
          refine lv_iload_n (pc := 92) hx hb dM_look_92 rfl (lv_at hl 5 rfl) ?_
          refine lv_iadd (pc := 93) hx hb dM_look_93 ?_
          obtain ⟨hv29, hf⟩ := ite_s hf
          obtain ⟨q30, hq30, eq30⟩ := at_15 (ad := ad) (ca := ca) (σ := σ17) (cm_4_2 hC hm0)
          refine va_iald (D := (dC, dI)) (cl := kCl) (pc := 94) hx hb (hK.2 15 0 .int (cm_4_2 hC hm0) rfl) hP q30 0 eq30 rfl (hv29) dM_look_94 ?_
          refine W.eq (g2 := F0 m 95 ls [.int (xI σ17 15 0 ((s4 + a3)).toNatClampNeg)]) rfl ?_
          refine lv_goto (pc := 95) (tgt := 127) hx hb dM_look_95 rfl ?_
          obtain ⟨h8, h9⟩ := Prod.mk.inj (Option.some.inj hf)
          subst h9
          exact W.iret (pc := 127) hx hb hr (fun t ht hW => ⟨⟨_, (), rfl, h8, by rw [ht]; exact hP, hD, hC⟩, hS.F ht⟩) hS.2.2 dM_look_127
      · replace hf := ite_f h20 hf
        refine lv_iconst (pc := 79) (v := 0) hx hb dM_look_79 (by decide) ?_
        obtain ⟨h8, h9⟩ := Prod.mk.inj (Option.some.inj hf)
        subst h9
        exact W.iret (pc := 80) hx hb hr (fun t ht hW => ⟨⟨_, (), rfl, h8, by rw [ht]; exact hP, hD, hC⟩, hS.F ht⟩) hS.2.2 dM_look_80
def M_reference (n : Nat) (σ : hT) (a1 : Int32) (a2 : Int32) (a3 : Int32) (a4 : Int32) : Option (Int32 × hT) := Option.bind (M_isRevision σ a1 a2) fun y2 => lt9 (α := Int32 → Option (Int32 × hT)) (fun (s4 : Int32) => lt9 (α := Int32 → Option (Int32 × hT)) (fun (s8 : Int32) => lt9 (sI σ 500 0 0 s8) fun σ17 => if (xI σ17 500 0 0) ≤ 0 then if a4 = 0 then Option.bind (M_refDrawing σ17 s4 a3) fun y28 => some (y28, σ17) else if a4 = 1 then Option.bind (M_refRevision σ17 s4 a3) fun y26 => some (y26, σ17) else Option.bind (M_resolved n σ17 s4 a3) fun y24 => some (y24, σ17) else some (0, σ17)) fun x7 => if y2 = 0 then x7 1 else if a3 < 0 then x7 1 else if in9 (s4 + 3) 25240 then if (xI σ 15 0 ((s4 + 3)).toNatClampNeg) ≤ a3 then x7 1 else if a4 < 0 then x7 1 else if 3 ≤ a4 then x7 1 else x7 0 else none) fun x3 => if y2 = 0 then x3 1940 else x3 (M_revisionAt a1 a2)
set_option maxHeartbeats 4000000 in
set_option maxRecDepth 100000 in
theorem t_M_reference (l : Launch) (dC : Nat → ClassId) (dI : Nat → Nat → Nat) (ad : Nat → Nat → Nat) (ca : Nat → Nat → ClassId) (dom : List (Nat × Nat)) (sz : Nat) (n : Nat) (σ : hT) (a1 : Int32) (a2 : Int32) (a3 : Int32) (a4 : Int32) (hm0 : (4, 0) ∈ dom) (hN : dom.Nodup) (hC : clo dom σ.2.2) (ρ : Int32) (σ' : hT) (hf : M_reference n σ a1 a2 a3 a4 = some (ρ, σ')) : Met l yM_reference (.code yM_reference cM_reference 7 (some .int) :: aw) ({ frames := 4, cells := 0, slots := 0, locals := 90 }) (hW (dC, dI) sz ad ca dom σ [.ref (ad 4 0), .int a1, .int a2, .int a3, .int a4]) (va_Qi (fun r (_ : Unit) => r = ρ) (fun _ t => hB (dC, dI) (va_A (w9 ad ca dom σ) sz) ad ca dom σ' t) (va_A (w9 ad ca dom σ) sz)) 0 0 (va_A (w9 ad ca dom σ) sz) := by
  refine Met.ofW (cc := cM_reference) (maxL := 7) (ret := (some .int)) (by decide) rfl ?_
  intro p e s m args below meth c s₁ B hml hv
  obtain ⟨rfl, hv⟩ := hv
  have hx := B.exec
  have hb := B.bytes
  have hr := B.returns
  have hts : ∀ w ∈ aw, w.before _ s = true := fun w h => atoms_spec (ws := (.code yM_reference cM_reference 7 (some .int) :: aw)) B.pre w (List.mem_cons_of_mem _ h)
  have hown : s.vm.findClass RM = some m.cls := findClass_of_methodNamed B.named
  have hlocks := B.notSynchronized
  obtain ⟨hsz, hP, hK, hD0, hG⟩ := hv
  subst hsz
  have hD := hD0.self (sz := s.heap.size)
  generalize hAe : va_A (w9 ad ca dom σ) s.heap.size = A at hD ⊢
  have hA : ∀ q : Nat, s.heap.size ≤ q → A q := fun q h => by rw [← hAe]; exact Or.inr h
  obtain ⟨H, hH⟩ : ∃ H, H = s.heap := ⟨_, rfl⟩
  have hS : va_S A s.heap H [] := by rw [hH]; exact va_S.rf
  rw [← hH] at hP ⊢
  unfold M_reference at hf
  have hl := lv_entry ([.ref (ad 4 0), .int a1, .int a2, .int a3, .int a4]) (n := 7) (Nat.le_of_ble_eq_true rfl)
  rw [lg_entry_eq]
  generalize (lg_sl ([.ref (ad 4 0), .int a1, .int a2, .int a3, .int a4]) ++ List.replicate (7 - (lg_sl ([.ref (ad 4 0), .int a1, .int a2, .int a3, .int a4])).length) Slot.unset).toArray = ls at hl ⊢
  have hl : lv_has ls 7 [(0, .ref (ad 4 0)), (1, .int a1), (2, .int a2), (3, .int a3), (4, .int a4)] := hl
  refine lv_aload_n (pc := 0) hx hb dM_reference_0 rfl (lv_at hl 0 rfl) ?_
  refine lv_iload_n (pc := 1) hx hb dM_reference_1 rfl (lv_at hl 1 rfl) ?_
  refine lv_iload_n (pc := 2) hx hb dM_reference_2 rfl (lv_at hl 2 rfl) ?_
  obtain ⟨q1, hq1, eq1⟩ := at_4 (ad := ad) (ca := ca) (σ := σ) hm0
  obtain ⟨y2, hy2, hf⟩ := ob hf
  refine vp_callSi (pc := 3) (W.runV (As := [.int a1, .int a2]) (rest := []) ⟨hx, hb, hml, hown, hts⟩ (t_M_isRevision l dC dI ad ca dom σ a1 a2 hm0 hN hC y2 hy2) (cwV 2 hts (gV wd_97 wd_98 wd_99 wd_50 wd_96) rfl rfl rfl (by decide +kernel) ⟨Nat.le_of_ble_eq_true rfl, Nat.le_of_ble_eq_true rfl⟩) ⟨hR_blind, va_recv (q := (RM, TM, 11)) (q0 := q1) (ci := 4) hK.1 hP rfl eq1, hR_pre hP hK hG⟩ rfl rfl hl.1 rfl (lv_room (Nat.le_of_ble_eq_true rfl)) dM_reference_3 ⟨Nat.le_of_ble_eq_true rfl, Nat.le_of_ble_eq_true rfl⟩) (fun r9 hr9 => ?_)
  refine W.eq (g2 := F0 m 6 ls [.int y2]) (by rw [hr9]) ?_
  refine lv_istore (pc := 6) hx hb dM_reference_6 hl (by decide) rfl (fun ls hl => ?_)
  have hl : lv_has ls 7 [(5, .int y2), (0, .ref (ad 4 0)), (1, .int a1), (2, .int a2), (3, .int a3), (4, .int a4)] := hl
  refine lv_iload (pc := 8) hx hb dM_reference_8 (lv_at hl 0 rfl) ?_
  obtain ⟨x3, hx3, hf⟩ := lt_9 hf
  refine jnF (τ := (Int32) × (Heap) × (List Loc) × (Array Slot)) (fun pc st z => W p l e _ s m _ below meth c z.2.1 z.2.2.1 0 0 _ (F0 m pc z.2.2.2 st)) (pc0 := 10) (st0 := [.int y2]) (z0 := (0, H, _, ls)) 25 (fun z => [.int z.1]) (fun z => va_P (dC, dI) kCl (w9 ad ca dom (σ)) z.2.1 ∧ va_D A (w9 ad ca dom (σ)) ∧ va_S A s.heap z.2.1 z.2.2.1 ∧ lv_has z.2.2.2 7 [(5, .int y2), (0, .ref (ad 4 0)), (1, .int a1), (2, .int a2), (3, .int a3), (4, .int a4)]) (fun z => x3 z.1) (ρ, σ') ?_ ?_
  · intro hJx3
    dsimp only at hJx3 ⊢
    refine lv_if_eq (pc := 10) (tgt := 22) hx hb dM_reference_10 rfl (fun h5 => ?_) (fun h5 => ?_)
    · replace hf := ite_t h5 hf
      refine lv_sipush (pc := 22) (v := 1940) hx hb dM_reference_22 (by decide) ?_
      have hl := lv_sub hl (l' := [(5, .int y2), (0, .ref (ad 4 0)), (1, .int a1), (2, .int a2), (3, .int a3), (4, .int a4)]) [0, 1, 2, 3, 4, 5] rfl
      exact hJx3 (1940, H, _, ls) ⟨hP, hD, hS, hl⟩ hf
    · replace hf := ite_f h5 hf
      refine lv_aload_n (pc := 13) hx hb dM_reference_13 rfl (lv_at hl 1 rfl) ?_
      refine lv_iload_n (pc := 14) hx hb dM_reference_14 rfl (lv_at hl 2 rfl) ?_
      refine lv_iload_n (pc := 15) hx hb dM_reference_15 rfl (lv_at hl 3 rfl) ?_
      obtain ⟨q6, hq6, eq6⟩ := at_4 (ad := ad) (ca := ca) (σ := σ) hm0
      refine vp_callSi (pc := 16) (W.runV (As := [.int a1, .int a2]) (rest := []) ⟨hx, hb, hml, hown, hts⟩ (t_M_revisionAt l dC dI ad ca dom a1 a2 hm0 σ hN hC (M_revisionAt a1 a2) rfl) (cwV 2 hts (gV wd_65 wd_66 wd_67 wd_50 wd_64) rfl rfl rfl (by decide +kernel) ⟨Nat.le_of_ble_eq_true rfl, Nat.le_of_ble_eq_true rfl⟩) ⟨hR_blind, va_recv (q := (RM, TM, 11)) (q0 := q6) (ci := 4) hK.1 hP rfl eq6, hR_pre hP hK hG⟩ rfl rfl hl.1 rfl (lv_room (Nat.le_of_ble_eq_true rfl)) dM_reference_16 ⟨Nat.le_of_ble_eq_true rfl, Nat.le_of_ble_eq_true rfl⟩) (fun r9 hr9 => ?_)
      refine W.eq (g2 := F0 m 19 ls [.int (M_revisionAt a1 a2)]) (by rw [hr9]) ?_
      refine lv_goto (pc := 19) (tgt := 25) hx hb dM_reference_19 rfl ?_
      have hl := lv_sub hl (l' := [(5, .int y2), (0, .ref (ad 4 0)), (1, .int a1), (2, .int a2), (3, .int a3), (4, .int a4)]) [0, 1, 2, 3, 4, 5] rfl
      exact hJx3 ((M_revisionAt a1 a2), H, _, ls) ⟨hP, hD, hS, hl⟩ hf
  · rintro ⟨s4, H, locs, ls⟩ ⟨hP, hD, hS, hl⟩ hf
    dsimp only at hP hD hS hl hf ⊢
    rw [hx3] at hf
    have hl : lv_has ls 7 [(5, .int y2), (0, .ref (ad 4 0)), (1, .int a1), (2, .int a2), (3, .int a3), (4, .int a4)] := hl
    refine lv_istore (pc := 25) hx hb dM_reference_25 hl (by decide) rfl (fun ls hl => ?_)
    have hl : lv_has ls 7 [(6, .int s4), (5, .int y2), (0, .ref (ad 4 0)), (1, .int a1), (2, .int a2), (3, .int a3), (4, .int a4)] := hl
    refine lv_aload_n (pc := 27) hx hb dM_reference_27 rfl (lv_at hl 2 rfl) ?_
    refine lv_iload (pc := 28) hx hb dM_reference_28 (lv_at hl 1 rfl) ?_
    obtain ⟨x7, hx7, hf⟩ := lt_9 hf
    refine jnF (τ := (Int32) × (Heap) × (List Loc) × (Array Slot)) (fun pc st z => W p l e _ s m _ below meth c z.2.1 z.2.2.1 0 0 _ (F0 m pc z.2.2.2 st)) (pc0 := 30) (st0 := [.int y2, .ref (ad 4 0)]) (z0 := (0, H, _, ls)) 66 (fun z => [.int z.1, .ref (ad 4 0)]) (fun z => va_P (dC, dI) kCl (w9 ad ca dom (σ)) z.2.1 ∧ va_D A (w9 ad ca dom (σ)) ∧ va_S A s.heap z.2.1 z.2.2.1 ∧ lv_has z.2.2.2 7 [(6, .int s4), (5, .int y2), (0, .ref (ad 4 0)), (1, .int a1), (2, .int a2), (3, .int a3), (4, .int a4)]) (fun z => x7 z.1) (ρ, σ') ?_ ?_
    · intro hJx7
      dsimp only at hJx7 ⊢
      refine lv_if_eq (pc := 30) (tgt := 65) hx hb dM_reference_30 rfl (fun h9 => ?_) (fun h9 => ?_)
      · replace hf := ite_t h9 hf
        refine lv_iconst (pc := 65) (v := 1) hx hb dM_reference_65 (by decide) ?_
        have hl := lv_sub hl (l' := [(6, .int s4), (5, .int y2), (0, .ref (ad 4 0)), (1, .int a1), (2, .int a2), (3, .int a3), (4, .int a4)]) [0, 1, 2, 3, 4, 5, 6] rfl
        exact hJx7 (1, H, _, ls) ⟨hP, hD, hS, hl⟩ hf
      · replace hf := ite_f h9 hf
        refine lv_iload_n (pc := 33) hx hb dM_reference_33 rfl (lv_at hl 5 rfl) ?_
        refine lv_if_lt (pc := 34) (tgt := 65) hx hb dM_reference_34 rfl (fun h10 => ?_) (fun h10 => ?_)
        · replace hf := ite_t h10 hf
          refine lv_iconst (pc := 65) (v := 1) hx hb dM_reference_65 (by decide) ?_
          have hl := lv_sub hl (l' := [(6, .int s4), (5, .int y2), (0, .ref (ad 4 0)), (1, .int a1), (2, .int a2), (3, .int a3), (4, .int a4)]) [0, 1, 2, 3, 4, 5, 6] rfl
          exact hJx7 (1, H, _, ls) ⟨hP, hD, hS, hl⟩ hf
        · replace hf := ite_f h10 hf
          refine lv_iload_n (pc := 37) hx hb dM_reference_37 rfl (lv_at hl 5 rfl) ?_
          refine lv_aload_n (pc := 38) hx hb dM_reference_38 rfl (lv_at hl 2 rfl) ?_
          obtain ⟨q11, hq11, eq11⟩ := at_4 (ad := ad) (ca := ca) (σ := σ) hm0
          refine va_get (D := (dC, dI)) (cl := kCl) (C := RM) (T := TM) (N := 11) (pc := 39) hx hb hts inM hown hK.1 hP q11 eq11 rfl 2 (by decide) (hts _ wd_51) (fun _ h9 => h9) rfl dM_reference_39 ?_
          refine lv_iload (pc := 42) hx hb dM_reference_42 (lv_at hl 0 rfl) ?_
          refine lv_iconst (pc := 44) (v := 3) hx hb dM_reference_44 (by decide) ?_
          refine lv_iadd (pc := 45) hx hb dM_reference_45 ?_
          obtain ⟨hv12, hf⟩ := ite_s hf
          obtain ⟨q13, hq13, eq13⟩ := at_15 (ad := ad) (ca := ca) (σ := σ) (cm_4_2 hC hm0)
          refine va_iald (D := (dC, dI)) (cl := kCl) (pc := 46) hx hb (hK.2 15 0 .int (cm_4_2 hC hm0) rfl) hP q13 0 eq13 rfl (hv12) dM_reference_46 ?_
          refine W.eq (g2 := F0 m 47 ls [.int (xI σ 15 0 ((s4 + 3)).toNatClampNeg), .int a3, .ref (ad 4 0)]) rfl ?_
          refine lv_icmp_ge (pc := 47) (tgt := 65) hx hb dM_reference_47 rfl (fun h14 => ?_) (fun h14 => ?_)
          · replace hf := ite_t h14 hf
            refine lv_iconst (pc := 65) (v := 1) hx hb dM_reference_65 (by decide) ?_
            have hl := lv_sub hl (l' := [(6, .int s4), (5, .int y2), (0, .ref (ad 4 0)), (1, .int a1), (2, .int a2), (3, .int a3), (4, .int a4)]) [0, 1, 2, 3, 4, 5, 6] rfl
            exact hJx7 (1, H, _, ls) ⟨hP, hD, hS, hl⟩ hf
          · replace hf := ite_f h14 hf
            refine lv_iload (pc := 50) hx hb dM_reference_50 (lv_at hl 6 rfl) ?_
            refine lv_if_lt (pc := 52) (tgt := 65) hx hb dM_reference_52 rfl (fun h15 => ?_) (fun h15 => ?_)
            · replace hf := ite_t h15 hf
              refine lv_iconst (pc := 65) (v := 1) hx hb dM_reference_65 (by decide) ?_
              have hl := lv_sub hl (l' := [(6, .int s4), (5, .int y2), (0, .ref (ad 4 0)), (1, .int a1), (2, .int a2), (3, .int a3), (4, .int a4)]) [0, 1, 2, 3, 4, 5, 6] rfl
              exact hJx7 (1, H, _, ls) ⟨hP, hD, hS, hl⟩ hf
            · replace hf := ite_f h15 hf
              refine lv_iload (pc := 55) hx hb dM_reference_55 (lv_at hl 6 rfl) ?_
              refine lv_iconst (pc := 57) (v := 3) hx hb dM_reference_57 (by decide) ?_
              refine lv_icmp_ge (pc := 58) (tgt := 65) hx hb dM_reference_58 rfl (fun h16 => ?_) (fun h16 => ?_)
              · replace hf := ite_t h16 hf
                refine lv_iconst (pc := 65) (v := 1) hx hb dM_reference_65 (by decide) ?_
                have hl := lv_sub hl (l' := [(6, .int s4), (5, .int y2), (0, .ref (ad 4 0)), (1, .int a1), (2, .int a2), (3, .int a3), (4, .int a4)]) [0, 1, 2, 3, 4, 5, 6] rfl
                exact hJx7 (1, H, _, ls) ⟨hP, hD, hS, hl⟩ hf
              · replace hf := ite_f h16 hf
                refine lv_iconst (pc := 61) (v := 0) hx hb dM_reference_61 (by decide) ?_
                refine lv_goto (pc := 62) (tgt := 66) hx hb dM_reference_62 rfl ?_
                have hl := lv_sub hl (l' := [(6, .int s4), (5, .int y2), (0, .ref (ad 4 0)), (1, .int a1), (2, .int a2), (3, .int a3), (4, .int a4)]) [0, 1, 2, 3, 4, 5, 6] rfl
                exact hJx7 (0, H, _, ls) ⟨hP, hD, hS, hl⟩ hf
    · rintro ⟨s8, H, locs, ls⟩ ⟨hP, hD, hS, hl⟩ hf
      dsimp only at hP hD hS hl hf ⊢
      rw [hx7] at hf
      have hl : lv_has ls 7 [(6, .int s4), (5, .int y2), (0, .ref (ad 4 0)), (1, .int a1), (2, .int a2), (3, .int a3), (4, .int a4)] := hl
      obtain ⟨q18, hq18, eq18⟩ := at_4 (ad := ad) (ca := ca) (σ := σ) hm0
      refine va_put (D := (dC, dI)) (cl := kCl) (ci := 4) (v := .int s8) (ty := .int) (C := RM) (T := TM) (N := 11) (pc := 66) hx hb hts inM tyM tyM_ok nmM hown hK.1 hP hD hS q18 eq18 rfl 0 (by decide) (hts _ wd_45) (fun _ h9 => h9) rfl (by decide +kernel) (rfl) (rfl) (Nat.le_of_ble_eq_true rfl) dM_reference_66 (fun H locs hP hD hS => ?_)
      obtain ⟨σ17, hσ17, hf⟩ := lt_9 hf
      obtain ⟨hP, hD⟩ := w9_rI 500 rfl hN hq18 hσ17 (pu_500) hP hD
      have hC : clo dom σ17.2.2 := by rw [hσ17]; exact hC
      refine lv_aload_n (pc := 69) hx hb dM_reference_69 rfl (lv_at hl 2 rfl) ?_
      obtain ⟨q19, hq19, eq19⟩ := at_4 (ad := ad) (ca := ca) (σ := σ17) hm0
      refine va_get (D := (dC, dI)) (cl := kCl) (C := RM) (T := TM) (N := 11) (pc := 70) hx hb hts inM hown hK.1 hP q19 eq19 rfl 0 (by decide) (hts _ wd_45) (fun _ h9 => h9) rfl dM_reference_70 ?_
      refine lv_if_le (pc := 73) (tgt := 78) hx hb dM_reference_73 rfl (fun h20 => ?_) (fun h20 => ?_)
      · replace hf := ite_t h20 hf
        refine lv_iload (pc := 78) hx hb dM_reference_78 (lv_at hl 6 rfl) ?_
        refine lv_if_ne (pc := 80) (tgt := 93) hx hb dM_reference_80 rfl (fun h21 => ?_) (fun h21 => ?_)
        · replace hf := ite_f h21 hf
          refine lv_iload (pc := 93) hx hb dM_reference_93 (lv_at hl 6 rfl) ?_
          refine lv_iconst (pc := 95) (v := 1) hx hb dM_reference_95 (by decide) ?_
          refine lv_icmp_ne (pc := 96) (tgt := 109) hx hb dM_reference_96 rfl (fun h22 => ?_) (fun h22 => ?_)
          · replace hf := ite_f h22 hf
            refine lv_aload_n (pc := 109) hx hb dM_reference_109 rfl (lv_at hl 2 rfl) ?_
            refine lv_iload (pc := 110) hx hb dM_reference_110 (lv_at hl 0 rfl) ?_
            refine lv_iload_n (pc := 112) hx hb dM_reference_112 rfl (lv_at hl 5 rfl) ?_
            obtain ⟨q23, hq23, eq23⟩ := at_4 (ad := ad) (ca := ca) (σ := σ17) hm0
            obtain ⟨y24, hy24, hf⟩ := ob hf
            refine vp_callSi (pc := 113) (W.runV (As := [.int s4, .int a3]) (rest := []) ⟨hx, hb, hml, hown, hts⟩ (t_M_resolved l dC dI ad ca dom n σ17 s4 a3 hm0 hN hC y24 hy24) (cwV 2 hts (gV wd_85 wd_86 wd_87 wd_50 wd_84) rfl rfl rfl (by decide +kernel) ⟨Nat.le_of_ble_eq_true rfl, Nat.le_of_ble_eq_true rfl⟩) ⟨hR_blind, va_recv (q := (RM, TM, 11)) (q0 := q23) (ci := 4) hK.1 hP rfl eq23, hR_pre hP hK hG⟩ rfl rfl hl.1 rfl (lv_room (Nat.le_of_ble_eq_true rfl)) dM_reference_113 ⟨Nat.le_of_ble_eq_true rfl, Nat.le_of_ble_eq_true rfl⟩) (fun r9 hr9 => ?_)
            refine W.eq (g2 := F0 m 116 ls [.int y24]) (by rw [hr9]) ?_
            obtain ⟨h8, h9⟩ := Prod.mk.inj (Option.some.inj hf)
            subst h9
            exact W.iret (pc := 116) hx hb hr (fun t ht hW => ⟨⟨_, (), rfl, h8, by rw [ht]; exact hP, hD, hC⟩, hS.F ht⟩) hS.2.2 dM_reference_116
          · replace hf := ite_t h22 hf
            refine lv_aload_n (pc := 99) hx hb dM_reference_99 rfl (lv_at hl 2 rfl) ?_
            refine lv_iload (pc := 100) hx hb dM_reference_100 (lv_at hl 0 rfl) ?_
            refine lv_iload_n (pc := 102) hx hb dM_reference_102 rfl (lv_at hl 5 rfl) ?_
            obtain ⟨q25, hq25, eq25⟩ := at_4 (ad := ad) (ca := ca) (σ := σ17) hm0
            obtain ⟨y26, hy26, hf⟩ := ob hf
            refine vp_callSi (pc := 103) (W.runV (As := [.int s4, .int a3]) (rest := []) ⟨hx, hb, hml, hown, hts⟩ (t_M_refRevision l dC dI ad ca dom σ17 s4 a3 hm0 hN hC y26 hy26) (cwV 2 hts (gV wd_73 wd_74 wd_75 wd_50 wd_72) rfl rfl rfl (by decide +kernel) ⟨Nat.le_of_ble_eq_true rfl, Nat.le_of_ble_eq_true rfl⟩) ⟨hR_blind, va_recv (q := (RM, TM, 11)) (q0 := q25) (ci := 4) hK.1 hP rfl eq25, hR_pre hP hK hG⟩ rfl rfl hl.1 rfl (lv_room (Nat.le_of_ble_eq_true rfl)) dM_reference_103 ⟨Nat.le_of_ble_eq_true rfl, Nat.le_of_ble_eq_true rfl⟩) (fun r9 hr9 => ?_)
            refine W.eq (g2 := F0 m 106 ls [.int y26]) (by rw [hr9]) ?_
            refine lv_goto (pc := 106) (tgt := 116) hx hb dM_reference_106 rfl ?_
            obtain ⟨h8, h9⟩ := Prod.mk.inj (Option.some.inj hf)
            subst h9
            exact W.iret (pc := 116) hx hb hr (fun t ht hW => ⟨⟨_, (), rfl, h8, by rw [ht]; exact hP, hD, hC⟩, hS.F ht⟩) hS.2.2 dM_reference_116
        · replace hf := ite_t h21 hf
          refine lv_aload_n (pc := 83) hx hb dM_reference_83 rfl (lv_at hl 2 rfl) ?_
          refine lv_iload (pc := 84) hx hb dM_reference_84 (lv_at hl 0 rfl) ?_
          refine lv_iload_n (pc := 86) hx hb dM_reference_86 rfl (lv_at hl 5 rfl) ?_
          obtain ⟨q27, hq27, eq27⟩ := at_4 (ad := ad) (ca := ca) (σ := σ17) hm0
          obtain ⟨y28, hy28, hf⟩ := ob hf
          refine vp_callSi (pc := 87) (W.runV (As := [.int s4, .int a3]) (rest := []) ⟨hx, hb, hml, hown, hts⟩ (t_M_refDrawing l dC dI ad ca dom σ17 s4 a3 hm0 hN hC y28 hy28) (cwV 2 hts (gV wd_77 wd_78 wd_79 wd_50 wd_76) rfl rfl rfl (by decide +kernel) ⟨Nat.le_of_ble_eq_true rfl, Nat.le_of_ble_eq_true rfl⟩) ⟨hR_blind, va_recv (q := (RM, TM, 11)) (q0 := q27) (ci := 4) hK.1 hP rfl eq27, hR_pre hP hK hG⟩ rfl rfl hl.1 rfl (lv_room (Nat.le_of_ble_eq_true rfl)) dM_reference_87 ⟨Nat.le_of_ble_eq_true rfl, Nat.le_of_ble_eq_true rfl⟩) (fun r9 hr9 => ?_)
          refine W.eq (g2 := F0 m 90 ls [.int y28]) (by rw [hr9]) ?_
          refine lv_goto (pc := 90) (tgt := 116) hx hb dM_reference_90 rfl ?_
          obtain ⟨h8, h9⟩ := Prod.mk.inj (Option.some.inj hf)
          subst h9
          exact W.iret (pc := 116) hx hb hr (fun t ht hW => ⟨⟨_, (), rfl, h8, by rw [ht]; exact hP, hD, hC⟩, hS.F ht⟩) hS.2.2 dM_reference_116
      · replace hf := ite_f h20 hf
        refine lv_iconst (pc := 76) (v := 0) hx hb dM_reference_76 (by decide) ?_
        obtain ⟨h8, h9⟩ := Prod.mk.inj (Option.some.inj hf)
        subst h9
        exact W.iret (pc := 77) hx hb hr (fun t ht hW => ⟨⟨_, (), rfl, h8, by rw [ht]; exact hP, hD, hC⟩, hS.F ht⟩) hS.2.2 dM_reference_77
def M_about (n : Nat) (σ : hT) (a1 : Int32) (a2 : Int32) : Option (Int32 × hT) := Option.bind (M_isDrawing σ a1) fun y2 => lt9 (α := Int32 → Option (Int32 × hT)) (fun (s4 : Int32) => lt9 (α := Int32 → Option (Int32 × hT)) (fun (s8 : Int32) => lt9 (α := Int32 → Option (Int32 × hT)) (fun (s14 : Int32) => lt9 (α := Int32 → Option (Int32 × hT)) (fun (s91 : Int32) => lt9 (sI σ 500 0 0 s91) fun σ93 => if s14 = 0 then some (0, σ93) else if a2 = 0 then Option.bind (M_made σ93 a1) fun y98 => some ((y98 - 1), σ93) else if a2 = 1 then Option.bind (M_released n σ93 a1) fun y101 => some (y101, σ93) else if a2 = 2 then Option.bind (M_with σ93 a1) fun y104 => some (y104, σ93) else if a2 = 3 then if s8 = 0 then some (0, σ93) else if in9 (s4 + 2) 25240 then some ((xI σ93 15 0 ((s4 + 2)).toNatClampNeg), σ93) else none else if a2 = 4 then if s8 = 0 then some (0, σ93) else if in9 (s4 + 3) 25240 then some ((xI σ93 15 0 ((s4 + 3)).toNatClampNeg), σ93) else none else if 200 ≤ a2 then if in9 (((s4 + 4) + a2) - 200) 25240 then some ((xI σ93 15 0 ((((s4 + 4) + a2) - 200)).toNatClampNeg), σ93) else none else if in9 (((s4 + 16) + a2) - 8) 25240 then some ((xI σ93 15 0 ((((s4 + 16) + a2) - 8)).toNatClampNeg), σ93) else none) fun x90 => if s14 = 0 then x90 1 else x90 0) fun x13 => if y2 = 0 then if s8 = 0 then if s8 = 0 then x13 0 else if a2 < 200 then x13 0 else if in9 (s4 + 3) 25240 then if (2 * (xI σ 15 0 ((s4 + 3)).toNatClampNeg)) ≤ (a2 - 200) then x13 0 else x13 1 else none else if a2 < 8 then if s8 = 0 then x13 0 else if a2 < 200 then x13 0 else if in9 (s4 + 3) 25240 then if (2 * (xI σ 15 0 ((s4 + 3)).toNatClampNeg)) ≤ (a2 - 200) then x13 0 else x13 1 else none else if in9 (s4 + 2) 25240 then if (a2 - 8) < (xI σ 15 0 ((s4 + 2)).toNatClampNeg) then x13 1 else if s8 = 0 then x13 0 else if a2 < 200 then x13 0 else if in9 (s4 + 3) 25240 then if (2 * (xI σ 15 0 ((s4 + 3)).toNatClampNeg)) ≤ (a2 - 200) then x13 0 else x13 1 else none else none else if a2 < 0 then if s8 = 0 then if s8 = 0 then x13 0 else if a2 < 200 then x13 0 else if in9 (s4 + 3) 25240 then if (2 * (xI σ 15 0 ((s4 + 3)).toNatClampNeg)) ≤ (a2 - 200) then x13 0 else x13 1 else none else if a2 < 8 then if s8 = 0 then x13 0 else if a2 < 200 then x13 0 else if in9 (s4 + 3) 25240 then if (2 * (xI σ 15 0 ((s4 + 3)).toNatClampNeg)) ≤ (a2 - 200) then x13 0 else x13 1 else none else if in9 (s4 + 2) 25240 then if (a2 - 8) < (xI σ 15 0 ((s4 + 2)).toNatClampNeg) then x13 1 else if s8 = 0 then x13 0 else if a2 < 200 then x13 0 else if in9 (s4 + 3) 25240 then if (2 * (xI σ 15 0 ((s4 + 3)).toNatClampNeg)) ≤ (a2 - 200) then x13 0 else x13 1 else none else none else if a2 < 5 then x13 1 else if s8 = 0 then if s8 = 0 then x13 0 else if a2 < 200 then x13 0 else if in9 (s4 + 3) 25240 then if (2 * (xI σ 15 0 ((s4 + 3)).toNatClampNeg)) ≤ (a2 - 200) then x13 0 else x13 1 else none else if a2 < 8 then if s8 = 0 then x13 0 else if a2 < 200 then x13 0 else if in9 (s4 + 3) 25240 then if (2 * (xI σ 15 0 ((s4 + 3)).toNatClampNeg)) ≤ (a2 - 200) then x13 0 else x13 1 else none else if in9 (s4 + 2) 25240 then if (a2 - 8) < (xI σ 15 0 ((s4 + 2)).toNatClampNeg) then x13 1 else if s8 = 0 then x13 0 else if a2 < 200 then x13 0 else if in9 (s4 + 3) 25240 then if (2 * (xI σ 15 0 ((s4 + 3)).toNatClampNeg)) ≤ (a2 - 200) then x13 0 else x13 1 else none else none) fun x7 => if y2 = 0 then x7 0 else Option.bind (M_with σ a1) fun y11 => if y11 < 0 then x7 0 else x7 1) fun x3 => if y2 = 0 then x3 20 else x3 (M_drawingAt a1)
set_option maxHeartbeats 4000000 in
set_option maxRecDepth 100000 in
theorem t_M_about (l : Launch) (dC : Nat → ClassId) (dI : Nat → Nat → Nat) (ad : Nat → Nat → Nat) (ca : Nat → Nat → ClassId) (dom : List (Nat × Nat)) (sz : Nat) (n : Nat) (σ : hT) (a1 : Int32) (a2 : Int32) (hm0 : (4, 0) ∈ dom) (hN : dom.Nodup) (hC : clo dom σ.2.2) (ρ : Int32) (σ' : hT) (hf : M_about n σ a1 a2 = some (ρ, σ')) : Met l yM_about (.code yM_about cM_about 7 (some .int) :: aw) ({ frames := 3, cells := 0, slots := 0, locals := 67 }) (hW (dC, dI) sz ad ca dom σ [.ref (ad 4 0), .int a1, .int a2]) (va_Qi (fun r (_ : Unit) => r = ρ) (fun _ t => hB (dC, dI) (va_A (w9 ad ca dom σ) sz) ad ca dom σ' t) (va_A (w9 ad ca dom σ) sz)) 0 0 (va_A (w9 ad ca dom σ) sz) := by
  refine Met.ofW (cc := cM_about) (maxL := 7) (ret := (some .int)) (by decide) rfl ?_
  intro p e s m args below meth c s₁ B hml hv
  obtain ⟨rfl, hv⟩ := hv
  have hx := B.exec
  have hb := B.bytes
  have hr := B.returns
  have hts : ∀ w ∈ aw, w.before _ s = true := fun w h => atoms_spec (ws := (.code yM_about cM_about 7 (some .int) :: aw)) B.pre w (List.mem_cons_of_mem _ h)
  have hown : s.vm.findClass RM = some m.cls := findClass_of_methodNamed B.named
  have hlocks := B.notSynchronized
  obtain ⟨hsz, hP, hK, hD0, hG⟩ := hv
  subst hsz
  have hD := hD0.self (sz := s.heap.size)
  generalize hAe : va_A (w9 ad ca dom σ) s.heap.size = A at hD ⊢
  have hA : ∀ q : Nat, s.heap.size ≤ q → A q := fun q h => by rw [← hAe]; exact Or.inr h
  obtain ⟨H, hH⟩ : ∃ H, H = s.heap := ⟨_, rfl⟩
  have hS : va_S A s.heap H [] := by rw [hH]; exact va_S.rf
  rw [← hH] at hP ⊢
  unfold M_about at hf
  have hl := lv_entry ([.ref (ad 4 0), .int a1, .int a2]) (n := 7) (Nat.le_of_ble_eq_true rfl)
  rw [lg_entry_eq]
  generalize (lg_sl ([.ref (ad 4 0), .int a1, .int a2]) ++ List.replicate (7 - (lg_sl ([.ref (ad 4 0), .int a1, .int a2])).length) Slot.unset).toArray = ls at hl ⊢
  have hl : lv_has ls 7 [(0, .ref (ad 4 0)), (1, .int a1), (2, .int a2)] := hl
  refine lv_aload_n (pc := 0) hx hb dM_about_0 rfl (lv_at hl 0 rfl) ?_
  refine lv_iload_n (pc := 1) hx hb dM_about_1 rfl (lv_at hl 1 rfl) ?_
  obtain ⟨q1, hq1, eq1⟩ := at_4 (ad := ad) (ca := ca) (σ := σ) hm0
  obtain ⟨y2, hy2, hf⟩ := ob hf
  refine vp_callSi (pc := 2) (W.runV (As := [.int a1]) (rest := []) ⟨hx, hb, hml, hown, hts⟩ (t_M_isDrawing l dC dI ad ca dom σ a1 hm0 hN hC y2 hy2) (cwV 1 hts (gV wd_57 wd_58 wd_59 wd_50 wd_56) rfl rfl rfl (by decide +kernel) ⟨Nat.le_of_ble_eq_true rfl, Nat.le_of_ble_eq_true rfl⟩) ⟨hR_blind, va_recv (q := (RM, TM, 11)) (q0 := q1) (ci := 4) hK.1 hP rfl eq1, hR_pre hP hK hG⟩ rfl rfl hl.1 rfl (lv_room (Nat.le_of_ble_eq_true rfl)) dM_about_2 ⟨Nat.le_of_ble_eq_true rfl, Nat.le_of_ble_eq_true rfl⟩) (fun r9 hr9 => ?_)
  refine W.eq (g2 := F0 m 5 ls [.int y2]) (by rw [hr9]) ?_
  refine lv_istore_n (pc := 5) hx hb dM_about_5 rfl hl (by decide) rfl (fun ls hl => ?_)
  have hl : lv_has ls 7 [(3, .int y2), (0, .ref (ad 4 0)), (1, .int a1), (2, .int a2)] := hl
  refine lv_iload_n (pc := 6) hx hb dM_about_6 rfl (lv_at hl 0 rfl) ?_
  obtain ⟨x3, hx3, hf⟩ := lt_9 hf
  refine jnF (τ := (Int32) × (Heap) × (List Loc) × (Array Slot)) (fun pc st z => W p l e _ s m _ below meth c z.2.1 z.2.2.1 0 0 _ (F0 m pc z.2.2.2 st)) (pc0 := 7) (st0 := [.int y2]) (z0 := (0, H, _, ls)) 20 (fun z => [.int z.1]) (fun z => va_P (dC, dI) kCl (w9 ad ca dom (σ)) z.2.1 ∧ va_D A (w9 ad ca dom (σ)) ∧ va_S A s.heap z.2.1 z.2.2.1 ∧ lv_has z.2.2.2 7 [(3, .int y2), (0, .ref (ad 4 0)), (1, .int a1), (2, .int a2)]) (fun z => x3 z.1) (ρ, σ') ?_ ?_
  · intro hJx3
    dsimp only at hJx3 ⊢
    refine lv_if_eq (pc := 7) (tgt := 18) hx hb dM_about_7 rfl (fun h5 => ?_) (fun h5 => ?_)
    · replace hf := ite_t h5 hf
      refine lv_bipush (pc := 18) (v := 20) hx hb dM_about_18 (by decide) ?_
      have hl := lv_sub hl (l' := [(3, .int y2), (0, .ref (ad 4 0)), (1, .int a1), (2, .int a2)]) [0, 1, 2, 3] rfl
      exact hJx3 (20, H, _, ls) ⟨hP, hD, hS, hl⟩ hf
    · replace hf := ite_f h5 hf
      refine lv_aload_n (pc := 10) hx hb dM_about_10 rfl (lv_at hl 1 rfl) ?_
      refine lv_iload_n (pc := 11) hx hb dM_about_11 rfl (lv_at hl 2 rfl) ?_
      obtain ⟨q6, hq6, eq6⟩ := at_4 (ad := ad) (ca := ca) (σ := σ) hm0
      refine vp_callSi (pc := 12) (W.runV (As := [.int a1]) (rest := []) ⟨hx, hb, hml, hown, hts⟩ (t_M_drawingAt l dC dI ad ca dom a1 hm0 σ hN hC (M_drawingAt a1) rfl) (cwV 1 hts (gV wd_53 wd_54 wd_55 wd_50 wd_52) rfl rfl rfl (by decide +kernel) ⟨Nat.le_of_ble_eq_true rfl, Nat.le_of_ble_eq_true rfl⟩) ⟨hR_blind, va_recv (q := (RM, TM, 11)) (q0 := q6) (ci := 4) hK.1 hP rfl eq6, hR_pre hP hK hG⟩ rfl rfl hl.1 rfl (lv_room (Nat.le_of_ble_eq_true rfl)) dM_about_12 ⟨Nat.le_of_ble_eq_true rfl, Nat.le_of_ble_eq_true rfl⟩) (fun r9 hr9 => ?_)
      refine W.eq (g2 := F0 m 15 ls [.int (M_drawingAt a1)]) (by rw [hr9]) ?_
      refine lv_goto (pc := 15) (tgt := 20) hx hb dM_about_15 rfl ?_
      have hl := lv_sub hl (l' := [(3, .int y2), (0, .ref (ad 4 0)), (1, .int a1), (2, .int a2)]) [0, 1, 2, 3] rfl
      exact hJx3 ((M_drawingAt a1), H, _, ls) ⟨hP, hD, hS, hl⟩ hf
  · rintro ⟨s4, H, locs, ls⟩ ⟨hP, hD, hS, hl⟩ hf
    dsimp only at hP hD hS hl hf ⊢
    rw [hx3] at hf
    have hl : lv_has ls 7 [(3, .int y2), (0, .ref (ad 4 0)), (1, .int a1), (2, .int a2)] := hl
    refine lv_istore (pc := 20) hx hb dM_about_20 hl (by decide) rfl (fun ls hl => ?_)
    have hl : lv_has ls 7 [(4, .int s4), (3, .int y2), (0, .ref (ad 4 0)), (1, .int a1), (2, .int a2)] := hl
    refine lv_iload_n (pc := 22) hx hb dM_about_22 rfl (lv_at hl 1 rfl) ?_
    obtain ⟨x7, hx7, hf⟩ := lt_9 hf
    refine jnF (τ := (Int32) × (Heap) × (List Loc) × (Array Slot)) (fun pc st z => W p l e _ s m _ below meth c z.2.1 z.2.2.1 0 0 _ (F0 m pc z.2.2.2 st)) (pc0 := 23) (st0 := [.int y2]) (z0 := (0, H, _, ls)) 39 (fun z => [.int z.1]) (fun z => va_P (dC, dI) kCl (w9 ad ca dom (σ)) z.2.1 ∧ va_D A (w9 ad ca dom (σ)) ∧ va_S A s.heap z.2.1 z.2.2.1 ∧ lv_has z.2.2.2 7 [(4, .int s4), (3, .int y2), (0, .ref (ad 4 0)), (1, .int a1), (2, .int a2)]) (fun z => x7 z.1) (ρ, σ') ?_ ?_
    · intro hJx7
      dsimp only at hJx7 ⊢
      refine lv_if_eq (pc := 23) (tgt := 38) hx hb dM_about_23 rfl (fun h9 => ?_) (fun h9 => ?_)
      · replace hf := ite_t h9 hf
        refine lv_iconst (pc := 38) (v := 0) hx hb dM_about_38 (by decide) ?_
        have hl := lv_sub hl (l' := [(4, .int s4), (3, .int y2), (0, .ref (ad 4 0)), (1, .int a1), (2, .int a2)]) [0, 1, 2, 3, 4] rfl
        exact hJx7 (0, H, _, ls) ⟨hP, hD, hS, hl⟩ hf
      · replace hf := ite_f h9 hf
        refine lv_aload_n (pc := 26) hx hb dM_about_26 rfl (lv_at hl 2 rfl) ?_
        refine lv_iload_n (pc := 27) hx hb dM_about_27 rfl (lv_at hl 3 rfl) ?_
        obtain ⟨q10, hq10, eq10⟩ := at_4 (ad := ad) (ca := ca) (σ := σ) hm0
        obtain ⟨y11, hy11, hf⟩ := ob hf
        refine vp_callSi (pc := 28) (W.runV (As := [.int a1]) (rest := []) ⟨hx, hb, hml, hown, hts⟩ (t_M_with l dC dI ad ca dom σ a1 hm0 hN hC y11 hy11) (cwV 1 hts (gV wd_101 wd_102 wd_103 wd_50 wd_100) rfl rfl rfl (by decide +kernel) ⟨Nat.le_of_ble_eq_true rfl, Nat.le_of_ble_eq_true rfl⟩) ⟨hR_blind, va_recv (q := (RM, TM, 11)) (q0 := q10) (ci := 4) hK.1 hP rfl eq10, hR_pre hP hK hG⟩ rfl rfl hl.1 rfl (lv_room (Nat.le_of_ble_eq_true rfl)) dM_about_28 ⟨Nat.le_of_ble_eq_true rfl, Nat.le_of_ble_eq_true rfl⟩) (fun r9 hr9 => ?_)
        refine W.eq (g2 := F0 m 31 ls [.int y11]) (by rw [hr9]) ?_
        refine lv_if_lt (pc := 31) (tgt := 38) hx hb dM_about_31 rfl (fun h12 => ?_) (fun h12 => ?_)
        · replace hf := ite_t h12 hf
          refine lv_iconst (pc := 38) (v := 0) hx hb dM_about_38 (by decide) ?_
          have hl := lv_sub hl (l' := [(4, .int s4), (3, .int y2), (0, .ref (ad 4 0)), (1, .int a1), (2, .int a2)]) [0, 1, 2, 3, 4] rfl
          exact hJx7 (0, H, _, ls) ⟨hP, hD, hS, hl⟩ hf
        · replace hf := ite_f h12 hf
          refine lv_iconst (pc := 34) (v := 1) hx hb dM_about_34 (by decide) ?_
          refine lv_goto (pc := 35) (tgt := 39) hx hb dM_about_35 rfl ?_
          have hl := lv_sub hl (l' := [(4, .int s4), (3, .int y2), (0, .ref (ad 4 0)), (1, .int a1), (2, .int a2)]) [0, 1, 2, 3, 4] rfl
          exact hJx7 (1, H, _, ls) ⟨hP, hD, hS, hl⟩ hf
    · rintro ⟨s8, H, locs, ls⟩ ⟨hP, hD, hS, hl⟩ hf
      dsimp only at hP hD hS hl hf ⊢
      rw [hx7] at hf
      have hl : lv_has ls 7 [(4, .int s4), (3, .int y2), (0, .ref (ad 4 0)), (1, .int a1), (2, .int a2)] := hl
      refine lv_istore (pc := 39) hx hb dM_about_39 hl (by decide) rfl (fun ls hl => ?_)
      have hl : lv_has ls 7 [(5, .int s8), (4, .int s4), (3, .int y2), (0, .ref (ad 4 0)), (1, .int a1), (2, .int a2)] := hl
      refine lv_iload_n (pc := 41) hx hb dM_about_41 rfl (lv_at hl 2 rfl) ?_
      obtain ⟨x13, hx13, hf⟩ := lt_9 hf
      refine jnF (τ := (Int32) × (Heap) × (List Loc) × (Array Slot)) (fun pc st z => W p l e _ s m _ below meth c z.2.1 z.2.2.1 0 0 _ (F0 m pc z.2.2.2 st)) (pc0 := 42) (st0 := [.int y2]) (z0 := (0, H, _, ls)) 117 (fun z => [.int z.1]) (fun z => va_P (dC, dI) kCl (w9 ad ca dom (σ)) z.2.1 ∧ va_D A (w9 ad ca dom (σ)) ∧ va_S A s.heap z.2.1 z.2.2.1 ∧ lv_has z.2.2.2 7 [(5, .int s8), (4, .int s4), (3, .int y2), (0, .ref (ad 4 0)), (1, .int a1), (2, .int a2)]) (fun z => x13 z.1) (ρ, σ') ?_ ?_
      · intro hJx13
        dsimp only at hJx13 ⊢
        refine lv_if_eq (pc := 42) (tgt := 54) hx hb dM_about_42 rfl (fun h15 => ?_) (fun h15 => ?_)
        · replace hf := ite_t h15 hf
          refine lv_iload (pc := 54) hx hb dM_about_54 (lv_at hl 0 rfl) ?_
          refine lv_if_eq (pc := 56) (tgt := 81) hx hb dM_about_56 rfl (fun h16 => ?_) (fun h16 => ?_)
          · replace hf := ite_t h16 hf
            refine lv_iload (pc := 81) hx hb dM_about_81 (lv_at hl 0 rfl) ?_
            refine lv_if_eq (pc := 83) (tgt := 116) hx hb dM_about_83 rfl (fun h17 => ?_) (fun h17 => ?_)
            · replace hf := ite_t h17 hf
              refine lv_iconst (pc := 116) (v := 0) hx hb dM_about_116 (by decide) ?_
              have hl := lv_sub hl (l' := [(5, .int s8), (4, .int s4), (3, .int y2), (0, .ref (ad 4 0)), (1, .int a1), (2, .int a2)]) [0, 1, 2, 3, 4, 5] rfl
              exact hJx13 (0, H, _, ls) ⟨hP, hD, hS, hl⟩ hf
            · replace hf := ite_f h17 hf
              refine lv_iload_n (pc := 86) hx hb dM_about_86 rfl (lv_at hl 5 rfl) ?_
              refine lv_sipush (pc := 87) (v := 200) hx hb dM_about_87 (by decide) ?_
              refine lv_icmp_lt (pc := 90) (tgt := 116) hx hb dM_about_90 rfl (fun h18 => ?_) (fun h18 => ?_)
              · replace hf := ite_t h18 hf
                refine lv_iconst (pc := 116) (v := 0) hx hb dM_about_116 (by decide) ?_
                have hl := lv_sub hl (l' := [(5, .int s8), (4, .int s4), (3, .int y2), (0, .ref (ad 4 0)), (1, .int a1), (2, .int a2)]) [0, 1, 2, 3, 4, 5] rfl
                exact hJx13 (0, H, _, ls) ⟨hP, hD, hS, hl⟩ hf
              · replace hf := ite_f h18 hf
                refine lv_iload_n (pc := 93) hx hb dM_about_93 rfl (lv_at hl 5 rfl) ?_
                refine lv_sipush (pc := 94) (v := 200) hx hb dM_about_94 (by decide) ?_
                refine lv_isub (pc := 97) hx hb dM_about_97 ?_
                refine lv_iconst (pc := 98) (v := 2) hx hb dM_about_98 (by decide) ?_
                refine lv_aload_n (pc := 99) hx hb dM_about_99 rfl (lv_at hl 3 rfl) ?_
                obtain ⟨q19, hq19, eq19⟩ := at_4 (ad := ad) (ca := ca) (σ := σ) hm0
                refine va_get (D := (dC, dI)) (cl := kCl) (C := RM) (T := TM) (N := 11) (pc := 100) hx hb hts inM hown hK.1 hP q19 eq19 rfl 2 (by decide) (hts _ wd_51) (fun _ h9 => h9) rfl dM_about_100 ?_
                refine lv_iload (pc := 103) hx hb dM_about_103 (lv_at hl 1 rfl) ?_
                refine lv_iconst (pc := 105) (v := 3) hx hb dM_about_105 (by decide) ?_
                refine lv_iadd (pc := 106) hx hb dM_about_106 ?_
                obtain ⟨hv20, hf⟩ := ite_s hf
                obtain ⟨q21, hq21, eq21⟩ := at_15 (ad := ad) (ca := ca) (σ := σ) (cm_4_2 hC hm0)
                refine va_iald (D := (dC, dI)) (cl := kCl) (pc := 107) hx hb (hK.2 15 0 .int (cm_4_2 hC hm0) rfl) hP q21 0 eq21 rfl (hv20) dM_about_107 ?_
                refine W.eq (g2 := F0 m 108 ls [.int (xI σ 15 0 ((s4 + 3)).toNatClampNeg), .int 2, .int (a2 - 200)]) rfl ?_
                refine lv_imul (pc := 108) hx hb dM_about_108 ?_
                refine lv_icmp_ge (pc := 109) (tgt := 116) hx hb dM_about_109 rfl (fun h22 => ?_) (fun h22 => ?_)
                · replace hf := ite_t h22 hf
                  refine lv_iconst (pc := 116) (v := 0) hx hb dM_about_116 (by decide) ?_
                  have hl := lv_sub hl (l' := [(5, .int s8), (4, .int s4), (3, .int y2), (0, .ref (ad 4 0)), (1, .int a1), (2, .int a2)]) [0, 1, 2, 3, 4, 5] rfl
                  exact hJx13 (0, H, _, ls) ⟨hP, hD, hS, hl⟩ hf
                · replace hf := ite_f h22 hf
                  refine lv_iconst (pc := 112) (v := 1) hx hb dM_about_112 (by decide) ?_
                  refine lv_goto (pc := 113) (tgt := 117) hx hb dM_about_113 rfl ?_
                  have hl := lv_sub hl (l' := [(5, .int s8), (4, .int s4), (3, .int y2), (0, .ref (ad 4 0)), (1, .int a1), (2, .int a2)]) [0, 1, 2, 3, 4, 5] rfl
                  exact hJx13 (1, H, _, ls) ⟨hP, hD, hS, hl⟩ hf
          · replace hf := ite_f h16 hf
            refine lv_iload_n (pc := 59) hx hb dM_about_59 rfl (lv_at hl 5 rfl) ?_
            refine lv_bipush (pc := 60) (v := 8) hx hb dM_about_60 (by decide) ?_
            refine lv_icmp_lt (pc := 62) (tgt := 81) hx hb dM_about_62 rfl (fun h23 => ?_) (fun h23 => ?_)
            · replace hf := ite_t h23 hf
              refine lv_iload (pc := 81) hx hb dM_about_81 (lv_at hl 0 rfl) ?_
              refine lv_if_eq (pc := 83) (tgt := 116) hx hb dM_about_83 rfl (fun h24 => ?_) (fun h24 => ?_)
              · replace hf := ite_t h24 hf
                refine lv_iconst (pc := 116) (v := 0) hx hb dM_about_116 (by decide) ?_
                have hl := lv_sub hl (l' := [(5, .int s8), (4, .int s4), (3, .int y2), (0, .ref (ad 4 0)), (1, .int a1), (2, .int a2)]) [0, 1, 2, 3, 4, 5] rfl
                exact hJx13 (0, H, _, ls) ⟨hP, hD, hS, hl⟩ hf
              · replace hf := ite_f h24 hf
                refine lv_iload_n (pc := 86) hx hb dM_about_86 rfl (lv_at hl 5 rfl) ?_
                refine lv_sipush (pc := 87) (v := 200) hx hb dM_about_87 (by decide) ?_
                refine lv_icmp_lt (pc := 90) (tgt := 116) hx hb dM_about_90 rfl (fun h25 => ?_) (fun h25 => ?_)
                · replace hf := ite_t h25 hf
                  refine lv_iconst (pc := 116) (v := 0) hx hb dM_about_116 (by decide) ?_
                  have hl := lv_sub hl (l' := [(5, .int s8), (4, .int s4), (3, .int y2), (0, .ref (ad 4 0)), (1, .int a1), (2, .int a2)]) [0, 1, 2, 3, 4, 5] rfl
                  exact hJx13 (0, H, _, ls) ⟨hP, hD, hS, hl⟩ hf
                · replace hf := ite_f h25 hf
                  refine lv_iload_n (pc := 93) hx hb dM_about_93 rfl (lv_at hl 5 rfl) ?_
                  refine lv_sipush (pc := 94) (v := 200) hx hb dM_about_94 (by decide) ?_
                  refine lv_isub (pc := 97) hx hb dM_about_97 ?_
                  refine lv_iconst (pc := 98) (v := 2) hx hb dM_about_98 (by decide) ?_
                  refine lv_aload_n (pc := 99) hx hb dM_about_99 rfl (lv_at hl 3 rfl) ?_
                  obtain ⟨q26, hq26, eq26⟩ := at_4 (ad := ad) (ca := ca) (σ := σ) hm0
                  refine va_get (D := (dC, dI)) (cl := kCl) (C := RM) (T := TM) (N := 11) (pc := 100) hx hb hts inM hown hK.1 hP q26 eq26 rfl 2 (by decide) (hts _ wd_51) (fun _ h9 => h9) rfl dM_about_100 ?_
                  refine lv_iload (pc := 103) hx hb dM_about_103 (lv_at hl 1 rfl) ?_
                  refine lv_iconst (pc := 105) (v := 3) hx hb dM_about_105 (by decide) ?_
                  refine lv_iadd (pc := 106) hx hb dM_about_106 ?_
                  obtain ⟨hv27, hf⟩ := ite_s hf
                  obtain ⟨q28, hq28, eq28⟩ := at_15 (ad := ad) (ca := ca) (σ := σ) (cm_4_2 hC hm0)
                  refine va_iald (D := (dC, dI)) (cl := kCl) (pc := 107) hx hb (hK.2 15 0 .int (cm_4_2 hC hm0) rfl) hP q28 0 eq28 rfl (hv27) dM_about_107 ?_
                  refine W.eq (g2 := F0 m 108 ls [.int (xI σ 15 0 ((s4 + 3)).toNatClampNeg), .int 2, .int (a2 - 200)]) rfl ?_
                  refine lv_imul (pc := 108) hx hb dM_about_108 ?_
                  refine lv_icmp_ge (pc := 109) (tgt := 116) hx hb dM_about_109 rfl (fun h29 => ?_) (fun h29 => ?_)
                  · replace hf := ite_t h29 hf
                    refine lv_iconst (pc := 116) (v := 0) hx hb dM_about_116 (by decide) ?_
                    have hl := lv_sub hl (l' := [(5, .int s8), (4, .int s4), (3, .int y2), (0, .ref (ad 4 0)), (1, .int a1), (2, .int a2)]) [0, 1, 2, 3, 4, 5] rfl
                    exact hJx13 (0, H, _, ls) ⟨hP, hD, hS, hl⟩ hf
                  · replace hf := ite_f h29 hf
                    refine lv_iconst (pc := 112) (v := 1) hx hb dM_about_112 (by decide) ?_
                    refine lv_goto (pc := 113) (tgt := 117) hx hb dM_about_113 rfl ?_
                    have hl := lv_sub hl (l' := [(5, .int s8), (4, .int s4), (3, .int y2), (0, .ref (ad 4 0)), (1, .int a1), (2, .int a2)]) [0, 1, 2, 3, 4, 5] rfl
                    exact hJx13 (1, H, _, ls) ⟨hP, hD, hS, hl⟩ hf
            · replace hf := ite_f h23 hf
              refine lv_iload_n (pc := 65) hx hb dM_about_65 rfl (lv_at hl 5 rfl) ?_
              refine lv_bipush (pc := 66) (v := 8) hx hb dM_about_66 (by decide) ?_
              refine lv_isub (pc := 68) hx hb dM_about_68 ?_
              refine lv_aload_n (pc := 69) hx hb dM_about_69 rfl (lv_at hl 3 rfl) ?_
              obtain ⟨q30, hq30, eq30⟩ := at_4 (ad := ad) (ca := ca) (σ := σ) hm0
              refine va_get (D := (dC, dI)) (cl := kCl) (C := RM) (T := TM) (N := 11) (pc := 70) hx hb hts inM hown hK.1 hP q30 eq30 rfl 2 (by decide) (hts _ wd_51) (fun _ h9 => h9) rfl dM_about_70 ?_
              refine lv_iload (pc := 73) hx hb dM_about_73 (lv_at hl 1 rfl) ?_
              refine lv_iconst (pc := 75) (v := 2) hx hb dM_about_75 (by decide) ?_
              refine lv_iadd (pc := 76) hx hb dM_about_76 ?_
              obtain ⟨hv31, hf⟩ := ite_s hf
              obtain ⟨q32, hq32, eq32⟩ := at_15 (ad := ad) (ca := ca) (σ := σ) (cm_4_2 hC hm0)
              refine va_iald (D := (dC, dI)) (cl := kCl) (pc := 77) hx hb (hK.2 15 0 .int (cm_4_2 hC hm0) rfl) hP q32 0 eq32 rfl (hv31) dM_about_77 ?_
              refine W.eq (g2 := F0 m 78 ls [.int (xI σ 15 0 ((s4 + 2)).toNatClampNeg), .int (a2 - 8)]) rfl ?_
              refine lv_icmp_lt (pc := 78) (tgt := 112) hx hb dM_about_78 rfl (fun h33 => ?_) (fun h33 => ?_)
              · replace hf := ite_t h33 hf
                refine lv_iconst (pc := 112) (v := 1) hx hb dM_about_112 (by decide) ?_
                refine lv_goto (pc := 113) (tgt := 117) hx hb dM_about_113 rfl ?_
                have hl := lv_sub hl (l' := [(5, .int s8), (4, .int s4), (3, .int y2), (0, .ref (ad 4 0)), (1, .int a1), (2, .int a2)]) [0, 1, 2, 3, 4, 5] rfl
                exact hJx13 (1, H, _, ls) ⟨hP, hD, hS, hl⟩ hf
              · replace hf := ite_f h33 hf
                refine lv_iload (pc := 81) hx hb dM_about_81 (lv_at hl 0 rfl) ?_
                refine lv_if_eq (pc := 83) (tgt := 116) hx hb dM_about_83 rfl (fun h34 => ?_) (fun h34 => ?_)
                · replace hf := ite_t h34 hf
                  refine lv_iconst (pc := 116) (v := 0) hx hb dM_about_116 (by decide) ?_
                  have hl := lv_sub hl (l' := [(5, .int s8), (4, .int s4), (3, .int y2), (0, .ref (ad 4 0)), (1, .int a1), (2, .int a2)]) [0, 1, 2, 3, 4, 5] rfl
                  exact hJx13 (0, H, _, ls) ⟨hP, hD, hS, hl⟩ hf
                · replace hf := ite_f h34 hf
                  refine lv_iload_n (pc := 86) hx hb dM_about_86 rfl (lv_at hl 5 rfl) ?_
                  refine lv_sipush (pc := 87) (v := 200) hx hb dM_about_87 (by decide) ?_
                  refine lv_icmp_lt (pc := 90) (tgt := 116) hx hb dM_about_90 rfl (fun h35 => ?_) (fun h35 => ?_)
                  · replace hf := ite_t h35 hf
                    refine lv_iconst (pc := 116) (v := 0) hx hb dM_about_116 (by decide) ?_
                    have hl := lv_sub hl (l' := [(5, .int s8), (4, .int s4), (3, .int y2), (0, .ref (ad 4 0)), (1, .int a1), (2, .int a2)]) [0, 1, 2, 3, 4, 5] rfl
                    exact hJx13 (0, H, _, ls) ⟨hP, hD, hS, hl⟩ hf
                  · replace hf := ite_f h35 hf
                    refine lv_iload_n (pc := 93) hx hb dM_about_93 rfl (lv_at hl 5 rfl) ?_
                    refine lv_sipush (pc := 94) (v := 200) hx hb dM_about_94 (by decide) ?_
                    refine lv_isub (pc := 97) hx hb dM_about_97 ?_
                    refine lv_iconst (pc := 98) (v := 2) hx hb dM_about_98 (by decide) ?_
                    refine lv_aload_n (pc := 99) hx hb dM_about_99 rfl (lv_at hl 3 rfl) ?_
                    obtain ⟨q36, hq36, eq36⟩ := at_4 (ad := ad) (ca := ca) (σ := σ) hm0
                    refine va_get (D := (dC, dI)) (cl := kCl) (C := RM) (T := TM) (N := 11) (pc := 100) hx hb hts inM hown hK.1 hP q36 eq36 rfl 2 (by decide) (hts _ wd_51) (fun _ h9 => h9) rfl dM_about_100 ?_
                    refine lv_iload (pc := 103) hx hb dM_about_103 (lv_at hl 1 rfl) ?_
                    refine lv_iconst (pc := 105) (v := 3) hx hb dM_about_105 (by decide) ?_
                    refine lv_iadd (pc := 106) hx hb dM_about_106 ?_
                    obtain ⟨hv37, hf⟩ := ite_s hf
                    obtain ⟨q38, hq38, eq38⟩ := at_15 (ad := ad) (ca := ca) (σ := σ) (cm_4_2 hC hm0)
                    refine va_iald (D := (dC, dI)) (cl := kCl) (pc := 107) hx hb (hK.2 15 0 .int (cm_4_2 hC hm0) rfl) hP q38 0 eq38 rfl (hv37) dM_about_107 ?_
                    refine W.eq (g2 := F0 m 108 ls [.int (xI σ 15 0 ((s4 + 3)).toNatClampNeg), .int 2, .int (a2 - 200)]) rfl ?_
                    refine lv_imul (pc := 108) hx hb dM_about_108 ?_
                    refine lv_icmp_ge (pc := 109) (tgt := 116) hx hb dM_about_109 rfl (fun h39 => ?_) (fun h39 => ?_)
                    · replace hf := ite_t h39 hf
                      refine lv_iconst (pc := 116) (v := 0) hx hb dM_about_116 (by decide) ?_
                      have hl := lv_sub hl (l' := [(5, .int s8), (4, .int s4), (3, .int y2), (0, .ref (ad 4 0)), (1, .int a1), (2, .int a2)]) [0, 1, 2, 3, 4, 5] rfl
                      exact hJx13 (0, H, _, ls) ⟨hP, hD, hS, hl⟩ hf
                    · replace hf := ite_f h39 hf
                      refine lv_iconst (pc := 112) (v := 1) hx hb dM_about_112 (by decide) ?_
                      refine lv_goto (pc := 113) (tgt := 117) hx hb dM_about_113 rfl ?_
                      have hl := lv_sub hl (l' := [(5, .int s8), (4, .int s4), (3, .int y2), (0, .ref (ad 4 0)), (1, .int a1), (2, .int a2)]) [0, 1, 2, 3, 4, 5] rfl
                      exact hJx13 (1, H, _, ls) ⟨hP, hD, hS, hl⟩ hf
        · replace hf := ite_f h15 hf
          refine lv_iload_n (pc := 45) hx hb dM_about_45 rfl (lv_at hl 5 rfl) ?_
          refine lv_if_lt (pc := 46) (tgt := 54) hx hb dM_about_46 rfl (fun h40 => ?_) (fun h40 => ?_)
          · replace hf := ite_t h40 hf
            refine lv_iload (pc := 54) hx hb dM_about_54 (lv_at hl 0 rfl) ?_
            refine lv_if_eq (pc := 56) (tgt := 81) hx hb dM_about_56 rfl (fun h41 => ?_) (fun h41 => ?_)
            · replace hf := ite_t h41 hf
              refine lv_iload (pc := 81) hx hb dM_about_81 (lv_at hl 0 rfl) ?_
              refine lv_if_eq (pc := 83) (tgt := 116) hx hb dM_about_83 rfl (fun h42 => ?_) (fun h42 => ?_)
              · replace hf := ite_t h42 hf
                refine lv_iconst (pc := 116) (v := 0) hx hb dM_about_116 (by decide) ?_
                have hl := lv_sub hl (l' := [(5, .int s8), (4, .int s4), (3, .int y2), (0, .ref (ad 4 0)), (1, .int a1), (2, .int a2)]) [0, 1, 2, 3, 4, 5] rfl
                exact hJx13 (0, H, _, ls) ⟨hP, hD, hS, hl⟩ hf
              · replace hf := ite_f h42 hf
                refine lv_iload_n (pc := 86) hx hb dM_about_86 rfl (lv_at hl 5 rfl) ?_
                refine lv_sipush (pc := 87) (v := 200) hx hb dM_about_87 (by decide) ?_
                refine lv_icmp_lt (pc := 90) (tgt := 116) hx hb dM_about_90 rfl (fun h43 => ?_) (fun h43 => ?_)
                · replace hf := ite_t h43 hf
                  refine lv_iconst (pc := 116) (v := 0) hx hb dM_about_116 (by decide) ?_
                  have hl := lv_sub hl (l' := [(5, .int s8), (4, .int s4), (3, .int y2), (0, .ref (ad 4 0)), (1, .int a1), (2, .int a2)]) [0, 1, 2, 3, 4, 5] rfl
                  exact hJx13 (0, H, _, ls) ⟨hP, hD, hS, hl⟩ hf
                · replace hf := ite_f h43 hf
                  refine lv_iload_n (pc := 93) hx hb dM_about_93 rfl (lv_at hl 5 rfl) ?_
                  refine lv_sipush (pc := 94) (v := 200) hx hb dM_about_94 (by decide) ?_
                  refine lv_isub (pc := 97) hx hb dM_about_97 ?_
                  refine lv_iconst (pc := 98) (v := 2) hx hb dM_about_98 (by decide) ?_
                  refine lv_aload_n (pc := 99) hx hb dM_about_99 rfl (lv_at hl 3 rfl) ?_
                  obtain ⟨q44, hq44, eq44⟩ := at_4 (ad := ad) (ca := ca) (σ := σ) hm0
                  refine va_get (D := (dC, dI)) (cl := kCl) (C := RM) (T := TM) (N := 11) (pc := 100) hx hb hts inM hown hK.1 hP q44 eq44 rfl 2 (by decide) (hts _ wd_51) (fun _ h9 => h9) rfl dM_about_100 ?_
                  refine lv_iload (pc := 103) hx hb dM_about_103 (lv_at hl 1 rfl) ?_
                  refine lv_iconst (pc := 105) (v := 3) hx hb dM_about_105 (by decide) ?_
                  refine lv_iadd (pc := 106) hx hb dM_about_106 ?_
                  obtain ⟨hv45, hf⟩ := ite_s hf
                  obtain ⟨q46, hq46, eq46⟩ := at_15 (ad := ad) (ca := ca) (σ := σ) (cm_4_2 hC hm0)
                  refine va_iald (D := (dC, dI)) (cl := kCl) (pc := 107) hx hb (hK.2 15 0 .int (cm_4_2 hC hm0) rfl) hP q46 0 eq46 rfl (hv45) dM_about_107 ?_
                  refine W.eq (g2 := F0 m 108 ls [.int (xI σ 15 0 ((s4 + 3)).toNatClampNeg), .int 2, .int (a2 - 200)]) rfl ?_
                  refine lv_imul (pc := 108) hx hb dM_about_108 ?_
                  refine lv_icmp_ge (pc := 109) (tgt := 116) hx hb dM_about_109 rfl (fun h47 => ?_) (fun h47 => ?_)
                  · replace hf := ite_t h47 hf
                    refine lv_iconst (pc := 116) (v := 0) hx hb dM_about_116 (by decide) ?_
                    have hl := lv_sub hl (l' := [(5, .int s8), (4, .int s4), (3, .int y2), (0, .ref (ad 4 0)), (1, .int a1), (2, .int a2)]) [0, 1, 2, 3, 4, 5] rfl
                    exact hJx13 (0, H, _, ls) ⟨hP, hD, hS, hl⟩ hf
                  · replace hf := ite_f h47 hf
                    refine lv_iconst (pc := 112) (v := 1) hx hb dM_about_112 (by decide) ?_
                    refine lv_goto (pc := 113) (tgt := 117) hx hb dM_about_113 rfl ?_
                    have hl := lv_sub hl (l' := [(5, .int s8), (4, .int s4), (3, .int y2), (0, .ref (ad 4 0)), (1, .int a1), (2, .int a2)]) [0, 1, 2, 3, 4, 5] rfl
                    exact hJx13 (1, H, _, ls) ⟨hP, hD, hS, hl⟩ hf
            · replace hf := ite_f h41 hf
              refine lv_iload_n (pc := 59) hx hb dM_about_59 rfl (lv_at hl 5 rfl) ?_
              refine lv_bipush (pc := 60) (v := 8) hx hb dM_about_60 (by decide) ?_
              refine lv_icmp_lt (pc := 62) (tgt := 81) hx hb dM_about_62 rfl (fun h48 => ?_) (fun h48 => ?_)
              · replace hf := ite_t h48 hf
                refine lv_iload (pc := 81) hx hb dM_about_81 (lv_at hl 0 rfl) ?_
                refine lv_if_eq (pc := 83) (tgt := 116) hx hb dM_about_83 rfl (fun h49 => ?_) (fun h49 => ?_)
                · replace hf := ite_t h49 hf
                  refine lv_iconst (pc := 116) (v := 0) hx hb dM_about_116 (by decide) ?_
                  have hl := lv_sub hl (l' := [(5, .int s8), (4, .int s4), (3, .int y2), (0, .ref (ad 4 0)), (1, .int a1), (2, .int a2)]) [0, 1, 2, 3, 4, 5] rfl
                  exact hJx13 (0, H, _, ls) ⟨hP, hD, hS, hl⟩ hf
                · replace hf := ite_f h49 hf
                  refine lv_iload_n (pc := 86) hx hb dM_about_86 rfl (lv_at hl 5 rfl) ?_
                  refine lv_sipush (pc := 87) (v := 200) hx hb dM_about_87 (by decide) ?_
                  refine lv_icmp_lt (pc := 90) (tgt := 116) hx hb dM_about_90 rfl (fun h50 => ?_) (fun h50 => ?_)
                  · replace hf := ite_t h50 hf
                    refine lv_iconst (pc := 116) (v := 0) hx hb dM_about_116 (by decide) ?_
                    have hl := lv_sub hl (l' := [(5, .int s8), (4, .int s4), (3, .int y2), (0, .ref (ad 4 0)), (1, .int a1), (2, .int a2)]) [0, 1, 2, 3, 4, 5] rfl
                    exact hJx13 (0, H, _, ls) ⟨hP, hD, hS, hl⟩ hf
                  · replace hf := ite_f h50 hf
                    refine lv_iload_n (pc := 93) hx hb dM_about_93 rfl (lv_at hl 5 rfl) ?_
                    refine lv_sipush (pc := 94) (v := 200) hx hb dM_about_94 (by decide) ?_
                    refine lv_isub (pc := 97) hx hb dM_about_97 ?_
                    refine lv_iconst (pc := 98) (v := 2) hx hb dM_about_98 (by decide) ?_
                    refine lv_aload_n (pc := 99) hx hb dM_about_99 rfl (lv_at hl 3 rfl) ?_
                    obtain ⟨q51, hq51, eq51⟩ := at_4 (ad := ad) (ca := ca) (σ := σ) hm0
                    refine va_get (D := (dC, dI)) (cl := kCl) (C := RM) (T := TM) (N := 11) (pc := 100) hx hb hts inM hown hK.1 hP q51 eq51 rfl 2 (by decide) (hts _ wd_51) (fun _ h9 => h9) rfl dM_about_100 ?_
                    refine lv_iload (pc := 103) hx hb dM_about_103 (lv_at hl 1 rfl) ?_
                    refine lv_iconst (pc := 105) (v := 3) hx hb dM_about_105 (by decide) ?_
                    refine lv_iadd (pc := 106) hx hb dM_about_106 ?_
                    obtain ⟨hv52, hf⟩ := ite_s hf
                    obtain ⟨q53, hq53, eq53⟩ := at_15 (ad := ad) (ca := ca) (σ := σ) (cm_4_2 hC hm0)
                    refine va_iald (D := (dC, dI)) (cl := kCl) (pc := 107) hx hb (hK.2 15 0 .int (cm_4_2 hC hm0) rfl) hP q53 0 eq53 rfl (hv52) dM_about_107 ?_
                    refine W.eq (g2 := F0 m 108 ls [.int (xI σ 15 0 ((s4 + 3)).toNatClampNeg), .int 2, .int (a2 - 200)]) rfl ?_
                    refine lv_imul (pc := 108) hx hb dM_about_108 ?_
                    refine lv_icmp_ge (pc := 109) (tgt := 116) hx hb dM_about_109 rfl (fun h54 => ?_) (fun h54 => ?_)
                    · replace hf := ite_t h54 hf
                      refine lv_iconst (pc := 116) (v := 0) hx hb dM_about_116 (by decide) ?_
                      have hl := lv_sub hl (l' := [(5, .int s8), (4, .int s4), (3, .int y2), (0, .ref (ad 4 0)), (1, .int a1), (2, .int a2)]) [0, 1, 2, 3, 4, 5] rfl
                      exact hJx13 (0, H, _, ls) ⟨hP, hD, hS, hl⟩ hf
                    · replace hf := ite_f h54 hf
                      refine lv_iconst (pc := 112) (v := 1) hx hb dM_about_112 (by decide) ?_
                      refine lv_goto (pc := 113) (tgt := 117) hx hb dM_about_113 rfl ?_
                      have hl := lv_sub hl (l' := [(5, .int s8), (4, .int s4), (3, .int y2), (0, .ref (ad 4 0)), (1, .int a1), (2, .int a2)]) [0, 1, 2, 3, 4, 5] rfl
                      exact hJx13 (1, H, _, ls) ⟨hP, hD, hS, hl⟩ hf
              · replace hf := ite_f h48 hf
                refine lv_iload_n (pc := 65) hx hb dM_about_65 rfl (lv_at hl 5 rfl) ?_
                refine lv_bipush (pc := 66) (v := 8) hx hb dM_about_66 (by decide) ?_
                refine lv_isub (pc := 68) hx hb dM_about_68 ?_
                refine lv_aload_n (pc := 69) hx hb dM_about_69 rfl (lv_at hl 3 rfl) ?_
                obtain ⟨q55, hq55, eq55⟩ := at_4 (ad := ad) (ca := ca) (σ := σ) hm0
                refine va_get (D := (dC, dI)) (cl := kCl) (C := RM) (T := TM) (N := 11) (pc := 70) hx hb hts inM hown hK.1 hP q55 eq55 rfl 2 (by decide) (hts _ wd_51) (fun _ h9 => h9) rfl dM_about_70 ?_
                refine lv_iload (pc := 73) hx hb dM_about_73 (lv_at hl 1 rfl) ?_
                refine lv_iconst (pc := 75) (v := 2) hx hb dM_about_75 (by decide) ?_
                refine lv_iadd (pc := 76) hx hb dM_about_76 ?_
                obtain ⟨hv56, hf⟩ := ite_s hf
                obtain ⟨q57, hq57, eq57⟩ := at_15 (ad := ad) (ca := ca) (σ := σ) (cm_4_2 hC hm0)
                refine va_iald (D := (dC, dI)) (cl := kCl) (pc := 77) hx hb (hK.2 15 0 .int (cm_4_2 hC hm0) rfl) hP q57 0 eq57 rfl (hv56) dM_about_77 ?_
                refine W.eq (g2 := F0 m 78 ls [.int (xI σ 15 0 ((s4 + 2)).toNatClampNeg), .int (a2 - 8)]) rfl ?_
                refine lv_icmp_lt (pc := 78) (tgt := 112) hx hb dM_about_78 rfl (fun h58 => ?_) (fun h58 => ?_)
                · replace hf := ite_t h58 hf
                  refine lv_iconst (pc := 112) (v := 1) hx hb dM_about_112 (by decide) ?_
                  refine lv_goto (pc := 113) (tgt := 117) hx hb dM_about_113 rfl ?_
                  have hl := lv_sub hl (l' := [(5, .int s8), (4, .int s4), (3, .int y2), (0, .ref (ad 4 0)), (1, .int a1), (2, .int a2)]) [0, 1, 2, 3, 4, 5] rfl
                  exact hJx13 (1, H, _, ls) ⟨hP, hD, hS, hl⟩ hf
                · replace hf := ite_f h58 hf
                  refine lv_iload (pc := 81) hx hb dM_about_81 (lv_at hl 0 rfl) ?_
                  refine lv_if_eq (pc := 83) (tgt := 116) hx hb dM_about_83 rfl (fun h59 => ?_) (fun h59 => ?_)
                  · replace hf := ite_t h59 hf
                    refine lv_iconst (pc := 116) (v := 0) hx hb dM_about_116 (by decide) ?_
                    have hl := lv_sub hl (l' := [(5, .int s8), (4, .int s4), (3, .int y2), (0, .ref (ad 4 0)), (1, .int a1), (2, .int a2)]) [0, 1, 2, 3, 4, 5] rfl
                    exact hJx13 (0, H, _, ls) ⟨hP, hD, hS, hl⟩ hf
                  · replace hf := ite_f h59 hf
                    refine lv_iload_n (pc := 86) hx hb dM_about_86 rfl (lv_at hl 5 rfl) ?_
                    refine lv_sipush (pc := 87) (v := 200) hx hb dM_about_87 (by decide) ?_
                    refine lv_icmp_lt (pc := 90) (tgt := 116) hx hb dM_about_90 rfl (fun h60 => ?_) (fun h60 => ?_)
                    · replace hf := ite_t h60 hf
                      refine lv_iconst (pc := 116) (v := 0) hx hb dM_about_116 (by decide) ?_
                      have hl := lv_sub hl (l' := [(5, .int s8), (4, .int s4), (3, .int y2), (0, .ref (ad 4 0)), (1, .int a1), (2, .int a2)]) [0, 1, 2, 3, 4, 5] rfl
                      exact hJx13 (0, H, _, ls) ⟨hP, hD, hS, hl⟩ hf
                    · replace hf := ite_f h60 hf
                      refine lv_iload_n (pc := 93) hx hb dM_about_93 rfl (lv_at hl 5 rfl) ?_
                      refine lv_sipush (pc := 94) (v := 200) hx hb dM_about_94 (by decide) ?_
                      refine lv_isub (pc := 97) hx hb dM_about_97 ?_
                      refine lv_iconst (pc := 98) (v := 2) hx hb dM_about_98 (by decide) ?_
                      refine lv_aload_n (pc := 99) hx hb dM_about_99 rfl (lv_at hl 3 rfl) ?_
                      obtain ⟨q61, hq61, eq61⟩ := at_4 (ad := ad) (ca := ca) (σ := σ) hm0
                      refine va_get (D := (dC, dI)) (cl := kCl) (C := RM) (T := TM) (N := 11) (pc := 100) hx hb hts inM hown hK.1 hP q61 eq61 rfl 2 (by decide) (hts _ wd_51) (fun _ h9 => h9) rfl dM_about_100 ?_
                      refine lv_iload (pc := 103) hx hb dM_about_103 (lv_at hl 1 rfl) ?_
                      refine lv_iconst (pc := 105) (v := 3) hx hb dM_about_105 (by decide) ?_
                      refine lv_iadd (pc := 106) hx hb dM_about_106 ?_
                      obtain ⟨hv62, hf⟩ := ite_s hf
                      obtain ⟨q63, hq63, eq63⟩ := at_15 (ad := ad) (ca := ca) (σ := σ) (cm_4_2 hC hm0)
                      refine va_iald (D := (dC, dI)) (cl := kCl) (pc := 107) hx hb (hK.2 15 0 .int (cm_4_2 hC hm0) rfl) hP q63 0 eq63 rfl (hv62) dM_about_107 ?_
                      refine W.eq (g2 := F0 m 108 ls [.int (xI σ 15 0 ((s4 + 3)).toNatClampNeg), .int 2, .int (a2 - 200)]) rfl ?_
                      refine lv_imul (pc := 108) hx hb dM_about_108 ?_
                      refine lv_icmp_ge (pc := 109) (tgt := 116) hx hb dM_about_109 rfl (fun h64 => ?_) (fun h64 => ?_)
                      · replace hf := ite_t h64 hf
                        refine lv_iconst (pc := 116) (v := 0) hx hb dM_about_116 (by decide) ?_
                        have hl := lv_sub hl (l' := [(5, .int s8), (4, .int s4), (3, .int y2), (0, .ref (ad 4 0)), (1, .int a1), (2, .int a2)]) [0, 1, 2, 3, 4, 5] rfl
                        exact hJx13 (0, H, _, ls) ⟨hP, hD, hS, hl⟩ hf
                      · replace hf := ite_f h64 hf
                        refine lv_iconst (pc := 112) (v := 1) hx hb dM_about_112 (by decide) ?_
                        refine lv_goto (pc := 113) (tgt := 117) hx hb dM_about_113 rfl ?_
                        have hl := lv_sub hl (l' := [(5, .int s8), (4, .int s4), (3, .int y2), (0, .ref (ad 4 0)), (1, .int a1), (2, .int a2)]) [0, 1, 2, 3, 4, 5] rfl
                        exact hJx13 (1, H, _, ls) ⟨hP, hD, hS, hl⟩ hf
          · replace hf := ite_f h40 hf
            refine lv_iload_n (pc := 49) hx hb dM_about_49 rfl (lv_at hl 5 rfl) ?_
            refine lv_iconst (pc := 50) (v := 5) hx hb dM_about_50 (by decide) ?_
            refine lv_icmp_lt (pc := 51) (tgt := 112) hx hb dM_about_51 rfl (fun h65 => ?_) (fun h65 => ?_)
            · replace hf := ite_t h65 hf
              refine lv_iconst (pc := 112) (v := 1) hx hb dM_about_112 (by decide) ?_
              refine lv_goto (pc := 113) (tgt := 117) hx hb dM_about_113 rfl ?_
              have hl := lv_sub hl (l' := [(5, .int s8), (4, .int s4), (3, .int y2), (0, .ref (ad 4 0)), (1, .int a1), (2, .int a2)]) [0, 1, 2, 3, 4, 5] rfl
              exact hJx13 (1, H, _, ls) ⟨hP, hD, hS, hl⟩ hf
            · replace hf := ite_f h65 hf
              refine lv_iload (pc := 54) hx hb dM_about_54 (lv_at hl 0 rfl) ?_
              refine lv_if_eq (pc := 56) (tgt := 81) hx hb dM_about_56 rfl (fun h66 => ?_) (fun h66 => ?_)
              · replace hf := ite_t h66 hf
                refine lv_iload (pc := 81) hx hb dM_about_81 (lv_at hl 0 rfl) ?_
                refine lv_if_eq (pc := 83) (tgt := 116) hx hb dM_about_83 rfl (fun h67 => ?_) (fun h67 => ?_)
                · replace hf := ite_t h67 hf
                  refine lv_iconst (pc := 116) (v := 0) hx hb dM_about_116 (by decide) ?_
                  have hl := lv_sub hl (l' := [(5, .int s8), (4, .int s4), (3, .int y2), (0, .ref (ad 4 0)), (1, .int a1), (2, .int a2)]) [0, 1, 2, 3, 4, 5] rfl
                  exact hJx13 (0, H, _, ls) ⟨hP, hD, hS, hl⟩ hf
                · replace hf := ite_f h67 hf
                  refine lv_iload_n (pc := 86) hx hb dM_about_86 rfl (lv_at hl 5 rfl) ?_
                  refine lv_sipush (pc := 87) (v := 200) hx hb dM_about_87 (by decide) ?_
                  refine lv_icmp_lt (pc := 90) (tgt := 116) hx hb dM_about_90 rfl (fun h68 => ?_) (fun h68 => ?_)
                  · replace hf := ite_t h68 hf
                    refine lv_iconst (pc := 116) (v := 0) hx hb dM_about_116 (by decide) ?_
                    have hl := lv_sub hl (l' := [(5, .int s8), (4, .int s4), (3, .int y2), (0, .ref (ad 4 0)), (1, .int a1), (2, .int a2)]) [0, 1, 2, 3, 4, 5] rfl
                    exact hJx13 (0, H, _, ls) ⟨hP, hD, hS, hl⟩ hf
                  · replace hf := ite_f h68 hf
                    refine lv_iload_n (pc := 93) hx hb dM_about_93 rfl (lv_at hl 5 rfl) ?_
                    refine lv_sipush (pc := 94) (v := 200) hx hb dM_about_94 (by decide) ?_
                    refine lv_isub (pc := 97) hx hb dM_about_97 ?_
                    refine lv_iconst (pc := 98) (v := 2) hx hb dM_about_98 (by decide) ?_
                    refine lv_aload_n (pc := 99) hx hb dM_about_99 rfl (lv_at hl 3 rfl) ?_
                    obtain ⟨q69, hq69, eq69⟩ := at_4 (ad := ad) (ca := ca) (σ := σ) hm0
                    refine va_get (D := (dC, dI)) (cl := kCl) (C := RM) (T := TM) (N := 11) (pc := 100) hx hb hts inM hown hK.1 hP q69 eq69 rfl 2 (by decide) (hts _ wd_51) (fun _ h9 => h9) rfl dM_about_100 ?_
                    refine lv_iload (pc := 103) hx hb dM_about_103 (lv_at hl 1 rfl) ?_
                    refine lv_iconst (pc := 105) (v := 3) hx hb dM_about_105 (by decide) ?_
                    refine lv_iadd (pc := 106) hx hb dM_about_106 ?_
                    obtain ⟨hv70, hf⟩ := ite_s hf
                    obtain ⟨q71, hq71, eq71⟩ := at_15 (ad := ad) (ca := ca) (σ := σ) (cm_4_2 hC hm0)
                    refine va_iald (D := (dC, dI)) (cl := kCl) (pc := 107) hx hb (hK.2 15 0 .int (cm_4_2 hC hm0) rfl) hP q71 0 eq71 rfl (hv70) dM_about_107 ?_
                    refine W.eq (g2 := F0 m 108 ls [.int (xI σ 15 0 ((s4 + 3)).toNatClampNeg), .int 2, .int (a2 - 200)]) rfl ?_
                    refine lv_imul (pc := 108) hx hb dM_about_108 ?_
                    refine lv_icmp_ge (pc := 109) (tgt := 116) hx hb dM_about_109 rfl (fun h72 => ?_) (fun h72 => ?_)
                    · replace hf := ite_t h72 hf
                      refine lv_iconst (pc := 116) (v := 0) hx hb dM_about_116 (by decide) ?_
                      have hl := lv_sub hl (l' := [(5, .int s8), (4, .int s4), (3, .int y2), (0, .ref (ad 4 0)), (1, .int a1), (2, .int a2)]) [0, 1, 2, 3, 4, 5] rfl
                      exact hJx13 (0, H, _, ls) ⟨hP, hD, hS, hl⟩ hf
                    · replace hf := ite_f h72 hf
                      refine lv_iconst (pc := 112) (v := 1) hx hb dM_about_112 (by decide) ?_
                      refine lv_goto (pc := 113) (tgt := 117) hx hb dM_about_113 rfl ?_
                      have hl := lv_sub hl (l' := [(5, .int s8), (4, .int s4), (3, .int y2), (0, .ref (ad 4 0)), (1, .int a1), (2, .int a2)]) [0, 1, 2, 3, 4, 5] rfl
                      exact hJx13 (1, H, _, ls) ⟨hP, hD, hS, hl⟩ hf
              · replace hf := ite_f h66 hf
                refine lv_iload_n (pc := 59) hx hb dM_about_59 rfl (lv_at hl 5 rfl) ?_
                refine lv_bipush (pc := 60) (v := 8) hx hb dM_about_60 (by decide) ?_
                refine lv_icmp_lt (pc := 62) (tgt := 81) hx hb dM_about_62 rfl (fun h73 => ?_) (fun h73 => ?_)
                · replace hf := ite_t h73 hf
                  refine lv_iload (pc := 81) hx hb dM_about_81 (lv_at hl 0 rfl) ?_
                  refine lv_if_eq (pc := 83) (tgt := 116) hx hb dM_about_83 rfl (fun h74 => ?_) (fun h74 => ?_)
                  · replace hf := ite_t h74 hf
                    refine lv_iconst (pc := 116) (v := 0) hx hb dM_about_116 (by decide) ?_
                    have hl := lv_sub hl (l' := [(5, .int s8), (4, .int s4), (3, .int y2), (0, .ref (ad 4 0)), (1, .int a1), (2, .int a2)]) [0, 1, 2, 3, 4, 5] rfl
                    exact hJx13 (0, H, _, ls) ⟨hP, hD, hS, hl⟩ hf
                  · replace hf := ite_f h74 hf
                    refine lv_iload_n (pc := 86) hx hb dM_about_86 rfl (lv_at hl 5 rfl) ?_
                    refine lv_sipush (pc := 87) (v := 200) hx hb dM_about_87 (by decide) ?_
                    refine lv_icmp_lt (pc := 90) (tgt := 116) hx hb dM_about_90 rfl (fun h75 => ?_) (fun h75 => ?_)
                    · replace hf := ite_t h75 hf
                      refine lv_iconst (pc := 116) (v := 0) hx hb dM_about_116 (by decide) ?_
                      have hl := lv_sub hl (l' := [(5, .int s8), (4, .int s4), (3, .int y2), (0, .ref (ad 4 0)), (1, .int a1), (2, .int a2)]) [0, 1, 2, 3, 4, 5] rfl
                      exact hJx13 (0, H, _, ls) ⟨hP, hD, hS, hl⟩ hf
                    · replace hf := ite_f h75 hf
                      refine lv_iload_n (pc := 93) hx hb dM_about_93 rfl (lv_at hl 5 rfl) ?_
                      refine lv_sipush (pc := 94) (v := 200) hx hb dM_about_94 (by decide) ?_
                      refine lv_isub (pc := 97) hx hb dM_about_97 ?_
                      refine lv_iconst (pc := 98) (v := 2) hx hb dM_about_98 (by decide) ?_
                      refine lv_aload_n (pc := 99) hx hb dM_about_99 rfl (lv_at hl 3 rfl) ?_
                      obtain ⟨q76, hq76, eq76⟩ := at_4 (ad := ad) (ca := ca) (σ := σ) hm0
                      refine va_get (D := (dC, dI)) (cl := kCl) (C := RM) (T := TM) (N := 11) (pc := 100) hx hb hts inM hown hK.1 hP q76 eq76 rfl 2 (by decide) (hts _ wd_51) (fun _ h9 => h9) rfl dM_about_100 ?_
                      refine lv_iload (pc := 103) hx hb dM_about_103 (lv_at hl 1 rfl) ?_
                      refine lv_iconst (pc := 105) (v := 3) hx hb dM_about_105 (by decide) ?_
                      refine lv_iadd (pc := 106) hx hb dM_about_106 ?_
                      obtain ⟨hv77, hf⟩ := ite_s hf
                      obtain ⟨q78, hq78, eq78⟩ := at_15 (ad := ad) (ca := ca) (σ := σ) (cm_4_2 hC hm0)
                      refine va_iald (D := (dC, dI)) (cl := kCl) (pc := 107) hx hb (hK.2 15 0 .int (cm_4_2 hC hm0) rfl) hP q78 0 eq78 rfl (hv77) dM_about_107 ?_
                      refine W.eq (g2 := F0 m 108 ls [.int (xI σ 15 0 ((s4 + 3)).toNatClampNeg), .int 2, .int (a2 - 200)]) rfl ?_
                      refine lv_imul (pc := 108) hx hb dM_about_108 ?_
                      refine lv_icmp_ge (pc := 109) (tgt := 116) hx hb dM_about_109 rfl (fun h79 => ?_) (fun h79 => ?_)
                      · replace hf := ite_t h79 hf
                        refine lv_iconst (pc := 116) (v := 0) hx hb dM_about_116 (by decide) ?_
                        have hl := lv_sub hl (l' := [(5, .int s8), (4, .int s4), (3, .int y2), (0, .ref (ad 4 0)), (1, .int a1), (2, .int a2)]) [0, 1, 2, 3, 4, 5] rfl
                        exact hJx13 (0, H, _, ls) ⟨hP, hD, hS, hl⟩ hf
                      · replace hf := ite_f h79 hf
                        refine lv_iconst (pc := 112) (v := 1) hx hb dM_about_112 (by decide) ?_
                        refine lv_goto (pc := 113) (tgt := 117) hx hb dM_about_113 rfl ?_
                        have hl := lv_sub hl (l' := [(5, .int s8), (4, .int s4), (3, .int y2), (0, .ref (ad 4 0)), (1, .int a1), (2, .int a2)]) [0, 1, 2, 3, 4, 5] rfl
                        exact hJx13 (1, H, _, ls) ⟨hP, hD, hS, hl⟩ hf
                · replace hf := ite_f h73 hf
                  refine lv_iload_n (pc := 65) hx hb dM_about_65 rfl (lv_at hl 5 rfl) ?_
                  refine lv_bipush (pc := 66) (v := 8) hx hb dM_about_66 (by decide) ?_
                  refine lv_isub (pc := 68) hx hb dM_about_68 ?_
                  refine lv_aload_n (pc := 69) hx hb dM_about_69 rfl (lv_at hl 3 rfl) ?_
                  obtain ⟨q80, hq80, eq80⟩ := at_4 (ad := ad) (ca := ca) (σ := σ) hm0
                  refine va_get (D := (dC, dI)) (cl := kCl) (C := RM) (T := TM) (N := 11) (pc := 70) hx hb hts inM hown hK.1 hP q80 eq80 rfl 2 (by decide) (hts _ wd_51) (fun _ h9 => h9) rfl dM_about_70 ?_
                  refine lv_iload (pc := 73) hx hb dM_about_73 (lv_at hl 1 rfl) ?_
                  refine lv_iconst (pc := 75) (v := 2) hx hb dM_about_75 (by decide) ?_
                  refine lv_iadd (pc := 76) hx hb dM_about_76 ?_
                  obtain ⟨hv81, hf⟩ := ite_s hf
                  obtain ⟨q82, hq82, eq82⟩ := at_15 (ad := ad) (ca := ca) (σ := σ) (cm_4_2 hC hm0)
                  refine va_iald (D := (dC, dI)) (cl := kCl) (pc := 77) hx hb (hK.2 15 0 .int (cm_4_2 hC hm0) rfl) hP q82 0 eq82 rfl (hv81) dM_about_77 ?_
                  refine W.eq (g2 := F0 m 78 ls [.int (xI σ 15 0 ((s4 + 2)).toNatClampNeg), .int (a2 - 8)]) rfl ?_
                  refine lv_icmp_lt (pc := 78) (tgt := 112) hx hb dM_about_78 rfl (fun h83 => ?_) (fun h83 => ?_)
                  · replace hf := ite_t h83 hf
                    refine lv_iconst (pc := 112) (v := 1) hx hb dM_about_112 (by decide) ?_
                    refine lv_goto (pc := 113) (tgt := 117) hx hb dM_about_113 rfl ?_
                    have hl := lv_sub hl (l' := [(5, .int s8), (4, .int s4), (3, .int y2), (0, .ref (ad 4 0)), (1, .int a1), (2, .int a2)]) [0, 1, 2, 3, 4, 5] rfl
                    exact hJx13 (1, H, _, ls) ⟨hP, hD, hS, hl⟩ hf
                  · replace hf := ite_f h83 hf
                    refine lv_iload (pc := 81) hx hb dM_about_81 (lv_at hl 0 rfl) ?_
                    refine lv_if_eq (pc := 83) (tgt := 116) hx hb dM_about_83 rfl (fun h84 => ?_) (fun h84 => ?_)
                    · replace hf := ite_t h84 hf
                      refine lv_iconst (pc := 116) (v := 0) hx hb dM_about_116 (by decide) ?_
                      have hl := lv_sub hl (l' := [(5, .int s8), (4, .int s4), (3, .int y2), (0, .ref (ad 4 0)), (1, .int a1), (2, .int a2)]) [0, 1, 2, 3, 4, 5] rfl
                      exact hJx13 (0, H, _, ls) ⟨hP, hD, hS, hl⟩ hf
                    · replace hf := ite_f h84 hf
                      refine lv_iload_n (pc := 86) hx hb dM_about_86 rfl (lv_at hl 5 rfl) ?_
                      refine lv_sipush (pc := 87) (v := 200) hx hb dM_about_87 (by decide) ?_
                      refine lv_icmp_lt (pc := 90) (tgt := 116) hx hb dM_about_90 rfl (fun h85 => ?_) (fun h85 => ?_)
                      · replace hf := ite_t h85 hf
                        refine lv_iconst (pc := 116) (v := 0) hx hb dM_about_116 (by decide) ?_
                        have hl := lv_sub hl (l' := [(5, .int s8), (4, .int s4), (3, .int y2), (0, .ref (ad 4 0)), (1, .int a1), (2, .int a2)]) [0, 1, 2, 3, 4, 5] rfl
                        exact hJx13 (0, H, _, ls) ⟨hP, hD, hS, hl⟩ hf
                      · replace hf := ite_f h85 hf
                        refine lv_iload_n (pc := 93) hx hb dM_about_93 rfl (lv_at hl 5 rfl) ?_
                        refine lv_sipush (pc := 94) (v := 200) hx hb dM_about_94 (by decide) ?_
                        refine lv_isub (pc := 97) hx hb dM_about_97 ?_
                        refine lv_iconst (pc := 98) (v := 2) hx hb dM_about_98 (by decide) ?_
                        refine lv_aload_n (pc := 99) hx hb dM_about_99 rfl (lv_at hl 3 rfl) ?_
                        obtain ⟨q86, hq86, eq86⟩ := at_4 (ad := ad) (ca := ca) (σ := σ) hm0
                        refine va_get (D := (dC, dI)) (cl := kCl) (C := RM) (T := TM) (N := 11) (pc := 100) hx hb hts inM hown hK.1 hP q86 eq86 rfl 2 (by decide) (hts _ wd_51) (fun _ h9 => h9) rfl dM_about_100 ?_
                        refine lv_iload (pc := 103) hx hb dM_about_103 (lv_at hl 1 rfl) ?_
                        refine lv_iconst (pc := 105) (v := 3) hx hb dM_about_105 (by decide) ?_
                        refine lv_iadd (pc := 106) hx hb dM_about_106 ?_
                        obtain ⟨hv87, hf⟩ := ite_s hf
                        obtain ⟨q88, hq88, eq88⟩ := at_15 (ad := ad) (ca := ca) (σ := σ) (cm_4_2 hC hm0)
                        refine va_iald (D := (dC, dI)) (cl := kCl) (pc := 107) hx hb (hK.2 15 0 .int (cm_4_2 hC hm0) rfl) hP q88 0 eq88 rfl (hv87) dM_about_107 ?_
                        refine W.eq (g2 := F0 m 108 ls [.int (xI σ 15 0 ((s4 + 3)).toNatClampNeg), .int 2, .int (a2 - 200)]) rfl ?_
                        refine lv_imul (pc := 108) hx hb dM_about_108 ?_
                        refine lv_icmp_ge (pc := 109) (tgt := 116) hx hb dM_about_109 rfl (fun h89 => ?_) (fun h89 => ?_)
                        · replace hf := ite_t h89 hf
                          refine lv_iconst (pc := 116) (v := 0) hx hb dM_about_116 (by decide) ?_
                          have hl := lv_sub hl (l' := [(5, .int s8), (4, .int s4), (3, .int y2), (0, .ref (ad 4 0)), (1, .int a1), (2, .int a2)]) [0, 1, 2, 3, 4, 5] rfl
                          exact hJx13 (0, H, _, ls) ⟨hP, hD, hS, hl⟩ hf
                        · replace hf := ite_f h89 hf
                          refine lv_iconst (pc := 112) (v := 1) hx hb dM_about_112 (by decide) ?_
                          refine lv_goto (pc := 113) (tgt := 117) hx hb dM_about_113 rfl ?_
                          have hl := lv_sub hl (l' := [(5, .int s8), (4, .int s4), (3, .int y2), (0, .ref (ad 4 0)), (1, .int a1), (2, .int a2)]) [0, 1, 2, 3, 4, 5] rfl
                          exact hJx13 (1, H, _, ls) ⟨hP, hD, hS, hl⟩ hf
      · rintro ⟨s14, H, locs, ls⟩ ⟨hP, hD, hS, hl⟩ hf
        dsimp only at hP hD hS hl hf ⊢
        rw [hx13] at hf
        have hl : lv_has ls 7 [(5, .int s8), (4, .int s4), (3, .int y2), (0, .ref (ad 4 0)), (1, .int a1), (2, .int a2)] := hl
        refine lv_istore (pc := 117) hx hb dM_about_117 hl (by decide) rfl (fun ls hl => ?_)
        have hl : lv_has ls 7 [(6, .int s14), (5, .int s8), (4, .int s4), (3, .int y2), (0, .ref (ad 4 0)), (1, .int a1), (2, .int a2)] := hl
        refine lv_aload_n (pc := 119) hx hb dM_about_119 rfl (lv_at hl 4 rfl) ?_
        refine lv_iload (pc := 120) hx hb dM_about_120 (lv_at hl 0 rfl) ?_
        obtain ⟨x90, hx90, hf⟩ := lt_9 hf
        refine jnF (τ := (Int32) × (Heap) × (List Loc) × (Array Slot)) (fun pc st z => W p l e _ s m _ below meth c z.2.1 z.2.2.1 0 0 _ (F0 m pc z.2.2.2 st)) (pc0 := 122) (st0 := [.int s14, .ref (ad 4 0)]) (z0 := (0, H, _, ls)) 130 (fun z => [.int z.1, .ref (ad 4 0)]) (fun z => va_P (dC, dI) kCl (w9 ad ca dom (σ)) z.2.1 ∧ va_D A (w9 ad ca dom (σ)) ∧ va_S A s.heap z.2.1 z.2.2.1 ∧ lv_has z.2.2.2 7 [(6, .int s14), (5, .int s8), (4, .int s4), (3, .int y2), (0, .ref (ad 4 0)), (1, .int a1), (2, .int a2)]) (fun z => x90 z.1) (ρ, σ') ?_ ?_
        · intro hJx90
          dsimp only at hJx90 ⊢
          refine lv_if_eq (pc := 122) (tgt := 129) hx hb dM_about_122 rfl (fun h92 => ?_) (fun h92 => ?_)
          · replace hf := ite_t h92 hf
            refine lv_iconst (pc := 129) (v := 1) hx hb dM_about_129 (by decide) ?_
            have hl := lv_sub hl (l' := [(6, .int s14), (5, .int s8), (4, .int s4), (3, .int y2), (0, .ref (ad 4 0)), (1, .int a1), (2, .int a2)]) [0, 1, 2, 3, 4, 5, 6] rfl
            exact hJx90 (1, H, _, ls) ⟨hP, hD, hS, hl⟩ hf
          · replace hf := ite_f h92 hf
            refine lv_iconst (pc := 125) (v := 0) hx hb dM_about_125 (by decide) ?_
            refine lv_goto (pc := 126) (tgt := 130) hx hb dM_about_126 rfl ?_
            have hl := lv_sub hl (l' := [(6, .int s14), (5, .int s8), (4, .int s4), (3, .int y2), (0, .ref (ad 4 0)), (1, .int a1), (2, .int a2)]) [0, 1, 2, 3, 4, 5, 6] rfl
            exact hJx90 (0, H, _, ls) ⟨hP, hD, hS, hl⟩ hf
        · rintro ⟨s91, H, locs, ls⟩ ⟨hP, hD, hS, hl⟩ hf
          dsimp only at hP hD hS hl hf ⊢
          rw [hx90] at hf
          have hl : lv_has ls 7 [(6, .int s14), (5, .int s8), (4, .int s4), (3, .int y2), (0, .ref (ad 4 0)), (1, .int a1), (2, .int a2)] := hl
          obtain ⟨q94, hq94, eq94⟩ := at_4 (ad := ad) (ca := ca) (σ := σ) hm0
          refine va_put (D := (dC, dI)) (cl := kCl) (ci := 4) (v := .int s91) (ty := .int) (C := RM) (T := TM) (N := 11) (pc := 130) hx hb hts inM tyM tyM_ok nmM hown hK.1 hP hD hS q94 eq94 rfl 0 (by decide) (hts _ wd_45) (fun _ h9 => h9) rfl (by decide +kernel) (rfl) (rfl) (Nat.le_of_ble_eq_true rfl) dM_about_130 (fun H locs hP hD hS => ?_)
          obtain ⟨σ93, hσ93, hf⟩ := lt_9 hf
          obtain ⟨hP, hD⟩ := w9_rI 500 rfl hN hq94 hσ93 (pu_500) hP hD
          have hC : clo dom σ93.2.2 := by rw [hσ93]; exact hC
          refine lv_iload (pc := 133) hx hb dM_about_133 (lv_at hl 0 rfl) ?_
          refine lv_if_ne (pc := 135) (tgt := 140) hx hb dM_about_135 rfl (fun h95 => ?_) (fun h95 => ?_)
          · replace hf := ite_f h95 hf
            refine lv_iload_n (pc := 140) hx hb dM_about_140 rfl (lv_at hl 6 rfl) ?_
            by_cases hw96 : a2 = 0
            · replace hf := ite_t hw96 hf
              refine lv_tableIn (pc := 141) (tgt := 176) (off := 35) hx hb dM_about_141 (by rw [hw96]; decide) (by rw [hw96]; decide) (by rw [hw96]; decide) rfl ?_
              refine lv_aload_n (pc := 176) hx hb dM_about_176 rfl (lv_at hl 4 rfl) ?_
              refine lv_iload_n (pc := 177) hx hb dM_about_177 rfl (lv_at hl 5 rfl) ?_
              obtain ⟨q97, hq97, eq97⟩ := at_4 (ad := ad) (ca := ca) (σ := σ93) hm0
              obtain ⟨y98, hy98, hf⟩ := ob hf
              refine vp_callSi (pc := 178) (W.runV (As := [.int a1]) (rest := []) ⟨hx, hb, hml, hown, hts⟩ (t_M_made l dC dI ad ca dom σ93 a1 hm0 hN hC y98 hy98) (cwV 1 hts (gV wd_61 wd_62 wd_63 wd_50 wd_60) rfl rfl rfl (by decide +kernel) ⟨Nat.le_of_ble_eq_true rfl, Nat.le_of_ble_eq_true rfl⟩) ⟨hR_blind, va_recv (q := (RM, TM, 11)) (q0 := q97) (ci := 4) hK.1 hP rfl eq97, hR_pre hP hK hG⟩ rfl rfl hl.1 rfl (lv_room (Nat.le_of_ble_eq_true rfl)) dM_about_178 ⟨Nat.le_of_ble_eq_true rfl, Nat.le_of_ble_eq_true rfl⟩) (fun r9 hr9 => ?_)
              refine W.eq (g2 := F0 m 181 ls [.int y98]) (by rw [hr9]) ?_
              refine lv_iconst (pc := 181) (v := 1) hx hb dM_about_181 (by decide) ?_
              refine lv_isub (pc := 182) hx hb dM_about_182 ?_
              obtain ⟨h8, h9⟩ := Prod.mk.inj (Option.some.inj hf)
              subst h9
              exact W.iret (pc := 183) hx hb hr (fun t ht hW => ⟨⟨_, (), rfl, h8, by rw [ht]; exact hP, hD, hC⟩, hS.F ht⟩) hS.2.2 dM_about_183
            replace hf := ite_f hw96 hf
            by_cases hw99 : a2 = 1
            · replace hf := ite_t hw99 hf
              refine lv_tableIn (pc := 141) (tgt := 184) (off := 43) hx hb dM_about_141 (by rw [hw99]; decide) (by rw [hw99]; decide) (by rw [hw99]; decide) rfl ?_
              refine lv_aload_n (pc := 184) hx hb dM_about_184 rfl (lv_at hl 4 rfl) ?_
              refine lv_iload_n (pc := 185) hx hb dM_about_185 rfl (lv_at hl 5 rfl) ?_
              obtain ⟨q100, hq100, eq100⟩ := at_4 (ad := ad) (ca := ca) (σ := σ93) hm0
              obtain ⟨y101, hy101, hf⟩ := ob hf
              refine vp_callSi (pc := 186) (W.runV (As := [.int a1]) (rest := []) ⟨hx, hb, hml, hown, hts⟩ (t_M_released l dC dI ad ca dom n σ93 a1 hm0 hN hC y101 hy101) (cwV 1 hts (gV wd_81 wd_82 wd_83 wd_50 wd_80) rfl rfl rfl (by decide +kernel) ⟨Nat.le_of_ble_eq_true rfl, Nat.le_of_ble_eq_true rfl⟩) ⟨hR_blind, va_recv (q := (RM, TM, 11)) (q0 := q100) (ci := 4) hK.1 hP rfl eq100, hR_pre hP hK hG⟩ rfl rfl hl.1 rfl (lv_room (Nat.le_of_ble_eq_true rfl)) dM_about_186 ⟨Nat.le_of_ble_eq_true rfl, Nat.le_of_ble_eq_true rfl⟩) (fun r9 hr9 => ?_)
              refine W.eq (g2 := F0 m 189 ls [.int y101]) (by rw [hr9]) ?_
              obtain ⟨h8, h9⟩ := Prod.mk.inj (Option.some.inj hf)
              subst h9
              exact W.iret (pc := 189) hx hb hr (fun t ht hW => ⟨⟨_, (), rfl, h8, by rw [ht]; exact hP, hD, hC⟩, hS.F ht⟩) hS.2.2 dM_about_189
            replace hf := ite_f hw99 hf
            by_cases hw102 : a2 = 2
            · replace hf := ite_t hw102 hf
              refine lv_tableIn (pc := 141) (tgt := 190) (off := 49) hx hb dM_about_141 (by rw [hw102]; decide) (by rw [hw102]; decide) (by rw [hw102]; decide) rfl ?_
              refine lv_aload_n (pc := 190) hx hb dM_about_190 rfl (lv_at hl 4 rfl) ?_
              refine lv_iload_n (pc := 191) hx hb dM_about_191 rfl (lv_at hl 5 rfl) ?_
              obtain ⟨q103, hq103, eq103⟩ := at_4 (ad := ad) (ca := ca) (σ := σ93) hm0
              obtain ⟨y104, hy104, hf⟩ := ob hf
              refine vp_callSi (pc := 192) (W.runV (As := [.int a1]) (rest := []) ⟨hx, hb, hml, hown, hts⟩ (t_M_with l dC dI ad ca dom σ93 a1 hm0 hN hC y104 hy104) (cwV 1 hts (gV wd_101 wd_102 wd_103 wd_50 wd_100) rfl rfl rfl (by decide +kernel) ⟨Nat.le_of_ble_eq_true rfl, Nat.le_of_ble_eq_true rfl⟩) ⟨hR_blind, va_recv (q := (RM, TM, 11)) (q0 := q103) (ci := 4) hK.1 hP rfl eq103, hR_pre hP hK hG⟩ rfl rfl hl.1 rfl (lv_room (Nat.le_of_ble_eq_true rfl)) dM_about_192 ⟨Nat.le_of_ble_eq_true rfl, Nat.le_of_ble_eq_true rfl⟩) (fun r9 hr9 => ?_)
              refine W.eq (g2 := F0 m 195 ls [.int y104]) (by rw [hr9]) ?_
              obtain ⟨h8, h9⟩ := Prod.mk.inj (Option.some.inj hf)
              subst h9
              exact W.iret (pc := 195) hx hb hr (fun t ht hW => ⟨⟨_, (), rfl, h8, by rw [ht]; exact hP, hD, hC⟩, hS.F ht⟩) hS.2.2 dM_about_195
            replace hf := ite_f hw102 hf
            by_cases hw105 : a2 = 3
            · replace hf := ite_t hw105 hf
              refine lv_tableIn (pc := 141) (tgt := 196) (off := 55) hx hb dM_about_141 (by rw [hw105]; decide) (by rw [hw105]; decide) (by rw [hw105]; decide) rfl ?_
              refine lv_iload (pc := 196) hx hb dM_about_196 (lv_at hl 1 rfl) ?_
              refine lv_if_eq (pc := 198) (tgt := 213) hx hb dM_about_198 rfl (fun h106 => ?_) (fun h106 => ?_)
              · replace hf := ite_t h106 hf
                refine lv_iconst (pc := 213) (v := 0) hx hb dM_about_213 (by decide) ?_
                obtain ⟨h8, h9⟩ := Prod.mk.inj (Option.some.inj hf)
                subst h9
                exact W.iret (pc := 214) hx hb hr (fun t ht hW => ⟨⟨_, (), rfl, h8, by rw [ht]; exact hP, hD, hC⟩, hS.F ht⟩) hS.2.2 dM_about_214
              · replace hf := ite_f h106 hf
                refine lv_aload_n (pc := 201) hx hb dM_about_201 rfl (lv_at hl 4 rfl) ?_
                obtain ⟨q107, hq107, eq107⟩ := at_4 (ad := ad) (ca := ca) (σ := σ93) hm0
                refine va_get (D := (dC, dI)) (cl := kCl) (C := RM) (T := TM) (N := 11) (pc := 202) hx hb hts inM hown hK.1 hP q107 eq107 rfl 2 (by decide) (hts _ wd_51) (fun _ h9 => h9) rfl dM_about_202 ?_
                refine lv_iload (pc := 205) hx hb dM_about_205 (lv_at hl 2 rfl) ?_
                refine lv_iconst (pc := 207) (v := 2) hx hb dM_about_207 (by decide) ?_
                refine lv_iadd (pc := 208) hx hb dM_about_208 ?_
                obtain ⟨hv108, hf⟩ := ite_s hf
                obtain ⟨q109, hq109, eq109⟩ := at_15 (ad := ad) (ca := ca) (σ := σ93) (cm_4_2 hC hm0)
                refine va_iald (D := (dC, dI)) (cl := kCl) (pc := 209) hx hb (hK.2 15 0 .int (cm_4_2 hC hm0) rfl) hP q109 0 eq109 rfl (hv108) dM_about_209 ?_
                refine W.eq (g2 := F0 m 210 ls [.int (xI σ93 15 0 ((s4 + 2)).toNatClampNeg)]) rfl ?_
                refine lv_goto (pc := 210) (tgt := 214) hx hb dM_about_210 rfl ?_
                obtain ⟨h8, h9⟩ := Prod.mk.inj (Option.some.inj hf)
                subst h9
                exact W.iret (pc := 214) hx hb hr (fun t ht hW => ⟨⟨_, (), rfl, h8, by rw [ht]; exact hP, hD, hC⟩, hS.F ht⟩) hS.2.2 dM_about_214
            replace hf := ite_f hw105 hf
            by_cases hw110 : a2 = 4
            · replace hf := ite_t hw110 hf
              refine lv_tableIn (pc := 141) (tgt := 215) (off := 74) hx hb dM_about_141 (by rw [hw110]; decide) (by rw [hw110]; decide) (by rw [hw110]; decide) rfl ?_
              refine lv_iload (pc := 215) hx hb dM_about_215 (lv_at hl 1 rfl) ?_
              refine lv_if_eq (pc := 217) (tgt := 232) hx hb dM_about_217 rfl (fun h111 => ?_) (fun h111 => ?_)
              · replace hf := ite_t h111 hf
                refine lv_iconst (pc := 232) (v := 0) hx hb dM_about_232 (by decide) ?_
                obtain ⟨h8, h9⟩ := Prod.mk.inj (Option.some.inj hf)
                subst h9
                exact W.iret (pc := 233) hx hb hr (fun t ht hW => ⟨⟨_, (), rfl, h8, by rw [ht]; exact hP, hD, hC⟩, hS.F ht⟩) hS.2.2 dM_about_233
              · replace hf := ite_f h111 hf
                refine lv_aload_n (pc := 220) hx hb dM_about_220 rfl (lv_at hl 4 rfl) ?_
                obtain ⟨q112, hq112, eq112⟩ := at_4 (ad := ad) (ca := ca) (σ := σ93) hm0
                refine va_get (D := (dC, dI)) (cl := kCl) (C := RM) (T := TM) (N := 11) (pc := 221) hx hb hts inM hown hK.1 hP q112 eq112 rfl 2 (by decide) (hts _ wd_51) (fun _ h9 => h9) rfl dM_about_221 ?_
                refine lv_iload (pc := 224) hx hb dM_about_224 (lv_at hl 2 rfl) ?_
                refine lv_iconst (pc := 226) (v := 3) hx hb dM_about_226 (by decide) ?_
                refine lv_iadd (pc := 227) hx hb dM_about_227 ?_
                obtain ⟨hv113, hf⟩ := ite_s hf
                obtain ⟨q114, hq114, eq114⟩ := at_15 (ad := ad) (ca := ca) (σ := σ93) (cm_4_2 hC hm0)
                refine va_iald (D := (dC, dI)) (cl := kCl) (pc := 228) hx hb (hK.2 15 0 .int (cm_4_2 hC hm0) rfl) hP q114 0 eq114 rfl (hv113) dM_about_228 ?_
                refine W.eq (g2 := F0 m 229 ls [.int (xI σ93 15 0 ((s4 + 3)).toNatClampNeg)]) rfl ?_
                refine lv_goto (pc := 229) (tgt := 233) hx hb dM_about_229 rfl ?_
                obtain ⟨h8, h9⟩ := Prod.mk.inj (Option.some.inj hf)
                subst h9
                exact W.iret (pc := 233) hx hb hr (fun t ht hW => ⟨⟨_, (), rfl, h8, by rw [ht]; exact hP, hD, hC⟩, hS.F ht⟩) hS.2.2 dM_about_233
            replace hf := ite_f hw110 hf
            refine lv_tableOut (pc := 141) (tgt := 234) hx hb dM_about_141 (by have := lv_neT hw96 (a := 0) (by decide); have := lv_neT hw99 (a := 1) (by decide); have := lv_neT hw102 (a := 2) (by decide); have := lv_neT hw105 (a := 3) (by decide); have := lv_neT hw110 (a := 4) (by decide); omega) rfl ?_
            refine lv_iload_n (pc := 234) hx hb dM_about_234 rfl (lv_at hl 6 rfl) ?_
            refine lv_sipush (pc := 235) (v := 200) hx hb dM_about_235 (by decide) ?_
            refine lv_icmp_ge (pc := 238) (tgt := 259) hx hb dM_about_238 rfl (fun h115 => ?_) (fun h115 => ?_)
            · replace hf := ite_t h115 hf
              refine lv_aload_n (pc := 259) hx hb dM_about_259 rfl (lv_at hl 4 rfl) ?_
              obtain ⟨q116, hq116, eq116⟩ := at_4 (ad := ad) (ca := ca) (σ := σ93) hm0
              refine va_get (D := (dC, dI)) (cl := kCl) (C := RM) (T := TM) (N := 11) (pc := 260) hx hb hts inM hown hK.1 hP q116 eq116 rfl 2 (by decide) (hts _ wd_51) (fun _ h9 => h9) rfl dM_about_260 ?_
              refine lv_iload (pc := 263) hx hb dM_about_263 (lv_at hl 2 rfl) ?_
              refine lv_iconst (pc := 265) (v := 4) hx hb dM_about_265 (by decide) ?_
              refine lv_iadd (pc := 266) hx hb dM_about_266 ?_
              refine lv_iload_n (pc := 267) hx hb dM_about_267 rfl (lv_at hl 6 rfl) ?_
              refine lv_iadd (pc := 268) hx hb dM_about_268 ?_
              refine lv_sipush (pc := 269) (v := 200) hx hb dM_about_269 (by decide) ?_
              refine lv_isub (pc := 272) hx hb dM_about_272 ?_
              obtain ⟨hv117, hf⟩ := ite_s hf
              obtain ⟨q118, hq118, eq118⟩ := at_15 (ad := ad) (ca := ca) (σ := σ93) (cm_4_2 hC hm0)
              refine va_iald (D := (dC, dI)) (cl := kCl) (pc := 273) hx hb (hK.2 15 0 .int (cm_4_2 hC hm0) rfl) hP q118 0 eq118 rfl (hv117) dM_about_273 ?_
              refine W.eq (g2 := F0 m 274 ls [.int (xI σ93 15 0 ((((s4 + 4) + a2) - 200)).toNatClampNeg)]) rfl ?_
              obtain ⟨h8, h9⟩ := Prod.mk.inj (Option.some.inj hf)
              subst h9
              exact W.iret (pc := 274) hx hb hr (fun t ht hW => ⟨⟨_, (), rfl, h8, by rw [ht]; exact hP, hD, hC⟩, hS.F ht⟩) hS.2.2 dM_about_274
            · replace hf := ite_f h115 hf
              refine lv_aload_n (pc := 241) hx hb dM_about_241 rfl (lv_at hl 4 rfl) ?_
              obtain ⟨q119, hq119, eq119⟩ := at_4 (ad := ad) (ca := ca) (σ := σ93) hm0
              refine va_get (D := (dC, dI)) (cl := kCl) (C := RM) (T := TM) (N := 11) (pc := 242) hx hb hts inM hown hK.1 hP q119 eq119 rfl 2 (by decide) (hts _ wd_51) (fun _ h9 => h9) rfl dM_about_242 ?_
              refine lv_iload (pc := 245) hx hb dM_about_245 (lv_at hl 2 rfl) ?_
              refine lv_bipush (pc := 247) (v := 16) hx hb dM_about_247 (by decide) ?_
              refine lv_iadd (pc := 249) hx hb dM_about_249 ?_
              refine lv_iload_n (pc := 250) hx hb dM_about_250 rfl (lv_at hl 6 rfl) ?_
              refine lv_iadd (pc := 251) hx hb dM_about_251 ?_
              refine lv_bipush (pc := 252) (v := 8) hx hb dM_about_252 (by decide) ?_
              refine lv_isub (pc := 254) hx hb dM_about_254 ?_
              obtain ⟨hv120, hf⟩ := ite_s hf
              obtain ⟨q121, hq121, eq121⟩ := at_15 (ad := ad) (ca := ca) (σ := σ93) (cm_4_2 hC hm0)
              refine va_iald (D := (dC, dI)) (cl := kCl) (pc := 255) hx hb (hK.2 15 0 .int (cm_4_2 hC hm0) rfl) hP q121 0 eq121 rfl (hv120) dM_about_255 ?_
              refine W.eq (g2 := F0 m 256 ls [.int (xI σ93 15 0 ((((s4 + 16) + a2) - 8)).toNatClampNeg)]) rfl ?_
              refine lv_goto (pc := 256) (tgt := 274) hx hb dM_about_256 rfl ?_
              obtain ⟨h8, h9⟩ := Prod.mk.inj (Option.some.inj hf)
              subst h9
              exact W.iret (pc := 274) hx hb hr (fun t ht hW => ⟨⟨_, (), rfl, h8, by rw [ht]; exact hP, hD, hC⟩, hS.F ht⟩) hS.2.2 dM_about_274
          · replace hf := ite_t h95 hf
            refine lv_iconst (pc := 138) (v := 0) hx hb dM_about_138 (by decide) ?_
            obtain ⟨h8, h9⟩ := Prod.mk.inj (Option.some.inj hf)
            subst h9
            exact W.iret (pc := 139) hx hb hr (fun t ht hW => ⟨⟨_, (), rfl, h8, by rw [ht]; exact hP, hD, hC⟩, hS.F ht⟩) hS.2.2 dM_about_139
def M_inBaseline_L154 (n : Nat) (kx46 : hT → Int32 → Int32 → Int32 → Int32 → Int32 → Int32 → Int32 → Int32 → Option (Int32 × hT)) : Nat → hT → Int32 → Int32 → Int32 → Int32 → Int32 → Int32 → Int32 → Int32 → Option (Int32 × hT)
  | 0, _, _, _, _, _, _, _, _, _ => none
  | k + 1, σ37, p38, p39, p40, p41, p42, p43, p44, p45 => if in9 ((p41 + 2) + p38) 25240 then lt9 (α := Option (Int32 × hT)) (if p39 ≤ 0 then kx46 (σ37) p38 p39 p40 p41 p42 p43 p44 p45 else if in9 ((p41 + 2) + p38) 25240 then if (xI σ37 15 0 (((p41 + 2) + p38)).toNatClampNeg) ≤ 0 then M_inBaseline_L154 n kx46 k (σ37) (p38 + 1) (p39 - 0) p40 p41 p42 p43 p44 p45 else M_inBaseline_L154 n kx46 k (σ37) (p38 + 1) (p39 - 1) p40 p41 p42 p43 p44 p45 else none) fun x51 => if (xI σ37 15 0 (((p41 + 2) + p38)).toNatClampNeg) = 0 then if in9 ((p41 + 2) + p38) 25240 then if (xI σ37 15 0 (((p41 + 2) + p38)).toNatClampNeg) ≤ 0 then M_inBaseline_L154 n kx46 k (σ37) (p38 + 1) (p39 - 0) p40 p41 p42 p43 p44 p45 else M_inBaseline_L154 n kx46 k (σ37) (p38 + 1) (p39 - 1) p40 p41 p42 p43 p44 p45 else none else x51 else none
def M_inBaseline (n : Nat) (σ : hT) (a1 : Int32) (a2 : Int32) (a3 : Int32) : Option (Int32 × hT) := lt9 (α := Int32 → Option (Int32 × hT)) (fun (s2 : Int32) => lt9 (α := Int32 → Option (Int32 × hT)) (fun (s15 : Int32) => lt9 (α := Int32 → Option (Int32 × hT)) (fun (s19 : Int32) => lt9 (α := Int32 → Option (Int32 × hT)) (fun (s31 : Int32) => lt9 (sI σ 500 0 0 s31) fun σ33 => if s19 = 0 then some (0, σ33) else if a2 = (-1) then if in9 (s15 + 1) 25240 then some ((xI σ33 15 0 ((s15 + 1)).toNatClampNeg), σ33) else none else lt9 (α := hT → Int32 → Int32 → Int32 → Int32 → Int32 → Int32 → Int32 → Int32 → Option (Int32 × hT)) (fun (σ37 : hT) (p38 : Int32) (p39 : Int32) (p40 : Int32) (p41 : Int32) (p42 : Int32) (p43 : Int32) (p44 : Int32) (p45 : Int32) => if p45 = 0 then some (p38, σ37) else if in9 ((p41 + 2) + p38) 25240 then some (((xI σ37 15 0 (((p41 + 2) + p38)).toNatClampNeg) - 1), σ37) else none) fun kx46 => M_inBaseline_L154 n kx46 n (σ33) 0 a2 s19 s15 s2 a1 a2 a3) fun x30 => if s19 = 0 then x30 1 else x30 0) fun x18 => if s2 = 0 then x18 0 else if a2 = (-1) then if a3 = 0 then x18 1 else x18 0 else if a2 < 0 then x18 0 else if in9 (s15 + 1) 25240 then if (xI σ 15 0 ((s15 + 1)).toNatClampNeg) ≤ a2 then x18 0 else if a3 < 0 then x18 0 else if 2 ≤ a3 then x18 0 else x18 1 else none) fun x14 => if s2 = 0 then x14 24980 else x14 (M_baselineAt a1)) fun x1 => if a1 < 0 then x1 0 else if 10 ≤ a1 then x1 0 else lt9 (α := Int32 → Option (Int32 × hT)) (fun (s7 : Int32) => if in9 (M_baselineAt s7) 25240 then if (xI σ 15 0 ((M_baselineAt s7)).toNatClampNeg) ≤ 0 then x1 0 else x1 1 else none) fun x6 => if a1 < 0 then x6 0 else if 10 ≤ a1 then x6 0 else x6 a1
set_option maxHeartbeats 4000000 in
set_option maxRecDepth 100000 in
theorem t_M_inBaseline (l : Launch) (dC : Nat → ClassId) (dI : Nat → Nat → Nat) (ad : Nat → Nat → Nat) (ca : Nat → Nat → ClassId) (dom : List (Nat × Nat)) (sz : Nat) (n : Nat) (σ : hT) (a1 : Int32) (a2 : Int32) (a3 : Int32) (hm0 : (4, 0) ∈ dom) (hN : dom.Nodup) (hC : clo dom σ.2.2) (ρ : Int32) (σ' : hT) (hf : M_inBaseline n σ a1 a2 a3 = some (ρ, σ')) : Met l yM_inBaseline (.code yM_inBaseline cM_inBaseline 9 (some .int) :: aw) ({ frames := 1, cells := 0, slots := 0, locals := 21 }) (hW (dC, dI) sz ad ca dom σ [.ref (ad 4 0), .int a1, .int a2, .int a3]) (va_Qi (fun r (_ : Unit) => r = ρ) (fun _ t => hB (dC, dI) (va_A (w9 ad ca dom σ) sz) ad ca dom σ' t) (va_A (w9 ad ca dom σ) sz)) 0 0 (va_A (w9 ad ca dom σ) sz) := by
  refine Met.ofW (cc := cM_inBaseline) (maxL := 9) (ret := (some .int)) (by decide) rfl ?_
  intro p e s m args below meth c s₁ B hml hv
  obtain ⟨rfl, hv⟩ := hv
  have hx := B.exec
  have hb := B.bytes
  have hr := B.returns
  have hts : ∀ w ∈ aw, w.before _ s = true := fun w h => atoms_spec (ws := (.code yM_inBaseline cM_inBaseline 9 (some .int) :: aw)) B.pre w (List.mem_cons_of_mem _ h)
  have hown : s.vm.findClass RM = some m.cls := findClass_of_methodNamed B.named
  have hlocks := B.notSynchronized
  obtain ⟨hsz, hP, hK, hD0, hG⟩ := hv
  subst hsz
  have hD := hD0.self (sz := s.heap.size)
  generalize hAe : va_A (w9 ad ca dom σ) s.heap.size = A at hD ⊢
  have hA : ∀ q : Nat, s.heap.size ≤ q → A q := fun q h => by rw [← hAe]; exact Or.inr h
  obtain ⟨H, hH⟩ : ∃ H, H = s.heap := ⟨_, rfl⟩
  have hS : va_S A s.heap H [] := by rw [hH]; exact va_S.rf
  rw [← hH] at hP ⊢
  unfold M_inBaseline at hf
  have hl := lv_entry ([.ref (ad 4 0), .int a1, .int a2, .int a3]) (n := 9) (Nat.le_of_ble_eq_true rfl)
  rw [lg_entry_eq]
  generalize (lg_sl ([.ref (ad 4 0), .int a1, .int a2, .int a3]) ++ List.replicate (9 - (lg_sl ([.ref (ad 4 0), .int a1, .int a2, .int a3])).length) Slot.unset).toArray = ls at hl ⊢
  have hl : lv_has ls 9 [(0, .ref (ad 4 0)), (1, .int a1), (2, .int a2), (3, .int a3)] := hl
  refine lv_iload_n (pc := 0) hx hb dM_inBaseline_0 rfl (lv_at hl 1 rfl) ?_
  obtain ⟨x1, hx1, hf⟩ := lt_9 hf
  refine jnF (τ := (Int32) × (Heap) × (List Loc) × (Array Slot)) (fun pc st z => W p l e _ s m _ below meth c z.2.1 z.2.2.1 0 0 _ (F0 m pc z.2.2.2 st)) (pc0 := 1) (st0 := [.int a1]) (z0 := (0, H, _, ls)) 42 (fun z => [.int z.1]) (fun z => va_P (dC, dI) kCl (w9 ad ca dom (σ)) z.2.1 ∧ va_D A (w9 ad ca dom (σ)) ∧ va_S A s.heap z.2.1 z.2.2.1 ∧ lv_has z.2.2.2 9 [(0, .ref (ad 4 0)), (1, .int a1), (2, .int a2), (3, .int a3)]) (fun z => x1 z.1) (ρ, σ') ?_ ?_
  · intro hJx1
    dsimp only at hJx1 ⊢
    refine lv_if_lt (pc := 1) (tgt := 41) hx hb dM_inBaseline_1 rfl (fun h3 => ?_) (fun h3 => ?_)
    · replace hf := ite_t h3 hf
      refine lv_iconst (pc := 41) (v := 0) hx hb dM_inBaseline_41 (by decide) ?_
      have hl := lv_sub hl (l' := [(0, .ref (ad 4 0)), (1, .int a1), (2, .int a2), (3, .int a3)]) [0, 1, 2, 3] rfl
      exact hJx1 (0, H, _, ls) ⟨hP, hD, hS, hl⟩ hf
    · replace hf := ite_f h3 hf
      refine lv_iload_n (pc := 4) hx hb dM_inBaseline_4 rfl (lv_at hl 1 rfl) ?_
      refine lv_bipush (pc := 5) (v := 10) hx hb dM_inBaseline_5 (by decide) ?_
      refine lv_icmp_ge (pc := 7) (tgt := 41) hx hb dM_inBaseline_7 rfl (fun h4 => ?_) (fun h4 => ?_)
      · replace hf := ite_t h4 hf
        refine lv_iconst (pc := 41) (v := 0) hx hb dM_inBaseline_41 (by decide) ?_
        have hl := lv_sub hl (l' := [(0, .ref (ad 4 0)), (1, .int a1), (2, .int a2), (3, .int a3)]) [0, 1, 2, 3] rfl
        exact hJx1 (0, H, _, ls) ⟨hP, hD, hS, hl⟩ hf
      · replace hf := ite_f h4 hf
        refine lv_aload_n (pc := 10) hx hb dM_inBaseline_10 rfl (lv_at hl 0 rfl) ?_
        obtain ⟨q5, hq5, eq5⟩ := at_4 (ad := ad) (ca := ca) (σ := σ) hm0
        refine va_get (D := (dC, dI)) (cl := kCl) (C := RM) (T := TM) (N := 11) (pc := 11) hx hb hts inM hown hK.1 hP q5 eq5 rfl 2 (by decide) (hts _ wd_51) (fun _ h9 => h9) rfl dM_inBaseline_11 ?_
        refine lv_aload_n (pc := 14) hx hb dM_inBaseline_14 rfl (lv_at hl 0 rfl) ?_
        refine lv_iload_n (pc := 15) hx hb dM_inBaseline_15 rfl (lv_at hl 1 rfl) ?_
        obtain ⟨x6, hx6, hf⟩ := lt_9 hf
        refine jnF (τ := (Int32) × (Heap) × (List Loc) × (Array Slot)) (fun pc st z => W p l e _ s m _ below meth c z.2.1 z.2.2.1 0 0 _ (F0 m pc z.2.2.2 st)) (pc0 := 16) (st0 := [.int a1, .ref (ad 4 0), .ref (ad 15 0)]) (z0 := (0, H, _, ls)) 30 (fun z => [.int z.1, .ref (ad 4 0), .ref (ad 15 0)]) (fun z => va_P (dC, dI) kCl (w9 ad ca dom (σ)) z.2.1 ∧ va_D A (w9 ad ca dom (σ)) ∧ va_S A s.heap z.2.1 z.2.2.1 ∧ lv_has z.2.2.2 9 [(0, .ref (ad 4 0)), (1, .int a1), (2, .int a2), (3, .int a3)]) (fun z => x6 z.1) (ρ, σ') ?_ ?_
        · intro hJx6
          dsimp only at hJx6 ⊢
          refine lv_if_lt (pc := 16) (tgt := 29) hx hb dM_inBaseline_16 rfl (fun h8 => ?_) (fun h8 => ?_)
          · replace hf := ite_t h8 hf
            refine lv_iconst (pc := 29) (v := 0) hx hb dM_inBaseline_29 (by decide) ?_
            have hl := lv_sub hl (l' := [(0, .ref (ad 4 0)), (1, .int a1), (2, .int a2), (3, .int a3)]) [0, 1, 2, 3] rfl
            exact hJx6 (0, H, _, ls) ⟨hP, hD, hS, hl⟩ hf
          · replace hf := ite_f h8 hf
            refine lv_iload_n (pc := 19) hx hb dM_inBaseline_19 rfl (lv_at hl 1 rfl) ?_
            refine lv_bipush (pc := 20) (v := 10) hx hb dM_inBaseline_20 (by decide) ?_
            refine lv_icmp_ge (pc := 22) (tgt := 29) hx hb dM_inBaseline_22 rfl (fun h9 => ?_) (fun h9 => ?_)
            · replace hf := ite_t h9 hf
              refine lv_iconst (pc := 29) (v := 0) hx hb dM_inBaseline_29 (by decide) ?_
              have hl := lv_sub hl (l' := [(0, .ref (ad 4 0)), (1, .int a1), (2, .int a2), (3, .int a3)]) [0, 1, 2, 3] rfl
              exact hJx6 (0, H, _, ls) ⟨hP, hD, hS, hl⟩ hf
            · replace hf := ite_f h9 hf
              refine lv_iload_n (pc := 25) hx hb dM_inBaseline_25 rfl (lv_at hl 1 rfl) ?_
              refine lv_goto (pc := 26) (tgt := 30) hx hb dM_inBaseline_26 rfl ?_
              have hl := lv_sub hl (l' := [(0, .ref (ad 4 0)), (1, .int a1), (2, .int a2), (3, .int a3)]) [0, 1, 2, 3] rfl
              exact hJx6 (a1, H, _, ls) ⟨hP, hD, hS, hl⟩ hf
        · rintro ⟨s7, H, locs, ls⟩ ⟨hP, hD, hS, hl⟩ hf
          dsimp only at hP hD hS hl hf ⊢
          rw [hx6] at hf
          have hl : lv_has ls 9 [(0, .ref (ad 4 0)), (1, .int a1), (2, .int a2), (3, .int a3)] := hl
          obtain ⟨q10, hq10, eq10⟩ := at_4 (ad := ad) (ca := ca) (σ := σ) hm0
          refine vp_callSi (pc := 30) (W.runV (As := [.int s7]) (rest := [.ref (ad 15 0)]) ⟨hx, hb, hml, hown, hts⟩ (t_M_baselineAt l dC dI ad ca dom s7 hm0 σ hN hC (M_baselineAt s7) rfl) (cwV 1 hts (gV wd_124 wd_125 wd_126 wd_50 wd_123) rfl rfl rfl (by decide +kernel) ⟨Nat.le_of_ble_eq_true rfl, Nat.le_of_ble_eq_true rfl⟩) ⟨hR_blind, va_recv (q := (RM, TM, 11)) (q0 := q10) (ci := 4) hK.1 hP rfl eq10, hR_pre hP hK hG⟩ rfl rfl hl.1 rfl (lv_room (Nat.le_of_ble_eq_true rfl)) dM_inBaseline_30 ⟨Nat.le_of_ble_eq_true rfl, Nat.le_of_ble_eq_true rfl⟩) (fun r9 hr9 => ?_)
          refine W.eq (g2 := F0 m 33 ls [.int (M_baselineAt s7), .ref (ad 15 0)]) (by rw [hr9]) ?_
          obtain ⟨hv11, hf⟩ := ite_s hf
          obtain ⟨q12, hq12, eq12⟩ := at_15 (ad := ad) (ca := ca) (σ := σ) (cm_4_2 hC hm0)
          refine va_iald (D := (dC, dI)) (cl := kCl) (pc := 33) hx hb (hK.2 15 0 .int (cm_4_2 hC hm0) rfl) hP q12 0 eq12 rfl (hv11) dM_inBaseline_33 ?_
          refine W.eq (g2 := F0 m 34 ls [.int (xI σ 15 0 ((M_baselineAt s7)).toNatClampNeg)]) rfl ?_
          refine lv_if_le (pc := 34) (tgt := 41) hx hb dM_inBaseline_34 rfl (fun h13 => ?_) (fun h13 => ?_)
          · replace hf := ite_t h13 hf
            refine lv_iconst (pc := 41) (v := 0) hx hb dM_inBaseline_41 (by decide) ?_
            have hl := lv_sub hl (l' := [(0, .ref (ad 4 0)), (1, .int a1), (2, .int a2), (3, .int a3)]) [0, 1, 2, 3] rfl
            exact hJx1 (0, H, _, ls) ⟨hP, hD, hS, hl⟩ hf
          · replace hf := ite_f h13 hf
            refine lv_iconst (pc := 37) (v := 1) hx hb dM_inBaseline_37 (by decide) ?_
            refine lv_goto (pc := 38) (tgt := 42) hx hb dM_inBaseline_38 rfl ?_
            have hl := lv_sub hl (l' := [(0, .ref (ad 4 0)), (1, .int a1), (2, .int a2), (3, .int a3)]) [0, 1, 2, 3] rfl
            exact hJx1 (1, H, _, ls) ⟨hP, hD, hS, hl⟩ hf
  · rintro ⟨s2, H, locs, ls⟩ ⟨hP, hD, hS, hl⟩ hf
    dsimp only at hP hD hS hl hf ⊢
    rw [hx1] at hf
    have hl : lv_has ls 9 [(0, .ref (ad 4 0)), (1, .int a1), (2, .int a2), (3, .int a3)] := hl
    refine lv_istore (pc := 42) hx hb dM_inBaseline_42 hl (by decide) rfl (fun ls hl => ?_)
    have hl : lv_has ls 9 [(4, .int s2), (0, .ref (ad 4 0)), (1, .int a1), (2, .int a2), (3, .int a3)] := hl
    refine lv_iload (pc := 44) hx hb dM_inBaseline_44 (lv_at hl 0 rfl) ?_
    obtain ⟨x14, hx14, hf⟩ := lt_9 hf
    refine jnF (τ := (Int32) × (Heap) × (List Loc) × (Array Slot)) (fun pc st z => W p l e _ s m _ below meth c z.2.1 z.2.2.1 0 0 _ (F0 m pc z.2.2.2 st)) (pc0 := 46) (st0 := [.int s2]) (z0 := (0, H, _, ls)) 60 (fun z => [.int z.1]) (fun z => va_P (dC, dI) kCl (w9 ad ca dom (σ)) z.2.1 ∧ va_D A (w9 ad ca dom (σ)) ∧ va_S A s.heap z.2.1 z.2.2.1 ∧ lv_has z.2.2.2 9 [(4, .int s2), (0, .ref (ad 4 0)), (1, .int a1), (2, .int a2), (3, .int a3)]) (fun z => x14 z.1) (ρ, σ') ?_ ?_
    · intro hJx14
      dsimp only at hJx14 ⊢
      refine lv_if_eq (pc := 46) (tgt := 57) hx hb dM_inBaseline_46 rfl (fun h16 => ?_) (fun h16 => ?_)
      · replace hf := ite_t h16 hf
        refine lv_sipush (pc := 57) (v := 24980) hx hb dM_inBaseline_57 (by decide) ?_
        have hl := lv_sub hl (l' := [(4, .int s2), (0, .ref (ad 4 0)), (1, .int a1), (2, .int a2), (3, .int a3)]) [0, 1, 2, 3, 4] rfl
        exact hJx14 (24980, H, _, ls) ⟨hP, hD, hS, hl⟩ hf
      · replace hf := ite_f h16 hf
        refine lv_aload_n (pc := 49) hx hb dM_inBaseline_49 rfl (lv_at hl 1 rfl) ?_
        refine lv_iload_n (pc := 50) hx hb dM_inBaseline_50 rfl (lv_at hl 2 rfl) ?_
        obtain ⟨q17, hq17, eq17⟩ := at_4 (ad := ad) (ca := ca) (σ := σ) hm0
        refine vp_callSi (pc := 51) (W.runV (As := [.int a1]) (rest := []) ⟨hx, hb, hml, hown, hts⟩ (t_M_baselineAt l dC dI ad ca dom a1 hm0 σ hN hC (M_baselineAt a1) rfl) (cwV 1 hts (gV wd_124 wd_125 wd_126 wd_50 wd_123) rfl rfl rfl (by decide +kernel) ⟨Nat.le_of_ble_eq_true rfl, Nat.le_of_ble_eq_true rfl⟩) ⟨hR_blind, va_recv (q := (RM, TM, 11)) (q0 := q17) (ci := 4) hK.1 hP rfl eq17, hR_pre hP hK hG⟩ rfl rfl hl.1 rfl (lv_room (Nat.le_of_ble_eq_true rfl)) dM_inBaseline_51 ⟨Nat.le_of_ble_eq_true rfl, Nat.le_of_ble_eq_true rfl⟩) (fun r9 hr9 => ?_)
        refine W.eq (g2 := F0 m 54 ls [.int (M_baselineAt a1)]) (by rw [hr9]) ?_
        refine lv_goto (pc := 54) (tgt := 60) hx hb dM_inBaseline_54 rfl ?_
        have hl := lv_sub hl (l' := [(4, .int s2), (0, .ref (ad 4 0)), (1, .int a1), (2, .int a2), (3, .int a3)]) [0, 1, 2, 3, 4] rfl
        exact hJx14 ((M_baselineAt a1), H, _, ls) ⟨hP, hD, hS, hl⟩ hf
    · rintro ⟨s15, H, locs, ls⟩ ⟨hP, hD, hS, hl⟩ hf
      dsimp only at hP hD hS hl hf ⊢
      rw [hx14] at hf
      have hl : lv_has ls 9 [(4, .int s2), (0, .ref (ad 4 0)), (1, .int a1), (2, .int a2), (3, .int a3)] := hl
      refine lv_istore (pc := 60) hx hb dM_inBaseline_60 hl (by decide) rfl (fun ls hl => ?_)
      have hl : lv_has ls 9 [(5, .int s15), (4, .int s2), (0, .ref (ad 4 0)), (1, .int a1), (2, .int a2), (3, .int a3)] := hl
      refine lv_iload (pc := 62) hx hb dM_inBaseline_62 (lv_at hl 1 rfl) ?_
      obtain ⟨x18, hx18, hf⟩ := lt_9 hf
      refine jnF (τ := (Int32) × (Heap) × (List Loc) × (Array Slot)) (fun pc st z => W p l e _ s m _ below meth c z.2.1 z.2.2.1 0 0 _ (F0 m pc z.2.2.2 st)) (pc0 := 64) (st0 := [.int s2]) (z0 := (0, H, _, ls)) 110 (fun z => [.int z.1]) (fun z => va_P (dC, dI) kCl (w9 ad ca dom (σ)) z.2.1 ∧ va_D A (w9 ad ca dom (σ)) ∧ va_S A s.heap z.2.1 z.2.2.1 ∧ lv_has z.2.2.2 9 [(5, .int s15), (4, .int s2), (0, .ref (ad 4 0)), (1, .int a1), (2, .int a2), (3, .int a3)]) (fun z => x18 z.1) (ρ, σ') ?_ ?_
      · intro hJx18
        dsimp only at hJx18 ⊢
        refine lv_if_eq (pc := 64) (tgt := 109) hx hb dM_inBaseline_64 rfl (fun h20 => ?_) (fun h20 => ?_)
        · replace hf := ite_t h20 hf
          refine lv_iconst (pc := 109) (v := 0) hx hb dM_inBaseline_109 (by decide) ?_
          have hl := lv_sub hl (l' := [(5, .int s15), (4, .int s2), (0, .ref (ad 4 0)), (1, .int a1), (2, .int a2), (3, .int a3)]) [0, 1, 2, 3, 4, 5] rfl
          exact hJx18 (0, H, _, ls) ⟨hP, hD, hS, hl⟩ hf
        · replace hf := ite_f h20 hf
          refine lv_iload_n (pc := 67) hx hb dM_inBaseline_67 rfl (lv_at hl 4 rfl) ?_
          refine lv_iconst (pc := 68) (v := (-1)) hx hb dM_inBaseline_68 (by decide) ?_
          refine lv_icmp_ne (pc := 69) (tgt := 79) hx hb dM_inBaseline_69 rfl (fun h21 => ?_) (fun h21 => ?_)
          · replace hf := ite_f h21 hf
            refine lv_iload_n (pc := 79) hx hb dM_inBaseline_79 rfl (lv_at hl 4 rfl) ?_
            refine lv_if_lt (pc := 80) (tgt := 109) hx hb dM_inBaseline_80 rfl (fun h22 => ?_) (fun h22 => ?_)
            · replace hf := ite_t h22 hf
              refine lv_iconst (pc := 109) (v := 0) hx hb dM_inBaseline_109 (by decide) ?_
              have hl := lv_sub hl (l' := [(5, .int s15), (4, .int s2), (0, .ref (ad 4 0)), (1, .int a1), (2, .int a2), (3, .int a3)]) [0, 1, 2, 3, 4, 5] rfl
              exact hJx18 (0, H, _, ls) ⟨hP, hD, hS, hl⟩ hf
            · replace hf := ite_f h22 hf
              refine lv_iload_n (pc := 83) hx hb dM_inBaseline_83 rfl (lv_at hl 4 rfl) ?_
              refine lv_aload_n (pc := 84) hx hb dM_inBaseline_84 rfl (lv_at hl 2 rfl) ?_
              obtain ⟨q23, hq23, eq23⟩ := at_4 (ad := ad) (ca := ca) (σ := σ) hm0
              refine va_get (D := (dC, dI)) (cl := kCl) (C := RM) (T := TM) (N := 11) (pc := 85) hx hb hts inM hown hK.1 hP q23 eq23 rfl 2 (by decide) (hts _ wd_51) (fun _ h9 => h9) rfl dM_inBaseline_85 ?_
              refine lv_iload (pc := 88) hx hb dM_inBaseline_88 (lv_at hl 0 rfl) ?_
              refine lv_iconst (pc := 90) (v := 1) hx hb dM_inBaseline_90 (by decide) ?_
              refine lv_iadd (pc := 91) hx hb dM_inBaseline_91 ?_
              obtain ⟨hv24, hf⟩ := ite_s hf
              obtain ⟨q25, hq25, eq25⟩ := at_15 (ad := ad) (ca := ca) (σ := σ) (cm_4_2 hC hm0)
              refine va_iald (D := (dC, dI)) (cl := kCl) (pc := 92) hx hb (hK.2 15 0 .int (cm_4_2 hC hm0) rfl) hP q25 0 eq25 rfl (hv24) dM_inBaseline_92 ?_
              refine W.eq (g2 := F0 m 93 ls [.int (xI σ 15 0 ((s15 + 1)).toNatClampNeg), .int a2]) rfl ?_
              refine lv_icmp_ge (pc := 93) (tgt := 109) hx hb dM_inBaseline_93 rfl (fun h26 => ?_) (fun h26 => ?_)
              · replace hf := ite_t h26 hf
                refine lv_iconst (pc := 109) (v := 0) hx hb dM_inBaseline_109 (by decide) ?_
                have hl := lv_sub hl (l' := [(5, .int s15), (4, .int s2), (0, .ref (ad 4 0)), (1, .int a1), (2, .int a2), (3, .int a3)]) [0, 1, 2, 3, 4, 5] rfl
                exact hJx18 (0, H, _, ls) ⟨hP, hD, hS, hl⟩ hf
              · replace hf := ite_f h26 hf
                refine lv_iload_n (pc := 96) hx hb dM_inBaseline_96 rfl (lv_at hl 5 rfl) ?_
                refine lv_if_lt (pc := 97) (tgt := 109) hx hb dM_inBaseline_97 rfl (fun h27 => ?_) (fun h27 => ?_)
                · replace hf := ite_t h27 hf
                  refine lv_iconst (pc := 109) (v := 0) hx hb dM_inBaseline_109 (by decide) ?_
                  have hl := lv_sub hl (l' := [(5, .int s15), (4, .int s2), (0, .ref (ad 4 0)), (1, .int a1), (2, .int a2), (3, .int a3)]) [0, 1, 2, 3, 4, 5] rfl
                  exact hJx18 (0, H, _, ls) ⟨hP, hD, hS, hl⟩ hf
                · replace hf := ite_f h27 hf
                  refine lv_iload_n (pc := 100) hx hb dM_inBaseline_100 rfl (lv_at hl 5 rfl) ?_
                  refine lv_iconst (pc := 101) (v := 2) hx hb dM_inBaseline_101 (by decide) ?_
                  refine lv_icmp_ge (pc := 102) (tgt := 109) hx hb dM_inBaseline_102 rfl (fun h28 => ?_) (fun h28 => ?_)
                  · replace hf := ite_t h28 hf
                    refine lv_iconst (pc := 109) (v := 0) hx hb dM_inBaseline_109 (by decide) ?_
                    have hl := lv_sub hl (l' := [(5, .int s15), (4, .int s2), (0, .ref (ad 4 0)), (1, .int a1), (2, .int a2), (3, .int a3)]) [0, 1, 2, 3, 4, 5] rfl
                    exact hJx18 (0, H, _, ls) ⟨hP, hD, hS, hl⟩ hf
                  · replace hf := ite_f h28 hf
                    refine lv_iconst (pc := 105) (v := 1) hx hb dM_inBaseline_105 (by decide) ?_
                    refine lv_goto (pc := 106) (tgt := 110) hx hb dM_inBaseline_106 rfl ?_
                    have hl := lv_sub hl (l' := [(5, .int s15), (4, .int s2), (0, .ref (ad 4 0)), (1, .int a1), (2, .int a2), (3, .int a3)]) [0, 1, 2, 3, 4, 5] rfl
                    exact hJx18 (1, H, _, ls) ⟨hP, hD, hS, hl⟩ hf
          · replace hf := ite_t h21 hf
            refine lv_iload_n (pc := 72) hx hb dM_inBaseline_72 rfl (lv_at hl 5 rfl) ?_
            refine lv_if_ne (pc := 73) (tgt := 109) hx hb dM_inBaseline_73 rfl (fun h29 => ?_) (fun h29 => ?_)
            · replace hf := ite_f h29 hf
              refine lv_iconst (pc := 109) (v := 0) hx hb dM_inBaseline_109 (by decide) ?_
              have hl := lv_sub hl (l' := [(5, .int s15), (4, .int s2), (0, .ref (ad 4 0)), (1, .int a1), (2, .int a2), (3, .int a3)]) [0, 1, 2, 3, 4, 5] rfl
              exact hJx18 (0, H, _, ls) ⟨hP, hD, hS, hl⟩ hf
            · replace hf := ite_t h29 hf
              refine lv_goto (pc := 76) (tgt := 105) hx hb dM_inBaseline_76 rfl ?_
              refine lv_iconst (pc := 105) (v := 1) hx hb dM_inBaseline_105 (by decide) ?_
              refine lv_goto (pc := 106) (tgt := 110) hx hb dM_inBaseline_106 rfl ?_
              have hl := lv_sub hl (l' := [(5, .int s15), (4, .int s2), (0, .ref (ad 4 0)), (1, .int a1), (2, .int a2), (3, .int a3)]) [0, 1, 2, 3, 4, 5] rfl
              exact hJx18 (1, H, _, ls) ⟨hP, hD, hS, hl⟩ hf
      · rintro ⟨s19, H, locs, ls⟩ ⟨hP, hD, hS, hl⟩ hf
        dsimp only at hP hD hS hl hf ⊢
        rw [hx18] at hf
        have hl : lv_has ls 9 [(5, .int s15), (4, .int s2), (0, .ref (ad 4 0)), (1, .int a1), (2, .int a2), (3, .int a3)] := hl
        refine lv_istore (pc := 110) hx hb dM_inBaseline_110 hl (by decide) rfl (fun ls hl => ?_)
        have hl : lv_has ls 9 [(6, .int s19), (5, .int s15), (4, .int s2), (0, .ref (ad 4 0)), (1, .int a1), (2, .int a2), (3, .int a3)] := hl
        refine lv_aload_n (pc := 112) hx hb dM_inBaseline_112 rfl (lv_at hl 3 rfl) ?_
        refine lv_iload (pc := 113) hx hb dM_inBaseline_113 (lv_at hl 0 rfl) ?_
        obtain ⟨x30, hx30, hf⟩ := lt_9 hf
        refine jnF (τ := (Int32) × (Heap) × (List Loc) × (Array Slot)) (fun pc st z => W p l e _ s m _ below meth c z.2.1 z.2.2.1 0 0 _ (F0 m pc z.2.2.2 st)) (pc0 := 115) (st0 := [.int s19, .ref (ad 4 0)]) (z0 := (0, H, _, ls)) 123 (fun z => [.int z.1, .ref (ad 4 0)]) (fun z => va_P (dC, dI) kCl (w9 ad ca dom (σ)) z.2.1 ∧ va_D A (w9 ad ca dom (σ)) ∧ va_S A s.heap z.2.1 z.2.2.1 ∧ lv_has z.2.2.2 9 [(6, .int s19), (5, .int s15), (4, .int s2), (0, .ref (ad 4 0)), (1, .int a1), (2, .int a2), (3, .int a3)]) (fun z => x30 z.1) (ρ, σ') ?_ ?_
        · intro hJx30
          dsimp only at hJx30 ⊢
          refine lv_if_eq (pc := 115) (tgt := 122) hx hb dM_inBaseline_115 rfl (fun h32 => ?_) (fun h32 => ?_)
          · replace hf := ite_t h32 hf
            refine lv_iconst (pc := 122) (v := 1) hx hb dM_inBaseline_122 (by decide) ?_
            have hl := lv_sub hl (l' := [(6, .int s19), (5, .int s15), (4, .int s2), (0, .ref (ad 4 0)), (1, .int a1), (2, .int a2), (3, .int a3)]) [0, 1, 2, 3, 4, 5, 6] rfl
            exact hJx30 (1, H, _, ls) ⟨hP, hD, hS, hl⟩ hf
          · replace hf := ite_f h32 hf
            refine lv_iconst (pc := 118) (v := 0) hx hb dM_inBaseline_118 (by decide) ?_
            refine lv_goto (pc := 119) (tgt := 123) hx hb dM_inBaseline_119 rfl ?_
            have hl := lv_sub hl (l' := [(6, .int s19), (5, .int s15), (4, .int s2), (0, .ref (ad 4 0)), (1, .int a1), (2, .int a2), (3, .int a3)]) [0, 1, 2, 3, 4, 5, 6] rfl
            exact hJx30 (0, H, _, ls) ⟨hP, hD, hS, hl⟩ hf
        · rintro ⟨s31, H, locs, ls⟩ ⟨hP, hD, hS, hl⟩ hf
          dsimp only at hP hD hS hl hf ⊢
          rw [hx30] at hf
          have hl : lv_has ls 9 [(6, .int s19), (5, .int s15), (4, .int s2), (0, .ref (ad 4 0)), (1, .int a1), (2, .int a2), (3, .int a3)] := hl
          obtain ⟨q34, hq34, eq34⟩ := at_4 (ad := ad) (ca := ca) (σ := σ) hm0
          refine va_put (D := (dC, dI)) (cl := kCl) (ci := 4) (v := .int s31) (ty := .int) (C := RM) (T := TM) (N := 11) (pc := 123) hx hb hts inM tyM tyM_ok nmM hown hK.1 hP hD hS q34 eq34 rfl 0 (by decide) (hts _ wd_45) (fun _ h9 => h9) rfl (by decide +kernel) (rfl) (rfl) (Nat.le_of_ble_eq_true rfl) dM_inBaseline_123 (fun H locs hP hD hS => ?_)
          obtain ⟨σ33, hσ33, hf⟩ := lt_9 hf
          obtain ⟨hP, hD⟩ := w9_rI 500 rfl hN hq34 hσ33 (pu_500) hP hD
          have hC : clo dom σ33.2.2 := by rw [hσ33]; exact hC
          refine lv_iload (pc := 126) hx hb dM_inBaseline_126 (lv_at hl 0 rfl) ?_
          refine lv_if_ne (pc := 128) (tgt := 133) hx hb dM_inBaseline_128 rfl (fun h35 => ?_) (fun h35 => ?_)
          · replace hf := ite_f h35 hf
            refine lv_iload_n (pc := 133) hx hb dM_inBaseline_133 rfl (lv_at hl 5 rfl) ?_
            refine lv_iconst (pc := 134) (v := (-1)) hx hb dM_inBaseline_134 (by decide) ?_
            refine lv_icmp_ne (pc := 135) (tgt := 148) hx hb dM_inBaseline_135 rfl (fun h36 => ?_) (fun h36 => ?_)
            · replace hf := ite_f h36 hf
              refine lv_iload_n (pc := 148) hx hb dM_inBaseline_148 rfl (lv_at hl 5 rfl) ?_
              refine lv_istore (pc := 149) hx hb dM_inBaseline_149 hl (by decide) rfl (fun ls hl => ?_)
              have hl : lv_has ls 9 [(7, .int a2), (6, .int s19), (5, .int s15), (4, .int s2), (0, .ref (ad 4 0)), (1, .int a1), (2, .int a2), (3, .int a3)] := hl
              refine lv_iconst (pc := 151) (v := 0) hx hb dM_inBaseline_151 (by decide) ?_
              refine lv_istore (pc := 152) hx hb dM_inBaseline_152 hl (by decide) rfl (fun ls hl => ?_)
              have hl : lv_has ls 9 [(8, .int 0), (7, .int a2), (6, .int s19), (5, .int s15), (4, .int s2), (0, .ref (ad 4 0)), (1, .int a1), (2, .int a2), (3, .int a3)] := hl
              obtain ⟨kx46, hkx46, hf⟩ := lt_9 hf
              refine lpF (τ := (hT) × (Int32) × (Int32) × (Int32) × (Int32) × (Int32) × (Int32) × (Int32) × (Int32) × (Heap) × (List Loc) × (Array Slot)) (fun pc z => W p l e _ s m _ below meth c z.2.2.2.2.2.2.2.2.2.1 z.2.2.2.2.2.2.2.2.2.2.1 0 0 _ (F0 m pc z.2.2.2.2.2.2.2.2.2.2.2 [])) 154 205 (fun z => va_P (dC, dI) kCl (w9 ad ca dom z.1) z.2.2.2.2.2.2.2.2.2.1 ∧ va_D A (w9 ad ca dom z.1) ∧ va_S A s.heap z.2.2.2.2.2.2.2.2.2.1 z.2.2.2.2.2.2.2.2.2.2.1 ∧ clo dom z.1.2.2 ∧ lv_has z.2.2.2.2.2.2.2.2.2.2.2 9 [(8, .int z.2.1), (7, .int z.2.2.1), (6, .int z.2.2.2.1), (5, .int z.2.2.2.2.1), (4, .int z.2.2.2.2.2.1), (0, .ref (ad 4 0)), (1, .int z.2.2.2.2.2.2.1), (2, .int z.2.2.2.2.2.2.2.1), (3, .int z.2.2.2.2.2.2.2.2.1)]) (fun k z => M_inBaseline_L154 n kx46 k z.1 z.2.1 z.2.2.1 z.2.2.2.1 z.2.2.2.2.1 z.2.2.2.2.2.1 z.2.2.2.2.2.2.1 z.2.2.2.2.2.2.2.1 z.2.2.2.2.2.2.2.2.1) (fun z => kx46 z.1 z.2.1 z.2.2.1 z.2.2.2.1 z.2.2.2.2.1 z.2.2.2.2.2.1 z.2.2.2.2.2.2.1 z.2.2.2.2.2.2.2.1 z.2.2.2.2.2.2.2.2.1) _ (fun z => rfl) ?_ ?_ n (σ33, 0, a2, s19, s15, s2, a1, a2, a3, H, _, ls) ⟨hP, hD, hS, hC, hl⟩ hf
              · rintro k ⟨σ37, p38, p39, p40, p41, p42, p43, p44, p45, H, locs, ls⟩ ⟨hP, hD, hS, hC, hl⟩ hf ih47 hXkx46
                dsimp only at hP hD hS hC hl hf ih47 hXkx46 ⊢
                unfold M_inBaseline_L154 at hf
                have hl : lv_has ls 9 [(8, .int p38), (7, .int p39), (6, .int p40), (5, .int p41), (4, .int p42), (0, .ref (ad 4 0)), (1, .int p43), (2, .int p44), (3, .int p45)] := hl
                refine lv_aload_n (pc := 154) hx hb dM_inBaseline_154 rfl (lv_at hl 5 rfl) ?_
                obtain ⟨q48, hq48, eq48⟩ := at_4 (ad := ad) (ca := ca) (σ := σ37) hm0
                refine va_get (D := (dC, dI)) (cl := kCl) (C := RM) (T := TM) (N := 11) (pc := 155) hx hb hts inM hown hK.1 hP q48 eq48 rfl 2 (by decide) (hts _ wd_51) (fun _ h9 => h9) rfl dM_inBaseline_155 ?_
                refine lv_iload (pc := 158) hx hb dM_inBaseline_158 (lv_at hl 3 rfl) ?_
                refine lv_iconst (pc := 160) (v := 2) hx hb dM_inBaseline_160 (by decide) ?_
                refine lv_iadd (pc := 161) hx hb dM_inBaseline_161 ?_
                refine lv_iload (pc := 162) hx hb dM_inBaseline_162 (lv_at hl 0 rfl) ?_
                refine lv_iadd (pc := 164) hx hb dM_inBaseline_164 ?_
                obtain ⟨hv49, hf⟩ := ite_s hf
                obtain ⟨q50, hq50, eq50⟩ := at_15 (ad := ad) (ca := ca) (σ := σ37) (cm_4_2 hC hm0)
                refine va_iald (D := (dC, dI)) (cl := kCl) (pc := 165) hx hb (hK.2 15 0 .int (cm_4_2 hC hm0) rfl) hP q50 0 eq50 rfl (hv49) dM_inBaseline_165 ?_
                refine W.eq (g2 := F0 m 166 ls [.int (xI σ37 15 0 (((p41 + 2) + p38)).toNatClampNeg)]) rfl ?_
                obtain ⟨x51, hx51, hf⟩ := lt_9 hf
                refine jnF (τ := (Heap) × (List Loc) × (Array Slot)) (fun pc st z => W p l e _ s m _ below meth c z.1 z.2.1 0 0 _ (F0 m pc z.2.2 st)) (pc0 := 166) (st0 := [.int (xI σ37 15 0 (((p41 + 2) + p38)).toNatClampNeg)]) (z0 := (H, _, ls)) 169 (fun z => []) (fun z => va_P (dC, dI) kCl (w9 ad ca dom (σ37)) z.1 ∧ va_D A (w9 ad ca dom (σ37)) ∧ va_S A s.heap z.1 z.2.1 ∧ lv_has z.2.2 9 [(8, .int p38), (7, .int p39), (6, .int p40), (5, .int p41), (4, .int p42), (0, .ref (ad 4 0)), (1, .int p43), (2, .int p44), (3, .int p45)]) (fun z => x51) (ρ, σ') ?_ ?_
                · intro hJx51
                  dsimp only at hJx51 ⊢
                  refine lv_if_eq (pc := 166) (tgt := 174) hx hb dM_inBaseline_166 rfl (fun h52 => ?_) (fun h52 => ?_)
                  · replace hf := ite_t h52 hf
                    refine lv_iload (pc := 174) hx hb dM_inBaseline_174 (lv_at hl 1 rfl) ?_
                    refine lv_aload_n (pc := 176) hx hb dM_inBaseline_176 rfl (lv_at hl 5 rfl) ?_
                    obtain ⟨q53, hq53, eq53⟩ := at_4 (ad := ad) (ca := ca) (σ := σ37) hm0
                    refine va_get (D := (dC, dI)) (cl := kCl) (C := RM) (T := TM) (N := 11) (pc := 177) hx hb hts inM hown hK.1 hP q53 eq53 rfl 2 (by decide) (hts _ wd_51) (fun _ h9 => h9) rfl dM_inBaseline_177 ?_
                    refine lv_iload (pc := 180) hx hb dM_inBaseline_180 (lv_at hl 3 rfl) ?_
                    refine lv_iconst (pc := 182) (v := 2) hx hb dM_inBaseline_182 (by decide) ?_
                    refine lv_iadd (pc := 183) hx hb dM_inBaseline_183 ?_
                    refine lv_iload (pc := 184) hx hb dM_inBaseline_184 (lv_at hl 0 rfl) ?_
                    refine lv_iadd (pc := 186) hx hb dM_inBaseline_186 ?_
                    obtain ⟨hv54, hf⟩ := ite_s hf
                    obtain ⟨q55, hq55, eq55⟩ := at_15 (ad := ad) (ca := ca) (σ := σ37) (cm_4_2 hC hm0)
                    refine va_iald (D := (dC, dI)) (cl := kCl) (pc := 187) hx hb (hK.2 15 0 .int (cm_4_2 hC hm0) rfl) hP q55 0 eq55 rfl (hv54) dM_inBaseline_187 ?_
                    refine W.eq (g2 := F0 m 188 ls [.int (xI σ37 15 0 (((p41 + 2) + p38)).toNatClampNeg), .int p39]) rfl ?_
                    refine lv_if_le (pc := 188) (tgt := 195) hx hb dM_inBaseline_188 rfl (fun h56 => ?_) (fun h56 => ?_)
                    · replace hf := ite_t h56 hf
                      refine lv_iconst (pc := 195) (v := 0) hx hb dM_inBaseline_195 (by decide) ?_
                      refine lv_isub (pc := 196) hx hb dM_inBaseline_196 ?_
                      refine lv_istore (pc := 197) hx hb dM_inBaseline_197 hl (by decide) rfl (fun ls hl => ?_)
                      have hl : lv_has ls 9 [(7, .int (p39 - 0)), (8, .int p38), (6, .int p40), (5, .int p41), (4, .int p42), (0, .ref (ad 4 0)), (1, .int p43), (2, .int p44), (3, .int p45)] := hl
                      refine lv_iinc (pc := 199) (v := (p38 + 1)) hx hb dM_inBaseline_199 hl (k := 1) rfl (by rfl) (by decide) rfl (fun ls hl => ?_)
                      have hl : lv_has ls 9 [(8, .int (p38 + 1)), (7, .int (p39 - 0)), (6, .int p40), (5, .int p41), (4, .int p42), (0, .ref (ad 4 0)), (1, .int p43), (2, .int p44), (3, .int p45)] := hl
                      refine lv_goto (pc := 202) (tgt := 154) hx hb dM_inBaseline_202 rfl ?_
                      have hl := lv_sub hl (l' := [(8, .int (p38 + 1)), (7, .int (p39 - 0)), (6, .int p40), (5, .int p41), (4, .int p42), (0, .ref (ad 4 0)), (1, .int p43), (2, .int p44), (3, .int p45)]) [0, 1, 2, 3, 4, 5, 6, 7, 8] rfl
                      exact ih47 (σ37, (p38 + 1), (p39 - 0), p40, p41, p42, p43, p44, p45, H, _, ls) ⟨hP, hD, hS, hC, hl⟩ hf
                    · replace hf := ite_f h56 hf
                      refine lv_iconst (pc := 191) (v := 1) hx hb dM_inBaseline_191 (by decide) ?_
                      refine lv_goto (pc := 192) (tgt := 196) hx hb dM_inBaseline_192 rfl ?_
                      refine lv_isub (pc := 196) hx hb dM_inBaseline_196 ?_
                      refine lv_istore (pc := 197) hx hb dM_inBaseline_197 hl (by decide) rfl (fun ls hl => ?_)
                      have hl : lv_has ls 9 [(7, .int (p39 - 1)), (8, .int p38), (6, .int p40), (5, .int p41), (4, .int p42), (0, .ref (ad 4 0)), (1, .int p43), (2, .int p44), (3, .int p45)] := hl
                      refine lv_iinc (pc := 199) (v := (p38 + 1)) hx hb dM_inBaseline_199 hl (k := 1) rfl (by rfl) (by decide) rfl (fun ls hl => ?_)
                      have hl : lv_has ls 9 [(8, .int (p38 + 1)), (7, .int (p39 - 1)), (6, .int p40), (5, .int p41), (4, .int p42), (0, .ref (ad 4 0)), (1, .int p43), (2, .int p44), (3, .int p45)] := hl
                      refine lv_goto (pc := 202) (tgt := 154) hx hb dM_inBaseline_202 rfl ?_
                      have hl := lv_sub hl (l' := [(8, .int (p38 + 1)), (7, .int (p39 - 1)), (6, .int p40), (5, .int p41), (4, .int p42), (0, .ref (ad 4 0)), (1, .int p43), (2, .int p44), (3, .int p45)]) [0, 1, 2, 3, 4, 5, 6, 7, 8] rfl
                      exact ih47 (σ37, (p38 + 1), (p39 - 1), p40, p41, p42, p43, p44, p45, H, _, ls) ⟨hP, hD, hS, hC, hl⟩ hf
                  · replace hf := ite_f h52 hf
                    have hl := lv_sub hl (l' := [(8, .int p38), (7, .int p39), (6, .int p40), (5, .int p41), (4, .int p42), (0, .ref (ad 4 0)), (1, .int p43), (2, .int p44), (3, .int p45)]) [0, 1, 2, 3, 4, 5, 6, 7, 8] rfl
                    exact hJx51 (H, _, ls) ⟨hP, hD, hS, hl⟩ hf
                · rintro ⟨H, locs, ls⟩ ⟨hP, hD, hS, hl⟩ hf
                  dsimp only at hP hD hS hl hf ⊢
                  rw [hx51] at hf
                  have hl : lv_has ls 9 [(8, .int p38), (7, .int p39), (6, .int p40), (5, .int p41), (4, .int p42), (0, .ref (ad 4 0)), (1, .int p43), (2, .int p44), (3, .int p45)] := hl
                  refine lv_iload (pc := 169) hx hb dM_inBaseline_169 (lv_at hl 1 rfl) ?_
                  refine lv_if_le (pc := 171) (tgt := 205) hx hb dM_inBaseline_171 rfl (fun h57 => ?_) (fun h57 => ?_)
                  · replace hf := ite_t h57 hf
                    have hl := lv_sub hl (l' := [(8, .int p38), (7, .int p39), (6, .int p40), (5, .int p41), (4, .int p42), (0, .ref (ad 4 0)), (1, .int p43), (2, .int p44), (3, .int p45)]) [0, 1, 2, 3, 4, 5, 6, 7, 8] rfl
                    exact hXkx46 (σ37, p38, p39, p40, p41, p42, p43, p44, p45, H, _, ls) ⟨hP, hD, hS, hC, hl⟩ hf
                  · replace hf := ite_f h57 hf
                    refine lv_iload (pc := 174) hx hb dM_inBaseline_174 (lv_at hl 1 rfl) ?_
                    refine lv_aload_n (pc := 176) hx hb dM_inBaseline_176 rfl (lv_at hl 5 rfl) ?_
                    obtain ⟨q58, hq58, eq58⟩ := at_4 (ad := ad) (ca := ca) (σ := σ37) hm0
                    refine va_get (D := (dC, dI)) (cl := kCl) (C := RM) (T := TM) (N := 11) (pc := 177) hx hb hts inM hown hK.1 hP q58 eq58 rfl 2 (by decide) (hts _ wd_51) (fun _ h9 => h9) rfl dM_inBaseline_177 ?_
                    refine lv_iload (pc := 180) hx hb dM_inBaseline_180 (lv_at hl 3 rfl) ?_
                    refine lv_iconst (pc := 182) (v := 2) hx hb dM_inBaseline_182 (by decide) ?_
                    refine lv_iadd (pc := 183) hx hb dM_inBaseline_183 ?_
                    refine lv_iload (pc := 184) hx hb dM_inBaseline_184 (lv_at hl 0 rfl) ?_
                    refine lv_iadd (pc := 186) hx hb dM_inBaseline_186 ?_
                    obtain ⟨hv59, hf⟩ := ite_s hf
                    obtain ⟨q60, hq60, eq60⟩ := at_15 (ad := ad) (ca := ca) (σ := σ37) (cm_4_2 hC hm0)
                    refine va_iald (D := (dC, dI)) (cl := kCl) (pc := 187) hx hb (hK.2 15 0 .int (cm_4_2 hC hm0) rfl) hP q60 0 eq60 rfl (hv59) dM_inBaseline_187 ?_
                    refine W.eq (g2 := F0 m 188 ls [.int (xI σ37 15 0 (((p41 + 2) + p38)).toNatClampNeg), .int p39]) rfl ?_
                    refine lv_if_le (pc := 188) (tgt := 195) hx hb dM_inBaseline_188 rfl (fun h61 => ?_) (fun h61 => ?_)
                    · replace hf := ite_t h61 hf
                      refine lv_iconst (pc := 195) (v := 0) hx hb dM_inBaseline_195 (by decide) ?_
                      refine lv_isub (pc := 196) hx hb dM_inBaseline_196 ?_
                      refine lv_istore (pc := 197) hx hb dM_inBaseline_197 hl (by decide) rfl (fun ls hl => ?_)
                      have hl : lv_has ls 9 [(7, .int (p39 - 0)), (8, .int p38), (6, .int p40), (5, .int p41), (4, .int p42), (0, .ref (ad 4 0)), (1, .int p43), (2, .int p44), (3, .int p45)] := hl
                      refine lv_iinc (pc := 199) (v := (p38 + 1)) hx hb dM_inBaseline_199 hl (k := 1) rfl (by rfl) (by decide) rfl (fun ls hl => ?_)
                      have hl : lv_has ls 9 [(8, .int (p38 + 1)), (7, .int (p39 - 0)), (6, .int p40), (5, .int p41), (4, .int p42), (0, .ref (ad 4 0)), (1, .int p43), (2, .int p44), (3, .int p45)] := hl
                      refine lv_goto (pc := 202) (tgt := 154) hx hb dM_inBaseline_202 rfl ?_
                      have hl := lv_sub hl (l' := [(8, .int (p38 + 1)), (7, .int (p39 - 0)), (6, .int p40), (5, .int p41), (4, .int p42), (0, .ref (ad 4 0)), (1, .int p43), (2, .int p44), (3, .int p45)]) [0, 1, 2, 3, 4, 5, 6, 7, 8] rfl
                      exact ih47 (σ37, (p38 + 1), (p39 - 0), p40, p41, p42, p43, p44, p45, H, _, ls) ⟨hP, hD, hS, hC, hl⟩ hf
                    · replace hf := ite_f h61 hf
                      refine lv_iconst (pc := 191) (v := 1) hx hb dM_inBaseline_191 (by decide) ?_
                      refine lv_goto (pc := 192) (tgt := 196) hx hb dM_inBaseline_192 rfl ?_
                      refine lv_isub (pc := 196) hx hb dM_inBaseline_196 ?_
                      refine lv_istore (pc := 197) hx hb dM_inBaseline_197 hl (by decide) rfl (fun ls hl => ?_)
                      have hl : lv_has ls 9 [(7, .int (p39 - 1)), (8, .int p38), (6, .int p40), (5, .int p41), (4, .int p42), (0, .ref (ad 4 0)), (1, .int p43), (2, .int p44), (3, .int p45)] := hl
                      refine lv_iinc (pc := 199) (v := (p38 + 1)) hx hb dM_inBaseline_199 hl (k := 1) rfl (by rfl) (by decide) rfl (fun ls hl => ?_)
                      have hl : lv_has ls 9 [(8, .int (p38 + 1)), (7, .int (p39 - 1)), (6, .int p40), (5, .int p41), (4, .int p42), (0, .ref (ad 4 0)), (1, .int p43), (2, .int p44), (3, .int p45)] := hl
                      refine lv_goto (pc := 202) (tgt := 154) hx hb dM_inBaseline_202 rfl ?_
                      have hl := lv_sub hl (l' := [(8, .int (p38 + 1)), (7, .int (p39 - 1)), (6, .int p40), (5, .int p41), (4, .int p42), (0, .ref (ad 4 0)), (1, .int p43), (2, .int p44), (3, .int p45)]) [0, 1, 2, 3, 4, 5, 6, 7, 8] rfl
                      exact ih47 (σ37, (p38 + 1), (p39 - 1), p40, p41, p42, p43, p44, p45, H, _, ls) ⟨hP, hD, hS, hC, hl⟩ hf
              · rintro ⟨σ37, p38, p39, p40, p41, p42, p43, p44, p45, H, locs, ls⟩ ⟨hP, hD, hS, hC, hl⟩ hf
                dsimp only at hP hD hS hC hl hf ⊢
                rw [hkx46] at hf
                have hl : lv_has ls 9 [(8, .int p38), (7, .int p39), (6, .int p40), (5, .int p41), (4, .int p42), (0, .ref (ad 4 0)), (1, .int p43), (2, .int p44), (3, .int p45)] := hl
                refine lv_iload_n (pc := 205) hx hb dM_inBaseline_205 rfl (lv_at hl 8 rfl) ?_
                refine lv_if_ne (pc := 206) (tgt := 214) hx hb dM_inBaseline_206 rfl (fun h62 => ?_) (fun h62 => ?_)
                · replace hf := ite_f h62 hf
                  refine lv_aload_n (pc := 214) hx hb dM_inBaseline_214 rfl (lv_at hl 5 rfl) ?_
                  obtain ⟨q63, hq63, eq63⟩ := at_4 (ad := ad) (ca := ca) (σ := σ37) hm0
                  refine va_get (D := (dC, dI)) (cl := kCl) (C := RM) (T := TM) (N := 11) (pc := 215) hx hb hts inM hown hK.1 hP q63 eq63 rfl 2 (by decide) (hts _ wd_51) (fun _ h9 => h9) rfl dM_inBaseline_215 ?_
                  refine lv_iload (pc := 218) hx hb dM_inBaseline_218 (lv_at hl 3 rfl) ?_
                  refine lv_iconst (pc := 220) (v := 2) hx hb dM_inBaseline_220 (by decide) ?_
                  refine lv_iadd (pc := 221) hx hb dM_inBaseline_221 ?_
                  refine lv_iload (pc := 222) hx hb dM_inBaseline_222 (lv_at hl 0 rfl) ?_
                  refine lv_iadd (pc := 224) hx hb dM_inBaseline_224 ?_
                  obtain ⟨hv64, hf⟩ := ite_s hf
                  obtain ⟨q65, hq65, eq65⟩ := at_15 (ad := ad) (ca := ca) (σ := σ37) (cm_4_2 hC hm0)
                  refine va_iald (D := (dC, dI)) (cl := kCl) (pc := 225) hx hb (hK.2 15 0 .int (cm_4_2 hC hm0) rfl) hP q65 0 eq65 rfl (hv64) dM_inBaseline_225 ?_
                  refine W.eq (g2 := F0 m 226 ls [.int (xI σ37 15 0 (((p41 + 2) + p38)).toNatClampNeg)]) rfl ?_
                  refine lv_iconst (pc := 226) (v := 1) hx hb dM_inBaseline_226 (by decide) ?_
                  refine lv_isub (pc := 227) hx hb dM_inBaseline_227 ?_
                  obtain ⟨h8, h9⟩ := Prod.mk.inj (Option.some.inj hf)
                  subst h9
                  exact W.iret (pc := 228) hx hb hr (fun t ht hW => ⟨⟨_, (), rfl, h8, by rw [ht]; exact hP, hD, hC⟩, hS.F ht⟩) hS.2.2 dM_inBaseline_228
                · replace hf := ite_t h62 hf
                  refine lv_iload (pc := 209) hx hb dM_inBaseline_209 (lv_at hl 0 rfl) ?_
                  refine lv_goto (pc := 211) (tgt := 228) hx hb dM_inBaseline_211 rfl ?_
                  obtain ⟨h8, h9⟩ := Prod.mk.inj (Option.some.inj hf)
                  subst h9
                  exact W.iret (pc := 228) hx hb hr (fun t ht hW => ⟨⟨_, (), rfl, h8, by rw [ht]; exact hP, hD, hC⟩, hS.F ht⟩) hS.2.2 dM_inBaseline_228
            · replace hf := ite_t h36 hf
              refine lv_aload_n (pc := 138) hx hb dM_inBaseline_138 rfl (lv_at hl 3 rfl) ?_
              obtain ⟨q66, hq66, eq66⟩ := at_4 (ad := ad) (ca := ca) (σ := σ33) hm0
              refine va_get (D := (dC, dI)) (cl := kCl) (C := RM) (T := TM) (N := 11) (pc := 139) hx hb hts inM hown hK.1 hP q66 eq66 rfl 2 (by decide) (hts _ wd_51) (fun _ h9 => h9) rfl dM_inBaseline_139 ?_
              refine lv_iload (pc := 142) hx hb dM_inBaseline_142 (lv_at hl 1 rfl) ?_
              refine lv_iconst (pc := 144) (v := 1) hx hb dM_inBaseline_144 (by decide) ?_
              refine lv_iadd (pc := 145) hx hb dM_inBaseline_145 ?_
              obtain ⟨hv67, hf⟩ := ite_s hf
              obtain ⟨q68, hq68, eq68⟩ := at_15 (ad := ad) (ca := ca) (σ := σ33) (cm_4_2 hC hm0)
              refine va_iald (D := (dC, dI)) (cl := kCl) (pc := 146) hx hb (hK.2 15 0 .int (cm_4_2 hC hm0) rfl) hP q68 0 eq68 rfl (hv67) dM_inBaseline_146 ?_
              refine W.eq (g2 := F0 m 147 ls [.int (xI σ33 15 0 ((s15 + 1)).toNatClampNeg)]) rfl ?_
              obtain ⟨h8, h9⟩ := Prod.mk.inj (Option.some.inj hf)
              subst h9
              exact W.iret (pc := 147) hx hb hr (fun t ht hW => ⟨⟨_, (), rfl, h8, by rw [ht]; exact hP, hD, hC⟩, hS.F ht⟩) hS.2.2 dM_inBaseline_147
          · replace hf := ite_t h35 hf
            refine lv_iconst (pc := 131) (v := 0) hx hb dM_inBaseline_131 (by decide) ?_
            obtain ⟨h8, h9⟩ := Prod.mk.inj (Option.some.inj hf)
            subst h9
            exact W.iret (pc := 132) hx hb hr (fun t ht hW => ⟨⟨_, (), rfl, h8, by rw [ht]; exact hP, hD, hC⟩, hS.F ht⟩) hS.2.2 dM_inBaseline_132
def M_user_L52 (n : Nat) (kx31 : hT → Int32 → Int32 → Int32 → Int32 → Int32 → Int32 → Int32 → Int32 → Option (Int32 × hT)) : Nat → hT → Int32 → Int32 → Int32 → Int32 → Int32 → Int32 → Int32 → Int32 → Option (Int32 × hT)
  | 0, _, _, _, _, _, _, _, _, _ => none
  | k + 1, σ22, p23, p24, p25, p26, p27, p28, p29, p30 => if p25 ≤ p23 then kx31 (σ22) p23 p24 p25 p26 p27 p28 p29 p30 else if p29 = 0 then Option.bind (M_uses n σ22 p23 p28) fun y36 => if y36 = 0 then M_user_L52 n kx31 k (σ22) (p23 + 1) (p24 + 0) p25 p26 p27 p28 p29 p30 else M_user_L52 n kx31 k (σ22) (p23 + 1) (p24 + 1) p25 p26 p27 p28 p29 p30 else if in9 p23 24 then if (xI σ22 17 0 (p23).toNatClampNeg) = 0 then M_user_L52 n kx31 k (σ22) (p23 + 1) (p24 + 0) p25 p26 p27 p28 p29 p30 else M_user_L52 n kx31 k (σ22) (p23 + 1) (p24 + 1) p25 p26 p27 p28 p29 p30 else none
def M_user_L41 (n : Nat) (kx19 : hT → Int32 → Int32 → Int32 → Int32 → Int32 → Int32 → Option (Int32 × hT)) : Nat → hT → Int32 → Int32 → Int32 → Int32 → Int32 → Int32 → Option (Int32 × hT)
  | 0, _, _, _, _, _, _, _ => none
  | k + 1, σ12, p13, p14, p15, p16, p17, p18 => if p13 < 0 then kx19 (σ12) p13 p14 p15 p16 p17 p18 else lt9 (α := hT → Int32 → Int32 → Int32 → Int32 → Int32 → Int32 → Int32 → Int32 → Option (Int32 × hT)) (fun (σ22 : hT) (p23 : Int32) (p24 : Int32) (p25 : Int32) (p26 : Int32) (p27 : Int32) (p28 : Int32) (p29 : Int32) (p30 : Int32) => if p29 = 0 then Option.bind (M_uses n σ22 p25 p28) fun y44 => if y44 = 0 then M_user_L41 n kx19 k (σ22) (p25 + (-1)) p26 p27 p28 p29 p30 else if p24 = p27 then M_user_L41 n kx19 k (σ22) (p25 + (-1)) p25 p27 p28 p29 p30 else M_user_L41 n kx19 k (σ22) (p25 + (-1)) p26 p27 p28 p29 p30 else if in9 p25 24 then if (xI σ22 17 0 (p25).toNatClampNeg) = 0 then M_user_L41 n kx19 k (σ22) (p25 + (-1)) p26 p27 p28 p29 p30 else if p24 = p27 then M_user_L41 n kx19 k (σ22) (p25 + (-1)) p25 p27 p28 p29 p30 else M_user_L41 n kx19 k (σ22) (p25 + (-1)) p26 p27 p28 p29 p30 else none) fun kx31 => M_user_L52 n kx31 n (σ12) 0 0 p13 p14 p15 p16 p17 p18
def M_user (n : Nat) (σ : hT) (a1 : Int32) (a2 : Int32) (a3 : Int32) : Option (Int32 × hT) := lt9 (sI σ 500 0 0 0) fun σ1 => Option.bind (M_isDrawing σ1 a1) fun y4 => if y4 = 0 then some ((-1), σ1) else if 0 ≤ a3 then Option.bind (M_markUsers n σ1 a1) fun ⟨y8, σ9⟩ => lt9 (α := hT → Int32 → Int32 → Int32 → Int32 → Int32 → Int32 → Option (Int32 × hT)) (fun (σ12 : hT) (p13 : Int32) (p14 : Int32) (p15 : Int32) (p16 : Int32) (p17 : Int32) (p18 : Int32) => some (p14, σ12)) fun kx19 => M_user_L41 n kx19 n (σ9) ((xI σ9 15 0 16) - 1) (-1) a3 a1 a2 a3 else some ((-1), σ1)
set_option maxHeartbeats 4000000 in
set_option maxRecDepth 100000 in
theorem t_M_user (l : Launch) (dC : Nat → ClassId) (dI : Nat → Nat → Nat) (ad : Nat → Nat → Nat) (ca : Nat → Nat → ClassId) (dom : List (Nat × Nat)) (sz : Nat) (n : Nat) (σ : hT) (a1 : Int32) (a2 : Int32) (a3 : Int32) (hm0 : (4, 0) ∈ dom) (hN : dom.Nodup) (hC : clo dom σ.2.2) (ρ : Int32) (σ' : hT) (hf : M_user n σ a1 a2 a3 = some (ρ, σ')) : Met l yM_user (.code yM_user cM_user 9 (some .int) :: aw) ({ frames := 4, cells := 0, slots := 0, locals := 92 }) (hW (dC, dI) sz ad ca dom σ [.ref (ad 4 0), .int a1, .int a2, .int a3]) (va_Qi (fun r (_ : Unit) => r = ρ) (fun _ t => hB (dC, dI) (va_A (w9 ad ca dom σ) sz) ad ca dom σ' t) (va_A (w9 ad ca dom σ) sz)) 0 0 (va_A (w9 ad ca dom σ) sz) := by
  refine Met.ofW (cc := cM_user) (maxL := 9) (ret := (some .int)) (by decide) rfl ?_
  intro p e s m args below meth c s₁ B hml hv
  obtain ⟨rfl, hv⟩ := hv
  have hx := B.exec
  have hb := B.bytes
  have hr := B.returns
  have hts : ∀ w ∈ aw, w.before _ s = true := fun w h => atoms_spec (ws := (.code yM_user cM_user 9 (some .int) :: aw)) B.pre w (List.mem_cons_of_mem _ h)
  have hown : s.vm.findClass RM = some m.cls := findClass_of_methodNamed B.named
  have hlocks := B.notSynchronized
  obtain ⟨hsz, hP, hK, hD0, hG⟩ := hv
  subst hsz
  have hD := hD0.self (sz := s.heap.size)
  generalize hAe : va_A (w9 ad ca dom σ) s.heap.size = A at hD ⊢
  have hA : ∀ q : Nat, s.heap.size ≤ q → A q := fun q h => by rw [← hAe]; exact Or.inr h
  obtain ⟨H, hH⟩ : ∃ H, H = s.heap := ⟨_, rfl⟩
  have hS : va_S A s.heap H [] := by rw [hH]; exact va_S.rf
  rw [← hH] at hP ⊢
  unfold M_user at hf
  have hl := lv_entry ([.ref (ad 4 0), .int a1, .int a2, .int a3]) (n := 9) (Nat.le_of_ble_eq_true rfl)
  rw [lg_entry_eq]
  generalize (lg_sl ([.ref (ad 4 0), .int a1, .int a2, .int a3]) ++ List.replicate (9 - (lg_sl ([.ref (ad 4 0), .int a1, .int a2, .int a3])).length) Slot.unset).toArray = ls at hl ⊢
  have hl : lv_has ls 9 [(0, .ref (ad 4 0)), (1, .int a1), (2, .int a2), (3, .int a3)] := hl
  refine lv_aload_n (pc := 0) hx hb dM_user_0 rfl (lv_at hl 0 rfl) ?_
  refine lv_iconst (pc := 1) (v := 0) hx hb dM_user_1 (by decide) ?_
  obtain ⟨q2, hq2, eq2⟩ := at_4 (ad := ad) (ca := ca) (σ := σ) hm0
  refine va_put (D := (dC, dI)) (cl := kCl) (ci := 4) (v := .int 0) (ty := .int) (C := RM) (T := TM) (N := 11) (pc := 2) hx hb hts inM tyM tyM_ok nmM hown hK.1 hP hD hS q2 eq2 rfl 0 (by decide) (hts _ wd_45) (fun _ h9 => h9) rfl (by decide +kernel) (rfl) (rfl) (Nat.le_of_ble_eq_true rfl) dM_user_2 (fun H locs hP hD hS => ?_)
  obtain ⟨σ1, hσ1, hf⟩ := lt_9 hf
  obtain ⟨hP, hD⟩ := w9_rI 500 rfl hN hq2 hσ1 (pu_500) hP hD
  have hC : clo dom σ1.2.2 := by rw [hσ1]; exact hC
  refine lv_aload_n (pc := 5) hx hb dM_user_5 rfl (lv_at hl 0 rfl) ?_
  refine lv_iload_n (pc := 6) hx hb dM_user_6 rfl (lv_at hl 1 rfl) ?_
  obtain ⟨q3, hq3, eq3⟩ := at_4 (ad := ad) (ca := ca) (σ := σ1) hm0
  obtain ⟨y4, hy4, hf⟩ := ob hf
  refine vp_callSi (pc := 7) (W.runV (As := [.int a1]) (rest := []) ⟨hx, hb, hml, hown, hts⟩ (t_M_isDrawing l dC dI ad ca dom σ1 a1 hm0 hN hC y4 hy4) (cwV 1 hts (gV wd_57 wd_58 wd_59 wd_50 wd_56) rfl rfl rfl (by decide +kernel) ⟨Nat.le_of_ble_eq_true rfl, Nat.le_of_ble_eq_true rfl⟩) ⟨hR_blind, va_recv (q := (RM, TM, 11)) (q0 := q3) (ci := 4) hK.1 hP rfl eq3, hR_pre hP hK hG⟩ rfl rfl hl.1 rfl (lv_room (Nat.le_of_ble_eq_true rfl)) dM_user_7 ⟨Nat.le_of_ble_eq_true rfl, Nat.le_of_ble_eq_true rfl⟩) (fun r9 hr9 => ?_)
  refine W.eq (g2 := F0 m 10 ls [.int y4]) (by rw [hr9]) ?_
  refine lv_if_eq (pc := 10) (tgt := 17) hx hb dM_user_10 rfl (fun h5 => ?_) (fun h5 => ?_)
  · replace hf := ite_t h5 hf
    refine lv_iconst (pc := 17) (v := (-1)) hx hb dM_user_17 (by decide) ?_
    obtain ⟨h8, h9⟩ := Prod.mk.inj (Option.some.inj hf)
    subst h9
    exact W.iret (pc := 18) hx hb hr (fun t ht hW => ⟨⟨_, (), rfl, h8, by rw [ht]; exact hP, hD, hC⟩, hS.F ht⟩) hS.2.2 dM_user_18
  · replace hf := ite_f h5 hf
    refine lv_iload_n (pc := 13) hx hb dM_user_13 rfl (lv_at hl 3 rfl) ?_
    refine lv_if_ge (pc := 14) (tgt := 19) hx hb dM_user_14 rfl (fun h6 => ?_) (fun h6 => ?_)
    · replace hf := ite_t h6 hf
      refine lv_aload_n (pc := 19) hx hb dM_user_19 rfl (lv_at hl 0 rfl) ?_
      refine lv_iload_n (pc := 20) hx hb dM_user_20 rfl (lv_at hl 1 rfl) ?_
      obtain ⟨q7, hq7, eq7⟩ := at_4 (ad := ad) (ca := ca) (σ := σ1) hm0
      obtain ⟨⟨y8, σ9⟩, hy8, hf⟩ := ob hf
      have hFc := w9_free hD hS hA
      refine va_callv (pc := 21) (va_runV (As := [.int a1]) (rest := []) ⟨hx, hb, hml, hown, hts⟩ (t_M_markUsers l dC dI ad ca dom H.size n σ1 a1 hm0 hN hC y8 σ9 hy8) (cwV 1 hts (gV wd_180 wd_181 wd_182 wd_50 wd_179) rfl rfl rfl (by decide +kernel) ⟨Nat.le_of_ble_eq_true rfl, Nat.le_of_ble_eq_true rfl⟩) ⟨hW_blind, va_recv (q := (RM, TM, 11)) (q0 := q7) (ci := 4) hK.1 hP rfl eq7, hW_pre hP hK hD hG⟩ rfl rfl hl.1 rfl (lv_room (Nat.le_of_ble_eq_true rfl)) dM_user_21 ⟨Nat.le_of_ble_eq_true rfl, Nat.le_of_ble_eq_true rfl⟩) hS (fun q _ h => hFc q h) hFc (fun u t H1 locs ht hvm hr9 hB hz1 hk1 hS => ?_)
      obtain ⟨hP, hD, hC⟩ := hB
      rw [ht] at hP
      replace hD := hD.weaken (fun _ _ _ h => hFc _ h)
      generalize H1 = H at hP hS ⊢
      refine lv_iload_n (pc := 24) hx hb dM_user_24 rfl (lv_at hl 3 rfl) ?_
      refine lv_istore (pc := 25) hx hb dM_user_25 hl (by decide) rfl (fun ls hl => ?_)
      have hl : lv_has ls 9 [(4, .int a3), (0, .ref (ad 4 0)), (1, .int a1), (2, .int a2), (3, .int a3)] := hl
      refine lv_iconst (pc := 27) (v := (-1)) hx hb dM_user_27 (by decide) ?_
      refine lv_istore (pc := 28) hx hb dM_user_28 hl (by decide) rfl (fun ls hl => ?_)
      have hl : lv_has ls 9 [(5, .int (-1)), (4, .int a3), (0, .ref (ad 4 0)), (1, .int a1), (2, .int a2), (3, .int a3)] := hl
      refine lv_aload_n (pc := 30) hx hb dM_user_30 rfl (lv_at hl 2 rfl) ?_
      obtain ⟨q10, hq10, eq10⟩ := at_4 (ad := ad) (ca := ca) (σ := σ9) hm0
      refine va_get (D := (dC, dI)) (cl := kCl) (C := RM) (T := TM) (N := 11) (pc := 31) hx hb hts inM hown hK.1 hP q10 eq10 rfl 2 (by decide) (hts _ wd_51) (fun _ h9 => h9) rfl dM_user_31 ?_
      refine lv_bipush (pc := 34) (v := 16) hx hb dM_user_34 (by decide) ?_
      obtain ⟨q11, hq11, eq11⟩ := at_15 (ad := ad) (ca := ca) (σ := σ9) (cm_4_2 hC hm0)
      refine va_iald (D := (dC, dI)) (cl := kCl) (pc := 36) hx hb (hK.2 15 0 .int (cm_4_2 hC hm0) rfl) hP q11 0 eq11 rfl (vp_in_lit 16 25240 (by decide)) dM_user_36 ?_
      refine W.eq (g2 := F0 m 37 ls [.int (xI σ9 15 0 16)]) rfl ?_
      refine lv_iconst (pc := 37) (v := 1) hx hb dM_user_37 (by decide) ?_
      refine lv_isub (pc := 38) hx hb dM_user_38 ?_
      refine lv_istore (pc := 39) hx hb dM_user_39 hl (by decide) rfl (fun ls hl => ?_)
      have hl : lv_has ls 9 [(6, .int ((xI σ9 15 0 16) - 1)), (5, .int (-1)), (4, .int a3), (0, .ref (ad 4 0)), (1, .int a1), (2, .int a2), (3, .int a3)] := hl
      obtain ⟨kx19, hkx19, hf⟩ := lt_9 hf
      refine lpF (τ := (hT) × (Int32) × (Int32) × (Int32) × (Int32) × (Int32) × (Int32) × (Heap) × (List Loc) × (Array Slot)) (fun pc z => W p l e _ s m _ below meth c z.2.2.2.2.2.2.2.1 z.2.2.2.2.2.2.2.2.1 0 0 _ (F0 m pc z.2.2.2.2.2.2.2.2.2 [])) 41 156 (fun z => va_P (dC, dI) kCl (w9 ad ca dom z.1) z.2.2.2.2.2.2.2.1 ∧ va_D A (w9 ad ca dom z.1) ∧ va_S A s.heap z.2.2.2.2.2.2.2.1 z.2.2.2.2.2.2.2.2.1 ∧ clo dom z.1.2.2 ∧ lv_has z.2.2.2.2.2.2.2.2.2 9 [(6, .int z.2.1), (5, .int z.2.2.1), (4, .int z.2.2.2.1), (0, .ref (ad 4 0)), (1, .int z.2.2.2.2.1), (2, .int z.2.2.2.2.2.1), (3, .int z.2.2.2.2.2.2.1)]) (fun k z => M_user_L41 n kx19 k z.1 z.2.1 z.2.2.1 z.2.2.2.1 z.2.2.2.2.1 z.2.2.2.2.2.1 z.2.2.2.2.2.2.1) (fun z => kx19 z.1 z.2.1 z.2.2.1 z.2.2.2.1 z.2.2.2.2.1 z.2.2.2.2.2.1 z.2.2.2.2.2.2.1) _ (fun z => rfl) ?_ ?_ n (σ9, ((xI σ9 15 0 16) - 1), (-1), a3, a1, a2, a3, H, _, ls) ⟨hP, hD, hS, hC, hl⟩ hf
      · rintro k ⟨σ12, p13, p14, p15, p16, p17, p18, H, locs, ls⟩ ⟨hP, hD, hS, hC, hl⟩ hf ih20 hXkx19
        dsimp only at hP hD hS hC hl hf ih20 hXkx19 ⊢
        unfold M_user_L41 at hf
        have hl : lv_has ls 9 [(6, .int p13), (5, .int p14), (4, .int p15), (0, .ref (ad 4 0)), (1, .int p16), (2, .int p17), (3, .int p18)] := hl
        refine lv_iload (pc := 41) hx hb dM_user_41 (lv_at hl 0 rfl) ?_
        refine lv_if_lt (pc := 43) (tgt := 156) hx hb dM_user_43 rfl (fun h21 => ?_) (fun h21 => ?_)
        · replace hf := ite_t h21 hf
          have hl := lv_sub hl (l' := [(6, .int p13), (5, .int p14), (4, .int p15), (0, .ref (ad 4 0)), (1, .int p16), (2, .int p17), (3, .int p18)]) [0, 1, 2, 3, 4, 5, 6] rfl
          exact hXkx19 (σ12, p13, p14, p15, p16, p17, p18, H, _, ls) ⟨hP, hD, hS, hC, hl⟩ hf
        · replace hf := ite_f h21 hf
          refine lv_iconst (pc := 46) (v := 0) hx hb dM_user_46 (by decide) ?_
          refine lv_istore (pc := 47) hx hb dM_user_47 hl (by decide) rfl (fun ls hl => ?_)
          have hl : lv_has ls 9 [(7, .int 0), (6, .int p13), (5, .int p14), (4, .int p15), (0, .ref (ad 4 0)), (1, .int p16), (2, .int p17), (3, .int p18)] := hl
          refine lv_iconst (pc := 49) (v := 0) hx hb dM_user_49 (by decide) ?_
          refine lv_istore (pc := 50) hx hb dM_user_50 hl (by decide) rfl (fun ls hl => ?_)
          have hl : lv_has ls 9 [(8, .int 0), (7, .int 0), (6, .int p13), (5, .int p14), (4, .int p15), (0, .ref (ad 4 0)), (1, .int p16), (2, .int p17), (3, .int p18)] := hl
          obtain ⟨kx31, hkx31, hf⟩ := lt_9 hf
          refine lpF (τ := (hT) × (Int32) × (Int32) × (Int32) × (Int32) × (Int32) × (Int32) × (Int32) × (Int32) × (Heap) × (List Loc) × (Array Slot)) (fun pc z => W p l e _ s m _ below meth c z.2.2.2.2.2.2.2.2.2.1 z.2.2.2.2.2.2.2.2.2.2.1 0 0 _ (F0 m pc z.2.2.2.2.2.2.2.2.2.2.2 [])) 52 107 (fun z => va_P (dC, dI) kCl (w9 ad ca dom z.1) z.2.2.2.2.2.2.2.2.2.1 ∧ va_D A (w9 ad ca dom z.1) ∧ va_S A s.heap z.2.2.2.2.2.2.2.2.2.1 z.2.2.2.2.2.2.2.2.2.2.1 ∧ clo dom z.1.2.2 ∧ lv_has z.2.2.2.2.2.2.2.2.2.2.2 9 [(8, .int z.2.1), (7, .int z.2.2.1), (6, .int z.2.2.2.1), (5, .int z.2.2.2.2.1), (4, .int z.2.2.2.2.2.1), (0, .ref (ad 4 0)), (1, .int z.2.2.2.2.2.2.1), (2, .int z.2.2.2.2.2.2.2.1), (3, .int z.2.2.2.2.2.2.2.2.1)]) (fun k z => M_user_L52 n kx31 k z.1 z.2.1 z.2.2.1 z.2.2.2.1 z.2.2.2.2.1 z.2.2.2.2.2.1 z.2.2.2.2.2.2.1 z.2.2.2.2.2.2.2.1 z.2.2.2.2.2.2.2.2.1) (fun z => kx31 z.1 z.2.1 z.2.2.1 z.2.2.2.1 z.2.2.2.2.1 z.2.2.2.2.2.1 z.2.2.2.2.2.2.1 z.2.2.2.2.2.2.2.1 z.2.2.2.2.2.2.2.2.1) _ (fun z => rfl) ?_ ?_ n (σ12, 0, 0, p13, p14, p15, p16, p17, p18, H, _, ls) ⟨hP, hD, hS, hC, hl⟩ hf
          · rintro k ⟨σ22, p23, p24, p25, p26, p27, p28, p29, p30, H, locs, ls⟩ ⟨hP, hD, hS, hC, hl⟩ hf ih32 hXkx31
            dsimp only at hP hD hS hC hl hf ih32 hXkx31 ⊢
            unfold M_user_L52 at hf
            have hl : lv_has ls 9 [(8, .int p23), (7, .int p24), (6, .int p25), (5, .int p26), (4, .int p27), (0, .ref (ad 4 0)), (1, .int p28), (2, .int p29), (3, .int p30)] := hl
            refine lv_iload (pc := 52) hx hb dM_user_52 (lv_at hl 0 rfl) ?_
            refine lv_iload (pc := 54) hx hb dM_user_54 (lv_at hl 2 rfl) ?_
            refine lv_icmp_ge (pc := 56) (tgt := 107) hx hb dM_user_56 rfl (fun h33 => ?_) (fun h33 => ?_)
            · replace hf := ite_t h33 hf
              have hl := lv_sub hl (l' := [(8, .int p23), (7, .int p24), (6, .int p25), (5, .int p26), (4, .int p27), (0, .ref (ad 4 0)), (1, .int p28), (2, .int p29), (3, .int p30)]) [0, 1, 2, 3, 4, 5, 6, 7, 8] rfl
              exact hXkx31 (σ22, p23, p24, p25, p26, p27, p28, p29, p30, H, _, ls) ⟨hP, hD, hS, hC, hl⟩ hf
            · replace hf := ite_f h33 hf
              refine lv_iload (pc := 59) hx hb dM_user_59 (lv_at hl 1 rfl) ?_
              refine lv_iload_n (pc := 61) hx hb dM_user_61 rfl (lv_at hl 7 rfl) ?_
              refine lv_if_eq (pc := 62) (tgt := 83) hx hb dM_user_62 rfl (fun h34 => ?_) (fun h34 => ?_)
              · replace hf := ite_t h34 hf
                refine lv_aload_n (pc := 83) hx hb dM_user_83 rfl (lv_at hl 5 rfl) ?_
                refine lv_iload (pc := 84) hx hb dM_user_84 (lv_at hl 0 rfl) ?_
                refine lv_iload_n (pc := 86) hx hb dM_user_86 rfl (lv_at hl 6 rfl) ?_
                obtain ⟨q35, hq35, eq35⟩ := at_4 (ad := ad) (ca := ca) (σ := σ22) hm0
                obtain ⟨y36, hy36, hf⟩ := ob hf
                refine vp_callSi (pc := 87) (W.runV (As := [.int p23, .int p28]) (rest := [.int p24]) ⟨hx, hb, hml, hown, hts⟩ (t_M_uses l dC dI ad ca dom n σ22 p23 p28 hm0 hN hC y36 hy36) (cwV 2 hts (gV wd_176 wd_177 wd_178 wd_50 wd_175) rfl rfl rfl (by decide +kernel) ⟨Nat.le_of_ble_eq_true rfl, Nat.le_of_ble_eq_true rfl⟩) ⟨hR_blind, va_recv (q := (RM, TM, 11)) (q0 := q35) (ci := 4) hK.1 hP rfl eq35, hR_pre hP hK hG⟩ rfl rfl hl.1 rfl (lv_room (Nat.le_of_ble_eq_true rfl)) dM_user_87 ⟨Nat.le_of_ble_eq_true rfl, Nat.le_of_ble_eq_true rfl⟩) (fun r9 hr9 => ?_)
                refine W.eq (g2 := F0 m 90 ls [.int y36, .int p24]) (by rw [hr9]) ?_
                refine lv_if_eq (pc := 90) (tgt := 97) hx hb dM_user_90 rfl (fun h37 => ?_) (fun h37 => ?_)
                · replace hf := ite_t h37 hf
                  refine lv_iconst (pc := 97) (v := 0) hx hb dM_user_97 (by decide) ?_
                  refine lv_iadd (pc := 98) hx hb dM_user_98 ?_
                  refine lv_istore (pc := 99) hx hb dM_user_99 hl (by decide) rfl (fun ls hl => ?_)
                  have hl : lv_has ls 9 [(7, .int (p24 + 0)), (8, .int p23), (6, .int p25), (5, .int p26), (4, .int p27), (0, .ref (ad 4 0)), (1, .int p28), (2, .int p29), (3, .int p30)] := hl
                  refine lv_iinc (pc := 101) (v := (p23 + 1)) hx hb dM_user_101 hl (k := 1) rfl (by rfl) (by decide) rfl (fun ls hl => ?_)
                  have hl : lv_has ls 9 [(8, .int (p23 + 1)), (7, .int (p24 + 0)), (6, .int p25), (5, .int p26), (4, .int p27), (0, .ref (ad 4 0)), (1, .int p28), (2, .int p29), (3, .int p30)] := hl
                  refine lv_goto (pc := 104) (tgt := 52) hx hb dM_user_104 rfl ?_
                  have hl := lv_sub hl (l' := [(8, .int (p23 + 1)), (7, .int (p24 + 0)), (6, .int p25), (5, .int p26), (4, .int p27), (0, .ref (ad 4 0)), (1, .int p28), (2, .int p29), (3, .int p30)]) [0, 1, 2, 3, 4, 5, 6, 7, 8] rfl
                  exact ih32 (σ22, (p23 + 1), (p24 + 0), p25, p26, p27, p28, p29, p30, H, _, ls) ⟨hP, hD, hS, hC, hl⟩ hf
                · replace hf := ite_f h37 hf
                  refine lv_iconst (pc := 93) (v := 1) hx hb dM_user_93 (by decide) ?_
                  refine lv_goto (pc := 94) (tgt := 98) hx hb dM_user_94 rfl ?_
                  refine lv_iadd (pc := 98) hx hb dM_user_98 ?_
                  refine lv_istore (pc := 99) hx hb dM_user_99 hl (by decide) rfl (fun ls hl => ?_)
                  have hl : lv_has ls 9 [(7, .int (p24 + 1)), (8, .int p23), (6, .int p25), (5, .int p26), (4, .int p27), (0, .ref (ad 4 0)), (1, .int p28), (2, .int p29), (3, .int p30)] := hl
                  refine lv_iinc (pc := 101) (v := (p23 + 1)) hx hb dM_user_101 hl (k := 1) rfl (by rfl) (by decide) rfl (fun ls hl => ?_)
                  have hl : lv_has ls 9 [(8, .int (p23 + 1)), (7, .int (p24 + 1)), (6, .int p25), (5, .int p26), (4, .int p27), (0, .ref (ad 4 0)), (1, .int p28), (2, .int p29), (3, .int p30)] := hl
                  refine lv_goto (pc := 104) (tgt := 52) hx hb dM_user_104 rfl ?_
                  have hl := lv_sub hl (l' := [(8, .int (p23 + 1)), (7, .int (p24 + 1)), (6, .int p25), (5, .int p26), (4, .int p27), (0, .ref (ad 4 0)), (1, .int p28), (2, .int p29), (3, .int p30)]) [0, 1, 2, 3, 4, 5, 6, 7, 8] rfl
                  exact ih32 (σ22, (p23 + 1), (p24 + 1), p25, p26, p27, p28, p29, p30, H, _, ls) ⟨hP, hD, hS, hC, hl⟩ hf
              · replace hf := ite_f h34 hf
                refine lv_aload_n (pc := 65) hx hb dM_user_65 rfl (lv_at hl 5 rfl) ?_
                obtain ⟨q38, hq38, eq38⟩ := at_4 (ad := ad) (ca := ca) (σ := σ22) hm0
                refine va_get (D := (dC, dI)) (cl := kCl) (C := RM) (T := TM) (N := 11) (pc := 66) hx hb hts inM hown hK.1 hP q38 eq38 rfl 6 (by decide) (hts _ wd_174) (fun _ h9 => h9) rfl dM_user_66 ?_
                refine lv_iload (pc := 69) hx hb dM_user_69 (lv_at hl 0 rfl) ?_
                obtain ⟨hv39, hf⟩ := ite_s hf
                obtain ⟨q40, hq40, eq40⟩ := at_17 (ad := ad) (ca := ca) (σ := σ22) (cm_4_6 hC hm0)
                refine va_zald (D := (dC, dI)) (cl := kCl) (pc := 71) hx hb (hK.2 17 0 .boolean (cm_4_6 hC hm0) rfl) hP q40 0 eq40 rfl (hv39) dM_user_71 ?_
                refine W.eq (g2 := F0 m 72 ls [.int (xI σ22 17 0 (p23).toNatClampNeg), .int p24]) rfl ?_
                refine lv_if_eq (pc := 72) (tgt := 79) hx hb dM_user_72 rfl (fun h41 => ?_) (fun h41 => ?_)
                · replace hf := ite_t h41 hf
                  refine lv_iconst (pc := 79) (v := 0) hx hb dM_user_79 (by decide) ?_
                  refine lv_goto (pc := 80) (tgt := 98) hx hb dM_user_80 rfl ?_
                  refine lv_iadd (pc := 98) hx hb dM_user_98 ?_
                  refine lv_istore (pc := 99) hx hb dM_user_99 hl (by decide) rfl (fun ls hl => ?_)
                  have hl : lv_has ls 9 [(7, .int (p24 + 0)), (8, .int p23), (6, .int p25), (5, .int p26), (4, .int p27), (0, .ref (ad 4 0)), (1, .int p28), (2, .int p29), (3, .int p30)] := hl
                  refine lv_iinc (pc := 101) (v := (p23 + 1)) hx hb dM_user_101 hl (k := 1) rfl (by rfl) (by decide) rfl (fun ls hl => ?_)
                  have hl : lv_has ls 9 [(8, .int (p23 + 1)), (7, .int (p24 + 0)), (6, .int p25), (5, .int p26), (4, .int p27), (0, .ref (ad 4 0)), (1, .int p28), (2, .int p29), (3, .int p30)] := hl
                  refine lv_goto (pc := 104) (tgt := 52) hx hb dM_user_104 rfl ?_
                  have hl := lv_sub hl (l' := [(8, .int (p23 + 1)), (7, .int (p24 + 0)), (6, .int p25), (5, .int p26), (4, .int p27), (0, .ref (ad 4 0)), (1, .int p28), (2, .int p29), (3, .int p30)]) [0, 1, 2, 3, 4, 5, 6, 7, 8] rfl
                  exact ih32 (σ22, (p23 + 1), (p24 + 0), p25, p26, p27, p28, p29, p30, H, _, ls) ⟨hP, hD, hS, hC, hl⟩ hf
                · replace hf := ite_f h41 hf
                  refine lv_iconst (pc := 75) (v := 1) hx hb dM_user_75 (by decide) ?_
                  refine lv_goto (pc := 76) (tgt := 98) hx hb dM_user_76 rfl ?_
                  refine lv_iadd (pc := 98) hx hb dM_user_98 ?_
                  refine lv_istore (pc := 99) hx hb dM_user_99 hl (by decide) rfl (fun ls hl => ?_)
                  have hl : lv_has ls 9 [(7, .int (p24 + 1)), (8, .int p23), (6, .int p25), (5, .int p26), (4, .int p27), (0, .ref (ad 4 0)), (1, .int p28), (2, .int p29), (3, .int p30)] := hl
                  refine lv_iinc (pc := 101) (v := (p23 + 1)) hx hb dM_user_101 hl (k := 1) rfl (by rfl) (by decide) rfl (fun ls hl => ?_)
                  have hl : lv_has ls 9 [(8, .int (p23 + 1)), (7, .int (p24 + 1)), (6, .int p25), (5, .int p26), (4, .int p27), (0, .ref (ad 4 0)), (1, .int p28), (2, .int p29), (3, .int p30)] := hl
                  refine lv_goto (pc := 104) (tgt := 52) hx hb dM_user_104 rfl ?_
                  have hl := lv_sub hl (l' := [(8, .int (p23 + 1)), (7, .int (p24 + 1)), (6, .int p25), (5, .int p26), (4, .int p27), (0, .ref (ad 4 0)), (1, .int p28), (2, .int p29), (3, .int p30)]) [0, 1, 2, 3, 4, 5, 6, 7, 8] rfl
                  exact ih32 (σ22, (p23 + 1), (p24 + 1), p25, p26, p27, p28, p29, p30, H, _, ls) ⟨hP, hD, hS, hC, hl⟩ hf
          · rintro ⟨σ22, p23, p24, p25, p26, p27, p28, p29, p30, H, locs, ls⟩ ⟨hP, hD, hS, hC, hl⟩ hf
            dsimp only at hP hD hS hC hl hf ⊢
            rw [hkx31] at hf
            have hl : lv_has ls 9 [(8, .int p23), (7, .int p24), (6, .int p25), (5, .int p26), (4, .int p27), (0, .ref (ad 4 0)), (1, .int p28), (2, .int p29), (3, .int p30)] := hl
            refine lv_iload_n (pc := 107) hx hb dM_user_107 rfl (lv_at hl 7 rfl) ?_
            refine lv_if_eq (pc := 108) (tgt := 124) hx hb dM_user_108 rfl (fun h42 => ?_) (fun h42 => ?_)
            · replace hf := ite_t h42 hf
              refine lv_aload_n (pc := 124) hx hb dM_user_124 rfl (lv_at hl 5 rfl) ?_
              refine lv_iload (pc := 125) hx hb dM_user_125 (lv_at hl 2 rfl) ?_
              refine lv_iload_n (pc := 127) hx hb dM_user_127 rfl (lv_at hl 6 rfl) ?_
              obtain ⟨q43, hq43, eq43⟩ := at_4 (ad := ad) (ca := ca) (σ := σ22) hm0
              obtain ⟨y44, hy44, hf⟩ := ob hf
              refine vp_callSi (pc := 128) (W.runV (As := [.int p25, .int p28]) (rest := []) ⟨hx, hb, hml, hown, hts⟩ (t_M_uses l dC dI ad ca dom n σ22 p25 p28 hm0 hN hC y44 hy44) (cwV 2 hts (gV wd_176 wd_177 wd_178 wd_50 wd_175) rfl rfl rfl (by decide +kernel) ⟨Nat.le_of_ble_eq_true rfl, Nat.le_of_ble_eq_true rfl⟩) ⟨hR_blind, va_recv (q := (RM, TM, 11)) (q0 := q43) (ci := 4) hK.1 hP rfl eq43, hR_pre hP hK hG⟩ rfl rfl hl.1 rfl (lv_room (Nat.le_of_ble_eq_true rfl)) dM_user_128 ⟨Nat.le_of_ble_eq_true rfl, Nat.le_of_ble_eq_true rfl⟩) (fun r9 hr9 => ?_)
              refine W.eq (g2 := F0 m 131 ls [.int y44]) (by rw [hr9]) ?_
              refine lv_if_eq (pc := 131) (tgt := 146) hx hb dM_user_131 rfl (fun h45 => ?_) (fun h45 => ?_)
              · replace hf := ite_t h45 hf
                refine lv_iload (pc := 146) hx hb dM_user_146 (lv_at hl 3 rfl) ?_
                refine lv_istore (pc := 148) hx hb dM_user_148 hl (by decide) rfl (fun ls hl => ?_)
                have hl : lv_has ls 9 [(5, .int p26), (8, .int p23), (7, .int p24), (6, .int p25), (4, .int p27), (0, .ref (ad 4 0)), (1, .int p28), (2, .int p29), (3, .int p30)] := hl
                refine lv_iinc (pc := 150) (v := (p25 + (-1))) hx hb dM_user_150 hl (k := 3) rfl (by rfl) (by decide) rfl (fun ls hl => ?_)
                have hl : lv_has ls 9 [(6, .int (p25 + (-1))), (5, .int p26), (8, .int p23), (7, .int p24), (4, .int p27), (0, .ref (ad 4 0)), (1, .int p28), (2, .int p29), (3, .int p30)] := hl
                refine lv_goto (pc := 153) (tgt := 41) hx hb dM_user_153 rfl ?_
                have hl := lv_sub hl (l' := [(6, .int (p25 + (-1))), (5, .int p26), (4, .int p27), (0, .ref (ad 4 0)), (1, .int p28), (2, .int p29), (3, .int p30)]) [0, 1, 4, 5, 6, 7, 8] rfl
                exact ih20 (σ22, (p25 + (-1)), p26, p27, p28, p29, p30, H, _, ls) ⟨hP, hD, hS, hC, hl⟩ hf
              · replace hf := ite_f h45 hf
                refine lv_iload (pc := 134) hx hb dM_user_134 (lv_at hl 1 rfl) ?_
                refine lv_iload (pc := 136) hx hb dM_user_136 (lv_at hl 4 rfl) ?_
                refine lv_icmp_ne (pc := 138) (tgt := 146) hx hb dM_user_138 rfl (fun h46 => ?_) (fun h46 => ?_)
                · replace hf := ite_f h46 hf
                  refine lv_iload (pc := 146) hx hb dM_user_146 (lv_at hl 3 rfl) ?_
                  refine lv_istore (pc := 148) hx hb dM_user_148 hl (by decide) rfl (fun ls hl => ?_)
                  have hl : lv_has ls 9 [(5, .int p26), (8, .int p23), (7, .int p24), (6, .int p25), (4, .int p27), (0, .ref (ad 4 0)), (1, .int p28), (2, .int p29), (3, .int p30)] := hl
                  refine lv_iinc (pc := 150) (v := (p25 + (-1))) hx hb dM_user_150 hl (k := 3) rfl (by rfl) (by decide) rfl (fun ls hl => ?_)
                  have hl : lv_has ls 9 [(6, .int (p25 + (-1))), (5, .int p26), (8, .int p23), (7, .int p24), (4, .int p27), (0, .ref (ad 4 0)), (1, .int p28), (2, .int p29), (3, .int p30)] := hl
                  refine lv_goto (pc := 153) (tgt := 41) hx hb dM_user_153 rfl ?_
                  have hl := lv_sub hl (l' := [(6, .int (p25 + (-1))), (5, .int p26), (4, .int p27), (0, .ref (ad 4 0)), (1, .int p28), (2, .int p29), (3, .int p30)]) [0, 1, 4, 5, 6, 7, 8] rfl
                  exact ih20 (σ22, (p25 + (-1)), p26, p27, p28, p29, p30, H, _, ls) ⟨hP, hD, hS, hC, hl⟩ hf
                · replace hf := ite_t h46 hf
                  refine lv_iload (pc := 141) hx hb dM_user_141 (lv_at hl 2 rfl) ?_
                  refine lv_goto (pc := 143) (tgt := 148) hx hb dM_user_143 rfl ?_
                  refine lv_istore (pc := 148) hx hb dM_user_148 hl (by decide) rfl (fun ls hl => ?_)
                  have hl : lv_has ls 9 [(5, .int p25), (8, .int p23), (7, .int p24), (6, .int p25), (4, .int p27), (0, .ref (ad 4 0)), (1, .int p28), (2, .int p29), (3, .int p30)] := hl
                  refine lv_iinc (pc := 150) (v := (p25 + (-1))) hx hb dM_user_150 hl (k := 3) rfl (by rfl) (by decide) rfl (fun ls hl => ?_)
                  have hl : lv_has ls 9 [(6, .int (p25 + (-1))), (5, .int p25), (8, .int p23), (7, .int p24), (4, .int p27), (0, .ref (ad 4 0)), (1, .int p28), (2, .int p29), (3, .int p30)] := hl
                  refine lv_goto (pc := 153) (tgt := 41) hx hb dM_user_153 rfl ?_
                  have hl := lv_sub hl (l' := [(6, .int (p25 + (-1))), (5, .int p25), (4, .int p27), (0, .ref (ad 4 0)), (1, .int p28), (2, .int p29), (3, .int p30)]) [0, 1, 4, 5, 6, 7, 8] rfl
                  exact ih20 (σ22, (p25 + (-1)), p25, p27, p28, p29, p30, H, _, ls) ⟨hP, hD, hS, hC, hl⟩ hf
            · replace hf := ite_f h42 hf
              refine lv_aload_n (pc := 111) hx hb dM_user_111 rfl (lv_at hl 5 rfl) ?_
              obtain ⟨q47, hq47, eq47⟩ := at_4 (ad := ad) (ca := ca) (σ := σ22) hm0
              refine va_get (D := (dC, dI)) (cl := kCl) (C := RM) (T := TM) (N := 11) (pc := 112) hx hb hts inM hown hK.1 hP q47 eq47 rfl 6 (by decide) (hts _ wd_174) (fun _ h9 => h9) rfl dM_user_112 ?_
              refine lv_iload (pc := 115) hx hb dM_user_115 (lv_at hl 2 rfl) ?_
              obtain ⟨hv48, hf⟩ := ite_s hf
              obtain ⟨q49, hq49, eq49⟩ := at_17 (ad := ad) (ca := ca) (σ := σ22) (cm_4_6 hC hm0)
              refine va_zald (D := (dC, dI)) (cl := kCl) (pc := 117) hx hb (hK.2 17 0 .boolean (cm_4_6 hC hm0) rfl) hP q49 0 eq49 rfl (hv48) dM_user_117 ?_
              refine W.eq (g2 := F0 m 118 ls [.int (xI σ22 17 0 (p25).toNatClampNeg)]) rfl ?_
              refine lv_if_eq (pc := 118) (tgt := 146) hx hb dM_user_118 rfl (fun h50 => ?_) (fun h50 => ?_)
              · replace hf := ite_t h50 hf
                refine lv_iload (pc := 146) hx hb dM_user_146 (lv_at hl 3 rfl) ?_
                refine lv_istore (pc := 148) hx hb dM_user_148 hl (by decide) rfl (fun ls hl => ?_)
                have hl : lv_has ls 9 [(5, .int p26), (8, .int p23), (7, .int p24), (6, .int p25), (4, .int p27), (0, .ref (ad 4 0)), (1, .int p28), (2, .int p29), (3, .int p30)] := hl
                refine lv_iinc (pc := 150) (v := (p25 + (-1))) hx hb dM_user_150 hl (k := 3) rfl (by rfl) (by decide) rfl (fun ls hl => ?_)
                have hl : lv_has ls 9 [(6, .int (p25 + (-1))), (5, .int p26), (8, .int p23), (7, .int p24), (4, .int p27), (0, .ref (ad 4 0)), (1, .int p28), (2, .int p29), (3, .int p30)] := hl
                refine lv_goto (pc := 153) (tgt := 41) hx hb dM_user_153 rfl ?_
                have hl := lv_sub hl (l' := [(6, .int (p25 + (-1))), (5, .int p26), (4, .int p27), (0, .ref (ad 4 0)), (1, .int p28), (2, .int p29), (3, .int p30)]) [0, 1, 4, 5, 6, 7, 8] rfl
                exact ih20 (σ22, (p25 + (-1)), p26, p27, p28, p29, p30, H, _, ls) ⟨hP, hD, hS, hC, hl⟩ hf
              · replace hf := ite_f h50 hf
                refine lv_goto (pc := 121) (tgt := 134) hx hb dM_user_121 rfl ?_
                refine lv_iload (pc := 134) hx hb dM_user_134 (lv_at hl 1 rfl) ?_
                refine lv_iload (pc := 136) hx hb dM_user_136 (lv_at hl 4 rfl) ?_
                refine lv_icmp_ne (pc := 138) (tgt := 146) hx hb dM_user_138 rfl (fun h51 => ?_) (fun h51 => ?_)
                · replace hf := ite_f h51 hf
                  refine lv_iload (pc := 146) hx hb dM_user_146 (lv_at hl 3 rfl) ?_
                  refine lv_istore (pc := 148) hx hb dM_user_148 hl (by decide) rfl (fun ls hl => ?_)
                  have hl : lv_has ls 9 [(5, .int p26), (8, .int p23), (7, .int p24), (6, .int p25), (4, .int p27), (0, .ref (ad 4 0)), (1, .int p28), (2, .int p29), (3, .int p30)] := hl
                  refine lv_iinc (pc := 150) (v := (p25 + (-1))) hx hb dM_user_150 hl (k := 3) rfl (by rfl) (by decide) rfl (fun ls hl => ?_)
                  have hl : lv_has ls 9 [(6, .int (p25 + (-1))), (5, .int p26), (8, .int p23), (7, .int p24), (4, .int p27), (0, .ref (ad 4 0)), (1, .int p28), (2, .int p29), (3, .int p30)] := hl
                  refine lv_goto (pc := 153) (tgt := 41) hx hb dM_user_153 rfl ?_
                  have hl := lv_sub hl (l' := [(6, .int (p25 + (-1))), (5, .int p26), (4, .int p27), (0, .ref (ad 4 0)), (1, .int p28), (2, .int p29), (3, .int p30)]) [0, 1, 4, 5, 6, 7, 8] rfl
                  exact ih20 (σ22, (p25 + (-1)), p26, p27, p28, p29, p30, H, _, ls) ⟨hP, hD, hS, hC, hl⟩ hf
                · replace hf := ite_t h51 hf
                  refine lv_iload (pc := 141) hx hb dM_user_141 (lv_at hl 2 rfl) ?_
                  refine lv_goto (pc := 143) (tgt := 148) hx hb dM_user_143 rfl ?_
                  refine lv_istore (pc := 148) hx hb dM_user_148 hl (by decide) rfl (fun ls hl => ?_)
                  have hl : lv_has ls 9 [(5, .int p25), (8, .int p23), (7, .int p24), (6, .int p25), (4, .int p27), (0, .ref (ad 4 0)), (1, .int p28), (2, .int p29), (3, .int p30)] := hl
                  refine lv_iinc (pc := 150) (v := (p25 + (-1))) hx hb dM_user_150 hl (k := 3) rfl (by rfl) (by decide) rfl (fun ls hl => ?_)
                  have hl : lv_has ls 9 [(6, .int (p25 + (-1))), (5, .int p25), (8, .int p23), (7, .int p24), (4, .int p27), (0, .ref (ad 4 0)), (1, .int p28), (2, .int p29), (3, .int p30)] := hl
                  refine lv_goto (pc := 153) (tgt := 41) hx hb dM_user_153 rfl ?_
                  have hl := lv_sub hl (l' := [(6, .int (p25 + (-1))), (5, .int p25), (4, .int p27), (0, .ref (ad 4 0)), (1, .int p28), (2, .int p29), (3, .int p30)]) [0, 1, 4, 5, 6, 7, 8] rfl
                  exact ih20 (σ22, (p25 + (-1)), p25, p27, p28, p29, p30, H, _, ls) ⟨hP, hD, hS, hC, hl⟩ hf
      · rintro ⟨σ12, p13, p14, p15, p16, p17, p18, H, locs, ls⟩ ⟨hP, hD, hS, hC, hl⟩ hf
        dsimp only at hP hD hS hC hl hf ⊢
        rw [hkx19] at hf
        have hl : lv_has ls 9 [(6, .int p13), (5, .int p14), (4, .int p15), (0, .ref (ad 4 0)), (1, .int p16), (2, .int p17), (3, .int p18)] := hl
        refine lv_iload (pc := 156) hx hb dM_user_156 (lv_at hl 1 rfl) ?_
        obtain ⟨h8, h9⟩ := Prod.mk.inj (Option.some.inj hf)
        subst h9
        exact W.iret (pc := 158) hx hb hr (fun t ht hW => ⟨⟨_, (), rfl, h8, by rw [ht]; exact hP, hD, hC⟩, hS.F ht⟩) hS.2.2 dM_user_158
    · replace hf := ite_f h6 hf
      refine lv_iconst (pc := 17) (v := (-1)) hx hb dM_user_17 (by decide) ?_
      obtain ⟨h8, h9⟩ := Prod.mk.inj (Option.some.inj hf)
      subst h9
      exact W.iret (pc := 18) hx hb hr (fun t ht hW => ⟨⟨_, (), rfl, h8, by rw [ht]; exact hP, hD, hC⟩, hS.F ht⟩) hS.2.2 dM_user_18
def M_difference_L71 (n : Nat) (kx28 : hT → Int32 → Int32 → Int32 → Int32 → Int32 → Int32 → Int32 → Int32 → Int32 → Int32 → Option (Int32 × hT)) : Nat → hT → Int32 → Int32 → Int32 → Int32 → Int32 → Int32 → Int32 → Int32 → Int32 → Int32 → Option (Int32 × hT)
  | 0, _, _, _, _, _, _, _, _, _, _, _ => none
  | k + 1, σ17, p18, p19, p20, p21, p22, p23, p24, p25, p26, p27 => if 8 ≤ p18 then kx28 (σ17) p18 p19 p20 p21 p22 p23 p24 p25 p26 p27 else Option.bind (M_isSame n σ17 p22 p18 p21 p18) fun y32 => lt9 (α := Int32 → Option (Int32 × hT)) (fun (s34 : Int32) => lt9 (α := Int32 → Option (Int32 × hT)) (fun (s37 : Int32) => if s34 = 0 then M_difference_L71 n kx28 k (σ17) (p18 + 1) s37 (p20 + 0) p21 p22 p23 p24 p25 p26 p27 else M_difference_L71 n kx28 k (σ17) (p18 + 1) s37 (p20 + 1) p21 p22 p23 p24 p25 p26 p27) fun x36 => if s34 = 0 then x36 p19 else if p20 = p27 then x36 p18 else x36 p19) fun x33 => if y32 = 0 then x33 1 else x33 0
def M_difference (n : Nat) (σ : hT) (a1 : Int32) (a2 : Int32) (a3 : Int32) (a4 : Int32) : Option (Int32 × hT) := Option.bind (M_isRevision σ a1 a2) fun y2 => lt9 (α := Int32 → Option (Int32 × hT)) (fun (s4 : Int32) => lt9 (α := Int32 → Option (Int32 × hT)) (fun (s10 : Int32) => lt9 (sI σ 500 0 0 s10) fun σ12 => if s4 = 0 then some (0, σ12) else lt9 (α := hT → Int32 → Int32 → Int32 → Int32 → Int32 → Int32 → Int32 → Int32 → Int32 → Int32 → Option (Int32 × hT)) (fun (σ17 : hT) (p18 : Int32) (p19 : Int32) (p20 : Int32) (p21 : Int32) (p22 : Int32) (p23 : Int32) (p24 : Int32) (p25 : Int32) (p26 : Int32) (p27 : Int32) => some (p19, σ17)) fun kx28 => M_difference_L71 n kx28 n (σ12) 0 (-1) 0 (M_revisionAt a1 a3) (M_revisionAt a1 a2) s4 a1 a2 a3 a4) fun x9 => if s4 = 0 then x9 1 else x9 0) fun x3 => if y2 = 0 then x3 0 else Option.bind (M_isRevision σ a1 a3) fun y7 => if y7 = 0 then x3 0 else x3 1
set_option maxHeartbeats 4000000 in
set_option maxRecDepth 100000 in
theorem t_M_difference (l : Launch) (dC : Nat → ClassId) (dI : Nat → Nat → Nat) (ad : Nat → Nat → Nat) (ca : Nat → Nat → ClassId) (dom : List (Nat × Nat)) (sz : Nat) (n : Nat) (σ : hT) (a1 : Int32) (a2 : Int32) (a3 : Int32) (a4 : Int32) (hm0 : (4, 0) ∈ dom) (hN : dom.Nodup) (hC : clo dom σ.2.2) (ρ : Int32) (σ' : hT) (hf : M_difference n σ a1 a2 a3 a4 = some (ρ, σ')) : Met l yM_difference (.code yM_difference cM_difference 12 (some .int) :: aw) ({ frames := 3, cells := 0, slots := 0, locals := 64 }) (hW (dC, dI) sz ad ca dom σ [.ref (ad 4 0), .int a1, .int a2, .int a3, .int a4]) (va_Qi (fun r (_ : Unit) => r = ρ) (fun _ t => hB (dC, dI) (va_A (w9 ad ca dom σ) sz) ad ca dom σ' t) (va_A (w9 ad ca dom σ) sz)) 0 0 (va_A (w9 ad ca dom σ) sz) := by
  refine Met.ofW (cc := cM_difference) (maxL := 12) (ret := (some .int)) (by decide) rfl ?_
  intro p e s m args below meth c s₁ B hml hv
  obtain ⟨rfl, hv⟩ := hv
  have hx := B.exec
  have hb := B.bytes
  have hr := B.returns
  have hts : ∀ w ∈ aw, w.before _ s = true := fun w h => atoms_spec (ws := (.code yM_difference cM_difference 12 (some .int) :: aw)) B.pre w (List.mem_cons_of_mem _ h)
  have hown : s.vm.findClass RM = some m.cls := findClass_of_methodNamed B.named
  have hlocks := B.notSynchronized
  obtain ⟨hsz, hP, hK, hD0, hG⟩ := hv
  subst hsz
  have hD := hD0.self (sz := s.heap.size)
  generalize hAe : va_A (w9 ad ca dom σ) s.heap.size = A at hD ⊢
  have hA : ∀ q : Nat, s.heap.size ≤ q → A q := fun q h => by rw [← hAe]; exact Or.inr h
  obtain ⟨H, hH⟩ : ∃ H, H = s.heap := ⟨_, rfl⟩
  have hS : va_S A s.heap H [] := by rw [hH]; exact va_S.rf
  rw [← hH] at hP ⊢
  unfold M_difference at hf
  have hl := lv_entry ([.ref (ad 4 0), .int a1, .int a2, .int a3, .int a4]) (n := 12) (Nat.le_of_ble_eq_true rfl)
  rw [lg_entry_eq]
  generalize (lg_sl ([.ref (ad 4 0), .int a1, .int a2, .int a3, .int a4]) ++ List.replicate (12 - (lg_sl ([.ref (ad 4 0), .int a1, .int a2, .int a3, .int a4])).length) Slot.unset).toArray = ls at hl ⊢
  have hl : lv_has ls 12 [(0, .ref (ad 4 0)), (1, .int a1), (2, .int a2), (3, .int a3), (4, .int a4)] := hl
  refine lv_aload_n (pc := 0) hx hb dM_difference_0 rfl (lv_at hl 0 rfl) ?_
  refine lv_iload_n (pc := 1) hx hb dM_difference_1 rfl (lv_at hl 1 rfl) ?_
  refine lv_iload_n (pc := 2) hx hb dM_difference_2 rfl (lv_at hl 2 rfl) ?_
  obtain ⟨q1, hq1, eq1⟩ := at_4 (ad := ad) (ca := ca) (σ := σ) hm0
  obtain ⟨y2, hy2, hf⟩ := ob hf
  refine vp_callSi (pc := 3) (W.runV (As := [.int a1, .int a2]) (rest := []) ⟨hx, hb, hml, hown, hts⟩ (t_M_isRevision l dC dI ad ca dom σ a1 a2 hm0 hN hC y2 hy2) (cwV 2 hts (gV wd_97 wd_98 wd_99 wd_50 wd_96) rfl rfl rfl (by decide +kernel) ⟨Nat.le_of_ble_eq_true rfl, Nat.le_of_ble_eq_true rfl⟩) ⟨hR_blind, va_recv (q := (RM, TM, 11)) (q0 := q1) (ci := 4) hK.1 hP rfl eq1, hR_pre hP hK hG⟩ rfl rfl hl.1 rfl (lv_room (Nat.le_of_ble_eq_true rfl)) dM_difference_3 ⟨Nat.le_of_ble_eq_true rfl, Nat.le_of_ble_eq_true rfl⟩) (fun r9 hr9 => ?_)
  refine W.eq (g2 := F0 m 6 ls [.int y2]) (by rw [hr9]) ?_
  obtain ⟨x3, hx3, hf⟩ := lt_9 hf
  refine jnF (τ := (Int32) × (Heap) × (List Loc) × (Array Slot)) (fun pc st z => W p l e _ s m _ below meth c z.2.1 z.2.2.1 0 0 _ (F0 m pc z.2.2.2 st)) (pc0 := 6) (st0 := [.int y2]) (z0 := (0, H, _, ls)) 23 (fun z => [.int z.1]) (fun z => va_P (dC, dI) kCl (w9 ad ca dom (σ)) z.2.1 ∧ va_D A (w9 ad ca dom (σ)) ∧ va_S A s.heap z.2.1 z.2.2.1 ∧ lv_has z.2.2.2 12 [(0, .ref (ad 4 0)), (1, .int a1), (2, .int a2), (3, .int a3), (4, .int a4)]) (fun z => x3 z.1) (ρ, σ') ?_ ?_
  · intro hJx3
    dsimp only at hJx3 ⊢
    refine lv_if_eq (pc := 6) (tgt := 22) hx hb dM_difference_6 rfl (fun h5 => ?_) (fun h5 => ?_)
    · replace hf := ite_t h5 hf
      refine lv_iconst (pc := 22) (v := 0) hx hb dM_difference_22 (by decide) ?_
      have hl := lv_sub hl (l' := [(0, .ref (ad 4 0)), (1, .int a1), (2, .int a2), (3, .int a3), (4, .int a4)]) [0, 1, 2, 3, 4] rfl
      exact hJx3 (0, H, _, ls) ⟨hP, hD, hS, hl⟩ hf
    · replace hf := ite_f h5 hf
      refine lv_aload_n (pc := 9) hx hb dM_difference_9 rfl (lv_at hl 0 rfl) ?_
      refine lv_iload_n (pc := 10) hx hb dM_difference_10 rfl (lv_at hl 1 rfl) ?_
      refine lv_iload_n (pc := 11) hx hb dM_difference_11 rfl (lv_at hl 3 rfl) ?_
      obtain ⟨q6, hq6, eq6⟩ := at_4 (ad := ad) (ca := ca) (σ := σ) hm0
      obtain ⟨y7, hy7, hf⟩ := ob hf
      refine vp_callSi (pc := 12) (W.runV (As := [.int a1, .int a3]) (rest := []) ⟨hx, hb, hml, hown, hts⟩ (t_M_isRevision l dC dI ad ca dom σ a1 a3 hm0 hN hC y7 hy7) (cwV 2 hts (gV wd_97 wd_98 wd_99 wd_50 wd_96) rfl rfl rfl (by decide +kernel) ⟨Nat.le_of_ble_eq_true rfl, Nat.le_of_ble_eq_true rfl⟩) ⟨hR_blind, va_recv (q := (RM, TM, 11)) (q0 := q6) (ci := 4) hK.1 hP rfl eq6, hR_pre hP hK hG⟩ rfl rfl hl.1 rfl (lv_room (Nat.le_of_ble_eq_true rfl)) dM_difference_12 ⟨Nat.le_of_ble_eq_true rfl, Nat.le_of_ble_eq_true rfl⟩) (fun r9 hr9 => ?_)
      refine W.eq (g2 := F0 m 15 ls [.int y7]) (by rw [hr9]) ?_
      refine lv_if_eq (pc := 15) (tgt := 22) hx hb dM_difference_15 rfl (fun h8 => ?_) (fun h8 => ?_)
      · replace hf := ite_t h8 hf
        refine lv_iconst (pc := 22) (v := 0) hx hb dM_difference_22 (by decide) ?_
        have hl := lv_sub hl (l' := [(0, .ref (ad 4 0)), (1, .int a1), (2, .int a2), (3, .int a3), (4, .int a4)]) [0, 1, 2, 3, 4] rfl
        exact hJx3 (0, H, _, ls) ⟨hP, hD, hS, hl⟩ hf
      · replace hf := ite_f h8 hf
        refine lv_iconst (pc := 18) (v := 1) hx hb dM_difference_18 (by decide) ?_
        refine lv_goto (pc := 19) (tgt := 23) hx hb dM_difference_19 rfl ?_
        have hl := lv_sub hl (l' := [(0, .ref (ad 4 0)), (1, .int a1), (2, .int a2), (3, .int a3), (4, .int a4)]) [0, 1, 2, 3, 4] rfl
        exact hJx3 (1, H, _, ls) ⟨hP, hD, hS, hl⟩ hf
  · rintro ⟨s4, H, locs, ls⟩ ⟨hP, hD, hS, hl⟩ hf
    dsimp only at hP hD hS hl hf ⊢
    rw [hx3] at hf
    have hl : lv_has ls 12 [(0, .ref (ad 4 0)), (1, .int a1), (2, .int a2), (3, .int a3), (4, .int a4)] := hl
    refine lv_istore (pc := 23) hx hb dM_difference_23 hl (by decide) rfl (fun ls hl => ?_)
    have hl : lv_has ls 12 [(5, .int s4), (0, .ref (ad 4 0)), (1, .int a1), (2, .int a2), (3, .int a3), (4, .int a4)] := hl
    refine lv_aload_n (pc := 25) hx hb dM_difference_25 rfl (lv_at hl 1 rfl) ?_
    refine lv_iload (pc := 26) hx hb dM_difference_26 (lv_at hl 0 rfl) ?_
    obtain ⟨x9, hx9, hf⟩ := lt_9 hf
    refine jnF (τ := (Int32) × (Heap) × (List Loc) × (Array Slot)) (fun pc st z => W p l e _ s m _ below meth c z.2.1 z.2.2.1 0 0 _ (F0 m pc z.2.2.2 st)) (pc0 := 28) (st0 := [.int s4, .ref (ad 4 0)]) (z0 := (0, H, _, ls)) 36 (fun z => [.int z.1, .ref (ad 4 0)]) (fun z => va_P (dC, dI) kCl (w9 ad ca dom (σ)) z.2.1 ∧ va_D A (w9 ad ca dom (σ)) ∧ va_S A s.heap z.2.1 z.2.2.1 ∧ lv_has z.2.2.2 12 [(5, .int s4), (0, .ref (ad 4 0)), (1, .int a1), (2, .int a2), (3, .int a3), (4, .int a4)]) (fun z => x9 z.1) (ρ, σ') ?_ ?_
    · intro hJx9
      dsimp only at hJx9 ⊢
      refine lv_if_eq (pc := 28) (tgt := 35) hx hb dM_difference_28 rfl (fun h11 => ?_) (fun h11 => ?_)
      · replace hf := ite_t h11 hf
        refine lv_iconst (pc := 35) (v := 1) hx hb dM_difference_35 (by decide) ?_
        have hl := lv_sub hl (l' := [(5, .int s4), (0, .ref (ad 4 0)), (1, .int a1), (2, .int a2), (3, .int a3), (4, .int a4)]) [0, 1, 2, 3, 4, 5] rfl
        exact hJx9 (1, H, _, ls) ⟨hP, hD, hS, hl⟩ hf
      · replace hf := ite_f h11 hf
        refine lv_iconst (pc := 31) (v := 0) hx hb dM_difference_31 (by decide) ?_
        refine lv_goto (pc := 32) (tgt := 36) hx hb dM_difference_32 rfl ?_
        have hl := lv_sub hl (l' := [(5, .int s4), (0, .ref (ad 4 0)), (1, .int a1), (2, .int a2), (3, .int a3), (4, .int a4)]) [0, 1, 2, 3, 4, 5] rfl
        exact hJx9 (0, H, _, ls) ⟨hP, hD, hS, hl⟩ hf
    · rintro ⟨s10, H, locs, ls⟩ ⟨hP, hD, hS, hl⟩ hf
      dsimp only at hP hD hS hl hf ⊢
      rw [hx9] at hf
      have hl : lv_has ls 12 [(5, .int s4), (0, .ref (ad 4 0)), (1, .int a1), (2, .int a2), (3, .int a3), (4, .int a4)] := hl
      obtain ⟨q13, hq13, eq13⟩ := at_4 (ad := ad) (ca := ca) (σ := σ) hm0
      refine va_put (D := (dC, dI)) (cl := kCl) (ci := 4) (v := .int s10) (ty := .int) (C := RM) (T := TM) (N := 11) (pc := 36) hx hb hts inM tyM tyM_ok nmM hown hK.1 hP hD hS q13 eq13 rfl 0 (by decide) (hts _ wd_45) (fun _ h9 => h9) rfl (by decide +kernel) (rfl) (rfl) (Nat.le_of_ble_eq_true rfl) dM_difference_36 (fun H locs hP hD hS => ?_)
      obtain ⟨σ12, hσ12, hf⟩ := lt_9 hf
      obtain ⟨hP, hD⟩ := w9_rI 500 rfl hN hq13 hσ12 (pu_500) hP hD
      have hC : clo dom σ12.2.2 := by rw [hσ12]; exact hC
      refine lv_iload (pc := 39) hx hb dM_difference_39 (lv_at hl 0 rfl) ?_
      refine lv_if_ne (pc := 41) (tgt := 46) hx hb dM_difference_41 rfl (fun h14 => ?_) (fun h14 => ?_)
      · replace hf := ite_f h14 hf
        refine lv_aload_n (pc := 46) hx hb dM_difference_46 rfl (lv_at hl 1 rfl) ?_
        refine lv_iload_n (pc := 47) hx hb dM_difference_47 rfl (lv_at hl 2 rfl) ?_
        refine lv_iload_n (pc := 48) hx hb dM_difference_48 rfl (lv_at hl 3 rfl) ?_
        obtain ⟨q15, hq15, eq15⟩ := at_4 (ad := ad) (ca := ca) (σ := σ12) hm0
        refine vp_callSi (pc := 49) (W.runV (As := [.int a1, .int a2]) (rest := []) ⟨hx, hb, hml, hown, hts⟩ (t_M_revisionAt l dC dI ad ca dom a1 a2 hm0 σ12 hN hC (M_revisionAt a1 a2) rfl) (cwV 2 hts (gV wd_65 wd_66 wd_67 wd_50 wd_64) rfl rfl rfl (by decide +kernel) ⟨Nat.le_of_ble_eq_true rfl, Nat.le_of_ble_eq_true rfl⟩) ⟨hR_blind, va_recv (q := (RM, TM, 11)) (q0 := q15) (ci := 4) hK.1 hP rfl eq15, hR_pre hP hK hG⟩ rfl rfl hl.1 rfl (lv_room (Nat.le_of_ble_eq_true rfl)) dM_difference_49 ⟨Nat.le_of_ble_eq_true rfl, Nat.le_of_ble_eq_true rfl⟩) (fun r9 hr9 => ?_)
        refine W.eq (g2 := F0 m 52 ls [.int (M_revisionAt a1 a2)]) (by rw [hr9]) ?_
        refine lv_istore (pc := 52) hx hb dM_difference_52 hl (by decide) rfl (fun ls hl => ?_)
        have hl : lv_has ls 12 [(6, .int (M_revisionAt a1 a2)), (5, .int s4), (0, .ref (ad 4 0)), (1, .int a1), (2, .int a2), (3, .int a3), (4, .int a4)] := hl
        refine lv_aload_n (pc := 54) hx hb dM_difference_54 rfl (lv_at hl 2 rfl) ?_
        refine lv_iload_n (pc := 55) hx hb dM_difference_55 rfl (lv_at hl 3 rfl) ?_
        refine lv_iload_n (pc := 56) hx hb dM_difference_56 rfl (lv_at hl 5 rfl) ?_
        obtain ⟨q16, hq16, eq16⟩ := at_4 (ad := ad) (ca := ca) (σ := σ12) hm0
        refine vp_callSi (pc := 57) (W.runV (As := [.int a1, .int a3]) (rest := []) ⟨hx, hb, hml, hown, hts⟩ (t_M_revisionAt l dC dI ad ca dom a1 a3 hm0 σ12 hN hC (M_revisionAt a1 a3) rfl) (cwV 2 hts (gV wd_65 wd_66 wd_67 wd_50 wd_64) rfl rfl rfl (by decide +kernel) ⟨Nat.le_of_ble_eq_true rfl, Nat.le_of_ble_eq_true rfl⟩) ⟨hR_blind, va_recv (q := (RM, TM, 11)) (q0 := q16) (ci := 4) hK.1 hP rfl eq16, hR_pre hP hK hG⟩ rfl rfl hl.1 rfl (lv_room (Nat.le_of_ble_eq_true rfl)) dM_difference_57 ⟨Nat.le_of_ble_eq_true rfl, Nat.le_of_ble_eq_true rfl⟩) (fun r9 hr9 => ?_)
        refine W.eq (g2 := F0 m 60 ls [.int (M_revisionAt a1 a3)]) (by rw [hr9]) ?_
        refine lv_istore (pc := 60) hx hb dM_difference_60 hl (by decide) rfl (fun ls hl => ?_)
        have hl : lv_has ls 12 [(7, .int (M_revisionAt a1 a3)), (6, .int (M_revisionAt a1 a2)), (5, .int s4), (0, .ref (ad 4 0)), (1, .int a1), (2, .int a2), (3, .int a3), (4, .int a4)] := hl
        refine lv_iconst (pc := 62) (v := 0) hx hb dM_difference_62 (by decide) ?_
        refine lv_istore (pc := 63) hx hb dM_difference_63 hl (by decide) rfl (fun ls hl => ?_)
        have hl : lv_has ls 12 [(8, .int 0), (7, .int (M_revisionAt a1 a3)), (6, .int (M_revisionAt a1 a2)), (5, .int s4), (0, .ref (ad 4 0)), (1, .int a1), (2, .int a2), (3, .int a3), (4, .int a4)] := hl
        refine lv_iconst (pc := 65) (v := (-1)) hx hb dM_difference_65 (by decide) ?_
        refine lv_istore (pc := 66) hx hb dM_difference_66 hl (by decide) rfl (fun ls hl => ?_)
        have hl : lv_has ls 12 [(9, .int (-1)), (8, .int 0), (7, .int (M_revisionAt a1 a3)), (6, .int (M_revisionAt a1 a2)), (5, .int s4), (0, .ref (ad 4 0)), (1, .int a1), (2, .int a2), (3, .int a3), (4, .int a4)] := hl
        refine lv_iconst (pc := 68) (v := 0) hx hb dM_difference_68 (by decide) ?_
        refine lv_istore (pc := 69) hx hb dM_difference_69 hl (by decide) rfl (fun ls hl => ?_)
        have hl : lv_has ls 12 [(10, .int 0), (9, .int (-1)), (8, .int 0), (7, .int (M_revisionAt a1 a3)), (6, .int (M_revisionAt a1 a2)), (5, .int s4), (0, .ref (ad 4 0)), (1, .int a1), (2, .int a2), (3, .int a3), (4, .int a4)] := hl
        obtain ⟨kx28, hkx28, hf⟩ := lt_9 hf
        refine lpF (τ := (hT) × (Int32) × (Int32) × (Int32) × (Int32) × (Int32) × (Int32) × (Int32) × (Int32) × (Int32) × (Int32) × (Heap) × (List Loc) × (Array Slot)) (fun pc z => W p l e _ s m _ below meth c z.2.2.2.2.2.2.2.2.2.2.2.1 z.2.2.2.2.2.2.2.2.2.2.2.2.1 0 0 _ (F0 m pc z.2.2.2.2.2.2.2.2.2.2.2.2.2 [])) 71 142 (fun z => va_P (dC, dI) kCl (w9 ad ca dom z.1) z.2.2.2.2.2.2.2.2.2.2.2.1 ∧ va_D A (w9 ad ca dom z.1) ∧ va_S A s.heap z.2.2.2.2.2.2.2.2.2.2.2.1 z.2.2.2.2.2.2.2.2.2.2.2.2.1 ∧ clo dom z.1.2.2 ∧ lv_has z.2.2.2.2.2.2.2.2.2.2.2.2.2 12 [(10, .int z.2.1), (9, .int z.2.2.1), (8, .int z.2.2.2.1), (7, .int z.2.2.2.2.1), (6, .int z.2.2.2.2.2.1), (5, .int z.2.2.2.2.2.2.1), (0, .ref (ad 4 0)), (1, .int z.2.2.2.2.2.2.2.1), (2, .int z.2.2.2.2.2.2.2.2.1), (3, .int z.2.2.2.2.2.2.2.2.2.1), (4, .int z.2.2.2.2.2.2.2.2.2.2.1)]) (fun k z => M_difference_L71 n kx28 k z.1 z.2.1 z.2.2.1 z.2.2.2.1 z.2.2.2.2.1 z.2.2.2.2.2.1 z.2.2.2.2.2.2.1 z.2.2.2.2.2.2.2.1 z.2.2.2.2.2.2.2.2.1 z.2.2.2.2.2.2.2.2.2.1 z.2.2.2.2.2.2.2.2.2.2.1) (fun z => kx28 z.1 z.2.1 z.2.2.1 z.2.2.2.1 z.2.2.2.2.1 z.2.2.2.2.2.1 z.2.2.2.2.2.2.1 z.2.2.2.2.2.2.2.1 z.2.2.2.2.2.2.2.2.1 z.2.2.2.2.2.2.2.2.2.1 z.2.2.2.2.2.2.2.2.2.2.1) _ (fun z => rfl) ?_ ?_ n (σ12, 0, (-1), 0, (M_revisionAt a1 a3), (M_revisionAt a1 a2), s4, a1, a2, a3, a4, H, _, ls) ⟨hP, hD, hS, hC, hl⟩ hf
        · rintro k ⟨σ17, p18, p19, p20, p21, p22, p23, p24, p25, p26, p27, H, locs, ls⟩ ⟨hP, hD, hS, hC, hl⟩ hf ih29 hXkx28
          dsimp only at hP hD hS hC hl hf ih29 hXkx28 ⊢
          unfold M_difference_L71 at hf
          have hl : lv_has ls 12 [(10, .int p18), (9, .int p19), (8, .int p20), (7, .int p21), (6, .int p22), (5, .int p23), (0, .ref (ad 4 0)), (1, .int p24), (2, .int p25), (3, .int p26), (4, .int p27)] := hl
          refine lv_iload (pc := 71) hx hb dM_difference_71 (lv_at hl 0 rfl) ?_
          refine lv_bipush (pc := 73) (v := 8) hx hb dM_difference_73 (by decide) ?_
          refine lv_icmp_ge (pc := 75) (tgt := 142) hx hb dM_difference_75 rfl (fun h30 => ?_) (fun h30 => ?_)
          · replace hf := ite_t h30 hf
            have hl := lv_sub hl (l' := [(10, .int p18), (9, .int p19), (8, .int p20), (7, .int p21), (6, .int p22), (5, .int p23), (0, .ref (ad 4 0)), (1, .int p24), (2, .int p25), (3, .int p26), (4, .int p27)]) [0, 1, 2, 3, 4, 5, 6, 7, 8, 9, 10] rfl
            exact hXkx28 (σ17, p18, p19, p20, p21, p22, p23, p24, p25, p26, p27, H, _, ls) ⟨hP, hD, hS, hC, hl⟩ hf
          · replace hf := ite_f h30 hf
            refine lv_aload_n (pc := 78) hx hb dM_difference_78 rfl (lv_at hl 6 rfl) ?_
            refine lv_iload (pc := 79) hx hb dM_difference_79 (lv_at hl 4 rfl) ?_
            refine lv_iload (pc := 81) hx hb dM_difference_81 (lv_at hl 0 rfl) ?_
            refine lv_iload (pc := 83) hx hb dM_difference_83 (lv_at hl 3 rfl) ?_
            refine lv_iload (pc := 85) hx hb dM_difference_85 (lv_at hl 0 rfl) ?_
            obtain ⟨q31, hq31, eq31⟩ := at_4 (ad := ad) (ca := ca) (σ := σ17) hm0
            obtain ⟨y32, hy32, hf⟩ := ob hf
            refine vp_callSi (pc := 87) (W.runV (As := [.int p22, .int p18, .int p21, .int p18]) (rest := []) ⟨hx, hb, hml, hown, hts⟩ (t_M_isSame l dC dI ad ca dom n σ17 p22 p18 p21 p18 hm0 hN hC y32 hy32) (cwV 4 hts (gV wd_93 wd_94 wd_95 wd_50 wd_92) rfl rfl rfl (by decide +kernel) ⟨Nat.le_of_ble_eq_true rfl, Nat.le_of_ble_eq_true rfl⟩) ⟨hR_blind, va_recv (q := (RM, TM, 11)) (q0 := q31) (ci := 4) hK.1 hP rfl eq31, hR_pre hP hK hG⟩ rfl rfl hl.1 rfl (lv_room (Nat.le_of_ble_eq_true rfl)) dM_difference_87 ⟨Nat.le_of_ble_eq_true rfl, Nat.le_of_ble_eq_true rfl⟩) (fun r9 hr9 => ?_)
            refine W.eq (g2 := F0 m 90 ls [.int y32]) (by rw [hr9]) ?_
            obtain ⟨x33, hx33, hf⟩ := lt_9 hf
            refine jnF (τ := (Int32) × (Heap) × (List Loc) × (Array Slot)) (fun pc st z => W p l e _ s m _ below meth c z.2.1 z.2.2.1 0 0 _ (F0 m pc z.2.2.2 st)) (pc0 := 90) (st0 := [.int y32]) (z0 := (0, H, _, ls)) 98 (fun z => [.int z.1]) (fun z => va_P (dC, dI) kCl (w9 ad ca dom (σ17)) z.2.1 ∧ va_D A (w9 ad ca dom (σ17)) ∧ va_S A s.heap z.2.1 z.2.2.1 ∧ lv_has z.2.2.2 12 [(10, .int p18), (9, .int p19), (8, .int p20), (7, .int p21), (6, .int p22), (5, .int p23), (0, .ref (ad 4 0)), (1, .int p24), (2, .int p25), (3, .int p26), (4, .int p27)]) (fun z => x33 z.1) (ρ, σ') ?_ ?_
            · intro hJx33
              dsimp only at hJx33 ⊢
              refine lv_if_ne (pc := 90) (tgt := 97) hx hb dM_difference_90 rfl (fun h35 => ?_) (fun h35 => ?_)
              · replace hf := ite_f h35 hf
                refine lv_iconst (pc := 97) (v := 0) hx hb dM_difference_97 (by decide) ?_
                have hl := lv_sub hl (l' := [(10, .int p18), (9, .int p19), (8, .int p20), (7, .int p21), (6, .int p22), (5, .int p23), (0, .ref (ad 4 0)), (1, .int p24), (2, .int p25), (3, .int p26), (4, .int p27)]) [0, 1, 2, 3, 4, 5, 6, 7, 8, 9, 10] rfl
                exact hJx33 (0, H, _, ls) ⟨hP, hD, hS, hl⟩ hf
              · replace hf := ite_t h35 hf
                refine lv_iconst (pc := 93) (v := 1) hx hb dM_difference_93 (by decide) ?_
                refine lv_goto (pc := 94) (tgt := 98) hx hb dM_difference_94 rfl ?_
                have hl := lv_sub hl (l' := [(10, .int p18), (9, .int p19), (8, .int p20), (7, .int p21), (6, .int p22), (5, .int p23), (0, .ref (ad 4 0)), (1, .int p24), (2, .int p25), (3, .int p26), (4, .int p27)]) [0, 1, 2, 3, 4, 5, 6, 7, 8, 9, 10] rfl
                exact hJx33 (1, H, _, ls) ⟨hP, hD, hS, hl⟩ hf
            · rintro ⟨s34, H, locs, ls⟩ ⟨hP, hD, hS, hl⟩ hf
              dsimp only at hP hD hS hl hf ⊢
              rw [hx33] at hf
              have hl : lv_has ls 12 [(10, .int p18), (9, .int p19), (8, .int p20), (7, .int p21), (6, .int p22), (5, .int p23), (0, .ref (ad 4 0)), (1, .int p24), (2, .int p25), (3, .int p26), (4, .int p27)] := hl
              refine lv_istore (pc := 98) hx hb dM_difference_98 hl (by decide) rfl (fun ls hl => ?_)
              have hl : lv_has ls 12 [(11, .int s34), (10, .int p18), (9, .int p19), (8, .int p20), (7, .int p21), (6, .int p22), (5, .int p23), (0, .ref (ad 4 0)), (1, .int p24), (2, .int p25), (3, .int p26), (4, .int p27)] := hl
              refine lv_iload (pc := 100) hx hb dM_difference_100 (lv_at hl 0 rfl) ?_
              obtain ⟨x36, hx36, hf⟩ := lt_9 hf
              refine jnF (τ := (Int32) × (Heap) × (List Loc) × (Array Slot)) (fun pc st z => W p l e _ s m _ below meth c z.2.1 z.2.2.1 0 0 _ (F0 m pc z.2.2.2 st)) (pc0 := 102) (st0 := [.int s34]) (z0 := (0, H, _, ls)) 119 (fun z => [.int z.1]) (fun z => va_P (dC, dI) kCl (w9 ad ca dom (σ17)) z.2.1 ∧ va_D A (w9 ad ca dom (σ17)) ∧ va_S A s.heap z.2.1 z.2.2.1 ∧ lv_has z.2.2.2 12 [(11, .int s34), (10, .int p18), (9, .int p19), (8, .int p20), (7, .int p21), (6, .int p22), (5, .int p23), (0, .ref (ad 4 0)), (1, .int p24), (2, .int p25), (3, .int p26), (4, .int p27)]) (fun z => x36 z.1) (ρ, σ') ?_ ?_
              · intro hJx36
                dsimp only at hJx36 ⊢
                refine lv_if_eq (pc := 102) (tgt := 117) hx hb dM_difference_102 rfl (fun h38 => ?_) (fun h38 => ?_)
                · replace hf := ite_t h38 hf
                  refine lv_iload (pc := 117) hx hb dM_difference_117 (lv_at hl 2 rfl) ?_
                  have hl := lv_sub hl (l' := [(11, .int s34), (10, .int p18), (9, .int p19), (8, .int p20), (7, .int p21), (6, .int p22), (5, .int p23), (0, .ref (ad 4 0)), (1, .int p24), (2, .int p25), (3, .int p26), (4, .int p27)]) [0, 1, 2, 3, 4, 5, 6, 7, 8, 9, 10, 11] rfl
                  exact hJx36 (p19, H, _, ls) ⟨hP, hD, hS, hl⟩ hf
                · replace hf := ite_f h38 hf
                  refine lv_iload (pc := 105) hx hb dM_difference_105 (lv_at hl 3 rfl) ?_
                  refine lv_iload (pc := 107) hx hb dM_difference_107 (lv_at hl 11 rfl) ?_
                  refine lv_icmp_ne (pc := 109) (tgt := 117) hx hb dM_difference_109 rfl (fun h39 => ?_) (fun h39 => ?_)
                  · replace hf := ite_f h39 hf
                    refine lv_iload (pc := 117) hx hb dM_difference_117 (lv_at hl 2 rfl) ?_
                    have hl := lv_sub hl (l' := [(11, .int s34), (10, .int p18), (9, .int p19), (8, .int p20), (7, .int p21), (6, .int p22), (5, .int p23), (0, .ref (ad 4 0)), (1, .int p24), (2, .int p25), (3, .int p26), (4, .int p27)]) [0, 1, 2, 3, 4, 5, 6, 7, 8, 9, 10, 11] rfl
                    exact hJx36 (p19, H, _, ls) ⟨hP, hD, hS, hl⟩ hf
                  · replace hf := ite_t h39 hf
                    refine lv_iload (pc := 112) hx hb dM_difference_112 (lv_at hl 1 rfl) ?_
                    refine lv_goto (pc := 114) (tgt := 119) hx hb dM_difference_114 rfl ?_
                    have hl := lv_sub hl (l' := [(11, .int s34), (10, .int p18), (9, .int p19), (8, .int p20), (7, .int p21), (6, .int p22), (5, .int p23), (0, .ref (ad 4 0)), (1, .int p24), (2, .int p25), (3, .int p26), (4, .int p27)]) [0, 1, 2, 3, 4, 5, 6, 7, 8, 9, 10, 11] rfl
                    exact hJx36 (p18, H, _, ls) ⟨hP, hD, hS, hl⟩ hf
              · rintro ⟨s37, H, locs, ls⟩ ⟨hP, hD, hS, hl⟩ hf
                dsimp only at hP hD hS hl hf ⊢
                rw [hx36] at hf
                have hl : lv_has ls 12 [(11, .int s34), (10, .int p18), (9, .int p19), (8, .int p20), (7, .int p21), (6, .int p22), (5, .int p23), (0, .ref (ad 4 0)), (1, .int p24), (2, .int p25), (3, .int p26), (4, .int p27)] := hl
                refine lv_istore (pc := 119) hx hb dM_difference_119 hl (by decide) rfl (fun ls hl => ?_)
                have hl : lv_has ls 12 [(9, .int s37), (11, .int s34), (10, .int p18), (8, .int p20), (7, .int p21), (6, .int p22), (5, .int p23), (0, .ref (ad 4 0)), (1, .int p24), (2, .int p25), (3, .int p26), (4, .int p27)] := hl
                refine lv_iload (pc := 121) hx hb dM_difference_121 (lv_at hl 3 rfl) ?_
                refine lv_iload (pc := 123) hx hb dM_difference_123 (lv_at hl 1 rfl) ?_
                refine lv_if_eq (pc := 125) (tgt := 132) hx hb dM_difference_125 rfl (fun h40 => ?_) (fun h40 => ?_)
                · replace hf := ite_t h40 hf
                  refine lv_iconst (pc := 132) (v := 0) hx hb dM_difference_132 (by decide) ?_
                  refine lv_iadd (pc := 133) hx hb dM_difference_133 ?_
                  refine lv_istore (pc := 134) hx hb dM_difference_134 hl (by decide) rfl (fun ls hl => ?_)
                  have hl : lv_has ls 12 [(8, .int (p20 + 0)), (9, .int s37), (11, .int s34), (10, .int p18), (7, .int p21), (6, .int p22), (5, .int p23), (0, .ref (ad 4 0)), (1, .int p24), (2, .int p25), (3, .int p26), (4, .int p27)] := hl
                  refine lv_iinc (pc := 136) (v := (p18 + 1)) hx hb dM_difference_136 hl (k := 3) rfl (by rfl) (by decide) rfl (fun ls hl => ?_)
                  have hl : lv_has ls 12 [(10, .int (p18 + 1)), (8, .int (p20 + 0)), (9, .int s37), (11, .int s34), (7, .int p21), (6, .int p22), (5, .int p23), (0, .ref (ad 4 0)), (1, .int p24), (2, .int p25), (3, .int p26), (4, .int p27)] := hl
                  refine lv_goto (pc := 139) (tgt := 71) hx hb dM_difference_139 rfl ?_
                  have hl := lv_sub hl (l' := [(10, .int (p18 + 1)), (9, .int s37), (8, .int (p20 + 0)), (7, .int p21), (6, .int p22), (5, .int p23), (0, .ref (ad 4 0)), (1, .int p24), (2, .int p25), (3, .int p26), (4, .int p27)]) [0, 2, 1, 4, 5, 6, 7, 8, 9, 10, 11] rfl
                  exact ih29 (σ17, (p18 + 1), s37, (p20 + 0), p21, p22, p23, p24, p25, p26, p27, H, _, ls) ⟨hP, hD, hS, hC, hl⟩ hf
                · replace hf := ite_f h40 hf
                  refine lv_iconst (pc := 128) (v := 1) hx hb dM_difference_128 (by decide) ?_
                  refine lv_goto (pc := 129) (tgt := 133) hx hb dM_difference_129 rfl ?_
                  refine lv_iadd (pc := 133) hx hb dM_difference_133 ?_
                  refine lv_istore (pc := 134) hx hb dM_difference_134 hl (by decide) rfl (fun ls hl => ?_)
                  have hl : lv_has ls 12 [(8, .int (p20 + 1)), (9, .int s37), (11, .int s34), (10, .int p18), (7, .int p21), (6, .int p22), (5, .int p23), (0, .ref (ad 4 0)), (1, .int p24), (2, .int p25), (3, .int p26), (4, .int p27)] := hl
                  refine lv_iinc (pc := 136) (v := (p18 + 1)) hx hb dM_difference_136 hl (k := 3) rfl (by rfl) (by decide) rfl (fun ls hl => ?_)
                  have hl : lv_has ls 12 [(10, .int (p18 + 1)), (8, .int (p20 + 1)), (9, .int s37), (11, .int s34), (7, .int p21), (6, .int p22), (5, .int p23), (0, .ref (ad 4 0)), (1, .int p24), (2, .int p25), (3, .int p26), (4, .int p27)] := hl
                  refine lv_goto (pc := 139) (tgt := 71) hx hb dM_difference_139 rfl ?_
                  have hl := lv_sub hl (l' := [(10, .int (p18 + 1)), (9, .int s37), (8, .int (p20 + 1)), (7, .int p21), (6, .int p22), (5, .int p23), (0, .ref (ad 4 0)), (1, .int p24), (2, .int p25), (3, .int p26), (4, .int p27)]) [0, 2, 1, 4, 5, 6, 7, 8, 9, 10, 11] rfl
                  exact ih29 (σ17, (p18 + 1), s37, (p20 + 1), p21, p22, p23, p24, p25, p26, p27, H, _, ls) ⟨hP, hD, hS, hC, hl⟩ hf
        · rintro ⟨σ17, p18, p19, p20, p21, p22, p23, p24, p25, p26, p27, H, locs, ls⟩ ⟨hP, hD, hS, hC, hl⟩ hf
          dsimp only at hP hD hS hC hl hf ⊢
          rw [hkx28] at hf
          have hl : lv_has ls 12 [(10, .int p18), (9, .int p19), (8, .int p20), (7, .int p21), (6, .int p22), (5, .int p23), (0, .ref (ad 4 0)), (1, .int p24), (2, .int p25), (3, .int p26), (4, .int p27)] := hl
          refine lv_iload (pc := 142) hx hb dM_difference_142 (lv_at hl 1 rfl) ?_
          obtain ⟨h8, h9⟩ := Prod.mk.inj (Option.some.inj hf)
          subst h9
          exact W.iret (pc := 144) hx hb hr (fun t ht hW => ⟨⟨_, (), rfl, h8, by rw [ht]; exact hP, hD, hC⟩, hS.F ht⟩) hS.2.2 dM_difference_144
      · replace hf := ite_t h14 hf
        refine lv_iconst (pc := 44) (v := 0) hx hb dM_difference_44 (by decide) ?_
        obtain ⟨h8, h9⟩ := Prod.mk.inj (Option.some.inj hf)
        subst h9
        exact W.iret (pc := 45) hx hb hr (fun t ht hW => ⟨⟨_, (), rfl, h8, by rw [ht]; exact hP, hD, hC⟩, hS.F ht⟩) hS.2.2 dM_difference_45
def M_failAfter (σ : hT) (a1 : Int32) : Option (Int32 × hT) := lt9 (sI σ 500 0 0 0) fun σ1 => if a1 < 0 then some (0, σ1) else if (xI σ1 504 0 0) = 0 then lt9 (sI σ1 505 0 0 a1) fun σ6 => some (1, σ6) else some (0, σ1)
set_option maxHeartbeats 4000000 in
set_option maxRecDepth 100000 in
theorem t_M_failAfter (l : Launch) (dC : Nat → ClassId) (dI : Nat → Nat → Nat) (ad : Nat → Nat → Nat) (ca : Nat → Nat → ClassId) (dom : List (Nat × Nat)) (sz : Nat) (σ : hT) (a1 : Int32) (hm0 : (4, 0) ∈ dom) (hN : dom.Nodup) (hC : clo dom σ.2.2) (ρ : Int32) (σ' : hT) (hf : M_failAfter σ a1 = some (ρ, σ')) : Met l yM_failAfter (.code yM_failAfter cM_failAfter 2 (some .boolean) :: aw) ({ frames := 0, cells := 0, slots := 0, locals := 0 }) (hW (dC, dI) sz ad ca dom σ [.ref (ad 4 0), .int a1]) (va_Qi (fun r (_ : Unit) => r = ρ) (fun _ t => hB (dC, dI) (va_A (w9 ad ca dom σ) sz) ad ca dom σ' t) (va_A (w9 ad ca dom σ) sz)) 0 0 (va_A (w9 ad ca dom σ) sz) := by
  refine Met.ofW (cc := cM_failAfter) (maxL := 2) (ret := (some .boolean)) (by decide) rfl ?_
  intro p e s m args below meth c s₁ B hml hv
  obtain ⟨rfl, hv⟩ := hv
  have hx := B.exec
  have hb := B.bytes
  have hr := B.returns
  have hts : ∀ w ∈ aw, w.before _ s = true := fun w h => atoms_spec (ws := (.code yM_failAfter cM_failAfter 2 (some .boolean) :: aw)) B.pre w (List.mem_cons_of_mem _ h)
  have hown : s.vm.findClass RM = some m.cls := findClass_of_methodNamed B.named
  have hlocks := B.notSynchronized
  obtain ⟨hsz, hP, hK, hD0, hG⟩ := hv
  subst hsz
  have hD := hD0.self (sz := s.heap.size)
  generalize hAe : va_A (w9 ad ca dom σ) s.heap.size = A at hD ⊢
  have hA : ∀ q : Nat, s.heap.size ≤ q → A q := fun q h => by rw [← hAe]; exact Or.inr h
  obtain ⟨H, hH⟩ : ∃ H, H = s.heap := ⟨_, rfl⟩
  have hS : va_S A s.heap H [] := by rw [hH]; exact va_S.rf
  rw [← hH] at hP ⊢
  unfold M_failAfter at hf
  have hl := lv_entry ([.ref (ad 4 0), .int a1]) (n := 2) (Nat.le_of_ble_eq_true rfl)
  rw [lg_entry_eq]
  generalize (lg_sl ([.ref (ad 4 0), .int a1]) ++ List.replicate (2 - (lg_sl ([.ref (ad 4 0), .int a1])).length) Slot.unset).toArray = ls at hl ⊢
  have hl : lv_has ls 2 [(0, .ref (ad 4 0)), (1, .int a1)] := hl
  refine lv_aload_n (pc := 0) hx hb dM_failAfter_0 rfl (lv_at hl 0 rfl) ?_
  refine lv_iconst (pc := 1) (v := 0) hx hb dM_failAfter_1 (by decide) ?_
  obtain ⟨q2, hq2, eq2⟩ := at_4 (ad := ad) (ca := ca) (σ := σ) hm0
  refine va_put (D := (dC, dI)) (cl := kCl) (ci := 4) (v := .int 0) (ty := .int) (C := RM) (T := TM) (N := 11) (pc := 2) hx hb hts inM tyM tyM_ok nmM hown hK.1 hP hD hS q2 eq2 rfl 0 (by decide) (hts _ wd_45) (fun _ h9 => h9) rfl (by decide +kernel) (rfl) (rfl) (Nat.le_of_ble_eq_true rfl) dM_failAfter_2 (fun H locs hP hD hS => ?_)
  obtain ⟨σ1, hσ1, hf⟩ := lt_9 hf
  obtain ⟨hP, hD⟩ := w9_rI 500 rfl hN hq2 hσ1 (pu_500) hP hD
  have hC : clo dom σ1.2.2 := by rw [hσ1]; exact hC
  refine lv_iload_n (pc := 5) hx hb dM_failAfter_5 rfl (lv_at hl 1 rfl) ?_
  refine lv_if_lt (pc := 6) (tgt := 16) hx hb dM_failAfter_6 rfl (fun h3 => ?_) (fun h3 => ?_)
  · replace hf := ite_t h3 hf
    refine lv_iconst (pc := 16) (v := 0) hx hb dM_failAfter_16 (by decide) ?_
    obtain ⟨h8, h9⟩ := Prod.mk.inj (Option.some.inj hf)
    subst h9
    exact W.zret (pc := 17) hx hb hr (rfl) (fun t ht hW => ⟨⟨_, (), rfl, h8, by rw [ht]; exact hP, hD, hC⟩, hS.F ht⟩) hS.2.2 dM_failAfter_17
  · replace hf := ite_f h3 hf
    refine lv_aload_n (pc := 9) hx hb dM_failAfter_9 rfl (lv_at hl 0 rfl) ?_
    obtain ⟨q4, hq4, eq4⟩ := at_4 (ad := ad) (ca := ca) (σ := σ1) hm0
    refine va_get (D := (dC, dI)) (cl := kCl) (C := RM) (T := TM) (N := 11) (pc := 10) hx hb hts inM hown hK.1 hP q4 eq4 rfl 4 (by decide) (hts _ wd_128) (fun _ h9 => h9) rfl dM_failAfter_10 ?_
    refine lv_if_eq (pc := 13) (tgt := 18) hx hb dM_failAfter_13 rfl (fun h5 => ?_) (fun h5 => ?_)
    · replace hf := ite_t h5 hf
      refine lv_aload_n (pc := 18) hx hb dM_failAfter_18 rfl (lv_at hl 0 rfl) ?_
      refine lv_iload_n (pc := 19) hx hb dM_failAfter_19 rfl (lv_at hl 1 rfl) ?_
      obtain ⟨q7, hq7, eq7⟩ := at_4 (ad := ad) (ca := ca) (σ := σ1) hm0
      refine va_put (D := (dC, dI)) (cl := kCl) (ci := 4) (v := .int a1) (ty := .int) (C := RM) (T := TM) (N := 11) (pc := 20) hx hb hts inM tyM tyM_ok nmM hown hK.1 hP hD hS q7 eq7 rfl 5 (by decide) (hts _ wd_130) (fun _ h9 => h9) rfl (by decide +kernel) (rfl) (rfl) (Nat.le_of_ble_eq_true rfl) dM_failAfter_20 (fun H locs hP hD hS => ?_)
      obtain ⟨σ6, hσ6, hf⟩ := lt_9 hf
      obtain ⟨hP, hD⟩ := w9_rI 505 rfl hN hq7 hσ6 (pu_505) hP hD
      have hC : clo dom σ6.2.2 := by rw [hσ6]; exact hC
      refine lv_iconst (pc := 23) (v := 1) hx hb dM_failAfter_23 (by decide) ?_
      obtain ⟨h8, h9⟩ := Prod.mk.inj (Option.some.inj hf)
      subst h9
      exact W.zret (pc := 24) hx hb hr (rfl) (fun t ht hW => ⟨⟨_, (), rfl, h8, by rw [ht]; exact hP, hD, hC⟩, hS.F ht⟩) hS.2.2 dM_failAfter_24
    · replace hf := ite_f h5 hf
      refine lv_iconst (pc := 16) (v := 0) hx hb dM_failAfter_16 (by decide) ?_
      obtain ⟨h8, h9⟩ := Prod.mk.inj (Option.some.inj hf)
      subst h9
      exact W.zret (pc := 17) hx hb hr (rfl) (fun t ht hW => ⟨⟨_, (), rfl, h8, by rw [ht]; exact hP, hD, hC⟩, hS.F ht⟩) hS.2.2 dM_failAfter_17
def M_start_L46 (n : Nat) (kx22 : hT → Int32 → Int32 → Option (Int32 × hT)) : Nat → hT → Int32 → Int32 → Option (Int32 × hT)
  | 0, _, _, _ => none
  | k + 1, σ19, p20, p21 => if (xI σ19 15 0 16) ≤ p20 then kx22 (σ19) p20 p21 else Option.bind (M_with σ19 p20) fun y28 => if y28 < 0 then M_start_L46 n kx22 k (σ19) (p20 + 1) (p21 + 0) else M_start_L46 n kx22 k (σ19) (p20 + 1) (p21 + 1)
def M_start_L19 (n : Nat) (kx9 : hT → Int32 → Option (Int32 × hT)) : Nat → hT → Int32 → Option (Int32 × hT)
  | 0, _, _ => none
  | k + 1, σ7, p8 => if 25240 ≤ p8 then kx9 (σ7) p8 else if in9 p8 25240 then if in9 p8 25240 then lt9 (sI σ7 15 0 (p8).toNatClampNeg (xI σ7 16 0 (p8).toNatClampNeg)) fun σ16 => M_start_L19 n kx9 k (σ16) (p8 + 1) else none else none
def M_start (n : Nat) (σ : hT) : Option (Int32 × hT) := lt9 (sI σ 500 0 0 0) fun σ1 => lt9 (sI σ1 504 0 0 0) fun σ3 => lt9 (sI σ3 505 0 0 (-1)) fun σ5 => lt9 (α := hT → Int32 → Option (Int32 × hT)) (fun (σ7 : hT) (p8 : Int32) => lt9 (α := hT → Int32 → Int32 → Option (Int32 × hT)) (fun (σ19 : hT) (p20 : Int32) (p21 : Int32) => some (p21, σ19)) fun kx22 => M_start_L46 n kx22 n (σ7) 0 0) fun kx9 => M_start_L19 n kx9 n (σ5) 0
set_option maxHeartbeats 4000000 in
set_option maxRecDepth 100000 in
theorem t_M_start (l : Launch) (dC : Nat → ClassId) (dI : Nat → Nat → Nat) (ad : Nat → Nat → Nat) (ca : Nat → Nat → ClassId) (dom : List (Nat × Nat)) (sz : Nat) (n : Nat) (σ : hT) (hm0 : (4, 0) ∈ dom) (hN : dom.Nodup) (hC : clo dom σ.2.2) (ρ : Int32) (σ' : hT) (hf : M_start n σ = some (ρ, σ')) : Met l yM_start (.code yM_start cM_start 3 (some .int) :: aw) ({ frames := 2, cells := 0, slots := 0, locals := 42 }) (hW (dC, dI) sz ad ca dom σ [.ref (ad 4 0)]) (va_Qi (fun r (_ : Unit) => r = ρ) (fun _ t => hB (dC, dI) (va_A (w9 ad ca dom σ) sz) ad ca dom σ' t) (va_A (w9 ad ca dom σ) sz)) 0 0 (va_A (w9 ad ca dom σ) sz) := by
  refine Met.ofW (cc := cM_start) (maxL := 3) (ret := (some .int)) (by decide) rfl ?_
  intro p e s m args below meth c s₁ B hml hv
  obtain ⟨rfl, hv⟩ := hv
  have hx := B.exec
  have hb := B.bytes
  have hr := B.returns
  have hts : ∀ w ∈ aw, w.before _ s = true := fun w h => atoms_spec (ws := (.code yM_start cM_start 3 (some .int) :: aw)) B.pre w (List.mem_cons_of_mem _ h)
  have hown : s.vm.findClass RM = some m.cls := findClass_of_methodNamed B.named
  have hlocks := B.notSynchronized
  obtain ⟨hsz, hP, hK, hD0, hG⟩ := hv
  subst hsz
  have hD := hD0.self (sz := s.heap.size)
  generalize hAe : va_A (w9 ad ca dom σ) s.heap.size = A at hD ⊢
  have hA : ∀ q : Nat, s.heap.size ≤ q → A q := fun q h => by rw [← hAe]; exact Or.inr h
  obtain ⟨H, hH⟩ : ∃ H, H = s.heap := ⟨_, rfl⟩
  have hS : va_S A s.heap H [] := by rw [hH]; exact va_S.rf
  rw [← hH] at hP ⊢
  unfold M_start at hf
  have hl := lv_entry ([.ref (ad 4 0)]) (n := 3) (Nat.le_of_ble_eq_true rfl)
  rw [lg_entry_eq]
  generalize (lg_sl ([.ref (ad 4 0)]) ++ List.replicate (3 - (lg_sl ([.ref (ad 4 0)])).length) Slot.unset).toArray = ls at hl ⊢
  have hl : lv_has ls 3 [(0, .ref (ad 4 0))] := hl
  refine lv_aload_n (pc := 0) hx hb dM_start_0 rfl (lv_at hl 0 rfl) ?_
  refine lv_iconst (pc := 1) (v := 0) hx hb dM_start_1 (by decide) ?_
  obtain ⟨q2, hq2, eq2⟩ := at_4 (ad := ad) (ca := ca) (σ := σ) hm0
  refine va_put (D := (dC, dI)) (cl := kCl) (ci := 4) (v := .int 0) (ty := .int) (C := RM) (T := TM) (N := 11) (pc := 2) hx hb hts inM tyM tyM_ok nmM hown hK.1 hP hD hS q2 eq2 rfl 0 (by decide) (hts _ wd_45) (fun _ h9 => h9) rfl (by decide +kernel) (rfl) (rfl) (Nat.le_of_ble_eq_true rfl) dM_start_2 (fun H locs hP hD hS => ?_)
  obtain ⟨σ1, hσ1, hf⟩ := lt_9 hf
  obtain ⟨hP, hD⟩ := w9_rI 500 rfl hN hq2 hσ1 (pu_500) hP hD
  have hC : clo dom σ1.2.2 := by rw [hσ1]; exact hC
  refine lv_aload_n (pc := 5) hx hb dM_start_5 rfl (lv_at hl 0 rfl) ?_
  refine lv_iconst (pc := 6) (v := 0) hx hb dM_start_6 (by decide) ?_
  obtain ⟨q4, hq4, eq4⟩ := at_4 (ad := ad) (ca := ca) (σ := σ1) hm0
  refine va_put (D := (dC, dI)) (cl := kCl) (ci := 4) (v := .int 0) (ty := .boolean) (C := RM) (T := TM) (N := 11) (pc := 7) hx hb hts inM tyM tyM_ok nmM hown hK.1 hP hD hS q4 eq4 rfl 4 (by decide) (hts _ wd_128) (fun _ h9 => h9) rfl (by decide +kernel) (rfl) (rfl) (Nat.le_of_ble_eq_true rfl) dM_start_7 (fun H locs hP hD hS => ?_)
  obtain ⟨σ3, hσ3, hf⟩ := lt_9 hf
  obtain ⟨hP, hD⟩ := w9_rI 504 rfl hN hq4 hσ3 (pu_504) hP hD
  have hC : clo dom σ3.2.2 := by rw [hσ3]; exact hC
  refine lv_aload_n (pc := 10) hx hb dM_start_10 rfl (lv_at hl 0 rfl) ?_
  refine lv_iconst (pc := 11) (v := (-1)) hx hb dM_start_11 (by decide) ?_
  obtain ⟨q6, hq6, eq6⟩ := at_4 (ad := ad) (ca := ca) (σ := σ3) hm0
  refine va_put (D := (dC, dI)) (cl := kCl) (ci := 4) (v := .int (-1)) (ty := .int) (C := RM) (T := TM) (N := 11) (pc := 12) hx hb hts inM tyM tyM_ok nmM hown hK.1 hP hD hS q6 eq6 rfl 5 (by decide) (hts _ wd_130) (fun _ h9 => h9) rfl (by decide +kernel) (rfl) (rfl) (Nat.le_of_ble_eq_true rfl) dM_start_12 (fun H locs hP hD hS => ?_)
  obtain ⟨σ5, hσ5, hf⟩ := lt_9 hf
  obtain ⟨hP, hD⟩ := w9_rI 505 rfl hN hq6 hσ5 (pu_505) hP hD
  have hC : clo dom σ5.2.2 := by rw [hσ5]; exact hC
  refine lv_iconst (pc := 15) (v := 0) hx hb dM_start_15 (by decide) ?_
  refine lv_istore_n (pc := 16) hx hb dM_start_16 rfl hl (by decide) rfl (fun ls hl => ?_)
  have hl : lv_has ls 3 [(1, .int 0), (0, .ref (ad 4 0))] := hl
  refine lv_iconst (pc := 17) (v := 0) hx hb dM_start_17 (by decide) ?_
  refine lv_istore_n (pc := 18) hx hb dM_start_18 rfl hl (by decide) rfl (fun ls hl => ?_)
  have hl : lv_has ls 3 [(2, .int 0), (1, .int 0), (0, .ref (ad 4 0))] := hl
  obtain ⟨kx9, hkx9, hf⟩ := lt_9 hf
  refine lpF (τ := (hT) × (Int32) × (Heap) × (List Loc) × (Array Slot)) (fun pc z => W p l e _ s m _ below meth c z.2.2.1 z.2.2.2.1 0 0 _ (F0 m pc z.2.2.2.2 [])) 19 44 (fun z => va_P (dC, dI) kCl (w9 ad ca dom z.1) z.2.2.1 ∧ va_D A (w9 ad ca dom z.1) ∧ va_S A s.heap z.2.2.1 z.2.2.2.1 ∧ clo dom z.1.2.2 ∧ lv_has z.2.2.2.2 3 [(2, .int z.2.1), (1, .int 0), (0, .ref (ad 4 0))]) (fun k z => M_start_L19 n kx9 k z.1 z.2.1) (fun z => kx9 z.1 z.2.1) _ (fun z => rfl) ?_ ?_ n (σ5, 0, H, _, ls) ⟨hP, hD, hS, hC, hl⟩ hf
  · rintro k ⟨σ7, p8, H, locs, ls⟩ ⟨hP, hD, hS, hC, hl⟩ hf ih10 hXkx9
    dsimp only at hP hD hS hC hl hf ih10 hXkx9 ⊢
    unfold M_start_L19 at hf
    have hl : lv_has ls 3 [(2, .int p8), (1, .int 0), (0, .ref (ad 4 0))] := hl
    refine lv_iload_n (pc := 19) hx hb dM_start_19 rfl (lv_at hl 0 rfl) ?_
    refine lv_sipush (pc := 20) (v := 25240) hx hb dM_start_20 (by decide) ?_
    refine lv_icmp_ge (pc := 23) (tgt := 44) hx hb dM_start_23 rfl (fun h11 => ?_) (fun h11 => ?_)
    · replace hf := ite_t h11 hf
      have hl := lv_sub hl (l' := [(2, .int p8), (1, .int 0), (0, .ref (ad 4 0))]) [0, 1, 2] rfl
      exact hXkx9 (σ7, p8, H, _, ls) ⟨hP, hD, hS, hC, hl⟩ hf
    · replace hf := ite_f h11 hf
      refine lv_aload_n (pc := 26) hx hb dM_start_26 rfl (lv_at hl 2 rfl) ?_
      obtain ⟨q12, hq12, eq12⟩ := at_4 (ad := ad) (ca := ca) (σ := σ7) hm0
      refine va_get (D := (dC, dI)) (cl := kCl) (C := RM) (T := TM) (N := 11) (pc := 27) hx hb hts inM hown hK.1 hP q12 eq12 rfl 2 (by decide) (hts _ wd_51) (fun _ h9 => h9) rfl dM_start_27 ?_
      refine lv_iload_n (pc := 30) hx hb dM_start_30 rfl (lv_at hl 0 rfl) ?_
      refine lv_aload_n (pc := 31) hx hb dM_start_31 rfl (lv_at hl 2 rfl) ?_
      obtain ⟨q13, hq13, eq13⟩ := at_4 (ad := ad) (ca := ca) (σ := σ7) hm0
      refine va_get (D := (dC, dI)) (cl := kCl) (C := RM) (T := TM) (N := 11) (pc := 32) hx hb hts inM hown hK.1 hP q13 eq13 rfl 3 (by decide) (hts _ wd_127) (fun _ h9 => h9) rfl dM_start_32 ?_
      refine lv_iload_n (pc := 35) hx hb dM_start_35 rfl (lv_at hl 0 rfl) ?_
      obtain ⟨hv14, hf⟩ := ite_s hf
      obtain ⟨q15, hq15, eq15⟩ := at_16 (ad := ad) (ca := ca) (σ := σ7) (cm_4_3 hC hm0)
      refine va_iald (D := (dC, dI)) (cl := kCl) (pc := 36) hx hb (hK.2 16 0 .int (cm_4_3 hC hm0) rfl) hP q15 0 eq15 rfl (hv14) dM_start_36 ?_
      refine W.eq (g2 := F0 m 37 ls [.int (xI σ7 16 0 (p8).toNatClampNeg), .int p8, .ref (ad 15 0)]) rfl ?_
      obtain ⟨hv17, hf⟩ := ite_s hf
      obtain ⟨q18, hq18, eq18⟩ := at_15 (ad := ad) (ca := ca) (σ := σ7) (cm_4_2 hC hm0)
      refine va_iast (D := (dC, dI)) (cl := kCl) (pc := 37) hx hb (hK.2 15 0 .int (cm_4_2 hC hm0) rfl) hP hD hS q18 0 eq18 rfl (hv17) dM_start_37 (fun H locs hP hD hS => ?_)
      obtain ⟨σ16, hσ16, hf⟩ := lt_9 hf
      obtain ⟨hP, hD⟩ := w9_rI 15 rfl hN hq18 hσ16 (pr_15) hP hD
      have hC : clo dom σ16.2.2 := by rw [hσ16]; exact hC
      refine lv_iinc (pc := 38) (v := (p8 + 1)) hx hb dM_start_38 hl (k := 0) rfl (by rfl) (by decide) rfl (fun ls hl => ?_)
      have hl : lv_has ls 3 [(2, .int (p8 + 1)), (1, .int 0), (0, .ref (ad 4 0))] := hl
      refine lv_goto (pc := 41) (tgt := 19) hx hb dM_start_41 rfl ?_
      have hl := lv_sub hl (l' := [(2, .int (p8 + 1)), (1, .int 0), (0, .ref (ad 4 0))]) [0, 1, 2] rfl
      exact ih10 (σ16, (p8 + 1), H, _, ls) ⟨hP, hD, hS, hC, hl⟩ hf
  · rintro ⟨σ7, p8, H, locs, ls⟩ ⟨hP, hD, hS, hC, hl⟩ hf
    dsimp only at hP hD hS hC hl hf ⊢
    rw [hkx9] at hf
    have hl : lv_has ls 3 [(2, .int p8), (1, .int 0), (0, .ref (ad 4 0))] := hl
    refine lv_iconst (pc := 44) (v := 0) hx hb dM_start_44 (by decide) ?_
    refine lv_istore_n (pc := 45) hx hb dM_start_45 rfl hl (by decide) rfl (fun ls hl => ?_)
    have hl : lv_has ls 3 [(2, .int 0), (1, .int 0), (0, .ref (ad 4 0))] := hl
    obtain ⟨kx22, hkx22, hf⟩ := lt_9 hf
    refine lpF (τ := (hT) × (Int32) × (Int32) × (Heap) × (List Loc) × (Array Slot)) (fun pc z => W p l e _ s m _ below meth c z.2.2.2.1 z.2.2.2.2.1 0 0 _ (F0 m pc z.2.2.2.2.2 [])) 46 79 (fun z => va_P (dC, dI) kCl (w9 ad ca dom z.1) z.2.2.2.1 ∧ va_D A (w9 ad ca dom z.1) ∧ va_S A s.heap z.2.2.2.1 z.2.2.2.2.1 ∧ clo dom z.1.2.2 ∧ lv_has z.2.2.2.2.2 3 [(2, .int z.2.1), (1, .int z.2.2.1), (0, .ref (ad 4 0))]) (fun k z => M_start_L46 n kx22 k z.1 z.2.1 z.2.2.1) (fun z => kx22 z.1 z.2.1 z.2.2.1) _ (fun z => rfl) ?_ ?_ n (σ7, 0, 0, H, _, ls) ⟨hP, hD, hS, hC, hl⟩ hf
    · rintro k ⟨σ19, p20, p21, H, locs, ls⟩ ⟨hP, hD, hS, hC, hl⟩ hf ih23 hXkx22
      dsimp only at hP hD hS hC hl hf ih23 hXkx22 ⊢
      unfold M_start_L46 at hf
      have hl : lv_has ls 3 [(2, .int p20), (1, .int p21), (0, .ref (ad 4 0))] := hl
      refine lv_iload_n (pc := 46) hx hb dM_start_46 rfl (lv_at hl 0 rfl) ?_
      refine lv_aload_n (pc := 47) hx hb dM_start_47 rfl (lv_at hl 2 rfl) ?_
      obtain ⟨q24, hq24, eq24⟩ := at_4 (ad := ad) (ca := ca) (σ := σ19) hm0
      refine va_get (D := (dC, dI)) (cl := kCl) (C := RM) (T := TM) (N := 11) (pc := 48) hx hb hts inM hown hK.1 hP q24 eq24 rfl 2 (by decide) (hts _ wd_51) (fun _ h9 => h9) rfl dM_start_48 ?_
      refine lv_bipush (pc := 51) (v := 16) hx hb dM_start_51 (by decide) ?_
      obtain ⟨q25, hq25, eq25⟩ := at_15 (ad := ad) (ca := ca) (σ := σ19) (cm_4_2 hC hm0)
      refine va_iald (D := (dC, dI)) (cl := kCl) (pc := 53) hx hb (hK.2 15 0 .int (cm_4_2 hC hm0) rfl) hP q25 0 eq25 rfl (vp_in_lit 16 25240 (by decide)) dM_start_53 ?_
      refine W.eq (g2 := F0 m 54 ls [.int (xI σ19 15 0 16), .int p20]) rfl ?_
      refine lv_icmp_ge (pc := 54) (tgt := 79) hx hb dM_start_54 rfl (fun h26 => ?_) (fun h26 => ?_)
      · replace hf := ite_t h26 hf
        have hl := lv_sub hl (l' := [(2, .int p20), (1, .int p21), (0, .ref (ad 4 0))]) [0, 1, 2] rfl
        exact hXkx22 (σ19, p20, p21, H, _, ls) ⟨hP, hD, hS, hC, hl⟩ hf
      · replace hf := ite_f h26 hf
        refine lv_iload_n (pc := 57) hx hb dM_start_57 rfl (lv_at hl 1 rfl) ?_
        refine lv_aload_n (pc := 58) hx hb dM_start_58 rfl (lv_at hl 2 rfl) ?_
        refine lv_iload_n (pc := 59) hx hb dM_start_59 rfl (lv_at hl 0 rfl) ?_
        obtain ⟨q27, hq27, eq27⟩ := at_4 (ad := ad) (ca := ca) (σ := σ19) hm0
        obtain ⟨y28, hy28, hf⟩ := ob hf
        refine vp_callSi (pc := 60) (W.runV (As := [.int p20]) (rest := [.int p21]) ⟨hx, hb, hml, hown, hts⟩ (t_M_with l dC dI ad ca dom σ19 p20 hm0 hN hC y28 hy28) (cwV 1 hts (gV wd_101 wd_102 wd_103 wd_50 wd_100) rfl rfl rfl (by decide +kernel) ⟨Nat.le_of_ble_eq_true rfl, Nat.le_of_ble_eq_true rfl⟩) ⟨hR_blind, va_recv (q := (RM, TM, 11)) (q0 := q27) (ci := 4) hK.1 hP rfl eq27, hR_pre hP hK hG⟩ rfl rfl hl.1 rfl (lv_room (Nat.le_of_ble_eq_true rfl)) dM_start_60 ⟨Nat.le_of_ble_eq_true rfl, Nat.le_of_ble_eq_true rfl⟩) (fun r9 hr9 => ?_)
        refine W.eq (g2 := F0 m 63 ls [.int y28, .int p21]) (by rw [hr9]) ?_
        refine lv_if_lt (pc := 63) (tgt := 70) hx hb dM_start_63 rfl (fun h29 => ?_) (fun h29 => ?_)
        · replace hf := ite_t h29 hf
          refine lv_iconst (pc := 70) (v := 0) hx hb dM_start_70 (by decide) ?_
          refine lv_iadd (pc := 71) hx hb dM_start_71 ?_
          refine lv_istore_n (pc := 72) hx hb dM_start_72 rfl hl (by decide) rfl (fun ls hl => ?_)
          have hl : lv_has ls 3 [(1, .int (p21 + 0)), (2, .int p20), (0, .ref (ad 4 0))] := hl
          refine lv_iinc (pc := 73) (v := (p20 + 1)) hx hb dM_start_73 hl (k := 1) rfl (by rfl) (by decide) rfl (fun ls hl => ?_)
          have hl : lv_has ls 3 [(2, .int (p20 + 1)), (1, .int (p21 + 0)), (0, .ref (ad 4 0))] := hl
          refine lv_goto (pc := 76) (tgt := 46) hx hb dM_start_76 rfl ?_
          have hl := lv_sub hl (l' := [(2, .int (p20 + 1)), (1, .int (p21 + 0)), (0, .ref (ad 4 0))]) [0, 1, 2] rfl
          exact ih23 (σ19, (p20 + 1), (p21 + 0), H, _, ls) ⟨hP, hD, hS, hC, hl⟩ hf
        · replace hf := ite_f h29 hf
          refine lv_iconst (pc := 66) (v := 1) hx hb dM_start_66 (by decide) ?_
          refine lv_goto (pc := 67) (tgt := 71) hx hb dM_start_67 rfl ?_
          refine lv_iadd (pc := 71) hx hb dM_start_71 ?_
          refine lv_istore_n (pc := 72) hx hb dM_start_72 rfl hl (by decide) rfl (fun ls hl => ?_)
          have hl : lv_has ls 3 [(1, .int (p21 + 1)), (2, .int p20), (0, .ref (ad 4 0))] := hl
          refine lv_iinc (pc := 73) (v := (p20 + 1)) hx hb dM_start_73 hl (k := 1) rfl (by rfl) (by decide) rfl (fun ls hl => ?_)
          have hl : lv_has ls 3 [(2, .int (p20 + 1)), (1, .int (p21 + 1)), (0, .ref (ad 4 0))] := hl
          refine lv_goto (pc := 76) (tgt := 46) hx hb dM_start_76 rfl ?_
          have hl := lv_sub hl (l' := [(2, .int (p20 + 1)), (1, .int (p21 + 1)), (0, .ref (ad 4 0))]) [0, 1, 2] rfl
          exact ih23 (σ19, (p20 + 1), (p21 + 1), H, _, ls) ⟨hP, hD, hS, hC, hl⟩ hf
    · rintro ⟨σ19, p20, p21, H, locs, ls⟩ ⟨hP, hD, hS, hC, hl⟩ hf
      dsimp only at hP hD hS hC hl hf ⊢
      rw [hkx22] at hf
      have hl : lv_has ls 3 [(2, .int p20), (1, .int p21), (0, .ref (ad 4 0))] := hl
      refine lv_iload_n (pc := 79) hx hb dM_start_79 rfl (lv_at hl 1 rfl) ?_
      obtain ⟨h8, h9⟩ := Prod.mk.inj (Option.some.inj hf)
      subst h9
      exact W.iret (pc := 80) hx hb hr (fun t ht hW => ⟨⟨_, (), rfl, h8, by rw [ht]; exact hP, hD, hC⟩, hS.F ht⟩) hS.2.2 dM_start_80
def M_count_L9 (n : Nat) (kx7 : hT → Int32 → Int32 → Int32 → Option (Int32 × hT)) : Nat → hT → Int32 → Int32 → Int32 → Option (Int32 × hT)
  | 0, _, _, _, _ => none
  | k + 1, σ3, p4, p5, p6 => if 10 ≤ p4 then kx7 (σ3) p4 p5 p6 else if in9 (M_baselineAt p4) 25240 then M_count_L9 n kx7 k (σ3) (p4 + 1) (p5 + (xI σ3 15 0 ((M_baselineAt p4)).toNatClampNeg)) p6 else none
def M_count (n : Nat) (σ : hT) (a1 : Int32) : Option (Int32 × hT) := lt9 (sI σ 500 0 0 0) fun σ1 => lt9 (α := hT → Int32 → Int32 → Int32 → Option (Int32 × hT)) (fun (σ3 : hT) (p4 : Int32) (p5 : Int32) (p6 : Int32) => if p6 = 0 then some ((xI σ3 15 0 16), σ3) else if p6 = 1 then Option.bind (M_allRevisions n σ3) fun y19 => some (y19, σ3) else if p6 = 2 then Option.bind (M_chunks n σ3 0) fun y22 => some (y22, σ3) else if p6 = 3 then some ((xI σ3 15 0 17), σ3) else if p6 = 4 then some ((xI σ3 15 0 18), σ3) else if p6 = 5 then some ((xI σ3 15 0 19), σ3) else if p6 = 6 then some (p5, σ3) else if p6 = 7 then if (xI σ3 504 0 0) = 0 then some (0, σ3) else some (1, σ3) else some ((-1), σ3)) fun kx7 => M_count_L9 n kx7 n (σ1) 0 0 a1
set_option maxHeartbeats 4000000 in
set_option maxRecDepth 100000 in
theorem t_M_count (l : Launch) (dC : Nat → ClassId) (dI : Nat → Nat → Nat) (ad : Nat → Nat → Nat) (ca : Nat → Nat → ClassId) (dom : List (Nat × Nat)) (sz : Nat) (n : Nat) (σ : hT) (a1 : Int32) (hm0 : (4, 0) ∈ dom) (hN : dom.Nodup) (hC : clo dom σ.2.2) (ρ : Int32) (σ' : hT) (hf : M_count n σ a1 = some (ρ, σ')) : Met l yM_count (.code yM_count cM_count 4 (some .int) :: aw) ({ frames := 5, cells := 0, slots := 0, locals := 114 }) (hW (dC, dI) sz ad ca dom σ [.ref (ad 4 0), .int a1]) (va_Qi (fun r (_ : Unit) => r = ρ) (fun _ t => hB (dC, dI) (va_A (w9 ad ca dom σ) sz) ad ca dom σ' t) (va_A (w9 ad ca dom σ) sz)) 0 0 (va_A (w9 ad ca dom σ) sz) := by
  refine Met.ofW (cc := cM_count) (maxL := 4) (ret := (some .int)) (by decide) rfl ?_
  intro p e s m args below meth c s₁ B hml hv
  obtain ⟨rfl, hv⟩ := hv
  have hx := B.exec
  have hb := B.bytes
  have hr := B.returns
  have hts : ∀ w ∈ aw, w.before _ s = true := fun w h => atoms_spec (ws := (.code yM_count cM_count 4 (some .int) :: aw)) B.pre w (List.mem_cons_of_mem _ h)
  have hown : s.vm.findClass RM = some m.cls := findClass_of_methodNamed B.named
  have hlocks := B.notSynchronized
  obtain ⟨hsz, hP, hK, hD0, hG⟩ := hv
  subst hsz
  have hD := hD0.self (sz := s.heap.size)
  generalize hAe : va_A (w9 ad ca dom σ) s.heap.size = A at hD ⊢
  have hA : ∀ q : Nat, s.heap.size ≤ q → A q := fun q h => by rw [← hAe]; exact Or.inr h
  obtain ⟨H, hH⟩ : ∃ H, H = s.heap := ⟨_, rfl⟩
  have hS : va_S A s.heap H [] := by rw [hH]; exact va_S.rf
  rw [← hH] at hP ⊢
  unfold M_count at hf
  have hl := lv_entry ([.ref (ad 4 0), .int a1]) (n := 4) (Nat.le_of_ble_eq_true rfl)
  rw [lg_entry_eq]
  generalize (lg_sl ([.ref (ad 4 0), .int a1]) ++ List.replicate (4 - (lg_sl ([.ref (ad 4 0), .int a1])).length) Slot.unset).toArray = ls at hl ⊢
  have hl : lv_has ls 4 [(0, .ref (ad 4 0)), (1, .int a1)] := hl
  refine lv_aload_n (pc := 0) hx hb dM_count_0 rfl (lv_at hl 0 rfl) ?_
  refine lv_iconst (pc := 1) (v := 0) hx hb dM_count_1 (by decide) ?_
  obtain ⟨q2, hq2, eq2⟩ := at_4 (ad := ad) (ca := ca) (σ := σ) hm0
  refine va_put (D := (dC, dI)) (cl := kCl) (ci := 4) (v := .int 0) (ty := .int) (C := RM) (T := TM) (N := 11) (pc := 2) hx hb hts inM tyM tyM_ok nmM hown hK.1 hP hD hS q2 eq2 rfl 0 (by decide) (hts _ wd_45) (fun _ h9 => h9) rfl (by decide +kernel) (rfl) (rfl) (Nat.le_of_ble_eq_true rfl) dM_count_2 (fun H locs hP hD hS => ?_)
  obtain ⟨σ1, hσ1, hf⟩ := lt_9 hf
  obtain ⟨hP, hD⟩ := w9_rI 500 rfl hN hq2 hσ1 (pu_500) hP hD
  have hC : clo dom σ1.2.2 := by rw [hσ1]; exact hC
  refine lv_iconst (pc := 5) (v := 0) hx hb dM_count_5 (by decide) ?_
  refine lv_istore_n (pc := 6) hx hb dM_count_6 rfl hl (by decide) rfl (fun ls hl => ?_)
  have hl : lv_has ls 4 [(2, .int 0), (0, .ref (ad 4 0)), (1, .int a1)] := hl
  refine lv_iconst (pc := 7) (v := 0) hx hb dM_count_7 (by decide) ?_
  refine lv_istore_n (pc := 8) hx hb dM_count_8 rfl hl (by decide) rfl (fun ls hl => ?_)
  have hl : lv_has ls 4 [(3, .int 0), (2, .int 0), (0, .ref (ad 4 0)), (1, .int a1)] := hl
  obtain ⟨kx7, hkx7, hf⟩ := lt_9 hf
  refine lpF (τ := (hT) × (Int32) × (Int32) × (Int32) × (Heap) × (List Loc) × (Array Slot)) (fun pc z => W p l e _ s m _ below meth c z.2.2.2.2.1 z.2.2.2.2.2.1 0 0 _ (F0 m pc z.2.2.2.2.2.2 [])) 9 34 (fun z => va_P (dC, dI) kCl (w9 ad ca dom z.1) z.2.2.2.2.1 ∧ va_D A (w9 ad ca dom z.1) ∧ va_S A s.heap z.2.2.2.2.1 z.2.2.2.2.2.1 ∧ clo dom z.1.2.2 ∧ lv_has z.2.2.2.2.2.2 4 [(3, .int z.2.1), (2, .int z.2.2.1), (0, .ref (ad 4 0)), (1, .int z.2.2.2.1)]) (fun k z => M_count_L9 n kx7 k z.1 z.2.1 z.2.2.1 z.2.2.2.1) (fun z => kx7 z.1 z.2.1 z.2.2.1 z.2.2.2.1) _ (fun z => rfl) ?_ ?_ n (σ1, 0, 0, a1, H, _, ls) ⟨hP, hD, hS, hC, hl⟩ hf
  · rintro k ⟨σ3, p4, p5, p6, H, locs, ls⟩ ⟨hP, hD, hS, hC, hl⟩ hf ih8 hXkx7
    dsimp only at hP hD hS hC hl hf ih8 hXkx7 ⊢
    unfold M_count_L9 at hf
    have hl : lv_has ls 4 [(3, .int p4), (2, .int p5), (0, .ref (ad 4 0)), (1, .int p6)] := hl
    refine lv_iload_n (pc := 9) hx hb dM_count_9 rfl (lv_at hl 0 rfl) ?_
    refine lv_bipush (pc := 10) (v := 10) hx hb dM_count_10 (by decide) ?_
    refine lv_icmp_ge (pc := 12) (tgt := 34) hx hb dM_count_12 rfl (fun h9 => ?_) (fun h9 => ?_)
    · replace hf := ite_t h9 hf
      have hl := lv_sub hl (l' := [(3, .int p4), (2, .int p5), (0, .ref (ad 4 0)), (1, .int p6)]) [0, 1, 2, 3] rfl
      exact hXkx7 (σ3, p4, p5, p6, H, _, ls) ⟨hP, hD, hS, hC, hl⟩ hf
    · replace hf := ite_f h9 hf
      refine lv_iload_n (pc := 15) hx hb dM_count_15 rfl (lv_at hl 1 rfl) ?_
      refine lv_aload_n (pc := 16) hx hb dM_count_16 rfl (lv_at hl 2 rfl) ?_
      obtain ⟨q10, hq10, eq10⟩ := at_4 (ad := ad) (ca := ca) (σ := σ3) hm0
      refine va_get (D := (dC, dI)) (cl := kCl) (C := RM) (T := TM) (N := 11) (pc := 17) hx hb hts inM hown hK.1 hP q10 eq10 rfl 2 (by decide) (hts _ wd_51) (fun _ h9 => h9) rfl dM_count_17 ?_
      refine lv_aload_n (pc := 20) hx hb dM_count_20 rfl (lv_at hl 2 rfl) ?_
      refine lv_iload_n (pc := 21) hx hb dM_count_21 rfl (lv_at hl 0 rfl) ?_
      obtain ⟨q11, hq11, eq11⟩ := at_4 (ad := ad) (ca := ca) (σ := σ3) hm0
      refine vp_callSi (pc := 22) (W.runV (As := [.int p4]) (rest := [.ref (ad 15 0), .int p5]) ⟨hx, hb, hml, hown, hts⟩ (t_M_baselineAt l dC dI ad ca dom p4 hm0 σ3 hN hC (M_baselineAt p4) rfl) (cwV 1 hts (gV wd_124 wd_125 wd_126 wd_50 wd_123) rfl rfl rfl (by decide +kernel) ⟨Nat.le_of_ble_eq_true rfl, Nat.le_of_ble_eq_true rfl⟩) ⟨hR_blind, va_recv (q := (RM, TM, 11)) (q0 := q11) (ci := 4) hK.1 hP rfl eq11, hR_pre hP hK hG⟩ rfl rfl hl.1 rfl (lv_room (Nat.le_of_ble_eq_true rfl)) dM_count_22 ⟨Nat.le_of_ble_eq_true rfl, Nat.le_of_ble_eq_true rfl⟩) (fun r9 hr9 => ?_)
      refine W.eq (g2 := F0 m 25 ls [.int (M_baselineAt p4), .ref (ad 15 0), .int p5]) (by rw [hr9]) ?_
      obtain ⟨hv12, hf⟩ := ite_s hf
      obtain ⟨q13, hq13, eq13⟩ := at_15 (ad := ad) (ca := ca) (σ := σ3) (cm_4_2 hC hm0)
      refine va_iald (D := (dC, dI)) (cl := kCl) (pc := 25) hx hb (hK.2 15 0 .int (cm_4_2 hC hm0) rfl) hP q13 0 eq13 rfl (hv12) dM_count_25 ?_
      refine W.eq (g2 := F0 m 26 ls [.int (xI σ3 15 0 ((M_baselineAt p4)).toNatClampNeg), .int p5]) rfl ?_
      refine lv_iadd (pc := 26) hx hb dM_count_26 ?_
      refine lv_istore_n (pc := 27) hx hb dM_count_27 rfl hl (by decide) rfl (fun ls hl => ?_)
      have hl : lv_has ls 4 [(2, .int (p5 + (xI σ3 15 0 ((M_baselineAt p4)).toNatClampNeg))), (3, .int p4), (0, .ref (ad 4 0)), (1, .int p6)] := hl
      refine lv_iinc (pc := 28) (v := (p4 + 1)) hx hb dM_count_28 hl (k := 1) rfl (by rfl) (by decide) rfl (fun ls hl => ?_)
      have hl : lv_has ls 4 [(3, .int (p4 + 1)), (2, .int (p5 + (xI σ3 15 0 ((M_baselineAt p4)).toNatClampNeg))), (0, .ref (ad 4 0)), (1, .int p6)] := hl
      refine lv_goto (pc := 31) (tgt := 9) hx hb dM_count_31 rfl ?_
      have hl := lv_sub hl (l' := [(3, .int (p4 + 1)), (2, .int (p5 + (xI σ3 15 0 ((M_baselineAt p4)).toNatClampNeg))), (0, .ref (ad 4 0)), (1, .int p6)]) [0, 1, 2, 3] rfl
      exact ih8 (σ3, (p4 + 1), (p5 + (xI σ3 15 0 ((M_baselineAt p4)).toNatClampNeg)), p6, H, _, ls) ⟨hP, hD, hS, hC, hl⟩ hf
  · rintro ⟨σ3, p4, p5, p6, H, locs, ls⟩ ⟨hP, hD, hS, hC, hl⟩ hf
    dsimp only at hP hD hS hC hl hf ⊢
    rw [hkx7] at hf
    have hl : lv_has ls 4 [(3, .int p4), (2, .int p5), (0, .ref (ad 4 0)), (1, .int p6)] := hl
    refine lv_iload_n (pc := 34) hx hb dM_count_34 rfl (lv_at hl 3 rfl) ?_
    by_cases hw14 : p6 = 0
    · replace hf := ite_t hw14 hf
      refine lv_tableIn (pc := 35) (tgt := 80) (off := 45) hx hb dM_count_35 (by rw [hw14]; decide) (by rw [hw14]; decide) (by rw [hw14]; decide) rfl ?_
      refine lv_aload_n (pc := 80) hx hb dM_count_80 rfl (lv_at hl 2 rfl) ?_
      obtain ⟨q15, hq15, eq15⟩ := at_4 (ad := ad) (ca := ca) (σ := σ3) hm0
      refine va_get (D := (dC, dI)) (cl := kCl) (C := RM) (T := TM) (N := 11) (pc := 81) hx hb hts inM hown hK.1 hP q15 eq15 rfl 2 (by decide) (hts _ wd_51) (fun _ h9 => h9) rfl dM_count_81 ?_
      refine lv_bipush (pc := 84) (v := 16) hx hb dM_count_84 (by decide) ?_
      obtain ⟨q16, hq16, eq16⟩ := at_15 (ad := ad) (ca := ca) (σ := σ3) (cm_4_2 hC hm0)
      refine va_iald (D := (dC, dI)) (cl := kCl) (pc := 86) hx hb (hK.2 15 0 .int (cm_4_2 hC hm0) rfl) hP q16 0 eq16 rfl (vp_in_lit 16 25240 (by decide)) dM_count_86 ?_
      refine W.eq (g2 := F0 m 87 ls [.int (xI σ3 15 0 16)]) rfl ?_
      obtain ⟨h8, h9⟩ := Prod.mk.inj (Option.some.inj hf)
      subst h9
      exact W.iret (pc := 87) hx hb hr (fun t ht hW => ⟨⟨_, (), rfl, h8, by rw [ht]; exact hP, hD, hC⟩, hS.F ht⟩) hS.2.2 dM_count_87
    replace hf := ite_f hw14 hf
    by_cases hw17 : p6 = 1
    · replace hf := ite_t hw17 hf
      refine lv_tableIn (pc := 35) (tgt := 88) (off := 53) hx hb dM_count_35 (by rw [hw17]; decide) (by rw [hw17]; decide) (by rw [hw17]; decide) rfl ?_
      refine lv_aload_n (pc := 88) hx hb dM_count_88 rfl (lv_at hl 2 rfl) ?_
      obtain ⟨q18, hq18, eq18⟩ := at_4 (ad := ad) (ca := ca) (σ := σ3) hm0
      obtain ⟨y19, hy19, hf⟩ := ob hf
      refine vp_callSi (pc := 89) (W.runV (As := []) (rest := []) ⟨hx, hb, hml, hown, hts⟩ (t_M_allRevisions l dC dI ad ca dom n σ3 hm0 hN hC y19 hy19) (cwV 0 hts (gV wd_116 wd_117 wd_118 wd_50 wd_115) rfl rfl rfl (by decide +kernel) ⟨Nat.le_of_ble_eq_true rfl, Nat.le_of_ble_eq_true rfl⟩) ⟨hR_blind, va_recv (q := (RM, TM, 11)) (q0 := q18) (ci := 4) hK.1 hP rfl eq18, hR_pre hP hK hG⟩ rfl rfl hl.1 rfl (lv_room (Nat.le_of_ble_eq_true rfl)) dM_count_89 ⟨Nat.le_of_ble_eq_true rfl, Nat.le_of_ble_eq_true rfl⟩) (fun r9 hr9 => ?_)
      refine W.eq (g2 := F0 m 92 ls [.int y19]) (by rw [hr9]) ?_
      obtain ⟨h8, h9⟩ := Prod.mk.inj (Option.some.inj hf)
      subst h9
      exact W.iret (pc := 92) hx hb hr (fun t ht hW => ⟨⟨_, (), rfl, h8, by rw [ht]; exact hP, hD, hC⟩, hS.F ht⟩) hS.2.2 dM_count_92
    replace hf := ite_f hw17 hf
    by_cases hw20 : p6 = 2
    · replace hf := ite_t hw20 hf
      refine lv_tableIn (pc := 35) (tgt := 93) (off := 58) hx hb dM_count_35 (by rw [hw20]; decide) (by rw [hw20]; decide) (by rw [hw20]; decide) rfl ?_
      refine lv_aload_n (pc := 93) hx hb dM_count_93 rfl (lv_at hl 2 rfl) ?_
      refine lv_iconst (pc := 94) (v := 0) hx hb dM_count_94 (by decide) ?_
      obtain ⟨q21, hq21, eq21⟩ := at_4 (ad := ad) (ca := ca) (σ := σ3) hm0
      obtain ⟨y22, hy22, hf⟩ := ob hf
      refine vp_callSi (pc := 95) (W.runV (As := [.int 0]) (rest := []) ⟨hx, hb, hml, hown, hts⟩ (t_M_chunks l dC dI ad ca dom n σ3 0 hm0 hN hC y22 hy22) (cwV 1 hts (gV wd_120 wd_121 wd_122 wd_50 wd_119) rfl rfl rfl (by decide +kernel) ⟨Nat.le_of_ble_eq_true rfl, Nat.le_of_ble_eq_true rfl⟩) ⟨hR_blind, va_recv (q := (RM, TM, 11)) (q0 := q21) (ci := 4) hK.1 hP rfl eq21, hR_pre hP hK hG⟩ rfl rfl hl.1 rfl (lv_room (Nat.le_of_ble_eq_true rfl)) dM_count_95 ⟨Nat.le_of_ble_eq_true rfl, Nat.le_of_ble_eq_true rfl⟩) (fun r9 hr9 => ?_)
      refine W.eq (g2 := F0 m 98 ls [.int y22]) (by rw [hr9]) ?_
      obtain ⟨h8, h9⟩ := Prod.mk.inj (Option.some.inj hf)
      subst h9
      exact W.iret (pc := 98) hx hb hr (fun t ht hW => ⟨⟨_, (), rfl, h8, by rw [ht]; exact hP, hD, hC⟩, hS.F ht⟩) hS.2.2 dM_count_98
    replace hf := ite_f hw20 hf
    by_cases hw23 : p6 = 3
    · replace hf := ite_t hw23 hf
      refine lv_tableIn (pc := 35) (tgt := 99) (off := 64) hx hb dM_count_35 (by rw [hw23]; decide) (by rw [hw23]; decide) (by rw [hw23]; decide) rfl ?_
      refine lv_aload_n (pc := 99) hx hb dM_count_99 rfl (lv_at hl 2 rfl) ?_
      obtain ⟨q24, hq24, eq24⟩ := at_4 (ad := ad) (ca := ca) (σ := σ3) hm0
      refine va_get (D := (dC, dI)) (cl := kCl) (C := RM) (T := TM) (N := 11) (pc := 100) hx hb hts inM hown hK.1 hP q24 eq24 rfl 2 (by decide) (hts _ wd_51) (fun _ h9 => h9) rfl dM_count_100 ?_
      refine lv_bipush (pc := 103) (v := 17) hx hb dM_count_103 (by decide) ?_
      obtain ⟨q25, hq25, eq25⟩ := at_15 (ad := ad) (ca := ca) (σ := σ3) (cm_4_2 hC hm0)
      refine va_iald (D := (dC, dI)) (cl := kCl) (pc := 105) hx hb (hK.2 15 0 .int (cm_4_2 hC hm0) rfl) hP q25 0 eq25 rfl (vp_in_lit 17 25240 (by decide)) dM_count_105 ?_
      refine W.eq (g2 := F0 m 106 ls [.int (xI σ3 15 0 17)]) rfl ?_
      obtain ⟨h8, h9⟩ := Prod.mk.inj (Option.some.inj hf)
      subst h9
      exact W.iret (pc := 106) hx hb hr (fun t ht hW => ⟨⟨_, (), rfl, h8, by rw [ht]; exact hP, hD, hC⟩, hS.F ht⟩) hS.2.2 dM_count_106
    replace hf := ite_f hw23 hf
    by_cases hw26 : p6 = 4
    · replace hf := ite_t hw26 hf
      refine lv_tableIn (pc := 35) (tgt := 107) (off := 72) hx hb dM_count_35 (by rw [hw26]; decide) (by rw [hw26]; decide) (by rw [hw26]; decide) rfl ?_
      refine lv_aload_n (pc := 107) hx hb dM_count_107 rfl (lv_at hl 2 rfl) ?_
      obtain ⟨q27, hq27, eq27⟩ := at_4 (ad := ad) (ca := ca) (σ := σ3) hm0
      refine va_get (D := (dC, dI)) (cl := kCl) (C := RM) (T := TM) (N := 11) (pc := 108) hx hb hts inM hown hK.1 hP q27 eq27 rfl 2 (by decide) (hts _ wd_51) (fun _ h9 => h9) rfl dM_count_108 ?_
      refine lv_bipush (pc := 111) (v := 18) hx hb dM_count_111 (by decide) ?_
      obtain ⟨q28, hq28, eq28⟩ := at_15 (ad := ad) (ca := ca) (σ := σ3) (cm_4_2 hC hm0)
      refine va_iald (D := (dC, dI)) (cl := kCl) (pc := 113) hx hb (hK.2 15 0 .int (cm_4_2 hC hm0) rfl) hP q28 0 eq28 rfl (vp_in_lit 18 25240 (by decide)) dM_count_113 ?_
      refine W.eq (g2 := F0 m 114 ls [.int (xI σ3 15 0 18)]) rfl ?_
      obtain ⟨h8, h9⟩ := Prod.mk.inj (Option.some.inj hf)
      subst h9
      exact W.iret (pc := 114) hx hb hr (fun t ht hW => ⟨⟨_, (), rfl, h8, by rw [ht]; exact hP, hD, hC⟩, hS.F ht⟩) hS.2.2 dM_count_114
    replace hf := ite_f hw26 hf
    by_cases hw29 : p6 = 5
    · replace hf := ite_t hw29 hf
      refine lv_tableIn (pc := 35) (tgt := 115) (off := 80) hx hb dM_count_35 (by rw [hw29]; decide) (by rw [hw29]; decide) (by rw [hw29]; decide) rfl ?_
      refine lv_aload_n (pc := 115) hx hb dM_count_115 rfl (lv_at hl 2 rfl) ?_
      obtain ⟨q30, hq30, eq30⟩ := at_4 (ad := ad) (ca := ca) (σ := σ3) hm0
      refine va_get (D := (dC, dI)) (cl := kCl) (C := RM) (T := TM) (N := 11) (pc := 116) hx hb hts inM hown hK.1 hP q30 eq30 rfl 2 (by decide) (hts _ wd_51) (fun _ h9 => h9) rfl dM_count_116 ?_
      refine lv_bipush (pc := 119) (v := 19) hx hb dM_count_119 (by decide) ?_
      obtain ⟨q31, hq31, eq31⟩ := at_15 (ad := ad) (ca := ca) (σ := σ3) (cm_4_2 hC hm0)
      refine va_iald (D := (dC, dI)) (cl := kCl) (pc := 121) hx hb (hK.2 15 0 .int (cm_4_2 hC hm0) rfl) hP q31 0 eq31 rfl (vp_in_lit 19 25240 (by decide)) dM_count_121 ?_
      refine W.eq (g2 := F0 m 122 ls [.int (xI σ3 15 0 19)]) rfl ?_
      obtain ⟨h8, h9⟩ := Prod.mk.inj (Option.some.inj hf)
      subst h9
      exact W.iret (pc := 122) hx hb hr (fun t ht hW => ⟨⟨_, (), rfl, h8, by rw [ht]; exact hP, hD, hC⟩, hS.F ht⟩) hS.2.2 dM_count_122
    replace hf := ite_f hw29 hf
    by_cases hw32 : p6 = 6
    · replace hf := ite_t hw32 hf
      refine lv_tableIn (pc := 35) (tgt := 123) (off := 88) hx hb dM_count_35 (by rw [hw32]; decide) (by rw [hw32]; decide) (by rw [hw32]; decide) rfl ?_
      refine lv_iload_n (pc := 123) hx hb dM_count_123 rfl (lv_at hl 1 rfl) ?_
      obtain ⟨h8, h9⟩ := Prod.mk.inj (Option.some.inj hf)
      subst h9
      exact W.iret (pc := 124) hx hb hr (fun t ht hW => ⟨⟨_, (), rfl, h8, by rw [ht]; exact hP, hD, hC⟩, hS.F ht⟩) hS.2.2 dM_count_124
    replace hf := ite_f hw32 hf
    by_cases hw33 : p6 = 7
    · replace hf := ite_t hw33 hf
      refine lv_tableIn (pc := 35) (tgt := 125) (off := 90) hx hb dM_count_35 (by rw [hw33]; decide) (by rw [hw33]; decide) (by rw [hw33]; decide) rfl ?_
      refine lv_aload_n (pc := 125) hx hb dM_count_125 rfl (lv_at hl 2 rfl) ?_
      obtain ⟨q34, hq34, eq34⟩ := at_4 (ad := ad) (ca := ca) (σ := σ3) hm0
      refine va_get (D := (dC, dI)) (cl := kCl) (C := RM) (T := TM) (N := 11) (pc := 126) hx hb hts inM hown hK.1 hP q34 eq34 rfl 4 (by decide) (hts _ wd_128) (fun _ h9 => h9) rfl dM_count_126 ?_
      refine lv_if_eq (pc := 129) (tgt := 136) hx hb dM_count_129 rfl (fun h35 => ?_) (fun h35 => ?_)
      · replace hf := ite_t h35 hf
        refine lv_iconst (pc := 136) (v := 0) hx hb dM_count_136 (by decide) ?_
        obtain ⟨h8, h9⟩ := Prod.mk.inj (Option.some.inj hf)
        subst h9
        exact W.iret (pc := 137) hx hb hr (fun t ht hW => ⟨⟨_, (), rfl, h8, by rw [ht]; exact hP, hD, hC⟩, hS.F ht⟩) hS.2.2 dM_count_137
      · replace hf := ite_f h35 hf
        refine lv_iconst (pc := 132) (v := 1) hx hb dM_count_132 (by decide) ?_
        refine lv_goto (pc := 133) (tgt := 137) hx hb dM_count_133 rfl ?_
        obtain ⟨h8, h9⟩ := Prod.mk.inj (Option.some.inj hf)
        subst h9
        exact W.iret (pc := 137) hx hb hr (fun t ht hW => ⟨⟨_, (), rfl, h8, by rw [ht]; exact hP, hD, hC⟩, hS.F ht⟩) hS.2.2 dM_count_137
    replace hf := ite_f hw33 hf
    refine lv_tableOut (pc := 35) (tgt := 138) hx hb dM_count_35 (by have := lv_neT hw14 (a := 0) (by decide); have := lv_neT hw17 (a := 1) (by decide); have := lv_neT hw20 (a := 2) (by decide); have := lv_neT hw23 (a := 3) (by decide); have := lv_neT hw26 (a := 4) (by decide); have := lv_neT hw29 (a := 5) (by decide); have := lv_neT hw32 (a := 6) (by decide); have := lv_neT hw33 (a := 7) (by decide); omega) rfl ?_
    refine lv_iconst (pc := 138) (v := (-1)) hx hb dM_count_138 (by decide) ?_
    obtain ⟨h8, h9⟩ := Prod.mk.inj (Option.some.inj hf)
    subst h9
    exact W.iret (pc := 139) hx hb hr (fun t ht hW => ⟨⟨_, (), rfl, h8, by rw [ht]; exact hP, hD, hC⟩, hS.F ht⟩) hS.2.2 dM_count_139
