abbrev cM_resize : ByteArray := prog_9_method_40_code
abbrev yM_resize : MethodName := ⟨"DrawingVaultModel", "resize", "(III)Z"⟩
theorem dM_resize_0 : decode cM_resize 0 = .ok (.aload_n 0, 1) := by decide +kernel
theorem dM_resize_1 : decode cM_resize 1 = .ok (.iload_n 1, 1) := by decide +kernel
theorem dM_resize_2 : decode cM_resize 2 = .ok (.iload_n 2, 1) := by decide +kernel
theorem dM_resize_3 : decode cM_resize 3 = .ok (.invokevirtual 133, 3) := by decide +kernel
theorem dM_resize_6 : decode cM_resize 6 = .ok (.istore 4, 2) := by decide +kernel
theorem dM_resize_8 : decode cM_resize 8 = .ok (.aload_n 0, 1) := by decide +kernel
theorem dM_resize_9 : decode cM_resize 9 = .ok (.iload 4, 2) := by decide +kernel
theorem dM_resize_11 : decode cM_resize 11 = .ok (.ifCond .ne 18, 3) := by decide +kernel
theorem dM_resize_14 : decode cM_resize 14 = .ok (.iload_n 3, 1) := by decide +kernel
theorem dM_resize_15 : decode cM_resize 15 = .ok (.ifCond .lt 9, 3) := by decide +kernel
theorem dM_resize_18 : decode cM_resize 18 = .ok (.iload_n 3, 1) := by decide +kernel
theorem dM_resize_19 : decode cM_resize 19 = .ok (.bipush 64, 2) := by decide +kernel
theorem dM_resize_21 : decode cM_resize 21 = .ok (.if_icmp .le 8, 3) := by decide +kernel
theorem dM_resize_24 : decode cM_resize 24 = .ok (.bipush 7, 2) := by decide +kernel
theorem dM_resize_26 : decode cM_resize 26 = .ok (.goto 5, 3) := by decide +kernel
theorem dM_resize_29 : decode cM_resize 29 = .ok (.iload 4, 2) := by decide +kernel
theorem dM_resize_31 : decode cM_resize 31 = .ok (.invokevirtual 136, 3) := by decide +kernel
theorem dM_resize_34 : decode cM_resize 34 = .ok (.ifCond .ne 5, 3) := by decide +kernel
theorem dM_resize_37 : decode cM_resize 37 = .ok (.iconst 0, 1) := by decide +kernel
theorem dM_resize_38 : decode cM_resize 38 = .ok (.ireturn, 1) := by decide +kernel
theorem dM_resize_39 : decode cM_resize 39 = .ok (.aload_n 0, 1) := by decide +kernel
theorem dM_resize_40 : decode cM_resize 40 = .ok (.iload_n 1, 1) := by decide +kernel
theorem dM_resize_41 : decode cM_resize 41 = .ok (.invokevirtual 40, 3) := by decide +kernel
theorem dM_resize_44 : decode cM_resize 44 = .ok (.istore 5, 2) := by decide +kernel
theorem dM_resize_46 : decode cM_resize 46 = .ok (.aload_n 0, 1) := by decide +kernel
theorem dM_resize_47 : decode cM_resize 47 = .ok (.getfield 7, 3) := by decide +kernel
theorem dM_resize_50 : decode cM_resize 50 = .ok (.iload 5, 2) := by decide +kernel
theorem dM_resize_52 : decode cM_resize 52 = .ok (.iconst 2, 1) := by decide +kernel
theorem dM_resize_53 : decode cM_resize 53 = .ok (.iadd, 1) := by decide +kernel
theorem dM_resize_54 : decode cM_resize 54 = .ok (.iaload, 1) := by decide +kernel
theorem dM_resize_55 : decode cM_resize 55 = .ok (.istore 6, 2) := by decide +kernel
theorem dM_resize_57 : decode cM_resize 57 = .ok (.iload 6, 2) := by decide +kernel
theorem dM_resize_59 : decode cM_resize 59 = .ok (.iload_n 3, 1) := by decide +kernel
theorem dM_resize_60 : decode cM_resize 60 = .ok (.if_icmp .ge 23, 3) := by decide +kernel
theorem dM_resize_63 : decode cM_resize 63 = .ok (.aload_n 0, 1) := by decide +kernel
theorem dM_resize_64 : decode cM_resize 64 = .ok (.getfield 7, 3) := by decide +kernel
theorem dM_resize_67 : decode cM_resize 67 = .ok (.iload 5, 2) := by decide +kernel
theorem dM_resize_69 : decode cM_resize 69 = .ok (.bipush 16, 2) := by decide +kernel
theorem dM_resize_71 : decode cM_resize 71 = .ok (.iadd, 1) := by decide +kernel
theorem dM_resize_72 : decode cM_resize 72 = .ok (.iload 6, 2) := by decide +kernel
theorem dM_resize_74 : decode cM_resize 74 = .ok (.iadd, 1) := by decide +kernel
theorem dM_resize_75 : decode cM_resize 75 = .ok (.iconst 0, 1) := by decide +kernel
theorem dM_resize_76 : decode cM_resize 76 = .ok (.iastore, 1) := by decide +kernel
theorem dM_resize_77 : decode cM_resize 77 = .ok (.iinc 6 1, 3) := by decide +kernel
theorem dM_resize_80 : decode cM_resize 80 = .ok (.goto (-23), 3) := by decide +kernel
theorem dM_resize_83 : decode cM_resize 83 = .ok (.aload_n 0, 1) := by decide +kernel
theorem dM_resize_84 : decode cM_resize 84 = .ok (.getfield 7, 3) := by decide +kernel
theorem dM_resize_87 : decode cM_resize 87 = .ok (.iload 5, 2) := by decide +kernel
theorem dM_resize_89 : decode cM_resize 89 = .ok (.iconst 2, 1) := by decide +kernel
theorem dM_resize_90 : decode cM_resize 90 = .ok (.iadd, 1) := by decide +kernel
theorem dM_resize_91 : decode cM_resize 91 = .ok (.iload_n 3, 1) := by decide +kernel
theorem dM_resize_92 : decode cM_resize 92 = .ok (.iastore, 1) := by decide +kernel
theorem dM_resize_93 : decode cM_resize 93 = .ok (.iconst 1, 1) := by decide +kernel
theorem dM_resize_94 : decode cM_resize 94 = .ok (.ireturn, 1) := by decide +kernel
abbrev cM_ref : ByteArray := prog_9_method_41_code
abbrev yM_ref : MethodName := ⟨"DrawingVaultModel", "ref", "(IIIII)Z"⟩
theorem dM_ref_0 : decode cM_ref 0 = .ok (.aload_n 0, 1) := by decide +kernel
theorem dM_ref_1 : decode cM_ref 1 = .ok (.iload_n 1, 1) := by decide +kernel
theorem dM_ref_2 : decode cM_ref 2 = .ok (.iload_n 2, 1) := by decide +kernel
theorem dM_ref_3 : decode cM_ref 3 = .ok (.invokevirtual 133, 3) := by decide +kernel
theorem dM_ref_6 : decode cM_ref 6 = .ok (.istore 6, 2) := by decide +kernel
theorem dM_ref_8 : decode cM_ref 8 = .ok (.iload 6, 2) := by decide +kernel
theorem dM_ref_10 : decode cM_ref 10 = .ok (.ifCond .ne 18, 3) := by decide +kernel
theorem dM_ref_13 : decode cM_ref 13 = .ok (.aload_n 0, 1) := by decide +kernel
theorem dM_ref_14 : decode cM_ref 14 = .ok (.getfield 7, 3) := by decide +kernel
theorem dM_ref_17 : decode cM_ref 17 = .ok (.aload_n 0, 1) := by decide +kernel
theorem dM_ref_18 : decode cM_ref 18 = .ok (.iload_n 1, 1) := by decide +kernel
theorem dM_ref_19 : decode cM_ref 19 = .ok (.invokevirtual 40, 3) := by decide +kernel
theorem dM_ref_22 : decode cM_ref 22 = .ok (.iconst 3, 1) := by decide +kernel
theorem dM_ref_23 : decode cM_ref 23 = .ok (.iadd, 1) := by decide +kernel
theorem dM_ref_24 : decode cM_ref 24 = .ok (.iaload, 1) := by decide +kernel
theorem dM_ref_25 : decode cM_ref 25 = .ok (.goto 4, 3) := by decide +kernel
theorem dM_ref_28 : decode cM_ref 28 = .ok (.iconst 0, 1) := by decide +kernel
theorem dM_ref_29 : decode cM_ref 29 = .ok (.istore 7, 2) := by decide +kernel
theorem dM_ref_31 : decode cM_ref 31 = .ok (.iload_n 3, 1) := by decide +kernel
theorem dM_ref_32 : decode cM_ref 32 = .ok (.ifCond .lt 24, 3) := by decide +kernel
theorem dM_ref_35 : decode cM_ref 35 = .ok (.iload_n 3, 1) := by decide +kernel
theorem dM_ref_36 : decode cM_ref 36 = .ok (.iload 7, 2) := by decide +kernel
theorem dM_ref_38 : decode cM_ref 38 = .ok (.if_icmp .gt 18, 3) := by decide +kernel
theorem dM_ref_41 : decode cM_ref 41 = .ok (.aload_n 0, 1) := by decide +kernel
theorem dM_ref_42 : decode cM_ref 42 = .ok (.iload 4, 2) := by decide +kernel
theorem dM_ref_44 : decode cM_ref 44 = .ok (.invokevirtual 44, 3) := by decide +kernel
theorem dM_ref_47 : decode cM_ref 47 = .ok (.ifCond .eq 9, 3) := by decide +kernel
theorem dM_ref_50 : decode cM_ref 50 = .ok (.iload 5, 2) := by decide +kernel
theorem dM_ref_52 : decode cM_ref 52 = .ok (.iconst (-1), 1) := by decide +kernel
theorem dM_ref_53 : decode cM_ref 53 = .ok (.if_icmp .ge 7, 3) := by decide +kernel
theorem dM_ref_56 : decode cM_ref 56 = .ok (.iconst 1, 1) := by decide +kernel
theorem dM_ref_57 : decode cM_ref 57 = .ok (.goto 4, 3) := by decide +kernel
theorem dM_ref_60 : decode cM_ref 60 = .ok (.iconst 0, 1) := by decide +kernel
theorem dM_ref_61 : decode cM_ref 61 = .ok (.istore 8, 2) := by decide +kernel
theorem dM_ref_63 : decode cM_ref 63 = .ok (.iload 6, 2) := by decide +kernel
theorem dM_ref_65 : decode cM_ref 65 = .ok (.ifCond .le 8, 3) := by decide +kernel
theorem dM_ref_68 : decode cM_ref 68 = .ok (.iload 6, 2) := by decide +kernel
theorem dM_ref_70 : decode cM_ref 70 = .ok (.goto 25, 3) := by decide +kernel
theorem dM_ref_73 : decode cM_ref 73 = .ok (.iload 8, 2) := by decide +kernel
theorem dM_ref_75 : decode cM_ref 75 = .ok (.ifCond .eq 8, 3) := by decide +kernel
theorem dM_ref_78 : decode cM_ref 78 = .ok (.bipush 7, 2) := by decide +kernel
theorem dM_ref_80 : decode cM_ref 80 = .ok (.goto 15, 3) := by decide +kernel
theorem dM_ref_83 : decode cM_ref 83 = .ok (.iload_n 3, 1) := by decide +kernel
theorem dM_ref_84 : decode cM_ref 84 = .ok (.bipush 6, 2) := by decide +kernel
theorem dM_ref_86 : decode cM_ref 86 = .ok (.if_icmp .ne 8, 3) := by decide +kernel
theorem dM_ref_89 : decode cM_ref 89 = .ok (.bipush 8, 2) := by decide +kernel
theorem dM_ref_91 : decode cM_ref 91 = .ok (.goto 4, 3) := by decide +kernel
theorem dM_ref_94 : decode cM_ref 94 = .ok (.iconst 0, 1) := by decide +kernel
theorem dM_ref_95 : decode cM_ref 95 = .ok (.istore 9, 2) := by decide +kernel
theorem dM_ref_97 : decode cM_ref 97 = .ok (.aload_n 0, 1) := by decide +kernel
theorem dM_ref_98 : decode cM_ref 98 = .ok (.iload 9, 2) := by decide +kernel
theorem dM_ref_100 : decode cM_ref 100 = .ok (.invokevirtual 136, 3) := by decide +kernel
theorem dM_ref_103 : decode cM_ref 103 = .ok (.ifCond .ne 5, 3) := by decide +kernel
theorem dM_ref_106 : decode cM_ref 106 = .ok (.iconst 0, 1) := by decide +kernel
theorem dM_ref_107 : decode cM_ref 107 = .ok (.ireturn, 1) := by decide +kernel
theorem dM_ref_108 : decode cM_ref 108 = .ok (.aload_n 0, 1) := by decide +kernel
theorem dM_ref_109 : decode cM_ref 109 = .ok (.iload_n 1, 1) := by decide +kernel
theorem dM_ref_110 : decode cM_ref 110 = .ok (.invokevirtual 40, 3) := by decide +kernel
theorem dM_ref_113 : decode cM_ref 113 = .ok (.istore 10, 2) := by decide +kernel
theorem dM_ref_115 : decode cM_ref 115 = .ok (.aload_n 0, 1) := by decide +kernel
theorem dM_ref_116 : decode cM_ref 116 = .ok (.getfield 7, 3) := by decide +kernel
theorem dM_ref_119 : decode cM_ref 119 = .ok (.iload 10, 2) := by decide +kernel
theorem dM_ref_121 : decode cM_ref 121 = .ok (.iconst 4, 1) := by decide +kernel
theorem dM_ref_122 : decode cM_ref 122 = .ok (.iadd, 1) := by decide +kernel
theorem dM_ref_123 : decode cM_ref 123 = .ok (.iconst 2, 1) := by decide +kernel
theorem dM_ref_124 : decode cM_ref 124 = .ok (.iload_n 3, 1) := by decide +kernel
theorem dM_ref_125 : decode cM_ref 125 = .ok (.imul, 1) := by decide +kernel
theorem dM_ref_126 : decode cM_ref 126 = .ok (.iadd, 1) := by decide +kernel
theorem dM_ref_127 : decode cM_ref 127 = .ok (.iload 4, 2) := by decide +kernel
theorem dM_ref_129 : decode cM_ref 129 = .ok (.iastore, 1) := by decide +kernel
theorem dM_ref_130 : decode cM_ref 130 = .ok (.aload_n 0, 1) := by decide +kernel
theorem dM_ref_131 : decode cM_ref 131 = .ok (.getfield 7, 3) := by decide +kernel
theorem dM_ref_134 : decode cM_ref 134 = .ok (.iload 10, 2) := by decide +kernel
theorem dM_ref_136 : decode cM_ref 136 = .ok (.iconst 4, 1) := by decide +kernel
theorem dM_ref_137 : decode cM_ref 137 = .ok (.iadd, 1) := by decide +kernel
theorem dM_ref_138 : decode cM_ref 138 = .ok (.iconst 2, 1) := by decide +kernel
theorem dM_ref_139 : decode cM_ref 139 = .ok (.iload_n 3, 1) := by decide +kernel
theorem dM_ref_140 : decode cM_ref 140 = .ok (.imul, 1) := by decide +kernel
theorem dM_ref_141 : decode cM_ref 141 = .ok (.iadd, 1) := by decide +kernel
theorem dM_ref_142 : decode cM_ref 142 = .ok (.iconst 1, 1) := by decide +kernel
theorem dM_ref_143 : decode cM_ref 143 = .ok (.iadd, 1) := by decide +kernel
theorem dM_ref_144 : decode cM_ref 144 = .ok (.iload 5, 2) := by decide +kernel
theorem dM_ref_146 : decode cM_ref 146 = .ok (.iastore, 1) := by decide +kernel
theorem dM_ref_147 : decode cM_ref 147 = .ok (.aload_n 0, 1) := by decide +kernel
theorem dM_ref_148 : decode cM_ref 148 = .ok (.getfield 7, 3) := by decide +kernel
theorem dM_ref_151 : decode cM_ref 151 = .ok (.iload 10, 2) := by decide +kernel
theorem dM_ref_153 : decode cM_ref 153 = .ok (.iconst 3, 1) := by decide +kernel
theorem dM_ref_154 : decode cM_ref 154 = .ok (.iadd, 1) := by decide +kernel
theorem dM_ref_155 : decode cM_ref 155 = .ok (.iload_n 3, 1) := by decide +kernel
theorem dM_ref_156 : decode cM_ref 156 = .ok (.iload 7, 2) := by decide +kernel
theorem dM_ref_158 : decode cM_ref 158 = .ok (.if_icmp .ne 10, 3) := by decide +kernel
theorem dM_ref_161 : decode cM_ref 161 = .ok (.iload 7, 2) := by decide +kernel
theorem dM_ref_163 : decode cM_ref 163 = .ok (.iconst 1, 1) := by decide +kernel
theorem dM_ref_164 : decode cM_ref 164 = .ok (.iadd, 1) := by decide +kernel
theorem dM_ref_165 : decode cM_ref 165 = .ok (.goto 5, 3) := by decide +kernel
theorem dM_ref_168 : decode cM_ref 168 = .ok (.iload 7, 2) := by decide +kernel
theorem dM_ref_170 : decode cM_ref 170 = .ok (.iastore, 1) := by decide +kernel
theorem dM_ref_171 : decode cM_ref 171 = .ok (.iconst 1, 1) := by decide +kernel
theorem dM_ref_172 : decode cM_ref 172 = .ok (.ireturn, 1) := by decide +kernel
abbrev cM_drop : ByteArray := prog_9_method_42_code
abbrev yM_drop : MethodName := ⟨"DrawingVaultModel", "drop", "(III)Z"⟩
theorem dM_drop_0 : decode cM_drop 0 = .ok (.aload_n 0, 1) := by decide +kernel
theorem dM_drop_1 : decode cM_drop 1 = .ok (.iload_n 1, 1) := by decide +kernel
theorem dM_drop_2 : decode cM_drop 2 = .ok (.iload_n 2, 1) := by decide +kernel
theorem dM_drop_3 : decode cM_drop 3 = .ok (.invokevirtual 133, 3) := by decide +kernel
theorem dM_drop_6 : decode cM_drop 6 = .ok (.istore 4, 2) := by decide +kernel
theorem dM_drop_8 : decode cM_drop 8 = .ok (.iload 4, 2) := by decide +kernel
theorem dM_drop_10 : decode cM_drop 10 = .ok (.ifCond .ne 36, 3) := by decide +kernel
theorem dM_drop_13 : decode cM_drop 13 = .ok (.iload_n 3, 1) := by decide +kernel
theorem dM_drop_14 : decode cM_drop 14 = .ok (.ifCond .lt 32, 3) := by decide +kernel
theorem dM_drop_17 : decode cM_drop 17 = .ok (.iload_n 3, 1) := by decide +kernel
theorem dM_drop_18 : decode cM_drop 18 = .ok (.aload_n 0, 1) := by decide +kernel
theorem dM_drop_19 : decode cM_drop 19 = .ok (.getfield 7, 3) := by decide +kernel
theorem dM_drop_22 : decode cM_drop 22 = .ok (.aload_n 0, 1) := by decide +kernel
theorem dM_drop_23 : decode cM_drop 23 = .ok (.iload 4, 2) := by decide +kernel
theorem dM_drop_25 : decode cM_drop 25 = .ok (.ifCond .ne 7, 3) := by decide +kernel
theorem dM_drop_28 : decode cM_drop 28 = .ok (.iload_n 1, 1) := by decide +kernel
theorem dM_drop_29 : decode cM_drop 29 = .ok (.goto 4, 3) := by decide +kernel
theorem dM_drop_32 : decode cM_drop 32 = .ok (.iconst 0, 1) := by decide +kernel
theorem dM_drop_33 : decode cM_drop 33 = .ok (.invokevirtual 40, 3) := by decide +kernel
theorem dM_drop_36 : decode cM_drop 36 = .ok (.iconst 3, 1) := by decide +kernel
theorem dM_drop_37 : decode cM_drop 37 = .ok (.iadd, 1) := by decide +kernel
theorem dM_drop_38 : decode cM_drop 38 = .ok (.iaload, 1) := by decide +kernel
theorem dM_drop_39 : decode cM_drop 39 = .ok (.if_icmp .ge 7, 3) := by decide +kernel
theorem dM_drop_42 : decode cM_drop 42 = .ok (.iconst 1, 1) := by decide +kernel
theorem dM_drop_43 : decode cM_drop 43 = .ok (.goto 4, 3) := by decide +kernel
theorem dM_drop_46 : decode cM_drop 46 = .ok (.iconst 0, 1) := by decide +kernel
theorem dM_drop_47 : decode cM_drop 47 = .ok (.istore 5, 2) := by decide +kernel
theorem dM_drop_49 : decode cM_drop 49 = .ok (.aload_n 0, 1) := by decide +kernel
theorem dM_drop_50 : decode cM_drop 50 = .ok (.iload 4, 2) := by decide +kernel
theorem dM_drop_52 : decode cM_drop 52 = .ok (.ifCond .ne 13, 3) := by decide +kernel
theorem dM_drop_55 : decode cM_drop 55 = .ok (.iload 5, 2) := by decide +kernel
theorem dM_drop_57 : decode cM_drop 57 = .ok (.ifCond .ne 8, 3) := by decide +kernel
theorem dM_drop_60 : decode cM_drop 60 = .ok (.bipush 7, 2) := by decide +kernel
theorem dM_drop_62 : decode cM_drop 62 = .ok (.goto 5, 3) := by decide +kernel
theorem dM_drop_65 : decode cM_drop 65 = .ok (.iload 4, 2) := by decide +kernel
theorem dM_drop_67 : decode cM_drop 67 = .ok (.invokevirtual 136, 3) := by decide +kernel
theorem dM_drop_70 : decode cM_drop 70 = .ok (.ifCond .ne 5, 3) := by decide +kernel
theorem dM_drop_73 : decode cM_drop 73 = .ok (.iconst 0, 1) := by decide +kernel
theorem dM_drop_74 : decode cM_drop 74 = .ok (.ireturn, 1) := by decide +kernel
theorem dM_drop_75 : decode cM_drop 75 = .ok (.aload_n 0, 1) := by decide +kernel
theorem dM_drop_76 : decode cM_drop 76 = .ok (.iload_n 1, 1) := by decide +kernel
theorem dM_drop_77 : decode cM_drop 77 = .ok (.invokevirtual 40, 3) := by decide +kernel
theorem dM_drop_80 : decode cM_drop 80 = .ok (.istore 6, 2) := by decide +kernel
theorem dM_drop_82 : decode cM_drop 82 = .ok (.aload_n 0, 1) := by decide +kernel
theorem dM_drop_83 : decode cM_drop 83 = .ok (.getfield 7, 3) := by decide +kernel
theorem dM_drop_86 : decode cM_drop 86 = .ok (.iload 6, 2) := by decide +kernel
theorem dM_drop_88 : decode cM_drop 88 = .ok (.iconst 3, 1) := by decide +kernel
theorem dM_drop_89 : decode cM_drop 89 = .ok (.iadd, 1) := by decide +kernel
theorem dM_drop_90 : decode cM_drop 90 = .ok (.dup2, 1) := by decide +kernel
theorem dM_drop_91 : decode cM_drop 91 = .ok (.iaload, 1) := by decide +kernel
theorem dM_drop_92 : decode cM_drop 92 = .ok (.iconst 1, 1) := by decide +kernel
theorem dM_drop_93 : decode cM_drop 93 = .ok (.isub, 1) := by decide +kernel
theorem dM_drop_94 : decode cM_drop 94 = .ok (.iastore, 1) := by decide +kernel
theorem dM_drop_95 : decode cM_drop 95 = .ok (.iconst 2, 1) := by decide +kernel
theorem dM_drop_96 : decode cM_drop 96 = .ok (.iload_n 3, 1) := by decide +kernel
theorem dM_drop_97 : decode cM_drop 97 = .ok (.imul, 1) := by decide +kernel
theorem dM_drop_98 : decode cM_drop 98 = .ok (.istore 7, 2) := by decide +kernel
theorem dM_drop_100 : decode cM_drop 100 = .ok (.iload 7, 2) := by decide +kernel
theorem dM_drop_102 : decode cM_drop 102 = .ok (.iconst 2, 1) := by decide +kernel
theorem dM_drop_103 : decode cM_drop 103 = .ok (.aload_n 0, 1) := by decide +kernel
theorem dM_drop_104 : decode cM_drop 104 = .ok (.getfield 7, 3) := by decide +kernel
theorem dM_drop_107 : decode cM_drop 107 = .ok (.iload 6, 2) := by decide +kernel
theorem dM_drop_109 : decode cM_drop 109 = .ok (.iconst 3, 1) := by decide +kernel
theorem dM_drop_110 : decode cM_drop 110 = .ok (.iadd, 1) := by decide +kernel
theorem dM_drop_111 : decode cM_drop 111 = .ok (.iaload, 1) := by decide +kernel
theorem dM_drop_112 : decode cM_drop 112 = .ok (.imul, 1) := by decide +kernel
theorem dM_drop_113 : decode cM_drop 113 = .ok (.if_icmp .ge 35, 3) := by decide +kernel
theorem dM_drop_116 : decode cM_drop 116 = .ok (.aload_n 0, 1) := by decide +kernel
theorem dM_drop_117 : decode cM_drop 117 = .ok (.getfield 7, 3) := by decide +kernel
theorem dM_drop_120 : decode cM_drop 120 = .ok (.iload 6, 2) := by decide +kernel
theorem dM_drop_122 : decode cM_drop 122 = .ok (.iconst 4, 1) := by decide +kernel
theorem dM_drop_123 : decode cM_drop 123 = .ok (.iadd, 1) := by decide +kernel
theorem dM_drop_124 : decode cM_drop 124 = .ok (.iload 7, 2) := by decide +kernel
theorem dM_drop_126 : decode cM_drop 126 = .ok (.iadd, 1) := by decide +kernel
theorem dM_drop_127 : decode cM_drop 127 = .ok (.aload_n 0, 1) := by decide +kernel
theorem dM_drop_128 : decode cM_drop 128 = .ok (.getfield 7, 3) := by decide +kernel
theorem dM_drop_131 : decode cM_drop 131 = .ok (.iload 6, 2) := by decide +kernel
theorem dM_drop_133 : decode cM_drop 133 = .ok (.iconst 4, 1) := by decide +kernel
theorem dM_drop_134 : decode cM_drop 134 = .ok (.iadd, 1) := by decide +kernel
theorem dM_drop_135 : decode cM_drop 135 = .ok (.iload 7, 2) := by decide +kernel
theorem dM_drop_137 : decode cM_drop 137 = .ok (.iadd, 1) := by decide +kernel
theorem dM_drop_138 : decode cM_drop 138 = .ok (.iconst 2, 1) := by decide +kernel
theorem dM_drop_139 : decode cM_drop 139 = .ok (.iadd, 1) := by decide +kernel
theorem dM_drop_140 : decode cM_drop 140 = .ok (.iaload, 1) := by decide +kernel
theorem dM_drop_141 : decode cM_drop 141 = .ok (.iastore, 1) := by decide +kernel
theorem dM_drop_142 : decode cM_drop 142 = .ok (.iinc 7 1, 3) := by decide +kernel
theorem dM_drop_145 : decode cM_drop 145 = .ok (.goto (-45), 3) := by decide +kernel
theorem dM_drop_148 : decode cM_drop 148 = .ok (.iconst 1, 1) := by decide +kernel
theorem dM_drop_149 : decode cM_drop 149 = .ok (.ireturn, 1) := by decide +kernel
abbrev cM_refersTo : ByteArray := prog_9_method_43_code
abbrev yM_refersTo : MethodName := ⟨"DrawingVaultModel", "refersTo", "(II)Z"⟩
theorem dM_refersTo_0 : decode cM_refersTo 0 = .ok (.iconst 0, 1) := by decide +kernel
theorem dM_refersTo_1 : decode cM_refersTo 1 = .ok (.istore_n 3, 1) := by decide +kernel
theorem dM_refersTo_2 : decode cM_refersTo 2 = .ok (.iconst 0, 1) := by decide +kernel
theorem dM_refersTo_3 : decode cM_refersTo 3 = .ok (.istore 4, 2) := by decide +kernel
theorem dM_refersTo_5 : decode cM_refersTo 5 = .ok (.iload 4, 2) := by decide +kernel
theorem dM_refersTo_7 : decode cM_refersTo 7 = .ok (.aload_n 0, 1) := by decide +kernel
theorem dM_refersTo_8 : decode cM_refersTo 8 = .ok (.getfield 7, 3) := by decide +kernel
theorem dM_refersTo_11 : decode cM_refersTo 11 = .ok (.iload_n 1, 1) := by decide +kernel
theorem dM_refersTo_12 : decode cM_refersTo 12 = .ok (.iconst 3, 1) := by decide +kernel
theorem dM_refersTo_13 : decode cM_refersTo 13 = .ok (.iadd, 1) := by decide +kernel
theorem dM_refersTo_14 : decode cM_refersTo 14 = .ok (.iaload, 1) := by decide +kernel
theorem dM_refersTo_15 : decode cM_refersTo 15 = .ok (.if_icmp .ge 30, 3) := by decide +kernel
theorem dM_refersTo_18 : decode cM_refersTo 18 = .ok (.iload_n 3, 1) := by decide +kernel
theorem dM_refersTo_19 : decode cM_refersTo 19 = .ok (.ifCond .ne 14, 3) := by decide +kernel
theorem dM_refersTo_22 : decode cM_refersTo 22 = .ok (.aload_n 0, 1) := by decide +kernel
theorem dM_refersTo_23 : decode cM_refersTo 23 = .ok (.iload_n 1, 1) := by decide +kernel
theorem dM_refersTo_24 : decode cM_refersTo 24 = .ok (.iload 4, 2) := by decide +kernel
theorem dM_refersTo_26 : decode cM_refersTo 26 = .ok (.invokevirtual 60, 3) := by decide +kernel
theorem dM_refersTo_29 : decode cM_refersTo 29 = .ok (.iload_n 2, 1) := by decide +kernel
theorem dM_refersTo_30 : decode cM_refersTo 30 = .ok (.if_icmp .ne 7, 3) := by decide +kernel
theorem dM_refersTo_33 : decode cM_refersTo 33 = .ok (.iconst 1, 1) := by decide +kernel
theorem dM_refersTo_34 : decode cM_refersTo 34 = .ok (.goto 4, 3) := by decide +kernel
theorem dM_refersTo_37 : decode cM_refersTo 37 = .ok (.iconst 0, 1) := by decide +kernel
theorem dM_refersTo_38 : decode cM_refersTo 38 = .ok (.istore_n 3, 1) := by decide +kernel
theorem dM_refersTo_39 : decode cM_refersTo 39 = .ok (.iinc 4 1, 3) := by decide +kernel
theorem dM_refersTo_42 : decode cM_refersTo 42 = .ok (.goto (-37), 3) := by decide +kernel
theorem dM_refersTo_45 : decode cM_refersTo 45 = .ok (.iload_n 3, 1) := by decide +kernel
theorem dM_refersTo_46 : decode cM_refersTo 46 = .ok (.ireturn, 1) := by decide +kernel
abbrev cM_uses : ByteArray := prog_9_method_44_code
abbrev yM_uses : MethodName := ⟨"DrawingVaultModel", "uses", "(II)Z"⟩
theorem dM_uses_0 : decode cM_uses 0 = .ok (.aload_n 0, 1) := by decide +kernel
theorem dM_uses_1 : decode cM_uses 1 = .ok (.aload_n 0, 1) := by decide +kernel
theorem dM_uses_2 : decode cM_uses 2 = .ok (.iload_n 1, 1) := by decide +kernel
theorem dM_uses_3 : decode cM_uses 3 = .ok (.aload_n 0, 1) := by decide +kernel
theorem dM_uses_4 : decode cM_uses 4 = .ok (.iload_n 1, 1) := by decide +kernel
theorem dM_uses_5 : decode cM_uses 5 = .ok (.invokevirtual 47, 3) := by decide +kernel
theorem dM_uses_8 : decode cM_uses 8 = .ok (.iconst 1, 1) := by decide +kernel
theorem dM_uses_9 : decode cM_uses 9 = .ok (.isub, 1) := by decide +kernel
theorem dM_uses_10 : decode cM_uses 10 = .ok (.invokevirtual 50, 3) := by decide +kernel
theorem dM_uses_13 : decode cM_uses 13 = .ok (.iload_n 2, 1) := by decide +kernel
theorem dM_uses_14 : decode cM_uses 14 = .ok (.invokevirtual 139, 3) := by decide +kernel
theorem dM_uses_17 : decode cM_uses 17 = .ok (.ireturn, 1) := by decide +kernel
abbrev cM_markUsers : ByteArray := prog_9_method_45_code
abbrev yM_markUsers : MethodName := ⟨"DrawingVaultModel", "markUsers", "(I)V"⟩
theorem dM_markUsers_0 : decode cM_markUsers 0 = .ok (.iconst 0, 1) := by decide +kernel
theorem dM_markUsers_1 : decode cM_markUsers 1 = .ok (.istore_n 2, 1) := by decide +kernel
theorem dM_markUsers_2 : decode cM_markUsers 2 = .ok (.iload_n 2, 1) := by decide +kernel
theorem dM_markUsers_3 : decode cM_markUsers 3 = .ok (.bipush 24, 2) := by decide +kernel
theorem dM_markUsers_5 : decode cM_markUsers 5 = .ok (.if_icmp .ge 37, 3) := by decide +kernel
theorem dM_markUsers_8 : decode cM_markUsers 8 = .ok (.aload_n 0, 1) := by decide +kernel
theorem dM_markUsers_9 : decode cM_markUsers 9 = .ok (.getfield 20, 3) := by decide +kernel
theorem dM_markUsers_12 : decode cM_markUsers 12 = .ok (.iload_n 2, 1) := by decide +kernel
theorem dM_markUsers_13 : decode cM_markUsers 13 = .ok (.aload_n 0, 1) := by decide +kernel
theorem dM_markUsers_14 : decode cM_markUsers 14 = .ok (.iload_n 2, 1) := by decide +kernel
theorem dM_markUsers_15 : decode cM_markUsers 15 = .ok (.invokevirtual 44, 3) := by decide +kernel
theorem dM_markUsers_18 : decode cM_markUsers 18 = .ok (.ifCond .eq 16, 3) := by decide +kernel
theorem dM_markUsers_21 : decode cM_markUsers 21 = .ok (.aload_n 0, 1) := by decide +kernel
theorem dM_markUsers_22 : decode cM_markUsers 22 = .ok (.iload_n 2, 1) := by decide +kernel
theorem dM_markUsers_23 : decode cM_markUsers 23 = .ok (.iload_n 1, 1) := by decide +kernel
theorem dM_markUsers_24 : decode cM_markUsers 24 = .ok (.invokevirtual 142, 3) := by decide +kernel
theorem dM_markUsers_27 : decode cM_markUsers 27 = .ok (.ifCond .eq 7, 3) := by decide +kernel
theorem dM_markUsers_30 : decode cM_markUsers 30 = .ok (.iconst 1, 1) := by decide +kernel
theorem dM_markUsers_31 : decode cM_markUsers 31 = .ok (.goto 4, 3) := by decide +kernel
theorem dM_markUsers_34 : decode cM_markUsers 34 = .ok (.iconst 0, 1) := by decide +kernel
theorem dM_markUsers_35 : decode cM_markUsers 35 = .ok (.bastore, 1) := by decide +kernel
theorem dM_markUsers_36 : decode cM_markUsers 36 = .ok (.iinc 2 1, 3) := by decide +kernel
theorem dM_markUsers_39 : decode cM_markUsers 39 = .ok (.goto (-37), 3) := by decide +kernel
theorem dM_markUsers_42 : decode cM_markUsers 42 = .ok (.iconst 0, 1) := by decide +kernel
theorem dM_markUsers_43 : decode cM_markUsers 43 = .ok (.istore_n 2, 1) := by decide +kernel
theorem dM_markUsers_44 : decode cM_markUsers 44 = .ok (.iload_n 2, 1) := by decide +kernel
theorem dM_markUsers_45 : decode cM_markUsers 45 = .ok (.bipush 24, 2) := by decide +kernel
theorem dM_markUsers_47 : decode cM_markUsers 47 = .ok (.if_icmp .ge 89, 3) := by decide +kernel
theorem dM_markUsers_50 : decode cM_markUsers 50 = .ok (.iconst 0, 1) := by decide +kernel
theorem dM_markUsers_51 : decode cM_markUsers 51 = .ok (.istore_n 3, 1) := by decide +kernel
theorem dM_markUsers_52 : decode cM_markUsers 52 = .ok (.iload_n 3, 1) := by decide +kernel
theorem dM_markUsers_53 : decode cM_markUsers 53 = .ok (.aload_n 0, 1) := by decide +kernel
theorem dM_markUsers_54 : decode cM_markUsers 54 = .ok (.getfield 7, 3) := by decide +kernel
theorem dM_markUsers_57 : decode cM_markUsers 57 = .ok (.bipush 16, 2) := by decide +kernel
theorem dM_markUsers_59 : decode cM_markUsers 59 = .ok (.iaload, 1) := by decide +kernel
theorem dM_markUsers_60 : decode cM_markUsers 60 = .ok (.if_icmp .ge 70, 3) := by decide +kernel
theorem dM_markUsers_63 : decode cM_markUsers 63 = .ok (.iconst 0, 1) := by decide +kernel
theorem dM_markUsers_64 : decode cM_markUsers 64 = .ok (.istore 4, 2) := by decide +kernel
theorem dM_markUsers_66 : decode cM_markUsers 66 = .ok (.iload 4, 2) := by decide +kernel
theorem dM_markUsers_68 : decode cM_markUsers 68 = .ok (.aload_n 0, 1) := by decide +kernel
theorem dM_markUsers_69 : decode cM_markUsers 69 = .ok (.getfield 7, 3) := by decide +kernel
theorem dM_markUsers_72 : decode cM_markUsers 72 = .ok (.bipush 16, 2) := by decide +kernel
theorem dM_markUsers_74 : decode cM_markUsers 74 = .ok (.iaload, 1) := by decide +kernel
theorem dM_markUsers_75 : decode cM_markUsers 75 = .ok (.if_icmp .ge 49, 3) := by decide +kernel
theorem dM_markUsers_78 : decode cM_markUsers 78 = .ok (.aload_n 0, 1) := by decide +kernel
theorem dM_markUsers_79 : decode cM_markUsers 79 = .ok (.getfield 20, 3) := by decide +kernel
theorem dM_markUsers_82 : decode cM_markUsers 82 = .ok (.iload_n 3, 1) := by decide +kernel
theorem dM_markUsers_83 : decode cM_markUsers 83 = .ok (.aload_n 0, 1) := by decide +kernel
theorem dM_markUsers_84 : decode cM_markUsers 84 = .ok (.getfield 20, 3) := by decide +kernel
theorem dM_markUsers_87 : decode cM_markUsers 87 = .ok (.iload_n 3, 1) := by decide +kernel
theorem dM_markUsers_88 : decode cM_markUsers 88 = .ok (.baload, 1) := by decide +kernel
theorem dM_markUsers_89 : decode cM_markUsers 89 = .ok (.ifCond .ne 23, 3) := by decide +kernel
theorem dM_markUsers_92 : decode cM_markUsers 92 = .ok (.aload_n 0, 1) := by decide +kernel
theorem dM_markUsers_93 : decode cM_markUsers 93 = .ok (.getfield 20, 3) := by decide +kernel
theorem dM_markUsers_96 : decode cM_markUsers 96 = .ok (.iload 4, 2) := by decide +kernel
theorem dM_markUsers_98 : decode cM_markUsers 98 = .ok (.baload, 1) := by decide +kernel
theorem dM_markUsers_99 : decode cM_markUsers 99 = .ok (.ifCond .eq 17, 3) := by decide +kernel
theorem dM_markUsers_102 : decode cM_markUsers 102 = .ok (.aload_n 0, 1) := by decide +kernel
theorem dM_markUsers_103 : decode cM_markUsers 103 = .ok (.iload_n 3, 1) := by decide +kernel
theorem dM_markUsers_104 : decode cM_markUsers 104 = .ok (.iload 4, 2) := by decide +kernel
theorem dM_markUsers_106 : decode cM_markUsers 106 = .ok (.invokevirtual 142, 3) := by decide +kernel
theorem dM_markUsers_109 : decode cM_markUsers 109 = .ok (.ifCond .eq 7, 3) := by decide +kernel
theorem dM_markUsers_112 : decode cM_markUsers 112 = .ok (.iconst 1, 1) := by decide +kernel
theorem dM_markUsers_113 : decode cM_markUsers 113 = .ok (.goto 4, 3) := by decide +kernel
theorem dM_markUsers_116 : decode cM_markUsers 116 = .ok (.iconst 0, 1) := by decide +kernel
theorem dM_markUsers_117 : decode cM_markUsers 117 = .ok (.bastore, 1) := by decide +kernel
theorem dM_markUsers_118 : decode cM_markUsers 118 = .ok (.iinc 4 1, 3) := by decide +kernel
theorem dM_markUsers_121 : decode cM_markUsers 121 = .ok (.goto (-55), 3) := by decide +kernel
theorem dM_markUsers_124 : decode cM_markUsers 124 = .ok (.iinc 3 1, 3) := by decide +kernel
theorem dM_markUsers_127 : decode cM_markUsers 127 = .ok (.goto (-75), 3) := by decide +kernel
theorem dM_markUsers_130 : decode cM_markUsers 130 = .ok (.iinc 2 1, 3) := by decide +kernel
theorem dM_markUsers_133 : decode cM_markUsers 133 = .ok (.goto (-89), 3) := by decide +kernel
theorem dM_markUsers_136 : decode cM_markUsers 136 = .ok (.return_, 1) := by decide +kernel
abbrev cM_loops : ByteArray := prog_9_method_46_code
abbrev yM_loops : MethodName := ⟨"DrawingVaultModel", "loops", "(I)Z"⟩
theorem dM_loops_0 : decode cM_loops 0 = .ok (.aload_n 0, 1) := by decide +kernel
theorem dM_loops_1 : decode cM_loops 1 = .ok (.iload_n 1, 1) := by decide +kernel
theorem dM_loops_2 : decode cM_loops 2 = .ok (.invokevirtual 145, 3) := by decide +kernel
theorem dM_loops_5 : decode cM_loops 5 = .ok (.aload_n 0, 1) := by decide +kernel
theorem dM_loops_6 : decode cM_loops 6 = .ok (.aload_n 0, 1) := by decide +kernel
theorem dM_loops_7 : decode cM_loops 7 = .ok (.iload_n 1, 1) := by decide +kernel
theorem dM_loops_8 : decode cM_loops 8 = .ok (.invokevirtual 40, 3) := by decide +kernel
theorem dM_loops_11 : decode cM_loops 11 = .ok (.iload_n 1, 1) := by decide +kernel
theorem dM_loops_12 : decode cM_loops 12 = .ok (.invokevirtual 139, 3) := by decide +kernel
theorem dM_loops_15 : decode cM_loops 15 = .ok (.istore_n 2, 1) := by decide +kernel
theorem dM_loops_16 : decode cM_loops 16 = .ok (.iconst 0, 1) := by decide +kernel
theorem dM_loops_17 : decode cM_loops 17 = .ok (.istore_n 3, 1) := by decide +kernel
theorem dM_loops_18 : decode cM_loops 18 = .ok (.iload_n 3, 1) := by decide +kernel
theorem dM_loops_19 : decode cM_loops 19 = .ok (.aload_n 0, 1) := by decide +kernel
theorem dM_loops_20 : decode cM_loops 20 = .ok (.getfield 7, 3) := by decide +kernel
theorem dM_loops_23 : decode cM_loops 23 = .ok (.bipush 16, 2) := by decide +kernel
theorem dM_loops_25 : decode cM_loops 25 = .ok (.iaload, 1) := by decide +kernel
theorem dM_loops_26 : decode cM_loops 26 = .ok (.if_icmp .ge 41, 3) := by decide +kernel
theorem dM_loops_29 : decode cM_loops 29 = .ok (.iload_n 2, 1) := by decide +kernel
theorem dM_loops_30 : decode cM_loops 30 = .ok (.ifCond .ne 25, 3) := by decide +kernel
theorem dM_loops_33 : decode cM_loops 33 = .ok (.aload_n 0, 1) := by decide +kernel
theorem dM_loops_34 : decode cM_loops 34 = .ok (.getfield 20, 3) := by decide +kernel
theorem dM_loops_37 : decode cM_loops 37 = .ok (.iload_n 3, 1) := by decide +kernel
theorem dM_loops_38 : decode cM_loops 38 = .ok (.baload, 1) := by decide +kernel
theorem dM_loops_39 : decode cM_loops 39 = .ok (.ifCond .eq 20, 3) := by decide +kernel
theorem dM_loops_42 : decode cM_loops 42 = .ok (.aload_n 0, 1) := by decide +kernel
theorem dM_loops_43 : decode cM_loops 43 = .ok (.aload_n 0, 1) := by decide +kernel
theorem dM_loops_44 : decode cM_loops 44 = .ok (.iload_n 1, 1) := by decide +kernel
theorem dM_loops_45 : decode cM_loops 45 = .ok (.invokevirtual 40, 3) := by decide +kernel
theorem dM_loops_48 : decode cM_loops 48 = .ok (.iload_n 3, 1) := by decide +kernel
theorem dM_loops_49 : decode cM_loops 49 = .ok (.invokevirtual 139, 3) := by decide +kernel
theorem dM_loops_52 : decode cM_loops 52 = .ok (.ifCond .eq 7, 3) := by decide +kernel
theorem dM_loops_55 : decode cM_loops 55 = .ok (.iconst 1, 1) := by decide +kernel
theorem dM_loops_56 : decode cM_loops 56 = .ok (.goto 4, 3) := by decide +kernel
theorem dM_loops_59 : decode cM_loops 59 = .ok (.iconst 0, 1) := by decide +kernel
theorem dM_loops_60 : decode cM_loops 60 = .ok (.istore_n 2, 1) := by decide +kernel
theorem dM_loops_61 : decode cM_loops 61 = .ok (.iinc 3 1, 3) := by decide +kernel
theorem dM_loops_64 : decode cM_loops 64 = .ok (.goto (-46), 3) := by decide +kernel
theorem dM_loops_67 : decode cM_loops 67 = .ok (.iload_n 2, 1) := by decide +kernel
theorem dM_loops_68 : decode cM_loops 68 = .ok (.ireturn, 1) := by decide +kernel
abbrev cM_lacksRevision : ByteArray := prog_9_method_47_code
abbrev yM_lacksRevision : MethodName := ⟨"DrawingVaultModel", "lacksRevision", "(I)Z"⟩
theorem dM_lacksRevision_0 : decode cM_lacksRevision 0 = .ok (.iconst 0, 1) := by decide +kernel
theorem dM_lacksRevision_1 : decode cM_lacksRevision 1 = .ok (.istore_n 2, 1) := by decide +kernel
theorem dM_lacksRevision_2 : decode cM_lacksRevision 2 = .ok (.iconst 0, 1) := by decide +kernel
theorem dM_lacksRevision_3 : decode cM_lacksRevision 3 = .ok (.istore_n 3, 1) := by decide +kernel
theorem dM_lacksRevision_4 : decode cM_lacksRevision 4 = .ok (.iload_n 3, 1) := by decide +kernel
theorem dM_lacksRevision_5 : decode cM_lacksRevision 5 = .ok (.aload_n 0, 1) := by decide +kernel
theorem dM_lacksRevision_6 : decode cM_lacksRevision 6 = .ok (.getfield 7, 3) := by decide +kernel
theorem dM_lacksRevision_9 : decode cM_lacksRevision 9 = .ok (.iload_n 1, 1) := by decide +kernel
theorem dM_lacksRevision_10 : decode cM_lacksRevision 10 = .ok (.iconst 3, 1) := by decide +kernel
theorem dM_lacksRevision_11 : decode cM_lacksRevision 11 = .ok (.iadd, 1) := by decide +kernel
theorem dM_lacksRevision_12 : decode cM_lacksRevision 12 = .ok (.iaload, 1) := by decide +kernel
theorem dM_lacksRevision_13 : decode cM_lacksRevision 13 = .ok (.if_icmp .ge 38, 3) := by decide +kernel
theorem dM_lacksRevision_16 : decode cM_lacksRevision 16 = .ok (.iload_n 2, 1) := by decide +kernel
theorem dM_lacksRevision_17 : decode cM_lacksRevision 17 = .ok (.ifCond .ne 22, 3) := by decide +kernel
theorem dM_lacksRevision_20 : decode cM_lacksRevision 20 = .ok (.aload_n 0, 1) := by decide +kernel
theorem dM_lacksRevision_21 : decode cM_lacksRevision 21 = .ok (.iload_n 1, 1) := by decide +kernel
theorem dM_lacksRevision_22 : decode cM_lacksRevision 22 = .ok (.iload_n 3, 1) := by decide +kernel
theorem dM_lacksRevision_23 : decode cM_lacksRevision 23 = .ok (.invokevirtual 57, 3) := by decide +kernel
theorem dM_lacksRevision_26 : decode cM_lacksRevision 26 = .ok (.aload_n 0, 1) := by decide +kernel
theorem dM_lacksRevision_27 : decode cM_lacksRevision 27 = .ok (.aload_n 0, 1) := by decide +kernel
theorem dM_lacksRevision_28 : decode cM_lacksRevision 28 = .ok (.iload_n 1, 1) := by decide +kernel
theorem dM_lacksRevision_29 : decode cM_lacksRevision 29 = .ok (.iload_n 3, 1) := by decide +kernel
theorem dM_lacksRevision_30 : decode cM_lacksRevision 30 = .ok (.invokevirtual 60, 3) := by decide +kernel
theorem dM_lacksRevision_33 : decode cM_lacksRevision 33 = .ok (.invokevirtual 47, 3) := by decide +kernel
theorem dM_lacksRevision_36 : decode cM_lacksRevision 36 = .ok (.if_icmp .lt 7, 3) := by decide +kernel
theorem dM_lacksRevision_39 : decode cM_lacksRevision 39 = .ok (.iconst 1, 1) := by decide +kernel
theorem dM_lacksRevision_40 : decode cM_lacksRevision 40 = .ok (.goto 4, 3) := by decide +kernel
theorem dM_lacksRevision_43 : decode cM_lacksRevision 43 = .ok (.iconst 0, 1) := by decide +kernel
theorem dM_lacksRevision_44 : decode cM_lacksRevision 44 = .ok (.istore_n 2, 1) := by decide +kernel
theorem dM_lacksRevision_45 : decode cM_lacksRevision 45 = .ok (.iinc 3 1, 3) := by decide +kernel
theorem dM_lacksRevision_48 : decode cM_lacksRevision 48 = .ok (.goto (-44), 3) := by decide +kernel
theorem dM_lacksRevision_51 : decode cM_lacksRevision 51 = .ok (.iload_n 2, 1) := by decide +kernel
theorem dM_lacksRevision_52 : decode cM_lacksRevision 52 = .ok (.ireturn, 1) := by decide +kernel
abbrev cM_checkIn : ByteArray := prog_9_method_48_code
abbrev yM_checkIn : MethodName := ⟨"DrawingVaultModel", "checkIn", "(II)I"⟩
theorem dM_checkIn_0 : decode cM_checkIn 0 = .ok (.aload_n 0, 1) := by decide +kernel
theorem dM_checkIn_1 : decode cM_checkIn 1 = .ok (.iload_n 1, 1) := by decide +kernel
theorem dM_checkIn_2 : decode cM_checkIn 2 = .ok (.iload_n 2, 1) := by decide +kernel
theorem dM_checkIn_3 : decode cM_checkIn 3 = .ok (.invokevirtual 133, 3) := by decide +kernel
theorem dM_checkIn_6 : decode cM_checkIn 6 = .ok (.istore_n 3, 1) := by decide +kernel
theorem dM_checkIn_7 : decode cM_checkIn 7 = .ok (.iconst 2, 1) := by decide +kernel
theorem dM_checkIn_8 : decode cM_checkIn 8 = .ok (.istore 4, 2) := by decide +kernel
theorem dM_checkIn_10 : decode cM_checkIn 10 = .ok (.iload_n 3, 1) := by decide +kernel
theorem dM_checkIn_11 : decode cM_checkIn 11 = .ok (.ifCond .ne 72, 3) := by decide +kernel
theorem dM_checkIn_14 : decode cM_checkIn 14 = .ok (.aload_n 0, 1) := by decide +kernel
theorem dM_checkIn_15 : decode cM_checkIn 15 = .ok (.iload_n 1, 1) := by decide +kernel
theorem dM_checkIn_16 : decode cM_checkIn 16 = .ok (.invokevirtual 148, 3) := by decide +kernel
theorem dM_checkIn_19 : decode cM_checkIn 19 = .ok (.bipush 6, 2) := by decide +kernel
theorem dM_checkIn_21 : decode cM_checkIn 21 = .ok (.aload_n 0, 1) := by decide +kernel
theorem dM_checkIn_22 : decode cM_checkIn 22 = .ok (.aload_n 0, 1) := by decide +kernel
theorem dM_checkIn_23 : decode cM_checkIn 23 = .ok (.iload_n 1, 1) := by decide +kernel
theorem dM_checkIn_24 : decode cM_checkIn 24 = .ok (.invokevirtual 40, 3) := by decide +kernel
theorem dM_checkIn_27 : decode cM_checkIn 27 = .ok (.invokevirtual 151, 3) := by decide +kernel
theorem dM_checkIn_30 : decode cM_checkIn 30 = .ok (.bipush 7, 2) := by decide +kernel
theorem dM_checkIn_32 : decode cM_checkIn 32 = .ok (.aload_n 0, 1) := by decide +kernel
theorem dM_checkIn_33 : decode cM_checkIn 33 = .ok (.iload_n 1, 1) := by decide +kernel
theorem dM_checkIn_34 : decode cM_checkIn 34 = .ok (.invokevirtual 47, 3) := by decide +kernel
theorem dM_checkIn_37 : decode cM_checkIn 37 = .ok (.bipush 12, 2) := by decide +kernel
theorem dM_checkIn_39 : decode cM_checkIn 39 = .ok (.if_icmp .eq 12, 3) := by decide +kernel
theorem dM_checkIn_42 : decode cM_checkIn 42 = .ok (.aload_n 0, 1) := by decide +kernel
theorem dM_checkIn_43 : decode cM_checkIn 43 = .ok (.invokevirtual 92, 3) := by decide +kernel
theorem dM_checkIn_46 : decode cM_checkIn 46 = .ok (.bipush 100, 2) := by decide +kernel
theorem dM_checkIn_48 : decode cM_checkIn 48 = .ok (.if_icmp .ne 7, 3) := by decide +kernel
theorem dM_checkIn_51 : decode cM_checkIn 51 = .ok (.iconst 1, 1) := by decide +kernel
theorem dM_checkIn_52 : decode cM_checkIn 52 = .ok (.goto 4, 3) := by decide +kernel
theorem dM_checkIn_55 : decode cM_checkIn 55 = .ok (.iconst 0, 1) := by decide +kernel
theorem dM_checkIn_56 : decode cM_checkIn 56 = .ok (.bipush 8, 2) := by decide +kernel
theorem dM_checkIn_58 : decode cM_checkIn 58 = .ok (.iconst 0, 1) := by decide +kernel
theorem dM_checkIn_59 : decode cM_checkIn 59 = .ok (.invokestatic 121, 3) := by decide +kernel
theorem dM_checkIn_62 : decode cM_checkIn 62 = .ok (.invokestatic 121, 3) := by decide +kernel
theorem dM_checkIn_65 : decode cM_checkIn 65 = .ok (.invokestatic 121, 3) := by decide +kernel
theorem dM_checkIn_68 : decode cM_checkIn 68 = .ok (.istore_n 3, 1) := by decide +kernel
theorem dM_checkIn_69 : decode cM_checkIn 69 = .ok (.iload 4, 2) := by decide +kernel
theorem dM_checkIn_71 : decode cM_checkIn 71 = .ok (.aload_n 0, 1) := by decide +kernel
theorem dM_checkIn_72 : decode cM_checkIn 72 = .ok (.aload_n 0, 1) := by decide +kernel
theorem dM_checkIn_73 : decode cM_checkIn 73 = .ok (.iload_n 1, 1) := by decide +kernel
theorem dM_checkIn_74 : decode cM_checkIn 74 = .ok (.invokevirtual 40, 3) := by decide +kernel
theorem dM_checkIn_77 : decode cM_checkIn 77 = .ok (.invokevirtual 154, 3) := by decide +kernel
theorem dM_checkIn_80 : decode cM_checkIn 80 = .ok (.iadd, 1) := by decide +kernel
theorem dM_checkIn_81 : decode cM_checkIn 81 = .ok (.istore 4, 2) := by decide +kernel
theorem dM_checkIn_83 : decode cM_checkIn 83 = .ok (.aload_n 0, 1) := by decide +kernel
theorem dM_checkIn_84 : decode cM_checkIn 84 = .ok (.iload_n 3, 1) := by decide +kernel
theorem dM_checkIn_85 : decode cM_checkIn 85 = .ok (.iload 4, 2) := by decide +kernel
theorem dM_checkIn_87 : decode cM_checkIn 87 = .ok (.invokevirtual 112, 3) := by decide +kernel
theorem dM_checkIn_90 : decode cM_checkIn 90 = .ok (.ifCond .ne 16, 3) := by decide +kernel
theorem dM_checkIn_93 : decode cM_checkIn 93 = .ok (.aload_n 0, 1) := by decide +kernel
theorem dM_checkIn_94 : decode cM_checkIn 94 = .ok (.getfield 33, 3) := by decide +kernel
theorem dM_checkIn_97 : decode cM_checkIn 97 = .ok (.ifCond .le 7, 3) := by decide +kernel
theorem dM_checkIn_100 : decode cM_checkIn 100 = .ok (.iconst 0, 1) := by decide +kernel
theorem dM_checkIn_101 : decode cM_checkIn 101 = .ok (.goto 4, 3) := by decide +kernel
theorem dM_checkIn_104 : decode cM_checkIn 104 = .ok (.iconst (-1), 1) := by decide +kernel
theorem dM_checkIn_105 : decode cM_checkIn 105 = .ok (.ireturn, 1) := by decide +kernel
theorem dM_checkIn_106 : decode cM_checkIn 106 = .ok (.aload_n 0, 1) := by decide +kernel
theorem dM_checkIn_107 : decode cM_checkIn 107 = .ok (.iload_n 1, 1) := by decide +kernel
theorem dM_checkIn_108 : decode cM_checkIn 108 = .ok (.invokevirtual 47, 3) := by decide +kernel
theorem dM_checkIn_111 : decode cM_checkIn 111 = .ok (.istore 5, 2) := by decide +kernel
theorem dM_checkIn_113 : decode cM_checkIn 113 = .ok (.aload_n 0, 1) := by decide +kernel
theorem dM_checkIn_114 : decode cM_checkIn 114 = .ok (.iload_n 1, 1) := by decide +kernel
theorem dM_checkIn_115 : decode cM_checkIn 115 = .ok (.iload 5, 2) := by decide +kernel
theorem dM_checkIn_117 : decode cM_checkIn 117 = .ok (.invokevirtual 50, 3) := by decide +kernel
theorem dM_checkIn_120 : decode cM_checkIn 120 = .ok (.istore 6, 2) := by decide +kernel
theorem dM_checkIn_122 : decode cM_checkIn 122 = .ok (.aload_n 0, 1) := by decide +kernel
theorem dM_checkIn_123 : decode cM_checkIn 123 = .ok (.iload 6, 2) := by decide +kernel
theorem dM_checkIn_125 : decode cM_checkIn 125 = .ok (.invokevirtual 125, 3) := by decide +kernel
theorem dM_checkIn_128 : decode cM_checkIn 128 = .ok (.aload_n 0, 1) := by decide +kernel
theorem dM_checkIn_129 : decode cM_checkIn 129 = .ok (.aload_n 0, 1) := by decide +kernel
theorem dM_checkIn_130 : decode cM_checkIn 130 = .ok (.iload_n 1, 1) := by decide +kernel
theorem dM_checkIn_131 : decode cM_checkIn 131 = .ok (.invokevirtual 40, 3) := by decide +kernel
theorem dM_checkIn_134 : decode cM_checkIn 134 = .ok (.iload 6, 2) := by decide +kernel
theorem dM_checkIn_136 : decode cM_checkIn 136 = .ok (.invokevirtual 129, 3) := by decide +kernel
theorem dM_checkIn_139 : decode cM_checkIn 139 = .ok (.aload_n 0, 1) := by decide +kernel
theorem dM_checkIn_140 : decode cM_checkIn 140 = .ok (.getfield 7, 3) := by decide +kernel
theorem dM_checkIn_143 : decode cM_checkIn 143 = .ok (.iload 6, 2) := by decide +kernel
theorem dM_checkIn_145 : decode cM_checkIn 145 = .ok (.iconst 1, 1) := by decide +kernel
theorem dM_checkIn_146 : decode cM_checkIn 146 = .ok (.iadd, 1) := by decide +kernel
theorem dM_checkIn_147 : decode cM_checkIn 147 = .ok (.iload_n 2, 1) := by decide +kernel
theorem dM_checkIn_148 : decode cM_checkIn 148 = .ok (.iastore, 1) := by decide +kernel
theorem dM_checkIn_149 : decode cM_checkIn 149 = .ok (.aload_n 0, 1) := by decide +kernel
theorem dM_checkIn_150 : decode cM_checkIn 150 = .ok (.getfield 7, 3) := by decide +kernel
theorem dM_checkIn_153 : decode cM_checkIn 153 = .ok (.aload_n 0, 1) := by decide +kernel
theorem dM_checkIn_154 : decode cM_checkIn 154 = .ok (.iload_n 1, 1) := by decide +kernel
theorem dM_checkIn_155 : decode cM_checkIn 155 = .ok (.invokevirtual 40, 3) := by decide +kernel
theorem dM_checkIn_158 : decode cM_checkIn 158 = .ok (.iconst 0, 1) := by decide +kernel
theorem dM_checkIn_159 : decode cM_checkIn 159 = .ok (.iadd, 1) := by decide +kernel
theorem dM_checkIn_160 : decode cM_checkIn 160 = .ok (.dup2, 1) := by decide +kernel
theorem dM_checkIn_161 : decode cM_checkIn 161 = .ok (.iaload, 1) := by decide +kernel
theorem dM_checkIn_162 : decode cM_checkIn 162 = .ok (.iconst 1, 1) := by decide +kernel
theorem dM_checkIn_163 : decode cM_checkIn 163 = .ok (.iadd, 1) := by decide +kernel
theorem dM_checkIn_164 : decode cM_checkIn 164 = .ok (.iastore, 1) := by decide +kernel
theorem dM_checkIn_165 : decode cM_checkIn 165 = .ok (.aload_n 0, 1) := by decide +kernel
theorem dM_checkIn_166 : decode cM_checkIn 166 = .ok (.getfield 7, 3) := by decide +kernel
theorem dM_checkIn_169 : decode cM_checkIn 169 = .ok (.aload_n 0, 1) := by decide +kernel
theorem dM_checkIn_170 : decode cM_checkIn 170 = .ok (.iload_n 1, 1) := by decide +kernel
theorem dM_checkIn_171 : decode cM_checkIn 171 = .ok (.invokevirtual 40, 3) := by decide +kernel
theorem dM_checkIn_174 : decode cM_checkIn 174 = .ok (.iconst 1, 1) := by decide +kernel
theorem dM_checkIn_175 : decode cM_checkIn 175 = .ok (.iadd, 1) := by decide +kernel
theorem dM_checkIn_176 : decode cM_checkIn 176 = .ok (.iconst 0, 1) := by decide +kernel
theorem dM_checkIn_177 : decode cM_checkIn 177 = .ok (.iastore, 1) := by decide +kernel
theorem dM_checkIn_178 : decode cM_checkIn 178 = .ok (.aload_n 0, 1) := by decide +kernel
theorem dM_checkIn_179 : decode cM_checkIn 179 = .ok (.invokevirtual 115, 3) := by decide +kernel
theorem dM_checkIn_182 : decode cM_checkIn 182 = .ok (.iload 5, 2) := by decide +kernel
theorem dM_checkIn_184 : decode cM_checkIn 184 = .ok (.ireturn, 1) := by decide +kernel
theorem wd_170 : (.code ⟨"DrawingVaultModel", "refersTo", "(II)Z"⟩ prog_9_method_43_code 5 (Option.some .boolean) : Cond) ∈ aw := aw_in (tb_4 (List.mem_of_getElem? (i := 214) rfl)) rfl
theorem wd_171 : (.methodLink "DrawingVaultModel" 139 ⟨"DrawingVaultModel", "refersTo", "(II)Z"⟩ : Cond) ∈ aw := aw_in (tb_4 (List.mem_of_getElem? (i := 211) rfl)) rfl
theorem wd_172 : (.instanceMethod ⟨"DrawingVaultModel", "refersTo", "(II)Z"⟩ : Cond) ∈ aw := aw_in (tb_4 (List.mem_of_getElem? (i := 213) rfl)) rfl
theorem wd_173 : (.selects "DrawingVaultModel" ⟨"DrawingVaultModel", "refersTo", "(II)Z"⟩ ⟨"DrawingVaultModel", "refersTo", "(II)Z"⟩ : Cond) ∈ aw := aw_in (tb_s (q := (⟨"DrawingVaultModel", "refersTo", "(II)Z"⟩, _)) (List.mem_append_right _ (List.mem_append_right _ (List.mem_append_right _ (List.mem_append_left _ (List.mem_of_getElem? (i := 13) rfl)))))) rfl
theorem wd_174 : (.fieldLink "DrawingVaultModel" 20 "DrawingVaultModel" "marked" "[Z" : Cond) ∈ aw := aw_in (tb_4 (List.mem_of_getElem? (i := 36) rfl)) rfl
theorem wd_175 : (.code ⟨"DrawingVaultModel", "uses", "(II)Z"⟩ prog_9_method_44_code 3 (Option.some .boolean) : Cond) ∈ aw := aw_in (tb_4 (List.mem_of_getElem? (i := 210) rfl)) rfl
theorem wd_176 : (.methodLink "DrawingVaultModel" 142 ⟨"DrawingVaultModel", "uses", "(II)Z"⟩ : Cond) ∈ aw := aw_in (tb_4 (List.mem_of_getElem? (i := 207) rfl)) rfl
theorem wd_177 : (.instanceMethod ⟨"DrawingVaultModel", "uses", "(II)Z"⟩ : Cond) ∈ aw := aw_in (tb_4 (List.mem_of_getElem? (i := 209) rfl)) rfl
theorem wd_178 : (.selects "DrawingVaultModel" ⟨"DrawingVaultModel", "uses", "(II)Z"⟩ ⟨"DrawingVaultModel", "uses", "(II)Z"⟩ : Cond) ∈ aw := aw_in (tb_s (q := (⟨"DrawingVaultModel", "uses", "(II)Z"⟩, _)) (List.mem_append_right _ (List.mem_append_right _ (List.mem_append_right _ (List.mem_append_left _ (List.mem_of_getElem? (i := 12) rfl)))))) rfl
theorem wd_179 : (.code ⟨"DrawingVaultModel", "markUsers", "(I)V"⟩ prog_9_method_45_code 5 (Option.none : Option Jvm.ClassFile.FieldType) : Cond) ∈ aw := aw_in (tb_4 (List.mem_of_getElem? (i := 206) rfl)) rfl
theorem wd_180 : (.methodLink "DrawingVaultModel" 145 ⟨"DrawingVaultModel", "markUsers", "(I)V"⟩ : Cond) ∈ aw := aw_in (tb_4 (List.mem_of_getElem? (i := 203) rfl)) rfl
theorem wd_181 : (.instanceMethod ⟨"DrawingVaultModel", "markUsers", "(I)V"⟩ : Cond) ∈ aw := aw_in (tb_4 (List.mem_of_getElem? (i := 205) rfl)) rfl
theorem wd_182 : (.selects "DrawingVaultModel" ⟨"DrawingVaultModel", "markUsers", "(I)V"⟩ ⟨"DrawingVaultModel", "markUsers", "(I)V"⟩ : Cond) ∈ aw := aw_in (tb_s (q := (⟨"DrawingVaultModel", "markUsers", "(I)V"⟩, _)) (List.mem_append_right _ (List.mem_append_right _ (List.mem_append_right _ (List.mem_append_left _ (List.mem_of_getElem? (i := 11) rfl)))))) rfl
theorem wd_183 : (.code ⟨"DrawingVaultModel", "loops", "(I)Z"⟩ prog_9_method_46_code 4 (Option.some .boolean) : Cond) ∈ aw := aw_in (tb_4 (List.mem_of_getElem? (i := 202) rfl)) rfl
theorem wd_184 : (.methodLink "DrawingVaultModel" 148 ⟨"DrawingVaultModel", "loops", "(I)Z"⟩ : Cond) ∈ aw := aw_in (tb_4 (List.mem_of_getElem? (i := 199) rfl)) rfl
theorem wd_185 : (.instanceMethod ⟨"DrawingVaultModel", "loops", "(I)Z"⟩ : Cond) ∈ aw := aw_in (tb_4 (List.mem_of_getElem? (i := 201) rfl)) rfl
theorem wd_186 : (.selects "DrawingVaultModel" ⟨"DrawingVaultModel", "loops", "(I)Z"⟩ ⟨"DrawingVaultModel", "loops", "(I)Z"⟩ : Cond) ∈ aw := aw_in (tb_s (q := (⟨"DrawingVaultModel", "loops", "(I)Z"⟩, _)) (List.mem_append_right _ (List.mem_append_right _ (List.mem_append_right _ (List.mem_append_left _ (List.mem_of_getElem? (i := 10) rfl)))))) rfl
theorem wd_187 : (.code ⟨"DrawingVaultModel", "lacksRevision", "(I)Z"⟩ prog_9_method_47_code 4 (Option.some .boolean) : Cond) ∈ aw := aw_in (tb_4 (List.mem_of_getElem? (i := 222) rfl)) rfl
theorem wd_188 : (.methodLink "DrawingVaultModel" 151 ⟨"DrawingVaultModel", "lacksRevision", "(I)Z"⟩ : Cond) ∈ aw := aw_in (tb_4 (List.mem_of_getElem? (i := 219) rfl)) rfl
theorem wd_189 : (.instanceMethod ⟨"DrawingVaultModel", "lacksRevision", "(I)Z"⟩ : Cond) ∈ aw := aw_in (tb_4 (List.mem_of_getElem? (i := 221) rfl)) rfl
theorem wd_190 : (.selects "DrawingVaultModel" ⟨"DrawingVaultModel", "lacksRevision", "(I)Z"⟩ ⟨"DrawingVaultModel", "lacksRevision", "(I)Z"⟩ : Cond) ∈ aw := aw_in (tb_s (q := (⟨"DrawingVaultModel", "lacksRevision", "(I)Z"⟩, _)) (List.mem_append_right _ (List.mem_append_right _ (List.mem_append_right _ (List.mem_append_left _ (List.mem_of_getElem? (i := 15) rfl)))))) rfl
theorem wd_191 : (.code ⟨"DrawingVaultModel", "ownChunks", "(I)I"⟩ prog_9_method_24_code 4 (Option.some .int) : Cond) ∈ aw := aw_in (tb_4 (List.mem_of_getElem? (i := 230) rfl)) rfl
theorem wd_192 : (.methodLink "DrawingVaultModel" 154 ⟨"DrawingVaultModel", "ownChunks", "(I)I"⟩ : Cond) ∈ aw := aw_in (tb_4 (List.mem_of_getElem? (i := 227) rfl)) rfl
theorem wd_193 : (.instanceMethod ⟨"DrawingVaultModel", "ownChunks", "(I)I"⟩ : Cond) ∈ aw := aw_in (tb_4 (List.mem_of_getElem? (i := 229) rfl)) rfl
theorem wd_194 : (.selects "DrawingVaultModel" ⟨"DrawingVaultModel", "ownChunks", "(I)I"⟩ ⟨"DrawingVaultModel", "ownChunks", "(I)I"⟩ : Cond) ∈ aw := aw_in (tb_s (q := (⟨"DrawingVaultModel", "ownChunks", "(I)I"⟩, _)) (List.mem_append_right _ (List.mem_append_right _ (List.mem_append_right _ (List.mem_append_right _ (List.mem_of_getElem? (i := 1) rfl)))))) rfl

def M_resize_L57 (n : Nat) (kx23 : hT → Int32 → Int32 → Int32 → Int32 → Int32 → Int32 → Option (Int32 × hT)) : Nat → hT → Int32 → Int32 → Int32 → Int32 → Int32 → Int32 → Option (Int32 × hT)
  | 0, _, _, _, _, _, _, _ => none
  | k + 1, σ16, p17, p18, p19, p20, p21, p22 => if p22 ≤ p17 then kx23 (σ16) p17 p18 p19 p20 p21 p22 else if in9 ((p18 + 16) + p17) 25240 then lt9 (sI σ16 15 0 (((p18 + 16) + p17)).toNatClampNeg 0) fun σ27 => M_resize_L57 n kx23 k (σ27) (p17 + 1) p18 p19 p20 p21 p22 else none
def M_resize (n : Nat) (σ : hT) (a1 : Int32) (a2 : Int32) (a3 : Int32) : Option (Int32 × hT) := Option.bind (M_whyNot σ a1 a2) fun y2 => lt9 (α := Int32 → Option (Int32 × hT)) (fun (s4 : Int32) => Option.bind (M_mayHere σ s4) fun ⟨y9, σ10⟩ => if y9 = 0 then some (0, σ10) else if in9 ((M_drawingAt a1) + 2) 25240 then lt9 (α := hT → Int32 → Int32 → Int32 → Int32 → Int32 → Int32 → Option (Int32 × hT)) (fun (σ16 : hT) (p17 : Int32) (p18 : Int32) (p19 : Int32) (p20 : Int32) (p21 : Int32) (p22 : Int32) => if in9 (p18 + 2) 25240 then lt9 (sI σ16 15 0 ((p18 + 2)).toNatClampNeg p22) fun σ31 => some (1, σ31) else none) fun kx23 => M_resize_L57 n kx23 n (σ10) (xI σ10 15 0 (((M_drawingAt a1) + 2)).toNatClampNeg) (M_drawingAt a1) y2 a1 a2 a3 else none) fun x3 => if y2 = 0 then if a3 < 0 then x3 7 else if a3 ≤ 64 then x3 y2 else x3 7 else x3 y2
set_option maxHeartbeats 4000000 in
set_option maxRecDepth 100000 in
theorem t_M_resize (l : Launch) (dC : Nat → ClassId) (dI : Nat → Nat → Nat) (ad : Nat → Nat → Nat) (ca : Nat → Nat → ClassId) (dom : List (Nat × Nat)) (sz : Nat) (n : Nat) (σ : hT) (a1 : Int32) (a2 : Int32) (a3 : Int32) (hm0 : (4, 0) ∈ dom) (hN : dom.Nodup) (hC : clo dom σ.2.2) (ρ : Int32) (σ' : hT) (hf : M_resize n σ a1 a2 a3 = some (ρ, σ')) : Met l yM_resize (.code yM_resize cM_resize 7 (some .boolean) :: aw) ({ frames := 3, cells := 0, slots := 0, locals := 65 }) (hW (dC, dI) sz ad ca dom σ [.ref (ad 4 0), .int a1, .int a2, .int a3]) (va_Qi (fun r (_ : Unit) => r = ρ) (fun _ t => hB (dC, dI) (va_A (w9 ad ca dom σ) sz) ad ca dom σ' t) (va_A (w9 ad ca dom σ) sz)) 0 0 (va_A (w9 ad ca dom σ) sz) := by
  refine Met.ofW (cc := cM_resize) (maxL := 7) (ret := (some .boolean)) (by decide) rfl ?_
  intro p e s m args below meth c s₁ B hml hv
  obtain ⟨rfl, hv⟩ := hv
  have hx := B.exec
  have hb := B.bytes
  have hr := B.returns
  have hts : ∀ w ∈ aw, w.before _ s = true := fun w h => atoms_spec (ws := (.code yM_resize cM_resize 7 (some .boolean) :: aw)) B.pre w (List.mem_cons_of_mem _ h)
  have hown : s.vm.findClass RM = some m.cls := findClass_of_methodNamed B.named
  have hlocks := B.notSynchronized
  obtain ⟨hsz, hP, hK, hD0, hG⟩ := hv
  subst hsz
  have hD := hD0.self (sz := s.heap.size)
  generalize hAe : va_A (w9 ad ca dom σ) s.heap.size = A at hD ⊢
  have hA : ∀ q : Nat, s.heap.size ≤ q → A q := fun q h => by rw [← hAe]; exact Or.inr h
  obtain ⟨H, hH⟩ : ∃ H, H = s.heap := ⟨_, rfl⟩
  have hS : va_S A s.heap H [] := by rw [hH]; exact va_S.rf
  rw [← hH] at hP ⊢
  unfold M_resize at hf
  have hl := lv_entry ([.ref (ad 4 0), .int a1, .int a2, .int a3]) (n := 7) (Nat.le_of_ble_eq_true rfl)
  rw [lg_entry_eq]
  generalize (lg_sl ([.ref (ad 4 0), .int a1, .int a2, .int a3]) ++ List.replicate (7 - (lg_sl ([.ref (ad 4 0), .int a1, .int a2, .int a3])).length) Slot.unset).toArray = ls at hl ⊢
  have hl : lv_has ls 7 [(0, .ref (ad 4 0)), (1, .int a1), (2, .int a2), (3, .int a3)] := hl
  refine lv_aload_n (pc := 0) hx hb dM_resize_0 rfl (lv_at hl 0 rfl) ?_
  refine lv_iload_n (pc := 1) hx hb dM_resize_1 rfl (lv_at hl 1 rfl) ?_
  refine lv_iload_n (pc := 2) hx hb dM_resize_2 rfl (lv_at hl 2 rfl) ?_
  obtain ⟨q1, hq1, eq1⟩ := at_4 (ad := ad) (ca := ca) (σ := σ) hm0
  obtain ⟨y2, hy2, hf⟩ := ob hf
  refine vp_callSi (pc := 3) (W.runV (As := [.int a1, .int a2]) (rest := []) ⟨hx, hb, hml, hown, hts⟩ (t_M_whyNot l dC dI ad ca dom σ a1 a2 hm0 hN hC y2 hy2) (cwV 2 hts (gV wd_163 wd_164 wd_165 wd_50 wd_162) rfl rfl rfl (by decide +kernel) ⟨Nat.le_of_ble_eq_true rfl, Nat.le_of_ble_eq_true rfl⟩) ⟨hR_blind, va_recv (q := (RM, TM, 11)) (q0 := q1) (ci := 4) hK.1 hP rfl eq1, hR_pre hP hK hG⟩ rfl rfl hl.1 rfl (lv_room (Nat.le_of_ble_eq_true rfl)) dM_resize_3 ⟨Nat.le_of_ble_eq_true rfl, Nat.le_of_ble_eq_true rfl⟩) (fun r9 hr9 => ?_)
  refine W.eq (g2 := F0 m 6 ls [.int y2]) (by rw [hr9]) ?_
  refine lv_istore (pc := 6) hx hb dM_resize_6 hl (by decide) rfl (fun ls hl => ?_)
  have hl : lv_has ls 7 [(4, .int y2), (0, .ref (ad 4 0)), (1, .int a1), (2, .int a2), (3, .int a3)] := hl
  refine lv_aload_n (pc := 8) hx hb dM_resize_8 rfl (lv_at hl 1 rfl) ?_
  refine lv_iload (pc := 9) hx hb dM_resize_9 (lv_at hl 0 rfl) ?_
  obtain ⟨x3, hx3, hf⟩ := lt_9 hf
  refine jnF (τ := (Int32) × (Heap) × (List Loc) × (Array Slot)) (fun pc st z => W p l e _ s m _ below meth c z.2.1 z.2.2.1 0 0 _ (F0 m pc z.2.2.2 st)) (pc0 := 11) (st0 := [.int y2, .ref (ad 4 0)]) (z0 := (0, H, _, ls)) 31 (fun z => [.int z.1, .ref (ad 4 0)]) (fun z => va_P (dC, dI) kCl (w9 ad ca dom (σ)) z.2.1 ∧ va_D A (w9 ad ca dom (σ)) ∧ va_S A s.heap z.2.1 z.2.2.1 ∧ lv_has z.2.2.2 7 [(4, .int y2), (0, .ref (ad 4 0)), (1, .int a1), (2, .int a2), (3, .int a3)]) (fun z => x3 z.1) (ρ, σ') ?_ ?_
  · intro hJx3
    dsimp only at hJx3 ⊢
    refine lv_if_ne (pc := 11) (tgt := 29) hx hb dM_resize_11 rfl (fun h5 => ?_) (fun h5 => ?_)
    · replace hf := ite_f h5 hf
      refine lv_iload (pc := 29) hx hb dM_resize_29 (lv_at hl 0 rfl) ?_
      have hl := lv_sub hl (l' := [(4, .int y2), (0, .ref (ad 4 0)), (1, .int a1), (2, .int a2), (3, .int a3)]) [0, 1, 2, 3, 4] rfl
      exact hJx3 (y2, H, _, ls) ⟨hP, hD, hS, hl⟩ hf
    · replace hf := ite_t h5 hf
      refine lv_iload_n (pc := 14) hx hb dM_resize_14 rfl (lv_at hl 4 rfl) ?_
      refine lv_if_lt (pc := 15) (tgt := 24) hx hb dM_resize_15 rfl (fun h6 => ?_) (fun h6 => ?_)
      · replace hf := ite_t h6 hf
        refine lv_bipush (pc := 24) (v := 7) hx hb dM_resize_24 (by decide) ?_
        refine lv_goto (pc := 26) (tgt := 31) hx hb dM_resize_26 rfl ?_
        have hl := lv_sub hl (l' := [(4, .int y2), (0, .ref (ad 4 0)), (1, .int a1), (2, .int a2), (3, .int a3)]) [0, 1, 2, 3, 4] rfl
        exact hJx3 (7, H, _, ls) ⟨hP, hD, hS, hl⟩ hf
      · replace hf := ite_f h6 hf
        refine lv_iload_n (pc := 18) hx hb dM_resize_18 rfl (lv_at hl 4 rfl) ?_
        refine lv_bipush (pc := 19) (v := 64) hx hb dM_resize_19 (by decide) ?_
        refine lv_icmp_le (pc := 21) (tgt := 29) hx hb dM_resize_21 rfl (fun h7 => ?_) (fun h7 => ?_)
        · replace hf := ite_t h7 hf
          refine lv_iload (pc := 29) hx hb dM_resize_29 (lv_at hl 0 rfl) ?_
          have hl := lv_sub hl (l' := [(4, .int y2), (0, .ref (ad 4 0)), (1, .int a1), (2, .int a2), (3, .int a3)]) [0, 1, 2, 3, 4] rfl
          exact hJx3 (y2, H, _, ls) ⟨hP, hD, hS, hl⟩ hf
        · replace hf := ite_f h7 hf
          refine lv_bipush (pc := 24) (v := 7) hx hb dM_resize_24 (by decide) ?_
          refine lv_goto (pc := 26) (tgt := 31) hx hb dM_resize_26 rfl ?_
          have hl := lv_sub hl (l' := [(4, .int y2), (0, .ref (ad 4 0)), (1, .int a1), (2, .int a2), (3, .int a3)]) [0, 1, 2, 3, 4] rfl
          exact hJx3 (7, H, _, ls) ⟨hP, hD, hS, hl⟩ hf
  · rintro ⟨s4, H, locs, ls⟩ ⟨hP, hD, hS, hl⟩ hf
    dsimp only at hP hD hS hl hf ⊢
    rw [hx3] at hf
    have hl : lv_has ls 7 [(4, .int y2), (0, .ref (ad 4 0)), (1, .int a1), (2, .int a2), (3, .int a3)] := hl
    obtain ⟨q8, hq8, eq8⟩ := at_4 (ad := ad) (ca := ca) (σ := σ) hm0
    obtain ⟨⟨y9, σ10⟩, hy9, hf⟩ := ob hf
    have hFc := w9_free hD hS hA
    refine va_calli (pc := 31) (va_runV (As := [.int s4]) (rest := []) ⟨hx, hb, hml, hown, hts⟩ (t_M_mayHere l dC dI ad ca dom H.size σ s4 hm0 hN hC y9 σ10 hy9) (cwV 1 hts (gV wd_167 wd_168 wd_169 wd_50 wd_166) rfl rfl rfl (by decide +kernel) ⟨Nat.le_of_ble_eq_true rfl, Nat.le_of_ble_eq_true rfl⟩) ⟨hW_blind, va_recv (q := (RM, TM, 11)) (q0 := q8) (ci := 4) hK.1 hP rfl eq8, hW_pre hP hK hD hG⟩ rfl rfl hl.1 rfl (lv_room (Nat.le_of_ble_eq_true rfl)) dM_resize_31 ⟨Nat.le_of_ble_eq_true rfl, Nat.le_of_ble_eq_true rfl⟩) hS (fun q _ h => hFc q h) hFc (fun r9 u t H1 locs ht hvm hr9 hB hz1 hk1 hS => ?_)
    obtain ⟨hP, hD, hC⟩ := hB
    rw [ht] at hP
    replace hD := hD.weaken (fun _ _ _ h => hFc _ h)
    generalize H1 = H at hP hS ⊢
    refine W.eq (g2 := F0 m 34 ls [.int y9]) (by rw [hr9]) ?_
    refine lv_if_ne (pc := 34) (tgt := 39) hx hb dM_resize_34 rfl (fun h11 => ?_) (fun h11 => ?_)
    · replace hf := ite_f h11 hf
      refine lv_aload_n (pc := 39) hx hb dM_resize_39 rfl (lv_at hl 1 rfl) ?_
      refine lv_iload_n (pc := 40) hx hb dM_resize_40 rfl (lv_at hl 2 rfl) ?_
      obtain ⟨q12, hq12, eq12⟩ := at_4 (ad := ad) (ca := ca) (σ := σ10) hm0
      refine vp_callSi (pc := 41) (W.runV (As := [.int a1]) (rest := []) ⟨hx, hb, hml, hown, hts⟩ (t_M_drawingAt l dC dI ad ca dom a1 hm0 σ10 hN hC (M_drawingAt a1) rfl) (cwV 1 hts (gV wd_53 wd_54 wd_55 wd_50 wd_52) rfl rfl rfl (by decide +kernel) ⟨Nat.le_of_ble_eq_true rfl, Nat.le_of_ble_eq_true rfl⟩) ⟨hR_blind, va_recv (q := (RM, TM, 11)) (q0 := q12) (ci := 4) hK.1 hP rfl eq12, hR_pre hP hK hG⟩ rfl rfl hl.1 rfl (lv_room (Nat.le_of_ble_eq_true rfl)) dM_resize_41 ⟨Nat.le_of_ble_eq_true rfl, Nat.le_of_ble_eq_true rfl⟩) (fun r9 hr9 => ?_)
      refine W.eq (g2 := F0 m 44 ls [.int (M_drawingAt a1)]) (by rw [hr9]) ?_
      refine lv_istore (pc := 44) hx hb dM_resize_44 hl (by decide) rfl (fun ls hl => ?_)
      have hl : lv_has ls 7 [(5, .int (M_drawingAt a1)), (4, .int y2), (0, .ref (ad 4 0)), (1, .int a1), (2, .int a2), (3, .int a3)] := hl
      refine lv_aload_n (pc := 46) hx hb dM_resize_46 rfl (lv_at hl 2 rfl) ?_
      obtain ⟨q13, hq13, eq13⟩ := at_4 (ad := ad) (ca := ca) (σ := σ10) hm0
      refine va_get (D := (dC, dI)) (cl := kCl) (C := RM) (T := TM) (N := 11) (pc := 47) hx hb hts inM hown hK.1 hP q13 eq13 rfl 2 (by decide) (hts _ wd_51) (fun _ h9 => h9) rfl dM_resize_47 ?_
      refine lv_iload (pc := 50) hx hb dM_resize_50 (lv_at hl 0 rfl) ?_
      refine lv_iconst (pc := 52) (v := 2) hx hb dM_resize_52 (by decide) ?_
      refine lv_iadd (pc := 53) hx hb dM_resize_53 ?_
      obtain ⟨hv14, hf⟩ := ite_s hf
      obtain ⟨q15, hq15, eq15⟩ := at_15 (ad := ad) (ca := ca) (σ := σ10) (cm_4_2 hC hm0)
      refine va_iald (D := (dC, dI)) (cl := kCl) (pc := 54) hx hb (hK.2 15 0 .int (cm_4_2 hC hm0) rfl) hP q15 0 eq15 rfl (hv14) dM_resize_54 ?_
      refine W.eq (g2 := F0 m 55 ls [.int (xI σ10 15 0 (((M_drawingAt a1) + 2)).toNatClampNeg)]) rfl ?_
      refine lv_istore (pc := 55) hx hb dM_resize_55 hl (by decide) rfl (fun ls hl => ?_)
      have hl : lv_has ls 7 [(6, .int (xI σ10 15 0 (((M_drawingAt a1) + 2)).toNatClampNeg)), (5, .int (M_drawingAt a1)), (4, .int y2), (0, .ref (ad 4 0)), (1, .int a1), (2, .int a2), (3, .int a3)] := hl
      obtain ⟨kx23, hkx23, hf⟩ := lt_9 hf
      refine lpF (τ := (hT) × (Int32) × (Int32) × (Int32) × (Int32) × (Int32) × (Int32) × (Heap) × (List Loc) × (Array Slot)) (fun pc z => W p l e _ s m _ below meth c z.2.2.2.2.2.2.2.1 z.2.2.2.2.2.2.2.2.1 0 0 _ (F0 m pc z.2.2.2.2.2.2.2.2.2 [])) 57 83 (fun z => va_P (dC, dI) kCl (w9 ad ca dom z.1) z.2.2.2.2.2.2.2.1 ∧ va_D A (w9 ad ca dom z.1) ∧ va_S A s.heap z.2.2.2.2.2.2.2.1 z.2.2.2.2.2.2.2.2.1 ∧ clo dom z.1.2.2 ∧ lv_has z.2.2.2.2.2.2.2.2.2 7 [(6, .int z.2.1), (5, .int z.2.2.1), (4, .int z.2.2.2.1), (0, .ref (ad 4 0)), (1, .int z.2.2.2.2.1), (2, .int z.2.2.2.2.2.1), (3, .int z.2.2.2.2.2.2.1)]) (fun k z => M_resize_L57 n kx23 k z.1 z.2.1 z.2.2.1 z.2.2.2.1 z.2.2.2.2.1 z.2.2.2.2.2.1 z.2.2.2.2.2.2.1) (fun z => kx23 z.1 z.2.1 z.2.2.1 z.2.2.2.1 z.2.2.2.2.1 z.2.2.2.2.2.1 z.2.2.2.2.2.2.1) _ (fun z => rfl) ?_ ?_ n (σ10, (xI σ10 15 0 (((M_drawingAt a1) + 2)).toNatClampNeg), (M_drawingAt a1), y2, a1, a2, a3, H, _, ls) ⟨hP, hD, hS, hC, hl⟩ hf
      · rintro k ⟨σ16, p17, p18, p19, p20, p21, p22, H, locs, ls⟩ ⟨hP, hD, hS, hC, hl⟩ hf ih24 hXkx23
        dsimp only at hP hD hS hC hl hf ih24 hXkx23 ⊢
        unfold M_resize_L57 at hf
        have hl : lv_has ls 7 [(6, .int p17), (5, .int p18), (4, .int p19), (0, .ref (ad 4 0)), (1, .int p20), (2, .int p21), (3, .int p22)] := hl
        refine lv_iload (pc := 57) hx hb dM_resize_57 (lv_at hl 0 rfl) ?_
        refine lv_iload_n (pc := 59) hx hb dM_resize_59 rfl (lv_at hl 6 rfl) ?_
        refine lv_icmp_ge (pc := 60) (tgt := 83) hx hb dM_resize_60 rfl (fun h25 => ?_) (fun h25 => ?_)
        · replace hf := ite_t h25 hf
          have hl := lv_sub hl (l' := [(6, .int p17), (5, .int p18), (4, .int p19), (0, .ref (ad 4 0)), (1, .int p20), (2, .int p21), (3, .int p22)]) [0, 1, 2, 3, 4, 5, 6] rfl
          exact hXkx23 (σ16, p17, p18, p19, p20, p21, p22, H, _, ls) ⟨hP, hD, hS, hC, hl⟩ hf
        · replace hf := ite_f h25 hf
          refine lv_aload_n (pc := 63) hx hb dM_resize_63 rfl (lv_at hl 3 rfl) ?_
          obtain ⟨q26, hq26, eq26⟩ := at_4 (ad := ad) (ca := ca) (σ := σ16) hm0
          refine va_get (D := (dC, dI)) (cl := kCl) (C := RM) (T := TM) (N := 11) (pc := 64) hx hb hts inM hown hK.1 hP q26 eq26 rfl 2 (by decide) (hts _ wd_51) (fun _ h9 => h9) rfl dM_resize_64 ?_
          refine lv_iload (pc := 67) hx hb dM_resize_67 (lv_at hl 1 rfl) ?_
          refine lv_bipush (pc := 69) (v := 16) hx hb dM_resize_69 (by decide) ?_
          refine lv_iadd (pc := 71) hx hb dM_resize_71 ?_
          refine lv_iload (pc := 72) hx hb dM_resize_72 (lv_at hl 0 rfl) ?_
          refine lv_iadd (pc := 74) hx hb dM_resize_74 ?_
          refine lv_iconst (pc := 75) (v := 0) hx hb dM_resize_75 (by decide) ?_
          obtain ⟨hv28, hf⟩ := ite_s hf
          obtain ⟨q29, hq29, eq29⟩ := at_15 (ad := ad) (ca := ca) (σ := σ16) (cm_4_2 hC hm0)
          refine va_iast (D := (dC, dI)) (cl := kCl) (pc := 76) hx hb (hK.2 15 0 .int (cm_4_2 hC hm0) rfl) hP hD hS q29 0 eq29 rfl (hv28) dM_resize_76 (fun H locs hP hD hS => ?_)
          obtain ⟨σ27, hσ27, hf⟩ := lt_9 hf
          obtain ⟨hP, hD⟩ := w9_rI 15 rfl hN hq29 hσ27 (pr_15) hP hD
          have hC : clo dom σ27.2.2 := by rw [hσ27]; exact hC
          refine lv_iinc (pc := 77) (v := (p17 + 1)) hx hb dM_resize_77 hl (k := 0) rfl (by rfl) (by decide) rfl (fun ls hl => ?_)
          have hl : lv_has ls 7 [(6, .int (p17 + 1)), (5, .int p18), (4, .int p19), (0, .ref (ad 4 0)), (1, .int p20), (2, .int p21), (3, .int p22)] := hl
          refine lv_goto (pc := 80) (tgt := 57) hx hb dM_resize_80 rfl ?_
          have hl := lv_sub hl (l' := [(6, .int (p17 + 1)), (5, .int p18), (4, .int p19), (0, .ref (ad 4 0)), (1, .int p20), (2, .int p21), (3, .int p22)]) [0, 1, 2, 3, 4, 5, 6] rfl
          exact ih24 (σ27, (p17 + 1), p18, p19, p20, p21, p22, H, _, ls) ⟨hP, hD, hS, hC, hl⟩ hf
      · rintro ⟨σ16, p17, p18, p19, p20, p21, p22, H, locs, ls⟩ ⟨hP, hD, hS, hC, hl⟩ hf
        dsimp only at hP hD hS hC hl hf ⊢
        rw [hkx23] at hf
        have hl : lv_has ls 7 [(6, .int p17), (5, .int p18), (4, .int p19), (0, .ref (ad 4 0)), (1, .int p20), (2, .int p21), (3, .int p22)] := hl
        refine lv_aload_n (pc := 83) hx hb dM_resize_83 rfl (lv_at hl 3 rfl) ?_
        obtain ⟨q30, hq30, eq30⟩ := at_4 (ad := ad) (ca := ca) (σ := σ16) hm0
        refine va_get (D := (dC, dI)) (cl := kCl) (C := RM) (T := TM) (N := 11) (pc := 84) hx hb hts inM hown hK.1 hP q30 eq30 rfl 2 (by decide) (hts _ wd_51) (fun _ h9 => h9) rfl dM_resize_84 ?_
        refine lv_iload (pc := 87) hx hb dM_resize_87 (lv_at hl 1 rfl) ?_
        refine lv_iconst (pc := 89) (v := 2) hx hb dM_resize_89 (by decide) ?_
        refine lv_iadd (pc := 90) hx hb dM_resize_90 ?_
        refine lv_iload_n (pc := 91) hx hb dM_resize_91 rfl (lv_at hl 6 rfl) ?_
        obtain ⟨hv32, hf⟩ := ite_s hf
        obtain ⟨q33, hq33, eq33⟩ := at_15 (ad := ad) (ca := ca) (σ := σ16) (cm_4_2 hC hm0)
        refine va_iast (D := (dC, dI)) (cl := kCl) (pc := 92) hx hb (hK.2 15 0 .int (cm_4_2 hC hm0) rfl) hP hD hS q33 0 eq33 rfl (hv32) dM_resize_92 (fun H locs hP hD hS => ?_)
        obtain ⟨σ31, hσ31, hf⟩ := lt_9 hf
        obtain ⟨hP, hD⟩ := w9_rI 15 rfl hN hq33 hσ31 (pr_15) hP hD
        have hC : clo dom σ31.2.2 := by rw [hσ31]; exact hC
        refine lv_iconst (pc := 93) (v := 1) hx hb dM_resize_93 (by decide) ?_
        obtain ⟨h8, h9⟩ := Prod.mk.inj (Option.some.inj hf)
        subst h9
        exact W.zret (pc := 94) hx hb hr (rfl) (fun t ht hW => ⟨⟨_, (), rfl, h8, by rw [ht]; exact hP, hD, hC⟩, hS.F ht⟩) hS.2.2 dM_resize_94
    · replace hf := ite_t h11 hf
      refine lv_iconst (pc := 37) (v := 0) hx hb dM_resize_37 (by decide) ?_
      obtain ⟨h8, h9⟩ := Prod.mk.inj (Option.some.inj hf)
      subst h9
      exact W.zret (pc := 38) hx hb hr (rfl) (fun t ht hW => ⟨⟨_, (), rfl, h8, by rw [ht]; exact hP, hD, hC⟩, hS.F ht⟩) hS.2.2 dM_resize_38
def M_ref (σ : hT) (a1 : Int32) (a2 : Int32) (a3 : Int32) (a4 : Int32) (a5 : Int32) : Option (Int32 × hT) := Option.bind (M_whyNot σ a1 a2) fun y2 => lt9 (α := Int32 → Option (Int32 × hT)) (fun (s4 : Int32) => lt9 (α := Int32 → Option (Int32 × hT)) (fun (s11 : Int32) => lt9 (α := Int32 → Option (Int32 × hT)) (fun (s19 : Int32) => Option.bind (M_mayHere σ s19) fun ⟨y24, σ25⟩ => if y24 = 0 then some (0, σ25) else if in9 (((M_drawingAt a1) + 4) + (2 * a3)) 25240 then lt9 (sI σ25 15 0 ((((M_drawingAt a1) + 4) + (2 * a3))).toNatClampNeg a4) fun σ29 => if in9 ((((M_drawingAt a1) + 4) + (2 * a3)) + 1) 25240 then lt9 (sI σ29 15 0 (((((M_drawingAt a1) + 4) + (2 * a3)) + 1)).toNatClampNeg a5) fun σ33 => lt9 (α := Int32 → Option (Int32 × hT)) (fun (s38 : Int32) => if in9 ((M_drawingAt a1) + 3) 25240 then lt9 (sI σ33 15 0 (((M_drawingAt a1) + 3)).toNatClampNeg s38) fun σ40 => some (1, σ40) else none) fun x37 => if a3 = s4 then x37 (s4 + 1) else x37 s4 else none else none) fun x18 => if y2 ≤ 0 then if s11 = 0 then if a3 = 6 then x18 8 else x18 0 else x18 7 else x18 y2) fun x10 => if a3 < 0 then x10 1 else if s4 < a3 then x10 1 else Option.bind (M_isDrawing σ a4) fun y15 => if y15 = 0 then x10 1 else if (-1) ≤ a5 then x10 0 else x10 1) fun x3 => if y2 = 0 then if in9 ((M_drawingAt a1) + 3) 25240 then x3 (xI σ 15 0 (((M_drawingAt a1) + 3)).toNatClampNeg) else none else x3 0
set_option maxHeartbeats 4000000 in
set_option maxRecDepth 100000 in
theorem t_M_ref (l : Launch) (dC : Nat → ClassId) (dI : Nat → Nat → Nat) (ad : Nat → Nat → Nat) (ca : Nat → Nat → ClassId) (dom : List (Nat × Nat)) (sz : Nat) (σ : hT) (a1 : Int32) (a2 : Int32) (a3 : Int32) (a4 : Int32) (a5 : Int32) (hm0 : (4, 0) ∈ dom) (hN : dom.Nodup) (hC : clo dom σ.2.2) (ρ : Int32) (σ' : hT) (hf : M_ref σ a1 a2 a3 a4 a5 = some (ρ, σ')) : Met l yM_ref (.code yM_ref cM_ref 11 (some .boolean) :: aw) ({ frames := 3, cells := 0, slots := 0, locals := 65 }) (hW (dC, dI) sz ad ca dom σ [.ref (ad 4 0), .int a1, .int a2, .int a3, .int a4, .int a5]) (va_Qi (fun r (_ : Unit) => r = ρ) (fun _ t => hB (dC, dI) (va_A (w9 ad ca dom σ) sz) ad ca dom σ' t) (va_A (w9 ad ca dom σ) sz)) 0 0 (va_A (w9 ad ca dom σ) sz) := by
  refine Met.ofW (cc := cM_ref) (maxL := 11) (ret := (some .boolean)) (by decide) rfl ?_
  intro p e s m args below meth c s₁ B hml hv
  obtain ⟨rfl, hv⟩ := hv
  have hx := B.exec
  have hb := B.bytes
  have hr := B.returns
  have hts : ∀ w ∈ aw, w.before _ s = true := fun w h => atoms_spec (ws := (.code yM_ref cM_ref 11 (some .boolean) :: aw)) B.pre w (List.mem_cons_of_mem _ h)
  have hown : s.vm.findClass RM = some m.cls := findClass_of_methodNamed B.named
  have hlocks := B.notSynchronized
  obtain ⟨hsz, hP, hK, hD0, hG⟩ := hv
  subst hsz
  have hD := hD0.self (sz := s.heap.size)
  generalize hAe : va_A (w9 ad ca dom σ) s.heap.size = A at hD ⊢
  have hA : ∀ q : Nat, s.heap.size ≤ q → A q := fun q h => by rw [← hAe]; exact Or.inr h
  obtain ⟨H, hH⟩ : ∃ H, H = s.heap := ⟨_, rfl⟩
  have hS : va_S A s.heap H [] := by rw [hH]; exact va_S.rf
  rw [← hH] at hP ⊢
  unfold M_ref at hf
  have hl := lv_entry ([.ref (ad 4 0), .int a1, .int a2, .int a3, .int a4, .int a5]) (n := 11) (Nat.le_of_ble_eq_true rfl)
  rw [lg_entry_eq]
  generalize (lg_sl ([.ref (ad 4 0), .int a1, .int a2, .int a3, .int a4, .int a5]) ++ List.replicate (11 - (lg_sl ([.ref (ad 4 0), .int a1, .int a2, .int a3, .int a4, .int a5])).length) Slot.unset).toArray = ls at hl ⊢
  have hl : lv_has ls 11 [(0, .ref (ad 4 0)), (1, .int a1), (2, .int a2), (3, .int a3), (4, .int a4), (5, .int a5)] := hl
  refine lv_aload_n (pc := 0) hx hb dM_ref_0 rfl (lv_at hl 0 rfl) ?_
  refine lv_iload_n (pc := 1) hx hb dM_ref_1 rfl (lv_at hl 1 rfl) ?_
  refine lv_iload_n (pc := 2) hx hb dM_ref_2 rfl (lv_at hl 2 rfl) ?_
  obtain ⟨q1, hq1, eq1⟩ := at_4 (ad := ad) (ca := ca) (σ := σ) hm0
  obtain ⟨y2, hy2, hf⟩ := ob hf
  refine vp_callSi (pc := 3) (W.runV (As := [.int a1, .int a2]) (rest := []) ⟨hx, hb, hml, hown, hts⟩ (t_M_whyNot l dC dI ad ca dom σ a1 a2 hm0 hN hC y2 hy2) (cwV 2 hts (gV wd_163 wd_164 wd_165 wd_50 wd_162) rfl rfl rfl (by decide +kernel) ⟨Nat.le_of_ble_eq_true rfl, Nat.le_of_ble_eq_true rfl⟩) ⟨hR_blind, va_recv (q := (RM, TM, 11)) (q0 := q1) (ci := 4) hK.1 hP rfl eq1, hR_pre hP hK hG⟩ rfl rfl hl.1 rfl (lv_room (Nat.le_of_ble_eq_true rfl)) dM_ref_3 ⟨Nat.le_of_ble_eq_true rfl, Nat.le_of_ble_eq_true rfl⟩) (fun r9 hr9 => ?_)
  refine W.eq (g2 := F0 m 6 ls [.int y2]) (by rw [hr9]) ?_
  refine lv_istore (pc := 6) hx hb dM_ref_6 hl (by decide) rfl (fun ls hl => ?_)
  have hl : lv_has ls 11 [(6, .int y2), (0, .ref (ad 4 0)), (1, .int a1), (2, .int a2), (3, .int a3), (4, .int a4), (5, .int a5)] := hl
  refine lv_iload (pc := 8) hx hb dM_ref_8 (lv_at hl 0 rfl) ?_
  obtain ⟨x3, hx3, hf⟩ := lt_9 hf
  refine jnF (τ := (Int32) × (Heap) × (List Loc) × (Array Slot)) (fun pc st z => W p l e _ s m _ below meth c z.2.1 z.2.2.1 0 0 _ (F0 m pc z.2.2.2 st)) (pc0 := 10) (st0 := [.int y2]) (z0 := (0, H, _, ls)) 29 (fun z => [.int z.1]) (fun z => va_P (dC, dI) kCl (w9 ad ca dom (σ)) z.2.1 ∧ va_D A (w9 ad ca dom (σ)) ∧ va_S A s.heap z.2.1 z.2.2.1 ∧ lv_has z.2.2.2 11 [(6, .int y2), (0, .ref (ad 4 0)), (1, .int a1), (2, .int a2), (3, .int a3), (4, .int a4), (5, .int a5)]) (fun z => x3 z.1) (ρ, σ') ?_ ?_
  · intro hJx3
    dsimp only at hJx3 ⊢
    refine lv_if_ne (pc := 10) (tgt := 28) hx hb dM_ref_10 rfl (fun h5 => ?_) (fun h5 => ?_)
    · replace hf := ite_f h5 hf
      refine lv_iconst (pc := 28) (v := 0) hx hb dM_ref_28 (by decide) ?_
      have hl := lv_sub hl (l' := [(6, .int y2), (0, .ref (ad 4 0)), (1, .int a1), (2, .int a2), (3, .int a3), (4, .int a4), (5, .int a5)]) [0, 1, 2, 3, 4, 5, 6] rfl
      exact hJx3 (0, H, _, ls) ⟨hP, hD, hS, hl⟩ hf
    · replace hf := ite_t h5 hf
      refine lv_aload_n (pc := 13) hx hb dM_ref_13 rfl (lv_at hl 1 rfl) ?_
      obtain ⟨q6, hq6, eq6⟩ := at_4 (ad := ad) (ca := ca) (σ := σ) hm0
      refine va_get (D := (dC, dI)) (cl := kCl) (C := RM) (T := TM) (N := 11) (pc := 14) hx hb hts inM hown hK.1 hP q6 eq6 rfl 2 (by decide) (hts _ wd_51) (fun _ h9 => h9) rfl dM_ref_14 ?_
      refine lv_aload_n (pc := 17) hx hb dM_ref_17 rfl (lv_at hl 1 rfl) ?_
      refine lv_iload_n (pc := 18) hx hb dM_ref_18 rfl (lv_at hl 2 rfl) ?_
      obtain ⟨q7, hq7, eq7⟩ := at_4 (ad := ad) (ca := ca) (σ := σ) hm0
      refine vp_callSi (pc := 19) (W.runV (As := [.int a1]) (rest := [.ref (ad 15 0)]) ⟨hx, hb, hml, hown, hts⟩ (t_M_drawingAt l dC dI ad ca dom a1 hm0 σ hN hC (M_drawingAt a1) rfl) (cwV 1 hts (gV wd_53 wd_54 wd_55 wd_50 wd_52) rfl rfl rfl (by decide +kernel) ⟨Nat.le_of_ble_eq_true rfl, Nat.le_of_ble_eq_true rfl⟩) ⟨hR_blind, va_recv (q := (RM, TM, 11)) (q0 := q7) (ci := 4) hK.1 hP rfl eq7, hR_pre hP hK hG⟩ rfl rfl hl.1 rfl (lv_room (Nat.le_of_ble_eq_true rfl)) dM_ref_19 ⟨Nat.le_of_ble_eq_true rfl, Nat.le_of_ble_eq_true rfl⟩) (fun r9 hr9 => ?_)
      refine W.eq (g2 := F0 m 22 ls [.int (M_drawingAt a1), .ref (ad 15 0)]) (by rw [hr9]) ?_
      refine lv_iconst (pc := 22) (v := 3) hx hb dM_ref_22 (by decide) ?_
      refine lv_iadd (pc := 23) hx hb dM_ref_23 ?_
      obtain ⟨hv8, hf⟩ := ite_s hf
      obtain ⟨q9, hq9, eq9⟩ := at_15 (ad := ad) (ca := ca) (σ := σ) (cm_4_2 hC hm0)
      refine va_iald (D := (dC, dI)) (cl := kCl) (pc := 24) hx hb (hK.2 15 0 .int (cm_4_2 hC hm0) rfl) hP q9 0 eq9 rfl (hv8) dM_ref_24 ?_
      refine W.eq (g2 := F0 m 25 ls [.int (xI σ 15 0 (((M_drawingAt a1) + 3)).toNatClampNeg)]) rfl ?_
      refine lv_goto (pc := 25) (tgt := 29) hx hb dM_ref_25 rfl ?_
      have hl := lv_sub hl (l' := [(6, .int y2), (0, .ref (ad 4 0)), (1, .int a1), (2, .int a2), (3, .int a3), (4, .int a4), (5, .int a5)]) [0, 1, 2, 3, 4, 5, 6] rfl
      exact hJx3 ((xI σ 15 0 (((M_drawingAt a1) + 3)).toNatClampNeg), H, _, ls) ⟨hP, hD, hS, hl⟩ hf
  · rintro ⟨s4, H, locs, ls⟩ ⟨hP, hD, hS, hl⟩ hf
    dsimp only at hP hD hS hl hf ⊢
    rw [hx3] at hf
    have hl : lv_has ls 11 [(6, .int y2), (0, .ref (ad 4 0)), (1, .int a1), (2, .int a2), (3, .int a3), (4, .int a4), (5, .int a5)] := hl
    refine lv_istore (pc := 29) hx hb dM_ref_29 hl (by decide) rfl (fun ls hl => ?_)
    have hl : lv_has ls 11 [(7, .int s4), (6, .int y2), (0, .ref (ad 4 0)), (1, .int a1), (2, .int a2), (3, .int a3), (4, .int a4), (5, .int a5)] := hl
    refine lv_iload_n (pc := 31) hx hb dM_ref_31 rfl (lv_at hl 5 rfl) ?_
    obtain ⟨x10, hx10, hf⟩ := lt_9 hf
    refine jnF (τ := (Int32) × (Heap) × (List Loc) × (Array Slot)) (fun pc st z => W p l e _ s m _ below meth c z.2.1 z.2.2.1 0 0 _ (F0 m pc z.2.2.2 st)) (pc0 := 32) (st0 := [.int a3]) (z0 := (0, H, _, ls)) 61 (fun z => [.int z.1]) (fun z => va_P (dC, dI) kCl (w9 ad ca dom (σ)) z.2.1 ∧ va_D A (w9 ad ca dom (σ)) ∧ va_S A s.heap z.2.1 z.2.2.1 ∧ lv_has z.2.2.2 11 [(7, .int s4), (6, .int y2), (0, .ref (ad 4 0)), (1, .int a1), (2, .int a2), (3, .int a3), (4, .int a4), (5, .int a5)]) (fun z => x10 z.1) (ρ, σ') ?_ ?_
    · intro hJx10
      dsimp only at hJx10 ⊢
      refine lv_if_lt (pc := 32) (tgt := 56) hx hb dM_ref_32 rfl (fun h12 => ?_) (fun h12 => ?_)
      · replace hf := ite_t h12 hf
        refine lv_iconst (pc := 56) (v := 1) hx hb dM_ref_56 (by decide) ?_
        refine lv_goto (pc := 57) (tgt := 61) hx hb dM_ref_57 rfl ?_
        have hl := lv_sub hl (l' := [(7, .int s4), (6, .int y2), (0, .ref (ad 4 0)), (1, .int a1), (2, .int a2), (3, .int a3), (4, .int a4), (5, .int a5)]) [0, 1, 2, 3, 4, 5, 6, 7] rfl
        exact hJx10 (1, H, _, ls) ⟨hP, hD, hS, hl⟩ hf
      · replace hf := ite_f h12 hf
        refine lv_iload_n (pc := 35) hx hb dM_ref_35 rfl (lv_at hl 5 rfl) ?_
        refine lv_iload (pc := 36) hx hb dM_ref_36 (lv_at hl 0 rfl) ?_
        refine lv_icmp_gt (pc := 38) (tgt := 56) hx hb dM_ref_38 rfl (fun h13 => ?_) (fun h13 => ?_)
        · replace hf := ite_t h13 hf
          refine lv_iconst (pc := 56) (v := 1) hx hb dM_ref_56 (by decide) ?_
          refine lv_goto (pc := 57) (tgt := 61) hx hb dM_ref_57 rfl ?_
          have hl := lv_sub hl (l' := [(7, .int s4), (6, .int y2), (0, .ref (ad 4 0)), (1, .int a1), (2, .int a2), (3, .int a3), (4, .int a4), (5, .int a5)]) [0, 1, 2, 3, 4, 5, 6, 7] rfl
          exact hJx10 (1, H, _, ls) ⟨hP, hD, hS, hl⟩ hf
        · replace hf := ite_f h13 hf
          refine lv_aload_n (pc := 41) hx hb dM_ref_41 rfl (lv_at hl 2 rfl) ?_
          refine lv_iload (pc := 42) hx hb dM_ref_42 (lv_at hl 6 rfl) ?_
          obtain ⟨q14, hq14, eq14⟩ := at_4 (ad := ad) (ca := ca) (σ := σ) hm0
          obtain ⟨y15, hy15, hf⟩ := ob hf
          refine vp_callSi (pc := 44) (W.runV (As := [.int a4]) (rest := []) ⟨hx, hb, hml, hown, hts⟩ (t_M_isDrawing l dC dI ad ca dom σ a4 hm0 hN hC y15 hy15) (cwV 1 hts (gV wd_57 wd_58 wd_59 wd_50 wd_56) rfl rfl rfl (by decide +kernel) ⟨Nat.le_of_ble_eq_true rfl, Nat.le_of_ble_eq_true rfl⟩) ⟨hR_blind, va_recv (q := (RM, TM, 11)) (q0 := q14) (ci := 4) hK.1 hP rfl eq14, hR_pre hP hK hG⟩ rfl rfl hl.1 rfl (lv_room (Nat.le_of_ble_eq_true rfl)) dM_ref_44 ⟨Nat.le_of_ble_eq_true rfl, Nat.le_of_ble_eq_true rfl⟩) (fun r9 hr9 => ?_)
          refine W.eq (g2 := F0 m 47 ls [.int y15]) (by rw [hr9]) ?_
          refine lv_if_eq (pc := 47) (tgt := 56) hx hb dM_ref_47 rfl (fun h16 => ?_) (fun h16 => ?_)
          · replace hf := ite_t h16 hf
            refine lv_iconst (pc := 56) (v := 1) hx hb dM_ref_56 (by decide) ?_
            refine lv_goto (pc := 57) (tgt := 61) hx hb dM_ref_57 rfl ?_
            have hl := lv_sub hl (l' := [(7, .int s4), (6, .int y2), (0, .ref (ad 4 0)), (1, .int a1), (2, .int a2), (3, .int a3), (4, .int a4), (5, .int a5)]) [0, 1, 2, 3, 4, 5, 6, 7] rfl
            exact hJx10 (1, H, _, ls) ⟨hP, hD, hS, hl⟩ hf
          · replace hf := ite_f h16 hf
            refine lv_iload (pc := 50) hx hb dM_ref_50 (lv_at hl 7 rfl) ?_
            refine lv_iconst (pc := 52) (v := (-1)) hx hb dM_ref_52 (by decide) ?_
            refine lv_icmp_ge (pc := 53) (tgt := 60) hx hb dM_ref_53 rfl (fun h17 => ?_) (fun h17 => ?_)
            · replace hf := ite_t h17 hf
              refine lv_iconst (pc := 60) (v := 0) hx hb dM_ref_60 (by decide) ?_
              have hl := lv_sub hl (l' := [(7, .int s4), (6, .int y2), (0, .ref (ad 4 0)), (1, .int a1), (2, .int a2), (3, .int a3), (4, .int a4), (5, .int a5)]) [0, 1, 2, 3, 4, 5, 6, 7] rfl
              exact hJx10 (0, H, _, ls) ⟨hP, hD, hS, hl⟩ hf
            · replace hf := ite_f h17 hf
              refine lv_iconst (pc := 56) (v := 1) hx hb dM_ref_56 (by decide) ?_
              refine lv_goto (pc := 57) (tgt := 61) hx hb dM_ref_57 rfl ?_
              have hl := lv_sub hl (l' := [(7, .int s4), (6, .int y2), (0, .ref (ad 4 0)), (1, .int a1), (2, .int a2), (3, .int a3), (4, .int a4), (5, .int a5)]) [0, 1, 2, 3, 4, 5, 6, 7] rfl
              exact hJx10 (1, H, _, ls) ⟨hP, hD, hS, hl⟩ hf
    · rintro ⟨s11, H, locs, ls⟩ ⟨hP, hD, hS, hl⟩ hf
      dsimp only at hP hD hS hl hf ⊢
      rw [hx10] at hf
      have hl : lv_has ls 11 [(7, .int s4), (6, .int y2), (0, .ref (ad 4 0)), (1, .int a1), (2, .int a2), (3, .int a3), (4, .int a4), (5, .int a5)] := hl
      refine lv_istore (pc := 61) hx hb dM_ref_61 hl (by decide) rfl (fun ls hl => ?_)
      have hl : lv_has ls 11 [(8, .int s11), (7, .int s4), (6, .int y2), (0, .ref (ad 4 0)), (1, .int a1), (2, .int a2), (3, .int a3), (4, .int a4), (5, .int a5)] := hl
      refine lv_iload (pc := 63) hx hb dM_ref_63 (lv_at hl 2 rfl) ?_
      obtain ⟨x18, hx18, hf⟩ := lt_9 hf
      refine jnF (τ := (Int32) × (Heap) × (List Loc) × (Array Slot)) (fun pc st z => W p l e _ s m _ below meth c z.2.1 z.2.2.1 0 0 _ (F0 m pc z.2.2.2 st)) (pc0 := 65) (st0 := [.int y2]) (z0 := (0, H, _, ls)) 95 (fun z => [.int z.1]) (fun z => va_P (dC, dI) kCl (w9 ad ca dom (σ)) z.2.1 ∧ va_D A (w9 ad ca dom (σ)) ∧ va_S A s.heap z.2.1 z.2.2.1 ∧ lv_has z.2.2.2 11 [(8, .int s11), (7, .int s4), (6, .int y2), (0, .ref (ad 4 0)), (1, .int a1), (2, .int a2), (3, .int a3), (4, .int a4), (5, .int a5)]) (fun z => x18 z.1) (ρ, σ') ?_ ?_
      · intro hJx18
        dsimp only at hJx18 ⊢
        refine lv_if_le (pc := 65) (tgt := 73) hx hb dM_ref_65 rfl (fun h20 => ?_) (fun h20 => ?_)
        · replace hf := ite_t h20 hf
          refine lv_iload (pc := 73) hx hb dM_ref_73 (lv_at hl 0 rfl) ?_
          refine lv_if_eq (pc := 75) (tgt := 83) hx hb dM_ref_75 rfl (fun h21 => ?_) (fun h21 => ?_)
          · replace hf := ite_t h21 hf
            refine lv_iload_n (pc := 83) hx hb dM_ref_83 rfl (lv_at hl 6 rfl) ?_
            refine lv_bipush (pc := 84) (v := 6) hx hb dM_ref_84 (by decide) ?_
            refine lv_icmp_ne (pc := 86) (tgt := 94) hx hb dM_ref_86 rfl (fun h22 => ?_) (fun h22 => ?_)
            · replace hf := ite_f h22 hf
              refine lv_iconst (pc := 94) (v := 0) hx hb dM_ref_94 (by decide) ?_
              have hl := lv_sub hl (l' := [(8, .int s11), (7, .int s4), (6, .int y2), (0, .ref (ad 4 0)), (1, .int a1), (2, .int a2), (3, .int a3), (4, .int a4), (5, .int a5)]) [0, 1, 2, 3, 4, 5, 6, 7, 8] rfl
              exact hJx18 (0, H, _, ls) ⟨hP, hD, hS, hl⟩ hf
            · replace hf := ite_t h22 hf
              refine lv_bipush (pc := 89) (v := 8) hx hb dM_ref_89 (by decide) ?_
              refine lv_goto (pc := 91) (tgt := 95) hx hb dM_ref_91 rfl ?_
              have hl := lv_sub hl (l' := [(8, .int s11), (7, .int s4), (6, .int y2), (0, .ref (ad 4 0)), (1, .int a1), (2, .int a2), (3, .int a3), (4, .int a4), (5, .int a5)]) [0, 1, 2, 3, 4, 5, 6, 7, 8] rfl
              exact hJx18 (8, H, _, ls) ⟨hP, hD, hS, hl⟩ hf
          · replace hf := ite_f h21 hf
            refine lv_bipush (pc := 78) (v := 7) hx hb dM_ref_78 (by decide) ?_
            refine lv_goto (pc := 80) (tgt := 95) hx hb dM_ref_80 rfl ?_
            have hl := lv_sub hl (l' := [(8, .int s11), (7, .int s4), (6, .int y2), (0, .ref (ad 4 0)), (1, .int a1), (2, .int a2), (3, .int a3), (4, .int a4), (5, .int a5)]) [0, 1, 2, 3, 4, 5, 6, 7, 8] rfl
            exact hJx18 (7, H, _, ls) ⟨hP, hD, hS, hl⟩ hf
        · replace hf := ite_f h20 hf
          refine lv_iload (pc := 68) hx hb dM_ref_68 (lv_at hl 2 rfl) ?_
          refine lv_goto (pc := 70) (tgt := 95) hx hb dM_ref_70 rfl ?_
          have hl := lv_sub hl (l' := [(8, .int s11), (7, .int s4), (6, .int y2), (0, .ref (ad 4 0)), (1, .int a1), (2, .int a2), (3, .int a3), (4, .int a4), (5, .int a5)]) [0, 1, 2, 3, 4, 5, 6, 7, 8] rfl
          exact hJx18 (y2, H, _, ls) ⟨hP, hD, hS, hl⟩ hf
      · rintro ⟨s19, H, locs, ls⟩ ⟨hP, hD, hS, hl⟩ hf
        dsimp only at hP hD hS hl hf ⊢
        rw [hx18] at hf
        have hl : lv_has ls 11 [(8, .int s11), (7, .int s4), (6, .int y2), (0, .ref (ad 4 0)), (1, .int a1), (2, .int a2), (3, .int a3), (4, .int a4), (5, .int a5)] := hl
        refine lv_istore (pc := 95) hx hb dM_ref_95 hl (by decide) rfl (fun ls hl => ?_)
        have hl : lv_has ls 11 [(9, .int s19), (8, .int s11), (7, .int s4), (6, .int y2), (0, .ref (ad 4 0)), (1, .int a1), (2, .int a2), (3, .int a3), (4, .int a4), (5, .int a5)] := hl
        refine lv_aload_n (pc := 97) hx hb dM_ref_97 rfl (lv_at hl 4 rfl) ?_
        refine lv_iload (pc := 98) hx hb dM_ref_98 (lv_at hl 0 rfl) ?_
        obtain ⟨q23, hq23, eq23⟩ := at_4 (ad := ad) (ca := ca) (σ := σ) hm0
        obtain ⟨⟨y24, σ25⟩, hy24, hf⟩ := ob hf
        have hFc := w9_free hD hS hA
        refine va_calli (pc := 100) (va_runV (As := [.int s19]) (rest := []) ⟨hx, hb, hml, hown, hts⟩ (t_M_mayHere l dC dI ad ca dom H.size σ s19 hm0 hN hC y24 σ25 hy24) (cwV 1 hts (gV wd_167 wd_168 wd_169 wd_50 wd_166) rfl rfl rfl (by decide +kernel) ⟨Nat.le_of_ble_eq_true rfl, Nat.le_of_ble_eq_true rfl⟩) ⟨hW_blind, va_recv (q := (RM, TM, 11)) (q0 := q23) (ci := 4) hK.1 hP rfl eq23, hW_pre hP hK hD hG⟩ rfl rfl hl.1 rfl (lv_room (Nat.le_of_ble_eq_true rfl)) dM_ref_100 ⟨Nat.le_of_ble_eq_true rfl, Nat.le_of_ble_eq_true rfl⟩) hS (fun q _ h => hFc q h) hFc (fun r9 u t H1 locs ht hvm hr9 hB hz1 hk1 hS => ?_)
        obtain ⟨hP, hD, hC⟩ := hB
        rw [ht] at hP
        replace hD := hD.weaken (fun _ _ _ h => hFc _ h)
        generalize H1 = H at hP hS ⊢
        refine W.eq (g2 := F0 m 103 ls [.int y24]) (by rw [hr9]) ?_
        refine lv_if_ne (pc := 103) (tgt := 108) hx hb dM_ref_103 rfl (fun h26 => ?_) (fun h26 => ?_)
        · replace hf := ite_f h26 hf
          refine lv_aload_n (pc := 108) hx hb dM_ref_108 rfl (lv_at hl 4 rfl) ?_
          refine lv_iload_n (pc := 109) hx hb dM_ref_109 rfl (lv_at hl 5 rfl) ?_
          obtain ⟨q27, hq27, eq27⟩ := at_4 (ad := ad) (ca := ca) (σ := σ25) hm0
          refine vp_callSi (pc := 110) (W.runV (As := [.int a1]) (rest := []) ⟨hx, hb, hml, hown, hts⟩ (t_M_drawingAt l dC dI ad ca dom a1 hm0 σ25 hN hC (M_drawingAt a1) rfl) (cwV 1 hts (gV wd_53 wd_54 wd_55 wd_50 wd_52) rfl rfl rfl (by decide +kernel) ⟨Nat.le_of_ble_eq_true rfl, Nat.le_of_ble_eq_true rfl⟩) ⟨hR_blind, va_recv (q := (RM, TM, 11)) (q0 := q27) (ci := 4) hK.1 hP rfl eq27, hR_pre hP hK hG⟩ rfl rfl hl.1 rfl (lv_room (Nat.le_of_ble_eq_true rfl)) dM_ref_110 ⟨Nat.le_of_ble_eq_true rfl, Nat.le_of_ble_eq_true rfl⟩) (fun r9 hr9 => ?_)
          refine W.eq (g2 := F0 m 113 ls [.int (M_drawingAt a1)]) (by rw [hr9]) ?_
          refine lv_istore (pc := 113) hx hb dM_ref_113 hl (by decide) rfl (fun ls hl => ?_)
          have hl : lv_has ls 11 [(10, .int (M_drawingAt a1)), (9, .int s19), (8, .int s11), (7, .int s4), (6, .int y2), (0, .ref (ad 4 0)), (1, .int a1), (2, .int a2), (3, .int a3), (4, .int a4), (5, .int a5)] := hl
          refine lv_aload_n (pc := 115) hx hb dM_ref_115 rfl (lv_at hl 5 rfl) ?_
          obtain ⟨q28, hq28, eq28⟩ := at_4 (ad := ad) (ca := ca) (σ := σ25) hm0
          refine va_get (D := (dC, dI)) (cl := kCl) (C := RM) (T := TM) (N := 11) (pc := 116) hx hb hts inM hown hK.1 hP q28 eq28 rfl 2 (by decide) (hts _ wd_51) (fun _ h9 => h9) rfl dM_ref_116 ?_
          refine lv_iload (pc := 119) hx hb dM_ref_119 (lv_at hl 0 rfl) ?_
          refine lv_iconst (pc := 121) (v := 4) hx hb dM_ref_121 (by decide) ?_
          refine lv_iadd (pc := 122) hx hb dM_ref_122 ?_
          refine lv_iconst (pc := 123) (v := 2) hx hb dM_ref_123 (by decide) ?_
          refine lv_iload_n (pc := 124) hx hb dM_ref_124 rfl (lv_at hl 8 rfl) ?_
          refine lv_imul (pc := 125) hx hb dM_ref_125 ?_
          refine lv_iadd (pc := 126) hx hb dM_ref_126 ?_
          refine lv_iload (pc := 127) hx hb dM_ref_127 (lv_at hl 9 rfl) ?_
          obtain ⟨hv30, hf⟩ := ite_s hf
          obtain ⟨q31, hq31, eq31⟩ := at_15 (ad := ad) (ca := ca) (σ := σ25) (cm_4_2 hC hm0)
          refine va_iast (D := (dC, dI)) (cl := kCl) (pc := 129) hx hb (hK.2 15 0 .int (cm_4_2 hC hm0) rfl) hP hD hS q31 0 eq31 rfl (hv30) dM_ref_129 (fun H locs hP hD hS => ?_)
          obtain ⟨σ29, hσ29, hf⟩ := lt_9 hf
          obtain ⟨hP, hD⟩ := w9_rI 15 rfl hN hq31 hσ29 (pr_15) hP hD
          have hC : clo dom σ29.2.2 := by rw [hσ29]; exact hC
          refine lv_aload_n (pc := 130) hx hb dM_ref_130 rfl (lv_at hl 5 rfl) ?_
          obtain ⟨q32, hq32, eq32⟩ := at_4 (ad := ad) (ca := ca) (σ := σ29) hm0
          refine va_get (D := (dC, dI)) (cl := kCl) (C := RM) (T := TM) (N := 11) (pc := 131) hx hb hts inM hown hK.1 hP q32 eq32 rfl 2 (by decide) (hts _ wd_51) (fun _ h9 => h9) rfl dM_ref_131 ?_
          refine lv_iload (pc := 134) hx hb dM_ref_134 (lv_at hl 0 rfl) ?_
          refine lv_iconst (pc := 136) (v := 4) hx hb dM_ref_136 (by decide) ?_
          refine lv_iadd (pc := 137) hx hb dM_ref_137 ?_
          refine lv_iconst (pc := 138) (v := 2) hx hb dM_ref_138 (by decide) ?_
          refine lv_iload_n (pc := 139) hx hb dM_ref_139 rfl (lv_at hl 8 rfl) ?_
          refine lv_imul (pc := 140) hx hb dM_ref_140 ?_
          refine lv_iadd (pc := 141) hx hb dM_ref_141 ?_
          refine lv_iconst (pc := 142) (v := 1) hx hb dM_ref_142 (by decide) ?_
          refine lv_iadd (pc := 143) hx hb dM_ref_143 ?_
          refine lv_iload (pc := 144) hx hb dM_ref_144 (lv_at hl 10 rfl) ?_
          obtain ⟨hv34, hf⟩ := ite_s hf
          obtain ⟨q35, hq35, eq35⟩ := at_15 (ad := ad) (ca := ca) (σ := σ29) (cm_4_2 hC hm0)
          refine va_iast (D := (dC, dI)) (cl := kCl) (pc := 146) hx hb (hK.2 15 0 .int (cm_4_2 hC hm0) rfl) hP hD hS q35 0 eq35 rfl (hv34) dM_ref_146 (fun H locs hP hD hS => ?_)
          obtain ⟨σ33, hσ33, hf⟩ := lt_9 hf
          obtain ⟨hP, hD⟩ := w9_rI 15 rfl hN hq35 hσ33 (pr_15) hP hD
          have hC : clo dom σ33.2.2 := by rw [hσ33]; exact hC
          refine lv_aload_n (pc := 147) hx hb dM_ref_147 rfl (lv_at hl 5 rfl) ?_
          obtain ⟨q36, hq36, eq36⟩ := at_4 (ad := ad) (ca := ca) (σ := σ33) hm0
          refine va_get (D := (dC, dI)) (cl := kCl) (C := RM) (T := TM) (N := 11) (pc := 148) hx hb hts inM hown hK.1 hP q36 eq36 rfl 2 (by decide) (hts _ wd_51) (fun _ h9 => h9) rfl dM_ref_148 ?_
          refine lv_iload (pc := 151) hx hb dM_ref_151 (lv_at hl 0 rfl) ?_
          refine lv_iconst (pc := 153) (v := 3) hx hb dM_ref_153 (by decide) ?_
          refine lv_iadd (pc := 154) hx hb dM_ref_154 ?_
          refine lv_iload_n (pc := 155) hx hb dM_ref_155 rfl (lv_at hl 8 rfl) ?_
          refine lv_iload (pc := 156) hx hb dM_ref_156 (lv_at hl 3 rfl) ?_
          obtain ⟨x37, hx37, hf⟩ := lt_9 hf
          refine jnF (τ := (Int32) × (Heap) × (List Loc) × (Array Slot)) (fun pc st z => W p l e _ s m _ below meth c z.2.1 z.2.2.1 0 0 _ (F0 m pc z.2.2.2 st)) (pc0 := 158) (st0 := [.int s4, .int a3, .int ((M_drawingAt a1) + 3), .ref (ad 15 0)]) (z0 := (0, H, _, ls)) 170 (fun z => [.int z.1, .int ((M_drawingAt a1) + 3), .ref (ad 15 0)]) (fun z => va_P (dC, dI) kCl (w9 ad ca dom (σ33)) z.2.1 ∧ va_D A (w9 ad ca dom (σ33)) ∧ va_S A s.heap z.2.1 z.2.2.1 ∧ lv_has z.2.2.2 11 [(10, .int (M_drawingAt a1)), (9, .int s19), (8, .int s11), (7, .int s4), (6, .int y2), (0, .ref (ad 4 0)), (1, .int a1), (2, .int a2), (3, .int a3), (4, .int a4), (5, .int a5)]) (fun z => x37 z.1) (ρ, σ') ?_ ?_
          · intro hJx37
            dsimp only at hJx37 ⊢
            refine lv_icmp_ne (pc := 158) (tgt := 168) hx hb dM_ref_158 rfl (fun h39 => ?_) (fun h39 => ?_)
            · replace hf := ite_f h39 hf
              refine lv_iload (pc := 168) hx hb dM_ref_168 (lv_at hl 3 rfl) ?_
              have hl := lv_sub hl (l' := [(10, .int (M_drawingAt a1)), (9, .int s19), (8, .int s11), (7, .int s4), (6, .int y2), (0, .ref (ad 4 0)), (1, .int a1), (2, .int a2), (3, .int a3), (4, .int a4), (5, .int a5)]) [0, 1, 2, 3, 4, 5, 6, 7, 8, 9, 10] rfl
              exact hJx37 (s4, H, _, ls) ⟨hP, hD, hS, hl⟩ hf
            · replace hf := ite_t h39 hf
              refine lv_iload (pc := 161) hx hb dM_ref_161 (lv_at hl 3 rfl) ?_
              refine lv_iconst (pc := 163) (v := 1) hx hb dM_ref_163 (by decide) ?_
              refine lv_iadd (pc := 164) hx hb dM_ref_164 ?_
              refine lv_goto (pc := 165) (tgt := 170) hx hb dM_ref_165 rfl ?_
              have hl := lv_sub hl (l' := [(10, .int (M_drawingAt a1)), (9, .int s19), (8, .int s11), (7, .int s4), (6, .int y2), (0, .ref (ad 4 0)), (1, .int a1), (2, .int a2), (3, .int a3), (4, .int a4), (5, .int a5)]) [0, 1, 2, 3, 4, 5, 6, 7, 8, 9, 10] rfl
              exact hJx37 ((s4 + 1), H, _, ls) ⟨hP, hD, hS, hl⟩ hf
          · rintro ⟨s38, H, locs, ls⟩ ⟨hP, hD, hS, hl⟩ hf
            dsimp only at hP hD hS hl hf ⊢
            rw [hx37] at hf
            have hl : lv_has ls 11 [(10, .int (M_drawingAt a1)), (9, .int s19), (8, .int s11), (7, .int s4), (6, .int y2), (0, .ref (ad 4 0)), (1, .int a1), (2, .int a2), (3, .int a3), (4, .int a4), (5, .int a5)] := hl
            obtain ⟨hv41, hf⟩ := ite_s hf
            obtain ⟨q42, hq42, eq42⟩ := at_15 (ad := ad) (ca := ca) (σ := σ33) (cm_4_2 hC hm0)
            refine va_iast (D := (dC, dI)) (cl := kCl) (pc := 170) hx hb (hK.2 15 0 .int (cm_4_2 hC hm0) rfl) hP hD hS q42 0 eq42 rfl (hv41) dM_ref_170 (fun H locs hP hD hS => ?_)
            obtain ⟨σ40, hσ40, hf⟩ := lt_9 hf
            obtain ⟨hP, hD⟩ := w9_rI 15 rfl hN hq42 hσ40 (pr_15) hP hD
            have hC : clo dom σ40.2.2 := by rw [hσ40]; exact hC
            refine lv_iconst (pc := 171) (v := 1) hx hb dM_ref_171 (by decide) ?_
            obtain ⟨h8, h9⟩ := Prod.mk.inj (Option.some.inj hf)
            subst h9
            exact W.zret (pc := 172) hx hb hr (rfl) (fun t ht hW => ⟨⟨_, (), rfl, h8, by rw [ht]; exact hP, hD, hC⟩, hS.F ht⟩) hS.2.2 dM_ref_172
        · replace hf := ite_t h26 hf
          refine lv_iconst (pc := 106) (v := 0) hx hb dM_ref_106 (by decide) ?_
          obtain ⟨h8, h9⟩ := Prod.mk.inj (Option.some.inj hf)
          subst h9
          exact W.zret (pc := 107) hx hb hr (rfl) (fun t ht hW => ⟨⟨_, (), rfl, h8, by rw [ht]; exact hP, hD, hC⟩, hS.F ht⟩) hS.2.2 dM_ref_107
def M_drop_L100 (n : Nat) (kx38 : hT → Int32 → Int32 → Int32 → Int32 → Int32 → Int32 → Int32 → Option (Int32 × hT)) : Nat → hT → Int32 → Int32 → Int32 → Int32 → Int32 → Int32 → Int32 → Option (Int32 × hT)
  | 0, _, _, _, _, _, _, _, _ => none
  | k + 1, σ30, p31, p32, p33, p34, p35, p36, p37 => if in9 (p32 + 3) 25240 then if (2 * (xI σ30 15 0 ((p32 + 3)).toNatClampNeg)) ≤ p31 then kx38 (σ30) p31 p32 p33 p34 p35 p36 p37 else if in9 (((p32 + 4) + p31) + 2) 25240 then if in9 ((p32 + 4) + p31) 25240 then lt9 (sI σ30 15 0 (((p32 + 4) + p31)).toNatClampNeg (xI σ30 15 0 ((((p32 + 4) + p31) + 2)).toNatClampNeg)) fun σ48 => M_drop_L100 n kx38 k (σ48) (p31 + 1) p32 p33 p34 p35 p36 p37 else none else none else none
def M_drop (n : Nat) (σ : hT) (a1 : Int32) (a2 : Int32) (a3 : Int32) : Option (Int32 × hT) := Option.bind (M_whyNot σ a1 a2) fun y2 => lt9 (α := Int32 → Option (Int32 × hT)) (fun (s4 : Int32) => lt9 (α := Int32 → Option (Int32 × hT)) (fun (s16 : Int32) => Option.bind (M_mayHere σ s16) fun ⟨y20, σ21⟩ => if y20 = 0 then some (0, σ21) else if in9 ((M_drawingAt a1) + 3) 25240 then if in9 ((M_drawingAt a1) + 3) 25240 then lt9 (sI σ21 15 0 (((M_drawingAt a1) + 3)).toNatClampNeg ((xI σ21 15 0 (((M_drawingAt a1) + 3)).toNatClampNeg) - 1)) fun σ27 => lt9 (α := hT → Int32 → Int32 → Int32 → Int32 → Int32 → Int32 → Int32 → Option (Int32 × hT)) (fun (σ30 : hT) (p31 : Int32) (p32 : Int32) (p33 : Int32) (p34 : Int32) (p35 : Int32) (p36 : Int32) (p37 : Int32) => some (1, σ30)) fun kx38 => M_drop_L100 n kx38 n (σ27) (2 * a3) (M_drawingAt a1) s4 y2 a1 a2 a3 else none else none) fun x15 => if y2 = 0 then if s4 = 0 then x15 7 else x15 y2 else x15 y2) fun x3 => if y2 = 0 then if a3 < 0 then x3 0 else lt9 (α := Int32 → Option (Int32 × hT)) (fun (s9 : Int32) => if in9 ((M_drawingAt s9) + 3) 25240 then if (xI σ 15 0 (((M_drawingAt s9) + 3)).toNatClampNeg) ≤ a3 then x3 0 else x3 1 else none) fun x8 => if y2 = 0 then x8 a1 else x8 0 else x3 0
set_option maxHeartbeats 4000000 in
set_option maxRecDepth 100000 in
theorem t_M_drop (l : Launch) (dC : Nat → ClassId) (dI : Nat → Nat → Nat) (ad : Nat → Nat → Nat) (ca : Nat → Nat → ClassId) (dom : List (Nat × Nat)) (sz : Nat) (n : Nat) (σ : hT) (a1 : Int32) (a2 : Int32) (a3 : Int32) (hm0 : (4, 0) ∈ dom) (hN : dom.Nodup) (hC : clo dom σ.2.2) (ρ : Int32) (σ' : hT) (hf : M_drop n σ a1 a2 a3 = some (ρ, σ')) : Met l yM_drop (.code yM_drop cM_drop 8 (some .boolean) :: aw) ({ frames := 3, cells := 0, slots := 0, locals := 65 }) (hW (dC, dI) sz ad ca dom σ [.ref (ad 4 0), .int a1, .int a2, .int a3]) (va_Qi (fun r (_ : Unit) => r = ρ) (fun _ t => hB (dC, dI) (va_A (w9 ad ca dom σ) sz) ad ca dom σ' t) (va_A (w9 ad ca dom σ) sz)) 0 0 (va_A (w9 ad ca dom σ) sz) := by
  refine Met.ofW (cc := cM_drop) (maxL := 8) (ret := (some .boolean)) (by decide) rfl ?_
  intro p e s m args below meth c s₁ B hml hv
  obtain ⟨rfl, hv⟩ := hv
  have hx := B.exec
  have hb := B.bytes
  have hr := B.returns
  have hts : ∀ w ∈ aw, w.before _ s = true := fun w h => atoms_spec (ws := (.code yM_drop cM_drop 8 (some .boolean) :: aw)) B.pre w (List.mem_cons_of_mem _ h)
  have hown : s.vm.findClass RM = some m.cls := findClass_of_methodNamed B.named
  have hlocks := B.notSynchronized
  obtain ⟨hsz, hP, hK, hD0, hG⟩ := hv
  subst hsz
  have hD := hD0.self (sz := s.heap.size)
  generalize hAe : va_A (w9 ad ca dom σ) s.heap.size = A at hD ⊢
  have hA : ∀ q : Nat, s.heap.size ≤ q → A q := fun q h => by rw [← hAe]; exact Or.inr h
  obtain ⟨H, hH⟩ : ∃ H, H = s.heap := ⟨_, rfl⟩
  have hS : va_S A s.heap H [] := by rw [hH]; exact va_S.rf
  rw [← hH] at hP ⊢
  unfold M_drop at hf
  have hl := lv_entry ([.ref (ad 4 0), .int a1, .int a2, .int a3]) (n := 8) (Nat.le_of_ble_eq_true rfl)
  rw [lg_entry_eq]
  generalize (lg_sl ([.ref (ad 4 0), .int a1, .int a2, .int a3]) ++ List.replicate (8 - (lg_sl ([.ref (ad 4 0), .int a1, .int a2, .int a3])).length) Slot.unset).toArray = ls at hl ⊢
  have hl : lv_has ls 8 [(0, .ref (ad 4 0)), (1, .int a1), (2, .int a2), (3, .int a3)] := hl
  refine lv_aload_n (pc := 0) hx hb dM_drop_0 rfl (lv_at hl 0 rfl) ?_
  refine lv_iload_n (pc := 1) hx hb dM_drop_1 rfl (lv_at hl 1 rfl) ?_
  refine lv_iload_n (pc := 2) hx hb dM_drop_2 rfl (lv_at hl 2 rfl) ?_
  obtain ⟨q1, hq1, eq1⟩ := at_4 (ad := ad) (ca := ca) (σ := σ) hm0
  obtain ⟨y2, hy2, hf⟩ := ob hf
  refine vp_callSi (pc := 3) (W.runV (As := [.int a1, .int a2]) (rest := []) ⟨hx, hb, hml, hown, hts⟩ (t_M_whyNot l dC dI ad ca dom σ a1 a2 hm0 hN hC y2 hy2) (cwV 2 hts (gV wd_163 wd_164 wd_165 wd_50 wd_162) rfl rfl rfl (by decide +kernel) ⟨Nat.le_of_ble_eq_true rfl, Nat.le_of_ble_eq_true rfl⟩) ⟨hR_blind, va_recv (q := (RM, TM, 11)) (q0 := q1) (ci := 4) hK.1 hP rfl eq1, hR_pre hP hK hG⟩ rfl rfl hl.1 rfl (lv_room (Nat.le_of_ble_eq_true rfl)) dM_drop_3 ⟨Nat.le_of_ble_eq_true rfl, Nat.le_of_ble_eq_true rfl⟩) (fun r9 hr9 => ?_)
  refine W.eq (g2 := F0 m 6 ls [.int y2]) (by rw [hr9]) ?_
  refine lv_istore (pc := 6) hx hb dM_drop_6 hl (by decide) rfl (fun ls hl => ?_)
  have hl : lv_has ls 8 [(4, .int y2), (0, .ref (ad 4 0)), (1, .int a1), (2, .int a2), (3, .int a3)] := hl
  refine lv_iload (pc := 8) hx hb dM_drop_8 (lv_at hl 0 rfl) ?_
  obtain ⟨x3, hx3, hf⟩ := lt_9 hf
  refine jnF (τ := (Int32) × (Heap) × (List Loc) × (Array Slot)) (fun pc st z => W p l e _ s m _ below meth c z.2.1 z.2.2.1 0 0 _ (F0 m pc z.2.2.2 st)) (pc0 := 10) (st0 := [.int y2]) (z0 := (0, H, _, ls)) 47 (fun z => [.int z.1]) (fun z => va_P (dC, dI) kCl (w9 ad ca dom (σ)) z.2.1 ∧ va_D A (w9 ad ca dom (σ)) ∧ va_S A s.heap z.2.1 z.2.2.1 ∧ lv_has z.2.2.2 8 [(4, .int y2), (0, .ref (ad 4 0)), (1, .int a1), (2, .int a2), (3, .int a3)]) (fun z => x3 z.1) (ρ, σ') ?_ ?_
  · intro hJx3
    dsimp only at hJx3 ⊢
    refine lv_if_ne (pc := 10) (tgt := 46) hx hb dM_drop_10 rfl (fun h5 => ?_) (fun h5 => ?_)
    · replace hf := ite_f h5 hf
      refine lv_iconst (pc := 46) (v := 0) hx hb dM_drop_46 (by decide) ?_
      have hl := lv_sub hl (l' := [(4, .int y2), (0, .ref (ad 4 0)), (1, .int a1), (2, .int a2), (3, .int a3)]) [0, 1, 2, 3, 4] rfl
      exact hJx3 (0, H, _, ls) ⟨hP, hD, hS, hl⟩ hf
    · replace hf := ite_t h5 hf
      refine lv_iload_n (pc := 13) hx hb dM_drop_13 rfl (lv_at hl 4 rfl) ?_
      refine lv_if_lt (pc := 14) (tgt := 46) hx hb dM_drop_14 rfl (fun h6 => ?_) (fun h6 => ?_)
      · replace hf := ite_t h6 hf
        refine lv_iconst (pc := 46) (v := 0) hx hb dM_drop_46 (by decide) ?_
        have hl := lv_sub hl (l' := [(4, .int y2), (0, .ref (ad 4 0)), (1, .int a1), (2, .int a2), (3, .int a3)]) [0, 1, 2, 3, 4] rfl
        exact hJx3 (0, H, _, ls) ⟨hP, hD, hS, hl⟩ hf
      · replace hf := ite_f h6 hf
        refine lv_iload_n (pc := 17) hx hb dM_drop_17 rfl (lv_at hl 4 rfl) ?_
        refine lv_aload_n (pc := 18) hx hb dM_drop_18 rfl (lv_at hl 1 rfl) ?_
        obtain ⟨q7, hq7, eq7⟩ := at_4 (ad := ad) (ca := ca) (σ := σ) hm0
        refine va_get (D := (dC, dI)) (cl := kCl) (C := RM) (T := TM) (N := 11) (pc := 19) hx hb hts inM hown hK.1 hP q7 eq7 rfl 2 (by decide) (hts _ wd_51) (fun _ h9 => h9) rfl dM_drop_19 ?_
        refine lv_aload_n (pc := 22) hx hb dM_drop_22 rfl (lv_at hl 1 rfl) ?_
        refine lv_iload (pc := 23) hx hb dM_drop_23 (lv_at hl 0 rfl) ?_
        obtain ⟨x8, hx8, hf⟩ := lt_9 hf
        refine jnF (τ := (Int32) × (Heap) × (List Loc) × (Array Slot)) (fun pc st z => W p l e _ s m _ below meth c z.2.1 z.2.2.1 0 0 _ (F0 m pc z.2.2.2 st)) (pc0 := 25) (st0 := [.int y2, .ref (ad 4 0), .ref (ad 15 0), .int a3]) (z0 := (0, H, _, ls)) 33 (fun z => [.int z.1, .ref (ad 4 0), .ref (ad 15 0), .int a3]) (fun z => va_P (dC, dI) kCl (w9 ad ca dom (σ)) z.2.1 ∧ va_D A (w9 ad ca dom (σ)) ∧ va_S A s.heap z.2.1 z.2.2.1 ∧ lv_has z.2.2.2 8 [(4, .int y2), (0, .ref (ad 4 0)), (1, .int a1), (2, .int a2), (3, .int a3)]) (fun z => x8 z.1) (ρ, σ') ?_ ?_
        · intro hJx8
          dsimp only at hJx8 ⊢
          refine lv_if_ne (pc := 25) (tgt := 32) hx hb dM_drop_25 rfl (fun h10 => ?_) (fun h10 => ?_)
          · replace hf := ite_f h10 hf
            refine lv_iconst (pc := 32) (v := 0) hx hb dM_drop_32 (by decide) ?_
            have hl := lv_sub hl (l' := [(4, .int y2), (0, .ref (ad 4 0)), (1, .int a1), (2, .int a2), (3, .int a3)]) [0, 1, 2, 3, 4] rfl
            exact hJx8 (0, H, _, ls) ⟨hP, hD, hS, hl⟩ hf
          · replace hf := ite_t h10 hf
            refine lv_iload_n (pc := 28) hx hb dM_drop_28 rfl (lv_at hl 2 rfl) ?_
            refine lv_goto (pc := 29) (tgt := 33) hx hb dM_drop_29 rfl ?_
            have hl := lv_sub hl (l' := [(4, .int y2), (0, .ref (ad 4 0)), (1, .int a1), (2, .int a2), (3, .int a3)]) [0, 1, 2, 3, 4] rfl
            exact hJx8 (a1, H, _, ls) ⟨hP, hD, hS, hl⟩ hf
        · rintro ⟨s9, H, locs, ls⟩ ⟨hP, hD, hS, hl⟩ hf
          dsimp only at hP hD hS hl hf ⊢
          rw [hx8] at hf
          have hl : lv_has ls 8 [(4, .int y2), (0, .ref (ad 4 0)), (1, .int a1), (2, .int a2), (3, .int a3)] := hl
          obtain ⟨q11, hq11, eq11⟩ := at_4 (ad := ad) (ca := ca) (σ := σ) hm0
          refine vp_callSi (pc := 33) (W.runV (As := [.int s9]) (rest := [.ref (ad 15 0), .int a3]) ⟨hx, hb, hml, hown, hts⟩ (t_M_drawingAt l dC dI ad ca dom s9 hm0 σ hN hC (M_drawingAt s9) rfl) (cwV 1 hts (gV wd_53 wd_54 wd_55 wd_50 wd_52) rfl rfl rfl (by decide +kernel) ⟨Nat.le_of_ble_eq_true rfl, Nat.le_of_ble_eq_true rfl⟩) ⟨hR_blind, va_recv (q := (RM, TM, 11)) (q0 := q11) (ci := 4) hK.1 hP rfl eq11, hR_pre hP hK hG⟩ rfl rfl hl.1 rfl (lv_room (Nat.le_of_ble_eq_true rfl)) dM_drop_33 ⟨Nat.le_of_ble_eq_true rfl, Nat.le_of_ble_eq_true rfl⟩) (fun r9 hr9 => ?_)
          refine W.eq (g2 := F0 m 36 ls [.int (M_drawingAt s9), .ref (ad 15 0), .int a3]) (by rw [hr9]) ?_
          refine lv_iconst (pc := 36) (v := 3) hx hb dM_drop_36 (by decide) ?_
          refine lv_iadd (pc := 37) hx hb dM_drop_37 ?_
          obtain ⟨hv12, hf⟩ := ite_s hf
          obtain ⟨q13, hq13, eq13⟩ := at_15 (ad := ad) (ca := ca) (σ := σ) (cm_4_2 hC hm0)
          refine va_iald (D := (dC, dI)) (cl := kCl) (pc := 38) hx hb (hK.2 15 0 .int (cm_4_2 hC hm0) rfl) hP q13 0 eq13 rfl (hv12) dM_drop_38 ?_
          refine W.eq (g2 := F0 m 39 ls [.int (xI σ 15 0 (((M_drawingAt s9) + 3)).toNatClampNeg), .int a3]) rfl ?_
          refine lv_icmp_ge (pc := 39) (tgt := 46) hx hb dM_drop_39 rfl (fun h14 => ?_) (fun h14 => ?_)
          · replace hf := ite_t h14 hf
            refine lv_iconst (pc := 46) (v := 0) hx hb dM_drop_46 (by decide) ?_
            have hl := lv_sub hl (l' := [(4, .int y2), (0, .ref (ad 4 0)), (1, .int a1), (2, .int a2), (3, .int a3)]) [0, 1, 2, 3, 4] rfl
            exact hJx3 (0, H, _, ls) ⟨hP, hD, hS, hl⟩ hf
          · replace hf := ite_f h14 hf
            refine lv_iconst (pc := 42) (v := 1) hx hb dM_drop_42 (by decide) ?_
            refine lv_goto (pc := 43) (tgt := 47) hx hb dM_drop_43 rfl ?_
            have hl := lv_sub hl (l' := [(4, .int y2), (0, .ref (ad 4 0)), (1, .int a1), (2, .int a2), (3, .int a3)]) [0, 1, 2, 3, 4] rfl
            exact hJx3 (1, H, _, ls) ⟨hP, hD, hS, hl⟩ hf
  · rintro ⟨s4, H, locs, ls⟩ ⟨hP, hD, hS, hl⟩ hf
    dsimp only at hP hD hS hl hf ⊢
    rw [hx3] at hf
    have hl : lv_has ls 8 [(4, .int y2), (0, .ref (ad 4 0)), (1, .int a1), (2, .int a2), (3, .int a3)] := hl
    refine lv_istore (pc := 47) hx hb dM_drop_47 hl (by decide) rfl (fun ls hl => ?_)
    have hl : lv_has ls 8 [(5, .int s4), (4, .int y2), (0, .ref (ad 4 0)), (1, .int a1), (2, .int a2), (3, .int a3)] := hl
    refine lv_aload_n (pc := 49) hx hb dM_drop_49 rfl (lv_at hl 2 rfl) ?_
    refine lv_iload (pc := 50) hx hb dM_drop_50 (lv_at hl 1 rfl) ?_
    obtain ⟨x15, hx15, hf⟩ := lt_9 hf
    refine jnF (τ := (Int32) × (Heap) × (List Loc) × (Array Slot)) (fun pc st z => W p l e _ s m _ below meth c z.2.1 z.2.2.1 0 0 _ (F0 m pc z.2.2.2 st)) (pc0 := 52) (st0 := [.int y2, .ref (ad 4 0)]) (z0 := (0, H, _, ls)) 67 (fun z => [.int z.1, .ref (ad 4 0)]) (fun z => va_P (dC, dI) kCl (w9 ad ca dom (σ)) z.2.1 ∧ va_D A (w9 ad ca dom (σ)) ∧ va_S A s.heap z.2.1 z.2.2.1 ∧ lv_has z.2.2.2 8 [(5, .int s4), (4, .int y2), (0, .ref (ad 4 0)), (1, .int a1), (2, .int a2), (3, .int a3)]) (fun z => x15 z.1) (ρ, σ') ?_ ?_
    · intro hJx15
      dsimp only at hJx15 ⊢
      refine lv_if_ne (pc := 52) (tgt := 65) hx hb dM_drop_52 rfl (fun h17 => ?_) (fun h17 => ?_)
      · replace hf := ite_f h17 hf
        refine lv_iload (pc := 65) hx hb dM_drop_65 (lv_at hl 1 rfl) ?_
        have hl := lv_sub hl (l' := [(5, .int s4), (4, .int y2), (0, .ref (ad 4 0)), (1, .int a1), (2, .int a2), (3, .int a3)]) [0, 1, 2, 3, 4, 5] rfl
        exact hJx15 (y2, H, _, ls) ⟨hP, hD, hS, hl⟩ hf
      · replace hf := ite_t h17 hf
        refine lv_iload (pc := 55) hx hb dM_drop_55 (lv_at hl 0 rfl) ?_
        refine lv_if_ne (pc := 57) (tgt := 65) hx hb dM_drop_57 rfl (fun h18 => ?_) (fun h18 => ?_)
        · replace hf := ite_f h18 hf
          refine lv_iload (pc := 65) hx hb dM_drop_65 (lv_at hl 1 rfl) ?_
          have hl := lv_sub hl (l' := [(5, .int s4), (4, .int y2), (0, .ref (ad 4 0)), (1, .int a1), (2, .int a2), (3, .int a3)]) [0, 1, 2, 3, 4, 5] rfl
          exact hJx15 (y2, H, _, ls) ⟨hP, hD, hS, hl⟩ hf
        · replace hf := ite_t h18 hf
          refine lv_bipush (pc := 60) (v := 7) hx hb dM_drop_60 (by decide) ?_
          refine lv_goto (pc := 62) (tgt := 67) hx hb dM_drop_62 rfl ?_
          have hl := lv_sub hl (l' := [(5, .int s4), (4, .int y2), (0, .ref (ad 4 0)), (1, .int a1), (2, .int a2), (3, .int a3)]) [0, 1, 2, 3, 4, 5] rfl
          exact hJx15 (7, H, _, ls) ⟨hP, hD, hS, hl⟩ hf
    · rintro ⟨s16, H, locs, ls⟩ ⟨hP, hD, hS, hl⟩ hf
      dsimp only at hP hD hS hl hf ⊢
      rw [hx15] at hf
      have hl : lv_has ls 8 [(5, .int s4), (4, .int y2), (0, .ref (ad 4 0)), (1, .int a1), (2, .int a2), (3, .int a3)] := hl
      obtain ⟨q19, hq19, eq19⟩ := at_4 (ad := ad) (ca := ca) (σ := σ) hm0
      obtain ⟨⟨y20, σ21⟩, hy20, hf⟩ := ob hf
      have hFc := w9_free hD hS hA
      refine va_calli (pc := 67) (va_runV (As := [.int s16]) (rest := []) ⟨hx, hb, hml, hown, hts⟩ (t_M_mayHere l dC dI ad ca dom H.size σ s16 hm0 hN hC y20 σ21 hy20) (cwV 1 hts (gV wd_167 wd_168 wd_169 wd_50 wd_166) rfl rfl rfl (by decide +kernel) ⟨Nat.le_of_ble_eq_true rfl, Nat.le_of_ble_eq_true rfl⟩) ⟨hW_blind, va_recv (q := (RM, TM, 11)) (q0 := q19) (ci := 4) hK.1 hP rfl eq19, hW_pre hP hK hD hG⟩ rfl rfl hl.1 rfl (lv_room (Nat.le_of_ble_eq_true rfl)) dM_drop_67 ⟨Nat.le_of_ble_eq_true rfl, Nat.le_of_ble_eq_true rfl⟩) hS (fun q _ h => hFc q h) hFc (fun r9 u t H1 locs ht hvm hr9 hB hz1 hk1 hS => ?_)
      obtain ⟨hP, hD, hC⟩ := hB
      rw [ht] at hP
      replace hD := hD.weaken (fun _ _ _ h => hFc _ h)
      generalize H1 = H at hP hS ⊢
      refine W.eq (g2 := F0 m 70 ls [.int y20]) (by rw [hr9]) ?_
      refine lv_if_ne (pc := 70) (tgt := 75) hx hb dM_drop_70 rfl (fun h22 => ?_) (fun h22 => ?_)
      · replace hf := ite_f h22 hf
        refine lv_aload_n (pc := 75) hx hb dM_drop_75 rfl (lv_at hl 2 rfl) ?_
        refine lv_iload_n (pc := 76) hx hb dM_drop_76 rfl (lv_at hl 3 rfl) ?_
        obtain ⟨q23, hq23, eq23⟩ := at_4 (ad := ad) (ca := ca) (σ := σ21) hm0
        refine vp_callSi (pc := 77) (W.runV (As := [.int a1]) (rest := []) ⟨hx, hb, hml, hown, hts⟩ (t_M_drawingAt l dC dI ad ca dom a1 hm0 σ21 hN hC (M_drawingAt a1) rfl) (cwV 1 hts (gV wd_53 wd_54 wd_55 wd_50 wd_52) rfl rfl rfl (by decide +kernel) ⟨Nat.le_of_ble_eq_true rfl, Nat.le_of_ble_eq_true rfl⟩) ⟨hR_blind, va_recv (q := (RM, TM, 11)) (q0 := q23) (ci := 4) hK.1 hP rfl eq23, hR_pre hP hK hG⟩ rfl rfl hl.1 rfl (lv_room (Nat.le_of_ble_eq_true rfl)) dM_drop_77 ⟨Nat.le_of_ble_eq_true rfl, Nat.le_of_ble_eq_true rfl⟩) (fun r9 hr9 => ?_)
        refine W.eq (g2 := F0 m 80 ls [.int (M_drawingAt a1)]) (by rw [hr9]) ?_
        refine lv_istore (pc := 80) hx hb dM_drop_80 hl (by decide) rfl (fun ls hl => ?_)
        have hl : lv_has ls 8 [(6, .int (M_drawingAt a1)), (5, .int s4), (4, .int y2), (0, .ref (ad 4 0)), (1, .int a1), (2, .int a2), (3, .int a3)] := hl
        refine lv_aload_n (pc := 82) hx hb dM_drop_82 rfl (lv_at hl 3 rfl) ?_
        obtain ⟨q24, hq24, eq24⟩ := at_4 (ad := ad) (ca := ca) (σ := σ21) hm0
        refine va_get (D := (dC, dI)) (cl := kCl) (C := RM) (T := TM) (N := 11) (pc := 83) hx hb hts inM hown hK.1 hP q24 eq24 rfl 2 (by decide) (hts _ wd_51) (fun _ h9 => h9) rfl dM_drop_83 ?_
        refine lv_iload (pc := 86) hx hb dM_drop_86 (lv_at hl 0 rfl) ?_
        refine lv_iconst (pc := 88) (v := 3) hx hb dM_drop_88 (by decide) ?_
        refine lv_iadd (pc := 89) hx hb dM_drop_89 ?_
        refine lv_dup2_11 (pc := 90) hx hb dM_drop_90 rfl rfl ?_
        obtain ⟨hv25, hf⟩ := ite_s hf
        obtain ⟨q26, hq26, eq26⟩ := at_15 (ad := ad) (ca := ca) (σ := σ21) (cm_4_2 hC hm0)
        refine va_iald (D := (dC, dI)) (cl := kCl) (pc := 91) hx hb (hK.2 15 0 .int (cm_4_2 hC hm0) rfl) hP q26 0 eq26 rfl (hv25) dM_drop_91 ?_
        refine W.eq (g2 := F0 m 92 ls [.int (xI σ21 15 0 (((M_drawingAt a1) + 3)).toNatClampNeg), .int ((M_drawingAt a1) + 3), .ref (ad 15 0)]) rfl ?_
        refine lv_iconst (pc := 92) (v := 1) hx hb dM_drop_92 (by decide) ?_
        refine lv_isub (pc := 93) hx hb dM_drop_93 ?_
        obtain ⟨hv28, hf⟩ := ite_s hf
        obtain ⟨q29, hq29, eq29⟩ := at_15 (ad := ad) (ca := ca) (σ := σ21) (cm_4_2 hC hm0)
        refine va_iast (D := (dC, dI)) (cl := kCl) (pc := 94) hx hb (hK.2 15 0 .int (cm_4_2 hC hm0) rfl) hP hD hS q29 0 eq29 rfl (hv28) dM_drop_94 (fun H locs hP hD hS => ?_)
        obtain ⟨σ27, hσ27, hf⟩ := lt_9 hf
        obtain ⟨hP, hD⟩ := w9_rI 15 rfl hN hq29 hσ27 (pr_15) hP hD
        have hC : clo dom σ27.2.2 := by rw [hσ27]; exact hC
        refine lv_iconst (pc := 95) (v := 2) hx hb dM_drop_95 (by decide) ?_
        refine lv_iload_n (pc := 96) hx hb dM_drop_96 rfl (lv_at hl 6 rfl) ?_
        refine lv_imul (pc := 97) hx hb dM_drop_97 ?_
        refine lv_istore (pc := 98) hx hb dM_drop_98 hl (by decide) rfl (fun ls hl => ?_)
        have hl : lv_has ls 8 [(7, .int (2 * a3)), (6, .int (M_drawingAt a1)), (5, .int s4), (4, .int y2), (0, .ref (ad 4 0)), (1, .int a1), (2, .int a2), (3, .int a3)] := hl
        obtain ⟨kx38, hkx38, hf⟩ := lt_9 hf
        refine lpF (τ := (hT) × (Int32) × (Int32) × (Int32) × (Int32) × (Int32) × (Int32) × (Int32) × (Heap) × (List Loc) × (Array Slot)) (fun pc z => W p l e _ s m _ below meth c z.2.2.2.2.2.2.2.2.1 z.2.2.2.2.2.2.2.2.2.1 0 0 _ (F0 m pc z.2.2.2.2.2.2.2.2.2.2 [])) 100 148 (fun z => va_P (dC, dI) kCl (w9 ad ca dom z.1) z.2.2.2.2.2.2.2.2.1 ∧ va_D A (w9 ad ca dom z.1) ∧ va_S A s.heap z.2.2.2.2.2.2.2.2.1 z.2.2.2.2.2.2.2.2.2.1 ∧ clo dom z.1.2.2 ∧ lv_has z.2.2.2.2.2.2.2.2.2.2 8 [(7, .int z.2.1), (6, .int z.2.2.1), (5, .int z.2.2.2.1), (4, .int z.2.2.2.2.1), (0, .ref (ad 4 0)), (1, .int z.2.2.2.2.2.1), (2, .int z.2.2.2.2.2.2.1), (3, .int z.2.2.2.2.2.2.2.1)]) (fun k z => M_drop_L100 n kx38 k z.1 z.2.1 z.2.2.1 z.2.2.2.1 z.2.2.2.2.1 z.2.2.2.2.2.1 z.2.2.2.2.2.2.1 z.2.2.2.2.2.2.2.1) (fun z => kx38 z.1 z.2.1 z.2.2.1 z.2.2.2.1 z.2.2.2.2.1 z.2.2.2.2.2.1 z.2.2.2.2.2.2.1 z.2.2.2.2.2.2.2.1) _ (fun z => rfl) ?_ ?_ n (σ27, (2 * a3), (M_drawingAt a1), s4, y2, a1, a2, a3, H, _, ls) ⟨hP, hD, hS, hC, hl⟩ hf
        · rintro k ⟨σ30, p31, p32, p33, p34, p35, p36, p37, H, locs, ls⟩ ⟨hP, hD, hS, hC, hl⟩ hf ih39 hXkx38
          dsimp only at hP hD hS hC hl hf ih39 hXkx38 ⊢
          unfold M_drop_L100 at hf
          have hl : lv_has ls 8 [(7, .int p31), (6, .int p32), (5, .int p33), (4, .int p34), (0, .ref (ad 4 0)), (1, .int p35), (2, .int p36), (3, .int p37)] := hl
          refine lv_iload (pc := 100) hx hb dM_drop_100 (lv_at hl 0 rfl) ?_
          refine lv_iconst (pc := 102) (v := 2) hx hb dM_drop_102 (by decide) ?_
          refine lv_aload_n (pc := 103) hx hb dM_drop_103 rfl (lv_at hl 4 rfl) ?_
          obtain ⟨q40, hq40, eq40⟩ := at_4 (ad := ad) (ca := ca) (σ := σ30) hm0
          refine va_get (D := (dC, dI)) (cl := kCl) (C := RM) (T := TM) (N := 11) (pc := 104) hx hb hts inM hown hK.1 hP q40 eq40 rfl 2 (by decide) (hts _ wd_51) (fun _ h9 => h9) rfl dM_drop_104 ?_
          refine lv_iload (pc := 107) hx hb dM_drop_107 (lv_at hl 1 rfl) ?_
          refine lv_iconst (pc := 109) (v := 3) hx hb dM_drop_109 (by decide) ?_
          refine lv_iadd (pc := 110) hx hb dM_drop_110 ?_
          obtain ⟨hv41, hf⟩ := ite_s hf
          obtain ⟨q42, hq42, eq42⟩ := at_15 (ad := ad) (ca := ca) (σ := σ30) (cm_4_2 hC hm0)
          refine va_iald (D := (dC, dI)) (cl := kCl) (pc := 111) hx hb (hK.2 15 0 .int (cm_4_2 hC hm0) rfl) hP q42 0 eq42 rfl (hv41) dM_drop_111 ?_
          refine W.eq (g2 := F0 m 112 ls [.int (xI σ30 15 0 ((p32 + 3)).toNatClampNeg), .int 2, .int p31]) rfl ?_
          refine lv_imul (pc := 112) hx hb dM_drop_112 ?_
          refine lv_icmp_ge (pc := 113) (tgt := 148) hx hb dM_drop_113 rfl (fun h43 => ?_) (fun h43 => ?_)
          · replace hf := ite_t h43 hf
            have hl := lv_sub hl (l' := [(7, .int p31), (6, .int p32), (5, .int p33), (4, .int p34), (0, .ref (ad 4 0)), (1, .int p35), (2, .int p36), (3, .int p37)]) [0, 1, 2, 3, 4, 5, 6, 7] rfl
            exact hXkx38 (σ30, p31, p32, p33, p34, p35, p36, p37, H, _, ls) ⟨hP, hD, hS, hC, hl⟩ hf
          · replace hf := ite_f h43 hf
            refine lv_aload_n (pc := 116) hx hb dM_drop_116 rfl (lv_at hl 4 rfl) ?_
            obtain ⟨q44, hq44, eq44⟩ := at_4 (ad := ad) (ca := ca) (σ := σ30) hm0
            refine va_get (D := (dC, dI)) (cl := kCl) (C := RM) (T := TM) (N := 11) (pc := 117) hx hb hts inM hown hK.1 hP q44 eq44 rfl 2 (by decide) (hts _ wd_51) (fun _ h9 => h9) rfl dM_drop_117 ?_
            refine lv_iload (pc := 120) hx hb dM_drop_120 (lv_at hl 1 rfl) ?_
            refine lv_iconst (pc := 122) (v := 4) hx hb dM_drop_122 (by decide) ?_
            refine lv_iadd (pc := 123) hx hb dM_drop_123 ?_
            refine lv_iload (pc := 124) hx hb dM_drop_124 (lv_at hl 0 rfl) ?_
            refine lv_iadd (pc := 126) hx hb dM_drop_126 ?_
            refine lv_aload_n (pc := 127) hx hb dM_drop_127 rfl (lv_at hl 4 rfl) ?_
            obtain ⟨q45, hq45, eq45⟩ := at_4 (ad := ad) (ca := ca) (σ := σ30) hm0
            refine va_get (D := (dC, dI)) (cl := kCl) (C := RM) (T := TM) (N := 11) (pc := 128) hx hb hts inM hown hK.1 hP q45 eq45 rfl 2 (by decide) (hts _ wd_51) (fun _ h9 => h9) rfl dM_drop_128 ?_
            refine lv_iload (pc := 131) hx hb dM_drop_131 (lv_at hl 1 rfl) ?_
            refine lv_iconst (pc := 133) (v := 4) hx hb dM_drop_133 (by decide) ?_
            refine lv_iadd (pc := 134) hx hb dM_drop_134 ?_
            refine lv_iload (pc := 135) hx hb dM_drop_135 (lv_at hl 0 rfl) ?_
            refine lv_iadd (pc := 137) hx hb dM_drop_137 ?_
            refine lv_iconst (pc := 138) (v := 2) hx hb dM_drop_138 (by decide) ?_
            refine lv_iadd (pc := 139) hx hb dM_drop_139 ?_
            obtain ⟨hv46, hf⟩ := ite_s hf
            obtain ⟨q47, hq47, eq47⟩ := at_15 (ad := ad) (ca := ca) (σ := σ30) (cm_4_2 hC hm0)
            refine va_iald (D := (dC, dI)) (cl := kCl) (pc := 140) hx hb (hK.2 15 0 .int (cm_4_2 hC hm0) rfl) hP q47 0 eq47 rfl (hv46) dM_drop_140 ?_
            refine W.eq (g2 := F0 m 141 ls [.int (xI σ30 15 0 ((((p32 + 4) + p31) + 2)).toNatClampNeg), .int ((p32 + 4) + p31), .ref (ad 15 0)]) rfl ?_
            obtain ⟨hv49, hf⟩ := ite_s hf
            obtain ⟨q50, hq50, eq50⟩ := at_15 (ad := ad) (ca := ca) (σ := σ30) (cm_4_2 hC hm0)
            refine va_iast (D := (dC, dI)) (cl := kCl) (pc := 141) hx hb (hK.2 15 0 .int (cm_4_2 hC hm0) rfl) hP hD hS q50 0 eq50 rfl (hv49) dM_drop_141 (fun H locs hP hD hS => ?_)
            obtain ⟨σ48, hσ48, hf⟩ := lt_9 hf
            obtain ⟨hP, hD⟩ := w9_rI 15 rfl hN hq50 hσ48 (pr_15) hP hD
            have hC : clo dom σ48.2.2 := by rw [hσ48]; exact hC
            refine lv_iinc (pc := 142) (v := (p31 + 1)) hx hb dM_drop_142 hl (k := 0) rfl (by rfl) (by decide) rfl (fun ls hl => ?_)
            have hl : lv_has ls 8 [(7, .int (p31 + 1)), (6, .int p32), (5, .int p33), (4, .int p34), (0, .ref (ad 4 0)), (1, .int p35), (2, .int p36), (3, .int p37)] := hl
            refine lv_goto (pc := 145) (tgt := 100) hx hb dM_drop_145 rfl ?_
            have hl := lv_sub hl (l' := [(7, .int (p31 + 1)), (6, .int p32), (5, .int p33), (4, .int p34), (0, .ref (ad 4 0)), (1, .int p35), (2, .int p36), (3, .int p37)]) [0, 1, 2, 3, 4, 5, 6, 7] rfl
            exact ih39 (σ48, (p31 + 1), p32, p33, p34, p35, p36, p37, H, _, ls) ⟨hP, hD, hS, hC, hl⟩ hf
        · rintro ⟨σ30, p31, p32, p33, p34, p35, p36, p37, H, locs, ls⟩ ⟨hP, hD, hS, hC, hl⟩ hf
          dsimp only at hP hD hS hC hl hf ⊢
          rw [hkx38] at hf
          have hl : lv_has ls 8 [(7, .int p31), (6, .int p32), (5, .int p33), (4, .int p34), (0, .ref (ad 4 0)), (1, .int p35), (2, .int p36), (3, .int p37)] := hl
          refine lv_iconst (pc := 148) (v := 1) hx hb dM_drop_148 (by decide) ?_
          obtain ⟨h8, h9⟩ := Prod.mk.inj (Option.some.inj hf)
          subst h9
          exact W.zret (pc := 149) hx hb hr (rfl) (fun t ht hW => ⟨⟨_, (), rfl, h8, by rw [ht]; exact hP, hD, hC⟩, hS.F ht⟩) hS.2.2 dM_drop_149
      · replace hf := ite_t h22 hf
        refine lv_iconst (pc := 73) (v := 0) hx hb dM_drop_73 (by decide) ?_
        obtain ⟨h8, h9⟩ := Prod.mk.inj (Option.some.inj hf)
        subst h9
        exact W.zret (pc := 74) hx hb hr (rfl) (fun t ht hW => ⟨⟨_, (), rfl, h8, by rw [ht]; exact hP, hD, hC⟩, hS.F ht⟩) hS.2.2 dM_drop_74
def M_refersTo_L5 (n : Nat) (σ : hT) (kx5 : Int32 → Int32 → Int32 → Int32 → Option (Int32)) : Nat → Int32 → Int32 → Int32 → Int32 → Option (Int32)
  | 0, _, _, _, _ => none
  | k + 1, p1, p2, p3, p4 => if in9 (p3 + 3) 25240 then if (xI σ 15 0 ((p3 + 3)).toNatClampNeg) ≤ p1 then kx5 p1 p2 p3 p4 else if p2 = 0 then Option.bind (M_refDrawing σ p3 p1) fun y13 => if y13 = p4 then M_refersTo_L5 n σ kx5 k (p1 + 1) 1 p3 p4 else M_refersTo_L5 n σ kx5 k (p1 + 1) 0 p3 p4 else M_refersTo_L5 n σ kx5 k (p1 + 1) 1 p3 p4 else none
def M_refersTo (n : Nat) (σ : hT) (a1 : Int32) (a2 : Int32) : Option (Int32) := lt9 (α := Int32 → Int32 → Int32 → Int32 → Option (Int32)) (fun (p1 : Int32) (p2 : Int32) (p3 : Int32) (p4 : Int32) => if p2 = 0 ∨ p2 = 1 then some p2 else none) fun kx5 => M_refersTo_L5 n σ kx5 n 0 0 a1 a2
set_option maxHeartbeats 4000000 in
set_option maxRecDepth 100000 in
theorem t_M_refersTo (l : Launch) (dC : Nat → ClassId) (dI : Nat → Nat → Nat) (ad : Nat → Nat → Nat) (ca : Nat → Nat → ClassId) (dom : List (Nat × Nat)) (n : Nat) (σ : hT) (a1 : Int32) (a2 : Int32) (hm0 : (4, 0) ∈ dom) (hN : dom.Nodup) (hC : clo dom σ.2.2) (ρ : Int32) (hf : M_refersTo n σ a1 a2 = some ρ) : Met l yM_refersTo (.code yM_refersTo cM_refersTo 5 (some .boolean) :: aw) ({ frames := 1, cells := 0, slots := 0, locals := 22 }) (hR (dC, dI) ad ca dom σ [.ref (ad 4 0), .int a1, .int a2]) (vp_Si (fun r => r = ρ)) 0 0 (fun _ => False) := by
  refine Met.ofW (cc := cM_refersTo) (maxL := 5) (ret := (some .boolean)) (by decide) rfl ?_
  intro p e s m args below meth c s₁ B hml hv
  obtain ⟨rfl, hv⟩ := hv
  have hx := B.exec
  have hb := B.bytes
  have hr := B.returns
  have hts : ∀ w ∈ aw, w.before _ s = true := fun w h => atoms_spec (ws := (.code yM_refersTo cM_refersTo 5 (some .boolean) :: aw)) B.pre w (List.mem_cons_of_mem _ h)
  have hown : s.vm.findClass RM = some m.cls := findClass_of_methodNamed B.named
  have hlocks := B.notSynchronized
  obtain ⟨hP, hK, hG⟩ := hv
  obtain ⟨H, hH⟩ : ∃ H, H = s.heap := ⟨_, rfl⟩
  rw [← hH] at hP ⊢
  unfold M_refersTo at hf
  have hl := lv_entry ([.ref (ad 4 0), .int a1, .int a2]) (n := 5) (Nat.le_of_ble_eq_true rfl)
  rw [lg_entry_eq]
  generalize (lg_sl ([.ref (ad 4 0), .int a1, .int a2]) ++ List.replicate (5 - (lg_sl ([.ref (ad 4 0), .int a1, .int a2])).length) Slot.unset).toArray = ls at hl ⊢
  have hl : lv_has ls 5 [(0, .ref (ad 4 0)), (1, .int a1), (2, .int a2)] := hl
  refine lv_iconst (pc := 0) (v := 0) hx hb dM_refersTo_0 (by decide) ?_
  refine lv_istore_n (pc := 1) hx hb dM_refersTo_1 rfl hl (by decide) rfl (fun ls hl => ?_)
  have hl : lv_has ls 5 [(3, .int 0), (0, .ref (ad 4 0)), (1, .int a1), (2, .int a2)] := hl
  refine lv_iconst (pc := 2) (v := 0) hx hb dM_refersTo_2 (by decide) ?_
  refine lv_istore (pc := 3) hx hb dM_refersTo_3 hl (by decide) rfl (fun ls hl => ?_)
  have hl : lv_has ls 5 [(4, .int 0), (3, .int 0), (0, .ref (ad 4 0)), (1, .int a1), (2, .int a2)] := hl
  obtain ⟨kx5, hkx5, hf⟩ := lt_9 hf
  refine lpF (τ := (Int32) × (Int32) × (Int32) × (Int32) × (Array Slot)) (fun pc z => W p l e _ s m _ below meth c H ([]) 0 0 _ (F0 m pc z.2.2.2.2 [])) 5 45 (fun z => lv_has z.2.2.2.2 5 [(4, .int z.1), (3, .int z.2.1), (0, .ref (ad 4 0)), (1, .int z.2.2.1), (2, .int z.2.2.2.1)]) (fun k z => M_refersTo_L5 n σ kx5 k z.1 z.2.1 z.2.2.1 z.2.2.2.1) (fun z => kx5 z.1 z.2.1 z.2.2.1 z.2.2.2.1) _ (fun z => rfl) ?_ ?_ n (0, 0, a1, a2, ls) hl hf
  · rintro k ⟨p1, p2, p3, p4, ls⟩ hl hf ih6 hXkx5
    dsimp only at hl hf ih6 hXkx5 ⊢
    unfold M_refersTo_L5 at hf
    have hl : lv_has ls 5 [(4, .int p1), (3, .int p2), (0, .ref (ad 4 0)), (1, .int p3), (2, .int p4)] := hl
    refine lv_iload (pc := 5) hx hb dM_refersTo_5 (lv_at hl 0 rfl) ?_
    refine lv_aload_n (pc := 7) hx hb dM_refersTo_7 rfl (lv_at hl 2 rfl) ?_
    obtain ⟨q7, hq7, eq7⟩ := at_4 (ad := ad) (ca := ca) (σ := σ) hm0
    refine va_get (D := (dC, dI)) (cl := kCl) (C := RM) (T := TM) (N := 11) (pc := 8) hx hb hts inM hown hK.1 hP q7 eq7 rfl 2 (by decide) (hts _ wd_51) (fun _ h9 => h9) rfl dM_refersTo_8 ?_
    refine lv_iload_n (pc := 11) hx hb dM_refersTo_11 rfl (lv_at hl 3 rfl) ?_
    refine lv_iconst (pc := 12) (v := 3) hx hb dM_refersTo_12 (by decide) ?_
    refine lv_iadd (pc := 13) hx hb dM_refersTo_13 ?_
    obtain ⟨hv8, hf⟩ := ite_s hf
    obtain ⟨q9, hq9, eq9⟩ := at_15 (ad := ad) (ca := ca) (σ := σ) (cm_4_2 hC hm0)
    refine va_iald (D := (dC, dI)) (cl := kCl) (pc := 14) hx hb (hK.2 15 0 .int (cm_4_2 hC hm0) rfl) hP q9 0 eq9 rfl (hv8) dM_refersTo_14 ?_
    refine W.eq (g2 := F0 m 15 ls [.int (xI σ 15 0 ((p3 + 3)).toNatClampNeg), .int p1]) rfl ?_
    refine lv_icmp_ge (pc := 15) (tgt := 45) hx hb dM_refersTo_15 rfl (fun h10 => ?_) (fun h10 => ?_)
    · replace hf := ite_t h10 hf
      have hl := lv_sub hl (l' := [(4, .int p1), (3, .int p2), (0, .ref (ad 4 0)), (1, .int p3), (2, .int p4)]) [0, 1, 2, 3, 4] rfl
      exact hXkx5 (p1, p2, p3, p4, ls) hl hf
    · replace hf := ite_f h10 hf
      refine lv_iload_n (pc := 18) hx hb dM_refersTo_18 rfl (lv_at hl 1 rfl) ?_
      refine lv_if_ne (pc := 19) (tgt := 33) hx hb dM_refersTo_19 rfl (fun h11 => ?_) (fun h11 => ?_)
      · replace hf := ite_f h11 hf
        refine lv_iconst (pc := 33) (v := 1) hx hb dM_refersTo_33 (by decide) ?_
        refine lv_goto (pc := 34) (tgt := 38) hx hb dM_refersTo_34 rfl ?_
        refine lv_istore_n (pc := 38) hx hb dM_refersTo_38 rfl hl (by decide) rfl (fun ls hl => ?_)
        have hl : lv_has ls 5 [(3, .int 1), (4, .int p1), (0, .ref (ad 4 0)), (1, .int p3), (2, .int p4)] := hl
        refine lv_iinc (pc := 39) (v := (p1 + 1)) hx hb dM_refersTo_39 hl (k := 1) rfl (by rfl) (by decide) rfl (fun ls hl => ?_)
        have hl : lv_has ls 5 [(4, .int (p1 + 1)), (3, .int 1), (0, .ref (ad 4 0)), (1, .int p3), (2, .int p4)] := hl
        refine lv_goto (pc := 42) (tgt := 5) hx hb dM_refersTo_42 rfl ?_
        have hl := lv_sub hl (l' := [(4, .int (p1 + 1)), (3, .int 1), (0, .ref (ad 4 0)), (1, .int p3), (2, .int p4)]) [0, 1, 2, 3, 4] rfl
        exact ih6 ((p1 + 1), 1, p3, p4, ls) hl hf
      · replace hf := ite_t h11 hf
        refine lv_aload_n (pc := 22) hx hb dM_refersTo_22 rfl (lv_at hl 2 rfl) ?_
        refine lv_iload_n (pc := 23) hx hb dM_refersTo_23 rfl (lv_at hl 3 rfl) ?_
        refine lv_iload (pc := 24) hx hb dM_refersTo_24 (lv_at hl 0 rfl) ?_
        obtain ⟨q12, hq12, eq12⟩ := at_4 (ad := ad) (ca := ca) (σ := σ) hm0
        obtain ⟨y13, hy13, hf⟩ := ob hf
        refine vp_callSi (pc := 26) (W.runV (As := [.int p3, .int p1]) (rest := []) ⟨hx, hb, hml, hown, hts⟩ (t_M_refDrawing l dC dI ad ca dom σ p3 p1 hm0 hN hC y13 hy13) (cwV 2 hts (gV wd_77 wd_78 wd_79 wd_50 wd_76) rfl rfl rfl (by decide +kernel) ⟨Nat.le_of_ble_eq_true rfl, Nat.le_of_ble_eq_true rfl⟩) ⟨hR_blind, va_recv (q := (RM, TM, 11)) (q0 := q12) (ci := 4) hK.1 hP rfl eq12, hR_pre hP hK hG⟩ rfl rfl hl.1 rfl (lv_room (Nat.le_of_ble_eq_true rfl)) dM_refersTo_26 ⟨Nat.le_of_ble_eq_true rfl, Nat.le_of_ble_eq_true rfl⟩) (fun r9 hr9 => ?_)
        refine W.eq (g2 := F0 m 29 ls [.int y13]) (by rw [hr9]) ?_
        refine lv_iload_n (pc := 29) hx hb dM_refersTo_29 rfl (lv_at hl 4 rfl) ?_
        refine lv_icmp_ne (pc := 30) (tgt := 37) hx hb dM_refersTo_30 rfl (fun h14 => ?_) (fun h14 => ?_)
        · replace hf := ite_f h14 hf
          refine lv_iconst (pc := 37) (v := 0) hx hb dM_refersTo_37 (by decide) ?_
          refine lv_istore_n (pc := 38) hx hb dM_refersTo_38 rfl hl (by decide) rfl (fun ls hl => ?_)
          have hl : lv_has ls 5 [(3, .int 0), (4, .int p1), (0, .ref (ad 4 0)), (1, .int p3), (2, .int p4)] := hl
          refine lv_iinc (pc := 39) (v := (p1 + 1)) hx hb dM_refersTo_39 hl (k := 1) rfl (by rfl) (by decide) rfl (fun ls hl => ?_)
          have hl : lv_has ls 5 [(4, .int (p1 + 1)), (3, .int 0), (0, .ref (ad 4 0)), (1, .int p3), (2, .int p4)] := hl
          refine lv_goto (pc := 42) (tgt := 5) hx hb dM_refersTo_42 rfl ?_
          have hl := lv_sub hl (l' := [(4, .int (p1 + 1)), (3, .int 0), (0, .ref (ad 4 0)), (1, .int p3), (2, .int p4)]) [0, 1, 2, 3, 4] rfl
          exact ih6 ((p1 + 1), 0, p3, p4, ls) hl hf
        · replace hf := ite_t h14 hf
          refine lv_iconst (pc := 33) (v := 1) hx hb dM_refersTo_33 (by decide) ?_
          refine lv_goto (pc := 34) (tgt := 38) hx hb dM_refersTo_34 rfl ?_
          refine lv_istore_n (pc := 38) hx hb dM_refersTo_38 rfl hl (by decide) rfl (fun ls hl => ?_)
          have hl : lv_has ls 5 [(3, .int 1), (4, .int p1), (0, .ref (ad 4 0)), (1, .int p3), (2, .int p4)] := hl
          refine lv_iinc (pc := 39) (v := (p1 + 1)) hx hb dM_refersTo_39 hl (k := 1) rfl (by rfl) (by decide) rfl (fun ls hl => ?_)
          have hl : lv_has ls 5 [(4, .int (p1 + 1)), (3, .int 1), (0, .ref (ad 4 0)), (1, .int p3), (2, .int p4)] := hl
          refine lv_goto (pc := 42) (tgt := 5) hx hb dM_refersTo_42 rfl ?_
          have hl := lv_sub hl (l' := [(4, .int (p1 + 1)), (3, .int 1), (0, .ref (ad 4 0)), (1, .int p3), (2, .int p4)]) [0, 1, 2, 3, 4] rfl
          exact ih6 ((p1 + 1), 1, p3, p4, ls) hl hf
  · rintro ⟨p1, p2, p3, p4, ls⟩ hl hf
    dsimp only at hl hf ⊢
    rw [hkx5] at hf
    have hl : lv_has ls 5 [(4, .int p1), (3, .int p2), (0, .ref (ad 4 0)), (1, .int p3), (2, .int p4)] := hl
    refine lv_iload_n (pc := 45) hx hb dM_refersTo_45 rfl (lv_at hl 1 rfl) ?_
    obtain ⟨hz9, hf⟩ := ite_s hf
    exact W.zret (pc := 46) hx hb hr (nar01 hz9) (fun t ht hW => ⟨_, rfl, (Option.some.inj hf), ht.trans hH⟩) (fun q h => nomatch h) dM_refersTo_46
def M_uses (n : Nat) (σ : hT) (a1 : Int32) (a2 : Int32) : Option (Int32) := Option.bind (M_made σ a1) fun y2 => Option.bind (M_refersTo n σ (M_revisionAt a1 (y2 - 1)) a2) fun y5 => if y5 = 0 ∨ y5 = 1 then some y5 else none
set_option maxHeartbeats 4000000 in
set_option maxRecDepth 100000 in
theorem t_M_uses (l : Launch) (dC : Nat → ClassId) (dI : Nat → Nat → Nat) (ad : Nat → Nat → Nat) (ca : Nat → Nat → ClassId) (dom : List (Nat × Nat)) (n : Nat) (σ : hT) (a1 : Int32) (a2 : Int32) (hm0 : (4, 0) ∈ dom) (hN : dom.Nodup) (hC : clo dom σ.2.2) (ρ : Int32) (hf : M_uses n σ a1 a2 = some ρ) : Met l yM_uses (.code yM_uses cM_uses 3 (some .boolean) :: aw) ({ frames := 2, cells := 0, slots := 0, locals := 46 }) (hR (dC, dI) ad ca dom σ [.ref (ad 4 0), .int a1, .int a2]) (vp_Si (fun r => r = ρ)) 0 0 (fun _ => False) := by
  refine Met.ofW (cc := cM_uses) (maxL := 3) (ret := (some .boolean)) (by decide) rfl ?_
  intro p e s m args below meth c s₁ B hml hv
  obtain ⟨rfl, hv⟩ := hv
  have hx := B.exec
  have hb := B.bytes
  have hr := B.returns
  have hts : ∀ w ∈ aw, w.before _ s = true := fun w h => atoms_spec (ws := (.code yM_uses cM_uses 3 (some .boolean) :: aw)) B.pre w (List.mem_cons_of_mem _ h)
  have hown : s.vm.findClass RM = some m.cls := findClass_of_methodNamed B.named
  have hlocks := B.notSynchronized
  obtain ⟨hP, hK, hG⟩ := hv
  obtain ⟨H, hH⟩ : ∃ H, H = s.heap := ⟨_, rfl⟩
  rw [← hH] at hP ⊢
  unfold M_uses at hf
  have hl := lv_entry ([.ref (ad 4 0), .int a1, .int a2]) (n := 3) (Nat.le_of_ble_eq_true rfl)
  rw [lg_entry_eq]
  generalize (lg_sl ([.ref (ad 4 0), .int a1, .int a2]) ++ List.replicate (3 - (lg_sl ([.ref (ad 4 0), .int a1, .int a2])).length) Slot.unset).toArray = ls at hl ⊢
  have hl : lv_has ls 3 [(0, .ref (ad 4 0)), (1, .int a1), (2, .int a2)] := hl
  refine lv_aload_n (pc := 0) hx hb dM_uses_0 rfl (lv_at hl 0 rfl) ?_
  refine lv_aload_n (pc := 1) hx hb dM_uses_1 rfl (lv_at hl 0 rfl) ?_
  refine lv_iload_n (pc := 2) hx hb dM_uses_2 rfl (lv_at hl 1 rfl) ?_
  refine lv_aload_n (pc := 3) hx hb dM_uses_3 rfl (lv_at hl 0 rfl) ?_
  refine lv_iload_n (pc := 4) hx hb dM_uses_4 rfl (lv_at hl 1 rfl) ?_
  obtain ⟨q1, hq1, eq1⟩ := at_4 (ad := ad) (ca := ca) (σ := σ) hm0
  obtain ⟨y2, hy2, hf⟩ := ob hf
  refine vp_callSi (pc := 5) (W.runV (As := [.int a1]) (rest := [.int a1, .ref (ad 4 0), .ref (ad 4 0)]) ⟨hx, hb, hml, hown, hts⟩ (t_M_made l dC dI ad ca dom σ a1 hm0 hN hC y2 hy2) (cwV 1 hts (gV wd_61 wd_62 wd_63 wd_50 wd_60) rfl rfl rfl (by decide +kernel) ⟨Nat.le_of_ble_eq_true rfl, Nat.le_of_ble_eq_true rfl⟩) ⟨hR_blind, va_recv (q := (RM, TM, 11)) (q0 := q1) (ci := 4) hK.1 hP rfl eq1, hR_pre hP hK hG⟩ rfl rfl hl.1 rfl (lv_room (Nat.le_of_ble_eq_true rfl)) dM_uses_5 ⟨Nat.le_of_ble_eq_true rfl, Nat.le_of_ble_eq_true rfl⟩) (fun r9 hr9 => ?_)
  refine W.eq (g2 := F0 m 8 ls [.int y2, .int a1, .ref (ad 4 0), .ref (ad 4 0)]) (by rw [hr9]) ?_
  refine lv_iconst (pc := 8) (v := 1) hx hb dM_uses_8 (by decide) ?_
  refine lv_isub (pc := 9) hx hb dM_uses_9 ?_
  obtain ⟨q3, hq3, eq3⟩ := at_4 (ad := ad) (ca := ca) (σ := σ) hm0
  refine vp_callSi (pc := 10) (W.runV (As := [.int a1, .int (y2 - 1)]) (rest := [.ref (ad 4 0)]) ⟨hx, hb, hml, hown, hts⟩ (t_M_revisionAt l dC dI ad ca dom a1 (y2 - 1) hm0 σ hN hC (M_revisionAt a1 (y2 - 1)) rfl) (cwV 2 hts (gV wd_65 wd_66 wd_67 wd_50 wd_64) rfl rfl rfl (by decide +kernel) ⟨Nat.le_of_ble_eq_true rfl, Nat.le_of_ble_eq_true rfl⟩) ⟨hR_blind, va_recv (q := (RM, TM, 11)) (q0 := q3) (ci := 4) hK.1 hP rfl eq3, hR_pre hP hK hG⟩ rfl rfl hl.1 rfl (lv_room (Nat.le_of_ble_eq_true rfl)) dM_uses_10 ⟨Nat.le_of_ble_eq_true rfl, Nat.le_of_ble_eq_true rfl⟩) (fun r9 hr9 => ?_)
  refine W.eq (g2 := F0 m 13 ls [.int (M_revisionAt a1 (y2 - 1)), .ref (ad 4 0)]) (by rw [hr9]) ?_
  refine lv_iload_n (pc := 13) hx hb dM_uses_13 rfl (lv_at hl 2 rfl) ?_
  obtain ⟨q4, hq4, eq4⟩ := at_4 (ad := ad) (ca := ca) (σ := σ) hm0
  obtain ⟨y5, hy5, hf⟩ := ob hf
  refine vp_callSi (pc := 14) (W.runV (As := [.int (M_revisionAt a1 (y2 - 1)), .int a2]) (rest := []) ⟨hx, hb, hml, hown, hts⟩ (t_M_refersTo l dC dI ad ca dom n σ (M_revisionAt a1 (y2 - 1)) a2 hm0 hN hC y5 hy5) (cwV 2 hts (gV wd_171 wd_172 wd_173 wd_50 wd_170) rfl rfl rfl (by decide +kernel) ⟨Nat.le_of_ble_eq_true rfl, Nat.le_of_ble_eq_true rfl⟩) ⟨hR_blind, va_recv (q := (RM, TM, 11)) (q0 := q4) (ci := 4) hK.1 hP rfl eq4, hR_pre hP hK hG⟩ rfl rfl hl.1 rfl (lv_room (Nat.le_of_ble_eq_true rfl)) dM_uses_14 ⟨Nat.le_of_ble_eq_true rfl, Nat.le_of_ble_eq_true rfl⟩) (fun r9 hr9 => ?_)
  refine W.eq (g2 := F0 m 17 ls [.int y5]) (by rw [hr9]) ?_
  obtain ⟨hz9, hf⟩ := ite_s hf
  exact W.zret (pc := 17) hx hb hr (nar01 hz9) (fun t ht hW => ⟨_, rfl, (Option.some.inj hf), ht.trans hH⟩) (fun q h => nomatch h) dM_uses_17
def M_markUsers_L66 (n : Nat) (kx39 : hT → Int32 → Int32 → Int32 → Int32 → Option (Unit × hT)) : Nat → hT → Int32 → Int32 → Int32 → Int32 → Option (Unit × hT)
  | 0, _, _, _, _, _ => none
  | k + 1, σ34, p35, p36, p37, p38 => if (xI σ34 15 0 16) ≤ p35 then kx39 (σ34) p35 p36 p37 p38 else if in9 p36 24 then lt9 (α := Int32 → Option (Unit × hT)) (fun (s49 : Int32) => if in9 p36 24 then lt9 (sI σ34 17 0 (p36).toNatClampNeg (nrZ s49)) fun σ58 => M_markUsers_L66 n kx39 k (σ58) (p35 + 1) p36 p37 p38 else none) fun x48 => if (xI σ34 17 0 (p36).toNatClampNeg) = 0 then if in9 p35 24 then if (xI σ34 17 0 (p35).toNatClampNeg) = 0 then x48 0 else Option.bind (M_uses n σ34 p36 p35) fun y56 => if y56 = 0 then x48 0 else x48 1 else none else x48 1 else none
def M_markUsers_L52 (n : Nat) (kx29 : hT → Int32 → Int32 → Int32 → Option (Unit × hT)) : Nat → hT → Int32 → Int32 → Int32 → Option (Unit × hT)
  | 0, _, _, _, _ => none
  | k + 1, σ25, p26, p27, p28 => if (xI σ25 15 0 16) ≤ p26 then kx29 (σ25) p26 p27 p28 else lt9 (α := hT → Int32 → Int32 → Int32 → Int32 → Option (Unit × hT)) (fun (σ34 : hT) (p35 : Int32) (p36 : Int32) (p37 : Int32) (p38 : Int32) => M_markUsers_L52 n kx29 k (σ34) (p36 + 1) p37 p38) fun kx39 => M_markUsers_L66 n kx39 n (σ25) 0 p26 p27 p28
def M_markUsers_L44 (n : Nat) (kx22 : hT → Int32 → Int32 → Option (Unit × hT)) : Nat → hT → Int32 → Int32 → Option (Unit × hT)
  | 0, _, _, _ => none
  | k + 1, σ19, p20, p21 => if 24 ≤ p20 then kx22 (σ19) p20 p21 else lt9 (α := hT → Int32 → Int32 → Int32 → Option (Unit × hT)) (fun (σ25 : hT) (p26 : Int32) (p27 : Int32) (p28 : Int32) => M_markUsers_L44 n kx22 k (σ25) (p27 + 1) p28) fun kx29 => M_markUsers_L52 n kx29 n (σ19) 0 p20 p21
def M_markUsers_L2 (n : Nat) (kx4 : hT → Int32 → Int32 → Option (Unit × hT)) : Nat → hT → Int32 → Int32 → Option (Unit × hT)
  | 0, _, _, _ => none
  | k + 1, σ1, p2, p3 => if 24 ≤ p2 then kx4 (σ1) p2 p3 else Option.bind (M_isDrawing σ1 p2) fun y9 => lt9 (α := Int32 → Option (Unit × hT)) (fun (s11 : Int32) => if in9 p2 24 then lt9 (sI σ1 17 0 (p2).toNatClampNeg (nrZ s11)) fun σ16 => M_markUsers_L2 n kx4 k (σ16) (p2 + 1) p3 else none) fun x10 => if y9 = 0 then x10 0 else Option.bind (M_uses n σ1 p2 p3) fun y14 => if y14 = 0 then x10 0 else x10 1
def M_markUsers (n : Nat) (σ : hT) (a1 : Int32) : Option (Unit × hT) := lt9 (α := hT → Int32 → Int32 → Option (Unit × hT)) (fun (σ1 : hT) (p2 : Int32) (p3 : Int32) => lt9 (α := hT → Int32 → Int32 → Option (Unit × hT)) (fun (σ19 : hT) (p20 : Int32) (p21 : Int32) => some ((), σ19)) fun kx22 => M_markUsers_L44 n kx22 n (σ1) 0 p3) fun kx4 => M_markUsers_L2 n kx4 n (σ) 0 a1
set_option maxHeartbeats 4000000 in
set_option maxRecDepth 100000 in
theorem t_M_markUsers (l : Launch) (dC : Nat → ClassId) (dI : Nat → Nat → Nat) (ad : Nat → Nat → Nat) (ca : Nat → Nat → ClassId) (dom : List (Nat × Nat)) (sz : Nat) (n : Nat) (σ : hT) (a1 : Int32) (hm0 : (4, 0) ∈ dom) (hN : dom.Nodup) (hC : clo dom σ.2.2) (ρ : Unit) (σ' : hT) (hf : M_markUsers n σ a1 = some (ρ, σ')) : Met l yM_markUsers (.code yM_markUsers cM_markUsers 5 none :: aw) ({ frames := 3, cells := 0, slots := 0, locals := 68 }) (hW (dC, dI) sz ad ca dom σ [.ref (ad 4 0), .int a1]) (va_Qv (fun (_ : Unit) => True) (fun _ t => hB (dC, dI) (va_A (w9 ad ca dom σ) sz) ad ca dom σ' t) (va_A (w9 ad ca dom σ) sz)) 0 0 (va_A (w9 ad ca dom σ) sz) := by
  refine Met.ofW (cc := cM_markUsers) (maxL := 5) (ret := none) (by decide) rfl ?_
  intro p e s m args below meth c s₁ B hml hv
  obtain ⟨rfl, hv⟩ := hv
  have hx := B.exec
  have hb := B.bytes
  have hr := B.returns
  have hts : ∀ w ∈ aw, w.before _ s = true := fun w h => atoms_spec (ws := (.code yM_markUsers cM_markUsers 5 none :: aw)) B.pre w (List.mem_cons_of_mem _ h)
  have hown : s.vm.findClass RM = some m.cls := findClass_of_methodNamed B.named
  have hlocks := B.notSynchronized
  obtain ⟨hsz, hP, hK, hD0, hG⟩ := hv
  subst hsz
  have hD := hD0.self (sz := s.heap.size)
  generalize hAe : va_A (w9 ad ca dom σ) s.heap.size = A at hD ⊢
  have hA : ∀ q : Nat, s.heap.size ≤ q → A q := fun q h => by rw [← hAe]; exact Or.inr h
  obtain ⟨H, hH⟩ : ∃ H, H = s.heap := ⟨_, rfl⟩
  have hS : va_S A s.heap H [] := by rw [hH]; exact va_S.rf
  rw [← hH] at hP ⊢
  unfold M_markUsers at hf
  have hl := lv_entry ([.ref (ad 4 0), .int a1]) (n := 5) (Nat.le_of_ble_eq_true rfl)
  rw [lg_entry_eq]
  generalize (lg_sl ([.ref (ad 4 0), .int a1]) ++ List.replicate (5 - (lg_sl ([.ref (ad 4 0), .int a1])).length) Slot.unset).toArray = ls at hl ⊢
  have hl : lv_has ls 5 [(0, .ref (ad 4 0)), (1, .int a1)] := hl
  refine lv_iconst (pc := 0) (v := 0) hx hb dM_markUsers_0 (by decide) ?_
  refine lv_istore_n (pc := 1) hx hb dM_markUsers_1 rfl hl (by decide) rfl (fun ls hl => ?_)
  have hl : lv_has ls 5 [(2, .int 0), (0, .ref (ad 4 0)), (1, .int a1)] := hl
  obtain ⟨kx4, hkx4, hf⟩ := lt_9 hf
  refine lpF (τ := (hT) × (Int32) × (Int32) × (Heap) × (List Loc) × (Array Slot)) (fun pc z => W p l e _ s m _ below meth c z.2.2.2.1 z.2.2.2.2.1 0 0 _ (F0 m pc z.2.2.2.2.2 [])) 2 42 (fun z => va_P (dC, dI) kCl (w9 ad ca dom z.1) z.2.2.2.1 ∧ va_D A (w9 ad ca dom z.1) ∧ va_S A s.heap z.2.2.2.1 z.2.2.2.2.1 ∧ clo dom z.1.2.2 ∧ lv_has z.2.2.2.2.2 5 [(2, .int z.2.1), (0, .ref (ad 4 0)), (1, .int z.2.2.1)]) (fun k z => M_markUsers_L2 n kx4 k z.1 z.2.1 z.2.2.1) (fun z => kx4 z.1 z.2.1 z.2.2.1) _ (fun z => rfl) ?_ ?_ n (σ, 0, a1, H, _, ls) ⟨hP, hD, hS, hC, hl⟩ hf
  · rintro k ⟨σ1, p2, p3, H, locs, ls⟩ ⟨hP, hD, hS, hC, hl⟩ hf ih5 hXkx4
    dsimp only at hP hD hS hC hl hf ih5 hXkx4 ⊢
    unfold M_markUsers_L2 at hf
    have hl : lv_has ls 5 [(2, .int p2), (0, .ref (ad 4 0)), (1, .int p3)] := hl
    refine lv_iload_n (pc := 2) hx hb dM_markUsers_2 rfl (lv_at hl 0 rfl) ?_
    refine lv_bipush (pc := 3) (v := 24) hx hb dM_markUsers_3 (by decide) ?_
    refine lv_icmp_ge (pc := 5) (tgt := 42) hx hb dM_markUsers_5 rfl (fun h6 => ?_) (fun h6 => ?_)
    · replace hf := ite_t h6 hf
      have hl := lv_sub hl (l' := [(2, .int p2), (0, .ref (ad 4 0)), (1, .int p3)]) [0, 1, 2] rfl
      exact hXkx4 (σ1, p2, p3, H, _, ls) ⟨hP, hD, hS, hC, hl⟩ hf
    · replace hf := ite_f h6 hf
      refine lv_aload_n (pc := 8) hx hb dM_markUsers_8 rfl (lv_at hl 1 rfl) ?_
      obtain ⟨q7, hq7, eq7⟩ := at_4 (ad := ad) (ca := ca) (σ := σ1) hm0
      refine va_get (D := (dC, dI)) (cl := kCl) (C := RM) (T := TM) (N := 11) (pc := 9) hx hb hts inM hown hK.1 hP q7 eq7 rfl 6 (by decide) (hts _ wd_174) (fun _ h9 => h9) rfl dM_markUsers_9 ?_
      refine lv_iload_n (pc := 12) hx hb dM_markUsers_12 rfl (lv_at hl 0 rfl) ?_
      refine lv_aload_n (pc := 13) hx hb dM_markUsers_13 rfl (lv_at hl 1 rfl) ?_
      refine lv_iload_n (pc := 14) hx hb dM_markUsers_14 rfl (lv_at hl 0 rfl) ?_
      obtain ⟨q8, hq8, eq8⟩ := at_4 (ad := ad) (ca := ca) (σ := σ1) hm0
      obtain ⟨y9, hy9, hf⟩ := ob hf
      refine vp_callSi (pc := 15) (W.runV (As := [.int p2]) (rest := [.int p2, .ref (ad 17 0)]) ⟨hx, hb, hml, hown, hts⟩ (t_M_isDrawing l dC dI ad ca dom σ1 p2 hm0 hN hC y9 hy9) (cwV 1 hts (gV wd_57 wd_58 wd_59 wd_50 wd_56) rfl rfl rfl (by decide +kernel) ⟨Nat.le_of_ble_eq_true rfl, Nat.le_of_ble_eq_true rfl⟩) ⟨hR_blind, va_recv (q := (RM, TM, 11)) (q0 := q8) (ci := 4) hK.1 hP rfl eq8, hR_pre hP hK hG⟩ rfl rfl hl.1 rfl (lv_room (Nat.le_of_ble_eq_true rfl)) dM_markUsers_15 ⟨Nat.le_of_ble_eq_true rfl, Nat.le_of_ble_eq_true rfl⟩) (fun r9 hr9 => ?_)
      refine W.eq (g2 := F0 m 18 ls [.int y9, .int p2, .ref (ad 17 0)]) (by rw [hr9]) ?_
      obtain ⟨x10, hx10, hf⟩ := lt_9 hf
      refine jnF (τ := (Int32) × (Heap) × (List Loc) × (Array Slot)) (fun pc st z => W p l e _ s m _ below meth c z.2.1 z.2.2.1 0 0 _ (F0 m pc z.2.2.2 st)) (pc0 := 18) (st0 := [.int y9, .int p2, .ref (ad 17 0)]) (z0 := (0, H, _, ls)) 35 (fun z => [.int z.1, .int p2, .ref (ad 17 0)]) (fun z => va_P (dC, dI) kCl (w9 ad ca dom (σ1)) z.2.1 ∧ va_D A (w9 ad ca dom (σ1)) ∧ va_S A s.heap z.2.1 z.2.2.1 ∧ lv_has z.2.2.2 5 [(2, .int p2), (0, .ref (ad 4 0)), (1, .int p3)]) (fun z => x10 z.1) (ρ, σ') ?_ ?_
      · intro hJx10
        dsimp only at hJx10 ⊢
        refine lv_if_eq (pc := 18) (tgt := 34) hx hb dM_markUsers_18 rfl (fun h12 => ?_) (fun h12 => ?_)
        · replace hf := ite_t h12 hf
          refine lv_iconst (pc := 34) (v := 0) hx hb dM_markUsers_34 (by decide) ?_
          have hl := lv_sub hl (l' := [(2, .int p2), (0, .ref (ad 4 0)), (1, .int p3)]) [0, 1, 2] rfl
          exact hJx10 (0, H, _, ls) ⟨hP, hD, hS, hl⟩ hf
        · replace hf := ite_f h12 hf
          refine lv_aload_n (pc := 21) hx hb dM_markUsers_21 rfl (lv_at hl 1 rfl) ?_
          refine lv_iload_n (pc := 22) hx hb dM_markUsers_22 rfl (lv_at hl 0 rfl) ?_
          refine lv_iload_n (pc := 23) hx hb dM_markUsers_23 rfl (lv_at hl 2 rfl) ?_
          obtain ⟨q13, hq13, eq13⟩ := at_4 (ad := ad) (ca := ca) (σ := σ1) hm0
          obtain ⟨y14, hy14, hf⟩ := ob hf
          refine vp_callSi (pc := 24) (W.runV (As := [.int p2, .int p3]) (rest := [.int p2, .ref (ad 17 0)]) ⟨hx, hb, hml, hown, hts⟩ (t_M_uses l dC dI ad ca dom n σ1 p2 p3 hm0 hN hC y14 hy14) (cwV 2 hts (gV wd_176 wd_177 wd_178 wd_50 wd_175) rfl rfl rfl (by decide +kernel) ⟨Nat.le_of_ble_eq_true rfl, Nat.le_of_ble_eq_true rfl⟩) ⟨hR_blind, va_recv (q := (RM, TM, 11)) (q0 := q13) (ci := 4) hK.1 hP rfl eq13, hR_pre hP hK hG⟩ rfl rfl hl.1 rfl (lv_room (Nat.le_of_ble_eq_true rfl)) dM_markUsers_24 ⟨Nat.le_of_ble_eq_true rfl, Nat.le_of_ble_eq_true rfl⟩) (fun r9 hr9 => ?_)
          refine W.eq (g2 := F0 m 27 ls [.int y14, .int p2, .ref (ad 17 0)]) (by rw [hr9]) ?_
          refine lv_if_eq (pc := 27) (tgt := 34) hx hb dM_markUsers_27 rfl (fun h15 => ?_) (fun h15 => ?_)
          · replace hf := ite_t h15 hf
            refine lv_iconst (pc := 34) (v := 0) hx hb dM_markUsers_34 (by decide) ?_
            have hl := lv_sub hl (l' := [(2, .int p2), (0, .ref (ad 4 0)), (1, .int p3)]) [0, 1, 2] rfl
            exact hJx10 (0, H, _, ls) ⟨hP, hD, hS, hl⟩ hf
          · replace hf := ite_f h15 hf
            refine lv_iconst (pc := 30) (v := 1) hx hb dM_markUsers_30 (by decide) ?_
            refine lv_goto (pc := 31) (tgt := 35) hx hb dM_markUsers_31 rfl ?_
            have hl := lv_sub hl (l' := [(2, .int p2), (0, .ref (ad 4 0)), (1, .int p3)]) [0, 1, 2] rfl
            exact hJx10 (1, H, _, ls) ⟨hP, hD, hS, hl⟩ hf
      · rintro ⟨s11, H, locs, ls⟩ ⟨hP, hD, hS, hl⟩ hf
        dsimp only at hP hD hS hl hf ⊢
        rw [hx10] at hf
        have hl : lv_has ls 5 [(2, .int p2), (0, .ref (ad 4 0)), (1, .int p3)] := hl
        obtain ⟨hv17, hf⟩ := ite_s hf
        obtain ⟨q18, hq18, eq18⟩ := at_17 (ad := ad) (ca := ca) (σ := σ1) (cm_4_6 hC hm0)
        refine va_zast (D := (dC, dI)) (cl := kCl) (pc := 35) hx hb (hK.2 17 0 .boolean (cm_4_6 hC hm0) rfl) hP hD hS q18 0 eq18 rfl (hv17) dM_markUsers_35 (fun H locs hP hD hS => ?_)
        rw [narZ] at hP hD
        obtain ⟨σ16, hσ16, hf⟩ := lt_9 hf
        obtain ⟨hP, hD⟩ := w9_rI 17 rfl hN hq18 hσ16 (pr_17) hP hD
        have hC : clo dom σ16.2.2 := by rw [hσ16]; exact hC
        refine lv_iinc (pc := 36) (v := (p2 + 1)) hx hb dM_markUsers_36 hl (k := 0) rfl (by rfl) (by decide) rfl (fun ls hl => ?_)
        have hl : lv_has ls 5 [(2, .int (p2 + 1)), (0, .ref (ad 4 0)), (1, .int p3)] := hl
        refine lv_goto (pc := 39) (tgt := 2) hx hb dM_markUsers_39 rfl ?_
        have hl := lv_sub hl (l' := [(2, .int (p2 + 1)), (0, .ref (ad 4 0)), (1, .int p3)]) [0, 1, 2] rfl
        exact ih5 (σ16, (p2 + 1), p3, H, _, ls) ⟨hP, hD, hS, hC, hl⟩ hf
  · rintro ⟨σ1, p2, p3, H, locs, ls⟩ ⟨hP, hD, hS, hC, hl⟩ hf
    dsimp only at hP hD hS hC hl hf ⊢
    rw [hkx4] at hf
    have hl : lv_has ls 5 [(2, .int p2), (0, .ref (ad 4 0)), (1, .int p3)] := hl
    refine lv_iconst (pc := 42) (v := 0) hx hb dM_markUsers_42 (by decide) ?_
    refine lv_istore_n (pc := 43) hx hb dM_markUsers_43 rfl hl (by decide) rfl (fun ls hl => ?_)
    have hl : lv_has ls 5 [(2, .int 0), (0, .ref (ad 4 0)), (1, .int p3)] := hl
    obtain ⟨kx22, hkx22, hf⟩ := lt_9 hf
    refine lpF (τ := (hT) × (Int32) × (Int32) × (Heap) × (List Loc) × (Array Slot)) (fun pc z => W p l e _ s m _ below meth c z.2.2.2.1 z.2.2.2.2.1 0 0 _ (F0 m pc z.2.2.2.2.2 [])) 44 136 (fun z => va_P (dC, dI) kCl (w9 ad ca dom z.1) z.2.2.2.1 ∧ va_D A (w9 ad ca dom z.1) ∧ va_S A s.heap z.2.2.2.1 z.2.2.2.2.1 ∧ clo dom z.1.2.2 ∧ lv_has z.2.2.2.2.2 5 [(2, .int z.2.1), (0, .ref (ad 4 0)), (1, .int z.2.2.1)]) (fun k z => M_markUsers_L44 n kx22 k z.1 z.2.1 z.2.2.1) (fun z => kx22 z.1 z.2.1 z.2.2.1) _ (fun z => rfl) ?_ ?_ n (σ1, 0, p3, H, _, ls) ⟨hP, hD, hS, hC, hl⟩ hf
    · rintro k ⟨σ19, p20, p21, H, locs, ls⟩ ⟨hP, hD, hS, hC, hl⟩ hf ih23 hXkx22
      dsimp only at hP hD hS hC hl hf ih23 hXkx22 ⊢
      unfold M_markUsers_L44 at hf
      have hl : lv_has ls 5 [(2, .int p20), (0, .ref (ad 4 0)), (1, .int p21)] := hl
      refine lv_iload_n (pc := 44) hx hb dM_markUsers_44 rfl (lv_at hl 0 rfl) ?_
      refine lv_bipush (pc := 45) (v := 24) hx hb dM_markUsers_45 (by decide) ?_
      refine lv_icmp_ge (pc := 47) (tgt := 136) hx hb dM_markUsers_47 rfl (fun h24 => ?_) (fun h24 => ?_)
      · replace hf := ite_t h24 hf
        have hl := lv_sub hl (l' := [(2, .int p20), (0, .ref (ad 4 0)), (1, .int p21)]) [0, 1, 2] rfl
        exact hXkx22 (σ19, p20, p21, H, _, ls) ⟨hP, hD, hS, hC, hl⟩ hf
      · replace hf := ite_f h24 hf
        refine lv_iconst (pc := 50) (v := 0) hx hb dM_markUsers_50 (by decide) ?_
        refine lv_istore_n (pc := 51) hx hb dM_markUsers_51 rfl hl (by decide) rfl (fun ls hl => ?_)
        have hl : lv_has ls 5 [(3, .int 0), (2, .int p20), (0, .ref (ad 4 0)), (1, .int p21)] := hl
        obtain ⟨kx29, hkx29, hf⟩ := lt_9 hf
        refine lpF (τ := (hT) × (Int32) × (Int32) × (Int32) × (Heap) × (List Loc) × (Array Slot)) (fun pc z => W p l e _ s m _ below meth c z.2.2.2.2.1 z.2.2.2.2.2.1 0 0 _ (F0 m pc z.2.2.2.2.2.2 [])) 52 130 (fun z => va_P (dC, dI) kCl (w9 ad ca dom z.1) z.2.2.2.2.1 ∧ va_D A (w9 ad ca dom z.1) ∧ va_S A s.heap z.2.2.2.2.1 z.2.2.2.2.2.1 ∧ clo dom z.1.2.2 ∧ lv_has z.2.2.2.2.2.2 5 [(3, .int z.2.1), (2, .int z.2.2.1), (0, .ref (ad 4 0)), (1, .int z.2.2.2.1)]) (fun k z => M_markUsers_L52 n kx29 k z.1 z.2.1 z.2.2.1 z.2.2.2.1) (fun z => kx29 z.1 z.2.1 z.2.2.1 z.2.2.2.1) _ (fun z => rfl) ?_ ?_ n (σ19, 0, p20, p21, H, _, ls) ⟨hP, hD, hS, hC, hl⟩ hf
        · rintro k ⟨σ25, p26, p27, p28, H, locs, ls⟩ ⟨hP, hD, hS, hC, hl⟩ hf ih30 hXkx29
          dsimp only at hP hD hS hC hl hf ih30 hXkx29 ⊢
          unfold M_markUsers_L52 at hf
          have hl : lv_has ls 5 [(3, .int p26), (2, .int p27), (0, .ref (ad 4 0)), (1, .int p28)] := hl
          refine lv_iload_n (pc := 52) hx hb dM_markUsers_52 rfl (lv_at hl 0 rfl) ?_
          refine lv_aload_n (pc := 53) hx hb dM_markUsers_53 rfl (lv_at hl 2 rfl) ?_
          obtain ⟨q31, hq31, eq31⟩ := at_4 (ad := ad) (ca := ca) (σ := σ25) hm0
          refine va_get (D := (dC, dI)) (cl := kCl) (C := RM) (T := TM) (N := 11) (pc := 54) hx hb hts inM hown hK.1 hP q31 eq31 rfl 2 (by decide) (hts _ wd_51) (fun _ h9 => h9) rfl dM_markUsers_54 ?_
          refine lv_bipush (pc := 57) (v := 16) hx hb dM_markUsers_57 (by decide) ?_
          obtain ⟨q32, hq32, eq32⟩ := at_15 (ad := ad) (ca := ca) (σ := σ25) (cm_4_2 hC hm0)
          refine va_iald (D := (dC, dI)) (cl := kCl) (pc := 59) hx hb (hK.2 15 0 .int (cm_4_2 hC hm0) rfl) hP q32 0 eq32 rfl (vp_in_lit 16 25240 (by decide)) dM_markUsers_59 ?_
          refine W.eq (g2 := F0 m 60 ls [.int (xI σ25 15 0 16), .int p26]) rfl ?_
          refine lv_icmp_ge (pc := 60) (tgt := 130) hx hb dM_markUsers_60 rfl (fun h33 => ?_) (fun h33 => ?_)
          · replace hf := ite_t h33 hf
            have hl := lv_sub hl (l' := [(3, .int p26), (2, .int p27), (0, .ref (ad 4 0)), (1, .int p28)]) [0, 1, 2, 3] rfl
            exact hXkx29 (σ25, p26, p27, p28, H, _, ls) ⟨hP, hD, hS, hC, hl⟩ hf
          · replace hf := ite_f h33 hf
            refine lv_iconst (pc := 63) (v := 0) hx hb dM_markUsers_63 (by decide) ?_
            refine lv_istore (pc := 64) hx hb dM_markUsers_64 hl (by decide) rfl (fun ls hl => ?_)
            have hl : lv_has ls 5 [(4, .int 0), (3, .int p26), (2, .int p27), (0, .ref (ad 4 0)), (1, .int p28)] := hl
            obtain ⟨kx39, hkx39, hf⟩ := lt_9 hf
            refine lpF (τ := (hT) × (Int32) × (Int32) × (Int32) × (Int32) × (Heap) × (List Loc) × (Array Slot)) (fun pc z => W p l e _ s m _ below meth c z.2.2.2.2.2.1 z.2.2.2.2.2.2.1 0 0 _ (F0 m pc z.2.2.2.2.2.2.2 [])) 66 124 (fun z => va_P (dC, dI) kCl (w9 ad ca dom z.1) z.2.2.2.2.2.1 ∧ va_D A (w9 ad ca dom z.1) ∧ va_S A s.heap z.2.2.2.2.2.1 z.2.2.2.2.2.2.1 ∧ clo dom z.1.2.2 ∧ lv_has z.2.2.2.2.2.2.2 5 [(4, .int z.2.1), (3, .int z.2.2.1), (2, .int z.2.2.2.1), (0, .ref (ad 4 0)), (1, .int z.2.2.2.2.1)]) (fun k z => M_markUsers_L66 n kx39 k z.1 z.2.1 z.2.2.1 z.2.2.2.1 z.2.2.2.2.1) (fun z => kx39 z.1 z.2.1 z.2.2.1 z.2.2.2.1 z.2.2.2.2.1) _ (fun z => rfl) ?_ ?_ n (σ25, 0, p26, p27, p28, H, _, ls) ⟨hP, hD, hS, hC, hl⟩ hf
            · rintro k ⟨σ34, p35, p36, p37, p38, H, locs, ls⟩ ⟨hP, hD, hS, hC, hl⟩ hf ih40 hXkx39
              dsimp only at hP hD hS hC hl hf ih40 hXkx39 ⊢
              unfold M_markUsers_L66 at hf
              have hl : lv_has ls 5 [(4, .int p35), (3, .int p36), (2, .int p37), (0, .ref (ad 4 0)), (1, .int p38)] := hl
              refine lv_iload (pc := 66) hx hb dM_markUsers_66 (lv_at hl 0 rfl) ?_
              refine lv_aload_n (pc := 68) hx hb dM_markUsers_68 rfl (lv_at hl 3 rfl) ?_
              obtain ⟨q41, hq41, eq41⟩ := at_4 (ad := ad) (ca := ca) (σ := σ34) hm0
              refine va_get (D := (dC, dI)) (cl := kCl) (C := RM) (T := TM) (N := 11) (pc := 69) hx hb hts inM hown hK.1 hP q41 eq41 rfl 2 (by decide) (hts _ wd_51) (fun _ h9 => h9) rfl dM_markUsers_69 ?_
              refine lv_bipush (pc := 72) (v := 16) hx hb dM_markUsers_72 (by decide) ?_
              obtain ⟨q42, hq42, eq42⟩ := at_15 (ad := ad) (ca := ca) (σ := σ34) (cm_4_2 hC hm0)
              refine va_iald (D := (dC, dI)) (cl := kCl) (pc := 74) hx hb (hK.2 15 0 .int (cm_4_2 hC hm0) rfl) hP q42 0 eq42 rfl (vp_in_lit 16 25240 (by decide)) dM_markUsers_74 ?_
              refine W.eq (g2 := F0 m 75 ls [.int (xI σ34 15 0 16), .int p35]) rfl ?_
              refine lv_icmp_ge (pc := 75) (tgt := 124) hx hb dM_markUsers_75 rfl (fun h43 => ?_) (fun h43 => ?_)
              · replace hf := ite_t h43 hf
                have hl := lv_sub hl (l' := [(4, .int p35), (3, .int p36), (2, .int p37), (0, .ref (ad 4 0)), (1, .int p38)]) [0, 1, 2, 3, 4] rfl
                exact hXkx39 (σ34, p35, p36, p37, p38, H, _, ls) ⟨hP, hD, hS, hC, hl⟩ hf
              · replace hf := ite_f h43 hf
                refine lv_aload_n (pc := 78) hx hb dM_markUsers_78 rfl (lv_at hl 3 rfl) ?_
                obtain ⟨q44, hq44, eq44⟩ := at_4 (ad := ad) (ca := ca) (σ := σ34) hm0
                refine va_get (D := (dC, dI)) (cl := kCl) (C := RM) (T := TM) (N := 11) (pc := 79) hx hb hts inM hown hK.1 hP q44 eq44 rfl 6 (by decide) (hts _ wd_174) (fun _ h9 => h9) rfl dM_markUsers_79 ?_
                refine lv_iload_n (pc := 82) hx hb dM_markUsers_82 rfl (lv_at hl 1 rfl) ?_
                refine lv_aload_n (pc := 83) hx hb dM_markUsers_83 rfl (lv_at hl 3 rfl) ?_
                obtain ⟨q45, hq45, eq45⟩ := at_4 (ad := ad) (ca := ca) (σ := σ34) hm0
                refine va_get (D := (dC, dI)) (cl := kCl) (C := RM) (T := TM) (N := 11) (pc := 84) hx hb hts inM hown hK.1 hP q45 eq45 rfl 6 (by decide) (hts _ wd_174) (fun _ h9 => h9) rfl dM_markUsers_84 ?_
                refine lv_iload_n (pc := 87) hx hb dM_markUsers_87 rfl (lv_at hl 1 rfl) ?_
                obtain ⟨hv46, hf⟩ := ite_s hf
                obtain ⟨q47, hq47, eq47⟩ := at_17 (ad := ad) (ca := ca) (σ := σ34) (cm_4_6 hC hm0)
                refine va_zald (D := (dC, dI)) (cl := kCl) (pc := 88) hx hb (hK.2 17 0 .boolean (cm_4_6 hC hm0) rfl) hP q47 0 eq47 rfl (hv46) dM_markUsers_88 ?_
                refine W.eq (g2 := F0 m 89 ls [.int (xI σ34 17 0 (p36).toNatClampNeg), .int p36, .ref (ad 17 0)]) rfl ?_
                obtain ⟨x48, hx48, hf⟩ := lt_9 hf
                refine jnF (τ := (Int32) × (Heap) × (List Loc) × (Array Slot)) (fun pc st z => W p l e _ s m _ below meth c z.2.1 z.2.2.1 0 0 _ (F0 m pc z.2.2.2 st)) (pc0 := 89) (st0 := [.int (xI σ34 17 0 (p36).toNatClampNeg), .int p36, .ref (ad 17 0)]) (z0 := (0, H, _, ls)) 117 (fun z => [.int z.1, .int p36, .ref (ad 17 0)]) (fun z => va_P (dC, dI) kCl (w9 ad ca dom (σ34)) z.2.1 ∧ va_D A (w9 ad ca dom (σ34)) ∧ va_S A s.heap z.2.1 z.2.2.1 ∧ lv_has z.2.2.2 5 [(4, .int p35), (3, .int p36), (2, .int p37), (0, .ref (ad 4 0)), (1, .int p38)]) (fun z => x48 z.1) (ρ, σ') ?_ ?_
                · intro hJx48
                  dsimp only at hJx48 ⊢
                  refine lv_if_ne (pc := 89) (tgt := 112) hx hb dM_markUsers_89 rfl (fun h50 => ?_) (fun h50 => ?_)
                  · replace hf := ite_f h50 hf
                    refine lv_iconst (pc := 112) (v := 1) hx hb dM_markUsers_112 (by decide) ?_
                    refine lv_goto (pc := 113) (tgt := 117) hx hb dM_markUsers_113 rfl ?_
                    have hl := lv_sub hl (l' := [(4, .int p35), (3, .int p36), (2, .int p37), (0, .ref (ad 4 0)), (1, .int p38)]) [0, 1, 2, 3, 4] rfl
                    exact hJx48 (1, H, _, ls) ⟨hP, hD, hS, hl⟩ hf
                  · replace hf := ite_t h50 hf
                    refine lv_aload_n (pc := 92) hx hb dM_markUsers_92 rfl (lv_at hl 3 rfl) ?_
                    obtain ⟨q51, hq51, eq51⟩ := at_4 (ad := ad) (ca := ca) (σ := σ34) hm0
                    refine va_get (D := (dC, dI)) (cl := kCl) (C := RM) (T := TM) (N := 11) (pc := 93) hx hb hts inM hown hK.1 hP q51 eq51 rfl 6 (by decide) (hts _ wd_174) (fun _ h9 => h9) rfl dM_markUsers_93 ?_
                    refine lv_iload (pc := 96) hx hb dM_markUsers_96 (lv_at hl 0 rfl) ?_
                    obtain ⟨hv52, hf⟩ := ite_s hf
                    obtain ⟨q53, hq53, eq53⟩ := at_17 (ad := ad) (ca := ca) (σ := σ34) (cm_4_6 hC hm0)
                    refine va_zald (D := (dC, dI)) (cl := kCl) (pc := 98) hx hb (hK.2 17 0 .boolean (cm_4_6 hC hm0) rfl) hP q53 0 eq53 rfl (hv52) dM_markUsers_98 ?_
                    refine W.eq (g2 := F0 m 99 ls [.int (xI σ34 17 0 (p35).toNatClampNeg), .int p36, .ref (ad 17 0)]) rfl ?_
                    refine lv_if_eq (pc := 99) (tgt := 116) hx hb dM_markUsers_99 rfl (fun h54 => ?_) (fun h54 => ?_)
                    · replace hf := ite_t h54 hf
                      refine lv_iconst (pc := 116) (v := 0) hx hb dM_markUsers_116 (by decide) ?_
                      have hl := lv_sub hl (l' := [(4, .int p35), (3, .int p36), (2, .int p37), (0, .ref (ad 4 0)), (1, .int p38)]) [0, 1, 2, 3, 4] rfl
                      exact hJx48 (0, H, _, ls) ⟨hP, hD, hS, hl⟩ hf
                    · replace hf := ite_f h54 hf
                      refine lv_aload_n (pc := 102) hx hb dM_markUsers_102 rfl (lv_at hl 3 rfl) ?_
                      refine lv_iload_n (pc := 103) hx hb dM_markUsers_103 rfl (lv_at hl 1 rfl) ?_
                      refine lv_iload (pc := 104) hx hb dM_markUsers_104 (lv_at hl 0 rfl) ?_
                      obtain ⟨q55, hq55, eq55⟩ := at_4 (ad := ad) (ca := ca) (σ := σ34) hm0
                      obtain ⟨y56, hy56, hf⟩ := ob hf
                      refine vp_callSi (pc := 106) (W.runV (As := [.int p36, .int p35]) (rest := [.int p36, .ref (ad 17 0)]) ⟨hx, hb, hml, hown, hts⟩ (t_M_uses l dC dI ad ca dom n σ34 p36 p35 hm0 hN hC y56 hy56) (cwV 2 hts (gV wd_176 wd_177 wd_178 wd_50 wd_175) rfl rfl rfl (by decide +kernel) ⟨Nat.le_of_ble_eq_true rfl, Nat.le_of_ble_eq_true rfl⟩) ⟨hR_blind, va_recv (q := (RM, TM, 11)) (q0 := q55) (ci := 4) hK.1 hP rfl eq55, hR_pre hP hK hG⟩ rfl rfl hl.1 rfl (lv_room (Nat.le_of_ble_eq_true rfl)) dM_markUsers_106 ⟨Nat.le_of_ble_eq_true rfl, Nat.le_of_ble_eq_true rfl⟩) (fun r9 hr9 => ?_)
                      refine W.eq (g2 := F0 m 109 ls [.int y56, .int p36, .ref (ad 17 0)]) (by rw [hr9]) ?_
                      refine lv_if_eq (pc := 109) (tgt := 116) hx hb dM_markUsers_109 rfl (fun h57 => ?_) (fun h57 => ?_)
                      · replace hf := ite_t h57 hf
                        refine lv_iconst (pc := 116) (v := 0) hx hb dM_markUsers_116 (by decide) ?_
                        have hl := lv_sub hl (l' := [(4, .int p35), (3, .int p36), (2, .int p37), (0, .ref (ad 4 0)), (1, .int p38)]) [0, 1, 2, 3, 4] rfl
                        exact hJx48 (0, H, _, ls) ⟨hP, hD, hS, hl⟩ hf
                      · replace hf := ite_f h57 hf
                        refine lv_iconst (pc := 112) (v := 1) hx hb dM_markUsers_112 (by decide) ?_
                        refine lv_goto (pc := 113) (tgt := 117) hx hb dM_markUsers_113 rfl ?_
                        have hl := lv_sub hl (l' := [(4, .int p35), (3, .int p36), (2, .int p37), (0, .ref (ad 4 0)), (1, .int p38)]) [0, 1, 2, 3, 4] rfl
                        exact hJx48 (1, H, _, ls) ⟨hP, hD, hS, hl⟩ hf
                · rintro ⟨s49, H, locs, ls⟩ ⟨hP, hD, hS, hl⟩ hf
                  dsimp only at hP hD hS hl hf ⊢
                  rw [hx48] at hf
                  have hl : lv_has ls 5 [(4, .int p35), (3, .int p36), (2, .int p37), (0, .ref (ad 4 0)), (1, .int p38)] := hl
                  obtain ⟨hv59, hf⟩ := ite_s hf
                  obtain ⟨q60, hq60, eq60⟩ := at_17 (ad := ad) (ca := ca) (σ := σ34) (cm_4_6 hC hm0)
                  refine va_zast (D := (dC, dI)) (cl := kCl) (pc := 117) hx hb (hK.2 17 0 .boolean (cm_4_6 hC hm0) rfl) hP hD hS q60 0 eq60 rfl (hv59) dM_markUsers_117 (fun H locs hP hD hS => ?_)
                  rw [narZ] at hP hD
                  obtain ⟨σ58, hσ58, hf⟩ := lt_9 hf
                  obtain ⟨hP, hD⟩ := w9_rI 17 rfl hN hq60 hσ58 (pr_17) hP hD
                  have hC : clo dom σ58.2.2 := by rw [hσ58]; exact hC
                  refine lv_iinc (pc := 118) (v := (p35 + 1)) hx hb dM_markUsers_118 hl (k := 0) rfl (by rfl) (by decide) rfl (fun ls hl => ?_)
                  have hl : lv_has ls 5 [(4, .int (p35 + 1)), (3, .int p36), (2, .int p37), (0, .ref (ad 4 0)), (1, .int p38)] := hl
                  refine lv_goto (pc := 121) (tgt := 66) hx hb dM_markUsers_121 rfl ?_
                  have hl := lv_sub hl (l' := [(4, .int (p35 + 1)), (3, .int p36), (2, .int p37), (0, .ref (ad 4 0)), (1, .int p38)]) [0, 1, 2, 3, 4] rfl
                  exact ih40 (σ58, (p35 + 1), p36, p37, p38, H, _, ls) ⟨hP, hD, hS, hC, hl⟩ hf
            · rintro ⟨σ34, p35, p36, p37, p38, H, locs, ls⟩ ⟨hP, hD, hS, hC, hl⟩ hf
              dsimp only at hP hD hS hC hl hf ⊢
              rw [hkx39] at hf
              have hl : lv_has ls 5 [(4, .int p35), (3, .int p36), (2, .int p37), (0, .ref (ad 4 0)), (1, .int p38)] := hl
              refine lv_iinc (pc := 124) (v := (p36 + 1)) hx hb dM_markUsers_124 hl (k := 1) rfl (by rfl) (by decide) rfl (fun ls hl => ?_)
              have hl : lv_has ls 5 [(3, .int (p36 + 1)), (4, .int p35), (2, .int p37), (0, .ref (ad 4 0)), (1, .int p38)] := hl
              refine lv_goto (pc := 127) (tgt := 52) hx hb dM_markUsers_127 rfl ?_
              have hl := lv_sub hl (l' := [(3, .int (p36 + 1)), (2, .int p37), (0, .ref (ad 4 0)), (1, .int p38)]) [0, 2, 3, 4] rfl
              exact ih30 (σ34, (p36 + 1), p37, p38, H, _, ls) ⟨hP, hD, hS, hC, hl⟩ hf
        · rintro ⟨σ25, p26, p27, p28, H, locs, ls⟩ ⟨hP, hD, hS, hC, hl⟩ hf
          dsimp only at hP hD hS hC hl hf ⊢
          rw [hkx29] at hf
          have hl : lv_has ls 5 [(3, .int p26), (2, .int p27), (0, .ref (ad 4 0)), (1, .int p28)] := hl
          refine lv_iinc (pc := 130) (v := (p27 + 1)) hx hb dM_markUsers_130 hl (k := 1) rfl (by rfl) (by decide) rfl (fun ls hl => ?_)
          have hl : lv_has ls 5 [(2, .int (p27 + 1)), (3, .int p26), (0, .ref (ad 4 0)), (1, .int p28)] := hl
          refine lv_goto (pc := 133) (tgt := 44) hx hb dM_markUsers_133 rfl ?_
          have hl := lv_sub hl (l' := [(2, .int (p27 + 1)), (0, .ref (ad 4 0)), (1, .int p28)]) [0, 2, 3] rfl
          exact ih23 (σ25, (p27 + 1), p28, H, _, ls) ⟨hP, hD, hS, hC, hl⟩ hf
    · rintro ⟨σ19, p20, p21, H, locs, ls⟩ ⟨hP, hD, hS, hC, hl⟩ hf
      dsimp only at hP hD hS hC hl hf ⊢
      rw [hkx22] at hf
      have hl : lv_has ls 5 [(2, .int p20), (0, .ref (ad 4 0)), (1, .int p21)] := hl
      obtain ⟨h8, h9⟩ := Prod.mk.inj (Option.some.inj hf)
      subst h9
      exact W.vret (pc := 136) hx hb hr (fun t ht hW => ⟨⟨(), rfl, trivial, by rw [ht]; exact hP, hD, hC⟩, hS.F ht⟩) hS.2.2 dM_markUsers_136
def M_loops_L18 (n : Nat) (kx11 : hT → Int32 → Int32 → Int32 → Option (Int32 × hT)) : Nat → hT → Int32 → Int32 → Int32 → Option (Int32 × hT)
  | 0, _, _, _, _ => none
  | k + 1, σ7, p8, p9, p10 => if (xI σ7 15 0 16) ≤ p8 then kx11 (σ7) p8 p9 p10 else if p9 = 0 then if in9 p8 24 then if (xI σ7 17 0 (p8).toNatClampNeg) = 0 then M_loops_L18 n kx11 k (σ7) (p8 + 1) 0 p10 else Option.bind (M_refersTo n σ7 (M_drawingAt p10) p8) fun y23 => if y23 = 0 then M_loops_L18 n kx11 k (σ7) (p8 + 1) 0 p10 else M_loops_L18 n kx11 k (σ7) (p8 + 1) 1 p10 else none else M_loops_L18 n kx11 k (σ7) (p8 + 1) 1 p10
def M_loops (n : Nat) (σ : hT) (a1 : Int32) : Option (Int32 × hT) := Option.bind (M_markUsers n σ a1) fun ⟨y2, σ3⟩ => Option.bind (M_refersTo n σ3 (M_drawingAt a1) a1) fun y6 => lt9 (α := hT → Int32 → Int32 → Int32 → Option (Int32 × hT)) (fun (σ7 : hT) (p8 : Int32) (p9 : Int32) (p10 : Int32) => if p9 = 0 ∨ p9 = 1 then some (p9, σ7) else none) fun kx11 => M_loops_L18 n kx11 n (σ3) 0 y6 a1
set_option maxHeartbeats 4000000 in
set_option maxRecDepth 100000 in
theorem t_M_loops (l : Launch) (dC : Nat → ClassId) (dI : Nat → Nat → Nat) (ad : Nat → Nat → Nat) (ca : Nat → Nat → ClassId) (dom : List (Nat × Nat)) (sz : Nat) (n : Nat) (σ : hT) (a1 : Int32) (hm0 : (4, 0) ∈ dom) (hN : dom.Nodup) (hC : clo dom σ.2.2) (ρ : Int32) (σ' : hT) (hf : M_loops n σ a1 = some (ρ, σ')) : Met l yM_loops (.code yM_loops cM_loops 4 (some .boolean) :: aw) ({ frames := 4, cells := 0, slots := 0, locals := 92 }) (hW (dC, dI) sz ad ca dom σ [.ref (ad 4 0), .int a1]) (va_Qi (fun r (_ : Unit) => r = ρ) (fun _ t => hB (dC, dI) (va_A (w9 ad ca dom σ) sz) ad ca dom σ' t) (va_A (w9 ad ca dom σ) sz)) 0 0 (va_A (w9 ad ca dom σ) sz) := by
  refine Met.ofW (cc := cM_loops) (maxL := 4) (ret := (some .boolean)) (by decide) rfl ?_
  intro p e s m args below meth c s₁ B hml hv
  obtain ⟨rfl, hv⟩ := hv
  have hx := B.exec
  have hb := B.bytes
  have hr := B.returns
  have hts : ∀ w ∈ aw, w.before _ s = true := fun w h => atoms_spec (ws := (.code yM_loops cM_loops 4 (some .boolean) :: aw)) B.pre w (List.mem_cons_of_mem _ h)
  have hown : s.vm.findClass RM = some m.cls := findClass_of_methodNamed B.named
  have hlocks := B.notSynchronized
  obtain ⟨hsz, hP, hK, hD0, hG⟩ := hv
  subst hsz
  have hD := hD0.self (sz := s.heap.size)
  generalize hAe : va_A (w9 ad ca dom σ) s.heap.size = A at hD ⊢
  have hA : ∀ q : Nat, s.heap.size ≤ q → A q := fun q h => by rw [← hAe]; exact Or.inr h
  obtain ⟨H, hH⟩ : ∃ H, H = s.heap := ⟨_, rfl⟩
  have hS : va_S A s.heap H [] := by rw [hH]; exact va_S.rf
  rw [← hH] at hP ⊢
  unfold M_loops at hf
  have hl := lv_entry ([.ref (ad 4 0), .int a1]) (n := 4) (Nat.le_of_ble_eq_true rfl)
  rw [lg_entry_eq]
  generalize (lg_sl ([.ref (ad 4 0), .int a1]) ++ List.replicate (4 - (lg_sl ([.ref (ad 4 0), .int a1])).length) Slot.unset).toArray = ls at hl ⊢
  have hl : lv_has ls 4 [(0, .ref (ad 4 0)), (1, .int a1)] := hl
  refine lv_aload_n (pc := 0) hx hb dM_loops_0 rfl (lv_at hl 0 rfl) ?_
  refine lv_iload_n (pc := 1) hx hb dM_loops_1 rfl (lv_at hl 1 rfl) ?_
  obtain ⟨q1, hq1, eq1⟩ := at_4 (ad := ad) (ca := ca) (σ := σ) hm0
  obtain ⟨⟨y2, σ3⟩, hy2, hf⟩ := ob hf
  have hFc := w9_free hD hS hA
  refine va_callv (pc := 2) (va_runV (As := [.int a1]) (rest := []) ⟨hx, hb, hml, hown, hts⟩ (t_M_markUsers l dC dI ad ca dom H.size n σ a1 hm0 hN hC y2 σ3 hy2) (cwV 1 hts (gV wd_180 wd_181 wd_182 wd_50 wd_179) rfl rfl rfl (by decide +kernel) ⟨Nat.le_of_ble_eq_true rfl, Nat.le_of_ble_eq_true rfl⟩) ⟨hW_blind, va_recv (q := (RM, TM, 11)) (q0 := q1) (ci := 4) hK.1 hP rfl eq1, hW_pre hP hK hD hG⟩ rfl rfl hl.1 rfl (lv_room (Nat.le_of_ble_eq_true rfl)) dM_loops_2 ⟨Nat.le_of_ble_eq_true rfl, Nat.le_of_ble_eq_true rfl⟩) hS (fun q _ h => hFc q h) hFc (fun u t H1 locs ht hvm hr9 hB hz1 hk1 hS => ?_)
  obtain ⟨hP, hD, hC⟩ := hB
  rw [ht] at hP
  replace hD := hD.weaken (fun _ _ _ h => hFc _ h)
  generalize H1 = H at hP hS ⊢
  refine lv_aload_n (pc := 5) hx hb dM_loops_5 rfl (lv_at hl 0 rfl) ?_
  refine lv_aload_n (pc := 6) hx hb dM_loops_6 rfl (lv_at hl 0 rfl) ?_
  refine lv_iload_n (pc := 7) hx hb dM_loops_7 rfl (lv_at hl 1 rfl) ?_
  obtain ⟨q4, hq4, eq4⟩ := at_4 (ad := ad) (ca := ca) (σ := σ3) hm0
  refine vp_callSi (pc := 8) (W.runV (As := [.int a1]) (rest := [.ref (ad 4 0)]) ⟨hx, hb, hml, hown, hts⟩ (t_M_drawingAt l dC dI ad ca dom a1 hm0 σ3 hN hC (M_drawingAt a1) rfl) (cwV 1 hts (gV wd_53 wd_54 wd_55 wd_50 wd_52) rfl rfl rfl (by decide +kernel) ⟨Nat.le_of_ble_eq_true rfl, Nat.le_of_ble_eq_true rfl⟩) ⟨hR_blind, va_recv (q := (RM, TM, 11)) (q0 := q4) (ci := 4) hK.1 hP rfl eq4, hR_pre hP hK hG⟩ rfl rfl hl.1 rfl (lv_room (Nat.le_of_ble_eq_true rfl)) dM_loops_8 ⟨Nat.le_of_ble_eq_true rfl, Nat.le_of_ble_eq_true rfl⟩) (fun r9 hr9 => ?_)
  refine W.eq (g2 := F0 m 11 ls [.int (M_drawingAt a1), .ref (ad 4 0)]) (by rw [hr9]) ?_
  refine lv_iload_n (pc := 11) hx hb dM_loops_11 rfl (lv_at hl 1 rfl) ?_
  obtain ⟨q5, hq5, eq5⟩ := at_4 (ad := ad) (ca := ca) (σ := σ3) hm0
  obtain ⟨y6, hy6, hf⟩ := ob hf
  refine vp_callSi (pc := 12) (W.runV (As := [.int (M_drawingAt a1), .int a1]) (rest := []) ⟨hx, hb, hml, hown, hts⟩ (t_M_refersTo l dC dI ad ca dom n σ3 (M_drawingAt a1) a1 hm0 hN hC y6 hy6) (cwV 2 hts (gV wd_171 wd_172 wd_173 wd_50 wd_170) rfl rfl rfl (by decide +kernel) ⟨Nat.le_of_ble_eq_true rfl, Nat.le_of_ble_eq_true rfl⟩) ⟨hR_blind, va_recv (q := (RM, TM, 11)) (q0 := q5) (ci := 4) hK.1 hP rfl eq5, hR_pre hP hK hG⟩ rfl rfl hl.1 rfl (lv_room (Nat.le_of_ble_eq_true rfl)) dM_loops_12 ⟨Nat.le_of_ble_eq_true rfl, Nat.le_of_ble_eq_true rfl⟩) (fun r9 hr9 => ?_)
  refine W.eq (g2 := F0 m 15 ls [.int y6]) (by rw [hr9]) ?_
  refine lv_istore_n (pc := 15) hx hb dM_loops_15 rfl hl (by decide) rfl (fun ls hl => ?_)
  have hl : lv_has ls 4 [(2, .int y6), (0, .ref (ad 4 0)), (1, .int a1)] := hl
  refine lv_iconst (pc := 16) (v := 0) hx hb dM_loops_16 (by decide) ?_
  refine lv_istore_n (pc := 17) hx hb dM_loops_17 rfl hl (by decide) rfl (fun ls hl => ?_)
  have hl : lv_has ls 4 [(3, .int 0), (2, .int y6), (0, .ref (ad 4 0)), (1, .int a1)] := hl
  obtain ⟨kx11, hkx11, hf⟩ := lt_9 hf
  refine lpF (τ := (hT) × (Int32) × (Int32) × (Int32) × (Heap) × (List Loc) × (Array Slot)) (fun pc z => W p l e _ s m _ below meth c z.2.2.2.2.1 z.2.2.2.2.2.1 0 0 _ (F0 m pc z.2.2.2.2.2.2 [])) 18 67 (fun z => va_P (dC, dI) kCl (w9 ad ca dom z.1) z.2.2.2.2.1 ∧ va_D A (w9 ad ca dom z.1) ∧ va_S A s.heap z.2.2.2.2.1 z.2.2.2.2.2.1 ∧ clo dom z.1.2.2 ∧ lv_has z.2.2.2.2.2.2 4 [(3, .int z.2.1), (2, .int z.2.2.1), (0, .ref (ad 4 0)), (1, .int z.2.2.2.1)]) (fun k z => M_loops_L18 n kx11 k z.1 z.2.1 z.2.2.1 z.2.2.2.1) (fun z => kx11 z.1 z.2.1 z.2.2.1 z.2.2.2.1) _ (fun z => rfl) ?_ ?_ n (σ3, 0, y6, a1, H, _, ls) ⟨hP, hD, hS, hC, hl⟩ hf
  · rintro k ⟨σ7, p8, p9, p10, H, locs, ls⟩ ⟨hP, hD, hS, hC, hl⟩ hf ih12 hXkx11
    dsimp only at hP hD hS hC hl hf ih12 hXkx11 ⊢
    unfold M_loops_L18 at hf
    have hl : lv_has ls 4 [(3, .int p8), (2, .int p9), (0, .ref (ad 4 0)), (1, .int p10)] := hl
    refine lv_iload_n (pc := 18) hx hb dM_loops_18 rfl (lv_at hl 0 rfl) ?_
    refine lv_aload_n (pc := 19) hx hb dM_loops_19 rfl (lv_at hl 2 rfl) ?_
    obtain ⟨q13, hq13, eq13⟩ := at_4 (ad := ad) (ca := ca) (σ := σ7) hm0
    refine va_get (D := (dC, dI)) (cl := kCl) (C := RM) (T := TM) (N := 11) (pc := 20) hx hb hts inM hown hK.1 hP q13 eq13 rfl 2 (by decide) (hts _ wd_51) (fun _ h9 => h9) rfl dM_loops_20 ?_
    refine lv_bipush (pc := 23) (v := 16) hx hb dM_loops_23 (by decide) ?_
    obtain ⟨q14, hq14, eq14⟩ := at_15 (ad := ad) (ca := ca) (σ := σ7) (cm_4_2 hC hm0)
    refine va_iald (D := (dC, dI)) (cl := kCl) (pc := 25) hx hb (hK.2 15 0 .int (cm_4_2 hC hm0) rfl) hP q14 0 eq14 rfl (vp_in_lit 16 25240 (by decide)) dM_loops_25 ?_
    refine W.eq (g2 := F0 m 26 ls [.int (xI σ7 15 0 16), .int p8]) rfl ?_
    refine lv_icmp_ge (pc := 26) (tgt := 67) hx hb dM_loops_26 rfl (fun h15 => ?_) (fun h15 => ?_)
    · replace hf := ite_t h15 hf
      have hl := lv_sub hl (l' := [(3, .int p8), (2, .int p9), (0, .ref (ad 4 0)), (1, .int p10)]) [0, 1, 2, 3] rfl
      exact hXkx11 (σ7, p8, p9, p10, H, _, ls) ⟨hP, hD, hS, hC, hl⟩ hf
    · replace hf := ite_f h15 hf
      refine lv_iload_n (pc := 29) hx hb dM_loops_29 rfl (lv_at hl 1 rfl) ?_
      refine lv_if_ne (pc := 30) (tgt := 55) hx hb dM_loops_30 rfl (fun h16 => ?_) (fun h16 => ?_)
      · replace hf := ite_f h16 hf
        refine lv_iconst (pc := 55) (v := 1) hx hb dM_loops_55 (by decide) ?_
        refine lv_goto (pc := 56) (tgt := 60) hx hb dM_loops_56 rfl ?_
        refine lv_istore_n (pc := 60) hx hb dM_loops_60 rfl hl (by decide) rfl (fun ls hl => ?_)
        have hl : lv_has ls 4 [(2, .int 1), (3, .int p8), (0, .ref (ad 4 0)), (1, .int p10)] := hl
        refine lv_iinc (pc := 61) (v := (p8 + 1)) hx hb dM_loops_61 hl (k := 1) rfl (by rfl) (by decide) rfl (fun ls hl => ?_)
        have hl : lv_has ls 4 [(3, .int (p8 + 1)), (2, .int 1), (0, .ref (ad 4 0)), (1, .int p10)] := hl
        refine lv_goto (pc := 64) (tgt := 18) hx hb dM_loops_64 rfl ?_
        have hl := lv_sub hl (l' := [(3, .int (p8 + 1)), (2, .int 1), (0, .ref (ad 4 0)), (1, .int p10)]) [0, 1, 2, 3] rfl
        exact ih12 (σ7, (p8 + 1), 1, p10, H, _, ls) ⟨hP, hD, hS, hC, hl⟩ hf
      · replace hf := ite_t h16 hf
        refine lv_aload_n (pc := 33) hx hb dM_loops_33 rfl (lv_at hl 2 rfl) ?_
        obtain ⟨q17, hq17, eq17⟩ := at_4 (ad := ad) (ca := ca) (σ := σ7) hm0
        refine va_get (D := (dC, dI)) (cl := kCl) (C := RM) (T := TM) (N := 11) (pc := 34) hx hb hts inM hown hK.1 hP q17 eq17 rfl 6 (by decide) (hts _ wd_174) (fun _ h9 => h9) rfl dM_loops_34 ?_
        refine lv_iload_n (pc := 37) hx hb dM_loops_37 rfl (lv_at hl 0 rfl) ?_
        obtain ⟨hv18, hf⟩ := ite_s hf
        obtain ⟨q19, hq19, eq19⟩ := at_17 (ad := ad) (ca := ca) (σ := σ7) (cm_4_6 hC hm0)
        refine va_zald (D := (dC, dI)) (cl := kCl) (pc := 38) hx hb (hK.2 17 0 .boolean (cm_4_6 hC hm0) rfl) hP q19 0 eq19 rfl (hv18) dM_loops_38 ?_
        refine W.eq (g2 := F0 m 39 ls [.int (xI σ7 17 0 (p8).toNatClampNeg)]) rfl ?_
        refine lv_if_eq (pc := 39) (tgt := 59) hx hb dM_loops_39 rfl (fun h20 => ?_) (fun h20 => ?_)
        · replace hf := ite_t h20 hf
          refine lv_iconst (pc := 59) (v := 0) hx hb dM_loops_59 (by decide) ?_
          refine lv_istore_n (pc := 60) hx hb dM_loops_60 rfl hl (by decide) rfl (fun ls hl => ?_)
          have hl : lv_has ls 4 [(2, .int 0), (3, .int p8), (0, .ref (ad 4 0)), (1, .int p10)] := hl
          refine lv_iinc (pc := 61) (v := (p8 + 1)) hx hb dM_loops_61 hl (k := 1) rfl (by rfl) (by decide) rfl (fun ls hl => ?_)
          have hl : lv_has ls 4 [(3, .int (p8 + 1)), (2, .int 0), (0, .ref (ad 4 0)), (1, .int p10)] := hl
          refine lv_goto (pc := 64) (tgt := 18) hx hb dM_loops_64 rfl ?_
          have hl := lv_sub hl (l' := [(3, .int (p8 + 1)), (2, .int 0), (0, .ref (ad 4 0)), (1, .int p10)]) [0, 1, 2, 3] rfl
          exact ih12 (σ7, (p8 + 1), 0, p10, H, _, ls) ⟨hP, hD, hS, hC, hl⟩ hf
        · replace hf := ite_f h20 hf
          refine lv_aload_n (pc := 42) hx hb dM_loops_42 rfl (lv_at hl 2 rfl) ?_
          refine lv_aload_n (pc := 43) hx hb dM_loops_43 rfl (lv_at hl 2 rfl) ?_
          refine lv_iload_n (pc := 44) hx hb dM_loops_44 rfl (lv_at hl 3 rfl) ?_
          obtain ⟨q21, hq21, eq21⟩ := at_4 (ad := ad) (ca := ca) (σ := σ7) hm0
          refine vp_callSi (pc := 45) (W.runV (As := [.int p10]) (rest := [.ref (ad 4 0)]) ⟨hx, hb, hml, hown, hts⟩ (t_M_drawingAt l dC dI ad ca dom p10 hm0 σ7 hN hC (M_drawingAt p10) rfl) (cwV 1 hts (gV wd_53 wd_54 wd_55 wd_50 wd_52) rfl rfl rfl (by decide +kernel) ⟨Nat.le_of_ble_eq_true rfl, Nat.le_of_ble_eq_true rfl⟩) ⟨hR_blind, va_recv (q := (RM, TM, 11)) (q0 := q21) (ci := 4) hK.1 hP rfl eq21, hR_pre hP hK hG⟩ rfl rfl hl.1 rfl (lv_room (Nat.le_of_ble_eq_true rfl)) dM_loops_45 ⟨Nat.le_of_ble_eq_true rfl, Nat.le_of_ble_eq_true rfl⟩) (fun r9 hr9 => ?_)
          refine W.eq (g2 := F0 m 48 ls [.int (M_drawingAt p10), .ref (ad 4 0)]) (by rw [hr9]) ?_
          refine lv_iload_n (pc := 48) hx hb dM_loops_48 rfl (lv_at hl 0 rfl) ?_
          obtain ⟨q22, hq22, eq22⟩ := at_4 (ad := ad) (ca := ca) (σ := σ7) hm0
          obtain ⟨y23, hy23, hf⟩ := ob hf
          refine vp_callSi (pc := 49) (W.runV (As := [.int (M_drawingAt p10), .int p8]) (rest := []) ⟨hx, hb, hml, hown, hts⟩ (t_M_refersTo l dC dI ad ca dom n σ7 (M_drawingAt p10) p8 hm0 hN hC y23 hy23) (cwV 2 hts (gV wd_171 wd_172 wd_173 wd_50 wd_170) rfl rfl rfl (by decide +kernel) ⟨Nat.le_of_ble_eq_true rfl, Nat.le_of_ble_eq_true rfl⟩) ⟨hR_blind, va_recv (q := (RM, TM, 11)) (q0 := q22) (ci := 4) hK.1 hP rfl eq22, hR_pre hP hK hG⟩ rfl rfl hl.1 rfl (lv_room (Nat.le_of_ble_eq_true rfl)) dM_loops_49 ⟨Nat.le_of_ble_eq_true rfl, Nat.le_of_ble_eq_true rfl⟩) (fun r9 hr9 => ?_)
          refine W.eq (g2 := F0 m 52 ls [.int y23]) (by rw [hr9]) ?_
          refine lv_if_eq (pc := 52) (tgt := 59) hx hb dM_loops_52 rfl (fun h24 => ?_) (fun h24 => ?_)
          · replace hf := ite_t h24 hf
            refine lv_iconst (pc := 59) (v := 0) hx hb dM_loops_59 (by decide) ?_
            refine lv_istore_n (pc := 60) hx hb dM_loops_60 rfl hl (by decide) rfl (fun ls hl => ?_)
            have hl : lv_has ls 4 [(2, .int 0), (3, .int p8), (0, .ref (ad 4 0)), (1, .int p10)] := hl
            refine lv_iinc (pc := 61) (v := (p8 + 1)) hx hb dM_loops_61 hl (k := 1) rfl (by rfl) (by decide) rfl (fun ls hl => ?_)
            have hl : lv_has ls 4 [(3, .int (p8 + 1)), (2, .int 0), (0, .ref (ad 4 0)), (1, .int p10)] := hl
            refine lv_goto (pc := 64) (tgt := 18) hx hb dM_loops_64 rfl ?_
            have hl := lv_sub hl (l' := [(3, .int (p8 + 1)), (2, .int 0), (0, .ref (ad 4 0)), (1, .int p10)]) [0, 1, 2, 3] rfl
            exact ih12 (σ7, (p8 + 1), 0, p10, H, _, ls) ⟨hP, hD, hS, hC, hl⟩ hf
          · replace hf := ite_f h24 hf
            refine lv_iconst (pc := 55) (v := 1) hx hb dM_loops_55 (by decide) ?_
            refine lv_goto (pc := 56) (tgt := 60) hx hb dM_loops_56 rfl ?_
            refine lv_istore_n (pc := 60) hx hb dM_loops_60 rfl hl (by decide) rfl (fun ls hl => ?_)
            have hl : lv_has ls 4 [(2, .int 1), (3, .int p8), (0, .ref (ad 4 0)), (1, .int p10)] := hl
            refine lv_iinc (pc := 61) (v := (p8 + 1)) hx hb dM_loops_61 hl (k := 1) rfl (by rfl) (by decide) rfl (fun ls hl => ?_)
            have hl : lv_has ls 4 [(3, .int (p8 + 1)), (2, .int 1), (0, .ref (ad 4 0)), (1, .int p10)] := hl
            refine lv_goto (pc := 64) (tgt := 18) hx hb dM_loops_64 rfl ?_
            have hl := lv_sub hl (l' := [(3, .int (p8 + 1)), (2, .int 1), (0, .ref (ad 4 0)), (1, .int p10)]) [0, 1, 2, 3] rfl
            exact ih12 (σ7, (p8 + 1), 1, p10, H, _, ls) ⟨hP, hD, hS, hC, hl⟩ hf
  · rintro ⟨σ7, p8, p9, p10, H, locs, ls⟩ ⟨hP, hD, hS, hC, hl⟩ hf
    dsimp only at hP hD hS hC hl hf ⊢
    rw [hkx11] at hf
    have hl : lv_has ls 4 [(3, .int p8), (2, .int p9), (0, .ref (ad 4 0)), (1, .int p10)] := hl
    refine lv_iload_n (pc := 67) hx hb dM_loops_67 rfl (lv_at hl 1 rfl) ?_
    obtain ⟨hz9, hf⟩ := ite_s hf
    obtain ⟨h8, h9⟩ := Prod.mk.inj (Option.some.inj hf)
    subst h9
    exact W.zret (pc := 68) hx hb hr (nar01 hz9) (fun t ht hW => ⟨⟨_, (), rfl, h8, by rw [ht]; exact hP, hD, hC⟩, hS.F ht⟩) hS.2.2 dM_loops_68
def M_lacksRevision_L4 (n : Nat) (σ : hT) (kx4 : Int32 → Int32 → Int32 → Option (Int32)) : Nat → Int32 → Int32 → Int32 → Option (Int32)
  | 0, _, _, _ => none
  | k + 1, p1, p2, p3 => if in9 (p3 + 3) 25240 then if (xI σ 15 0 ((p3 + 3)).toNatClampNeg) ≤ p1 then kx4 p1 p2 p3 else if p2 = 0 then Option.bind (M_refRevision σ p3 p1) fun y12 => Option.bind (M_refDrawing σ p3 p1) fun y14 => Option.bind (M_made σ y14) fun y16 => if y12 < y16 then M_lacksRevision_L4 n σ kx4 k (p1 + 1) 0 p3 else M_lacksRevision_L4 n σ kx4 k (p1 + 1) 1 p3 else M_lacksRevision_L4 n σ kx4 k (p1 + 1) 1 p3 else none
def M_lacksRevision (n : Nat) (σ : hT) (a1 : Int32) : Option (Int32) := lt9 (α := Int32 → Int32 → Int32 → Option (Int32)) (fun (p1 : Int32) (p2 : Int32) (p3 : Int32) => if p2 = 0 ∨ p2 = 1 then some p2 else none) fun kx4 => M_lacksRevision_L4 n σ kx4 n 0 0 a1
set_option maxHeartbeats 4000000 in
set_option maxRecDepth 100000 in
theorem t_M_lacksRevision (l : Launch) (dC : Nat → ClassId) (dI : Nat → Nat → Nat) (ad : Nat → Nat → Nat) (ca : Nat → Nat → ClassId) (dom : List (Nat × Nat)) (n : Nat) (σ : hT) (a1 : Int32) (hm0 : (4, 0) ∈ dom) (hN : dom.Nodup) (hC : clo dom σ.2.2) (ρ : Int32) (hf : M_lacksRevision n σ a1 = some ρ) : Met l yM_lacksRevision (.code yM_lacksRevision cM_lacksRevision 4 (some .boolean) :: aw) ({ frames := 2, cells := 0, slots := 0, locals := 42 }) (hR (dC, dI) ad ca dom σ [.ref (ad 4 0), .int a1]) (vp_Si (fun r => r = ρ)) 0 0 (fun _ => False) := by
  refine Met.ofW (cc := cM_lacksRevision) (maxL := 4) (ret := (some .boolean)) (by decide) rfl ?_
  intro p e s m args below meth c s₁ B hml hv
  obtain ⟨rfl, hv⟩ := hv
  have hx := B.exec
  have hb := B.bytes
  have hr := B.returns
  have hts : ∀ w ∈ aw, w.before _ s = true := fun w h => atoms_spec (ws := (.code yM_lacksRevision cM_lacksRevision 4 (some .boolean) :: aw)) B.pre w (List.mem_cons_of_mem _ h)
  have hown : s.vm.findClass RM = some m.cls := findClass_of_methodNamed B.named
  have hlocks := B.notSynchronized
  obtain ⟨hP, hK, hG⟩ := hv
  obtain ⟨H, hH⟩ : ∃ H, H = s.heap := ⟨_, rfl⟩
  rw [← hH] at hP ⊢
  unfold M_lacksRevision at hf
  have hl := lv_entry ([.ref (ad 4 0), .int a1]) (n := 4) (Nat.le_of_ble_eq_true rfl)
  rw [lg_entry_eq]
  generalize (lg_sl ([.ref (ad 4 0), .int a1]) ++ List.replicate (4 - (lg_sl ([.ref (ad 4 0), .int a1])).length) Slot.unset).toArray = ls at hl ⊢
  have hl : lv_has ls 4 [(0, .ref (ad 4 0)), (1, .int a1)] := hl
  refine lv_iconst (pc := 0) (v := 0) hx hb dM_lacksRevision_0 (by decide) ?_
  refine lv_istore_n (pc := 1) hx hb dM_lacksRevision_1 rfl hl (by decide) rfl (fun ls hl => ?_)
  have hl : lv_has ls 4 [(2, .int 0), (0, .ref (ad 4 0)), (1, .int a1)] := hl
  refine lv_iconst (pc := 2) (v := 0) hx hb dM_lacksRevision_2 (by decide) ?_
  refine lv_istore_n (pc := 3) hx hb dM_lacksRevision_3 rfl hl (by decide) rfl (fun ls hl => ?_)
  have hl : lv_has ls 4 [(3, .int 0), (2, .int 0), (0, .ref (ad 4 0)), (1, .int a1)] := hl
  obtain ⟨kx4, hkx4, hf⟩ := lt_9 hf
  refine lpF (τ := (Int32) × (Int32) × (Int32) × (Array Slot)) (fun pc z => W p l e _ s m _ below meth c H ([]) 0 0 _ (F0 m pc z.2.2.2 [])) 4 51 (fun z => lv_has z.2.2.2 4 [(3, .int z.1), (2, .int z.2.1), (0, .ref (ad 4 0)), (1, .int z.2.2.1)]) (fun k z => M_lacksRevision_L4 n σ kx4 k z.1 z.2.1 z.2.2.1) (fun z => kx4 z.1 z.2.1 z.2.2.1) _ (fun z => rfl) ?_ ?_ n (0, 0, a1, ls) hl hf
  · rintro k ⟨p1, p2, p3, ls⟩ hl hf ih5 hXkx4
    dsimp only at hl hf ih5 hXkx4 ⊢
    unfold M_lacksRevision_L4 at hf
    have hl : lv_has ls 4 [(3, .int p1), (2, .int p2), (0, .ref (ad 4 0)), (1, .int p3)] := hl
    refine lv_iload_n (pc := 4) hx hb dM_lacksRevision_4 rfl (lv_at hl 0 rfl) ?_
    refine lv_aload_n (pc := 5) hx hb dM_lacksRevision_5 rfl (lv_at hl 2 rfl) ?_
    obtain ⟨q6, hq6, eq6⟩ := at_4 (ad := ad) (ca := ca) (σ := σ) hm0
    refine va_get (D := (dC, dI)) (cl := kCl) (C := RM) (T := TM) (N := 11) (pc := 6) hx hb hts inM hown hK.1 hP q6 eq6 rfl 2 (by decide) (hts _ wd_51) (fun _ h9 => h9) rfl dM_lacksRevision_6 ?_
    refine lv_iload_n (pc := 9) hx hb dM_lacksRevision_9 rfl (lv_at hl 3 rfl) ?_
    refine lv_iconst (pc := 10) (v := 3) hx hb dM_lacksRevision_10 (by decide) ?_
    refine lv_iadd (pc := 11) hx hb dM_lacksRevision_11 ?_
    obtain ⟨hv7, hf⟩ := ite_s hf
    obtain ⟨q8, hq8, eq8⟩ := at_15 (ad := ad) (ca := ca) (σ := σ) (cm_4_2 hC hm0)
    refine va_iald (D := (dC, dI)) (cl := kCl) (pc := 12) hx hb (hK.2 15 0 .int (cm_4_2 hC hm0) rfl) hP q8 0 eq8 rfl (hv7) dM_lacksRevision_12 ?_
    refine W.eq (g2 := F0 m 13 ls [.int (xI σ 15 0 ((p3 + 3)).toNatClampNeg), .int p1]) rfl ?_
    refine lv_icmp_ge (pc := 13) (tgt := 51) hx hb dM_lacksRevision_13 rfl (fun h9 => ?_) (fun h9 => ?_)
    · replace hf := ite_t h9 hf
      have hl := lv_sub hl (l' := [(3, .int p1), (2, .int p2), (0, .ref (ad 4 0)), (1, .int p3)]) [0, 1, 2, 3] rfl
      exact hXkx4 (p1, p2, p3, ls) hl hf
    · replace hf := ite_f h9 hf
      refine lv_iload_n (pc := 16) hx hb dM_lacksRevision_16 rfl (lv_at hl 1 rfl) ?_
      refine lv_if_ne (pc := 17) (tgt := 39) hx hb dM_lacksRevision_17 rfl (fun h10 => ?_) (fun h10 => ?_)
      · replace hf := ite_f h10 hf
        refine lv_iconst (pc := 39) (v := 1) hx hb dM_lacksRevision_39 (by decide) ?_
        refine lv_goto (pc := 40) (tgt := 44) hx hb dM_lacksRevision_40 rfl ?_
        refine lv_istore_n (pc := 44) hx hb dM_lacksRevision_44 rfl hl (by decide) rfl (fun ls hl => ?_)
        have hl : lv_has ls 4 [(2, .int 1), (3, .int p1), (0, .ref (ad 4 0)), (1, .int p3)] := hl
        refine lv_iinc (pc := 45) (v := (p1 + 1)) hx hb dM_lacksRevision_45 hl (k := 1) rfl (by rfl) (by decide) rfl (fun ls hl => ?_)
        have hl : lv_has ls 4 [(3, .int (p1 + 1)), (2, .int 1), (0, .ref (ad 4 0)), (1, .int p3)] := hl
        refine lv_goto (pc := 48) (tgt := 4) hx hb dM_lacksRevision_48 rfl ?_
        have hl := lv_sub hl (l' := [(3, .int (p1 + 1)), (2, .int 1), (0, .ref (ad 4 0)), (1, .int p3)]) [0, 1, 2, 3] rfl
        exact ih5 ((p1 + 1), 1, p3, ls) hl hf
      · replace hf := ite_t h10 hf
        refine lv_aload_n (pc := 20) hx hb dM_lacksRevision_20 rfl (lv_at hl 2 rfl) ?_
        refine lv_iload_n (pc := 21) hx hb dM_lacksRevision_21 rfl (lv_at hl 3 rfl) ?_
        refine lv_iload_n (pc := 22) hx hb dM_lacksRevision_22 rfl (lv_at hl 0 rfl) ?_
        obtain ⟨q11, hq11, eq11⟩ := at_4 (ad := ad) (ca := ca) (σ := σ) hm0
        obtain ⟨y12, hy12, hf⟩ := ob hf
        refine vp_callSi (pc := 23) (W.runV (As := [.int p3, .int p1]) (rest := []) ⟨hx, hb, hml, hown, hts⟩ (t_M_refRevision l dC dI ad ca dom σ p3 p1 hm0 hN hC y12 hy12) (cwV 2 hts (gV wd_73 wd_74 wd_75 wd_50 wd_72) rfl rfl rfl (by decide +kernel) ⟨Nat.le_of_ble_eq_true rfl, Nat.le_of_ble_eq_true rfl⟩) ⟨hR_blind, va_recv (q := (RM, TM, 11)) (q0 := q11) (ci := 4) hK.1 hP rfl eq11, hR_pre hP hK hG⟩ rfl rfl hl.1 rfl (lv_room (Nat.le_of_ble_eq_true rfl)) dM_lacksRevision_23 ⟨Nat.le_of_ble_eq_true rfl, Nat.le_of_ble_eq_true rfl⟩) (fun r9 hr9 => ?_)
        refine W.eq (g2 := F0 m 26 ls [.int y12]) (by rw [hr9]) ?_
        refine lv_aload_n (pc := 26) hx hb dM_lacksRevision_26 rfl (lv_at hl 2 rfl) ?_
        refine lv_aload_n (pc := 27) hx hb dM_lacksRevision_27 rfl (lv_at hl 2 rfl) ?_
        refine lv_iload_n (pc := 28) hx hb dM_lacksRevision_28 rfl (lv_at hl 3 rfl) ?_
        refine lv_iload_n (pc := 29) hx hb dM_lacksRevision_29 rfl (lv_at hl 0 rfl) ?_
        obtain ⟨q13, hq13, eq13⟩ := at_4 (ad := ad) (ca := ca) (σ := σ) hm0
        obtain ⟨y14, hy14, hf⟩ := ob hf
        refine vp_callSi (pc := 30) (W.runV (As := [.int p3, .int p1]) (rest := [.ref (ad 4 0), .int y12]) ⟨hx, hb, hml, hown, hts⟩ (t_M_refDrawing l dC dI ad ca dom σ p3 p1 hm0 hN hC y14 hy14) (cwV 2 hts (gV wd_77 wd_78 wd_79 wd_50 wd_76) rfl rfl rfl (by decide +kernel) ⟨Nat.le_of_ble_eq_true rfl, Nat.le_of_ble_eq_true rfl⟩) ⟨hR_blind, va_recv (q := (RM, TM, 11)) (q0 := q13) (ci := 4) hK.1 hP rfl eq13, hR_pre hP hK hG⟩ rfl rfl hl.1 rfl (lv_room (Nat.le_of_ble_eq_true rfl)) dM_lacksRevision_30 ⟨Nat.le_of_ble_eq_true rfl, Nat.le_of_ble_eq_true rfl⟩) (fun r9 hr9 => ?_)
        refine W.eq (g2 := F0 m 33 ls [.int y14, .ref (ad 4 0), .int y12]) (by rw [hr9]) ?_
        obtain ⟨q15, hq15, eq15⟩ := at_4 (ad := ad) (ca := ca) (σ := σ) hm0
        obtain ⟨y16, hy16, hf⟩ := ob hf
        refine vp_callSi (pc := 33) (W.runV (As := [.int y14]) (rest := [.int y12]) ⟨hx, hb, hml, hown, hts⟩ (t_M_made l dC dI ad ca dom σ y14 hm0 hN hC y16 hy16) (cwV 1 hts (gV wd_61 wd_62 wd_63 wd_50 wd_60) rfl rfl rfl (by decide +kernel) ⟨Nat.le_of_ble_eq_true rfl, Nat.le_of_ble_eq_true rfl⟩) ⟨hR_blind, va_recv (q := (RM, TM, 11)) (q0 := q15) (ci := 4) hK.1 hP rfl eq15, hR_pre hP hK hG⟩ rfl rfl hl.1 rfl (lv_room (Nat.le_of_ble_eq_true rfl)) dM_lacksRevision_33 ⟨Nat.le_of_ble_eq_true rfl, Nat.le_of_ble_eq_true rfl⟩) (fun r9 hr9 => ?_)
        refine W.eq (g2 := F0 m 36 ls [.int y16, .int y12]) (by rw [hr9]) ?_
        refine lv_icmp_lt (pc := 36) (tgt := 43) hx hb dM_lacksRevision_36 rfl (fun h17 => ?_) (fun h17 => ?_)
        · replace hf := ite_t h17 hf
          refine lv_iconst (pc := 43) (v := 0) hx hb dM_lacksRevision_43 (by decide) ?_
          refine lv_istore_n (pc := 44) hx hb dM_lacksRevision_44 rfl hl (by decide) rfl (fun ls hl => ?_)
          have hl : lv_has ls 4 [(2, .int 0), (3, .int p1), (0, .ref (ad 4 0)), (1, .int p3)] := hl
          refine lv_iinc (pc := 45) (v := (p1 + 1)) hx hb dM_lacksRevision_45 hl (k := 1) rfl (by rfl) (by decide) rfl (fun ls hl => ?_)
          have hl : lv_has ls 4 [(3, .int (p1 + 1)), (2, .int 0), (0, .ref (ad 4 0)), (1, .int p3)] := hl
          refine lv_goto (pc := 48) (tgt := 4) hx hb dM_lacksRevision_48 rfl ?_
          have hl := lv_sub hl (l' := [(3, .int (p1 + 1)), (2, .int 0), (0, .ref (ad 4 0)), (1, .int p3)]) [0, 1, 2, 3] rfl
          exact ih5 ((p1 + 1), 0, p3, ls) hl hf
        · replace hf := ite_f h17 hf
          refine lv_iconst (pc := 39) (v := 1) hx hb dM_lacksRevision_39 (by decide) ?_
          refine lv_goto (pc := 40) (tgt := 44) hx hb dM_lacksRevision_40 rfl ?_
          refine lv_istore_n (pc := 44) hx hb dM_lacksRevision_44 rfl hl (by decide) rfl (fun ls hl => ?_)
          have hl : lv_has ls 4 [(2, .int 1), (3, .int p1), (0, .ref (ad 4 0)), (1, .int p3)] := hl
          refine lv_iinc (pc := 45) (v := (p1 + 1)) hx hb dM_lacksRevision_45 hl (k := 1) rfl (by rfl) (by decide) rfl (fun ls hl => ?_)
          have hl : lv_has ls 4 [(3, .int (p1 + 1)), (2, .int 1), (0, .ref (ad 4 0)), (1, .int p3)] := hl
          refine lv_goto (pc := 48) (tgt := 4) hx hb dM_lacksRevision_48 rfl ?_
          have hl := lv_sub hl (l' := [(3, .int (p1 + 1)), (2, .int 1), (0, .ref (ad 4 0)), (1, .int p3)]) [0, 1, 2, 3] rfl
          exact ih5 ((p1 + 1), 1, p3, ls) hl hf
  · rintro ⟨p1, p2, p3, ls⟩ hl hf
    dsimp only at hl hf ⊢
    rw [hkx4] at hf
    have hl : lv_has ls 4 [(3, .int p1), (2, .int p2), (0, .ref (ad 4 0)), (1, .int p3)] := hl
    refine lv_iload_n (pc := 51) hx hb dM_lacksRevision_51 rfl (lv_at hl 1 rfl) ?_
    obtain ⟨hz9, hf⟩ := ite_s hf
    exact W.zret (pc := 52) hx hb hr (nar01 hz9) (fun t ht hW => ⟨_, rfl, (Option.some.inj hf), ht.trans hH⟩) (fun q h => nomatch h) dM_lacksRevision_52
def M_checkIn (n : Nat) (σ : hT) (a1 : Int32) (a2 : Int32) : Option (Int32 × hT) := Option.bind (M_whyNot σ a1 a2) fun y2 => lt9 (α := hT → Int32 → Int32 → Option (Int32 × hT)) (fun (σ4 : hT) (q5 : Int32) (q6 : Int32) => Option.bind (M_may σ4 q6 q5) fun ⟨y26, σ27⟩ => if y26 = 0 then if (xI σ27 500 0 0) ≤ 0 then some ((-1), σ27) else some (0, σ27) else Option.bind (M_made σ27 a1) fun y30 => Option.bind (M_blank n σ27 (M_revisionAt a1 y30)) fun ⟨y33, σ34⟩ => Option.bind (M_copy n σ34 (M_drawingAt a1) (M_revisionAt a1 y30)) fun ⟨y37, σ38⟩ => if in9 ((M_revisionAt a1 y30) + 1) 25240 then lt9 (sI σ38 15 0 (((M_revisionAt a1 y30) + 1)).toNatClampNeg a2) fun σ40 => if in9 ((M_drawingAt a1) + 0) 25240 then if in9 ((M_drawingAt a1) + 0) 25240 then lt9 (sI σ40 15 0 (((M_drawingAt a1) + 0)).toNatClampNeg ((xI σ40 15 0 (((M_drawingAt a1) + 0)).toNatClampNeg) + 1)) fun σ47 => if in9 ((M_drawingAt a1) + 1) 25240 then lt9 (sI σ47 15 0 (((M_drawingAt a1) + 1)).toNatClampNeg 0) fun σ52 => Option.bind (M_close n σ52) fun ⟨y56, σ57⟩ => some (y30, σ57) else none else none else none else none) fun x3 => if y2 = 0 then Option.bind (M_loops n σ a1) fun ⟨y9, σ10⟩ => Option.bind (M_lacksRevision n σ10 (M_drawingAt a1)) fun y13 => Option.bind (M_made σ10 a1) fun y15 => lt9 (α := Int32 → Option (Int32 × hT)) (fun (s17 : Int32) => Option.bind (M_ownChunks n σ10 (M_drawingAt a1)) fun y24 => x3 (σ10) (2 + y24) (M_least y9 6 (M_least y13 7 (M_least s17 8 0)))) fun x16 => if y15 = 12 then x16 1 else Option.bind (M_allRevisions n σ10) fun y20 => if y20 = 100 then x16 1 else x16 0 else x3 (σ) 2 y2
set_option maxHeartbeats 4000000 in
set_option maxRecDepth 100000 in
theorem t_M_checkIn (l : Launch) (dC : Nat → ClassId) (dI : Nat → Nat → Nat) (ad : Nat → Nat → Nat) (ca : Nat → Nat → ClassId) (dom : List (Nat × Nat)) (sz : Nat) (n : Nat) (σ : hT) (a1 : Int32) (a2 : Int32) (hm0 : (4, 0) ∈ dom) (hN : dom.Nodup) (hC : clo dom σ.2.2) (ρ : Int32) (σ' : hT) (hf : M_checkIn n σ a1 a2 = some (ρ, σ')) : Met l yM_checkIn (.code yM_checkIn cM_checkIn 7 (some .int) :: aw) ({ frames := 7, cells := 0, slots := 0, locals := 157 }) (hW (dC, dI) sz ad ca dom σ [.ref (ad 4 0), .int a1, .int a2]) (va_Qi (fun r (_ : Unit) => r = ρ) (fun _ t => hB (dC, dI) (va_A (w9 ad ca dom σ) sz) ad ca dom σ' t) (va_A (w9 ad ca dom σ) sz)) 0 0 (va_A (w9 ad ca dom σ) sz) := by
  refine Met.ofW (cc := cM_checkIn) (maxL := 7) (ret := (some .int)) (by decide) rfl ?_
  intro p e s m args below meth c s₁ B hml hv
  obtain ⟨rfl, hv⟩ := hv
  have hx := B.exec
  have hb := B.bytes
  have hr := B.returns
  have hts : ∀ w ∈ aw, w.before _ s = true := fun w h => atoms_spec (ws := (.code yM_checkIn cM_checkIn 7 (some .int) :: aw)) B.pre w (List.mem_cons_of_mem _ h)
  have hown : s.vm.findClass RM = some m.cls := findClass_of_methodNamed B.named
  have hlocks := B.notSynchronized
  obtain ⟨hsz, hP, hK, hD0, hG⟩ := hv
  subst hsz
  have hD := hD0.self (sz := s.heap.size)
  generalize hAe : va_A (w9 ad ca dom σ) s.heap.size = A at hD ⊢
  have hA : ∀ q : Nat, s.heap.size ≤ q → A q := fun q h => by rw [← hAe]; exact Or.inr h
  obtain ⟨H, hH⟩ : ∃ H, H = s.heap := ⟨_, rfl⟩
  have hS : va_S A s.heap H [] := by rw [hH]; exact va_S.rf
  rw [← hH] at hP ⊢
  unfold M_checkIn at hf
  have hl := lv_entry ([.ref (ad 4 0), .int a1, .int a2]) (n := 7) (Nat.le_of_ble_eq_true rfl)
  rw [lg_entry_eq]
  generalize (lg_sl ([.ref (ad 4 0), .int a1, .int a2]) ++ List.replicate (7 - (lg_sl ([.ref (ad 4 0), .int a1, .int a2])).length) Slot.unset).toArray = ls at hl ⊢
  have hl : lv_has ls 7 [(0, .ref (ad 4 0)), (1, .int a1), (2, .int a2)] := hl
  refine lv_aload_n (pc := 0) hx hb dM_checkIn_0 rfl (lv_at hl 0 rfl) ?_
  refine lv_iload_n (pc := 1) hx hb dM_checkIn_1 rfl (lv_at hl 1 rfl) ?_
  refine lv_iload_n (pc := 2) hx hb dM_checkIn_2 rfl (lv_at hl 2 rfl) ?_
  obtain ⟨q1, hq1, eq1⟩ := at_4 (ad := ad) (ca := ca) (σ := σ) hm0
  obtain ⟨y2, hy2, hf⟩ := ob hf
  refine vp_callSi (pc := 3) (W.runV (As := [.int a1, .int a2]) (rest := []) ⟨hx, hb, hml, hown, hts⟩ (t_M_whyNot l dC dI ad ca dom σ a1 a2 hm0 hN hC y2 hy2) (cwV 2 hts (gV wd_163 wd_164 wd_165 wd_50 wd_162) rfl rfl rfl (by decide +kernel) ⟨Nat.le_of_ble_eq_true rfl, Nat.le_of_ble_eq_true rfl⟩) ⟨hR_blind, va_recv (q := (RM, TM, 11)) (q0 := q1) (ci := 4) hK.1 hP rfl eq1, hR_pre hP hK hG⟩ rfl rfl hl.1 rfl (lv_room (Nat.le_of_ble_eq_true rfl)) dM_checkIn_3 ⟨Nat.le_of_ble_eq_true rfl, Nat.le_of_ble_eq_true rfl⟩) (fun r9 hr9 => ?_)
  refine W.eq (g2 := F0 m 6 ls [.int y2]) (by rw [hr9]) ?_
  refine lv_istore_n (pc := 6) hx hb dM_checkIn_6 rfl hl (by decide) rfl (fun ls hl => ?_)
  have hl : lv_has ls 7 [(3, .int y2), (0, .ref (ad 4 0)), (1, .int a1), (2, .int a2)] := hl
  refine lv_iconst (pc := 7) (v := 2) hx hb dM_checkIn_7 (by decide) ?_
  refine lv_istore (pc := 8) hx hb dM_checkIn_8 hl (by decide) rfl (fun ls hl => ?_)
  have hl : lv_has ls 7 [(4, .int 2), (3, .int y2), (0, .ref (ad 4 0)), (1, .int a1), (2, .int a2)] := hl
  refine lv_iload_n (pc := 10) hx hb dM_checkIn_10 rfl (lv_at hl 1 rfl) ?_
  obtain ⟨x3, hx3, hf⟩ := lt_9 hf
  refine jnF (τ := (hT) × (Int32) × (Int32) × (Heap) × (List Loc) × (Array Slot)) (fun pc st z => W p l e _ s m _ below meth c z.2.2.2.1 z.2.2.2.2.1 0 0 _ (F0 m pc z.2.2.2.2.2 st)) (pc0 := 11) (st0 := [.int y2]) (z0 := (σ, 0, 0, H, _, ls)) 83 (fun z => []) (fun z => va_P (dC, dI) kCl (w9 ad ca dom z.1) z.2.2.2.1 ∧ va_D A (w9 ad ca dom z.1) ∧ va_S A s.heap z.2.2.2.1 z.2.2.2.2.1 ∧ clo dom z.1.2.2 ∧ lv_has z.2.2.2.2.2 7 [(4, .int z.2.1), (3, .int z.2.2.1), (0, .ref (ad 4 0)), (1, .int a1), (2, .int a2)]) (fun z => x3 z.1 z.2.1 z.2.2.1) (ρ, σ') ?_ ?_
  · intro hJx3
    dsimp only at hJx3 ⊢
    refine lv_if_ne (pc := 11) (tgt := 83) hx hb dM_checkIn_11 rfl (fun h7 => ?_) (fun h7 => ?_)
    · replace hf := ite_f h7 hf
      have hl := lv_sub hl (l' := [(4, .int 2), (3, .int y2), (0, .ref (ad 4 0)), (1, .int a1), (2, .int a2)]) [0, 1, 2, 3, 4] rfl
      exact hJx3 (σ, 2, y2, H, _, ls) ⟨hP, hD, hS, hC, hl⟩ hf
    · replace hf := ite_t h7 hf
      refine lv_aload_n (pc := 14) hx hb dM_checkIn_14 rfl (lv_at hl 2 rfl) ?_
      refine lv_iload_n (pc := 15) hx hb dM_checkIn_15 rfl (lv_at hl 3 rfl) ?_
      obtain ⟨q8, hq8, eq8⟩ := at_4 (ad := ad) (ca := ca) (σ := σ) hm0
      obtain ⟨⟨y9, σ10⟩, hy9, hf⟩ := ob hf
      have hFc := w9_free hD hS hA
      refine va_calli (pc := 16) (va_runV (As := [.int a1]) (rest := []) ⟨hx, hb, hml, hown, hts⟩ (t_M_loops l dC dI ad ca dom H.size n σ a1 hm0 hN hC y9 σ10 hy9) (cwV 1 hts (gV wd_184 wd_185 wd_186 wd_50 wd_183) rfl rfl rfl (by decide +kernel) ⟨Nat.le_of_ble_eq_true rfl, Nat.le_of_ble_eq_true rfl⟩) ⟨hW_blind, va_recv (q := (RM, TM, 11)) (q0 := q8) (ci := 4) hK.1 hP rfl eq8, hW_pre hP hK hD hG⟩ rfl rfl hl.1 rfl (lv_room (Nat.le_of_ble_eq_true rfl)) dM_checkIn_16 ⟨Nat.le_of_ble_eq_true rfl, Nat.le_of_ble_eq_true rfl⟩) hS (fun q _ h => hFc q h) hFc (fun r9 u t H1 locs ht hvm hr9 hB hz1 hk1 hS => ?_)
      obtain ⟨hP, hD, hC⟩ := hB
      rw [ht] at hP
      replace hD := hD.weaken (fun _ _ _ h => hFc _ h)
      generalize H1 = H at hP hS ⊢
      refine W.eq (g2 := F0 m 19 ls [.int y9]) (by rw [hr9]) ?_
      refine lv_bipush (pc := 19) (v := 6) hx hb dM_checkIn_19 (by decide) ?_
      refine lv_aload_n (pc := 21) hx hb dM_checkIn_21 rfl (lv_at hl 2 rfl) ?_
      refine lv_aload_n (pc := 22) hx hb dM_checkIn_22 rfl (lv_at hl 2 rfl) ?_
      refine lv_iload_n (pc := 23) hx hb dM_checkIn_23 rfl (lv_at hl 3 rfl) ?_
      obtain ⟨q11, hq11, eq11⟩ := at_4 (ad := ad) (ca := ca) (σ := σ10) hm0
      refine vp_callSi (pc := 24) (W.runV (As := [.int a1]) (rest := [.ref (ad 4 0), .int 6, .int y9]) ⟨hx, hb, hml, hown, hts⟩ (t_M_drawingAt l dC dI ad ca dom a1 hm0 σ10 hN hC (M_drawingAt a1) rfl) (cwV 1 hts (gV wd_53 wd_54 wd_55 wd_50 wd_52) rfl rfl rfl (by decide +kernel) ⟨Nat.le_of_ble_eq_true rfl, Nat.le_of_ble_eq_true rfl⟩) ⟨hR_blind, va_recv (q := (RM, TM, 11)) (q0 := q11) (ci := 4) hK.1 hP rfl eq11, hR_pre hP hK hG⟩ rfl rfl hl.1 rfl (lv_room (Nat.le_of_ble_eq_true rfl)) dM_checkIn_24 ⟨Nat.le_of_ble_eq_true rfl, Nat.le_of_ble_eq_true rfl⟩) (fun r9 hr9 => ?_)
      refine W.eq (g2 := F0 m 27 ls [.int (M_drawingAt a1), .ref (ad 4 0), .int 6, .int y9]) (by rw [hr9]) ?_
      obtain ⟨q12, hq12, eq12⟩ := at_4 (ad := ad) (ca := ca) (σ := σ10) hm0
      obtain ⟨y13, hy13, hf⟩ := ob hf
      refine vp_callSi (pc := 27) (W.runV (As := [.int (M_drawingAt a1)]) (rest := [.int 6, .int y9]) ⟨hx, hb, hml, hown, hts⟩ (t_M_lacksRevision l dC dI ad ca dom n σ10 (M_drawingAt a1) hm0 hN hC y13 hy13) (cwV 1 hts (gV wd_188 wd_189 wd_190 wd_50 wd_187) rfl rfl rfl (by decide +kernel) ⟨Nat.le_of_ble_eq_true rfl, Nat.le_of_ble_eq_true rfl⟩) ⟨hR_blind, va_recv (q := (RM, TM, 11)) (q0 := q12) (ci := 4) hK.1 hP rfl eq12, hR_pre hP hK hG⟩ rfl rfl hl.1 rfl (lv_room (Nat.le_of_ble_eq_true rfl)) dM_checkIn_27 ⟨Nat.le_of_ble_eq_true rfl, Nat.le_of_ble_eq_true rfl⟩) (fun r9 hr9 => ?_)
      refine W.eq (g2 := F0 m 30 ls [.int y13, .int 6, .int y9]) (by rw [hr9]) ?_
      refine lv_bipush (pc := 30) (v := 7) hx hb dM_checkIn_30 (by decide) ?_
      refine lv_aload_n (pc := 32) hx hb dM_checkIn_32 rfl (lv_at hl 2 rfl) ?_
      refine lv_iload_n (pc := 33) hx hb dM_checkIn_33 rfl (lv_at hl 3 rfl) ?_
      obtain ⟨q14, hq14, eq14⟩ := at_4 (ad := ad) (ca := ca) (σ := σ10) hm0
      obtain ⟨y15, hy15, hf⟩ := ob hf
      refine vp_callSi (pc := 34) (W.runV (As := [.int a1]) (rest := [.int 7, .int y13, .int 6, .int y9]) ⟨hx, hb, hml, hown, hts⟩ (t_M_made l dC dI ad ca dom σ10 a1 hm0 hN hC y15 hy15) (cwV 1 hts (gV wd_61 wd_62 wd_63 wd_50 wd_60) rfl rfl rfl (by decide +kernel) ⟨Nat.le_of_ble_eq_true rfl, Nat.le_of_ble_eq_true rfl⟩) ⟨hR_blind, va_recv (q := (RM, TM, 11)) (q0 := q14) (ci := 4) hK.1 hP rfl eq14, hR_pre hP hK hG⟩ rfl rfl hl.1 rfl (lv_room (Nat.le_of_ble_eq_true rfl)) dM_checkIn_34 ⟨Nat.le_of_ble_eq_true rfl, Nat.le_of_ble_eq_true rfl⟩) (fun r9 hr9 => ?_)
      refine W.eq (g2 := F0 m 37 ls [.int y15, .int 7, .int y13, .int 6, .int y9]) (by rw [hr9]) ?_
      refine lv_bipush (pc := 37) (v := 12) hx hb dM_checkIn_37 (by decide) ?_
      obtain ⟨x16, hx16, hf⟩ := lt_9 hf
      refine jnF (τ := (Int32) × (Heap) × (List Loc) × (Array Slot)) (fun pc st z => W p l e _ s m _ below meth c z.2.1 z.2.2.1 0 0 _ (F0 m pc z.2.2.2 st)) (pc0 := 39) (st0 := [.int 12, .int y15, .int 7, .int y13, .int 6, .int y9]) (z0 := (0, H, _, ls)) 56 (fun z => [.int z.1, .int 7, .int y13, .int 6, .int y9]) (fun z => va_P (dC, dI) kCl (w9 ad ca dom (σ10)) z.2.1 ∧ va_D A (w9 ad ca dom (σ10)) ∧ va_S A s.heap z.2.1 z.2.2.1 ∧ lv_has z.2.2.2 7 [(4, .int 2), (3, .int y2), (0, .ref (ad 4 0)), (1, .int a1), (2, .int a2)]) (fun z => x16 z.1) (ρ, σ') ?_ ?_
      · intro hJx16
        dsimp only at hJx16 ⊢
        refine lv_icmp_eq (pc := 39) (tgt := 51) hx hb dM_checkIn_39 rfl (fun h18 => ?_) (fun h18 => ?_)
        · replace hf := ite_t h18 hf
          refine lv_iconst (pc := 51) (v := 1) hx hb dM_checkIn_51 (by decide) ?_
          refine lv_goto (pc := 52) (tgt := 56) hx hb dM_checkIn_52 rfl ?_
          have hl := lv_sub hl (l' := [(4, .int 2), (3, .int y2), (0, .ref (ad 4 0)), (1, .int a1), (2, .int a2)]) [0, 1, 2, 3, 4] rfl
          exact hJx16 (1, H, _, ls) ⟨hP, hD, hS, hl⟩ hf
        · replace hf := ite_f h18 hf
          refine lv_aload_n (pc := 42) hx hb dM_checkIn_42 rfl (lv_at hl 2 rfl) ?_
          obtain ⟨q19, hq19, eq19⟩ := at_4 (ad := ad) (ca := ca) (σ := σ10) hm0
          obtain ⟨y20, hy20, hf⟩ := ob hf
          refine vp_callSi (pc := 43) (W.runV (As := []) (rest := [.int 7, .int y13, .int 6, .int y9]) ⟨hx, hb, hml, hown, hts⟩ (t_M_allRevisions l dC dI ad ca dom n σ10 hm0 hN hC y20 hy20) (cwV 0 hts (gV wd_116 wd_117 wd_118 wd_50 wd_115) rfl rfl rfl (by decide +kernel) ⟨Nat.le_of_ble_eq_true rfl, Nat.le_of_ble_eq_true rfl⟩) ⟨hR_blind, va_recv (q := (RM, TM, 11)) (q0 := q19) (ci := 4) hK.1 hP rfl eq19, hR_pre hP hK hG⟩ rfl rfl hl.1 rfl (lv_room (Nat.le_of_ble_eq_true rfl)) dM_checkIn_43 ⟨Nat.le_of_ble_eq_true rfl, Nat.le_of_ble_eq_true rfl⟩) (fun r9 hr9 => ?_)
          refine W.eq (g2 := F0 m 46 ls [.int y20, .int 7, .int y13, .int 6, .int y9]) (by rw [hr9]) ?_
          refine lv_bipush (pc := 46) (v := 100) hx hb dM_checkIn_46 (by decide) ?_
          refine lv_icmp_ne (pc := 48) (tgt := 55) hx hb dM_checkIn_48 rfl (fun h21 => ?_) (fun h21 => ?_)
          · replace hf := ite_f h21 hf
            refine lv_iconst (pc := 55) (v := 0) hx hb dM_checkIn_55 (by decide) ?_
            have hl := lv_sub hl (l' := [(4, .int 2), (3, .int y2), (0, .ref (ad 4 0)), (1, .int a1), (2, .int a2)]) [0, 1, 2, 3, 4] rfl
            exact hJx16 (0, H, _, ls) ⟨hP, hD, hS, hl⟩ hf
          · replace hf := ite_t h21 hf
            refine lv_iconst (pc := 51) (v := 1) hx hb dM_checkIn_51 (by decide) ?_
            refine lv_goto (pc := 52) (tgt := 56) hx hb dM_checkIn_52 rfl ?_
            have hl := lv_sub hl (l' := [(4, .int 2), (3, .int y2), (0, .ref (ad 4 0)), (1, .int a1), (2, .int a2)]) [0, 1, 2, 3, 4] rfl
            exact hJx16 (1, H, _, ls) ⟨hP, hD, hS, hl⟩ hf
      · rintro ⟨s17, H, locs, ls⟩ ⟨hP, hD, hS, hl⟩ hf
        dsimp only at hP hD hS hl hf ⊢
        rw [hx16] at hf
        have hl : lv_has ls 7 [(4, .int 2), (3, .int y2), (0, .ref (ad 4 0)), (1, .int a1), (2, .int a2)] := hl
        refine lv_bipush (pc := 56) (v := 8) hx hb dM_checkIn_56 (by decide) ?_
        refine lv_iconst (pc := 58) (v := 0) hx hb dM_checkIn_58 (by decide) ?_
        refine vp_callSi (pc := 59) (W.runS (As := [.int s17, .int 8, .int 0]) (rest := [.int 7, .int y13, .int 6, .int y9]) ⟨hx, hb, hml, hown, hts⟩ (t_M_least l dC dI ad ca dom s17 8 0 σ10 hN hC (M_least s17 8 0) rfl) (cwS 3 hts (gS wd_152 wd_153 wd_50 wd_151) rfl rfl rfl (by decide +kernel) ⟨Nat.le_of_ble_eq_true rfl, Nat.le_of_ble_eq_true rfl⟩) ⟨hR_blind, hR_pre hP hK hG⟩ rfl rfl hl.1 rfl (lv_room (Nat.le_of_ble_eq_true rfl)) dM_checkIn_59 ⟨Nat.le_of_ble_eq_true rfl, Nat.le_of_ble_eq_true rfl⟩) (fun r9 hr9 => ?_)
        refine W.eq (g2 := F0 m 62 ls [.int (M_least s17 8 0), .int 7, .int y13, .int 6, .int y9]) (by rw [hr9]) ?_
        refine vp_callSi (pc := 62) (W.runS (As := [.int y13, .int 7, .int (M_least s17 8 0)]) (rest := [.int 6, .int y9]) ⟨hx, hb, hml, hown, hts⟩ (t_M_least l dC dI ad ca dom y13 7 (M_least s17 8 0) σ10 hN hC (M_least y13 7 (M_least s17 8 0)) rfl) (cwS 3 hts (gS wd_152 wd_153 wd_50 wd_151) rfl rfl rfl (by decide +kernel) ⟨Nat.le_of_ble_eq_true rfl, Nat.le_of_ble_eq_true rfl⟩) ⟨hR_blind, hR_pre hP hK hG⟩ rfl rfl hl.1 rfl (lv_room (Nat.le_of_ble_eq_true rfl)) dM_checkIn_62 ⟨Nat.le_of_ble_eq_true rfl, Nat.le_of_ble_eq_true rfl⟩) (fun r9 hr9 => ?_)
        refine W.eq (g2 := F0 m 65 ls [.int (M_least y13 7 (M_least s17 8 0)), .int 6, .int y9]) (by rw [hr9]) ?_
        refine vp_callSi (pc := 65) (W.runS (As := [.int y9, .int 6, .int (M_least y13 7 (M_least s17 8 0))]) (rest := []) ⟨hx, hb, hml, hown, hts⟩ (t_M_least l dC dI ad ca dom y9 6 (M_least y13 7 (M_least s17 8 0)) σ10 hN hC (M_least y9 6 (M_least y13 7 (M_least s17 8 0))) rfl) (cwS 3 hts (gS wd_152 wd_153 wd_50 wd_151) rfl rfl rfl (by decide +kernel) ⟨Nat.le_of_ble_eq_true rfl, Nat.le_of_ble_eq_true rfl⟩) ⟨hR_blind, hR_pre hP hK hG⟩ rfl rfl hl.1 rfl (lv_room (Nat.le_of_ble_eq_true rfl)) dM_checkIn_65 ⟨Nat.le_of_ble_eq_true rfl, Nat.le_of_ble_eq_true rfl⟩) (fun r9 hr9 => ?_)
        refine W.eq (g2 := F0 m 68 ls [.int (M_least y9 6 (M_least y13 7 (M_least s17 8 0)))]) (by rw [hr9]) ?_
        refine lv_istore_n (pc := 68) hx hb dM_checkIn_68 rfl hl (by decide) rfl (fun ls hl => ?_)
        have hl : lv_has ls 7 [(3, .int (M_least y9 6 (M_least y13 7 (M_least s17 8 0)))), (4, .int 2), (0, .ref (ad 4 0)), (1, .int a1), (2, .int a2)] := hl
        refine lv_iload (pc := 69) hx hb dM_checkIn_69 (lv_at hl 1 rfl) ?_
        refine lv_aload_n (pc := 71) hx hb dM_checkIn_71 rfl (lv_at hl 2 rfl) ?_
        refine lv_aload_n (pc := 72) hx hb dM_checkIn_72 rfl (lv_at hl 2 rfl) ?_
        refine lv_iload_n (pc := 73) hx hb dM_checkIn_73 rfl (lv_at hl 3 rfl) ?_
        obtain ⟨q22, hq22, eq22⟩ := at_4 (ad := ad) (ca := ca) (σ := σ10) hm0
        refine vp_callSi (pc := 74) (W.runV (As := [.int a1]) (rest := [.ref (ad 4 0), .int 2]) ⟨hx, hb, hml, hown, hts⟩ (t_M_drawingAt l dC dI ad ca dom a1 hm0 σ10 hN hC (M_drawingAt a1) rfl) (cwV 1 hts (gV wd_53 wd_54 wd_55 wd_50 wd_52) rfl rfl rfl (by decide +kernel) ⟨Nat.le_of_ble_eq_true rfl, Nat.le_of_ble_eq_true rfl⟩) ⟨hR_blind, va_recv (q := (RM, TM, 11)) (q0 := q22) (ci := 4) hK.1 hP rfl eq22, hR_pre hP hK hG⟩ rfl rfl hl.1 rfl (lv_room (Nat.le_of_ble_eq_true rfl)) dM_checkIn_74 ⟨Nat.le_of_ble_eq_true rfl, Nat.le_of_ble_eq_true rfl⟩) (fun r9 hr9 => ?_)
        refine W.eq (g2 := F0 m 77 ls [.int (M_drawingAt a1), .ref (ad 4 0), .int 2]) (by rw [hr9]) ?_
        obtain ⟨q23, hq23, eq23⟩ := at_4 (ad := ad) (ca := ca) (σ := σ10) hm0
        obtain ⟨y24, hy24, hf⟩ := ob hf
        refine vp_callSi (pc := 77) (W.runV (As := [.int (M_drawingAt a1)]) (rest := [.int 2]) ⟨hx, hb, hml, hown, hts⟩ (t_M_ownChunks l dC dI ad ca dom n σ10 (M_drawingAt a1) hm0 hN hC y24 hy24) (cwV 1 hts (gV wd_192 wd_193 wd_194 wd_50 wd_191) rfl rfl rfl (by decide +kernel) ⟨Nat.le_of_ble_eq_true rfl, Nat.le_of_ble_eq_true rfl⟩) ⟨hR_blind, va_recv (q := (RM, TM, 11)) (q0 := q23) (ci := 4) hK.1 hP rfl eq23, hR_pre hP hK hG⟩ rfl rfl hl.1 rfl (lv_room (Nat.le_of_ble_eq_true rfl)) dM_checkIn_77 ⟨Nat.le_of_ble_eq_true rfl, Nat.le_of_ble_eq_true rfl⟩) (fun r9 hr9 => ?_)
        refine W.eq (g2 := F0 m 80 ls [.int y24, .int 2]) (by rw [hr9]) ?_
        refine lv_iadd (pc := 80) hx hb dM_checkIn_80 ?_
        refine lv_istore (pc := 81) hx hb dM_checkIn_81 hl (by decide) rfl (fun ls hl => ?_)
        have hl : lv_has ls 7 [(4, .int (2 + y24)), (3, .int (M_least y9 6 (M_least y13 7 (M_least s17 8 0)))), (0, .ref (ad 4 0)), (1, .int a1), (2, .int a2)] := hl
        have hl := lv_sub hl (l' := [(4, .int (2 + y24)), (3, .int (M_least y9 6 (M_least y13 7 (M_least s17 8 0)))), (0, .ref (ad 4 0)), (1, .int a1), (2, .int a2)]) [0, 1, 2, 3, 4] rfl
        exact hJx3 (σ10, (2 + y24), (M_least y9 6 (M_least y13 7 (M_least s17 8 0))), H, _, ls) ⟨hP, hD, hS, hC, hl⟩ hf
  · rintro ⟨σ4, q5, q6, H, locs, ls⟩ ⟨hP, hD, hS, hC, hl⟩ hf
    dsimp only at hP hD hS hC hl hf ⊢
    rw [hx3] at hf
    have hl : lv_has ls 7 [(4, .int q5), (3, .int q6), (0, .ref (ad 4 0)), (1, .int a1), (2, .int a2)] := hl
    refine lv_aload_n (pc := 83) hx hb dM_checkIn_83 rfl (lv_at hl 2 rfl) ?_
    refine lv_iload_n (pc := 84) hx hb dM_checkIn_84 rfl (lv_at hl 1 rfl) ?_
    refine lv_iload (pc := 85) hx hb dM_checkIn_85 (lv_at hl 0 rfl) ?_
    obtain ⟨q25, hq25, eq25⟩ := at_4 (ad := ad) (ca := ca) (σ := σ4) hm0
    obtain ⟨⟨y26, σ27⟩, hy26, hf⟩ := ob hf
    have hFc := w9_free hD hS hA
    refine va_calli (pc := 87) (va_runV (As := [.int q6, .int q5]) (rest := []) ⟨hx, hb, hml, hown, hts⟩ (t_M_may l dC dI ad ca dom H.size σ4 q6 q5 hm0 hN hC y26 σ27 hy26) (cwV 2 hts (gV wd_140 wd_141 wd_142 wd_50 wd_139) rfl rfl rfl (by decide +kernel) ⟨Nat.le_of_ble_eq_true rfl, Nat.le_of_ble_eq_true rfl⟩) ⟨hW_blind, va_recv (q := (RM, TM, 11)) (q0 := q25) (ci := 4) hK.1 hP rfl eq25, hW_pre hP hK hD hG⟩ rfl rfl hl.1 rfl (lv_room (Nat.le_of_ble_eq_true rfl)) dM_checkIn_87 ⟨Nat.le_of_ble_eq_true rfl, Nat.le_of_ble_eq_true rfl⟩) hS (fun q _ h => hFc q h) hFc (fun r9 u t H1 locs ht hvm hr9 hB hz1 hk1 hS => ?_)
    obtain ⟨hP, hD, hC⟩ := hB
    rw [ht] at hP
    replace hD := hD.weaken (fun _ _ _ h => hFc _ h)
    generalize H1 = H at hP hS ⊢
    refine W.eq (g2 := F0 m 90 ls [.int y26]) (by rw [hr9]) ?_
    refine lv_if_ne (pc := 90) (tgt := 106) hx hb dM_checkIn_90 rfl (fun h28 => ?_) (fun h28 => ?_)
    · replace hf := ite_f h28 hf
      refine lv_aload_n (pc := 106) hx hb dM_checkIn_106 rfl (lv_at hl 2 rfl) ?_
      refine lv_iload_n (pc := 107) hx hb dM_checkIn_107 rfl (lv_at hl 3 rfl) ?_
      obtain ⟨q29, hq29, eq29⟩ := at_4 (ad := ad) (ca := ca) (σ := σ27) hm0
      obtain ⟨y30, hy30, hf⟩ := ob hf
      refine vp_callSi (pc := 108) (W.runV (As := [.int a1]) (rest := []) ⟨hx, hb, hml, hown, hts⟩ (t_M_made l dC dI ad ca dom σ27 a1 hm0 hN hC y30 hy30) (cwV 1 hts (gV wd_61 wd_62 wd_63 wd_50 wd_60) rfl rfl rfl (by decide +kernel) ⟨Nat.le_of_ble_eq_true rfl, Nat.le_of_ble_eq_true rfl⟩) ⟨hR_blind, va_recv (q := (RM, TM, 11)) (q0 := q29) (ci := 4) hK.1 hP rfl eq29, hR_pre hP hK hG⟩ rfl rfl hl.1 rfl (lv_room (Nat.le_of_ble_eq_true rfl)) dM_checkIn_108 ⟨Nat.le_of_ble_eq_true rfl, Nat.le_of_ble_eq_true rfl⟩) (fun r9 hr9 => ?_)
      refine W.eq (g2 := F0 m 111 ls [.int y30]) (by rw [hr9]) ?_
      refine lv_istore (pc := 111) hx hb dM_checkIn_111 hl (by decide) rfl (fun ls hl => ?_)
      have hl : lv_has ls 7 [(5, .int y30), (4, .int q5), (3, .int q6), (0, .ref (ad 4 0)), (1, .int a1), (2, .int a2)] := hl
      refine lv_aload_n (pc := 113) hx hb dM_checkIn_113 rfl (lv_at hl 3 rfl) ?_
      refine lv_iload_n (pc := 114) hx hb dM_checkIn_114 rfl (lv_at hl 4 rfl) ?_
      refine lv_iload (pc := 115) hx hb dM_checkIn_115 (lv_at hl 0 rfl) ?_
      obtain ⟨q31, hq31, eq31⟩ := at_4 (ad := ad) (ca := ca) (σ := σ27) hm0
      refine vp_callSi (pc := 117) (W.runV (As := [.int a1, .int y30]) (rest := []) ⟨hx, hb, hml, hown, hts⟩ (t_M_revisionAt l dC dI ad ca dom a1 y30 hm0 σ27 hN hC (M_revisionAt a1 y30) rfl) (cwV 2 hts (gV wd_65 wd_66 wd_67 wd_50 wd_64) rfl rfl rfl (by decide +kernel) ⟨Nat.le_of_ble_eq_true rfl, Nat.le_of_ble_eq_true rfl⟩) ⟨hR_blind, va_recv (q := (RM, TM, 11)) (q0 := q31) (ci := 4) hK.1 hP rfl eq31, hR_pre hP hK hG⟩ rfl rfl hl.1 rfl (lv_room (Nat.le_of_ble_eq_true rfl)) dM_checkIn_117 ⟨Nat.le_of_ble_eq_true rfl, Nat.le_of_ble_eq_true rfl⟩) (fun r9 hr9 => ?_)
      refine W.eq (g2 := F0 m 120 ls [.int (M_revisionAt a1 y30)]) (by rw [hr9]) ?_
      refine lv_istore (pc := 120) hx hb dM_checkIn_120 hl (by decide) rfl (fun ls hl => ?_)
      have hl : lv_has ls 7 [(6, .int (M_revisionAt a1 y30)), (5, .int y30), (4, .int q5), (3, .int q6), (0, .ref (ad 4 0)), (1, .int a1), (2, .int a2)] := hl
      refine lv_aload_n (pc := 122) hx hb dM_checkIn_122 rfl (lv_at hl 4 rfl) ?_
      refine lv_iload (pc := 123) hx hb dM_checkIn_123 (lv_at hl 0 rfl) ?_
      obtain ⟨q32, hq32, eq32⟩ := at_4 (ad := ad) (ca := ca) (σ := σ27) hm0
      obtain ⟨⟨y33, σ34⟩, hy33, hf⟩ := ob hf
      have hFc := w9_free hD hS hA
      refine va_callv (pc := 125) (va_runV (As := [.int (M_revisionAt a1 y30)]) (rest := []) ⟨hx, hb, hml, hown, hts⟩ (t_M_blank l dC dI ad ca dom H.size n σ27 (M_revisionAt a1 y30) hm0 hN hC y33 σ34 hy33) (cwV 1 hts (gV wd_155 wd_156 wd_157 wd_50 wd_154) rfl rfl rfl (by decide +kernel) ⟨Nat.le_of_ble_eq_true rfl, Nat.le_of_ble_eq_true rfl⟩) ⟨hW_blind, va_recv (q := (RM, TM, 11)) (q0 := q32) (ci := 4) hK.1 hP rfl eq32, hW_pre hP hK hD hG⟩ rfl rfl hl.1 rfl (lv_room (Nat.le_of_ble_eq_true rfl)) dM_checkIn_125 ⟨Nat.le_of_ble_eq_true rfl, Nat.le_of_ble_eq_true rfl⟩) hS (fun q _ h => hFc q h) hFc (fun u t H1 locs ht hvm hr9 hB hz1 hk1 hS => ?_)
      obtain ⟨hP, hD, hC⟩ := hB
      rw [ht] at hP
      replace hD := hD.weaken (fun _ _ _ h => hFc _ h)
      generalize H1 = H at hP hS ⊢
      refine lv_aload_n (pc := 128) hx hb dM_checkIn_128 rfl (lv_at hl 4 rfl) ?_
      refine lv_aload_n (pc := 129) hx hb dM_checkIn_129 rfl (lv_at hl 4 rfl) ?_
      refine lv_iload_n (pc := 130) hx hb dM_checkIn_130 rfl (lv_at hl 5 rfl) ?_
      obtain ⟨q35, hq35, eq35⟩ := at_4 (ad := ad) (ca := ca) (σ := σ34) hm0
      refine vp_callSi (pc := 131) (W.runV (As := [.int a1]) (rest := [.ref (ad 4 0)]) ⟨hx, hb, hml, hown, hts⟩ (t_M_drawingAt l dC dI ad ca dom a1 hm0 σ34 hN hC (M_drawingAt a1) rfl) (cwV 1 hts (gV wd_53 wd_54 wd_55 wd_50 wd_52) rfl rfl rfl (by decide +kernel) ⟨Nat.le_of_ble_eq_true rfl, Nat.le_of_ble_eq_true rfl⟩) ⟨hR_blind, va_recv (q := (RM, TM, 11)) (q0 := q35) (ci := 4) hK.1 hP rfl eq35, hR_pre hP hK hG⟩ rfl rfl hl.1 rfl (lv_room (Nat.le_of_ble_eq_true rfl)) dM_checkIn_131 ⟨Nat.le_of_ble_eq_true rfl, Nat.le_of_ble_eq_true rfl⟩) (fun r9 hr9 => ?_)
      refine W.eq (g2 := F0 m 134 ls [.int (M_drawingAt a1), .ref (ad 4 0)]) (by rw [hr9]) ?_
      refine lv_iload (pc := 134) hx hb dM_checkIn_134 (lv_at hl 0 rfl) ?_
      obtain ⟨q36, hq36, eq36⟩ := at_4 (ad := ad) (ca := ca) (σ := σ34) hm0
      obtain ⟨⟨y37, σ38⟩, hy37, hf⟩ := ob hf
      have hFc := w9_free hD hS hA
      refine va_callv (pc := 136) (va_runV (As := [.int (M_drawingAt a1), .int (M_revisionAt a1 y30)]) (rest := []) ⟨hx, hb, hml, hown, hts⟩ (t_M_copy l dC dI ad ca dom H.size n σ34 (M_drawingAt a1) (M_revisionAt a1 y30) hm0 hN hC y37 σ38 hy37) (cwV 2 hts (gV wd_159 wd_160 wd_161 wd_50 wd_158) rfl rfl rfl (by decide +kernel) ⟨Nat.le_of_ble_eq_true rfl, Nat.le_of_ble_eq_true rfl⟩) ⟨hW_blind, va_recv (q := (RM, TM, 11)) (q0 := q36) (ci := 4) hK.1 hP rfl eq36, hW_pre hP hK hD hG⟩ rfl rfl hl.1 rfl (lv_room (Nat.le_of_ble_eq_true rfl)) dM_checkIn_136 ⟨Nat.le_of_ble_eq_true rfl, Nat.le_of_ble_eq_true rfl⟩) hS (fun q _ h => hFc q h) hFc (fun u t H1 locs ht hvm hr9 hB hz1 hk1 hS => ?_)
      obtain ⟨hP, hD, hC⟩ := hB
      rw [ht] at hP
      replace hD := hD.weaken (fun _ _ _ h => hFc _ h)
      generalize H1 = H at hP hS ⊢
      refine lv_aload_n (pc := 139) hx hb dM_checkIn_139 rfl (lv_at hl 4 rfl) ?_
      obtain ⟨q39, hq39, eq39⟩ := at_4 (ad := ad) (ca := ca) (σ := σ38) hm0
      refine va_get (D := (dC, dI)) (cl := kCl) (C := RM) (T := TM) (N := 11) (pc := 140) hx hb hts inM hown hK.1 hP q39 eq39 rfl 2 (by decide) (hts _ wd_51) (fun _ h9 => h9) rfl dM_checkIn_140 ?_
      refine lv_iload (pc := 143) hx hb dM_checkIn_143 (lv_at hl 0 rfl) ?_
      refine lv_iconst (pc := 145) (v := 1) hx hb dM_checkIn_145 (by decide) ?_
      refine lv_iadd (pc := 146) hx hb dM_checkIn_146 ?_
      refine lv_iload_n (pc := 147) hx hb dM_checkIn_147 rfl (lv_at hl 6 rfl) ?_
      obtain ⟨hv41, hf⟩ := ite_s hf
      obtain ⟨q42, hq42, eq42⟩ := at_15 (ad := ad) (ca := ca) (σ := σ38) (cm_4_2 hC hm0)
      refine va_iast (D := (dC, dI)) (cl := kCl) (pc := 148) hx hb (hK.2 15 0 .int (cm_4_2 hC hm0) rfl) hP hD hS q42 0 eq42 rfl (hv41) dM_checkIn_148 (fun H locs hP hD hS => ?_)
      obtain ⟨σ40, hσ40, hf⟩ := lt_9 hf
      obtain ⟨hP, hD⟩ := w9_rI 15 rfl hN hq42 hσ40 (pr_15) hP hD
      have hC : clo dom σ40.2.2 := by rw [hσ40]; exact hC
      refine lv_aload_n (pc := 149) hx hb dM_checkIn_149 rfl (lv_at hl 4 rfl) ?_
      obtain ⟨q43, hq43, eq43⟩ := at_4 (ad := ad) (ca := ca) (σ := σ40) hm0
      refine va_get (D := (dC, dI)) (cl := kCl) (C := RM) (T := TM) (N := 11) (pc := 150) hx hb hts inM hown hK.1 hP q43 eq43 rfl 2 (by decide) (hts _ wd_51) (fun _ h9 => h9) rfl dM_checkIn_150 ?_
      refine lv_aload_n (pc := 153) hx hb dM_checkIn_153 rfl (lv_at hl 4 rfl) ?_
      refine lv_iload_n (pc := 154) hx hb dM_checkIn_154 rfl (lv_at hl 5 rfl) ?_
      obtain ⟨q44, hq44, eq44⟩ := at_4 (ad := ad) (ca := ca) (σ := σ40) hm0
      refine vp_callSi (pc := 155) (W.runV (As := [.int a1]) (rest := [.ref (ad 15 0)]) ⟨hx, hb, hml, hown, hts⟩ (t_M_drawingAt l dC dI ad ca dom a1 hm0 σ40 hN hC (M_drawingAt a1) rfl) (cwV 1 hts (gV wd_53 wd_54 wd_55 wd_50 wd_52) rfl rfl rfl (by decide +kernel) ⟨Nat.le_of_ble_eq_true rfl, Nat.le_of_ble_eq_true rfl⟩) ⟨hR_blind, va_recv (q := (RM, TM, 11)) (q0 := q44) (ci := 4) hK.1 hP rfl eq44, hR_pre hP hK hG⟩ rfl rfl hl.1 rfl (lv_room (Nat.le_of_ble_eq_true rfl)) dM_checkIn_155 ⟨Nat.le_of_ble_eq_true rfl, Nat.le_of_ble_eq_true rfl⟩) (fun r9 hr9 => ?_)
      refine W.eq (g2 := F0 m 158 ls [.int (M_drawingAt a1), .ref (ad 15 0)]) (by rw [hr9]) ?_
      refine lv_iconst (pc := 158) (v := 0) hx hb dM_checkIn_158 (by decide) ?_
      refine lv_iadd (pc := 159) hx hb dM_checkIn_159 ?_
      refine lv_dup2_11 (pc := 160) hx hb dM_checkIn_160 rfl rfl ?_
      obtain ⟨hv45, hf⟩ := ite_s hf
      obtain ⟨q46, hq46, eq46⟩ := at_15 (ad := ad) (ca := ca) (σ := σ40) (cm_4_2 hC hm0)
      refine va_iald (D := (dC, dI)) (cl := kCl) (pc := 161) hx hb (hK.2 15 0 .int (cm_4_2 hC hm0) rfl) hP q46 0 eq46 rfl (hv45) dM_checkIn_161 ?_
      refine W.eq (g2 := F0 m 162 ls [.int (xI σ40 15 0 (((M_drawingAt a1) + 0)).toNatClampNeg), .int ((M_drawingAt a1) + 0), .ref (ad 15 0)]) rfl ?_
      refine lv_iconst (pc := 162) (v := 1) hx hb dM_checkIn_162 (by decide) ?_
      refine lv_iadd (pc := 163) hx hb dM_checkIn_163 ?_
      obtain ⟨hv48, hf⟩ := ite_s hf
      obtain ⟨q49, hq49, eq49⟩ := at_15 (ad := ad) (ca := ca) (σ := σ40) (cm_4_2 hC hm0)
      refine va_iast (D := (dC, dI)) (cl := kCl) (pc := 164) hx hb (hK.2 15 0 .int (cm_4_2 hC hm0) rfl) hP hD hS q49 0 eq49 rfl (hv48) dM_checkIn_164 (fun H locs hP hD hS => ?_)
      obtain ⟨σ47, hσ47, hf⟩ := lt_9 hf
      obtain ⟨hP, hD⟩ := w9_rI 15 rfl hN hq49 hσ47 (pr_15) hP hD
      have hC : clo dom σ47.2.2 := by rw [hσ47]; exact hC
      refine lv_aload_n (pc := 165) hx hb dM_checkIn_165 rfl (lv_at hl 4 rfl) ?_
      obtain ⟨q50, hq50, eq50⟩ := at_4 (ad := ad) (ca := ca) (σ := σ47) hm0
      refine va_get (D := (dC, dI)) (cl := kCl) (C := RM) (T := TM) (N := 11) (pc := 166) hx hb hts inM hown hK.1 hP q50 eq50 rfl 2 (by decide) (hts _ wd_51) (fun _ h9 => h9) rfl dM_checkIn_166 ?_
      refine lv_aload_n (pc := 169) hx hb dM_checkIn_169 rfl (lv_at hl 4 rfl) ?_
      refine lv_iload_n (pc := 170) hx hb dM_checkIn_170 rfl (lv_at hl 5 rfl) ?_
      obtain ⟨q51, hq51, eq51⟩ := at_4 (ad := ad) (ca := ca) (σ := σ47) hm0
      refine vp_callSi (pc := 171) (W.runV (As := [.int a1]) (rest := [.ref (ad 15 0)]) ⟨hx, hb, hml, hown, hts⟩ (t_M_drawingAt l dC dI ad ca dom a1 hm0 σ47 hN hC (M_drawingAt a1) rfl) (cwV 1 hts (gV wd_53 wd_54 wd_55 wd_50 wd_52) rfl rfl rfl (by decide +kernel) ⟨Nat.le_of_ble_eq_true rfl, Nat.le_of_ble_eq_true rfl⟩) ⟨hR_blind, va_recv (q := (RM, TM, 11)) (q0 := q51) (ci := 4) hK.1 hP rfl eq51, hR_pre hP hK hG⟩ rfl rfl hl.1 rfl (lv_room (Nat.le_of_ble_eq_true rfl)) dM_checkIn_171 ⟨Nat.le_of_ble_eq_true rfl, Nat.le_of_ble_eq_true rfl⟩) (fun r9 hr9 => ?_)
      refine W.eq (g2 := F0 m 174 ls [.int (M_drawingAt a1), .ref (ad 15 0)]) (by rw [hr9]) ?_
      refine lv_iconst (pc := 174) (v := 1) hx hb dM_checkIn_174 (by decide) ?_
      refine lv_iadd (pc := 175) hx hb dM_checkIn_175 ?_
      refine lv_iconst (pc := 176) (v := 0) hx hb dM_checkIn_176 (by decide) ?_
      obtain ⟨hv53, hf⟩ := ite_s hf
      obtain ⟨q54, hq54, eq54⟩ := at_15 (ad := ad) (ca := ca) (σ := σ47) (cm_4_2 hC hm0)
      refine va_iast (D := (dC, dI)) (cl := kCl) (pc := 177) hx hb (hK.2 15 0 .int (cm_4_2 hC hm0) rfl) hP hD hS q54 0 eq54 rfl (hv53) dM_checkIn_177 (fun H locs hP hD hS => ?_)
      obtain ⟨σ52, hσ52, hf⟩ := lt_9 hf
      obtain ⟨hP, hD⟩ := w9_rI 15 rfl hN hq54 hσ52 (pr_15) hP hD
      have hC : clo dom σ52.2.2 := by rw [hσ52]; exact hC
      refine lv_aload_n (pc := 178) hx hb dM_checkIn_178 rfl (lv_at hl 4 rfl) ?_
      obtain ⟨q55, hq55, eq55⟩ := at_4 (ad := ad) (ca := ca) (σ := σ52) hm0
      obtain ⟨⟨y56, σ57⟩, hy56, hf⟩ := ob hf
      have hFc := w9_free hD hS hA
      refine va_callv (pc := 179) (va_runV (As := []) (rest := []) ⟨hx, hb, hml, hown, hts⟩ (t_M_close l dC dI ad ca dom H.size n σ52 hm0 hN hC y56 σ57 hy56) (cwV 0 hts (gV wd_144 wd_145 wd_146 wd_50 wd_143) rfl rfl rfl (by decide +kernel) ⟨Nat.le_of_ble_eq_true rfl, Nat.le_of_ble_eq_true rfl⟩) ⟨hW_blind, va_recv (q := (RM, TM, 11)) (q0 := q55) (ci := 4) hK.1 hP rfl eq55, hW_pre hP hK hD hG⟩ rfl rfl hl.1 rfl (lv_room (Nat.le_of_ble_eq_true rfl)) dM_checkIn_179 ⟨Nat.le_of_ble_eq_true rfl, Nat.le_of_ble_eq_true rfl⟩) hS (fun q _ h => hFc q h) hFc (fun u t H1 locs ht hvm hr9 hB hz1 hk1 hS => ?_)
      obtain ⟨hP, hD, hC⟩ := hB
      rw [ht] at hP
      replace hD := hD.weaken (fun _ _ _ h => hFc _ h)
      generalize H1 = H at hP hS ⊢
      refine lv_iload (pc := 182) hx hb dM_checkIn_182 (lv_at hl 1 rfl) ?_
      obtain ⟨h8, h9⟩ := Prod.mk.inj (Option.some.inj hf)
      subst h9
      exact W.iret (pc := 184) hx hb hr (fun t ht hW => ⟨⟨_, (), rfl, h8, by rw [ht]; exact hP, hD, hC⟩, hS.F ht⟩) hS.2.2 dM_checkIn_184
    · replace hf := ite_t h28 hf
      refine lv_aload_n (pc := 93) hx hb dM_checkIn_93 rfl (lv_at hl 2 rfl) ?_
      obtain ⟨q58, hq58, eq58⟩ := at_4 (ad := ad) (ca := ca) (σ := σ27) hm0
      refine va_get (D := (dC, dI)) (cl := kCl) (C := RM) (T := TM) (N := 11) (pc := 94) hx hb hts inM hown hK.1 hP q58 eq58 rfl 0 (by decide) (hts _ wd_45) (fun _ h9 => h9) rfl dM_checkIn_94 ?_
      refine lv_if_le (pc := 97) (tgt := 104) hx hb dM_checkIn_97 rfl (fun h59 => ?_) (fun h59 => ?_)
      · replace hf := ite_t h59 hf
        refine lv_iconst (pc := 104) (v := (-1)) hx hb dM_checkIn_104 (by decide) ?_
        obtain ⟨h8, h9⟩ := Prod.mk.inj (Option.some.inj hf)
        subst h9
        exact W.iret (pc := 105) hx hb hr (fun t ht hW => ⟨⟨_, (), rfl, h8, by rw [ht]; exact hP, hD, hC⟩, hS.F ht⟩) hS.2.2 dM_checkIn_105
      · replace hf := ite_f h59 hf
        refine lv_iconst (pc := 100) (v := 0) hx hb dM_checkIn_100 (by decide) ?_
        refine lv_goto (pc := 101) (tgt := 105) hx hb dM_checkIn_101 rfl ?_
        obtain ⟨h8, h9⟩ := Prod.mk.inj (Option.some.inj hf)
        subst h9
        exact W.iret (pc := 105) hx hb hr (fun t ht hW => ⟨⟨_, (), rfl, h8, by rw [ht]; exact hP, hD, hC⟩, hS.F ht⟩) hS.2.2 dM_checkIn_105
