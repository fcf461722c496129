theorem dM_may_4 : decode cM_may 4 = .ok (.aload_n 0, 1) := by decide +kernel
theorem dM_may_5 : decode cM_may 5 = .ok (.getfield 7, 3) := by decide +kernel
theorem dM_may_8 : decode cM_may 8 = .ok (.bipush 17, 2) := by decide +kernel
theorem dM_may_10 : decode cM_may 10 = .ok (.iaload, 1) := by decide +kernel
theorem dM_may_11 : decode cM_may 11 = .ok (.iload_n 2, 1) := by decide +kernel
theorem dM_may_12 : decode cM_may 12 = .ok (.if_icmp .ge 8, 3) := by decide +kernel
theorem dM_may_51 : decode cM_may 51 = .ok (.aload_n 0, 1) := by decide +kernel
theorem dM_may_52 : decode cM_may 52 = .ok (.getfield 16, 3) := by decide +kernel
theorem dM_may_55 : decode cM_may 55 = .ok (.iconst (-1), 1) := by decide +kernel
theorem dM_may_56 : decode cM_may 56 = .ok (.if_icmp .eq 23, 3) := by decide +kernel
theorem dM_may_90 : decode cM_may 90 = .ok (.aload_n 0, 1) := by decide +kernel
theorem dM_may_91 : decode cM_may 91 = .ok (.aload_n 0, 1) := by decide +kernel
theorem dM_may_92 : decode cM_may 92 = .ok (.getfield 16, 3) := by decide +kernel
theorem dM_may_95 : decode cM_may 95 = .ok (.iconst (-1), 1) := by decide +kernel
theorem dM_may_96 : decode cM_may 96 = .ok (.if_icmp .ne 7, 3) := by decide +kernel
theorem dM_may_99 : decode cM_may 99 = .ok (.iconst (-1), 1) := by decide +kernel
theorem dM_may_100 : decode cM_may 100 = .ok (.goto 9, 3) := by decide +kernel
theorem dM_may_109 : decode cM_may 109 = .ok (.putfield 16, 3) := by decide +kernel
theorem dM_may_112 : decode cM_may 112 = .ok (.aload_n 0, 1) := by decide +kernel
theorem dM_may_113 : decode cM_may 113 = .ok (.getfield 7, 3) := by decide +kernel
theorem dM_may_116 : decode cM_may 116 = .ok (.bipush 17, 2) := by decide +kernel
theorem dM_may_118 : decode cM_may 118 = .ok (.dup2, 1) := by decide +kernel
theorem dM_may_119 : decode cM_may 119 = .ok (.iaload, 1) := by decide +kernel
theorem dM_may_120 : decode cM_may 120 = .ok (.iload_n 2, 1) := by decide +kernel
theorem dM_may_121 : decode cM_may 121 = .ok (.isub, 1) := by decide +kernel
theorem dM_may_122 : decode cM_may 122 = .ok (.iastore, 1) := by decide +kernel
theorem dM_may_123 : decode cM_may 123 = .ok (.aload_n 0, 1) := by decide +kernel
theorem dM_may_124 : decode cM_may 124 = .ok (.getfield 7, 3) := by decide +kernel
theorem dM_may_127 : decode cM_may 127 = .ok (.bipush 18, 2) := by decide +kernel
theorem dM_may_129 : decode cM_may 129 = .ok (.dup2, 1) := by decide +kernel
theorem dM_may_130 : decode cM_may 130 = .ok (.iaload, 1) := by decide +kernel
theorem dM_may_131 : decode cM_may 131 = .ok (.iconst 1, 1) := by decide +kernel
theorem dM_may_132 : decode cM_may 132 = .ok (.iadd, 1) := by decide +kernel
theorem dM_may_133 : decode cM_may 133 = .ok (.iastore, 1) := by decide +kernel
theorem dM_may_134 : decode cM_may 134 = .ok (.iconst 1, 1) := by decide +kernel
theorem dM_may_135 : decode cM_may 135 = .ok (.ireturn, 1) := by decide +kernel
abbrev cM_keep : ByteArray := prog_9_method_3_code
abbrev yM_keep : MethodName := ⟨"DrawingVaultModel", "keep", "()V"⟩
theorem dM_keep_0 : decode cM_keep 0 = .ok (.iconst 0, 1) := by decide +kernel
theorem dM_keep_1 : decode cM_keep 1 = .ok (.istore_n 1, 1) := by decide +kernel
theorem dM_keep_2 : decode cM_keep 2 = .ok (.iload_n 1, 1) := by decide +kernel
theorem dM_keep_3 : decode cM_keep 3 = .ok (.sipush 25240, 3) := by decide +kernel
theorem dM_keep_6 : decode cM_keep 6 = .ok (.if_icmp .ge 21, 3) := by decide +kernel
theorem dM_keep_9 : decode cM_keep 9 = .ok (.aload_n 0, 1) := by decide +kernel
theorem dM_keep_10 : decode cM_keep 10 = .ok (.getfield 13, 3) := by decide +kernel
theorem dM_keep_13 : decode cM_keep 13 = .ok (.iload_n 1, 1) := by decide +kernel
theorem dM_keep_14 : decode cM_keep 14 = .ok (.aload_n 0, 1) := by decide +kernel
theorem dM_keep_15 : decode cM_keep 15 = .ok (.getfield 7, 3) := by decide +kernel
theorem dM_keep_18 : decode cM_keep 18 = .ok (.iload_n 1, 1) := by decide +kernel
theorem dM_keep_19 : decode cM_keep 19 = .ok (.iaload, 1) := by decide +kernel
theorem dM_keep_20 : decode cM_keep 20 = .ok (.iastore, 1) := by decide +kernel
theorem dM_keep_21 : decode cM_keep 21 = .ok (.iinc 1 1, 3) := by decide +kernel
theorem dM_keep_24 : decode cM_keep 24 = .ok (.goto (-22), 3) := by decide +kernel
theorem dM_keep_27 : decode cM_keep 27 = .ok (.return_, 1) := by decide +kernel
abbrev cM_close : ByteArray := prog_9_method_30_code
abbrev yM_close : MethodName := ⟨"DrawingVaultModel", "close", "()V"⟩
theorem dM_close_0 : decode cM_close 0 = .ok (.aload_n 0, 1) := by decide +kernel
theorem dM_close_1 : decode cM_close 1 = .ok (.getfield 7, 3) := by decide +kernel
theorem dM_close_4 : decode cM_close 4 = .ok (.bipush 17, 2) := by decide +kernel
theorem dM_close_6 : decode cM_close 6 = .ok (.iaload, 1) := by decide +kernel
theorem dM_close_7 : decode cM_close 7 = .ok (.bipush 40, 2) := by decide +kernel
theorem dM_close_9 : decode cM_close 9 = .ok (.if_icmp .ge 37, 3) := by decide +kernel
theorem dM_close_46 : decode cM_close 46 = .ok (.aload_n 0, 1) := by decide +kernel
theorem dM_close_47 : decode cM_close 47 = .ok (.invokevirtual 30, 3) := by decide +kernel
theorem dM_close_50 : decode cM_close 50 = .ok (.return_, 1) := by decide +kernel
abbrev cM_person : ByteArray := prog_9_method_31_code
abbrev yM_person : MethodName := ⟨"DrawingVaultModel", "person", "(II)Z"⟩
theorem dM_person_0 : decode cM_person 0 = .ok (.aload_n 0, 1) := by decide +kernel
theorem dM_person_1 : decode cM_person 1 = .ok (.iload_n 1, 1) := by decide +kernel
theorem dM_person_2 : decode cM_person 2 = .ok (.invokevirtual 36, 3) := by decide +kernel
theorem dM_person_5 : decode cM_person 5 = .ok (.ifCond .eq 17, 3) := by decide +kernel
theorem dM_person_8 : decode cM_person 8 = .ok (.iload_n 2, 1) := by decide +kernel
theorem dM_person_9 : decode cM_person 9 = .ok (.ifCond .lt 13, 3) := by decide +kernel
theorem dM_person_12 : decode cM_person 12 = .ok (.iload_n 2, 1) := by decide +kernel
theorem dM_person_13 : decode cM_person 13 = .ok (.bipush 8, 2) := by decide +kernel
theorem dM_person_15 : decode cM_person 15 = .ok (.if_icmp .ge 7, 3) := by decide +kernel
theorem dM_person_18 : decode cM_person 18 = .ok (.iconst 0, 1) := by decide +kernel
theorem dM_person_19 : decode cM_person 19 = .ok (.goto 5, 3) := by decide +kernel
theorem dM_person_22 : decode cM_person 22 = .ok (.bipush 7, 2) := by decide +kernel
theorem dM_person_24 : decode cM_person 24 = .ok (.istore_n 3, 1) := by decide +kernel
theorem dM_person_25 : decode cM_person 25 = .ok (.aload_n 0, 1) := by decide +kernel
theorem dM_person_26 : decode cM_person 26 = .ok (.iload_n 3, 1) := by decide +kernel
theorem dM_person_27 : decode cM_person 27 = .ok (.iconst 1, 1) := by decide +kernel
theorem dM_person_28 : decode cM_person 28 = .ok (.invokevirtual 112, 3) := by decide +kernel
theorem dM_person_31 : decode cM_person 31 = .ok (.ifCond .ne 5, 3) := by decide +kernel
theorem dM_person_34 : decode cM_person 34 = .ok (.iconst 0, 1) := by decide +kernel
theorem dM_person_35 : decode cM_person 35 = .ok (.ireturn, 1) := by decide +kernel
theorem dM_person_36 : decode cM_person 36 = .ok (.aload_n 0, 1) := by decide +kernel
theorem dM_person_37 : decode cM_person 37 = .ok (.getfield 7, 3) := by decide +kernel
theorem dM_person_40 : decode cM_person 40 = .ok (.iload_n 1, 1) := by decide +kernel
theorem dM_person_41 : decode cM_person 41 = .ok (.iload_n 2, 1) := by decide +kernel
theorem dM_person_42 : decode cM_person 42 = .ok (.iastore, 1) := by decide +kernel
theorem dM_person_43 : decode cM_person 43 = .ok (.aload_n 0, 1) := by decide +kernel
theorem dM_person_44 : decode cM_person 44 = .ok (.invokevirtual 115, 3) := by decide +kernel
theorem dM_person_47 : decode cM_person 47 = .ok (.iconst 1, 1) := by decide +kernel
theorem dM_person_48 : decode cM_person 48 = .ok (.ireturn, 1) := by decide +kernel
abbrev cM_start : ByteArray := prog_9_method_66_code
abbrev yM_start : MethodName := ⟨"DrawingVaultModel", "start", "()I"⟩
theorem dM_start_0 : decode cM_start 0 = .ok (.aload_n 0, 1) := by decide +kernel
theorem dM_start_1 : decode cM_start 1 = .ok (.iconst 0, 1) := by decide +kernel
theorem dM_start_2 : decode cM_start 2 = .ok (.putfield 33, 3) := by decide +kernel
theorem dM_start_5 : decode cM_start 5 = .ok (.aload_n 0, 1) := by decide +kernel
theorem dM_start_6 : decode cM_start 6 = .ok (.iconst 0, 1) := by decide +kernel
theorem dM_start_7 : decode cM_start 7 = .ok (.putfield 102, 3) := by decide +kernel
theorem dM_start_10 : decode cM_start 10 = .ok (.aload_n 0, 1) := by decide +kernel
theorem dM_start_11 : decode cM_start 11 = .ok (.iconst (-1), 1) := by decide +kernel
theorem dM_start_12 : decode cM_start 12 = .ok (.putfield 16, 3) := by decide +kernel
theorem dM_start_15 : decode cM_start 15 = .ok (.iconst 0, 1) := by decide +kernel
theorem dM_start_16 : decode cM_start 16 = .ok (.istore_n 1, 1) := by decide +kernel
theorem dM_start_17 : decode cM_start 17 = .ok (.iconst 0, 1) := by decide +kernel
theorem dM_start_18 : decode cM_start 18 = .ok (.istore_n 2, 1) := by decide +kernel
theorem dM_start_19 : decode cM_start 19 = .ok (.iload_n 2, 1) := by decide +kernel
theorem dM_start_20 : decode cM_start 20 = .ok (.sipush 25240, 3) := by decide +kernel
theorem dM_start_23 : decode cM_start 23 = .ok (.if_icmp .ge 21, 3) := by decide +kernel
theorem dM_start_26 : decode cM_start 26 = .ok (.aload_n 0, 1) := by decide +kernel
theorem dM_start_27 : decode cM_start 27 = .ok (.getfield 7, 3) := by decide +kernel
theorem dM_start_30 : decode cM_start 30 = .ok (.iload_n 2, 1) := by decide +kernel
theorem dM_start_31 : decode cM_start 31 = .ok (.aload_n 0, 1) := by decide +kernel
theorem dM_start_32 : decode cM_start 32 = .ok (.getfield 13, 3) := by decide +kernel
theorem dM_start_35 : decode cM_start 35 = .ok (.iload_n 2, 1) := by decide +kernel
theorem dM_start_36 : decode cM_start 36 = .ok (.iaload, 1) := by decide +kernel
theorem dM_start_37 : decode cM_start 37 = .ok (.iastore, 1) := by decide +kernel
theorem dM_start_38 : decode cM_start 38 = .ok (.iinc 2 1, 3) := by decide +kernel
theorem dM_start_41 : decode cM_start 41 = .ok (.goto (-22), 3) := by decide +kernel
theorem dM_start_44 : decode cM_start 44 = .ok (.iconst 0, 1) := by decide +kernel
theorem dM_start_45 : decode cM_start 45 = .ok (.istore_n 2, 1) := by decide +kernel
theorem dM_start_46 : decode cM_start 46 = .ok (.iload_n 2, 1) := by decide +kernel
theorem dM_start_47 : decode cM_start 47 = .ok (.aload_n 0, 1) := by decide +kernel
theorem dM_start_48 : decode cM_start 48 = .ok (.getfield 7, 3) := by decide +kernel
theorem dM_start_51 : decode cM_start 51 = .ok (.bipush 16, 2) := by decide +kernel
theorem dM_start_53 : decode cM_start 53 = .ok (.iaload, 1) := by decide +kernel
theorem dM_start_54 : decode cM_start 54 = .ok (.if_icmp .ge 25, 3) := by decide +kernel
theorem dM_start_79 : decode cM_start 79 = .ok (.iload_n 1, 1) := by decide +kernel
theorem dM_start_80 : decode cM_start 80 = .ok (.ireturn, 1) := by decide +kernel
abbrev cM_contentAt : ByteArray := prog_9_method_23_code
abbrev yM_contentAt : MethodName := ⟨"DrawingVaultModel", "contentAt", "(I)I"⟩
theorem dM_contentAt_0 : decode cM_contentAt 0 = .ok (.iload_n 1, 1) := by decide +kernel
theorem dM_contentAt_1 : decode cM_contentAt 1 = .ok (.bipush 24, 2) := by decide +kernel
theorem dM_contentAt_3 : decode cM_contentAt 3 = .ok (.if_icmp .ge 29, 3) := by decide +kernel
theorem dM_contentAt_6 : decode cM_contentAt 6 = .ok (.aload_n 0, 1) := by decide +kernel
theorem dM_contentAt_7 : decode cM_contentAt 7 = .ok (.iload_n 1, 1) := by decide +kernel
theorem dM_contentAt_8 : decode cM_contentAt 8 = .ok (.invokevirtual 44, 3) := by decide +kernel
theorem dM_contentAt_11 : decode cM_contentAt 11 = .ok (.ifCond .eq 19, 3) := by decide +kernel
theorem dM_contentAt_30 : decode cM_contentAt 30 = .ok (.iconst (-1), 1) := by decide +kernel
theorem dM_contentAt_31 : decode cM_contentAt 31 = .ok (.ireturn, 1) := by decide +kernel
theorem dM_contentAt_32 : decode cM_contentAt 32 = .ok (.iload_n 1, 1) := by decide +kernel
theorem dM_contentAt_33 : decode cM_contentAt 33 = .ok (.bipush 24, 2) := by decide +kernel
theorem dM_contentAt_35 : decode cM_contentAt 35 = .ok (.isub, 1) := by decide +kernel
theorem dM_contentAt_36 : decode cM_contentAt 36 = .ok (.istore_n 2, 1) := by decide +kernel
theorem dM_contentAt_37 : decode cM_contentAt 37 = .ok (.aload_n 0, 1) := by decide +kernel
theorem dM_contentAt_38 : decode cM_contentAt 38 = .ok (.iload_n 2, 1) := by decide +kernel
theorem dM_contentAt_39 : decode cM_contentAt 39 = .ok (.bipush 12, 2) := by decide +kernel
theorem dM_contentAt_41 : decode cM_contentAt 41 = .ok (.idiv, 1) := by decide +kernel
theorem dM_contentAt_42 : decode cM_contentAt 42 = .ok (.iload_n 2, 1) := by decide +kernel
theorem dM_contentAt_43 : decode cM_contentAt 43 = .ok (.bipush 12, 2) := by decide +kernel
theorem dM_contentAt_45 : decode cM_contentAt 45 = .ok (.irem, 1) := by decide +kernel
theorem dM_contentAt_46 : decode cM_contentAt 46 = .ok (.invokevirtual 79, 3) := by decide +kernel
theorem dM_contentAt_49 : decode cM_contentAt 49 = .ok (.ifCond .eq 18, 3) := by decide +kernel
theorem dM_contentAt_67 : decode cM_contentAt 67 = .ok (.iconst (-1), 1) := by decide +kernel
theorem dM_contentAt_68 : decode cM_contentAt 68 = .ok (.ireturn, 1) := by decide +kernel
abbrev cM_chunks : ByteArray := prog_9_method_25_code
abbrev yM_chunks : MethodName := ⟨"DrawingVaultModel", "chunks", "(I)I"⟩
theorem dM_chunks_0 : decode cM_chunks 0 = .ok (.iconst 0, 1) := by decide +kernel
theorem dM_chunks_1 : decode cM_chunks 1 = .ok (.istore_n 2, 1) := by decide +kernel
theorem dM_chunks_2 : decode cM_chunks 2 = .ok (.iload_n 1, 1) := by decide +kernel
theorem dM_chunks_3 : decode cM_chunks 3 = .ok (.istore_n 3, 1) := by decide +kernel
theorem dM_chunks_4 : decode cM_chunks 4 = .ok (.iload_n 3, 1) := by decide +kernel
theorem dM_chunks_5 : decode cM_chunks 5 = .ok (.sipush 312, 3) := by decide +kernel
theorem dM_chunks_8 : decode cM_chunks 8 = .ok (.if_icmp .ge 157, 3) := by decide +kernel
theorem dM_chunks_11 : decode cM_chunks 11 = .ok (.aload_n 0, 1) := by decide +kernel
theorem dM_chunks_12 : decode cM_chunks 12 = .ok (.iload_n 3, 1) := by decide +kernel
theorem dM_chunks_13 : decode cM_chunks 13 = .ok (.invokevirtual 89, 3) := by decide +kernel
theorem dM_chunks_16 : decode cM_chunks 16 = .ok (.istore 4, 2) := by decide +kernel
theorem dM_chunks_18 : decode cM_chunks 18 = .ok (.iconst 0, 1) := by decide +kernel
theorem dM_chunks_19 : decode cM_chunks 19 = .ok (.istore 5, 2) := by decide +kernel
theorem dM_chunks_21 : decode cM_chunks 21 = .ok (.iload 4, 2) := by decide +kernel
theorem dM_chunks_23 : decode cM_chunks 23 = .ok (.ifCond .lt 136, 3) := by decide +kernel
theorem dM_chunks_159 : decode cM_chunks 159 = .ok (.iinc 3 1, 3) := by decide +kernel
theorem dM_chunks_162 : decode cM_chunks 162 = .ok (.goto (-158), 3) := by decide +kernel
theorem dM_chunks_165 : decode cM_chunks 165 = .ok (.iload_n 2, 1) := by decide +kernel
theorem dM_chunks_166 : decode cM_chunks 166 = .ok (.ireturn, 1) := by decide +kernel
abbrev cM_count : ByteArray := prog_9_method_67_code
abbrev yM_count : MethodName := ⟨"DrawingVaultModel", "count", "(I)I"⟩
theorem dM_count_0 : decode cM_count 0 = .ok (.aload_n 0, 1) := by decide +kernel
theorem dM_count_1 : decode cM_count 1 = .ok (.iconst 0, 1) := by decide +kernel
theorem dM_count_2 : decode cM_count 2 = .ok (.putfield 33, 3) := by decide +kernel
theorem dM_count_5 : decode cM_count 5 = .ok (.iconst 0, 1) := by decide +kernel
theorem dM_count_6 : decode cM_count 6 = .ok (.istore_n 2, 1) := by decide +kernel
theorem dM_count_7 : decode cM_count 7 = .ok (.iconst 0, 1) := by decide +kernel
theorem dM_count_8 : decode cM_count 8 = .ok (.istore_n 3, 1) := by decide +kernel
theorem dM_count_9 : decode cM_count 9 = .ok (.iload_n 3, 1) := by decide +kernel
theorem dM_count_10 : decode cM_count 10 = .ok (.bipush 10, 2) := by decide +kernel
theorem dM_count_12 : decode cM_count 12 = .ok (.if_icmp .ge 22, 3) := by decide +kernel
theorem dM_count_15 : decode cM_count 15 = .ok (.iload_n 2, 1) := by decide +kernel
theorem dM_count_16 : decode cM_count 16 = .ok (.aload_n 0, 1) := by decide +kernel
theorem dM_count_17 : decode cM_count 17 = .ok (.getfield 7, 3) := by decide +kernel
theorem dM_count_20 : decode cM_count 20 = .ok (.aload_n 0, 1) := by decide +kernel
theorem dM_count_21 : decode cM_count 21 = .ok (.iload_n 3, 1) := by decide +kernel
theorem dM_count_22 : decode cM_count 22 = .ok (.invokevirtual 99, 3) := by decide +kernel
theorem dM_count_25 : decode cM_count 25 = .ok (.iaload, 1) := by decide +kernel
theorem dM_count_26 : decode cM_count 26 = .ok (.iadd, 1) := by decide +kernel
theorem dM_count_27 : decode cM_count 27 = .ok (.istore_n 2, 1) := by decide +kernel
theorem dM_count_28 : decode cM_count 28 = .ok (.iinc 3 1, 3) := by decide +kernel
theorem dM_count_31 : decode cM_count 31 = .ok (.goto (-22), 3) := by decide +kernel
theorem dM_count_34 : decode cM_count 34 = .ok (.iload_n 1, 1) := by decide +kernel
theorem dM_count_35 : decode cM_count 35 = .ok (.tableswitch 103 0 7 #[45, 53, 58, 64, 72, 80, 88, 90], 45) := by decide +kernel
theorem dM_count_80 : decode cM_count 80 = .ok (.aload_n 0, 1) := by decide +kernel
theorem dM_count_81 : decode cM_count 81 = .ok (.getfield 7, 3) := by decide +kernel
theorem dM_count_84 : decode cM_count 84 = .ok (.bipush 16, 2) := by decide +kernel
theorem dM_count_86 : decode cM_count 86 = .ok (.iaload, 1) := by decide +kernel
theorem dM_count_87 : decode cM_count 87 = .ok (.ireturn, 1) := by decide +kernel
theorem dM_count_88 : decode cM_count 88 = .ok (.aload_n 0, 1) := by decide +kernel
theorem dM_count_89 : decode cM_count 89 = .ok (.invokevirtual 92, 3) := by decide +kernel
theorem dM_count_92 : decode cM_count 92 = .ok (.ireturn, 1) := by decide +kernel
theorem dM_count_93 : decode cM_count 93 = .ok (.aload_n 0, 1) := by decide +kernel
theorem dM_count_94 : decode cM_count 94 = .ok (.iconst 0, 1) := by decide +kernel
theorem dM_count_95 : decode cM_count 95 = .ok (.invokevirtual 96, 3) := by decide +kernel
theorem dM_count_98 : decode cM_count 98 = .ok (.ireturn, 1) := by decide +kernel
theorem dM_count_99 : decode cM_count 99 = .ok (.aload_n 0, 1) := by decide +kernel
theorem dM_count_100 : decode cM_count 100 = .ok (.getfield 7, 3) := by decide +kernel
theorem dM_count_103 : decode cM_count 103 = .ok (.bipush 17, 2) := by decide +kernel
theorem dM_count_105 : decode cM_count 105 = .ok (.iaload, 1) := by decide +kernel
theorem dM_count_106 : decode cM_count 106 = .ok (.ireturn, 1) := by decide +kernel
theorem dM_count_107 : decode cM_count 107 = .ok (.aload_n 0, 1) := by decide +kernel
theorem dM_count_108 : decode cM_count 108 = .ok (.getfield 7, 3) := by decide +kernel
theorem dM_count_111 : decode cM_count 111 = .ok (.bipush 18, 2) := by decide +kernel
theorem dM_count_113 : decode cM_count 113 = .ok (.iaload, 1) := by decide +kernel
theorem dM_count_114 : decode cM_count 114 = .ok (.ireturn, 1) := by decide +kernel
theorem dM_count_115 : decode cM_count 115 = .ok (.aload_n 0, 1) := by decide +kernel
theorem dM_count_116 : decode cM_count 116 = .ok (.getfield 7, 3) := by decide +kernel
theorem dM_count_119 : decode cM_count 119 = .ok (.bipush 19, 2) := by decide +kernel
theorem dM_count_121 : decode cM_count 121 = .ok (.iaload, 1) := by decide +kernel
theorem dM_count_122 : decode cM_count 122 = .ok (.ireturn, 1) := by decide +kernel
theorem dM_count_123 : decode cM_count 123 = .ok (.iload_n 2, 1) := by decide +kernel
theorem dM_count_124 : decode cM_count 124 = .ok (.ireturn, 1) := by decide +kernel
theorem dM_count_125 : decode cM_count 125 = .ok (.aload_n 0, 1) := by decide +kernel
theorem dM_count_126 : decode cM_count 126 = .ok (.getfield 102, 3) := by decide +kernel
theorem dM_count_129 : decode cM_count 129 = .ok (.ifCond .eq 7, 3) := by decide +kernel
theorem dM_count_136 : decode cM_count 136 = .ok (.iconst 0, 1) := by decide +kernel
theorem dM_count_137 : decode cM_count 137 = .ok (.ireturn, 1) := by decide +kernel
theorem dM_count_138 : decode cM_count 138 = .ok (.iconst (-1), 1) := by decide +kernel
theorem dM_count_139 : decode cM_count 139 = .ok (.ireturn, 1) := by decide +kernel
theorem wd_204 : (.fieldLink "DrawingVaultModel" 13 "DrawingVaultModel" "kept" "[I" : Cond) ∈ aw := aw_in (tb_4 (List.mem_of_getElem? (i := 33) rfl)) rfl
theorem wd_205 : (.code ⟨"DrawingVaultModel", "keep", "()V"⟩ prog_9_method_3_code 2 (Option.none : Option Jvm.ClassFile.FieldType) : Cond) ∈ aw := aw_in (tb_4 (List.mem_of_getElem? (i := 29) rfl)) rfl
theorem wd_206 : (.methodLink "DrawingVaultModel" 30 ⟨"DrawingVaultModel", "keep", "()V"⟩ : Cond) ∈ aw := aw_in (tb_4 (List.mem_of_getElem? (i := 26) rfl)) rfl
theorem wd_207 : (.instanceMethod ⟨"DrawingVaultModel", "keep", "()V"⟩ : Cond) ∈ aw := aw_in (tb_4 (List.mem_of_getElem? (i := 28) rfl)) rfl
theorem wd_208 : (.selects "DrawingVaultModel" ⟨"DrawingVaultModel", "keep", "()V"⟩ ⟨"DrawingVaultModel", "keep", "()V"⟩ : Cond) ∈ aw := aw_in (tb_s (q := (⟨"DrawingVaultModel", "keep", "()V"⟩, _)) (List.mem_append_right _ (List.mem_append_right _ (List.mem_append_left _ (List.mem_of_getElem? (i := 3) rfl))))) rfl
theorem wd_209 : (.code ⟨"DrawingVaultModel", "close", "()V"⟩ prog_9_method_30_code 2 (Option.none : Option Jvm.ClassFile.FieldType) : Cond) ∈ aw := aw_in (tb_4 (List.mem_of_getElem? (i := 84) rfl)) rfl
theorem wd_210 : (.methodLink "DrawingVaultModel" 115 ⟨"DrawingVaultModel", "close", "()V"⟩ : Cond) ∈ aw := aw_in (tb_4 (List.mem_of_getElem? (i := 81) rfl)) rfl
theorem wd_211 : (.instanceMethod ⟨"DrawingVaultModel", "close", "()V"⟩ : Cond) ∈ aw := aw_in (tb_4 (List.mem_of_getElem? (i := 83) rfl)) rfl
theorem wd_212 : (.selects "DrawingVaultModel" ⟨"DrawingVaultModel", "close", "()V"⟩ ⟨"DrawingVaultModel", "close", "()V"⟩ : Cond) ∈ aw := aw_in (tb_s (q := (⟨"DrawingVaultModel", "close", "()V"⟩, _)) (List.mem_append_right _ (List.mem_append_right _ (List.mem_append_left _ (List.mem_of_getElem? (i := 6) rfl))))) rfl
theorem wd_213 : (.code ⟨"DrawingVaultModel", "contentAt", "(I)I"⟩ prog_9_method_23_code 3 (Option.some .int) : Cond) ∈ aw := aw_in (tb_4 (List.mem_of_getElem? (i := 108) rfl)) rfl
theorem wd_214 : (.methodLink "DrawingVaultModel" 89 ⟨"DrawingVaultModel", "contentAt", "(I)I"⟩ : Cond) ∈ aw := aw_in (tb_4 (List.mem_of_getElem? (i := 105) rfl)) rfl
theorem wd_215 : (.instanceMethod ⟨"DrawingVaultModel", "contentAt", "(I)I"⟩ : Cond) ∈ aw := aw_in (tb_4 (List.mem_of_getElem? (i := 107) rfl)) rfl
theorem wd_216 : (.selects "DrawingVaultModel" ⟨"DrawingVaultModel", "contentAt", "(I)I"⟩ ⟨"DrawingVaultModel", "contentAt", "(I)I"⟩ : Cond) ∈ aw := aw_in (tb_s (q := (⟨"DrawingVaultModel", "contentAt", "(I)I"⟩, _)) (List.mem_append_right _ (List.mem_append_right _ (List.mem_append_left _ (List.mem_of_getElem? (i := 12) rfl))))) rfl
theorem wd_217 : (.code ⟨"DrawingVaultModel", "chunks", "(I)I"⟩ prog_9_method_25_code 9 (Option.some .int) : Cond) ∈ aw := aw_in (tb_4 (List.mem_of_getElem? (i := 104) rfl)) rfl
theorem wd_218 : (.methodLink "DrawingVaultModel" 96 ⟨"DrawingVaultModel", "chunks", "(I)I"⟩ : Cond) ∈ aw := aw_in (tb_4 (List.mem_of_getElem? (i := 101) rfl)) rfl
theorem wd_219 : (.instanceMethod ⟨"DrawingVaultModel", "chunks", "(I)I"⟩ : Cond) ∈ aw := aw_in (tb_4 (List.mem_of_getElem? (i := 103) rfl)) rfl
theorem wd_220 : (.selects "DrawingVaultModel" ⟨"DrawingVaultModel", "chunks", "(I)I"⟩ ⟨"DrawingVaultModel", "chunks", "(I)I"⟩ : Cond) ∈ aw := aw_in (tb_s (q := (⟨"DrawingVaultModel", "chunks", "(I)I"⟩, _)) (List.mem_append_right _ (List.mem_append_right _ (List.mem_append_left _ (List.mem_of_getElem? (i := 11) rfl))))) rfl

theorem keep_step {g f : Nat → Int32} {i : Nat} (hi : i < 25240) (h : 16 < i → g 16 = f 16) : 16 < i + 1 → upd g (nI i).toNatClampNeg (f (nI i).toNatClampNeg) 16 = f 16 := by
  intro h1
  rw [nI_clamp (by omega)]
  by_cases e : i = 16
  · subst e; exact pk_us
  · rw [pk_un (Ne.symm e)]; exact h (by omega)
theorem start_step {g f : Nat → Int32} {i : Nat} (hi : i < 25240) (hf : f 16 = 0) (h : g 16 = 0) : upd g (nI i).toNatClampNeg (f (nI i).toNatClampNeg) 16 = 0 := by
  rw [nI_clamp (by omega)]
  by_cases e : i = 16
  · subst e; rw [pk_us]; exact hf
  · rw [pk_un (Ne.symm e)]; exact h
theorem per_17 {f : Nat → Int32} {i : Int32} {v x : Int32} (h : vp_in i 16) (hf : f 17 = x) : upd f i.toNatClampNeg v 17 = x := by
  have h1 : i.toNatClampNeg < 16 := Nat.not_le.mp fun q => h (Or.inr q)
  rw [pk_un (by omega)]; exact hf

set_option maxHeartbeats 4000000 in
set_option maxRecDepth 100000 in
theorem m_keep (l : Launch) (dC : Nat → ClassId) (dI : Nat → Nat → Nat) (sz : Nat) (mo : Nat) (nw : Nat) (kp : Nat) (mk : Nat) (co : Nat) (se : Nat) (th : Int32) (mr : Int32) (cN : ClassId) (fw : Nat → Int32) (cK : ClassId) (fk : Nat → Int32) : Met l yM_keep (.code yM_keep cM_keep 2 none :: aw) ({ frames := 0, cells := 0, slots := 0, locals := 0 }) (pW (dC, dI) sz [(mo, .inr (4, [.int th, .int mr, .ref nw, .ref kp, .int 0, .int (-1), .ref mk, .ref co, .int 0, .int 0, .ref se])), (nw, .inl (cN, 25240, .inl fw)), (kp, .inl (cK, 25240, .inl fk))] [(cN, .int), (cK, .int)] [.ref mo]) (va_Qv (fun (u9 : Nat → Int32) => (u9 16 = fw 16)) (fun u9 t => wW (dC, dI) (va_A [(mo, .inr (4, [.int th, .int mr, .ref nw, .ref kp, .int 0, .int (-1), .ref mk, .ref co, .int 0, .int 0, .ref se])), (nw, .inl (cN, 25240, .inl fw)), (kp, .inl (cK, 25240, .inl fk))] sz) [(mo, .inr (4, [.int th, .int mr, .ref nw, .ref kp, .int 0, .int (-1), .ref mk, .ref co, .int 0, .int 0, .ref se])), (nw, .inl (cN, 25240, .inl fw)), (kp, .inl (cK, 25240, .inl u9))] [(cN, .int), (cK, .int)] t) (va_A [(mo, .inr (4, [.int th, .int mr, .ref nw, .ref kp, .int 0, .int (-1), .ref mk, .ref co, .int 0, .int 0, .ref se])), (nw, .inl (cN, 25240, .inl fw)), (kp, .inl (cK, 25240, .inl fk))] sz)) 0 0 (va_A [(mo, .inr (4, [.int th, .int mr, .ref nw, .ref kp, .int 0, .int (-1), .ref mk, .ref co, .int 0, .int 0, .ref se])), (nw, .inl (cN, 25240, .inl fw)), (kp, .inl (cK, 25240, .inl fk))] sz) := by
  refine Met.ofW (cc := cM_keep) (maxL := 2) (ret := none) (by decide) rfl ?_
  intro p e s m args below meth c s₁ B hml hv
  obtain ⟨rfl, hv⟩ := hv
  have hx := B.exec
  have hb := B.bytes
  have hr := B.returns
  have hts : ∀ w ∈ aw, w.before _ s = true := fun w h => atoms_spec (ws := (.code yM_keep cM_keep 2 none :: aw)) B.pre w (List.mem_cons_of_mem _ h)
  have hown : s.vm.findClass RM = some m.cls := findClass_of_methodNamed B.named
  have hlocks := B.notSynchronized
  obtain ⟨hsz, hP, hK, hD0⟩ := hv
  subst hsz
  have hD := hD0.self (sz := s.heap.size)
  generalize hAe : va_A [(mo, .inr (4, [.int th, .int mr, .ref nw, .ref kp, .int 0, .int (-1), .ref mk, .ref co, .int 0, .int 0, .ref se])), (nw, .inl (cN, 25240, .inl fw)), (kp, .inl (cK, 25240, .inl fk))] s.heap.size = A at hD ⊢
  have hA : ∀ q : Nat, s.heap.size ≤ q → A q := fun q h => by rw [← hAe]; exact Or.inr h
  obtain ⟨H, hH⟩ : ∃ H, H = s.heap := ⟨_, rfl⟩
  have hS : va_S A s.heap H [] := by rw [hH]; exact va_S.rf
  rw [← hH] at hP ⊢
  have hP : va_P (dC, dI) kCl [(mo, .inr (4, [.int th, .int mr, .ref nw, .ref kp, .int 0, .int (-1), .ref mk, .ref co, .int 0, .int 0, .ref se])), (nw, .inl (cN, 25240, .inl fw)), (kp, .inl (cK, 25240, .inl fk))] H := hP
  have hl := lv_entry ([.ref mo]) (n := 2) (Nat.le_of_ble_eq_true rfl)
  rw [lg_entry_eq]
  generalize (lg_sl ([.ref mo]) ++ List.replicate (2 - (lg_sl ([.ref mo])).length) Slot.unset).toArray = ls at hl ⊢
  have hl : lv_has ls 2 [(0, .ref mo)] := hl
  refine lv_iconst (pc := 0) (v := 0) hx hb dM_keep_0 (by decide) ?_
  refine lv_istore_n (pc := 1) hx hb dM_keep_1 rfl hl (by decide) rfl (fun ls hl => ?_)
  have hl : lv_has ls 2 [(1, .int 0), (0, .ref mo)] := hl
  refine lpN (σ := (Nat → Int32) × (Heap) × (List Loc) × (Array Slot)) (fun z => W p l e _ s m _ below meth c z.2.1 z.2.2.1 0 0 _ (F0 m 2 z.2.2.2 [])) (fun i z => va_P (dC, dI) kCl [(mo, .inr (4, [.int th, .int mr, .ref nw, .ref kp, .int 0, .int (-1), .ref mk, .ref co, .int 0, .int 0, .ref se])), (nw, .inl (cN, 25240, .inl fw)), (kp, .inl (cK, 25240, .inl z.1))] z.2.1 ∧ va_D A [(mo, .inr (4, [.int th, .int mr, .ref nw, .ref kp, .int 0, .int (-1), .ref mk, .ref co, .int 0, .int 0, .ref se])), (nw, .inl (cN, 25240, .inl fw)), (kp, .inl (cK, 25240, .inl z.1))] ∧ va_S A s.heap z.2.1 z.2.2.1 ∧ lv_has z.2.2.2 2 [(1, .int (nI i)), (0, .ref mo)] ∧ (16 < i → z.1 16 = fw 16)) 25240 ?_ ?_ 25240 0 (fk, H, _, ls) rfl ⟨hP, hD, hS, hl, (fun h => absurd h (by decide))⟩
  · rintro ⟨g1, H, locs, ls⟩ ⟨hP, hD, hS, hl, hI⟩
    try dsimp only at hP hD hS hl hI ⊢
    have hP : va_P (dC, dI) kCl [(mo, .inr (4, [.int th, .int mr, .ref nw, .ref kp, .int 0, .int (-1), .ref mk, .ref co, .int 0, .int 0, .ref se])), (nw, .inl (cN, 25240, .inl fw)), (kp, .inl (cK, 25240, .inl g1))] H := hP
    have hD : va_D A [(mo, .inr (4, [.int th, .int mr, .ref nw, .ref kp, .int 0, .int (-1), .ref mk, .ref co, .int 0, .int 0, .ref se])), (nw, .inl (cN, 25240, .inl fw)), (kp, .inl (cK, 25240, .inl g1))] := hD
    have hl : lv_has ls 2 [(1, .int (nI 25240)), (0, .ref mo)] := hl
    refine lv_iload_n (pc := 2) hx hb dM_keep_2 rfl (lv_at hl 0 rfl) ?_
    refine lv_sipush (pc := 3) (v := 25240) hx hb dM_keep_3 (by decide) ?_
    refine lv_icmp_ge (pc := 6) (tgt := 27) hx hb dM_keep_6 rfl (fun h1 => ?_) (fun h1 => absurd (show (25240 : Int32) ≤ nI 25240 by decide) h1)
    have hP9 := hP.sub (ws' := [(mo, .inr (4, [.int th, .int mr, .ref nw, .ref kp, .int 0, .int (-1), .ref mk, .ref co, .int 0, .int 0, .ref se])), (nw, .inl (cN, 25240, .inl fw)), (kp, .inl (cK, 25240, .inl g1))]) [0, 1, 2] rfl
    have hD9 := hD.sub (ws' := [(mo, .inr (4, [.int th, .int mr, .ref nw, .ref kp, .int 0, .int (-1), .ref mk, .ref co, .int 0, .int 0, .ref se])), (nw, .inl (cN, 25240, .inl fw)), (kp, .inl (cK, 25240, .inl g1))]) [0, 1, 2] (by decide) rfl
    have hK9 := hK.sub (tys' := [(cN, .int), (cK, .int)]) [0, 1] rfl
    exact W.vret (pc := 27) hx hb hr (fun t ht hW => ⟨⟨g1, rfl, hI (by decide), by rw [ht]; exact hP9, va_K.moved hW.alike hK9, hD9⟩, hS.F ht⟩) hS.2.2 dM_keep_27
  · rintro i ⟨g1, H, locs, ls⟩ hi ⟨hP, hD, hS, hl, hI⟩ ih
    try dsimp only at hP hD hS hl hI ⊢
    have hP : va_P (dC, dI) kCl [(mo, .inr (4, [.int th, .int mr, .ref nw, .ref kp, .int 0, .int (-1), .ref mk, .ref co, .int 0, .int 0, .ref se])), (nw, .inl (cN, 25240, .inl fw)), (kp, .inl (cK, 25240, .inl g1))] H := hP
    have hD : va_D A [(mo, .inr (4, [.int th, .int mr, .ref nw, .ref kp, .int 0, .int (-1), .ref mk, .ref co, .int 0, .int 0, .ref se])), (nw, .inl (cN, 25240, .inl fw)), (kp, .inl (cK, 25240, .inl g1))] := hD
    have hl : lv_has ls 2 [(1, .int (nI i)), (0, .ref mo)] := hl
    refine lv_iload_n (pc := 2) hx hb dM_keep_2 rfl (lv_at hl 0 rfl) ?_
    refine lv_sipush (pc := 3) (v := 25240) hx hb dM_keep_3 (by decide) ?_
    refine lv_icmp_ge (pc := 6) (tgt := 27) hx hb dM_keep_6 rfl (fun h2 => absurd h2 (nI_ge (a := i) (b := 25240) hi (by decide))) (fun h2 => ?_)
    refine lv_aload_n (pc := 9) hx hb dM_keep_9 rfl (lv_at hl 1 rfl) ?_
    refine va_get (D := (dC, dI)) (cl := kCl) (C := RM) (T := TM) (N := 11) (pc := 10) hx hb hts inM hown hK hP 0 rfl rfl 3 (by decide) (hts _ wd_204) (fun _ h9 => h9) rfl dM_keep_10 ?_
    refine lv_iload_n (pc := 13) hx hb dM_keep_13 rfl (lv_at hl 0 rfl) ?_
    refine lv_aload_n (pc := 14) hx hb dM_keep_14 rfl (lv_at hl 1 rfl) ?_
    refine va_get (D := (dC, dI)) (cl := kCl) (C := RM) (T := TM) (N := 11) (pc := 15) hx hb hts inM hown hK hP 0 rfl rfl 2 (by decide) (hts _ wd_158) (fun _ h9 => h9) rfl dM_keep_15 ?_
    refine lv_iload_n (pc := 18) hx hb dM_keep_18 rfl (lv_at hl 0 rfl) ?_
    refine va_iald (D := (dC, dI)) (cl := kCl) (pc := 19) hx hb hK hP 1 0 rfl rfl (vp_in_nI (show i < 25240 by omega) (by decide)) dM_keep_19 ?_
    refine W.eq (g2 := F0 m 20 ls [.int (fw ((nI i) : Int32).toNatClampNeg), .int (nI i), .ref kp]) rfl ?_
    refine va_iast (D := (dC, dI)) (cl := kCl) (pc := 20) hx hb hK hP hD hS 2 1 rfl rfl (vp_in_nI (show i < 25240 by omega) (by decide)) dM_keep_20 (fun H locs hP hD hS => ?_)
    have hP : va_P (dC, dI) kCl [(mo, .inr (4, [.int th, .int mr, .ref nw, .ref kp, .int 0, .int (-1), .ref mk, .ref co, .int 0, .int 0, .ref se])), (nw, .inl (cN, 25240, .inl fw)), (kp, .inl (cK, 25240, .inl (upd g1 ((nI i) : Int32).toNatClampNeg (fw ((nI i) : Int32).toNatClampNeg))))] H := hP
    have hD : va_D A [(mo, .inr (4, [.int th, .int mr, .ref nw, .ref kp, .int 0, .int (-1), .ref mk, .ref co, .int 0, .int 0, .ref se])), (nw, .inl (cN, 25240, .inl fw)), (kp, .inl (cK, 25240, .inl (upd g1 ((nI i) : Int32).toNatClampNeg (fw ((nI i) : Int32).toNatClampNeg))))] := hD
    refine lv_iinc (pc := 21) (v := (nI (i + 1))) hx hb dM_keep_21 hl (k := 0) rfl (nI_1 _) (by decide) rfl (fun ls hl => ?_)
    have hl : lv_has ls 2 [(1, .int (nI (i + 1))), (0, .ref mo)] := hl
    refine lv_goto (pc := 24) (tgt := 2) hx hb dM_keep_24 rfl ?_
    have hl := lv_sub hl (l' := [(1, .int (nI (i + 1))), (0, .ref mo)]) [0, 1] rfl
    exact ih (_, H, _, ls) ⟨hP, hD, hS, hl, keep_step hi hI⟩
set_option maxHeartbeats 4000000 in
set_option maxRecDepth 100000 in
theorem m_close (l : Launch) (dC : Nat → ClassId) (dI : Nat → Nat → Nat) (sz : Nat) (mo : Nat) (nw : Nat) (kp : Nat) (mk : Nat) (co : Nat) (se : Nat) (th : Int32) (mr : Int32) (cN : ClassId) (fw : Nat → Int32) (cK : ClassId) (fk : Nat → Int32) (h17 : fw 17 = 399) : Met l yM_close (.code yM_close cM_close 2 none :: aw) ({ frames := 1, cells := 0, slots := 0, locals := 21 }) (pW (dC, dI) sz [(mo, .inr (4, [.int th, .int mr, .ref nw, .ref kp, .int 0, .int (-1), .ref mk, .ref co, .int 0, .int 0, .ref se])), (nw, .inl (cN, 25240, .inl fw)), (kp, .inl (cK, 25240, .inl fk))] [(cN, .int), (cK, .int)] [.ref mo]) (va_Qv (fun (_ : Unit) => True) (fun _ t => wW (dC, dI) (va_A [(mo, .inr (4, [.int th, .int mr, .ref nw, .ref kp, .int 0, .int (-1), .ref mk, .ref co, .int 0, .int 0, .ref se])), (nw, .inl (cN, 25240, .inl fw)), (kp, .inl (cK, 25240, .inl fk))] sz) [(mo, .inr (4, [.int th, .int mr, .ref nw, .ref kp, .int 0, .int (-1), .ref mk, .ref co, .int 0, .int 0, .ref se]))] [] t) (va_A [(mo, .inr (4, [.int th, .int mr, .ref nw, .ref kp, .int 0, .int (-1), .ref mk, .ref co, .int 0, .int 0, .ref se])), (nw, .inl (cN, 25240, .inl fw)), (kp, .inl (cK, 25240, .inl fk))] sz)) 0 0 (va_A [(mo, .inr (4, [.int th, .int mr, .ref nw, .ref kp, .int 0, .int (-1), .ref mk, .ref co, .int 0, .int 0, .ref se])), (nw, .inl (cN, 25240, .inl fw)), (kp, .inl (cK, 25240, .inl fk))] sz) := by
  refine Met.ofW (cc := cM_close) (maxL := 2) (ret := none) (by decide) rfl ?_
  intro p e s m args below meth c s₁ B hml hv
  obtain ⟨rfl, hv⟩ := hv
  have hx := B.exec
  have hb := B.bytes
  have hr := B.returns
  have hts : ∀ w ∈ aw, w.before _ s = true := fun w h => atoms_spec (ws := (.code yM_close cM_close 2 none :: aw)) B.pre w (List.mem_cons_of_mem _ h)
  have hown : s.vm.findClass RM = some m.cls := findClass_of_methodNamed B.named
  have hlocks := B.notSynchronized
  obtain ⟨hsz, hP, hK, hD0⟩ := hv
  subst hsz
  have hD := hD0.self (sz := s.heap.size)
  generalize hAe : va_A [(mo, .inr (4, [.int th, .int mr, .ref nw, .ref kp, .int 0, .int (-1), .ref mk, .ref co, .int 0, .int 0, .ref se])), (nw, .inl (cN, 25240, .inl fw)), (kp, .inl (cK, 25240, .inl fk))] s.heap.size = A at hD ⊢
  have hA : ∀ q : Nat, s.heap.size ≤ q → A q := fun q h => by rw [← hAe]; exact Or.inr h
  obtain ⟨H, hH⟩ : ∃ H, H = s.heap := ⟨_, rfl⟩
  have hS : va_S A s.heap H [] := by rw [hH]; exact va_S.rf
  rw [← hH] at hP ⊢
  have hP : va_P (dC, dI) kCl [(mo, .inr (4, [.int th, .int mr, .ref nw, .ref kp, .int 0, .int (-1), .ref mk, .ref co, .int 0, .int 0, .ref se])), (nw, .inl (cN, 25240, .inl fw)), (kp, .inl (cK, 25240, .inl fk))] H := hP
  have hl := lv_entry ([.ref mo]) (n := 2) (Nat.le_of_ble_eq_true rfl)
  rw [lg_entry_eq]
  generalize (lg_sl ([.ref mo]) ++ List.replicate (2 - (lg_sl ([.ref mo])).length) Slot.unset).toArray = ls at hl ⊢
  have hl : lv_has ls 2 [(0, .ref mo)] := hl
  refine lv_aload_n (pc := 0) hx hb dM_close_0 rfl (lv_at hl 0 rfl) ?_
  refine va_get (D := (dC, dI)) (cl := kCl) (C := RM) (T := TM) (N := 11) (pc := 1) hx hb hts inM hown hK hP 0 rfl rfl 2 (by decide) (hts _ wd_158) (fun _ h9 => h9) rfl dM_close_1 ?_
  refine lv_bipush (pc := 4) (v := 17) hx hb dM_close_4 (by decide) ?_
  refine va_iald (D := (dC, dI)) (cl := kCl) (pc := 6) hx hb hK hP 1 0 rfl rfl (vp_in_lit 17 25240 (by decide)) dM_close_6 ?_
  refine W.eq (g2 := F0 m 7 ls [.int (fw (17 : Int32).toNatClampNeg)]) rfl ?_
  refine lv_topi (fun z1 hz2 => ?_)
  obtain rfl : z1 = 399 := hz2.trans (h17)
  refine lv_bipush (pc := 7) (v := 40) hx hb dM_close_7 (by decide) ?_
  refine lv_icmp_ge (pc := 9) (tgt := 46) hx hb dM_close_9 rfl (fun h3 => ?_) (fun h3 => absurd h3 (by decide))
  refine lv_aload_n (pc := 46) hx hb dM_close_46 rfl (lv_at hl 0 rfl) ?_
  have hPc := hP.sub (ws' := [(mo, .inr (4, [.int th, .int mr, .ref nw, .ref kp, .int 0, .int (-1), .ref mk, .ref co, .int 0, .int 0, .ref se])), (nw, .inl (cN, 25240, .inl fw)), (kp, .inl (cK, 25240, .inl fk))]) [0, 1, 2] rfl
  have hDc := hD.sub (ws' := [(mo, .inr (4, [.int th, .int mr, .ref nw, .ref kp, .int 0, .int (-1), .ref mk, .ref co, .int 0, .int 0, .ref se])), (nw, .inl (cN, 25240, .inl fw)), (kp, .inl (cK, 25240, .inl fk))]) [0, 1, 2] (by decide) rfl
  have hKc := hK.sub (tys' := [(cN, .int), (cK, .int)]) [0, 1] rfl
  have hFc := va_free (wc := [(mo, .inr (4, [.int th, .int mr, .ref nw, .ref kp, .int 0, .int (-1), .ref mk, .ref co, .int 0, .int 0, .ref se])), (nw, .inl (cN, 25240, .inl fw)), (kp, .inl (cK, 25240, .inl fk))]) hD hS hA [0, 1, 2] rfl
  refine va_callv (pc := 47) (va_runV (As := []) (rest := []) ⟨hx, hb, hml, hown, hts⟩ (m_keep l dC dI H.size mo nw kp mk co se th mr cN fw cK fk) (cwV 0 hts (gV wd_206 wd_207 wd_208 wd_157 wd_205) rfl rfl rfl (by decide +kernel) ⟨Nat.le_of_ble_eq_true rfl, Nat.le_of_ble_eq_true rfl⟩) ⟨pW_blind, va_recv (q := (RM, TM, 11)) (q0 := 0) (ci := 4) hK hP rfl rfl, pW_pre hPc hKc hDc⟩ rfl rfl hl.1 rfl (lv_room (Nat.le_of_ble_eq_true rfl)) dM_close_47 ⟨Nat.le_of_ble_eq_true rfl, Nat.le_of_ble_eq_true rfl⟩) hS (fun q _ h => hFc q h) hFc (fun u6 t H1 locs ht hvm hr5 hB hz1 hk1 hS => ?_)
  obtain ⟨hP1, hK1, hD1⟩ := hB
  rw [ht] at hP1
  have hK1 := va_K.moved hvm.symm hK1
  obtain ⟨hP, hD⟩ := va_join (wr := []) (w1 := [(mo, .inr (4, [.int th, .int mr, .ref nw, .ref kp, .int 0, .int (-1), .ref mk, .ref co, .int 0, .int 0, .ref se])), (nw, .inl (cN, 25240, .inl fw)), (kp, .inl (cK, 25240, .inl u6))]) hP hD [0, 1, 2] [] rfl rfl (by decide) (by decide) hk1 hFc hP1 hD1
  generalize H1 = H at hP hS ⊢
  have hP : va_P (dC, dI) kCl [(mo, .inr (4, [.int th, .int mr, .ref nw, .ref kp, .int 0, .int (-1), .ref mk, .ref co, .int 0, .int 0, .ref se])), (nw, .inl (cN, 25240, .inl fw)), (kp, .inl (cK, 25240, .inl u6))] H := hP
  have hD : va_D A [(mo, .inr (4, [.int th, .int mr, .ref nw, .ref kp, .int 0, .int (-1), .ref mk, .ref co, .int 0, .int 0, .ref se])), (nw, .inl (cN, 25240, .inl fw)), (kp, .inl (cK, 25240, .inl u6))] := hD
  refine W.widen (k := 0) (n := 0) (Nat.le_of_ble_eq_true rfl) (Nat.le_of_ble_eq_true rfl) ?_
  have h8 : u6 16 = fw 16 := hr5
  have hP9 := hP.sub (ws' := [(mo, .inr (4, [.int th, .int mr, .ref nw, .ref kp, .int 0, .int (-1), .ref mk, .ref co, .int 0, .int 0, .ref se]))]) [0] rfl
  have hD9 := hD.sub (ws' := [(mo, .inr (4, [.int th, .int mr, .ref nw, .ref kp, .int 0, .int (-1), .ref mk, .ref co, .int 0, .int 0, .ref se]))]) [0] (by decide) rfl
  have hK9 := hK.sub (tys' := []) [] rfl
  exact W.vret (pc := 50) hx hb hr (fun t ht hW => ⟨⟨(), rfl, trivial, by rw [ht]; exact hP9, va_K.moved hW.alike hK9, hD9⟩, hS.F ht⟩) hS.2.2 dM_close_50
set_option maxHeartbeats 4000000 in
set_option maxRecDepth 100000 in
theorem m_may1 (l : Launch) (dC : Nat → ClassId) (dI : Nat → Nat → Nat) (sz : Nat) (mo : Nat) (nw : Nat) (kp : Nat) (mk : Nat) (co : Nat) (se : Nat) (th : Int32) (mr : Int32) (cN : ClassId) : Met l yM_may (.code yM_may cM_may 4 (some .boolean) :: aw) ({ frames := 0, cells := 0, slots := 0, locals := 0 }) (pW (dC, dI) sz [(mo, .inr (4, [.int th, .int mr, .ref nw, .ref kp, .int 0, .int (-1), .ref mk, .ref co, .int 0, .int 0, .ref se])), (nw, .inl (cN, 25240, .inl now0))] [(cN, .int)] [.ref mo, .int 0, .int 1]) (va_Qi (fun r (_ : Unit) => r = 1) (fun _ t => wW (dC, dI) (va_A [(mo, .inr (4, [.int th, .int mr, .ref nw, .ref kp, .int 0, .int (-1), .ref mk, .ref co, .int 0, .int 0, .ref se])), (nw, .inl (cN, 25240, .inl now0))] sz) [(mo, .inr (4, [.int 0, .int 0, .ref nw, .ref kp, .int 0, .int (-1), .ref mk, .ref co, .int 0, .int 0, .ref se])), (nw, .inl (cN, 25240, .inl (upd (upd now0 (17 : Int32).toNatClampNeg 399) (18 : Int32).toNatClampNeg 1)))] [(cN, .int)] t) (va_A [(mo, .inr (4, [.int th, .int mr, .ref nw, .ref kp, .int 0, .int (-1), .ref mk, .ref co, .int 0, .int 0, .ref se])), (nw, .inl (cN, 25240, .inl now0))] sz)) 0 0 (va_A [(mo, .inr (4, [.int th, .int mr, .ref nw, .ref kp, .int 0, .int (-1), .ref mk, .ref co, .int 0, .int 0, .ref se])), (nw, .inl (cN, 25240, .inl now0))] sz) := by
  refine Met.ofW (cc := cM_may) (maxL := 4) (ret := (some .boolean)) (by decide) rfl ?_
  intro p e s m args below meth c s₁ B hml hv
  obtain ⟨rfl, hv⟩ := hv
  have hx := B.exec
  have hb := B.bytes
  have hr := B.returns
  have hts : ∀ w ∈ aw, w.before _ s = true := fun w h => atoms_spec (ws := (.code yM_may cM_may 4 (some .boolean) :: aw)) B.pre w (List.mem_cons_of_mem _ h)
  have hown : s.vm.findClass RM = some m.cls := findClass_of_methodNamed B.named
  have hlocks := B.notSynchronized
  obtain ⟨hsz, hP, hK, hD0⟩ := hv
  subst hsz
  have hD := hD0.self (sz := s.heap.size)
  generalize hAe : va_A [(mo, .inr (4, [.int th, .int mr, .ref nw, .ref kp, .int 0, .int (-1), .ref mk, .ref co, .int 0, .int 0, .ref se])), (nw, .inl (cN, 25240, .inl now0))] s.heap.size = A at hD ⊢
  have hA : ∀ q : Nat, s.heap.size ≤ q → A q := fun q h => by rw [← hAe]; exact Or.inr h
  obtain ⟨H, hH⟩ : ∃ H, H = s.heap := ⟨_, rfl⟩
  have hS : va_S A s.heap H [] := by rw [hH]; exact va_S.rf
  rw [← hH] at hP ⊢
  have hP : va_P (dC, dI) kCl [(mo, .inr (4, [.int th, .int mr, .ref nw, .ref kp, .int 0, .int (-1), .ref mk, .ref co, .int 0, .int 0, .ref se])), (nw, .inl (cN, 25240, .inl now0))] H := hP
  have hl := lv_entry ([.ref mo, .int 0, .int 1]) (n := 4) (Nat.le_of_ble_eq_true rfl)
  rw [lg_entry_eq]
  generalize (lg_sl ([.ref mo, .int 0, .int 1]) ++ List.replicate (4 - (lg_sl ([.ref mo, .int 0, .int 1])).length) Slot.unset).toArray = ls at hl ⊢
  have hl : lv_has ls 4 [(0, .ref mo), (1, .int 0), (2, .int 1)] := hl
  refine lv_iload_n (pc := 0) hx hb dM_may_0 rfl (lv_at hl 1 rfl) ?_
  refine lv_if_ne (pc := 1) (tgt := 20) hx hb dM_may_1 rfl (fun h1 => absurd h1 (by decide)) (fun h1 => ?_)
  refine lv_aload_n (pc := 4) hx hb dM_may_4 rfl (lv_at hl 0 rfl) ?_
  refine va_get (D := (dC, dI)) (cl := kCl) (C := RM) (T := TM) (N := 11) (pc := 5) hx hb hts inM hown hK hP 0 rfl rfl 2 (by decide) (hts _ wd_158) (fun _ h9 => h9) rfl dM_may_5 ?_
  refine lv_bipush (pc := 8) (v := 17) hx hb dM_may_8 (by decide) ?_
  refine va_iald (D := (dC, dI)) (cl := kCl) (pc := 10) hx hb hK hP 1 0 rfl rfl (vp_in_lit 17 25240 (by decide)) dM_may_10 ?_
  refine W.eq (g2 := F0 m 11 ls [.int 400]) rfl ?_
  refine lv_iload_n (pc := 11) hx hb dM_may_11 rfl (lv_at hl 2 rfl) ?_
  refine lv_icmp_ge (pc := 12) (tgt := 20) hx hb dM_may_12 rfl (fun h2 => ?_) (fun h2 => absurd h2 (by decide))
  refine lv_iload_n (pc := 20) hx hb dM_may_20 rfl (lv_at hl 1 rfl) ?_
  refine lv_istore_n (pc := 21) hx hb dM_may_21 rfl hl (by decide) rfl (fun ls hl => ?_)
  have hl : lv_has ls 4 [(3, .int 0), (0, .ref mo), (1, .int 0), (2, .int 1)] := hl
  refine lv_aload_n (pc := 22) hx hb dM_may_22 rfl (lv_at hl 1 rfl) ?_
  refine lv_aload_n (pc := 23) hx hb dM_may_23 rfl (lv_at hl 1 rfl) ?_
  refine va_get (D := (dC, dI)) (cl := kCl) (C := RM) (T := TM) (N := 11) (pc := 24) hx hb hts inM hown hK hP 0 rfl rfl 4 (by decide) (hts _ wd_163) (fun _ h9 => h9) rfl dM_may_24 ?_
  refine lv_if_eq (pc := 27) (tgt := 34) hx hb dM_may_27 rfl (fun h3 => ?_) (fun h3 => absurd h3 (by decide))
  refine lv_iconst (pc := 34) (v := 0) hx hb dM_may_34 (by decide) ?_
  refine va_put (D := (dC, dI)) (cl := kCl) (ci := 4) (v := .int 0) (ty := .int) (C := RM) (T := TM) (N := 11) (pc := 35) hx hb hts inM tyM tyM_ok nmM hown hK hP hD hS 0 rfl rfl 0 (by decide) (hts _ wd_152) (fun _ h9 => h9) rfl (by decide +kernel) rfl rfl (Nat.le_of_ble_eq_true rfl) dM_may_35 (fun H locs hP hD hS => ?_)
  have hP : va_P (dC, dI) kCl [(mo, .inr (4, [.int 0, .int mr, .ref nw, .ref kp, .int 0, .int (-1), .ref mk, .ref co, .int 0, .int 0, .ref se])), (nw, .inl (cN, 25240, .inl now0))] H := hP
  have hD : va_D A [(mo, .inr (4, [.int 0, .int mr, .ref nw, .ref kp, .int 0, .int (-1), .ref mk, .ref co, .int 0, .int 0, .ref se])), (nw, .inl (cN, 25240, .inl now0))] := hD
  refine lv_aload_n (pc := 38) hx hb dM_may_38 rfl (lv_at hl 1 rfl) ?_
  refine va_get (D := (dC, dI)) (cl := kCl) (C := RM) (T := TM) (N := 11) (pc := 39) hx hb hts inM hown hK hP 0 rfl rfl 4 (by decide) (hts _ wd_163) (fun _ h9 => h9) rfl dM_may_39 ?_
  refine lv_if_eq (pc := 42) (tgt := 47) hx hb dM_may_42 rfl (fun h4 => ?_) (fun h4 => absurd h4 (by decide))
  refine lv_iload_n (pc := 47) hx hb dM_may_47 rfl (lv_at hl 0 rfl) ?_
  refine lv_if_ne (pc := 48) (tgt := 79) hx hb dM_may_48 rfl (fun h5 => absurd h5 (by decide)) (fun h5 => ?_)
  refine lv_aload_n (pc := 51) hx hb dM_may_51 rfl (lv_at hl 1 rfl) ?_
  refine va_get (D := (dC, dI)) (cl := kCl) (C := RM) (T := TM) (N := 11) (pc := 52) hx hb hts inM hown hK hP 0 rfl rfl 5 (by decide) (hts _ wd_203) (fun _ h9 => h9) rfl dM_may_52 ?_
  refine lv_iconst (pc := 55) (v := (-1)) hx hb dM_may_55 (by decide) ?_
  refine lv_icmp_eq (pc := 56) (tgt := 79) hx hb dM_may_56 rfl (fun h6 => ?_) (fun h6 => absurd h6 (by decide))
  refine lv_aload_n (pc := 79) hx hb dM_may_79 rfl (lv_at hl 1 rfl) ?_
  refine lv_iload_n (pc := 80) hx hb dM_may_80 rfl (lv_at hl 0 rfl) ?_
  refine va_put (D := (dC, dI)) (cl := kCl) (ci := 4) (v := .int 0) (ty := .int) (C := RM) (T := TM) (N := 11) (pc := 81) hx hb hts inM tyM tyM_ok nmM hown hK hP hD hS 0 rfl rfl 1 (by decide) (hts _ wd_164) (fun _ h9 => h9) rfl (by decide +kernel) rfl rfl (Nat.le_of_ble_eq_true rfl) dM_may_81 (fun H locs hP hD hS => ?_)
  have hP : va_P (dC, dI) kCl [(mo, .inr (4, [.int 0, .int 0, .ref nw, .ref kp, .int 0, .int (-1), .ref mk, .ref co, .int 0, .int 0, .ref se])), (nw, .inl (cN, 25240, .inl now0))] H := hP
  have hD : va_D A [(mo, .inr (4, [.int 0, .int 0, .ref nw, .ref kp, .int 0, .int (-1), .ref mk, .ref co, .int 0, .int 0, .ref se])), (nw, .inl (cN, 25240, .inl now0))] := hD
  refine lv_iload_n (pc := 84) hx hb dM_may_84 rfl (lv_at hl 0 rfl) ?_
  refine lv_if_le (pc := 85) (tgt := 90) hx hb dM_may_85 rfl (fun h7 => ?_) (fun h7 => absurd h7 (by decide))
  refine lv_aload_n (pc := 90) hx hb dM_may_90 rfl (lv_at hl 1 rfl) ?_
  refine lv_aload_n (pc := 91) hx hb dM_may_91 rfl (lv_at hl 1 rfl) ?_
  refine va_get (D := (dC, dI)) (cl := kCl) (C := RM) (T := TM) (N := 11) (pc := 92) hx hb hts inM hown hK hP 0 rfl rfl 5 (by decide) (hts _ wd_203) (fun _ h9 => h9) rfl dM_may_92 ?_
  refine lv_iconst (pc := 95) (v := (-1)) hx hb dM_may_95 (by decide) ?_
  refine lv_icmp_ne (pc := 96) (tgt := 103) hx hb dM_may_96 rfl (fun h8 => absurd h8 (by decide)) (fun h8 => ?_)
  refine lv_iconst (pc := 99) (v := (-1)) hx hb dM_may_99 (by decide) ?_
  refine lv_goto (pc := 100) (tgt := 109) hx hb dM_may_100 rfl ?_
  refine va_put (D := (dC, dI)) (cl := kCl) (ci := 4) (v := .int (-1)) (ty := .int) (C := RM) (T := TM) (N := 11) (pc := 109) hx hb hts inM tyM tyM_ok nmM hown hK hP hD hS 0 rfl rfl 5 (by decide) (hts _ wd_203) (fun _ h9 => h9) rfl (by decide +kernel) rfl rfl (Nat.le_of_ble_eq_true rfl) dM_may_109 (fun H locs hP hD hS => ?_)
  have hP : va_P (dC, dI) kCl [(mo, .inr (4, [.int 0, .int 0, .ref nw, .ref kp, .int 0, .int (-1), .ref mk, .ref co, .int 0, .int 0, .ref se])), (nw, .inl (cN, 25240, .inl now0))] H := hP
  have hD : va_D A [(mo, .inr (4, [.int 0, .int 0, .ref nw, .ref kp, .int 0, .int (-1), .ref mk, .ref co, .int 0, .int 0, .ref se])), (nw, .inl (cN, 25240, .inl now0))] := hD
  refine lv_aload_n (pc := 112) hx hb dM_may_112 rfl (lv_at hl 1 rfl) ?_
  refine va_get (D := (dC, dI)) (cl := kCl) (C := RM) (T := TM) (N := 11) (pc := 113) hx hb hts inM hown hK hP 0 rfl rfl 2 (by decide) (hts _ wd_158) (fun _ h9 => h9) rfl dM_may_113 ?_
  refine lv_bipush (pc := 116) (v := 17) hx hb dM_may_116 (by decide) ?_
  refine lv_dup2_11 (pc := 118) hx hb dM_may_118 rfl rfl ?_
  refine va_iald (D := (dC, dI)) (cl := kCl) (pc := 119) hx hb hK hP 1 0 rfl rfl (vp_in_lit 17 25240 (by decide)) dM_may_119 ?_
  refine W.eq (g2 := F0 m 120 ls [.int 400, .int 17, .ref nw]) rfl ?_
  refine lv_iload_n (pc := 120) hx hb dM_may_120 rfl (lv_at hl 3 rfl) ?_
  refine lv_isub (pc := 121) hx hb dM_may_121 ?_
  refine lv_topi (fun z9 hz10 => ?_)
  obtain rfl : z9 = 399 := hz10.trans (by decide)
  refine va_iast (D := (dC, dI)) (cl := kCl) (pc := 122) hx hb hK hP hD hS 1 0 rfl rfl (vp_in_lit 17 25240 (by decide)) dM_may_122 (fun H locs hP hD hS => ?_)
  have hP : va_P (dC, dI) kCl [(mo, .inr (4, [.int 0, .int 0, .ref nw, .ref kp, .int 0, .int (-1), .ref mk, .ref co, .int 0, .int 0, .ref se])), (nw, .inl (cN, 25240, .inl (upd now0 (17 : Int32).toNatClampNeg 399)))] H := hP
  have hD : va_D A [(mo, .inr (4, [.int 0, .int 0, .ref nw, .ref kp, .int 0, .int (-1), .ref mk, .ref co, .int 0, .int 0, .ref se])), (nw, .inl (cN, 25240, .inl (upd now0 (17 : Int32).toNatClampNeg 399)))] := hD
  refine lv_aload_n (pc := 123) hx hb dM_may_123 rfl (lv_at hl 1 rfl) ?_
  refine va_get (D := (dC, dI)) (cl := kCl) (C := RM) (T := TM) (N := 11) (pc := 124) hx hb hts inM hown hK hP 0 rfl rfl 2 (by decide) (hts _ wd_158) (fun _ h9 => h9) rfl dM_may_124 ?_
  refine lv_bipush (pc := 127) (v := 18) hx hb dM_may_127 (by decide) ?_
  refine lv_dup2_11 (pc := 129) hx hb dM_may_129 rfl rfl ?_
  refine va_iald (D := (dC, dI)) (cl := kCl) (pc := 130) hx hb hK hP 1 0 rfl rfl (vp_in_lit 18 25240 (by decide)) dM_may_130 ?_
  refine W.eq (g2 := F0 m 131 ls [.int 0, .int 18, .ref nw]) rfl ?_
  refine lv_iconst (pc := 131) (v := 1) hx hb dM_may_131 (by decide) ?_
  refine lv_iadd (pc := 132) hx hb dM_may_132 ?_
  refine lv_topi (fun z11 hz12 => ?_)
  obtain rfl : z11 = 1 := hz12.trans (by decide)
  refine va_iast (D := (dC, dI)) (cl := kCl) (pc := 133) hx hb hK hP hD hS 1 0 rfl rfl (vp_in_lit 18 25240 (by decide)) dM_may_133 (fun H locs hP hD hS => ?_)
  have hP : va_P (dC, dI) kCl [(mo, .inr (4, [.int 0, .int 0, .ref nw, .ref kp, .int 0, .int (-1), .ref mk, .ref co, .int 0, .int 0, .ref se])), (nw, .inl (cN, 25240, .inl (upd (upd now0 (17 : Int32).toNatClampNeg 399) (18 : Int32).toNatClampNeg 1)))] H := hP
  have hD : va_D A [(mo, .inr (4, [.int 0, .int 0, .ref nw, .ref kp, .int 0, .int (-1), .ref mk, .ref co, .int 0, .int 0, .ref se])), (nw, .inl (cN, 25240, .inl (upd (upd now0 (17 : Int32).toNatClampNeg 399) (18 : Int32).toNatClampNeg 1)))] := hD
  refine lv_iconst (pc := 134) (v := 1) hx hb dM_may_134 (by decide) ?_
  have hP9 := hP.sub (ws' := [(mo, .inr (4, [.int 0, .int 0, .ref nw, .ref kp, .int 0, .int (-1), .ref mk, .ref co, .int 0, .int 0, .ref se])), (nw, .inl (cN, 25240, .inl (upd (upd now0 (17 : Int32).toNatClampNeg 399) (18 : Int32).toNatClampNeg 1)))]) [0, 1] rfl
  have hD9 := hD.sub (ws' := [(mo, .inr (4, [.int 0, .int 0, .ref nw, .ref kp, .int 0, .int (-1), .ref mk, .ref co, .int 0, .int 0, .ref se])), (nw, .inl (cN, 25240, .inl (upd (upd now0 (17 : Int32).toNatClampNeg 399) (18 : Int32).toNatClampNeg 1)))]) [0, 1] (by decide) rfl
  have hK9 := hK.sub (tys' := [(cN, .int)]) [0] rfl
  exact W.zret (pc := 135) hx hb hr rfl (fun t ht hW => ⟨⟨_, (), rfl, rfl, by rw [ht]; exact hP9, va_K.moved hW.alike hK9, hD9⟩, hS.F ht⟩) hS.2.2 dM_may_135
set_option maxHeartbeats 4000000 in
set_option maxRecDepth 100000 in
theorem m_person (l : Launch) (dC : Nat → ClassId) (dI : Nat → Nat → Nat) (sz : Nat) (mo : Nat) (nw : Nat) (kp : Nat) (mk : Nat) (co : Nat) (se : Nat) (th : Int32) (mr : Int32) (cN : ClassId) (cK : ClassId) (fk : Nat → Int32) (pp : Int32) (ri : Int32) : Met l yM_person (.code yM_person cM_person 4 (some .boolean) :: aw) ({ frames := 2, cells := 0, slots := 0, locals := 42 }) (pW (dC, dI) sz [(mo, .inr (4, [.int th, .int mr, .ref nw, .ref kp, .int 0, .int (-1), .ref mk, .ref co, .int 0, .int 0, .ref se])), (nw, .inl (cN, 25240, .inl now0)), (kp, .inl (cK, 25240, .inl fk))] [(cN, .int), (cK, .int)] [.ref mo, .int pp, .int ri]) (va_Qi (fun r (u9 : Int32) => (r = 1 ∧ u9 = 0 ∧ (¬ pp < 0 ∧ ¬ (16 : Int32) ≤ pp ∧ ¬ ri < 0 ∧ ¬ (8 : Int32) ≤ ri)) ∨ (r = 0 ∧ u9 = 7 ∧ (pp < 0 ∨ (16 : Int32) ≤ pp ∨ ri < 0 ∨ (8 : Int32) ≤ ri))) (fun u9 t => wW (dC, dI) (va_A [(mo, .inr (4, [.int th, .int mr, .ref nw, .ref kp, .int 0, .int (-1), .ref mk, .ref co, .int 0, .int 0, .ref se])), (nw, .inl (cN, 25240, .inl now0)), (kp, .inl (cK, 25240, .inl fk))] sz) [(mo, .inr (4, [.int 0, .int u9, .ref nw, .ref kp, .int 0, .int (-1), .ref mk, .ref co, .int 0, .int 0, .ref se]))] [] t) (va_A [(mo, .inr (4, [.int th, .int mr, .ref nw, .ref kp, .int 0, .int (-1), .ref mk, .ref co, .int 0, .int 0, .ref se])), (nw, .inl (cN, 25240, .inl now0)), (kp, .inl (cK, 25240, .inl fk))] sz)) 0 0 (va_A [(mo, .inr (4, [.int th, .int mr, .ref nw, .ref kp, .int 0, .int (-1), .ref mk, .ref co, .int 0, .int 0, .ref se])), (nw, .inl (cN, 25240, .inl now0)), (kp, .inl (cK, 25240, .inl fk))] sz) := by
  refine Met.ofW (cc := cM_person) (maxL := 4) (ret := (some .boolean)) (by decide) rfl ?_
  intro p e s m args below meth c s₁ B hml hv
  obtain ⟨rfl, hv⟩ := hv
  have hx := B.exec
  have hb := B.bytes
  have hr := B.returns
  have hts : ∀ w ∈ aw, w.before _ s = true := fun w h => atoms_spec (ws := (.code yM_person cM_person 4 (some .boolean) :: aw)) B.pre w (List.mem_cons_of_mem _ h)
  have hown : s.vm.findClass RM = some m.cls := findClass_of_methodNamed B.named
  have hlocks := B.notSynchronized
  obtain ⟨hsz, hP, hK, hD0⟩ := hv
  subst hsz
  have hD := hD0.self (sz := s.heap.size)
  generalize hAe : va_A [(mo, .inr (4, [.int th, .int mr, .ref nw, .ref kp, .int 0, .int (-1), .ref mk, .ref co, .int 0, .int 0, .ref se])), (nw, .inl (cN, 25240, .inl now0)), (kp, .inl (cK, 25240, .inl fk))] s.heap.size = A at hD ⊢
  have hA : ∀ q : Nat, s.heap.size ≤ q → A q := fun q h => by rw [← hAe]; exact Or.inr h
  obtain ⟨H, hH⟩ : ∃ H, H = s.heap := ⟨_, rfl⟩
  have hS : va_S A s.heap H [] := by rw [hH]; exact va_S.rf
  rw [← hH] at hP ⊢
  have hP : va_P (dC, dI) kCl [(mo, .inr (4, [.int th, .int mr, .ref nw, .ref kp, .int 0, .int (-1), .ref mk, .ref co, .int 0, .int 0, .ref se])), (nw, .inl (cN, 25240, .inl now0)), (kp, .inl (cK, 25240, .inl fk))] H := hP
  have hl := lv_entry ([.ref mo, .int pp, .int ri]) (n := 4) (Nat.le_of_ble_eq_true rfl)
  rw [lg_entry_eq]
  generalize (lg_sl ([.ref mo, .int pp, .int ri]) ++ List.replicate (4 - (lg_sl ([.ref mo, .int pp, .int ri])).length) Slot.unset).toArray = ls at hl ⊢
  have hl : lv_has ls 4 [(0, .ref mo), (1, .int pp), (2, .int ri)] := hl
  refine lv_aload_n (pc := 0) hx hb dM_person_0 rfl (lv_at hl 0 rfl) ?_
  refine lv_iload_n (pc := 1) hx hb dM_person_1 rfl (lv_at hl 1 rfl) ?_
  refine vp_callSi (pc := 2) (W.runV (As := [.int pp]) (rest := []) ⟨hx, hb, hml, hown, hts⟩ (m_isPerson l dC dI mo nw kp mk co se th mr pp) (cwV 1 hts (gV wd_154 wd_155 wd_156 wd_157 wd_153) rfl rfl rfl (by decide +kernel) ⟨Nat.le_of_ble_eq_true rfl, Nat.le_of_ble_eq_true rfl⟩) ⟨pR_blind, va_recv (q := (RM, TM, 11)) (q0 := 0) (ci := 4) hK hP rfl rfl, pR_pre (hP.sub (ws' := [(mo, .inr (4, [.int th, .int mr, .ref nw, .ref kp, .int 0, .int (-1), .ref mk, .ref co, .int 0, .int 0, .ref se]))]) [0] rfl) (hK.sub (tys' := []) [] rfl)⟩ rfl rfl hl.1 rfl (lv_room (Nat.le_of_ble_eq_true rfl)) dM_person_2 ⟨Nat.le_of_ble_eq_true rfl, Nat.le_of_ble_eq_true rfl⟩) (fun r1 hr2 => ?_)
  obtain ⟨rfl, h3⟩ | ⟨rfl, h3⟩ : (r1 = 1 ∧ (¬ pp < 0 ∧ ¬ (16 : Int32) ≤ pp)) ∨ (r1 = 0 ∧ (pp < 0 ∨ (16 : Int32) ≤ pp)) := hr2
  · refine lv_if_eq (pc := 5) (tgt := 22) hx hb dM_person_5 rfl (fun h4 => absurd h4 (by decide)) (fun h4 => ?_)
    refine lv_iload_n (pc := 8) hx hb dM_person_8 rfl (lv_at hl 2 rfl) ?_
    refine lv_if_lt (pc := 9) (tgt := 22) hx hb dM_person_9 rfl (fun h5 => ?_) (fun h5 => ?_)
    · refine lv_bipush (pc := 22) (v := 7) hx hb dM_person_22 (by decide) ?_
      refine lv_istore_n (pc := 24) hx hb dM_person_24 rfl hl (by decide) rfl (fun ls hl => ?_)
      have hl : lv_has ls 4 [(3, .int 7), (0, .ref mo), (1, .int pp), (2, .int ri)] := hl
      refine lv_aload_n (pc := 25) hx hb dM_person_25 rfl (lv_at hl 1 rfl) ?_
      refine lv_iload_n (pc := 26) hx hb dM_person_26 rfl (lv_at hl 0 rfl) ?_
      refine lv_iconst (pc := 27) (v := 1) hx hb dM_person_27 (by decide) ?_
      have hPc := hP.sub (ws' := [(mo, .inr (4, [.int th, .int mr, .ref nw, .ref kp, .int 0, .int (-1), .ref mk, .ref co, .int 0, .int 0, .ref se])), (nw, .inl (cN, 25240, .inl now0))]) [0, 1] rfl
      have hDc := hD.sub (ws' := [(mo, .inr (4, [.int th, .int mr, .ref nw, .ref kp, .int 0, .int (-1), .ref mk, .ref co, .int 0, .int 0, .ref se])), (nw, .inl (cN, 25240, .inl now0))]) [0, 1] (by decide) rfl
      have hKc := hK.sub (tys' := [(cN, .int)]) [0] rfl
      have hFc := va_free (wc := [(mo, .inr (4, [.int th, .int mr, .ref nw, .ref kp, .int 0, .int (-1), .ref mk, .ref co, .int 0, .int 0, .ref se])), (nw, .inl (cN, 25240, .inl now0))]) hD hS hA [0, 1] rfl
      refine va_calli (pc := 28) (va_runV (As := [.int 7, .int 1]) (rest := []) ⟨hx, hb, hml, hown, hts⟩ (m_may l dC dI H.size mo nw kp mk co se th mr cN 7 1 (by decide) (by decide)) (cwV 2 hts (gV wd_181 wd_182 wd_183 wd_157 wd_180) rfl rfl rfl (by decide +kernel) ⟨Nat.le_of_ble_eq_true rfl, Nat.le_of_ble_eq_true rfl⟩) ⟨pW_blind, va_recv (q := (RM, TM, 11)) (q0 := 0) (ci := 4) hK hP rfl rfl, pW_pre hPc hKc hDc⟩ rfl rfl hl.1 rfl (lv_room (Nat.le_of_ble_eq_true rfl)) dM_person_28 ⟨Nat.le_of_ble_eq_true rfl, Nat.le_of_ble_eq_true rfl⟩) hS (fun q _ h => hFc q h) hFc (fun r6 u t H1 locs ht hvm hr7 hB hz1 hk1 hS => ?_)
      obtain ⟨hP1, hK1, hD1⟩ := hB
      rw [ht] at hP1
      have hK1 := va_K.moved hvm.symm hK1
      obtain ⟨hP, hD⟩ := va_join (wr := [(kp, .inl (cK, 25240, .inl fk))]) (w1 := [(mo, .inr (4, [.int 0, .int 7, .ref nw, .ref kp, .int 0, .int (-1), .ref mk, .ref co, .int 0, .int 0, .ref se])), (nw, .inl (cN, 25240, .inl now0))]) hP hD [0, 1] [2] rfl rfl (by decide) (by decide) hk1 hFc hP1 hD1
      generalize H1 = H at hP hS ⊢
      have hP : va_P (dC, dI) kCl [(kp, .inl (cK, 25240, .inl fk)), (mo, .inr (4, [.int 0, .int 7, .ref nw, .ref kp, .int 0, .int (-1), .ref mk, .ref co, .int 0, .int 0, .ref se])), (nw, .inl (cN, 25240, .inl now0))] H := hP
      have hD : va_D A [(kp, .inl (cK, 25240, .inl fk)), (mo, .inr (4, [.int 0, .int 7, .ref nw, .ref kp, .int 0, .int (-1), .ref mk, .ref co, .int 0, .int 0, .ref se])), (nw, .inl (cN, 25240, .inl now0))] := hD
      refine W.widen (k := 0) (n := 0) (Nat.le_of_ble_eq_true rfl) (Nat.le_of_ble_eq_true rfl) ?_
      obtain rfl : r6 = 0 := hr7
      refine lv_if_ne (pc := 31) (tgt := 36) hx hb dM_person_31 rfl (fun h9 => absurd h9 (by decide)) (fun h9 => ?_)
      refine lv_iconst (pc := 34) (v := 0) hx hb dM_person_34 (by decide) ?_
      have hP9 := hP.sub (ws' := [(mo, .inr (4, [.int 0, .int 7, .ref nw, .ref kp, .int 0, .int (-1), .ref mk, .ref co, .int 0, .int 0, .ref se]))]) [1] rfl
      have hD9 := hD.sub (ws' := [(mo, .inr (4, [.int 0, .int 7, .ref nw, .ref kp, .int 0, .int (-1), .ref mk, .ref co, .int 0, .int 0, .ref se]))]) [1] (by decide) rfl
      have hK9 := hK.sub (tys' := []) [] rfl
      exact W.zret (pc := 35) hx hb hr rfl (fun t ht hW => ⟨⟨_, 7, rfl, (Or.inr ⟨rfl, rfl, Or.inr (Or.inr (Or.inl h5))⟩), by rw [ht]; exact hP9, va_K.moved hW.alike hK9, hD9⟩, hS.F ht⟩) hS.2.2 dM_person_35
    · refine lv_iload_n (pc := 12) hx hb dM_person_12 rfl (lv_at hl 2 rfl) ?_
      refine lv_bipush (pc := 13) (v := 8) hx hb dM_person_13 (by decide) ?_
      refine lv_icmp_ge (pc := 15) (tgt := 22) hx hb dM_person_15 rfl (fun h10 => ?_) (fun h10 => ?_)
      · refine lv_bipush (pc := 22) (v := 7) hx hb dM_person_22 (by decide) ?_
        refine lv_istore_n (pc := 24) hx hb dM_person_24 rfl hl (by decide) rfl (fun ls hl => ?_)
        have hl : lv_has ls 4 [(3, .int 7), (0, .ref mo), (1, .int pp), (2, .int ri)] := hl
        refine lv_aload_n (pc := 25) hx hb dM_person_25 rfl (lv_at hl 1 rfl) ?_
        refine lv_iload_n (pc := 26) hx hb dM_person_26 rfl (lv_at hl 0 rfl) ?_
        refine lv_iconst (pc := 27) (v := 1) hx hb dM_person_27 (by decide) ?_
        have hPc := hP.sub (ws' := [(mo, .inr (4, [.int th, .int mr, .ref nw, .ref kp, .int 0, .int (-1), .ref mk, .ref co, .int 0, .int 0, .ref se])), (nw, .inl (cN, 25240, .inl now0))]) [0, 1] rfl
        have hDc := hD.sub (ws' := [(mo, .inr (4, [.int th, .int mr, .ref nw, .ref kp, .int 0, .int (-1), .ref mk, .ref co, .int 0, .int 0, .ref se])), (nw, .inl (cN, 25240, .inl now0))]) [0, 1] (by decide) rfl
        have hKc := hK.sub (tys' := [(cN, .int)]) [0] rfl
        have hFc := va_free (wc := [(mo, .inr (4, [.int th, .int mr, .ref nw, .ref kp, .int 0, .int (-1), .ref mk, .ref co, .int 0, .int 0, .ref se])), (nw, .inl (cN, 25240, .inl now0))]) hD hS hA [0, 1] rfl
        refine va_calli (pc := 28) (va_runV (As := [.int 7, .int 1]) (rest := []) ⟨hx, hb, hml, hown, hts⟩ (m_may l dC dI H.size mo nw kp mk co se th mr cN 7 1 (by decide) (by decide)) (cwV 2 hts (gV wd_181 wd_182 wd_183 wd_157 wd_180) rfl rfl rfl (by decide +kernel) ⟨Nat.le_of_ble_eq_true rfl, Nat.le_of_ble_eq_true rfl⟩) ⟨pW_blind, va_recv (q := (RM, TM, 11)) (q0 := 0) (ci := 4) hK hP rfl rfl, pW_pre hPc hKc hDc⟩ rfl rfl hl.1 rfl (lv_room (Nat.le_of_ble_eq_true rfl)) dM_person_28 ⟨Nat.le_of_ble_eq_true rfl, Nat.le_of_ble_eq_true rfl⟩) hS (fun q _ h => hFc q h) hFc (fun r11 u t H1 locs ht hvm hr12 hB hz1 hk1 hS => ?_)
        obtain ⟨hP1, hK1, hD1⟩ := hB
        rw [ht] at hP1
        have hK1 := va_K.moved hvm.symm hK1
        obtain ⟨hP, hD⟩ := va_join (wr := [(kp, .inl (cK, 25240, .inl fk))]) (w1 := [(mo, .inr (4, [.int 0, .int 7, .ref nw, .ref kp, .int 0, .int (-1), .ref mk, .ref co, .int 0, .int 0, .ref se])), (nw, .inl (cN, 25240, .inl now0))]) hP hD [0, 1] [2] rfl rfl (by decide) (by decide) hk1 hFc hP1 hD1
        generalize H1 = H at hP hS ⊢
        have hP : va_P (dC, dI) kCl [(kp, .inl (cK, 25240, .inl fk)), (mo, .inr (4, [.int 0, .int 7, .ref nw, .ref kp, .int 0, .int (-1), .ref mk, .ref co, .int 0, .int 0, .ref se])), (nw, .inl (cN, 25240, .inl now0))] H := hP
        have hD : va_D A [(kp, .inl (cK, 25240, .inl fk)), (mo, .inr (4, [.int 0, .int 7, .ref nw, .ref kp, .int 0, .int (-1), .ref mk, .ref co, .int 0, .int 0, .ref se])), (nw, .inl (cN, 25240, .inl now0))] := hD
        refine W.widen (k := 0) (n := 0) (Nat.le_of_ble_eq_true rfl) (Nat.le_of_ble_eq_true rfl) ?_
        obtain rfl : r11 = 0 := hr12
        refine lv_if_ne (pc := 31) (tgt := 36) hx hb dM_person_31 rfl (fun h14 => absurd h14 (by decide)) (fun h14 => ?_)
        refine lv_iconst (pc := 34) (v := 0) hx hb dM_person_34 (by decide) ?_
        have hP9 := hP.sub (ws' := [(mo, .inr (4, [.int 0, .int 7, .ref nw, .ref kp, .int 0, .int (-1), .ref mk, .ref co, .int 0, .int 0, .ref se]))]) [1] rfl
        have hD9 := hD.sub (ws' := [(mo, .inr (4, [.int 0, .int 7, .ref nw, .ref kp, .int 0, .int (-1), .ref mk, .ref co, .int 0, .int 0, .ref se]))]) [1] (by decide) rfl
        have hK9 := hK.sub (tys' := []) [] rfl
        exact W.zret (pc := 35) hx hb hr rfl (fun t ht hW => ⟨⟨_, 7, rfl, (Or.inr ⟨rfl, rfl, Or.inr (Or.inr (Or.inr h10))⟩), by rw [ht]; exact hP9, va_K.moved hW.alike hK9, hD9⟩, hS.F ht⟩) hS.2.2 dM_person_35
      · refine lv_iconst (pc := 18) (v := 0) hx hb dM_person_18 (by decide) ?_
        refine lv_goto (pc := 19) (tgt := 24) hx hb dM_person_19 rfl ?_
        refine lv_istore_n (pc := 24) hx hb dM_person_24 rfl hl (by decide) rfl (fun ls hl => ?_)
        have hl : lv_has ls 4 [(3, .int 0), (0, .ref mo), (1, .int pp), (2, .int ri)] := hl
        refine lv_aload_n (pc := 25) hx hb dM_person_25 rfl (lv_at hl 1 rfl) ?_
        refine lv_iload_n (pc := 26) hx hb dM_person_26 rfl (lv_at hl 0 rfl) ?_
        refine lv_iconst (pc := 27) (v := 1) hx hb dM_person_27 (by decide) ?_
        have hPc := hP.sub (ws' := [(mo, .inr (4, [.int th, .int mr, .ref nw, .ref kp, .int 0, .int (-1), .ref mk, .ref co, .int 0, .int 0, .ref se])), (nw, .inl (cN, 25240, .inl now0))]) [0, 1] rfl
        have hDc := hD.sub (ws' := [(mo, .inr (4, [.int th, .int mr, .ref nw, .ref kp, .int 0, .int (-1), .ref mk, .ref co, .int 0, .int 0, .ref se])), (nw, .inl (cN, 25240, .inl now0))]) [0, 1] (by decide) rfl
        have hKc := hK.sub (tys' := [(cN, .int)]) [0] rfl
        have hFc := va_free (wc := [(mo, .inr (4, [.int th, .int mr, .ref nw, .ref kp, .int 0, .int (-1), .ref mk, .ref co, .int 0, .int 0, .ref se])), (nw, .inl (cN, 25240, .inl now0))]) hD hS hA [0, 1] rfl
        refine va_calli (pc := 28) (va_runV (As := [.int 0, .int 1]) (rest := []) ⟨hx, hb, hml, hown, hts⟩ (m_may1 l dC dI H.size mo nw kp mk co se th mr cN) (cwV 2 hts (gV wd_181 wd_182 wd_183 wd_157 wd_180) rfl rfl rfl (by decide +kernel) ⟨Nat.le_of_ble_eq_true rfl, Nat.le_of_ble_eq_true rfl⟩) ⟨pW_blind, va_recv (q := (RM, TM, 11)) (q0 := 0) (ci := 4) hK hP rfl rfl, pW_pre hPc hKc hDc⟩ rfl rfl hl.1 rfl (lv_room (Nat.le_of_ble_eq_true rfl)) dM_person_28 ⟨Nat.le_of_ble_eq_true rfl, Nat.le_of_ble_eq_true rfl⟩) hS (fun q _ h => hFc q h) hFc (fun r15 u t H1 locs ht hvm hr16 hB hz1 hk1 hS => ?_)
        obtain ⟨hP1, hK1, hD1⟩ := hB
        rw [ht] at hP1
        have hK1 := va_K.moved hvm.symm hK1
        obtain ⟨hP, hD⟩ := va_join (wr := [(kp, .inl (cK, 25240, .inl fk))]) (w1 := [(mo, .inr (4, [.int 0, .int 0, .ref nw, .ref kp, .int 0, .int (-1), .ref mk, .ref co, .int 0, .int 0, .ref se])), (nw, .inl (cN, 25240, .inl (upd (upd now0 (17 : Int32).toNatClampNeg 399) (18 : Int32).toNatClampNeg 1)))]) hP hD [0, 1] [2] rfl rfl (by decide) (by decide) hk1 hFc hP1 hD1
        generalize H1 = H at hP hS ⊢
        have hP : va_P (dC, dI) kCl [(kp, .inl (cK, 25240, .inl fk)), (mo, .inr (4, [.int 0, .int 0, .ref nw, .ref kp, .int 0, .int (-1), .ref mk, .ref co, .int 0, .int 0, .ref se])), (nw, .inl (cN, 25240, .inl (upd (upd now0 (17 : Int32).toNatClampNeg 399) (18 : Int32).toNatClampNeg 1)))] H := hP
        have hD : va_D A [(kp, .inl (cK, 25240, .inl fk)), (mo, .inr (4, [.int 0, .int 0, .ref nw, .ref kp, .int 0, .int (-1), .ref mk, .ref co, .int 0, .int 0, .ref se])), (nw, .inl (cN, 25240, .inl (upd (upd now0 (17 : Int32).toNatClampNeg 399) (18 : Int32).toNatClampNeg 1)))] := hD
        refine W.widen (k := 0) (n := 0) (Nat.le_of_ble_eq_true rfl) (Nat.le_of_ble_eq_true rfl) ?_
        obtain rfl : r15 = 1 := hr16
        refine lv_if_ne (pc := 31) (tgt := 36) hx hb dM_person_31 rfl (fun h18 => ?_) (fun h18 => absurd h18 (by decide))
        refine lv_aload_n (pc := 36) hx hb dM_person_36 rfl (lv_at hl 1 rfl) ?_
        refine va_get (D := (dC, dI)) (cl := kCl) (C := RM) (T := TM) (N := 11) (pc := 37) hx hb hts inM hown hK hP 1 rfl rfl 2 (by decide) (hts _ wd_158) (fun _ h9 => h9) rfl dM_person_37 ?_
        refine lv_iload_n (pc := 40) hx hb dM_person_40 rfl (lv_at hl 2 rfl) ?_
        refine lv_iload_n (pc := 41) hx hb dM_person_41 rfl (lv_at hl 3 rfl) ?_
        refine va_iast (D := (dC, dI)) (cl := kCl) (pc := 42) hx hb hK hP hD hS 2 0 rfl rfl (vin_le (vin_of (n := 16) (k := 16) (by decide) h3.1 h3.2) (by decide)) dM_person_42 (fun H locs hP hD hS => ?_)
        have hP : va_P (dC, dI) kCl [(kp, .inl (cK, 25240, .inl fk)), (mo, .inr (4, [.int 0, .int 0, .ref nw, .ref kp, .int 0, .int (-1), .ref mk, .ref co, .int 0, .int 0, .ref se])), (nw, .inl (cN, 25240, .inl (upd (upd (upd now0 (17 : Int32).toNatClampNeg 399) (18 : Int32).toNatClampNeg 1) (pp : Int32).toNatClampNeg ri)))] H := hP
        have hD : va_D A [(kp, .inl (cK, 25240, .inl fk)), (mo, .inr (4, [.int 0, .int 0, .ref nw, .ref kp, .int 0, .int (-1), .ref mk, .ref co, .int 0, .int 0, .ref se])), (nw, .inl (cN, 25240, .inl (upd (upd (upd now0 (17 : Int32).toNatClampNeg 399) (18 : Int32).toNatClampNeg 1) (pp : Int32).toNatClampNeg ri)))] := hD
        refine lv_aload_n (pc := 43) hx hb dM_person_43 rfl (lv_at hl 1 rfl) ?_
        have hPc := hP.sub (ws' := [(mo, .inr (4, [.int 0, .int 0, .ref nw, .ref kp, .int 0, .int (-1), .ref mk, .ref co, .int 0, .int 0, .ref se])), (nw, .inl (cN, 25240, .inl (upd (upd (upd now0 (17 : Int32).toNatClampNeg 399) (18 : Int32).toNatClampNeg 1) (pp : Int32).toNatClampNeg ri))), (kp, .inl (cK, 25240, .inl fk))]) [1, 2, 0] rfl
        have hDc := hD.sub (ws' := [(mo, .inr (4, [.int 0, .int 0, .ref nw, .ref kp, .int 0, .int (-1), .ref mk, .ref co, .int 0, .int 0, .ref se])), (nw, .inl (cN, 25240, .inl (upd (upd (upd now0 (17 : Int32).toNatClampNeg 399) (18 : Int32).toNatClampNeg 1) (pp : Int32).toNatClampNeg ri))), (kp, .inl (cK, 25240, .inl fk))]) [1, 2, 0] (by decide) rfl
        have hKc := hK.sub (tys' := [(cN, .int), (cK, .int)]) [0, 1] rfl
        have hFc := va_free (wc := [(mo, .inr (4, [.int 0, .int 0, .ref nw, .ref kp, .int 0, .int (-1), .ref mk, .ref co, .int 0, .int 0, .ref se])), (nw, .inl (cN, 25240, .inl (upd (upd (upd now0 (17 : Int32).toNatClampNeg 399) (18 : Int32).toNatClampNeg 1) (pp : Int32).toNatClampNeg ri))), (kp, .inl (cK, 25240, .inl fk))]) hD hS hA [1, 2, 0] rfl
        refine va_callv (pc := 44) (va_runV (As := []) (rest := []) ⟨hx, hb, hml, hown, hts⟩ (m_close l dC dI H.size mo nw kp mk co se 0 0 cN (upd (upd (upd now0 (17 : Int32).toNatClampNeg 399) (18 : Int32).toNatClampNeg 1) (pp : Int32).toNatClampNeg ri) cK fk (per_17 (vin_of (k := 16) (by decide) h3.1 h3.2) (by decide))) (cwV 0 hts (gV wd_210 wd_211 wd_212 wd_157 wd_209) rfl rfl rfl (by decide +kernel) ⟨Nat.le_of_ble_eq_true rfl, Nat.le_of_ble_eq_true rfl⟩) ⟨pW_blind, va_recv (q := (RM, TM, 11)) (q0 := 1) (ci := 4) hK hP rfl rfl, pW_pre hPc hKc hDc⟩ rfl rfl hl.1 rfl (lv_room (Nat.le_of_ble_eq_true rfl)) dM_person_44 ⟨Nat.le_of_ble_eq_true rfl, Nat.le_of_ble_eq_true rfl⟩) hS (fun q _ h => hFc q h) hFc (fun u t H1 locs ht hvm hr20 hB hz1 hk1 hS => ?_)
        obtain ⟨hP1, hK1, hD1⟩ := hB
        rw [ht] at hP1
        have hK1 := va_K.moved hvm.symm hK1
        obtain ⟨hP, hD⟩ := va_join (wr := []) (w1 := [(mo, .inr (4, [.int 0, .int 0, .ref nw, .ref kp, .int 0, .int (-1), .ref mk, .ref co, .int 0, .int 0, .ref se]))]) hP hD [1, 2, 0] [] rfl rfl (by decide) (by decide) hk1 hFc hP1 hD1
        generalize H1 = H at hP hS ⊢
        have hP : va_P (dC, dI) kCl [(mo, .inr (4, [.int 0, .int 0, .ref nw, .ref kp, .int 0, .int (-1), .ref mk, .ref co, .int 0, .int 0, .ref se]))] H := hP
        have hD : va_D A [(mo, .inr (4, [.int 0, .int 0, .ref nw, .ref kp, .int 0, .int (-1), .ref mk, .ref co, .int 0, .int 0, .ref se]))] := hD
        refine W.widen (k := 0) (n := 0) (Nat.le_of_ble_eq_true rfl) (Nat.le_of_ble_eq_true rfl) ?_
        refine lv_iconst (pc := 47) (v := 1) hx hb dM_person_47 (by decide) ?_
        have hP9 := hP.sub (ws' := [(mo, .inr (4, [.int 0, .int 0, .ref nw, .ref kp, .int 0, .int (-1), .ref mk, .ref co, .int 0, .int 0, .ref se]))]) [0] rfl
        have hD9 := hD.sub (ws' := [(mo, .inr (4, [.int 0, .int 0, .ref nw, .ref kp, .int 0, .int (-1), .ref mk, .ref co, .int 0, .int 0, .ref se]))]) [0] (by decide) rfl
        have hK9 := hK.sub (tys' := []) [] rfl
        exact W.zret (pc := 48) hx hb hr rfl (fun t ht hW => ⟨⟨_, 0, rfl, (Or.inl ⟨rfl, rfl, h3.1, h3.2, h5, h10⟩), by rw [ht]; exact hP9, va_K.moved hW.alike hK9, hD9⟩, hS.F ht⟩) hS.2.2 dM_person_48
  · refine lv_if_eq (pc := 5) (tgt := 22) hx hb dM_person_5 rfl (fun h22 => ?_) (fun h22 => absurd h22 (by decide))
    refine lv_bipush (pc := 22) (v := 7) hx hb dM_person_22 (by decide) ?_
    refine lv_istore_n (pc := 24) hx hb dM_person_24 rfl hl (by decide) rfl (fun ls hl => ?_)
    have hl : lv_has ls 4 [(3, .int 7), (0, .ref mo), (1, .int pp), (2, .int ri)] := hl
    refine lv_aload_n (pc := 25) hx hb dM_person_25 rfl (lv_at hl 1 rfl) ?_
    refine lv_iload_n (pc := 26) hx hb dM_person_26 rfl (lv_at hl 0 rfl) ?_
    refine lv_iconst (pc := 27) (v := 1) hx hb dM_person_27 (by decide) ?_
    have hPc := hP.sub (ws' := [(mo, .inr (4, [.int th, .int mr, .ref nw, .ref kp, .int 0, .int (-1), .ref mk, .ref co, .int 0, .int 0, .ref se])), (nw, .inl (cN, 25240, .inl now0))]) [0, 1] rfl
    have hDc := hD.sub (ws' := [(mo, .inr (4, [.int th, .int mr, .ref nw, .ref kp, .int 0, .int (-1), .ref mk, .ref co, .int 0, .int 0, .ref se])), (nw, .inl (cN, 25240, .inl now0))]) [0, 1] (by decide) rfl
    have hKc := hK.sub (tys' := [(cN, .int)]) [0] rfl
    have hFc := va_free (wc := [(mo, .inr (4, [.int th, .int mr, .ref nw, .ref kp, .int 0, .int (-1), .ref mk, .ref co, .int 0, .int 0, .ref se])), (nw, .inl (cN, 25240, .inl now0))]) hD hS hA [0, 1] rfl
    refine va_calli (pc := 28) (va_runV (As := [.int 7, .int 1]) (rest := []) ⟨hx, hb, hml, hown, hts⟩ (m_may l dC dI H.size mo nw kp mk co se th mr cN 7 1 (by decide) (by decide)) (cwV 2 hts (gV wd_181 wd_182 wd_183 wd_157 wd_180) rfl rfl rfl (by decide +kernel) ⟨Nat.le_of_ble_eq_true rfl, Nat.le_of_ble_eq_true rfl⟩) ⟨pW_blind, va_recv (q := (RM, TM, 11)) (q0 := 0) (ci := 4) hK hP rfl rfl, pW_pre hPc hKc hDc⟩ rfl rfl hl.1 rfl (lv_room (Nat.le_of_ble_eq_true rfl)) dM_person_28 ⟨Nat.le_of_ble_eq_true rfl, Nat.le_of_ble_eq_true rfl⟩) hS (fun q _ h => hFc q h) hFc (fun r23 u t H1 locs ht hvm hr24 hB hz1 hk1 hS => ?_)
    obtain ⟨hP1, hK1, hD1⟩ := hB
    rw [ht] at hP1
    have hK1 := va_K.moved hvm.symm hK1
    obtain ⟨hP, hD⟩ := va_join (wr := [(kp, .inl (cK, 25240, .inl fk))]) (w1 := [(mo, .inr (4, [.int 0, .int 7, .ref nw, .ref kp, .int 0, .int (-1), .ref mk, .ref co, .int 0, .int 0, .ref se])), (nw, .inl (cN, 25240, .inl now0))]) hP hD [0, 1] [2] rfl rfl (by decide) (by decide) hk1 hFc hP1 hD1
    generalize H1 = H at hP hS ⊢
    have hP : va_P (dC, dI) kCl [(kp, .inl (cK, 25240, .inl fk)), (mo, .inr (4, [.int 0, .int 7, .ref nw, .ref kp, .int 0, .int (-1), .ref mk, .ref co, .int 0, .int 0, .ref se])), (nw, .inl (cN, 25240, .inl now0))] H := hP
    have hD : va_D A [(kp, .inl (cK, 25240, .inl fk)), (mo, .inr (4, [.int 0, .int 7, .ref nw, .ref kp, .int 0, .int (-1), .ref mk, .ref co, .int 0, .int 0, .ref se])), (nw, .inl (cN, 25240, .inl now0))] := hD
    refine W.widen (k := 0) (n := 0) (Nat.le_of_ble_eq_true rfl) (Nat.le_of_ble_eq_true rfl) ?_
    obtain rfl : r23 = 0 := hr24
    refine lv_if_ne (pc := 31) (tgt := 36) hx hb dM_person_31 rfl (fun h26 => absurd h26 (by decide)) (fun h26 => ?_)
    refine lv_iconst (pc := 34) (v := 0) hx hb dM_person_34 (by decide) ?_
    have hP9 := hP.sub (ws' := [(mo, .inr (4, [.int 0, .int 7, .ref nw, .ref kp, .int 0, .int (-1), .ref mk, .ref co, .int 0, .int 0, .ref se]))]) [1] rfl
    have hD9 := hD.sub (ws' := [(mo, .inr (4, [.int 0, .int 7, .ref nw, .ref kp, .int 0, .int (-1), .ref mk, .ref co, .int 0, .int 0, .ref se]))]) [1] (by decide) rfl
    have hK9 := hK.sub (tys' := []) [] rfl
    exact W.zret (pc := 35) hx hb hr rfl (fun t ht hW => ⟨⟨_, 7, rfl, (Or.inr ⟨rfl, rfl, h3.elim Or.inl (fun q => Or.inr (Or.inl q))⟩), by rw [ht]; exact hP9, va_K.moved hW.alike hK9, hD9⟩, hS.F ht⟩) hS.2.2 dM_person_35
set_option maxHeartbeats 4000000 in
set_option maxRecDepth 100000 in
theorem m_start (l : Launch) (dC : Nat → ClassId) (dI : Nat → Nat → Nat) (sz : Nat) (mo : Nat) (nw : Nat) (kp : Nat) (mk : Nat) (co : Nat) (se : Nat) (th : Int32) (mr : Int32) (cN : ClassId) (cK : ClassId) (fk : Nat → Int32) (hk : fk 16 = 0) : Met l yM_start (.code yM_start cM_start 3 (some .int) :: aw) ({ frames := 0, cells := 0, slots := 0, locals := 0 }) (pW (dC, dI) sz [(mo, .inr (4, [.int th, .int mr, .ref nw, .ref kp, .int 0, .int (-1), .ref mk, .ref co, .int 0, .int 0, .ref se])), (nw, .inl (cN, 25240, .inl now0)), (kp, .inl (cK, 25240, .inl fk))] [(cN, .int), (cK, .int)] [.ref mo]) (va_Qi (fun r (_ : Unit) => r = 0) (fun _ t => wW (dC, dI) (va_A [(mo, .inr (4, [.int th, .int mr, .ref nw, .ref kp, .int 0, .int (-1), .ref mk, .ref co, .int 0, .int 0, .ref se])), (nw, .inl (cN, 25240, .inl now0)), (kp, .inl (cK, 25240, .inl fk))] sz) [(mo, .inr (4, [.int 0, .int mr, .ref nw, .ref kp, .int 0, .int (-1), .ref mk, .ref co, .int 0, .int 0, .ref se]))] [] t) (va_A [(mo, .inr (4, [.int th, .int mr, .ref nw, .ref kp, .int 0, .int (-1), .ref mk, .ref co, .int 0, .int 0, .ref se])), (nw, .inl (cN, 25240, .inl now0)), (kp, .inl (cK, 25240, .inl fk))] sz)) 0 0 (va_A [(mo, .inr (4, [.int th, .int mr, .ref nw, .ref kp, .int 0, .int (-1), .ref mk, .ref co, .int 0, .int 0, .ref se])), (nw, .inl (cN, 25240, .inl now0)), (kp, .inl (cK, 25240, .inl fk))] sz) := by
  refine Met.ofW (cc := cM_start) (maxL := 3) (ret := (some .int)) (by decide) rfl ?_
  intro p e s m args below meth c s₁ B hml hv
  obtain ⟨rfl, hv⟩ := hv
  have hx := B.exec
  have hb := B.bytes
  have hr := B.returns
  have hts : ∀ w ∈ aw, w.before _ s = true := fun w h => atoms_spec (ws := (.code yM_start cM_start 3 (some .int) :: aw)) B.pre w (List.mem_cons_of_mem _ h)
  have hown : s.vm.findClass RM = some m.cls := findClass_of_methodNamed B.named
  have hlocks := B.notSynchronized
  obtain ⟨hsz, hP, hK, hD0⟩ := hv
  subst hsz
  have hD := hD0.self (sz := s.heap.size)
  generalize hAe : va_A [(mo, .inr (4, [.int th, .int mr, .ref nw, .ref kp, .int 0, .int (-1), .ref mk, .ref co, .int 0, .int 0, .ref se])), (nw, .inl (cN, 25240, .inl now0)), (kp, .inl (cK, 25240, .inl fk))] s.heap.size = A at hD ⊢
  have hA : ∀ q : Nat, s.heap.size ≤ q → A q := fun q h => by rw [← hAe]; exact Or.inr h
  obtain ⟨H, hH⟩ : ∃ H, H = s.heap := ⟨_, rfl⟩
  have hS : va_S A s.heap H [] := by rw [hH]; exact va_S.rf
  rw [← hH] at hP ⊢
  have hP : va_P (dC, dI) kCl [(mo, .inr (4, [.int th, .int mr, .ref nw, .ref kp, .int 0, .int (-1), .ref mk, .ref co, .int 0, .int 0, .ref se])), (nw, .inl (cN, 25240, .inl now0)), (kp, .inl (cK, 25240, .inl fk))] H := hP
  have hl := lv_entry ([.ref mo]) (n := 3) (Nat.le_of_ble_eq_true rfl)
  rw [lg_entry_eq]
  generalize (lg_sl ([.ref mo]) ++ List.replicate (3 - (lg_sl ([.ref mo])).length) Slot.unset).toArray = ls at hl ⊢
  have hl : lv_has ls 3 [(0, .ref mo)] := hl
  refine lv_aload_n (pc := 0) hx hb dM_start_0 rfl (lv_at hl 0 rfl) ?_
  refine lv_iconst (pc := 1) (v := 0) hx hb dM_start_1 (by decide) ?_
  refine va_put (D := (dC, dI)) (cl := kCl) (ci := 4) (v := .int 0) (ty := .int) (C := RM) (T := TM) (N := 11) (pc := 2) hx hb hts inM tyM tyM_ok nmM hown hK hP hD hS 0 rfl rfl 0 (by decide) (hts _ wd_152) (fun _ h9 => h9) rfl (by decide +kernel) rfl rfl (Nat.le_of_ble_eq_true rfl) dM_start_2 (fun H locs hP hD hS => ?_)
  have hP : va_P (dC, dI) kCl [(mo, .inr (4, [.int 0, .int mr, .ref nw, .ref kp, .int 0, .int (-1), .ref mk, .ref co, .int 0, .int 0, .ref se])), (nw, .inl (cN, 25240, .inl now0)), (kp, .inl (cK, 25240, .inl fk))] H := hP
  have hD : va_D A [(mo, .inr (4, [.int 0, .int mr, .ref nw, .ref kp, .int 0, .int (-1), .ref mk, .ref co, .int 0, .int 0, .ref se])), (nw, .inl (cN, 25240, .inl now0)), (kp, .inl (cK, 25240, .inl fk))] := hD
  refine lv_aload_n (pc := 5) hx hb dM_start_5 rfl (lv_at hl 0 rfl) ?_
  refine lv_iconst (pc := 6) (v := 0) hx hb dM_start_6 (by decide) ?_
  refine va_put (D := (dC, dI)) (cl := kCl) (ci := 4) (v := .int 0) (ty := .boolean) (C := RM) (T := TM) (N := 11) (pc := 7) hx hb hts inM tyM tyM_ok nmM hown hK hP hD hS 0 rfl rfl 4 (by decide) (hts _ wd_163) (fun _ h9 => h9) rfl (by decide +kernel) rfl rfl (Nat.le_of_ble_eq_true rfl) dM_start_7 (fun H locs hP hD hS => ?_)
  have hP : va_P (dC, dI) kCl [(mo, .inr (4, [.int 0, .int mr, .ref nw, .ref kp, .int 0, .int (-1), .ref mk, .ref co, .int 0, .int 0, .ref se])), (nw, .inl (cN, 25240, .inl now0)), (kp, .inl (cK, 25240, .inl fk))] H := hP
  have hD : va_D A [(mo, .inr (4, [.int 0, .int mr, .ref nw, .ref kp, .int 0, .int (-1), .ref mk, .ref co, .int 0, .int 0, .ref se])), (nw, .inl (cN, 25240, .inl now0)), (kp, .inl (cK, 25240, .inl fk))] := hD
  refine lv_aload_n (pc := 10) hx hb dM_start_10 rfl (lv_at hl 0 rfl) ?_
  refine lv_iconst (pc := 11) (v := (-1)) hx hb dM_start_11 (by decide) ?_
  refine va_put (D := (dC, dI)) (cl := kCl) (ci := 4) (v := .int (-1)) (ty := .int) (C := RM) (T := TM) (N := 11) (pc := 12) hx hb hts inM tyM tyM_ok nmM hown hK hP hD hS 0 rfl rfl 5 (by decide) (hts _ wd_203) (fun _ h9 => h9) rfl (by decide +kernel) rfl rfl (Nat.le_of_ble_eq_true rfl) dM_start_12 (fun H locs hP hD hS => ?_)
  have hP : va_P (dC, dI) kCl [(mo, .inr (4, [.int 0, .int mr, .ref nw, .ref kp, .int 0, .int (-1), .ref mk, .ref co, .int 0, .int 0, .ref se])), (nw, .inl (cN, 25240, .inl now0)), (kp, .inl (cK, 25240, .inl fk))] H := hP
  have hD : va_D A [(mo, .inr (4, [.int 0, .int mr, .ref nw, .ref kp, .int 0, .int (-1), .ref mk, .ref co, .int 0, .int 0, .ref se])), (nw, .inl (cN, 25240, .inl now0)), (kp, .inl (cK, 25240, .inl fk))] := hD
  refine lv_iconst (pc := 15) (v := 0) hx hb dM_start_15 (by decide) ?_
  refine lv_istore_n (pc := 16) hx hb dM_start_16 rfl hl (by decide) rfl (fun ls hl => ?_)
  have hl : lv_has ls 3 [(1, .int 0), (0, .ref mo)] := hl
  refine lv_iconst (pc := 17) (v := 0) hx hb dM_start_17 (by decide) ?_
  refine lv_istore_n (pc := 18) hx hb dM_start_18 rfl hl (by decide) rfl (fun ls hl => ?_)
  have hl : lv_has ls 3 [(2, .int 0), (1, .int 0), (0, .ref mo)] := hl
  refine lpN (σ := (Nat → Int32) × (Heap) × (List Loc) × (Array Slot)) (fun z => W p l e _ s m _ below meth c z.2.1 z.2.2.1 0 0 _ (F0 m 19 z.2.2.2 [])) (fun i z => va_P (dC, dI) kCl [(mo, .inr (4, [.int 0, .int mr, .ref nw, .ref kp, .int 0, .int (-1), .ref mk, .ref co, .int 0, .int 0, .ref se])), (nw, .inl (cN, 25240, .inl z.1)), (kp, .inl (cK, 25240, .inl fk))] z.2.1 ∧ va_D A [(mo, .inr (4, [.int 0, .int mr, .ref nw, .ref kp, .int 0, .int (-1), .ref mk, .ref co, .int 0, .int 0, .ref se])), (nw, .inl (cN, 25240, .inl z.1)), (kp, .inl (cK, 25240, .inl fk))] ∧ va_S A s.heap z.2.1 z.2.2.1 ∧ lv_has z.2.2.2 3 [(2, .int (nI i)), (1, .int 0), (0, .ref mo)] ∧ (z.1 16 = 0)) 25240 ?_ ?_ 25240 0 (now0, H, _, ls) rfl ⟨hP, hD, hS, hl, (show now0 16 = 0 by decide)⟩
  · rintro ⟨g1, H, locs, ls⟩ ⟨hP, hD, hS, hl, hI⟩
    try dsimp only at hP hD hS hl hI ⊢
    have hP : va_P (dC, dI) kCl [(mo, .inr (4, [.int 0, .int mr, .ref nw, .ref kp, .int 0, .int (-1), .ref mk, .ref co, .int 0, .int 0, .ref se])), (nw, .inl (cN, 25240, .inl g1)), (kp, .inl (cK, 25240, .inl fk))] H := hP
    have hD : va_D A [(mo, .inr (4, [.int 0, .int mr, .ref nw, .ref kp, .int 0, .int (-1), .ref mk, .ref co, .int 0, .int 0, .ref se])), (nw, .inl (cN, 25240, .inl g1)), (kp, .inl (cK, 25240, .inl fk))] := hD
    have hl : lv_has ls 3 [(2, .int (nI 25240)), (1, .int 0), (0, .ref mo)] := hl
    refine lv_iload_n (pc := 19) hx hb dM_start_19 rfl (lv_at hl 0 rfl) ?_
    refine lv_sipush (pc := 20) (v := 25240) hx hb dM_start_20 (by decide) ?_
    refine lv_icmp_ge (pc := 23) (tgt := 44) hx hb dM_start_23 rfl (fun h1 => ?_) (fun h1 => absurd (show (25240 : Int32) ≤ nI 25240 by decide) h1)
    refine lv_iconst (pc := 44) (v := 0) hx hb dM_start_44 (by decide) ?_
    refine lv_istore_n (pc := 45) hx hb dM_start_45 rfl hl (by decide) rfl (fun ls hl => ?_)
    have hl : lv_has ls 3 [(2, .int 0), (1, .int 0), (0, .ref mo)] := hl
    refine lv_iload_n (pc := 46) hx hb dM_start_46 rfl (lv_at hl 0 rfl) ?_
    refine lv_aload_n (pc := 47) hx hb dM_start_47 rfl (lv_at hl 2 rfl) ?_
    refine va_get (D := (dC, dI)) (cl := kCl) (C := RM) (T := TM) (N := 11) (pc := 48) hx hb hts inM hown hK hP 0 rfl rfl 2 (by decide) (hts _ wd_158) (fun _ h9 => h9) rfl dM_start_48 ?_
    refine lv_bipush (pc := 51) (v := 16) hx hb dM_start_51 (by decide) ?_
    refine va_iald (D := (dC, dI)) (cl := kCl) (pc := 53) hx hb hK hP 1 0 rfl rfl (vp_in_lit 16 25240 (by decide)) dM_start_53 ?_
    refine W.eq (g2 := F0 m 54 ls [.int (g1 (16 : Int32).toNatClampNeg), .int 0]) rfl ?_
    refine lv_topi (fun z2 hz3 => ?_)
    obtain rfl : z2 = 0 := hz3.trans (hI)
    refine lv_icmp_ge (pc := 54) (tgt := 79) hx hb dM_start_54 rfl (fun h4 => ?_) (fun h4 => absurd h4 (by decide))
    refine lv_iload_n (pc := 79) hx hb dM_start_79 rfl (lv_at hl 1 rfl) ?_
    have hP9 := hP.sub (ws' := [(mo, .inr (4, [.int 0, .int mr, .ref nw, .ref kp, .int 0, .int (-1), .ref mk, .ref co, .int 0, .int 0, .ref se]))]) [0] rfl
    have hD9 := hD.sub (ws' := [(mo, .inr (4, [.int 0, .int mr, .ref nw, .ref kp, .int 0, .int (-1), .ref mk, .ref co, .int 0, .int 0, .ref se]))]) [0] (by decide) rfl
    have hK9 := hK.sub (tys' := []) [] rfl
    exact W.iret (pc := 80) hx hb hr (fun t ht hW => ⟨⟨_, (), rfl, rfl, by rw [ht]; exact hP9, va_K.moved hW.alike hK9, hD9⟩, hS.F ht⟩) hS.2.2 dM_start_80
  · rintro i ⟨g1, H, locs, ls⟩ hi ⟨hP, hD, hS, hl, hI⟩ ih
    try dsimp only at hP hD hS hl hI ⊢
    have hP : va_P (dC, dI) kCl [(mo, .inr (4, [.int 0, .int mr, .ref nw, .ref kp, .int 0, .int (-1), .ref mk, .ref co, .int 0, .int 0, .ref se])), (nw, .inl (cN, 25240, .inl g1)), (kp, .inl (cK, 25240, .inl fk))] H := hP
    have hD : va_D A [(mo, .inr (4, [.int 0, .int mr, .ref nw, .ref kp, .int 0, .int (-1), .ref mk, .ref co, .int 0, .int 0, .ref se])), (nw, .inl (cN, 25240, .inl g1)), (kp, .inl (cK, 25240, .inl fk))] := hD
    have hl : lv_has ls 3 [(2, .int (nI i)), (1, .int 0), (0, .ref mo)] := hl
    refine lv_iload_n (pc := 19) hx hb dM_start_19 rfl (lv_at hl 0 rfl) ?_
    refine lv_sipush (pc := 20) (v := 25240) hx hb dM_start_20 (by decide) ?_
    refine lv_icmp_ge (pc := 23) (tgt := 44) hx hb dM_start_23 rfl (fun h5 => absurd h5 (nI_ge (a := i) (b := 25240) hi (by decide))) (fun h5 => ?_)
    refine lv_aload_n (pc := 26) hx hb dM_start_26 rfl (lv_at hl 2 rfl) ?_
    refine va_get (D := (dC, dI)) (cl := kCl) (C := RM) (T := TM) (N := 11) (pc := 27) hx hb hts inM hown hK hP 0 rfl rfl 2 (by decide) (hts _ wd_158) (fun _ h9 => h9) rfl dM_start_27 ?_
    refine lv_iload_n (pc := 30) hx hb dM_start_30 rfl (lv_at hl 0 rfl) ?_
    refine lv_aload_n (pc := 31) hx hb dM_start_31 rfl (lv_at hl 2 rfl) ?_
    refine va_get (D := (dC, dI)) (cl := kCl) (C := RM) (T := TM) (N := 11) (pc := 32) hx hb hts inM hown hK hP 0 rfl rfl 3 (by decide) (hts _ wd_204) (fun _ h9 => h9) rfl dM_start_32 ?_
    refine lv_iload_n (pc := 35) hx hb dM_start_35 rfl (lv_at hl 0 rfl) ?_
    refine va_iald (D := (dC, dI)) (cl := kCl) (pc := 36) hx hb hK hP 2 1 rfl rfl (vp_in_nI (show i < 25240 by omega) (by decide)) dM_start_36 ?_
    refine W.eq (g2 := F0 m 37 ls [.int (fk ((nI i) : Int32).toNatClampNeg), .int (nI i), .ref nw]) rfl ?_
    refine va_iast (D := (dC, dI)) (cl := kCl) (pc := 37) hx hb hK hP hD hS 1 0 rfl rfl (vp_in_nI (show i < 25240 by omega) (by decide)) dM_start_37 (fun H locs hP hD hS => ?_)
    have hP : va_P (dC, dI) kCl [(mo, .inr (4, [.int 0, .int mr, .ref nw, .ref kp, .int 0, .int (-1), .ref mk, .ref co, .int 0, .int 0, .ref se])), (nw, .inl (cN, 25240, .inl (upd g1 ((nI i) : Int32).toNatClampNeg (fk ((nI i) : Int32).toNatClampNeg)))), (kp, .inl (cK, 25240, .inl fk))] H := hP
    have hD : va_D A [(mo, .inr (4, [.int 0, .int mr, .ref nw, .ref kp, .int 0, .int (-1), .ref mk, .ref co, .int 0, .int 0, .ref se])), (nw, .inl (cN, 25240, .inl (upd g1 ((nI i) : Int32).toNatClampNeg (fk ((nI i) : Int32).toNatClampNeg)))), (kp, .inl (cK, 25240, .inl fk))] := hD
    refine lv_iinc (pc := 38) (v := (nI (i + 1))) hx hb dM_start_38 hl (k := 0) rfl (nI_1 _) (by decide) rfl (fun ls hl => ?_)
    have hl : lv_has ls 3 [(2, .int (nI (i + 1))), (1, .int 0), (0, .ref mo)] := hl
    refine lv_goto (pc := 41) (tgt := 19) hx hb dM_start_41 rfl ?_
    have hl := lv_sub hl (l' := [(2, .int (nI (i + 1))), (1, .int 0), (0, .ref mo)]) [0, 1, 2] rfl
    exact ih (_, H, _, ls) ⟨hP, hD, hS, hl, start_step hi hk hI⟩
set_option maxHeartbeats 4000000 in
set_option maxRecDepth 100000 in
theorem m_contentAt (l : Launch) (dC : Nat → ClassId) (dI : Nat → Nat → Nat) (mo : Nat) (nw : Nat) (kp : Nat) (mk : Nat) (co : Nat) (se : Nat) (th : Int32) (mr : Int32) (cN : ClassId) (kk : Int32) : Met l yM_contentAt (.code yM_contentAt cM_contentAt 3 (some .int) :: aw) ({ frames := 2, cells := 0, slots := 0, locals := 43 }) (pR (dC, dI) [(mo, .inr (4, [.int th, .int mr, .ref nw, .ref kp, .int 0, .int (-1), .ref mk, .ref co, .int 0, .int 0, .ref se])), (nw, .inl (cN, 25240, .inl now0))] [(cN, .int)] [.ref mo, .int kk]) (vp_Si (fun r => r = (-1))) 0 0 (fun _ => False) := by
  refine Met.ofW (cc := cM_contentAt) (maxL := 3) (ret := (some .int)) (by decide) rfl ?_
  intro p e s m args below meth c s₁ B hml hv
  obtain ⟨rfl, hv⟩ := hv
  have hx := B.exec
  have hb := B.bytes
  have hr := B.returns
  have hts : ∀ w ∈ aw, w.before _ s = true := fun w h => atoms_spec (ws := (.code yM_contentAt cM_contentAt 3 (some .int) :: aw)) B.pre w (List.mem_cons_of_mem _ h)
  have hown : s.vm.findClass RM = some m.cls := findClass_of_methodNamed B.named
  have hlocks := B.notSynchronized
  obtain ⟨hP, hK⟩ := hv
  obtain ⟨H, hH⟩ : ∃ H, H = s.heap := ⟨_, rfl⟩
  rw [← hH] at hP ⊢
  have hl := lv_entry ([.ref mo, .int kk]) (n := 3) (Nat.le_of_ble_eq_true rfl)
  rw [lg_entry_eq]
  generalize (lg_sl ([.ref mo, .int kk]) ++ List.replicate (3 - (lg_sl ([.ref mo, .int kk])).length) Slot.unset).toArray = ls at hl ⊢
  have hl : lv_has ls 3 [(0, .ref mo), (1, .int kk)] := hl
  refine lv_iload_n (pc := 0) hx hb dM_contentAt_0 rfl (lv_at hl 1 rfl) ?_
  refine lv_bipush (pc := 1) (v := 24) hx hb dM_contentAt_1 (by decide) ?_
  refine lv_icmp_ge (pc := 3) (tgt := 32) hx hb dM_contentAt_3 rfl (fun h1 => ?_) (fun h1 => ?_)
  · refine lv_iload_n (pc := 32) hx hb dM_contentAt_32 rfl (lv_at hl 1 rfl) ?_
    refine lv_bipush (pc := 33) (v := 24) hx hb dM_contentAt_33 (by decide) ?_
    refine lv_isub (pc := 35) hx hb dM_contentAt_35 ?_
    refine lv_istore_n (pc := 36) hx hb dM_contentAt_36 rfl hl (by decide) rfl (fun ls hl => ?_)
    have hl : lv_has ls 3 [(2, .int (kk - 24)), (0, .ref mo), (1, .int kk)] := hl
    refine lv_aload_n (pc := 37) hx hb dM_contentAt_37 rfl (lv_at hl 1 rfl) ?_
    refine lv_iload_n (pc := 38) hx hb dM_contentAt_38 rfl (lv_at hl 0 rfl) ?_
    refine lv_bipush (pc := 39) (v := 12) hx hb dM_contentAt_39 (by decide) ?_
    refine lv_idiv (pc := 41) hx hb dM_contentAt_41 (by decide) ?_
    refine lv_iload_n (pc := 42) hx hb dM_contentAt_42 rfl (lv_at hl 0 rfl) ?_
    refine lv_bipush (pc := 43) (v := 12) hx hb dM_contentAt_43 (by decide) ?_
    refine lv_irem (pc := 45) hx hb dM_contentAt_45 (by decide) ?_
    refine vp_callSi (pc := 46) (W.runV (As := [.int ((kk - 24) / 12), .int ((kk - 24) - (kk - 24) / 12 * 12)]) (rest := []) ⟨hx, hb, hml, hown, hts⟩ (m_isRevision l dC dI mo nw kp mk co se th mr cN ((kk - 24) / 12) ((kk - 24) - (kk - 24) / 12 * 12)) (cwV 2 hts (gV wd_173 wd_174 wd_175 wd_157 wd_172) rfl rfl rfl (by decide +kernel) ⟨Nat.le_of_ble_eq_true rfl, Nat.le_of_ble_eq_true rfl⟩) ⟨pR_blind, va_recv (q := (RM, TM, 11)) (q0 := 0) (ci := 4) hK hP rfl rfl, pR_pre (hP.sub (ws' := [(mo, .inr (4, [.int th, .int mr, .ref nw, .ref kp, .int 0, .int (-1), .ref mk, .ref co, .int 0, .int 0, .ref se])), (nw, .inl (cN, 25240, .inl now0))]) [0, 1] rfl) (hK.sub (tys' := [(cN, .int)]) [0] rfl)⟩ rfl rfl hl.1 rfl (lv_room (Nat.le_of_ble_eq_true rfl)) dM_contentAt_46 ⟨Nat.le_of_ble_eq_true rfl, Nat.le_of_ble_eq_true rfl⟩) (fun r2 hr3 => ?_)
    obtain rfl : r2 = 0 := hr3
    refine lv_if_eq (pc := 49) (tgt := 67) hx hb dM_contentAt_49 rfl (fun h4 => ?_) (fun h4 => absurd h4 (by decide))
    refine lv_iconst (pc := 67) (v := (-1)) hx hb dM_contentAt_67 (by decide) ?_
    exact W.iret (pc := 68) hx hb hr (fun t ht hW => ⟨_, rfl, rfl, ht.trans hH⟩) (fun q h => nomatch h) dM_contentAt_68
  · refine lv_aload_n (pc := 6) hx hb dM_contentAt_6 rfl (lv_at hl 0 rfl) ?_
    refine lv_iload_n (pc := 7) hx hb dM_contentAt_7 rfl (lv_at hl 1 rfl) ?_
    refine vp_callSi (pc := 8) (W.runV (As := [.int kk]) (rest := []) ⟨hx, hb, hml, hown, hts⟩ (m_isDrawing l dC dI mo nw kp mk co se th mr cN kk) (cwV 1 hts (gV wd_160 wd_161 wd_162 wd_157 wd_159) rfl rfl rfl (by decide +kernel) ⟨Nat.le_of_ble_eq_true rfl, Nat.le_of_ble_eq_true rfl⟩) ⟨pR_blind, va_recv (q := (RM, TM, 11)) (q0 := 0) (ci := 4) hK hP rfl rfl, pR_pre (hP.sub (ws' := [(mo, .inr (4, [.int th, .int mr, .ref nw, .ref kp, .int 0, .int (-1), .ref mk, .ref co, .int 0, .int 0, .ref se])), (nw, .inl (cN, 25240, .inl now0))]) [0, 1] rfl) (hK.sub (tys' := [(cN, .int)]) [0] rfl)⟩ rfl rfl hl.1 rfl (lv_room (Nat.le_of_ble_eq_true rfl)) dM_contentAt_8 ⟨Nat.le_of_ble_eq_true rfl, Nat.le_of_ble_eq_true rfl⟩) (fun r5 hr6 => ?_)
    obtain rfl : r5 = 0 := hr6
    refine lv_if_eq (pc := 11) (tgt := 30) hx hb dM_contentAt_11 rfl (fun h7 => ?_) (fun h7 => absurd h7 (by decide))
    refine lv_iconst (pc := 30) (v := (-1)) hx hb dM_contentAt_30 (by decide) ?_
    exact W.iret (pc := 31) hx hb hr (fun t ht hW => ⟨_, rfl, rfl, ht.trans hH⟩) (fun q h => nomatch h) dM_contentAt_31
set_option maxHeartbeats 4000000 in
set_option maxRecDepth 100000 in
theorem m_chunks (l : Launch) (dC : Nat → ClassId) (dI : Nat → Nat → Nat) (mo : Nat) (nw : Nat) (kp : Nat) (mk : Nat) (co : Nat) (se : Nat) (th : Int32) (mr : Int32) (cN : ClassId) : Met l yM_chunks (.code yM_chunks cM_chunks 9 (some .int) :: aw) ({ frames := 3, cells := 0, slots := 0, locals := 65 }) (pR (dC, dI) [(mo, .inr (4, [.int th, .int mr, .ref nw, .ref kp, .int 0, .int (-1), .ref mk, .ref co, .int 0, .int 0, .ref se])), (nw, .inl (cN, 25240, .inl now0))] [(cN, .int)] [.ref mo, .int 0]) (vp_Si (fun r => r = 0)) 0 0 (fun _ => False) := by
  refine Met.ofW (cc := cM_chunks) (maxL := 9) (ret := (some .int)) (by decide) rfl ?_
  intro p e s m args below meth c s₁ B hml hv
  obtain ⟨rfl, hv⟩ := hv
  have hx := B.exec
  have hb := B.bytes
  have hr := B.returns
  have hts : ∀ w ∈ aw, w.before _ s = true := fun w h => atoms_spec (ws := (.code yM_chunks cM_chunks 9 (some .int) :: aw)) B.pre w (List.mem_cons_of_mem _ h)
  have hown : s.vm.findClass RM = some m.cls := findClass_of_methodNamed B.named
  have hlocks := B.notSynchronized
  obtain ⟨hP, hK⟩ := hv
  obtain ⟨H, hH⟩ : ∃ H, H = s.heap := ⟨_, rfl⟩
  rw [← hH] at hP ⊢
  have hl := lv_entry ([.ref mo, .int 0]) (n := 9) (Nat.le_of_ble_eq_true rfl)
  rw [lg_entry_eq]
  generalize (lg_sl ([.ref mo, .int 0]) ++ List.replicate (9 - (lg_sl ([.ref mo, .int 0])).length) Slot.unset).toArray = ls at hl ⊢
  have hl : lv_has ls 9 [(0, .ref mo), (1, .int 0)] := hl
  refine lv_iconst (pc := 0) (v := 0) hx hb dM_chunks_0 (by decide) ?_
  refine lv_istore_n (pc := 1) hx hb dM_chunks_1 rfl hl (by decide) rfl (fun ls hl => ?_)
  have hl : lv_has ls 9 [(2, .int 0), (0, .ref mo), (1, .int 0)] := hl
  refine lv_iload_n (pc := 2) hx hb dM_chunks_2 rfl (lv_at hl 2 rfl) ?_
  refine lv_istore_n (pc := 3) hx hb dM_chunks_3 rfl hl (by decide) rfl (fun ls hl => ?_)
  have hl : lv_has ls 9 [(3, .int 0), (2, .int 0), (0, .ref mo), (1, .int 0)] := hl
  refine lpN (σ := (Array Slot)) (fun z => W p l e _ s m _ below meth c H ([]) 0 0 _ (F0 m 4 z [])) (fun i z => lv_has z 9 [(3, .int (nI i)), (2, .int 0), (0, .ref mo), (1, .int 0)]) 312 ?_ ?_ 312 0 ls rfl hl
  · rintro ls hl
    try dsimp only at hl ⊢
    have hl : lv_has ls 9 [(3, .int (nI 312)), (2, .int 0), (0, .ref mo), (1, .int 0)] := hl
    refine lv_iload_n (pc := 4) hx hb dM_chunks_4 rfl (lv_at hl 0 rfl) ?_
    refine lv_sipush (pc := 5) (v := 312) hx hb dM_chunks_5 (by decide) ?_
    refine lv_icmp_ge (pc := 8) (tgt := 165) hx hb dM_chunks_8 rfl (fun h1 => ?_) (fun h1 => absurd (show (312 : Int32) ≤ nI 312 by decide) h1)
    refine lv_iload_n (pc := 165) hx hb dM_chunks_165 rfl (lv_at hl 1 rfl) ?_
    exact W.iret (pc := 166) hx hb hr (fun t ht hW => ⟨_, rfl, rfl, ht.trans hH⟩) (fun q h => nomatch h) dM_chunks_166
  · rintro i ls hi hl ih
    try dsimp only at hl ⊢
    have hl : lv_has ls 9 [(3, .int (nI i)), (2, .int 0), (0, .ref mo), (1, .int 0)] := hl
    refine lv_iload_n (pc := 4) hx hb dM_chunks_4 rfl (lv_at hl 0 rfl) ?_
    refine lv_sipush (pc := 5) (v := 312) hx hb dM_chunks_5 (by decide) ?_
    refine lv_icmp_ge (pc := 8) (tgt := 165) hx hb dM_chunks_8 rfl (fun h2 => absurd h2 (nI_ge (a := i) (b := 312) hi (by decide))) (fun h2 => ?_)
    refine lv_aload_n (pc := 11) hx hb dM_chunks_11 rfl (lv_at hl 2 rfl) ?_
    refine lv_iload_n (pc := 12) hx hb dM_chunks_12 rfl (lv_at hl 0 rfl) ?_
    refine vp_callSi (pc := 13) (W.runV (As := [.int (nI i)]) (rest := []) ⟨hx, hb, hml, hown, hts⟩ (m_contentAt l dC dI mo nw kp mk co se th mr cN (nI i)) (cwV 1 hts (gV wd_214 wd_215 wd_216 wd_157 wd_213) rfl rfl rfl (by decide +kernel) ⟨Nat.le_of_ble_eq_true rfl, Nat.le_of_ble_eq_true rfl⟩) ⟨pR_blind, va_recv (q := (RM, TM, 11)) (q0 := 0) (ci := 4) hK hP rfl rfl, pR_pre (hP.sub (ws' := [(mo, .inr (4, [.int th, .int mr, .ref nw, .ref kp, .int 0, .int (-1), .ref mk, .ref co, .int 0, .int 0, .ref se])), (nw, .inl (cN, 25240, .inl now0))]) [0, 1] rfl) (hK.sub (tys' := [(cN, .int)]) [0] rfl)⟩ rfl rfl hl.1 rfl (lv_room (Nat.le_of_ble_eq_true rfl)) dM_chunks_13 ⟨Nat.le_of_ble_eq_true rfl, Nat.le_of_ble_eq_true rfl⟩) (fun r3 hr4 => ?_)
    obtain rfl : r3 = (-1) := hr4
    refine lv_istore (pc := 16) hx hb dM_chunks_16 hl (by decide) rfl (fun ls hl => ?_)
    have hl : lv_has ls 9 [(4, .int (-1)), (3, .int (nI i)), (2, .int 0), (0, .ref mo), (1, .int 0)] := hl
    refine lv_iconst (pc := 18) (v := 0) hx hb dM_chunks_18 (by decide) ?_
    refine lv_istore (pc := 19) hx hb dM_chunks_19 hl (by decide) rfl (fun ls hl => ?_)
    have hl : lv_has ls 9 [(5, .int 0), (4, .int (-1)), (3, .int (nI i)), (2, .int 0), (0, .ref mo), (1, .int 0)] := hl
    refine lv_iload (pc := 21) hx hb dM_chunks_21 (lv_at hl 1 rfl) ?_
    refine lv_if_lt (pc := 23) (tgt := 159) hx hb dM_chunks_23 rfl (fun h5 => ?_) (fun h5 => absurd h5 (by decide))
    refine lv_iinc (pc := 159) (v := (nI (i + 1))) hx hb dM_chunks_159 hl (k := 2) rfl (nI_1 _) (by decide) rfl (fun ls hl => ?_)
    have hl : lv_has ls 9 [(3, .int (nI (i + 1))), (5, .int 0), (4, .int (-1)), (2, .int 0), (0, .ref mo), (1, .int 0)] := hl
    refine lv_goto (pc := 162) (tgt := 4) hx hb dM_chunks_162 rfl ?_
    have hl := lv_sub hl (l' := [(3, .int (nI (i + 1))), (2, .int 0), (0, .ref mo), (1, .int 0)]) [0, 3, 4, 5] rfl
    exact ih ls hl
set_option maxHeartbeats 4000000 in
set_option maxRecDepth 100000 in
theorem m_count (l : Launch) (dC : Nat → ClassId) (dI : Nat → Nat → Nat) (sz : Nat) (mo : Nat) (nw : Nat) (kp : Nat) (mk : Nat) (co : Nat) (se : Nat) (th : Int32) (mr : Int32) (cN : ClassId) (ww : Int32) : Met l yM_count (.code yM_count cM_count 4 (some .int) :: aw) ({ frames := 4, cells := 0, slots := 0, locals := 93 }) (pW (dC, dI) sz [(mo, .inr (4, [.int th, .int mr, .ref nw, .ref kp, .int 0, .int (-1), .ref mk, .ref co, .int 0, .int 0, .ref se])), (nw, .inl (cN, 25240, .inl now0))] [(cN, .int)] [.ref mo, .int ww]) (va_Qi (fun r (_ : Unit) => r = (cnt0 ww)) (fun _ t => wW (dC, dI) (va_A [(mo, .inr (4, [.int th, .int mr, .ref nw, .ref kp, .int 0, .int (-1), .ref mk, .ref co, .int 0, .int 0, .ref se])), (nw, .inl (cN, 25240, .inl now0))] sz) [(mo, .inr (4, [.int 0, .int mr, .ref nw, .ref kp, .int 0, .int (-1), .ref mk, .ref co, .int 0, .int 0, .ref se]))] [] t) (va_A [(mo, .inr (4, [.int th, .int mr, .ref nw, .ref kp, .int 0, .int (-1), .ref mk, .ref co, .int 0, .int 0, .ref se])), (nw, .inl (cN, 25240, .inl now0))] sz)) 0 0 (va_A [(mo, .inr (4, [.int th, .int mr, .ref nw, .ref kp, .int 0, .int (-1), .ref mk, .ref co, .int 0, .int 0, .ref se])), (nw, .inl (cN, 25240, .inl now0))] sz) := by
  refine Met.ofW (cc := cM_count) (maxL := 4) (ret := (some .int)) (by decide) rfl ?_
  intro p e s m args below meth c s₁ B hml hv
  obtain ⟨rfl, hv⟩ := hv
  have hx := B.exec
  have hb := B.bytes
  have hr := B.returns
  have hts : ∀ w ∈ aw, w.before _ s = true := fun w h => atoms_spec (ws := (.code yM_count cM_count 4 (some .int) :: aw)) B.pre w (List.mem_cons_of_mem _ h)
  have hown : s.vm.findClass RM = some m.cls := findClass_of_methodNamed B.named
  have hlocks := B.notSynchronized
  obtain ⟨hsz, hP, hK, hD0⟩ := hv
  subst hsz
  have hD := hD0.self (sz := s.heap.size)
  generalize hAe : va_A [(mo, .inr (4, [.int th, .int mr, .ref nw, .ref kp, .int 0, .int (-1), .ref mk, .ref co, .int 0, .int 0, .ref se])), (nw, .inl (cN, 25240, .inl now0))] s.heap.size = A at hD ⊢
  have hA : ∀ q : Nat, s.heap.size ≤ q → A q := fun q h => by rw [← hAe]; exact Or.inr h
  obtain ⟨H, hH⟩ : ∃ H, H = s.heap := ⟨_, rfl⟩
  have hS : va_S A s.heap H [] := by rw [hH]; exact va_S.rf
  rw [← hH] at hP ⊢
  have hP : va_P (dC, dI) kCl [(mo, .inr (4, [.int th, .int mr, .ref nw, .ref kp, .int 0, .int (-1), .ref mk, .ref co, .int 0, .int 0, .ref se])), (nw, .inl (cN, 25240, .inl now0))] H := hP
  have hl := lv_entry ([.ref mo, .int ww]) (n := 4) (Nat.le_of_ble_eq_true rfl)
  rw [lg_entry_eq]
  generalize (lg_sl ([.ref mo, .int ww]) ++ List.replicate (4 - (lg_sl ([.ref mo, .int ww])).length) Slot.unset).toArray = ls at hl ⊢
  have hl : lv_has ls 4 [(0, .ref mo), (1, .int ww)] := hl
  refine lv_aload_n (pc := 0) hx hb dM_count_0 rfl (lv_at hl 0 rfl) ?_
  refine lv_iconst (pc := 1) (v := 0) hx hb dM_count_1 (by decide) ?_
  refine va_put (D := (dC, dI)) (cl := kCl) (ci := 4) (v := .int 0) (ty := .int) (C := RM) (T := TM) (N := 11) (pc := 2) hx hb hts inM tyM tyM_ok nmM hown hK hP hD hS 0 rfl rfl 0 (by decide) (hts _ wd_152) (fun _ h9 => h9) rfl (by decide +kernel) rfl rfl (Nat.le_of_ble_eq_true rfl) dM_count_2 (fun H locs hP hD hS => ?_)
  have hP : va_P (dC, dI) kCl [(mo, .inr (4, [.int 0, .int mr, .ref nw, .ref kp, .int 0, .int (-1), .ref mk, .ref co, .int 0, .int 0, .ref se])), (nw, .inl (cN, 25240, .inl now0))] H := hP
  have hD : va_D A [(mo, .inr (4, [.int 0, .int mr, .ref nw, .ref kp, .int 0, .int (-1), .ref mk, .ref co, .int 0, .int 0, .ref se])), (nw, .inl (cN, 25240, .inl now0))] := hD
  refine lv_iconst (pc := 5) (v := 0) hx hb dM_count_5 (by decide) ?_
  refine lv_istore_n (pc := 6) hx hb dM_count_6 rfl hl (by decide) rfl (fun ls hl => ?_)
  have hl : lv_has ls 4 [(2, .int 0), (0, .ref mo), (1, .int ww)] := hl
  refine lv_iconst (pc := 7) (v := 0) hx hb dM_count_7 (by decide) ?_
  refine lv_istore_n (pc := 8) hx hb dM_count_8 rfl hl (by decide) rfl (fun ls hl => ?_)
  have hl : lv_has ls 4 [(3, .int 0), (2, .int 0), (0, .ref mo), (1, .int ww)] := hl
  refine lv_iload_n (pc := 9) hx hb dM_count_9 rfl (lv_at hl 0 rfl) ?_
  refine lv_bipush (pc := 10) (v := 10) hx hb dM_count_10 (by decide) ?_
  refine lv_icmp_ge (pc := 12) (tgt := 34) hx hb dM_count_12 rfl (fun h1 => absurd h1 (by decide)) (fun h1 => ?_)
  refine lv_iload_n (pc := 15) hx hb dM_count_15 rfl (lv_at hl 1 rfl) ?_
  refine lv_aload_n (pc := 16) hx hb dM_count_16 rfl (lv_at hl 2 rfl) ?_
  refine va_get (D := (dC, dI)) (cl := kCl) (C := RM) (T := TM) (N := 11) (pc := 17) hx hb hts inM hown hK hP 0 rfl rfl 2 (by decide) (hts _ wd_158) (fun _ h9 => h9) rfl dM_count_17 ?_
  refine lv_aload_n (pc := 20) hx hb dM_count_20 rfl (lv_at hl 2 rfl) ?_
  refine lv_iload_n (pc := 21) hx hb dM_count_21 rfl (lv_at hl 0 rfl) ?_
  refine vp_callSi (pc := 22) (W.runV (As := [.int 0]) (rest := [.ref nw, .int 0]) ⟨hx, hb, hml, hown, hts⟩ (m_baselineAt l dC dI mo nw kp mk co se 0 mr 0) (cwV 1 hts (gV wd_197 wd_198 wd_199 wd_157 wd_196) rfl rfl rfl (by decide +kernel) ⟨Nat.le_of_ble_eq_true rfl, Nat.le_of_ble_eq_true rfl⟩) ⟨pR_blind, va_recv (q := (RM, TM, 11)) (q0 := 0) (ci := 4) hK hP rfl rfl, pR_pre (hP.sub (ws' := [(mo, .inr (4, [.int 0, .int mr, .ref nw, .ref kp, .int 0, .int (-1), .ref mk, .ref co, .int 0, .int 0, .ref se]))]) [0] rfl) (hK.sub (tys' := []) [] rfl)⟩ rfl rfl hl.1 rfl (lv_room (Nat.le_of_ble_eq_true rfl)) dM_count_22 ⟨Nat.le_of_ble_eq_true rfl, Nat.le_of_ble_eq_true rfl⟩) (fun r2 hr3 => ?_)
  obtain rfl : r2 = 24980 := Eq.trans (hr3) (by decide)
  refine va_iald (D := (dC, dI)) (cl := kCl) (pc := 25) hx hb hK hP 1 0 rfl rfl (vp_in_lit 24980 25240 (by decide)) dM_count_25 ?_
  refine W.eq (g2 := F0 m 26 ls [.int 0, .int 0]) rfl ?_
  refine lv_iadd (pc := 26) hx hb dM_count_26 ?_
  refine lv_topi (fun z4 hz5 => ?_)
  obtain rfl : z4 = 0 := hz5.trans (by decide)
  refine lv_istore_n (pc := 27) hx hb dM_count_27 rfl hl (by decide) rfl (fun ls hl => ?_)
  have hl : lv_has ls 4 [(2, .int 0), (3, .int 0), (0, .ref mo), (1, .int ww)] := hl
  refine lv_iinc (pc := 28) (v := 1) hx hb dM_count_28 hl (k := 1) rfl (by decide) (by decide) rfl (fun ls hl => ?_)
  have hl : lv_has ls 4 [(3, .int 1), (2, .int 0), (0, .ref mo), (1, .int ww)] := hl
  refine lv_goto (pc := 31) (tgt := 9) hx hb dM_count_31 rfl ?_
  refine lv_iload_n (pc := 9) hx hb dM_count_9 rfl (lv_at hl 0 rfl) ?_
  refine lv_bipush (pc := 10) (v := 10) hx hb dM_count_10 (by decide) ?_
  refine lv_icmp_ge (pc := 12) (tgt := 34) hx hb dM_count_12 rfl (fun h6 => absurd h6 (by decide)) (fun h6 => ?_)
  refine lv_iload_n (pc := 15) hx hb dM_count_15 rfl (lv_at hl 1 rfl) ?_
  refine lv_aload_n (pc := 16) hx hb dM_count_16 rfl (lv_at hl 2 rfl) ?_
  refine va_get (D := (dC, dI)) (cl := kCl) (C := RM) (T := TM) (N := 11) (pc := 17) hx hb hts inM hown hK hP 0 rfl rfl 2 (by decide) (hts _ wd_158) (fun _ h9 => h9) rfl dM_count_17 ?_
  refine lv_aload_n (pc := 20) hx hb dM_count_20 rfl (lv_at hl 2 rfl) ?_
  refine lv_iload_n (pc := 21) hx hb dM_count_21 rfl (lv_at hl 0 rfl) ?_
  refine vp_callSi (pc := 22) (W.runV (As := [.int 1]) (rest := [.ref nw, .int 0]) ⟨hx, hb, hml, hown, hts⟩ (m_baselineAt l dC dI mo nw kp mk co se 0 mr 1) (cwV 1 hts (gV wd_197 wd_198 wd_199 wd_157 wd_196) rfl rfl rfl (by decide +kernel) ⟨Nat.le_of_ble_eq_true rfl, Nat.le_of_ble_eq_true rfl⟩) ⟨pR_blind, va_recv (q := (RM, TM, 11)) (q0 := 0) (ci := 4) hK hP rfl rfl, pR_pre (hP.sub (ws' := [(mo, .inr (4, [.int 0, .int mr, .ref nw, .ref kp, .int 0, .int (-1), .ref mk, .ref co, .int 0, .int 0, .ref se]))]) [0] rfl) (hK.sub (tys' := []) [] rfl)⟩ rfl rfl hl.1 rfl (lv_room (Nat.le_of_ble_eq_true rfl)) dM_count_22 ⟨Nat.le_of_ble_eq_true rfl, Nat.le_of_ble_eq_true rfl⟩) (fun r7 hr8 => ?_)
  obtain rfl : r7 = 25006 := Eq.trans (hr8) (by decide)
  refine va_iald (D := (dC, dI)) (cl := kCl) (pc := 25) hx hb hK hP 1 0 rfl rfl (vp_in_lit 25006 25240 (by decide)) dM_count_25 ?_
  refine W.eq (g2 := F0 m 26 ls [.int 0, .int 0]) rfl ?_
  refine lv_iadd (pc := 26) hx hb dM_count_26 ?_
  refine lv_topi (fun z9 hz10 => ?_)
  obtain rfl : z9 = 0 := hz10.trans (by decide)
  refine lv_istore_n (pc := 27) hx hb dM_count_27 rfl hl (by decide) rfl (fun ls hl => ?_)
  have hl : lv_has ls 4 [(2, .int 0), (3, .int 1), (0, .ref mo), (1, .int ww)] := hl
  refine lv_iinc (pc := 28) (v := 2) hx hb dM_count_28 hl (k := 1) rfl (by decide) (by decide) rfl (fun ls hl => ?_)
  have hl : lv_has ls 4 [(3, .int 2), (2, .int 0), (0, .ref mo), (1, .int ww)] := hl
  refine lv_goto (pc := 31) (tgt := 9) hx hb dM_count_31 rfl ?_
  refine lv_iload_n (pc := 9) hx hb dM_count_9 rfl (lv_at hl 0 rfl) ?_
  refine lv_bipush (pc := 10) (v := 10) hx hb dM_count_10 (by decide) ?_
  refine lv_icmp_ge (pc := 12) (tgt := 34) hx hb dM_count_12 rfl (fun h11 => absurd h11 (by decide)) (fun h11 => ?_)
  refine lv_iload_n (pc := 15) hx hb dM_count_15 rfl (lv_at hl 1 rfl) ?_
  refine lv_aload_n (pc := 16) hx hb dM_count_16 rfl (lv_at hl 2 rfl) ?_
  refine va_get (D := (dC, dI)) (cl := kCl) (C := RM) (T := TM) (N := 11) (pc := 17) hx hb hts inM hown hK hP 0 rfl rfl 2 (by decide) (hts _ wd_158) (fun _ h9 => h9) rfl dM_count_17 ?_
  refine lv_aload_n (pc := 20) hx hb dM_count_20 rfl (lv_at hl 2 rfl) ?_
  refine lv_iload_n (pc := 21) hx hb dM_count_21 rfl (lv_at hl 0 rfl) ?_
  refine vp_callSi (pc := 22) (W.runV (As := [.int 2]) (rest := [.ref nw, .int 0]) ⟨hx, hb, hml, hown, hts⟩ (m_baselineAt l dC dI mo nw kp mk co se 0 mr 2) (cwV 1 hts (gV wd_197 wd_198 wd_199 wd_157 wd_196) rfl rfl rfl (by decide +kernel) ⟨Nat.le_of_ble_eq_true rfl, Nat.le_of_ble_eq_true rfl⟩) ⟨pR_blind, va_recv (q := (RM, TM, 11)) (q0 := 0) (ci := 4) hK hP rfl rfl, pR_pre (hP.sub (ws' := [(mo, .inr (4, [.int 0, .int mr, .ref nw, .ref kp, .int 0, .int (-1), .ref mk, .ref co, .int 0, .int 0, .ref se]))]) [0] rfl) (hK.sub (tys' := []) [] rfl)⟩ rfl rfl hl.1 rfl (lv_room (Nat.le_of_ble_eq_true rfl)) dM_count_22 ⟨Nat.le_of_ble_eq_true rfl, Nat.le_of_ble_eq_true rfl⟩) (fun r12 hr13 => ?_)
  obtain rfl : r12 = 25032 := Eq.trans (hr13) (by decide)
  refine va_iald (D := (dC, dI)) (cl := kCl) (pc := 25) hx hb hK hP 1 0 rfl rfl (vp_in_lit 25032 25240 (by decide)) dM_count_25 ?_
  refine W.eq (g2 := F0 m 26 ls [.int 0, .int 0]) rfl ?_
  refine lv_iadd (pc := 26) hx hb dM_count_26 ?_
  refine lv_topi (fun z14 hz15 => ?_)
  obtain rfl : z14 = 0 := hz15.trans (by decide)
  refine lv_istore_n (pc := 27) hx hb dM_count_27 rfl hl (by decide) rfl (fun ls hl => ?_)
  have hl : lv_has ls 4 [(2, .int 0), (3, .int 2), (0, .ref mo), (1, .int ww)] := hl
  refine lv_iinc (pc := 28) (v := 3) hx hb dM_count_28 hl (k := 1) rfl (by decide) (by decide) rfl (fun ls hl => ?_)
  have hl : lv_has ls 4 [(3, .int 3), (2, .int 0), (0, .ref mo), (1, .int ww)] := hl
  refine lv_goto (pc := 31) (tgt := 9) hx hb dM_count_31 rfl ?_
  refine lv_iload_n (pc := 9) hx hb dM_count_9 rfl (lv_at hl 0 rfl) ?_
  refine lv_bipush (pc := 10) (v := 10) hx hb dM_count_10 (by decide) ?_
  refine lv_icmp_ge (pc := 12) (tgt := 34) hx hb dM_count_12 rfl (fun h16 => absurd h16 (by decide)) (fun h16 => ?_)
  refine lv_iload_n (pc := 15) hx hb dM_count_15 rfl (lv_at hl 1 rfl) ?_
  refine lv_aload_n (pc := 16) hx hb dM_count_16 rfl (lv_at hl 2 rfl) ?_
  refine va_get (D := (dC, dI)) (cl := kCl) (C := RM) (T := TM) (N := 11) (pc := 17) hx hb hts inM hown hK hP 0 rfl rfl 2 (by decide) (hts _ wd_158) (fun _ h9 => h9) rfl dM_count_17 ?_
  refine lv_aload_n (pc := 20) hx hb dM_count_20 rfl (lv_at hl 2 rfl) ?_
  refine lv_iload_n (pc := 21) hx hb dM_count_21 rfl (lv_at hl 0 rfl) ?_
  refine vp_callSi (pc := 22) (W.runV (As := [.int 3]) (rest := [.ref nw, .int 0]) ⟨hx, hb, hml, hown, hts⟩ (m_baselineAt l dC dI mo nw kp mk co se 0 mr 3) (cwV 1 hts (gV wd_197 wd_198 wd_199 wd_157 wd_196) rfl rfl rfl (by decide +kernel) ⟨Nat.le_of_ble_eq_true rfl, Nat.le_of_ble_eq_true rfl⟩) ⟨pR_blind, va_recv (q := (RM, TM, 11)) (q0 := 0) (ci := 4) hK hP rfl rfl, pR_pre (hP.sub (ws' := [(mo, .inr (4, [.int 0, .int mr, .ref nw, .ref kp, .int 0, .int (-1), .ref mk, .ref co, .int 0, .int 0, .ref se]))]) [0] rfl) (hK.sub (tys' := []) [] rfl)⟩ rfl rfl hl.1 rfl (lv_room (Nat.le_of_ble_eq_true rfl)) dM_count_22 ⟨Nat.le_of_ble_eq_true rfl, Nat.le_of_ble_eq_true rfl⟩) (fun r17 hr18 => ?_)
  obtain rfl : r17 = 25058 := Eq.trans (hr18) (by decide)
  refine va_iald (D := (dC, dI)) (cl := kCl) (pc := 25) hx hb hK hP 1 0 rfl rfl (vp_in_lit 25058 25240 (by decide)) dM_count_25 ?_
  refine W.eq (g2 := F0 m 26 ls [.int 0, .int 0]) rfl ?_
  refine lv_iadd (pc := 26) hx hb dM_count_26 ?_
  refine lv_topi (fun z19 hz20 => ?_)
  obtain rfl : z19 = 0 := hz20.trans (by decide)
  refine lv_istore_n (pc := 27) hx hb dM_count_27 rfl hl (by decide) rfl (fun ls hl => ?_)
  have hl : lv_has ls 4 [(2, .int 0), (3, .int 3), (0, .ref mo), (1, .int ww)] := hl
  refine lv_iinc (pc := 28) (v := 4) hx hb dM_count_28 hl (k := 1) rfl (by decide) (by decide) rfl (fun ls hl => ?_)
  have hl : lv_has ls 4 [(3, .int 4), (2, .int 0), (0, .ref mo), (1, .int ww)] := hl
  refine lv_goto (pc := 31) (tgt := 9) hx hb dM_count_31 rfl ?_
  refine lv_iload_n (pc := 9) hx hb dM_count_9 rfl (lv_at hl 0 rfl) ?_
  refine lv_bipush (pc := 10) (v := 10) hx hb dM_count_10 (by decide) ?_
  refine lv_icmp_ge (pc := 12) (tgt := 34) hx hb dM_count_12 rfl (fun h21 => absurd h21 (by decide)) (fun h21 => ?_)
  refine lv_iload_n (pc := 15) hx hb dM_count_15 rfl (lv_at hl 1 rfl) ?_
  refine lv_aload_n (pc := 16) hx hb dM_count_16 rfl (lv_at hl 2 rfl) ?_
  refine va_get (D := (dC, dI)) (cl := kCl) (C := RM) (T := TM) (N := 11) (pc := 17) hx hb hts inM hown hK hP 0 rfl rfl 2 (by decide) (hts _ wd_158) (fun _ h9 => h9) rfl dM_count_17 ?_
  refine lv_aload_n (pc := 20) hx hb dM_count_20 rfl (lv_at hl 2 rfl) ?_
  refine lv_iload_n (pc := 21) hx hb dM_count_21 rfl (lv_at hl 0 rfl) ?_
  refine vp_callSi (pc := 22) (W.runV (As := [.int 4]) (rest := [.ref nw, .int 0]) ⟨hx, hb, hml, hown, hts⟩ (m_baselineAt l dC dI mo nw kp mk co se 0 mr 4) (cwV 1 hts (gV wd_197 wd_198 wd_199 wd_157 wd_196) rfl rfl rfl (by decide +kernel) ⟨Nat.le_of_ble_eq_true rfl, Nat.le_of_ble_eq_true rfl⟩) ⟨pR_blind, va_recv (q := (RM, TM, 11)) (q0 := 0) (ci := 4) hK hP rfl rfl, pR_pre (hP.sub (ws' := [(mo, .inr (4, [.int 0, .int mr, .ref nw, .ref kp, .int 0, .int (-1), .ref mk, .ref co, .int 0, .int 0, .ref se]))]) [0] rfl) (hK.sub (tys' := []) [] rfl)⟩ rfl rfl hl.1 rfl (lv_room (Nat.le_of_ble_eq_true rfl)) dM_count_22 ⟨Nat.le_of_ble_eq_true rfl, Nat.le_of_ble_eq_true rfl⟩) (fun r22 hr23 => ?_)
  obtain rfl : r22 = 25084 := Eq.trans (hr23) (by decide)
  refine va_iald (D := (dC, dI)) (cl := kCl) (pc := 25) hx hb hK hP 1 0 rfl rfl (vp_in_lit 25084 25240 (by decide)) dM_count_25 ?_
  refine W.eq (g2 := F0 m 26 ls [.int 0, .int 0]) rfl ?_
  refine lv_iadd (pc := 26) hx hb dM_count_26 ?_
  refine lv_topi (fun z24 hz25 => ?_)
  obtain rfl : z24 = 0 := hz25.trans (by decide)
  refine lv_istore_n (pc := 27) hx hb dM_count_27 rfl hl (by decide) rfl (fun ls hl => ?_)
  have hl : lv_has ls 4 [(2, .int 0), (3, .int 4), (0, .ref mo), (1, .int ww)] := hl
  refine lv_iinc (pc := 28) (v := 5) hx hb dM_count_28 hl (k := 1) rfl (by decide) (by decide) rfl (fun ls hl => ?_)
  have hl : lv_has ls 4 [(3, .int 5), (2, .int 0), (0, .ref mo), (1, .int ww)] := hl
  refine lv_goto (pc := 31) (tgt := 9) hx hb dM_count_31 rfl ?_
  refine lv_iload_n (pc := 9) hx hb dM_count_9 rfl (lv_at hl 0 rfl) ?_
  refine lv_bipush (pc := 10) (v := 10) hx hb dM_count_10 (by decide) ?_
  refine lv_icmp_ge (pc := 12) (tgt := 34) hx hb dM_count_12 rfl (fun h26 => absurd h26 (by decide)) (fun h26 => ?_)
  refine lv_iload_n (pc := 15) hx hb dM_count_15 rfl (lv_at hl 1 rfl) ?_
  refine lv_aload_n (pc := 16) hx hb dM_count_16 rfl (lv_at hl 2 rfl) ?_
  refine va_get (D := (dC, dI)) (cl := kCl) (C := RM) (T := TM) (N := 11) (pc := 17) hx hb hts inM hown hK hP 0 rfl rfl 2 (by decide) (hts _ wd_158) (fun _ h9 => h9) rfl dM_count_17 ?_
  refine lv_aload_n (pc := 20) hx hb dM_count_20 rfl (lv_at hl 2 rfl) ?_
  refine lv_iload_n (pc := 21) hx hb dM_count_21 rfl (lv_at hl 0 rfl) ?_
  refine vp_callSi (pc := 22) (W.runV (As := [.int 5]) (rest := [.ref nw, .int 0]) ⟨hx, hb, hml, hown, hts⟩ (m_baselineAt l dC dI mo nw kp mk co se 0 mr 5) (cwV 1 hts (gV wd_197 wd_198 wd_199 wd_157 wd_196) rfl rfl rfl (by decide +kernel) ⟨Nat.le_of_ble_eq_true rfl, Nat.le_of_ble_eq_true rfl⟩) ⟨pR_blind, va_recv (q := (RM, TM, 11)) (q0 := 0) (ci := 4) hK hP rfl rfl, pR_pre (hP.sub (ws' := [(mo, .inr (4, [.int 0, .int mr, .ref nw, .ref kp, .int 0, .int (-1), .ref mk, .ref co, .int 0, .int 0, .ref se]))]) [0] rfl) (hK.sub (tys' := []) [] rfl)⟩ rfl rfl hl.1 rfl (lv_room (Nat.le_of_ble_eq_true rfl)) dM_count_22 ⟨Nat.le_of_ble_eq_true rfl, Nat.le_of_ble_eq_true rfl⟩) (fun r27 hr28 => ?_)
  obtain rfl : r27 = 25110 := Eq.trans (hr28) (by decide)
  refine va_iald (D := (dC, dI)) (cl := kCl) (pc := 25) hx hb hK hP 1 0 rfl rfl (vp_in_lit 25110 25240 (by decide)) dM_count_25 ?_
  refine W.eq (g2 := F0 m 26 ls [.int 0, .int 0]) rfl ?_
  refine lv_iadd (pc := 26) hx hb dM_count_26 ?_
  refine lv_topi (fun z29 hz30 => ?_)
  obtain rfl : z29 = 0 := hz30.trans (by decide)
  refine lv_istore_n (pc := 27) hx hb dM_count_27 rfl hl (by decide) rfl (fun ls hl => ?_)
  have hl : lv_has ls 4 [(2, .int 0), (3, .int 5), (0, .ref mo), (1, .int ww)] := hl
  refine lv_iinc (pc := 28) (v := 6) hx hb dM_count_28 hl (k := 1) rfl (by decide) (by decide) rfl (fun ls hl => ?_)
  have hl : lv_has ls 4 [(3, .int 6), (2, .int 0), (0, .ref mo), (1, .int ww)] := hl
  refine lv_goto (pc := 31) (tgt := 9) hx hb dM_count_31 rfl ?_
  refine lv_iload_n (pc := 9) hx hb dM_count_9 rfl (lv_at hl 0 rfl) ?_
  refine lv_bipush (pc := 10) (v := 10) hx hb dM_count_10 (by decide) ?_
  refine lv_icmp_ge (pc := 12) (tgt := 34) hx hb dM_count_12 rfl (fun h31 => absurd h31 (by decide)) (fun h31 => ?_)
  refine lv_iload_n (pc := 15) hx hb dM_count_15 rfl (lv_at hl 1 rfl) ?_
  refine lv_aload_n (pc := 16) hx hb dM_count_16 rfl (lv_at hl 2 rfl) ?_
  refine va_get (D := (dC, dI)) (cl := kCl) (C := RM) (T := TM) (N := 11) (pc := 17) hx hb hts inM hown hK hP 0 rfl rfl 2 (by decide) (hts _ wd_158) (fun _ h9 => h9) rfl dM_count_17 ?_
  refine lv_aload_n (pc := 20) hx hb dM_count_20 rfl (lv_at hl 2 rfl) ?_
  refine lv_iload_n (pc := 21) hx hb dM_count_21 rfl (lv_at hl 0 rfl) ?_
  refine vp_callSi (pc := 22) (W.runV (As := [.int 6]) (rest := [.ref nw, .int 0]) ⟨hx, hb, hml, hown, hts⟩ (m_baselineAt l dC dI mo nw kp mk co se 0 mr 6) (cwV 1 hts (gV wd_197 wd_198 wd_199 wd_157 wd_196) rfl rfl rfl (by decide +kernel) ⟨Nat.le_of_ble_eq_true rfl, Nat.le_of_ble_eq_true rfl⟩) ⟨pR_blind, va_recv (q := (RM, TM, 11)) (q0 := 0) (ci := 4) hK hP rfl rfl, pR_pre (hP.sub (ws' := [(mo, .inr (4, [.int 0, .int mr, .ref nw, .ref kp, .int 0, .int (-1), .ref mk, .ref co, .int 0, .int 0, .ref se]))]) [0] rfl) (hK.sub (tys' := []) [] rfl)⟩ rfl rfl hl.1 rfl (lv_room (Nat.le_of_ble_eq_true rfl)) dM_count_22 ⟨Nat.le_of_ble_eq_true rfl, Nat.le_of_ble_eq_true rfl⟩) (fun r32 hr33 => ?_)
  obtain rfl : r32 = 25136 := Eq.trans (hr33) (by decide)
  refine va_iald (D := (dC, dI)) (cl := kCl) (pc := 25) hx hb hK hP 1 0 rfl rfl (vp_in_lit 25136 25240 (by decide)) dM_count_25 ?_
  refine W.eq (g2 := F0 m 26 ls [.int 0, .int 0]) rfl ?_
  refine lv_iadd (pc := 26) hx hb dM_count_26 ?_
  refine lv_topi (fun z34 hz35 => ?_)
  obtain rfl : z34 = 0 := hz35.trans (by decide)
  refine lv_istore_n (pc := 27) hx hb dM_count_27 rfl hl (by decide) rfl (fun ls hl => ?_)
  have hl : lv_has ls 4 [(2, .int 0), (3, .int 6), (0, .ref mo), (1, .int ww)] := hl
  refine lv_iinc (pc := 28) (v := 7) hx hb dM_count_28 hl (k := 1) rfl (by decide) (by decide) rfl (fun ls hl => ?_)
  have hl : lv_has ls 4 [(3, .int 7), (2, .int 0), (0, .ref mo), (1, .int ww)] := hl
  refine lv_goto (pc := 31) (tgt := 9) hx hb dM_count_31 rfl ?_
  refine lv_iload_n (pc := 9) hx hb dM_count_9 rfl (lv_at hl 0 rfl) ?_
  refine lv_bipush (pc := 10) (v := 10) hx hb dM_count_10 (by decide) ?_
  refine lv_icmp_ge (pc := 12) (tgt := 34) hx hb dM_count_12 rfl (fun h36 => absurd h36 (by decide)) (fun h36 => ?_)
  refine lv_iload_n (pc := 15) hx hb dM_count_15 rfl (lv_at hl 1 rfl) ?_
  refine lv_aload_n (pc := 16) hx hb dM_count_16 rfl (lv_at hl 2 rfl) ?_
  refine va_get (D := (dC, dI)) (cl := kCl) (C := RM) (T := TM) (N := 11) (pc := 17) hx hb hts inM hown hK hP 0 rfl rfl 2 (by decide) (hts _ wd_158) (fun _ h9 => h9) rfl dM_count_17 ?_
  refine lv_aload_n (pc := 20) hx hb dM_count_20 rfl (lv_at hl 2 rfl) ?_
  refine lv_iload_n (pc := 21) hx hb dM_count_21 rfl (lv_at hl 0 rfl) ?_
  refine vp_callSi (pc := 22) (W.runV (As := [.int 7]) (rest := [.ref nw, .int 0]) ⟨hx, hb, hml, hown, hts⟩ (m_baselineAt l dC dI mo nw kp mk co se 0 mr 7) (cwV 1 hts (gV wd_197 wd_198 wd_199 wd_157 wd_196) rfl rfl rfl (by decide +kernel) ⟨Nat.le_of_ble_eq_true rfl, Nat.le_of_ble_eq_true rfl⟩) ⟨pR_blind, va_recv (q := (RM, TM, 11)) (q0 := 0) (ci := 4) hK hP rfl rfl, pR_pre (hP.sub (ws' := [(mo, .inr (4, [.int 0, .int mr, .ref nw, .ref kp, .int 0, .int (-1), .ref mk, .ref co, .int 0, .int 0, .ref se]))]) [0] rfl) (hK.sub (tys' := []) [] rfl)⟩ rfl rfl hl.1 rfl (lv_room (Nat.le_of_ble_eq_true rfl)) dM_count_22 ⟨Nat.le_of_ble_eq_true rfl, Nat.le_of_ble_eq_true rfl⟩) (fun r37 hr38 => ?_)
  obtain rfl : r37 = 25162 := Eq.trans (hr38) (by decide)
  refine va_iald (D := (dC, dI)) (cl := kCl) (pc := 25) hx hb hK hP 1 0 rfl rfl (vp_in_lit 25162 25240 (by decide)) dM_count_25 ?_
  refine W.eq (g2 := F0 m 26 ls [.int 0, .int 0]) rfl ?_
  refine lv_iadd (pc := 26) hx hb dM_count_26 ?_
  refine lv_topi (fun z39 hz40 => ?_)
  obtain rfl : z39 = 0 := hz40.trans (by decide)
  refine lv_istore_n (pc := 27) hx hb dM_count_27 rfl hl (by decide) rfl (fun ls hl => ?_)
  have hl : lv_has ls 4 [(2, .int 0), (3, .int 7), (0, .ref mo), (1, .int ww)] := hl
  refine lv_iinc (pc := 28) (v := 8) hx hb dM_count_28 hl (k := 1) rfl (by decide) (by decide) rfl (fun ls hl => ?_)
  have hl : lv_has ls 4 [(3, .int 8), (2, .int 0), (0, .ref mo), (1, .int ww)] := hl
  refine lv_goto (pc := 31) (tgt := 9) hx hb dM_count_31 rfl ?_
  refine lv_iload_n (pc := 9) hx hb dM_count_9 rfl (lv_at hl 0 rfl) ?_
  refine lv_bipush (pc := 10) (v := 10) hx hb dM_count_10 (by decide) ?_
  refine lv_icmp_ge (pc := 12) (tgt := 34) hx hb dM_count_12 rfl (fun h41 => absurd h41 (by decide)) (fun h41 => ?_)
  refine lv_iload_n (pc := 15) hx hb dM_count_15 rfl (lv_at hl 1 rfl) ?_
  refine lv_aload_n (pc := 16) hx hb dM_count_16 rfl (lv_at hl 2 rfl) ?_
  refine va_get (D := (dC, dI)) (cl := kCl) (C := RM) (T := TM) (N := 11) (pc := 17) hx hb hts inM hown hK hP 0 rfl rfl 2 (by decide) (hts _ wd_158) (fun _ h9 => h9) rfl dM_count_17 ?_
  refine lv_aload_n (pc := 20) hx hb dM_count_20 rfl (lv_at hl 2 rfl) ?_
  refine lv_iload_n (pc := 21) hx hb dM_count_21 rfl (lv_at hl 0 rfl) ?_
  refine vp_callSi (pc := 22) (W.runV (As := [.int 8]) (rest := [.ref nw, .int 0]) ⟨hx, hb, hml, hown, hts⟩ (m_baselineAt l dC dI mo nw kp mk co se 0 mr 8) (cwV 1 hts (gV wd_197 wd_198 wd_199 wd_157 wd_196) rfl rfl rfl (by decide +kernel) ⟨Nat.le_of_ble_eq_true rfl, Nat.le_of_ble_eq_true rfl⟩) ⟨pR_blind, va_recv (q := (RM, TM, 11)) (q0 := 0) (ci := 4) hK hP rfl rfl, pR_pre (hP.sub (ws' := [(mo, .inr (4, [.int 0, .int mr, .ref nw, .ref kp, .int 0, .int (-1), .ref mk, .ref co, .int 0, .int 0, .ref se]))]) [0] rfl) (hK.sub (tys' := []) [] rfl)⟩ rfl rfl hl.1 rfl (lv_room (Nat.le_of_ble_eq_true rfl)) dM_count_22 ⟨Nat.le_of_ble_eq_true rfl, Nat.le_of_ble_eq_true rfl⟩) (fun r42 hr43 => ?_)
  obtain rfl : r42 = 25188 := Eq.trans (hr43) (by decide)
  refine va_iald (D := (dC, dI)) (cl := kCl) (pc := 25) hx hb hK hP 1 0 rfl rfl (vp_in_lit 25188 25240 (by decide)) dM_count_25 ?_
  refine W.eq (g2 := F0 m 26 ls [.int 0, .int 0]) rfl ?_
  refine lv_iadd (pc := 26) hx hb dM_count_26 ?_
  refine lv_topi (fun z44 hz45 => ?_)
  obtain rfl : z44 = 0 := hz45.trans (by decide)
  refine lv_istore_n (pc := 27) hx hb dM_count_27 rfl hl (by decide) rfl (fun ls hl => ?_)
  have hl : lv_has ls 4 [(2, .int 0), (3, .int 8), (0, .ref mo), (1, .int ww)] := hl
  refine lv_iinc (pc := 28) (v := 9) hx hb dM_count_28 hl (k := 1) rfl (by decide) (by decide) rfl (fun ls hl => ?_)
  have hl : lv_has ls 4 [(3, .int 9), (2, .int 0), (0, .ref mo), (1, .int ww)] := hl
  refine lv_goto (pc := 31) (tgt := 9) hx hb dM_count_31 rfl ?_
  refine lv_iload_n (pc := 9) hx hb dM_count_9 rfl (lv_at hl 0 rfl) ?_
  refine lv_bipush (pc := 10) (v := 10) hx hb dM_count_10 (by decide) ?_
  refine lv_icmp_ge (pc := 12) (tgt := 34) hx hb dM_count_12 rfl (fun h46 => absurd h46 (by decide)) (fun h46 => ?_)
  refine lv_iload_n (pc := 15) hx hb dM_count_15 rfl (lv_at hl 1 rfl) ?_
  refine lv_aload_n (pc := 16) hx hb dM_count_16 rfl (lv_at hl 2 rfl) ?_
  refine va_get (D := (dC, dI)) (cl := kCl) (C := RM) (T := TM) (N := 11) (pc := 17) hx hb hts inM hown hK hP 0 rfl rfl 2 (by decide) (hts _ wd_158) (fun _ h9 => h9) rfl dM_count_17 ?_
  refine lv_aload_n (pc := 20) hx hb dM_count_20 rfl (lv_at hl 2 rfl) ?_
  refine lv_iload_n (pc := 21) hx hb dM_count_21 rfl (lv_at hl 0 rfl) ?_
  refine vp_callSi (pc := 22) (W.runV (As := [.int 9]) (rest := [.ref nw, .int 0]) ⟨hx, hb, hml, hown, hts⟩ (m_baselineAt l dC dI mo nw kp mk co se 0 mr 9) (cwV 1 hts (gV wd_197 wd_198 wd_199 wd_157 wd_196) rfl rfl rfl (by decide +kernel) ⟨Nat.le_of_ble_eq_true rfl, Nat.le_of_ble_eq_true rfl⟩) ⟨pR_blind, va_recv (q := (RM, TM, 11)) (q0 := 0) (ci := 4) hK hP rfl rfl, pR_pre (hP.sub (ws' := [(mo, .inr (4, [.int 0, .int mr, .ref nw, .ref kp, .int 0, .int (-1), .ref mk, .ref co, .int 0, .int 0, .ref se]))]) [0] rfl) (hK.sub (tys' := []) [] rfl)⟩ rfl rfl hl.1 rfl (lv_room (Nat.le_of_ble_eq_true rfl)) dM_count_22 ⟨Nat.le_of_ble_eq_true rfl, Nat.le_of_ble_eq_true rfl⟩) (fun r47 hr48 => ?_)
  obtain rfl : r47 = 25214 := Eq.trans (hr48) (by decide)
  refine va_iald (D := (dC, dI)) (cl := kCl) (pc := 25) hx hb hK hP 1 0 rfl rfl (vp_in_lit 25214 25240 (by decide)) dM_count_25 ?_
  refine W.eq (g2 := F0 m 26 ls [.int 0, .int 0]) rfl ?_
  refine lv_iadd (pc := 26) hx hb dM_count_26 ?_
  refine lv_topi (fun z49 hz50 => ?_)
  obtain rfl : z49 = 0 := hz50.trans (by decide)
  refine lv_istore_n (pc := 27) hx hb dM_count_27 rfl hl (by decide) rfl (fun ls hl => ?_)
  have hl : lv_has ls 4 [(2, .int 0), (3, .int 9), (0, .ref mo), (1, .int ww)] := hl
  refine lv_iinc (pc := 28) (v := 10) hx hb dM_count_28 hl (k := 1) rfl (by decide) (by decide) rfl (fun ls hl => ?_)
  have hl : lv_has ls 4 [(3, .int 10), (2, .int 0), (0, .ref mo), (1, .int ww)] := hl
  refine lv_goto (pc := 31) (tgt := 9) hx hb dM_count_31 rfl ?_
  refine lv_iload_n (pc := 9) hx hb dM_count_9 rfl (lv_at hl 0 rfl) ?_
  refine lv_bipush (pc := 10) (v := 10) hx hb dM_count_10 (by decide) ?_
  refine lv_icmp_ge (pc := 12) (tgt := 34) hx hb dM_count_12 rfl (fun h51 => ?_) (fun h51 => absurd h51 (by decide))
  refine lv_iload_n (pc := 34) hx hb dM_count_34 rfl (lv_at hl 3 rfl) ?_
  rcases pk_ix ww (n := 8) (by decide) with h52 | h52 | ⟨j53, hj54, rfl⟩
  · refine lv_tableOut (pc := 35) (tgt := 138) hx hb dM_count_35 (Or.inl (tsw_lo h52)) rfl ?_
    refine lv_iconst (pc := 138) (v := (-1)) hx hb dM_count_138 (by decide) ?_
    have hP9 := hP.sub (ws' := [(mo, .inr (4, [.int 0, .int mr, .ref nw, .ref kp, .int 0, .int (-1), .ref mk, .ref co, .int 0, .int 0, .ref se]))]) [0] rfl
    have hD9 := hD.sub (ws' := [(mo, .inr (4, [.int 0, .int mr, .ref nw, .ref kp, .int 0, .int (-1), .ref mk, .ref co, .int 0, .int 0, .ref se]))]) [0] (by decide) rfl
    have hK9 := hK.sub (tys' := []) [] rfl
    exact W.iret (pc := 139) hx hb hr (fun t ht hW => ⟨⟨_, (), rfl, cnt0_lo h52, by rw [ht]; exact hP9, va_K.moved hW.alike hK9, hD9⟩, hS.F ht⟩) hS.2.2 dM_count_139
  · refine lv_tableOut (pc := 35) (tgt := 138) hx hb dM_count_35 (Or.inr (tsw_hi (n := 7) (by decide) h52)) rfl ?_
    refine lv_iconst (pc := 138) (v := (-1)) hx hb dM_count_138 (by decide) ?_
    have hP9 := hP.sub (ws' := [(mo, .inr (4, [.int 0, .int mr, .ref nw, .ref kp, .int 0, .int (-1), .ref mk, .ref co, .int 0, .int 0, .ref se]))]) [0] rfl
    have hD9 := hD.sub (ws' := [(mo, .inr (4, [.int 0, .int mr, .ref nw, .ref kp, .int 0, .int (-1), .ref mk, .ref co, .int 0, .int 0, .ref se]))]) [0] (by decide) rfl
    have hK9 := hK.sub (tys' := []) [] rfl
    exact W.iret (pc := 139) hx hb hr (fun t ht hW => ⟨⟨_, (), rfl, cnt0_hi h52, by rw [ht]; exact hP9, va_K.moved hW.alike hK9, hD9⟩, hS.F ht⟩) hS.2.2 dM_count_139
  · rcases (show j53 = 0 ∨ j53 = 1 ∨ j53 = 2 ∨ j53 = 3 ∨ j53 = 4 ∨ j53 = 5 ∨ j53 = 6 ∨ j53 = 7 by omega) with rfl | rfl | rfl | rfl | rfl | rfl | rfl | rfl
    · refine lv_tableIn (pc := 35) (tgt := 80) (off := 45) hx hb dM_count_35 (by decide) (by decide) (by decide) rfl ?_
      refine lv_aload_n (pc := 80) hx hb dM_count_80 rfl (lv_at hl 2 rfl) ?_
      refine va_get (D := (dC, dI)) (cl := kCl) (C := RM) (T := TM) (N := 11) (pc := 81) hx hb hts inM hown hK hP 0 rfl rfl 2 (by decide) (hts _ wd_158) (fun _ h9 => h9) rfl dM_count_81 ?_
      refine lv_bipush (pc := 84) (v := 16) hx hb dM_count_84 (by decide) ?_
      refine va_iald (D := (dC, dI)) (cl := kCl) (pc := 86) hx hb hK hP 1 0 rfl rfl (vp_in_lit 16 25240 (by decide)) dM_count_86 ?_
      refine W.eq (g2 := F0 m 87 ls [.int 0]) rfl ?_
      have hP9 := hP.sub (ws' := [(mo, .inr (4, [.int 0, .int mr, .ref nw, .ref kp, .int 0, .int (-1), .ref mk, .ref co, .int 0, .int 0, .ref se]))]) [0] rfl
      have hD9 := hD.sub (ws' := [(mo, .inr (4, [.int 0, .int mr, .ref nw, .ref kp, .int 0, .int (-1), .ref mk, .ref co, .int 0, .int 0, .ref se]))]) [0] (by decide) rfl
      have hK9 := hK.sub (tys' := []) [] rfl
      exact W.iret (pc := 87) hx hb hr (fun t ht hW => ⟨⟨_, (), rfl, by decide, by rw [ht]; exact hP9, va_K.moved hW.alike hK9, hD9⟩, hS.F ht⟩) hS.2.2 dM_count_87
    · refine lv_tableIn (pc := 35) (tgt := 88) (off := 53) hx hb dM_count_35 (by decide) (by decide) (by decide) rfl ?_
      refine lv_aload_n (pc := 88) hx hb dM_count_88 rfl (lv_at hl 2 rfl) ?_
      refine vp_callSi (pc := 89) (W.runV (As := []) (rest := []) ⟨hx, hb, hml, hown, hts⟩ (m_allRevisions l dC dI mo nw kp mk co se 0 mr cN) (cwV 0 hts (gV wd_177 wd_178 wd_179 wd_157 wd_176) rfl rfl rfl (by decide +kernel) ⟨Nat.le_of_ble_eq_true rfl, Nat.le_of_ble_eq_true rfl⟩) ⟨pR_blind, va_recv (q := (RM, TM, 11)) (q0 := 0) (ci := 4) hK hP rfl rfl, pR_pre (hP.sub (ws' := [(mo, .inr (4, [.int 0, .int mr, .ref nw, .ref kp, .int 0, .int (-1), .ref mk, .ref co, .int 0, .int 0, .ref se])), (nw, .inl (cN, 25240, .inl now0))]) [0, 1] rfl) (hK.sub (tys' := [(cN, .int)]) [0] rfl)⟩ rfl rfl hl.1 rfl (lv_room (Nat.le_of_ble_eq_true rfl)) dM_count_89 ⟨Nat.le_of_ble_eq_true rfl, Nat.le_of_ble_eq_true rfl⟩) (fun r55 hr56 => ?_)
      obtain rfl : r55 = 0 := hr56
      have hP9 := hP.sub (ws' := [(mo, .inr (4, [.int 0, .int mr, .ref nw, .ref kp, .int 0, .int (-1), .ref mk, .ref co, .int 0, .int 0, .ref se]))]) [0] rfl
      have hD9 := hD.sub (ws' := [(mo, .inr (4, [.int 0, .int mr, .ref nw, .ref kp, .int 0, .int (-1), .ref mk, .ref co, .int 0, .int 0, .ref se]))]) [0] (by decide) rfl
      have hK9 := hK.sub (tys' := []) [] rfl
      exact W.iret (pc := 92) hx hb hr (fun t ht hW => ⟨⟨_, (), rfl, by decide, by rw [ht]; exact hP9, va_K.moved hW.alike hK9, hD9⟩, hS.F ht⟩) hS.2.2 dM_count_92
    · refine lv_tableIn (pc := 35) (tgt := 93) (off := 58) hx hb dM_count_35 (by decide) (by decide) (by decide) rfl ?_
      refine lv_aload_n (pc := 93) hx hb dM_count_93 rfl (lv_at hl 2 rfl) ?_
      refine lv_iconst (pc := 94) (v := 0) hx hb dM_count_94 (by decide) ?_
      refine vp_callSi (pc := 95) (W.runV (As := [.int 0]) (rest := []) ⟨hx, hb, hml, hown, hts⟩ (m_chunks l dC dI mo nw kp mk co se 0 mr cN) (cwV 1 hts (gV wd_218 wd_219 wd_220 wd_157 wd_217) rfl rfl rfl (by decide +kernel) ⟨Nat.le_of_ble_eq_true rfl, Nat.le_of_ble_eq_true rfl⟩) ⟨pR_blind, va_recv (q := (RM, TM, 11)) (q0 := 0) (ci := 4) hK hP rfl rfl, pR_pre (hP.sub (ws' := [(mo, .inr (4, [.int 0, .int mr, .ref nw, .ref kp, .int 0, .int (-1), .ref mk, .ref co, .int 0, .int 0, .ref se])), (nw, .inl (cN, 25240, .inl now0))]) [0, 1] rfl) (hK.sub (tys' := [(cN, .int)]) [0] rfl)⟩ rfl rfl hl.1 rfl (lv_room (Nat.le_of_ble_eq_true rfl)) dM_count_95 ⟨Nat.le_of_ble_eq_true rfl, Nat.le_of_ble_eq_true rfl⟩) (fun r57 hr58 => ?_)
      obtain rfl : r57 = 0 := hr58
      have hP9 := hP.sub (ws' := [(mo, .inr (4, [.int 0, .int mr, .ref nw, .ref kp, .int 0, .int (-1), .ref mk, .ref co, .int 0, .int 0, .ref se]))]) [0] rfl
      have hD9 := hD.sub (ws' := [(mo, .inr (4, [.int 0, .int mr, .ref nw, .ref kp, .int 0, .int (-1), .ref mk, .ref co, .int 0, .int 0, .ref se]))]) [0] (by decide) rfl
      have hK9 := hK.sub (tys' := []) [] rfl
      exact W.iret (pc := 98) hx hb hr (fun t ht hW => ⟨⟨_, (), rfl, by decide, by rw [ht]; exact hP9, va_K.moved hW.alike hK9, hD9⟩, hS.F ht⟩) hS.2.2 dM_count_98
    · refine lv_tableIn (pc := 35) (tgt := 99) (off := 64) hx hb dM_count_35 (by decide) (by decide) (by decide) rfl ?_
      refine lv_aload_n (pc := 99) hx hb dM_count_99 rfl (lv_at hl 2 rfl) ?_
      refine va_get (D := (dC, dI)) (cl := kCl) (C := RM) (T := TM) (N := 11) (pc := 100) hx hb hts inM hown hK hP 0 rfl rfl 2 (by decide) (hts _ wd_158) (fun _ h9 => h9) rfl dM_count_100 ?_
      refine lv_bipush (pc := 103) (v := 17) hx hb dM_count_103 (by decide) ?_
      refine va_iald (D := (dC, dI)) (cl := kCl) (pc := 105) hx hb hK hP 1 0 rfl rfl (vp_in_lit 17 25240 (by decide)) dM_count_105 ?_
      refine W.eq (g2 := F0 m 106 ls [.int 400]) rfl ?_
      have hP9 := hP.sub (ws' := [(mo, .inr (4, [.int 0, .int mr, .ref nw, .ref kp, .int 0, .int (-1), .ref mk, .ref co, .int 0, .int 0, .ref se]))]) [0] rfl
      have hD9 := hD.sub (ws' := [(mo, .inr (4, [.int 0, .int mr, .ref nw, .ref kp, .int 0, .int (-1), .ref mk, .ref co, .int 0, .int 0, .ref se]))]) [0] (by decide) rfl
      have hK9 := hK.sub (tys' := []) [] rfl
      exact W.iret (pc := 106) hx hb hr (fun t ht hW => ⟨⟨_, (), rfl, by decide, by rw [ht]; exact hP9, va_K.moved hW.alike hK9, hD9⟩, hS.F ht⟩) hS.2.2 dM_count_106
    · refine lv_tableIn (pc := 35) (tgt := 107) (off := 72) hx hb dM_count_35 (by decide) (by decide) (by decide) rfl ?_
      refine lv_aload_n (pc := 107) hx hb dM_count_107 rfl (lv_at hl 2 rfl) ?_
      refine va_get (D := (dC, dI)) (cl := kCl) (C := RM) (T := TM) (N := 11) (pc := 108) hx hb hts inM hown hK hP 0 rfl rfl 2 (by decide) (hts _ wd_158) (fun _ h9 => h9) rfl dM_count_108 ?_
      refine lv_bipush (pc := 111) (v := 18) hx hb dM_count_111 (by decide) ?_
      refine va_iald (D := (dC, dI)) (cl := kCl) (pc := 113) hx hb hK hP 1 0 rfl rfl (vp_in_lit 18 25240 (by decide)) dM_count_113 ?_
      refine W.eq (g2 := F0 m 114 ls [.int 0]) rfl ?_
      have hP9 := hP.sub (ws' := [(mo, .inr (4, [.int 0, .int mr, .ref nw, .ref kp, .int 0, .int (-1), .ref mk, .ref co, .int 0, .int 0, .ref se]))]) [0] rfl
      have hD9 := hD.sub (ws' := [(mo, .inr (4, [.int 0, .int mr, .ref nw, .ref kp, .int 0, .int (-1), .ref mk, .ref co, .int 0, .int 0, .ref se]))]) [0] (by decide) rfl
      have hK9 := hK.sub (tys' := []) [] rfl
      exact W.iret (pc := 114) hx hb hr (fun t ht hW => ⟨⟨_, (), rfl, by decide, by rw [ht]; exact hP9, va_K.moved hW.alike hK9, hD9⟩, hS.F ht⟩) hS.2.2 dM_count_114
    · refine lv_tableIn (pc := 35) (tgt := 115) (off := 80) hx hb dM_count_35 (by decide) (by decide) (by decide) rfl ?_
      refine lv_aload_n (pc := 115) hx hb dM_count_115 rfl (lv_at hl 2 rfl) ?_
      refine va_get (D := (dC, dI)) (cl := kCl) (C := RM) (T := TM) (N := 11) (pc := 116) hx hb hts inM hown hK hP 0 rfl rfl 2 (by decide) (hts _ wd_158) (fun _ h9 => h9) rfl dM_count_116 ?_
      refine lv_bipush (pc := 119) (v := 19) hx hb dM_count_119 (by decide) ?_
      refine va_iald (D := (dC, dI)) (cl := kCl) (pc := 121) hx hb hK hP 1 0 rfl rfl (vp_in_lit 19 25240 (by decide)) dM_count_121 ?_
      refine W.eq (g2 := F0 m 122 ls [.int 0]) rfl ?_
      have hP9 := hP.sub (ws' := [(mo, .inr (4, [.int 0, .int mr, .ref nw, .ref kp, .int 0, .int (-1), .ref mk, .ref co, .int 0, .int 0, .ref se]))]) [0] rfl
      have hD9 := hD.sub (ws' := [(mo, .inr (4, [.int 0, .int mr, .ref nw, .ref kp, .int 0, .int (-1), .ref mk, .ref co, .int 0, .int 0, .ref se]))]) [0] (by decide) rfl
      have hK9 := hK.sub (tys' := []) [] rfl
      exact W.iret (pc := 122) hx hb hr (fun t ht hW => ⟨⟨_, (), rfl, by decide, by rw [ht]; exact hP9, va_K.moved hW.alike hK9, hD9⟩, hS.F ht⟩) hS.2.2 dM_count_122
    · refine lv_tableIn (pc := 35) (tgt := 123) (off := 88) hx hb dM_count_35 (by decide) (by decide) (by decide) rfl ?_
      refine lv_iload_n (pc := 123) hx hb dM_count_123 rfl (lv_at hl 1 rfl) ?_
      have hP9 := hP.sub (ws' := [(mo, .inr (4, [.int 0, .int mr, .ref nw, .ref kp, .int 0, .int (-1), .ref mk, .ref co, .int 0, .int 0, .ref se]))]) [0] rfl
      have hD9 := hD.sub (ws' := [(mo, .inr (4, [.int 0, .int mr, .ref nw, .ref kp, .int 0, .int (-1), .ref mk, .ref co, .int 0, .int 0, .ref se]))]) [0] (by decide) rfl
      have hK9 := hK.sub (tys' := []) [] rfl
      exact W.iret (pc := 124) hx hb hr (fun t ht hW => ⟨⟨_, (), rfl, by decide, by rw [ht]; exact hP9, va_K.moved hW.alike hK9, hD9⟩, hS.F ht⟩) hS.2.2 dM_count_124
    · refine lv_tableIn (pc := 35) (tgt := 125) (off := 90) hx hb dM_count_35 (by decide) (by decide) (by decide) rfl ?_
      refine lv_aload_n (pc := 125) hx hb dM_count_125 rfl (lv_at hl 2 rfl) ?_
      refine va_get (D := (dC, dI)) (cl := kCl) (C := RM) (T := TM) (N := 11) (pc := 126) hx hb hts inM hown hK hP 0 rfl rfl 4 (by decide) (hts _ wd_163) (fun _ h9 => h9) rfl dM_count_126 ?_
      refine lv_if_eq (pc := 129) (tgt := 136) hx hb dM_count_129 rfl (fun h59 => ?_) (fun h59 => absurd h59 (by decide))
      refine lv_iconst (pc := 136) (v := 0) hx hb dM_count_136 (by decide) ?_
      have hP9 := hP.sub (ws' := [(mo, .inr (4, [.int 0, .int mr, .ref nw, .ref kp, .int 0, .int (-1), .ref mk, .ref co, .int 0, .int 0, .ref se]))]) [0] rfl
      have hD9 := hD.sub (ws' := [(mo, .inr (4, [.int 0, .int mr, .ref nw, .ref kp, .int 0, .int (-1), .ref mk, .ref co, .int 0, .int 0, .ref se]))]) [0] (by decide) rfl
      have hK9 := hK.sub (tys' := []) [] rfl
      exact W.iret (pc := 137) hx hb hr (fun t ht hW => ⟨⟨_, (), rfl, by decide, by rw [ht]; exact hP9, va_K.moved hW.alike hK9, hD9⟩, hS.F ht⟩) hS.2.2 dM_count_137
