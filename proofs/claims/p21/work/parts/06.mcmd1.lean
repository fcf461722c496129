abbrev cM_keep : ByteArray := prog_9_method_3_code
abbrev yM_keep : MethodName := ⟨"DrawingVaultModel", "keep", "()V"⟩
theorem dM_keep_0 : decode cM_keep 0 = .ok (.iconst 0, 1) := by decide +kernel
theorem dM_keep_1 : decode cM_keep 1 = .ok (.istore_n 1, 1) := by decide +kernel
theorem dM_keep_2 : decode cM_keep 2 = .ok (.iload_n 1, 1) := by decide +kernel
theorem dM_keep_3 : decode cM_keep 3 = .ok (.sipush 25240, 3) := by decide +kernel
theorem dM_keep_6 : decode cM_keep 6 = .ok (.if_icmp .ge 21, 3) := by decide +kernel
theorem dM_keep_9 : decode cM_keep 9 = .ok (.aload_n 0, 1) := by decide +kernel
theorem dM_keep_10 : decode cM_keep 10 = .ok (.getfield 13, 3) := by decide +kernel
theorem dM_keep_13 : decode cM_keep 13 = .ok (.iload_n 1, 1) := by decide +kernel
theorem dM_keep_14 : decode cM_keep 14 = .ok (.aload_n 0, 1) := by decide +kernel
theorem dM_keep_15 : decode cM_keep 15 = .ok (.getfield 7, 3) := by decide +kernel
theorem dM_keep_18 : decode cM_keep 18 = .ok (.iload_n 1, 1) := by decide +kernel
theorem dM_keep_19 : decode cM_keep 19 = .ok (.iaload, 1) := by decide +kernel
theorem dM_keep_20 : decode cM_keep 20 = .ok (.iastore, 1) := by decide +kernel
theorem dM_keep_21 : decode cM_keep 21 = .ok (.iinc 1 1, 3) := by decide +kernel
theorem dM_keep_24 : decode cM_keep 24 = .ok (.goto (-22), 3) := by decide +kernel
theorem dM_keep_27 : decode cM_keep 27 = .ok (.return_, 1) := by decide +kernel
abbrev cM_may : ByteArray := prog_9_method_29_code
abbrev yM_may : MethodName := ⟨"DrawingVaultModel", "may", "(II)Z"⟩
theorem dM_may_0 : decode cM_may 0 = .ok (.iload_n 1, 1) := by decide +kernel
theorem dM_may_1 : decode cM_may 1 = .ok (.ifCond .ne 19, 3) := by decide +kernel
theorem dM_may_4 : decode cM_may 4 = .ok (.aload_n 0, 1) := by decide +kernel
theorem dM_may_5 : decode cM_may 5 = .ok (.getfield 7, 3) := by decide +kernel
theorem dM_may_8 : decode cM_may 8 = .ok (.bipush 17, 2) := by decide +kernel
theorem dM_may_10 : decode cM_may 10 = .ok (.iaload, 1) := by decide +kernel
theorem dM_may_11 : decode cM_may 11 = .ok (.iload_n 2, 1) := by decide +kernel
theorem dM_may_12 : decode cM_may 12 = .ok (.if_icmp .ge 8, 3) := by decide +kernel
theorem dM_may_15 : decode cM_may 15 = .ok (.bipush 8, 2) := by decide +kernel
theorem dM_may_17 : decode cM_may 17 = .ok (.goto 4, 3) := by decide +kernel
theorem dM_may_20 : decode cM_may 20 = .ok (.iload_n 1, 1) := by decide +kernel
theorem dM_may_21 : decode cM_may 21 = .ok (.istore_n 3, 1) := by decide +kernel
theorem dM_may_22 : decode cM_may 22 = .ok (.aload_n 0, 1) := by decide +kernel
theorem dM_may_23 : decode cM_may 23 = .ok (.aload_n 0, 1) := by decide +kernel
theorem dM_may_24 : decode cM_may 24 = .ok (.getfield 102, 3) := by decide +kernel
theorem dM_may_27 : decode cM_may 27 = .ok (.ifCond .eq 7, 3) := by decide +kernel
theorem dM_may_30 : decode cM_may 30 = .ok (.iconst 1, 1) := by decide +kernel
theorem dM_may_31 : decode cM_may 31 = .ok (.goto 4, 3) := by decide +kernel
theorem dM_may_34 : decode cM_may 34 = .ok (.iconst 0, 1) := by decide +kernel
theorem dM_may_35 : decode cM_may 35 = .ok (.putfield 33, 3) := by decide +kernel
theorem dM_may_38 : decode cM_may 38 = .ok (.aload_n 0, 1) := by decide +kernel
theorem dM_may_39 : decode cM_may 39 = .ok (.getfield 102, 3) := by decide +kernel
theorem dM_may_42 : decode cM_may 42 = .ok (.ifCond .eq 5, 3) := by decide +kernel
theorem dM_may_45 : decode cM_may 45 = .ok (.iconst 0, 1) := by decide +kernel
theorem dM_may_46 : decode cM_may 46 = .ok (.ireturn, 1) := by decide +kernel
theorem dM_may_47 : decode cM_may 47 = .ok (.iload_n 3, 1) := by decide +kernel
theorem dM_may_48 : decode cM_may 48 = .ok (.ifCond .ne 31, 3) := by decide +kernel
theorem dM_may_51 : decode cM_may 51 = .ok (.aload_n 0, 1) := by decide +kernel
theorem dM_may_52 : decode cM_may 52 = .ok (.getfield 16, 3) := by decide +kernel
theorem dM_may_55 : decode cM_may 55 = .ok (.iconst (-1), 1) := by decide +kernel
theorem dM_may_56 : decode cM_may 56 = .ok (.if_icmp .eq 23, 3) := by decide +kernel
theorem dM_may_59 : decode cM_may 59 = .ok (.iload_n 2, 1) := by decide +kernel
theorem dM_may_60 : decode cM_may 60 = .ok (.aload_n 0, 1) := by decide +kernel
theorem dM_may_61 : decode cM_may 61 = .ok (.getfield 16, 3) := by decide +kernel
theorem dM_may_64 : decode cM_may 64 = .ok (.if_icmp .le 15, 3) := by decide +kernel
theorem dM_may_67 : decode cM_may 67 = .ok (.aload_n 0, 1) := by decide +kernel
theorem dM_may_68 : decode cM_may 68 = .ok (.iconst 1, 1) := by decide +kernel
theorem dM_may_69 : decode cM_may 69 = .ok (.putfield 102, 3) := by decide +kernel
theorem dM_may_72 : decode cM_may 72 = .ok (.aload_n 0, 1) := by decide +kernel
theorem dM_may_73 : decode cM_may 73 = .ok (.iconst 1, 1) := by decide +kernel
theorem dM_may_74 : decode cM_may 74 = .ok (.putfield 33, 3) := by decide +kernel
theorem dM_may_77 : decode cM_may 77 = .ok (.iconst 0, 1) := by decide +kernel
theorem dM_may_78 : decode cM_may 78 = .ok (.ireturn, 1) := by decide +kernel
theorem dM_may_79 : decode cM_may 79 = .ok (.aload_n 0, 1) := by decide +kernel
theorem dM_may_80 : decode cM_may 80 = .ok (.iload_n 3, 1) := by decide +kernel
theorem dM_may_81 : decode cM_may 81 = .ok (.putfield 106, 3) := by decide +kernel
theorem dM_may_84 : decode cM_may 84 = .ok (.iload_n 3, 1) := by decide +kernel
theorem dM_may_85 : decode cM_may 85 = .ok (.ifCond .le 5, 3) := by decide +kernel
theorem dM_may_88 : decode cM_may 88 = .ok (.iconst 0, 1) := by decide +kernel
theorem dM_may_89 : decode cM_may 89 = .ok (.ireturn, 1) := by decide +kernel
theorem dM_may_90 : decode cM_may 90 = .ok (.aload_n 0, 1) := by decide +kernel
theorem dM_may_91 : decode cM_may 91 = .ok (.aload_n 0, 1) := by decide +kernel
theorem dM_may_92 : decode cM_may 92 = .ok (.getfield 16, 3) := by decide +kernel
theorem dM_may_95 : decode cM_may 95 = .ok (.iconst (-1), 1) := by decide +kernel
theorem dM_may_96 : decode cM_may 96 = .ok (.if_icmp .ne 7, 3) := by decide +kernel
theorem dM_may_99 : decode cM_may 99 = .ok (.iconst (-1), 1) := by decide +kernel
theorem dM_may_100 : decode cM_may 100 = .ok (.goto 9, 3) := by decide +kernel
theorem dM_may_103 : decode cM_may 103 = .ok (.aload_n 0, 1) := by decide +kernel
theorem dM_may_104 : decode cM_may 104 = .ok (.getfield 16, 3) := by decide +kernel
theorem dM_may_107 : decode cM_may 107 = .ok (.iload_n 2, 1) := by decide +kernel
theorem dM_may_108 : decode cM_may 108 = .ok (.isub, 1) := by decide +kernel
theorem dM_may_109 : decode cM_may 109 = .ok (.putfield 16, 3) := by decide +kernel
theorem dM_may_112 : decode cM_may 112 = .ok (.aload_n 0, 1) := by decide +kernel
theorem dM_may_113 : decode cM_may 113 = .ok (.getfield 7, 3) := by decide +kernel
theorem dM_may_116 : decode cM_may 116 = .ok (.bipush 17, 2) := by decide +kernel
theorem dM_may_118 : decode cM_may 118 = .ok (.dup2, 1) := by decide +kernel
theorem dM_may_119 : decode cM_may 119 = .ok (.iaload, 1) := by decide +kernel
theorem dM_may_120 : decode cM_may 120 = .ok (.iload_n 2, 1) := by decide +kernel
theorem dM_may_121 : decode cM_may 121 = .ok (.isub, 1) := by decide +kernel
theorem dM_may_122 : decode cM_may 122 = .ok (.iastore, 1) := by decide +kernel
theorem dM_may_123 : decode cM_may 123 = .ok (.aload_n 0, 1) := by decide +kernel
theorem dM_may_124 : decode cM_may 124 = .ok (.getfield 7, 3) := by decide +kernel
theorem dM_may_127 : decode cM_may 127 = .ok (.bipush 18, 2) := by decide +kernel
theorem dM_may_129 : decode cM_may 129 = .ok (.dup2, 1) := by decide +kernel
theorem dM_may_130 : decode cM_may 130 = .ok (.iaload, 1) := by decide +kernel
theorem dM_may_131 : decode cM_may 131 = .ok (.iconst 1, 1) := by decide +kernel
theorem dM_may_132 : decode cM_may 132 = .ok (.iadd, 1) := by decide +kernel
theorem dM_may_133 : decode cM_may 133 = .ok (.iastore, 1) := by decide +kernel
theorem dM_may_134 : decode cM_may 134 = .ok (.iconst 1, 1) := by decide +kernel
theorem dM_may_135 : decode cM_may 135 = .ok (.ireturn, 1) := by decide +kernel
abbrev cM_close : ByteArray := prog_9_method_30_code
abbrev yM_close : MethodName := ⟨"DrawingVaultModel", "close", "()V"⟩
theorem dM_close_0 : decode cM_close 0 = .ok (.aload_n 0, 1) := by decide +kernel
theorem dM_close_1 : decode cM_close 1 = .ok (.getfield 7, 3) := by decide +kernel
theorem dM_close_4 : decode cM_close 4 = .ok (.bipush 17, 2) := by decide +kernel
theorem dM_close_6 : decode cM_close 6 = .ok (.iaload, 1) := by decide +kernel
theorem dM_close_7 : decode cM_close 7 = .ok (.bipush 40, 2) := by decide +kernel
theorem dM_close_9 : decode cM_close 9 = .ok (.if_icmp .ge 37, 3) := by decide +kernel
theorem dM_close_12 : decode cM_close 12 = .ok (.sipush 400, 3) := by decide +kernel
theorem dM_close_15 : decode cM_close 15 = .ok (.aload_n 0, 1) := by decide +kernel
theorem dM_close_16 : decode cM_close 16 = .ok (.invokevirtual 109, 3) := by decide +kernel
theorem dM_close_19 : decode cM_close 19 = .ok (.isub, 1) := by decide +kernel
theorem dM_close_20 : decode cM_close 20 = .ok (.istore_n 1, 1) := by decide +kernel
theorem dM_close_21 : decode cM_close 21 = .ok (.iload_n 1, 1) := by decide +kernel
theorem dM_close_22 : decode cM_close 22 = .ok (.bipush 40, 2) := by decide +kernel
theorem dM_close_24 : decode cM_close 24 = .ok (.if_icmp .lt 22, 3) := by decide +kernel
theorem dM_close_27 : decode cM_close 27 = .ok (.aload_n 0, 1) := by decide +kernel
theorem dM_close_28 : decode cM_close 28 = .ok (.getfield 7, 3) := by decide +kernel
theorem dM_close_31 : decode cM_close 31 = .ok (.bipush 17, 2) := by decide +kernel
theorem dM_close_33 : decode cM_close 33 = .ok (.iload_n 1, 1) := by decide +kernel
theorem dM_close_34 : decode cM_close 34 = .ok (.iastore, 1) := by decide +kernel
theorem dM_close_35 : decode cM_close 35 = .ok (.aload_n 0, 1) := by decide +kernel
theorem dM_close_36 : decode cM_close 36 = .ok (.getfield 7, 3) := by decide +kernel
theorem dM_close_39 : decode cM_close 39 = .ok (.bipush 19, 2) := by decide +kernel
theorem dM_close_41 : decode cM_close 41 = .ok (.dup2, 1) := by decide +kernel
theorem dM_close_42 : decode cM_close 42 = .ok (.iaload, 1) := by decide +kernel
theorem dM_close_43 : decode cM_close 43 = .ok (.iconst 1, 1) := by decide +kernel
theorem dM_close_44 : decode cM_close 44 = .ok (.iadd, 1) := by decide +kernel
theorem dM_close_45 : decode cM_close 45 = .ok (.iastore, 1) := by decide +kernel
theorem dM_close_46 : decode cM_close 46 = .ok (.aload_n 0, 1) := by decide +kernel
theorem dM_close_47 : decode cM_close 47 = .ok (.invokevirtual 30, 3) := by decide +kernel
theorem dM_close_50 : decode cM_close 50 = .ok (.return_, 1) := by decide +kernel
abbrev cM_person : ByteArray := prog_9_method_31_code
abbrev yM_person : MethodName := ⟨"DrawingVaultModel", "person", "(II)Z"⟩
theorem dM_person_0 : decode cM_person 0 = .ok (.aload_n 0, 1) := by decide +kernel
theorem dM_person_1 : decode cM_person 1 = .ok (.iload_n 1, 1) := by decide +kernel
theorem dM_person_2 : decode cM_person 2 = .ok (.invokevirtual 36, 3) := by decide +kernel
theorem dM_person_5 : decode cM_person 5 = .ok (.ifCond .eq 17, 3) := by decide +kernel
theorem dM_person_8 : decode cM_person 8 = .ok (.iload_n 2, 1) := by decide +kernel
theorem dM_person_9 : decode cM_person 9 = .ok (.ifCond .lt 13, 3) := by decide +kernel
theorem dM_person_12 : decode cM_person 12 = .ok (.iload_n 2, 1) := by decide +kernel
theorem dM_person_13 : decode cM_person 13 = .ok (.bipush 8, 2) := by decide +kernel
theorem dM_person_15 : decode cM_person 15 = .ok (.if_icmp .ge 7, 3) := by decide +kernel
theorem dM_person_18 : decode cM_person 18 = .ok (.iconst 0, 1) := by decide +kernel
theorem dM_person_19 : decode cM_person 19 = .ok (.goto 5, 3) := by decide +kernel
theorem dM_person_22 : decode cM_person 22 = .ok (.bipush 7, 2) := by decide +kernel
theorem dM_person_24 : decode cM_person 24 = .ok (.istore_n 3, 1) := by decide +kernel
theorem dM_person_25 : decode cM_person 25 = .ok (.aload_n 0, 1) := by decide +kernel
theorem dM_person_26 : decode cM_person 26 = .ok (.iload_n 3, 1) := by decide +kernel
theorem dM_person_27 : decode cM_person 27 = .ok (.iconst 1, 1) := by decide +kernel
theorem dM_person_28 : decode cM_person 28 = .ok (.invokevirtual 112, 3) := by decide +kernel
theorem dM_person_31 : decode cM_person 31 = .ok (.ifCond .ne 5, 3) := by decide +kernel
theorem dM_person_34 : decode cM_person 34 = .ok (.iconst 0, 1) := by decide +kernel
theorem dM_person_35 : decode cM_person 35 = .ok (.ireturn, 1) := by decide +kernel
theorem dM_person_36 : decode cM_person 36 = .ok (.aload_n 0, 1) := by decide +kernel
theorem dM_person_37 : decode cM_person 37 = .ok (.getfield 7, 3) := by decide +kernel
theorem dM_person_40 : decode cM_person 40 = .ok (.iload_n 1, 1) := by decide +kernel
theorem dM_person_41 : decode cM_person 41 = .ok (.iload_n 2, 1) := by decide +kernel
theorem dM_person_42 : decode cM_person 42 = .ok (.iastore, 1) := by decide +kernel
theorem dM_person_43 : decode cM_person 43 = .ok (.aload_n 0, 1) := by decide +kernel
theorem dM_person_44 : decode cM_person 44 = .ok (.invokevirtual 115, 3) := by decide +kernel
theorem dM_person_47 : decode cM_person 47 = .ok (.iconst 1, 1) := by decide +kernel
theorem dM_person_48 : decode cM_person 48 = .ok (.ireturn, 1) := by decide +kernel
abbrev cM_blank : ByteArray := prog_9_method_32_code
abbrev yM_blank : MethodName := ⟨"DrawingVaultModel", "blank", "(I)V"⟩
theorem dM_blank_0 : decode cM_blank 0 = .ok (.iconst 0, 1) := by decide +kernel
theorem dM_blank_1 : decode cM_blank 1 = .ok (.istore_n 2, 1) := by decide +kernel
theorem dM_blank_2 : decode cM_blank 2 = .ok (.iload_n 2, 1) := by decide +kernel
theorem dM_blank_3 : decode cM_blank 3 = .ok (.bipush 80, 2) := by decide +kernel
theorem dM_blank_5 : decode cM_blank 5 = .ok (.if_icmp .ge 18, 3) := by decide +kernel
theorem dM_blank_8 : decode cM_blank 8 = .ok (.aload_n 0, 1) := by decide +kernel
theorem dM_blank_9 : decode cM_blank 9 = .ok (.getfield 7, 3) := by decide +kernel
theorem dM_blank_12 : decode cM_blank 12 = .ok (.iload_n 1, 1) := by decide +kernel
theorem dM_blank_13 : decode cM_blank 13 = .ok (.iload_n 2, 1) := by decide +kernel
theorem dM_blank_14 : decode cM_blank 14 = .ok (.iadd, 1) := by decide +kernel
theorem dM_blank_15 : decode cM_blank 15 = .ok (.iconst 0, 1) := by decide +kernel
theorem dM_blank_16 : decode cM_blank 16 = .ok (.iastore, 1) := by decide +kernel
theorem dM_blank_17 : decode cM_blank 17 = .ok (.iinc 2 1, 3) := by decide +kernel
theorem dM_blank_20 : decode cM_blank 20 = .ok (.goto (-18), 3) := by decide +kernel
theorem dM_blank_23 : decode cM_blank 23 = .ok (.return_, 1) := by decide +kernel
abbrev cM_drawing : ByteArray := prog_9_method_33_code
abbrev yM_drawing : MethodName := ⟨"DrawingVaultModel", "drawing", "(I)I"⟩
theorem dM_drawing_0 : decode cM_drawing 0 = .ok (.aload_n 0, 1) := by decide +kernel
theorem dM_drawing_1 : decode cM_drawing 1 = .ok (.iload_n 1, 1) := by decide +kernel
theorem dM_drawing_2 : decode cM_drawing 2 = .ok (.invokevirtual 118, 3) := by decide +kernel
theorem dM_drawing_5 : decode cM_drawing 5 = .ok (.iconst 1, 1) := by decide +kernel
theorem dM_drawing_6 : decode cM_drawing 6 = .ok (.iand, 1) := by decide +kernel
theorem dM_drawing_7 : decode cM_drawing 7 = .ok (.ifCond .ne 7, 3) := by decide +kernel
theorem dM_drawing_10 : decode cM_drawing 10 = .ok (.iconst 1, 1) := by decide +kernel
theorem dM_drawing_11 : decode cM_drawing 11 = .ok (.goto 4, 3) := by decide +kernel
theorem dM_drawing_14 : decode cM_drawing 14 = .ok (.iconst 0, 1) := by decide +kernel
theorem dM_drawing_15 : decode cM_drawing 15 = .ok (.iconst 1, 1) := by decide +kernel
theorem dM_drawing_16 : decode cM_drawing 16 = .ok (.aload_n 0, 1) := by decide +kernel
theorem dM_drawing_17 : decode cM_drawing 17 = .ok (.getfield 7, 3) := by decide +kernel
theorem dM_drawing_20 : decode cM_drawing 20 = .ok (.bipush 16, 2) := by decide +kernel
theorem dM_drawing_22 : decode cM_drawing 22 = .ok (.iaload, 1) := by decide +kernel
theorem dM_drawing_23 : decode cM_drawing 23 = .ok (.bipush 24, 2) := by decide +kernel
theorem dM_drawing_25 : decode cM_drawing 25 = .ok (.if_icmp .eq 12, 3) := by decide +kernel
theorem dM_drawing_28 : decode cM_drawing 28 = .ok (.aload_n 0, 1) := by decide +kernel
theorem dM_drawing_29 : decode cM_drawing 29 = .ok (.invokevirtual 92, 3) := by decide +kernel
theorem dM_drawing_32 : decode cM_drawing 32 = .ok (.bipush 100, 2) := by decide +kernel
theorem dM_drawing_34 : decode cM_drawing 34 = .ok (.if_icmp .ne 7, 3) := by decide +kernel
theorem dM_drawing_37 : decode cM_drawing 37 = .ok (.iconst 1, 1) := by decide +kernel
theorem dM_drawing_38 : decode cM_drawing 38 = .ok (.goto 4, 3) := by decide +kernel
theorem dM_drawing_41 : decode cM_drawing 41 = .ok (.iconst 0, 1) := by decide +kernel
theorem dM_drawing_42 : decode cM_drawing 42 = .ok (.bipush 8, 2) := by decide +kernel
theorem dM_drawing_44 : decode cM_drawing 44 = .ok (.iconst 0, 1) := by decide +kernel
theorem dM_drawing_45 : decode cM_drawing 45 = .ok (.invokestatic 121, 3) := by decide +kernel
theorem dM_drawing_48 : decode cM_drawing 48 = .ok (.invokestatic 121, 3) := by decide +kernel
theorem dM_drawing_51 : decode cM_drawing 51 = .ok (.istore_n 2, 1) := by decide +kernel
theorem dM_drawing_52 : decode cM_drawing 52 = .ok (.aload_n 0, 1) := by decide +kernel
theorem dM_drawing_53 : decode cM_drawing 53 = .ok (.iload_n 2, 1) := by decide +kernel
theorem dM_drawing_54 : decode cM_drawing 54 = .ok (.iconst 2, 1) := by decide +kernel
theorem dM_drawing_55 : decode cM_drawing 55 = .ok (.invokevirtual 112, 3) := by decide +kernel
theorem dM_drawing_58 : decode cM_drawing 58 = .ok (.ifCond .ne 16, 3) := by decide +kernel
theorem dM_drawing_61 : decode cM_drawing 61 = .ok (.aload_n 0, 1) := by decide +kernel
theorem dM_drawing_62 : decode cM_drawing 62 = .ok (.getfield 33, 3) := by decide +kernel
theorem dM_drawing_65 : decode cM_drawing 65 = .ok (.ifCond .le 7, 3) := by decide +kernel
theorem dM_drawing_68 : decode cM_drawing 68 = .ok (.iconst 0, 1) := by decide +kernel
theorem dM_drawing_69 : decode cM_drawing 69 = .ok (.goto 4, 3) := by decide +kernel
theorem dM_drawing_72 : decode cM_drawing 72 = .ok (.iconst (-1), 1) := by decide +kernel
theorem dM_drawing_73 : decode cM_drawing 73 = .ok (.ireturn, 1) := by decide +kernel
theorem dM_drawing_74 : decode cM_drawing 74 = .ok (.aload_n 0, 1) := by decide +kernel
theorem dM_drawing_75 : decode cM_drawing 75 = .ok (.getfield 7, 3) := by decide +kernel
theorem dM_drawing_78 : decode cM_drawing 78 = .ok (.bipush 16, 2) := by decide +kernel
theorem dM_drawing_80 : decode cM_drawing 80 = .ok (.iaload, 1) := by decide +kernel
theorem dM_drawing_81 : decode cM_drawing 81 = .ok (.istore_n 3, 1) := by decide +kernel
theorem dM_drawing_82 : decode cM_drawing 82 = .ok (.aload_n 0, 1) := by decide +kernel
theorem dM_drawing_83 : decode cM_drawing 83 = .ok (.getfield 7, 3) := by decide +kernel
theorem dM_drawing_86 : decode cM_drawing 86 = .ok (.bipush 16, 2) := by decide +kernel
theorem dM_drawing_88 : decode cM_drawing 88 = .ok (.dup2, 1) := by decide +kernel
theorem dM_drawing_89 : decode cM_drawing 89 = .ok (.iaload, 1) := by decide +kernel
theorem dM_drawing_90 : decode cM_drawing 90 = .ok (.iconst 1, 1) := by decide +kernel
theorem dM_drawing_91 : decode cM_drawing 91 = .ok (.iadd, 1) := by decide +kernel
theorem dM_drawing_92 : decode cM_drawing 92 = .ok (.iastore, 1) := by decide +kernel
theorem dM_drawing_93 : decode cM_drawing 93 = .ok (.aload_n 0, 1) := by decide +kernel
theorem dM_drawing_94 : decode cM_drawing 94 = .ok (.aload_n 0, 1) := by decide +kernel
theorem dM_drawing_95 : decode cM_drawing 95 = .ok (.iload_n 3, 1) := by decide +kernel
theorem dM_drawing_96 : decode cM_drawing 96 = .ok (.invokevirtual 40, 3) := by decide +kernel
theorem dM_drawing_99 : decode cM_drawing 99 = .ok (.invokevirtual 125, 3) := by decide +kernel
theorem dM_drawing_102 : decode cM_drawing 102 = .ok (.aload_n 0, 1) := by decide +kernel
theorem dM_drawing_103 : decode cM_drawing 103 = .ok (.aload_n 0, 1) := by decide +kernel
theorem dM_drawing_104 : decode cM_drawing 104 = .ok (.iload_n 3, 1) := by decide +kernel
theorem dM_drawing_105 : decode cM_drawing 105 = .ok (.iconst 0, 1) := by decide +kernel
theorem dM_drawing_106 : decode cM_drawing 106 = .ok (.invokevirtual 50, 3) := by decide +kernel
theorem dM_drawing_109 : decode cM_drawing 109 = .ok (.invokevirtual 125, 3) := by decide +kernel
theorem dM_drawing_112 : decode cM_drawing 112 = .ok (.aload_n 0, 1) := by decide +kernel
theorem dM_drawing_113 : decode cM_drawing 113 = .ok (.getfield 7, 3) := by decide +kernel
theorem dM_drawing_116 : decode cM_drawing 116 = .ok (.aload_n 0, 1) := by decide +kernel
theorem dM_drawing_117 : decode cM_drawing 117 = .ok (.iload_n 3, 1) := by decide +kernel
theorem dM_drawing_118 : decode cM_drawing 118 = .ok (.invokevirtual 40, 3) := by decide +kernel
theorem dM_drawing_121 : decode cM_drawing 121 = .ok (.iconst 0, 1) := by decide +kernel
theorem dM_drawing_122 : decode cM_drawing 122 = .ok (.iadd, 1) := by decide +kernel
theorem dM_drawing_123 : decode cM_drawing 123 = .ok (.iconst 1, 1) := by decide +kernel
theorem dM_drawing_124 : decode cM_drawing 124 = .ok (.iastore, 1) := by decide +kernel
theorem dM_drawing_125 : decode cM_drawing 125 = .ok (.aload_n 0, 1) := by decide +kernel
theorem dM_drawing_126 : decode cM_drawing 126 = .ok (.getfield 7, 3) := by decide +kernel
theorem dM_drawing_129 : decode cM_drawing 129 = .ok (.aload_n 0, 1) := by decide +kernel
theorem dM_drawing_130 : decode cM_drawing 130 = .ok (.iload_n 3, 1) := by decide +kernel
theorem dM_drawing_131 : decode cM_drawing 131 = .ok (.iconst 0, 1) := by decide +kernel
theorem dM_drawing_132 : decode cM_drawing 132 = .ok (.invokevirtual 50, 3) := by decide +kernel
theorem dM_drawing_135 : decode cM_drawing 135 = .ok (.iconst 1, 1) := by decide +kernel
theorem dM_drawing_136 : decode cM_drawing 136 = .ok (.iadd, 1) := by decide +kernel
theorem dM_drawing_137 : decode cM_drawing 137 = .ok (.iload_n 1, 1) := by decide +kernel
theorem dM_drawing_138 : decode cM_drawing 138 = .ok (.iastore, 1) := by decide +kernel
theorem dM_drawing_139 : decode cM_drawing 139 = .ok (.aload_n 0, 1) := by decide +kernel
theorem dM_drawing_140 : decode cM_drawing 140 = .ok (.invokevirtual 115, 3) := by decide +kernel
theorem dM_drawing_143 : decode cM_drawing 143 = .ok (.iload_n 3, 1) := by decide +kernel
theorem dM_drawing_144 : decode cM_drawing 144 = .ok (.ireturn, 1) := by decide +kernel
abbrev cM_copy : ByteArray := prog_9_method_34_code
abbrev yM_copy : MethodName := ⟨"DrawingVaultModel", "copy", "(II)V"⟩
theorem dM_copy_0 : decode cM_copy 0 = .ok (.iconst 2, 1) := by decide +kernel
theorem dM_copy_1 : decode cM_copy 1 = .ok (.istore_n 3, 1) := by decide +kernel
theorem dM_copy_2 : decode cM_copy 2 = .ok (.iload_n 3, 1) := by decide +kernel
theorem dM_copy_3 : decode cM_copy 3 = .ok (.bipush 80, 2) := by decide +kernel
theorem dM_copy_5 : decode cM_copy 5 = .ok (.if_icmp .ge 25, 3) := by decide +kernel
theorem dM_copy_8 : decode cM_copy 8 = .ok (.aload_n 0, 1) := by decide +kernel
theorem dM_copy_9 : decode cM_copy 9 = .ok (.getfield 7, 3) := by decide +kernel
theorem dM_copy_12 : decode cM_copy 12 = .ok (.iload_n 2, 1) := by decide +kernel
theorem dM_copy_13 : decode cM_copy 13 = .ok (.iload_n 3, 1) := by decide +kernel
theorem dM_copy_14 : decode cM_copy 14 = .ok (.iadd, 1) := by decide +kernel
theorem dM_copy_15 : decode cM_copy 15 = .ok (.aload_n 0, 1) := by decide +kernel
theorem dM_copy_16 : decode cM_copy 16 = .ok (.getfield 7, 3) := by decide +kernel
theorem dM_copy_19 : decode cM_copy 19 = .ok (.iload_n 1, 1) := by decide +kernel
theorem dM_copy_20 : decode cM_copy 20 = .ok (.iload_n 3, 1) := by decide +kernel
theorem dM_copy_21 : decode cM_copy 21 = .ok (.iadd, 1) := by decide +kernel
theorem dM_copy_22 : decode cM_copy 22 = .ok (.iaload, 1) := by decide +kernel
theorem dM_copy_23 : decode cM_copy 23 = .ok (.iastore, 1) := by decide +kernel
theorem dM_copy_24 : decode cM_copy 24 = .ok (.iinc 3 1, 3) := by decide +kernel
theorem dM_copy_27 : decode cM_copy 27 = .ok (.goto (-25), 3) := by decide +kernel
theorem dM_copy_30 : decode cM_copy 30 = .ok (.return_, 1) := by decide +kernel
abbrev cM_out : ByteArray := prog_9_method_35_code
abbrev yM_out : MethodName := ⟨"DrawingVaultModel", "out", "(II)Z"⟩
theorem dM_out_0 : decode cM_out 0 = .ok (.aload_n 0, 1) := by decide +kernel
theorem dM_out_1 : decode cM_out 1 = .ok (.iload_n 1, 1) := by decide +kernel
theorem dM_out_2 : decode cM_out 2 = .ok (.invokevirtual 44, 3) := by decide +kernel
theorem dM_out_5 : decode cM_out 5 = .ok (.istore_n 3, 1) := by decide +kernel
theorem dM_out_6 : decode cM_out 6 = .ok (.aload_n 0, 1) := by decide +kernel
theorem dM_out_7 : decode cM_out 7 = .ok (.iload_n 2, 1) := by decide +kernel
theorem dM_out_8 : decode cM_out 8 = .ok (.invokevirtual 118, 3) := by decide +kernel
theorem dM_out_11 : decode cM_out 11 = .ok (.ifCond .ne 7, 3) := by decide +kernel
theorem dM_out_14 : decode cM_out 14 = .ok (.iconst 1, 1) := by decide +kernel
theorem dM_out_15 : decode cM_out 15 = .ok (.goto 4, 3) := by decide +kernel
theorem dM_out_18 : decode cM_out 18 = .ok (.iconst 0, 1) := by decide +kernel
theorem dM_out_19 : decode cM_out 19 = .ok (.iconst 1, 1) := by decide +kernel
theorem dM_out_20 : decode cM_out 20 = .ok (.iload_n 3, 1) := by decide +kernel
theorem dM_out_21 : decode cM_out 21 = .ok (.ifCond .ne 7, 3) := by decide +kernel
theorem dM_out_24 : decode cM_out 24 = .ok (.iconst 1, 1) := by decide +kernel
theorem dM_out_25 : decode cM_out 25 = .ok (.goto 4, 3) := by decide +kernel
theorem dM_out_28 : decode cM_out 28 = .ok (.iconst 0, 1) := by decide +kernel
theorem dM_out_29 : decode cM_out 29 = .ok (.bipush 7, 2) := by decide +kernel
theorem dM_out_31 : decode cM_out 31 = .ok (.iload_n 3, 1) := by decide +kernel
theorem dM_out_32 : decode cM_out 32 = .ok (.ifCond .eq 23, 3) := by decide +kernel
theorem dM_out_35 : decode cM_out 35 = .ok (.aload_n 0, 1) := by decide +kernel
theorem dM_out_36 : decode cM_out 36 = .ok (.iload_n 3, 1) := by decide +kernel
theorem dM_out_37 : decode cM_out 37 = .ok (.ifCond .eq 7, 3) := by decide +kernel
theorem dM_out_40 : decode cM_out 40 = .ok (.iload_n 1, 1) := by decide +kernel
theorem dM_out_41 : decode cM_out 41 = .ok (.goto 4, 3) := by decide +kernel
theorem dM_out_44 : decode cM_out 44 = .ok (.iconst 0, 1) := by decide +kernel
theorem dM_out_45 : decode cM_out 45 = .ok (.invokevirtual 76, 3) := by decide +kernel
theorem dM_out_48 : decode cM_out 48 = .ok (.ifCond .lt 7, 3) := by decide +kernel
theorem dM_out_51 : decode cM_out 51 = .ok (.iconst 1, 1) := by decide +kernel
theorem dM_out_52 : decode cM_out 52 = .ok (.goto 4, 3) := by decide +kernel
theorem dM_out_55 : decode cM_out 55 = .ok (.iconst 0, 1) := by decide +kernel
theorem dM_out_56 : decode cM_out 56 = .ok (.iconst 2, 1) := by decide +kernel
theorem dM_out_57 : decode cM_out 57 = .ok (.iconst 0, 1) := by decide +kernel
theorem dM_out_58 : decode cM_out 58 = .ok (.invokestatic 121, 3) := by decide +kernel
theorem dM_out_61 : decode cM_out 61 = .ok (.invokestatic 121, 3) := by decide +kernel
theorem dM_out_64 : decode cM_out 64 = .ok (.invokestatic 121, 3) := by decide +kernel
theorem dM_out_67 : decode cM_out 67 = .ok (.istore 4, 2) := by decide +kernel
theorem dM_out_69 : decode cM_out 69 = .ok (.aload_n 0, 1) := by decide +kernel
theorem dM_out_70 : decode cM_out 70 = .ok (.iload 4, 2) := by decide +kernel
theorem dM_out_72 : decode cM_out 72 = .ok (.iconst 1, 1) := by decide +kernel
theorem dM_out_73 : decode cM_out 73 = .ok (.invokevirtual 112, 3) := by decide +kernel
theorem dM_out_76 : decode cM_out 76 = .ok (.ifCond .ne 5, 3) := by decide +kernel
theorem dM_out_79 : decode cM_out 79 = .ok (.iconst 0, 1) := by decide +kernel
theorem dM_out_80 : decode cM_out 80 = .ok (.ireturn, 1) := by decide +kernel
theorem dM_out_81 : decode cM_out 81 = .ok (.aload_n 0, 1) := by decide +kernel
theorem dM_out_82 : decode cM_out 82 = .ok (.getfield 7, 3) := by decide +kernel
theorem dM_out_85 : decode cM_out 85 = .ok (.aload_n 0, 1) := by decide +kernel
theorem dM_out_86 : decode cM_out 86 = .ok (.iload_n 1, 1) := by decide +kernel
theorem dM_out_87 : decode cM_out 87 = .ok (.invokevirtual 40, 3) := by decide +kernel
theorem dM_out_90 : decode cM_out 90 = .ok (.iconst 1, 1) := by decide +kernel
theorem dM_out_91 : decode cM_out 91 = .ok (.iadd, 1) := by decide +kernel
theorem dM_out_92 : decode cM_out 92 = .ok (.iload_n 2, 1) := by decide +kernel
theorem dM_out_93 : decode cM_out 93 = .ok (.iconst 1, 1) := by decide +kernel
theorem dM_out_94 : decode cM_out 94 = .ok (.iadd, 1) := by decide +kernel
theorem dM_out_95 : decode cM_out 95 = .ok (.iastore, 1) := by decide +kernel
theorem dM_out_96 : decode cM_out 96 = .ok (.aload_n 0, 1) := by decide +kernel
theorem dM_out_97 : decode cM_out 97 = .ok (.aload_n 0, 1) := by decide +kernel
theorem dM_out_98 : decode cM_out 98 = .ok (.iload_n 1, 1) := by decide +kernel
theorem dM_out_99 : decode cM_out 99 = .ok (.aload_n 0, 1) := by decide +kernel
theorem dM_out_100 : decode cM_out 100 = .ok (.iload_n 1, 1) := by decide +kernel
theorem dM_out_101 : decode cM_out 101 = .ok (.invokevirtual 47, 3) := by decide +kernel
theorem dM_out_104 : decode cM_out 104 = .ok (.iconst 1, 1) := by decide +kernel
theorem dM_out_105 : decode cM_out 105 = .ok (.isub, 1) := by decide +kernel
theorem dM_out_106 : decode cM_out 106 = .ok (.invokevirtual 50, 3) := by decide +kernel
theorem dM_out_109 : decode cM_out 109 = .ok (.aload_n 0, 1) := by decide +kernel
theorem dM_out_110 : decode cM_out 110 = .ok (.iload_n 1, 1) := by decide +kernel
theorem dM_out_111 : decode cM_out 111 = .ok (.invokevirtual 40, 3) := by decide +kernel
theorem dM_out_114 : decode cM_out 114 = .ok (.invokevirtual 129, 3) := by decide +kernel
theorem dM_out_117 : decode cM_out 117 = .ok (.aload_n 0, 1) := by decide +kernel
theorem dM_out_118 : decode cM_out 118 = .ok (.invokevirtual 115, 3) := by decide +kernel
theorem dM_out_121 : decode cM_out 121 = .ok (.iconst 1, 1) := by decide +kernel
theorem dM_out_122 : decode cM_out 122 = .ok (.ireturn, 1) := by decide +kernel
abbrev cM_whyNot : ByteArray := prog_9_method_36_code
abbrev yM_whyNot : MethodName := ⟨"DrawingVaultModel", "whyNot", "(II)I"⟩
theorem dM_whyNot_0 : decode cM_whyNot 0 = .ok (.aload_n 0, 1) := by decide +kernel
theorem dM_whyNot_1 : decode cM_whyNot 1 = .ok (.iload_n 1, 1) := by decide +kernel
theorem dM_whyNot_2 : decode cM_whyNot 2 = .ok (.invokevirtual 44, 3) := by decide +kernel
theorem dM_whyNot_5 : decode cM_whyNot 5 = .ok (.istore_n 3, 1) := by decide +kernel
theorem dM_whyNot_6 : decode cM_whyNot 6 = .ok (.aload_n 0, 1) := by decide +kernel
theorem dM_whyNot_7 : decode cM_whyNot 7 = .ok (.iload_n 2, 1) := by decide +kernel
theorem dM_whyNot_8 : decode cM_whyNot 8 = .ok (.invokevirtual 118, 3) := by decide +kernel
theorem dM_whyNot_11 : decode cM_whyNot 11 = .ok (.ifCond .ne 7, 3) := by decide +kernel
theorem dM_whyNot_14 : decode cM_whyNot 14 = .ok (.iconst 1, 1) := by decide +kernel
theorem dM_whyNot_15 : decode cM_whyNot 15 = .ok (.goto 4, 3) := by decide +kernel
theorem dM_whyNot_18 : decode cM_whyNot 18 = .ok (.iconst 0, 1) := by decide +kernel
theorem dM_whyNot_19 : decode cM_whyNot 19 = .ok (.iconst 1, 1) := by decide +kernel
theorem dM_whyNot_20 : decode cM_whyNot 20 = .ok (.iload_n 3, 1) := by decide +kernel
theorem dM_whyNot_21 : decode cM_whyNot 21 = .ok (.ifCond .ne 7, 3) := by decide +kernel
theorem dM_whyNot_24 : decode cM_whyNot 24 = .ok (.iconst 1, 1) := by decide +kernel
theorem dM_whyNot_25 : decode cM_whyNot 25 = .ok (.goto 4, 3) := by decide +kernel
theorem dM_whyNot_28 : decode cM_whyNot 28 = .ok (.iconst 0, 1) := by decide +kernel
theorem dM_whyNot_29 : decode cM_whyNot 29 = .ok (.bipush 7, 2) := by decide +kernel
theorem dM_whyNot_31 : decode cM_whyNot 31 = .ok (.iload_n 3, 1) := by decide +kernel
theorem dM_whyNot_32 : decode cM_whyNot 32 = .ok (.ifCond .eq 24, 3) := by decide +kernel
theorem dM_whyNot_35 : decode cM_whyNot 35 = .ok (.aload_n 0, 1) := by decide +kernel
theorem dM_whyNot_36 : decode cM_whyNot 36 = .ok (.iload_n 3, 1) := by decide +kernel
theorem dM_whyNot_37 : decode cM_whyNot 37 = .ok (.ifCond .eq 7, 3) := by decide +kernel
theorem dM_whyNot_40 : decode cM_whyNot 40 = .ok (.iload_n 1, 1) := by decide +kernel
theorem dM_whyNot_41 : decode cM_whyNot 41 = .ok (.goto 4, 3) := by decide +kernel
theorem dM_whyNot_44 : decode cM_whyNot 44 = .ok (.iconst 0, 1) := by decide +kernel
theorem dM_whyNot_45 : decode cM_whyNot 45 = .ok (.invokevirtual 76, 3) := by decide +kernel
theorem dM_whyNot_48 : decode cM_whyNot 48 = .ok (.iload_n 2, 1) := by decide +kernel
theorem dM_whyNot_49 : decode cM_whyNot 49 = .ok (.if_icmp .eq 7, 3) := by decide +kernel
theorem dM_whyNot_52 : decode cM_whyNot 52 = .ok (.iconst 1, 1) := by decide +kernel
theorem dM_whyNot_53 : decode cM_whyNot 53 = .ok (.goto 4, 3) := by decide +kernel
theorem dM_whyNot_56 : decode cM_whyNot 56 = .ok (.iconst 0, 1) := by decide +kernel
theorem dM_whyNot_57 : decode cM_whyNot 57 = .ok (.iconst 2, 1) := by decide +kernel
theorem dM_whyNot_58 : decode cM_whyNot 58 = .ok (.iconst 0, 1) := by decide +kernel
theorem dM_whyNot_59 : decode cM_whyNot 59 = .ok (.invokestatic 121, 3) := by decide +kernel
theorem dM_whyNot_62 : decode cM_whyNot 62 = .ok (.invokestatic 121, 3) := by decide +kernel
theorem dM_whyNot_65 : decode cM_whyNot 65 = .ok (.invokestatic 121, 3) := by decide +kernel
theorem dM_whyNot_68 : decode cM_whyNot 68 = .ok (.ireturn, 1) := by decide +kernel
abbrev cM_undo : ByteArray := prog_9_method_37_code
abbrev yM_undo : MethodName := ⟨"DrawingVaultModel", "undo", "(II)Z"⟩
theorem dM_undo_0 : decode cM_undo 0 = .ok (.aload_n 0, 1) := by decide +kernel
theorem dM_undo_1 : decode cM_undo 1 = .ok (.aload_n 0, 1) := by decide +kernel
theorem dM_undo_2 : decode cM_undo 2 = .ok (.iload_n 1, 1) := by decide +kernel
theorem dM_undo_3 : decode cM_undo 3 = .ok (.iload_n 2, 1) := by decide +kernel
theorem dM_undo_4 : decode cM_undo 4 = .ok (.invokevirtual 133, 3) := by decide +kernel
theorem dM_undo_7 : decode cM_undo 7 = .ok (.iconst 1, 1) := by decide +kernel
theorem dM_undo_8 : decode cM_undo 8 = .ok (.invokevirtual 112, 3) := by decide +kernel
theorem dM_undo_11 : decode cM_undo 11 = .ok (.ifCond .ne 5, 3) := by decide +kernel
theorem dM_undo_14 : decode cM_undo 14 = .ok (.iconst 0, 1) := by decide +kernel
theorem dM_undo_15 : decode cM_undo 15 = .ok (.ireturn, 1) := by decide +kernel
theorem dM_undo_16 : decode cM_undo 16 = .ok (.aload_n 0, 1) := by decide +kernel
theorem dM_undo_17 : decode cM_undo 17 = .ok (.getfield 7, 3) := by decide +kernel
theorem dM_undo_20 : decode cM_undo 20 = .ok (.aload_n 0, 1) := by decide +kernel
theorem dM_undo_21 : decode cM_undo 21 = .ok (.iload_n 1, 1) := by decide +kernel
theorem dM_undo_22 : decode cM_undo 22 = .ok (.invokevirtual 40, 3) := by decide +kernel
theorem dM_undo_25 : decode cM_undo 25 = .ok (.iconst 1, 1) := by decide +kernel
theorem dM_undo_26 : decode cM_undo 26 = .ok (.iadd, 1) := by decide +kernel
theorem dM_undo_27 : decode cM_undo 27 = .ok (.iconst 0, 1) := by decide +kernel
theorem dM_undo_28 : decode cM_undo 28 = .ok (.iastore, 1) := by decide +kernel
theorem dM_undo_29 : decode cM_undo 29 = .ok (.aload_n 0, 1) := by decide +kernel
theorem dM_undo_30 : decode cM_undo 30 = .ok (.invokevirtual 115, 3) := by decide +kernel
theorem dM_undo_33 : decode cM_undo 33 = .ok (.iconst 1, 1) := by decide +kernel
theorem dM_undo_34 : decode cM_undo 34 = .ok (.ireturn, 1) := by decide +kernel
abbrev cM_mayHere : ByteArray := prog_9_method_38_code
abbrev yM_mayHere : MethodName := ⟨"DrawingVaultModel", "mayHere", "(I)Z"⟩
theorem dM_mayHere_0 : decode cM_mayHere 0 = .ok (.aload_n 0, 1) := by decide +kernel
theorem dM_mayHere_1 : decode cM_mayHere 1 = .ok (.aload_n 0, 1) := by decide +kernel
theorem dM_mayHere_2 : decode cM_mayHere 2 = .ok (.getfield 102, 3) := by decide +kernel
theorem dM_mayHere_5 : decode cM_mayHere 5 = .ok (.ifCond .eq 7, 3) := by decide +kernel
theorem dM_mayHere_8 : decode cM_mayHere 8 = .ok (.iconst 1, 1) := by decide +kernel
theorem dM_mayHere_9 : decode cM_mayHere 9 = .ok (.goto 4, 3) := by decide +kernel
theorem dM_mayHere_12 : decode cM_mayHere 12 = .ok (.iconst 0, 1) := by decide +kernel
theorem dM_mayHere_13 : decode cM_mayHere 13 = .ok (.putfield 33, 3) := by decide +kernel
theorem dM_mayHere_16 : decode cM_mayHere 16 = .ok (.aload_n 0, 1) := by decide +kernel
theorem dM_mayHere_17 : decode cM_mayHere 17 = .ok (.getfield 102, 3) := by decide +kernel
theorem dM_mayHere_20 : decode cM_mayHere 20 = .ok (.ifCond .eq 5, 3) := by decide +kernel
theorem dM_mayHere_23 : decode cM_mayHere 23 = .ok (.iconst 0, 1) := by decide +kernel
theorem dM_mayHere_24 : decode cM_mayHere 24 = .ok (.ireturn, 1) := by decide +kernel
theorem dM_mayHere_25 : decode cM_mayHere 25 = .ok (.aload_n 0, 1) := by decide +kernel
theorem dM_mayHere_26 : decode cM_mayHere 26 = .ok (.iload_n 1, 1) := by decide +kernel
theorem dM_mayHere_27 : decode cM_mayHere 27 = .ok (.putfield 106, 3) := by decide +kernel
theorem dM_mayHere_30 : decode cM_mayHere 30 = .ok (.iload_n 1, 1) := by decide +kernel
theorem dM_mayHere_31 : decode cM_mayHere 31 = .ok (.ifCond .ne 7, 3) := by decide +kernel
theorem dM_mayHere_34 : decode cM_mayHere 34 = .ok (.iconst 1, 1) := by decide +kernel
theorem dM_mayHere_35 : decode cM_mayHere 35 = .ok (.goto 4, 3) := by decide +kernel
theorem dM_mayHere_38 : decode cM_mayHere 38 = .ok (.iconst 0, 1) := by decide +kernel
theorem dM_mayHere_39 : decode cM_mayHere 39 = .ok (.ireturn, 1) := by decide +kernel
abbrev cM_put : ByteArray := prog_9_method_39_code
abbrev yM_put : MethodName := ⟨"DrawingVaultModel", "put", "(IIII)Z"⟩
theorem dM_put_0 : decode cM_put 0 = .ok (.aload_n 0, 1) := by decide +kernel
theorem dM_put_1 : decode cM_put 1 = .ok (.iload_n 1, 1) := by decide +kernel
theorem dM_put_2 : decode cM_put 2 = .ok (.iload_n 2, 1) := by decide +kernel
theorem dM_put_3 : decode cM_put 3 = .ok (.invokevirtual 133, 3) := by decide +kernel
theorem dM_put_6 : decode cM_put 6 = .ok (.istore 5, 2) := by decide +kernel
theorem dM_put_8 : decode cM_put 8 = .ok (.iload 5, 2) := by decide +kernel
theorem dM_put_10 : decode cM_put 10 = .ok (.ifCond .ne 49, 3) := by decide +kernel
theorem dM_put_13 : decode cM_put 13 = .ok (.iload_n 3, 1) := by decide +kernel
theorem dM_put_14 : decode cM_put 14 = .ok (.ifCond .lt 45, 3) := by decide +kernel
theorem dM_put_17 : decode cM_put 17 = .ok (.iload_n 3, 1) := by decide +kernel
theorem dM_put_18 : decode cM_put 18 = .ok (.aload_n 0, 1) := by decide +kernel
theorem dM_put_19 : decode cM_put 19 = .ok (.getfield 7, 3) := by decide +kernel
theorem dM_put_22 : decode cM_put 22 = .ok (.aload_n 0, 1) := by decide +kernel
theorem dM_put_23 : decode cM_put 23 = .ok (.iload 5, 2) := by decide +kernel
theorem dM_put_25 : decode cM_put 25 = .ok (.ifCond .ne 7, 3) := by decide +kernel
theorem dM_put_28 : decode cM_put 28 = .ok (.iload_n 1, 1) := by decide +kernel
theorem dM_put_29 : decode cM_put 29 = .ok (.goto 4, 3) := by decide +kernel
theorem dM_put_32 : decode cM_put 32 = .ok (.iconst 0, 1) := by decide +kernel
theorem dM_put_33 : decode cM_put 33 = .ok (.invokevirtual 40, 3) := by decide +kernel
theorem dM_put_36 : decode cM_put 36 = .ok (.iconst 2, 1) := by decide +kernel
theorem dM_put_37 : decode cM_put 37 = .ok (.iadd, 1) := by decide +kernel
theorem dM_put_38 : decode cM_put 38 = .ok (.iaload, 1) := by decide +kernel
theorem dM_put_39 : decode cM_put 39 = .ok (.if_icmp .ge 20, 3) := by decide +kernel
theorem dM_put_42 : decode cM_put 42 = .ok (.iload 4, 2) := by decide +kernel
theorem dM_put_44 : decode cM_put 44 = .ok (.ifCond .lt 15, 3) := by decide +kernel
theorem dM_put_47 : decode cM_put 47 = .ok (.iload 4, 2) := by decide +kernel
theorem dM_put_49 : decode cM_put 49 = .ok (.sipush 256, 3) := by decide +kernel
theorem dM_put_52 : decode cM_put 52 = .ok (.if_icmp .ge 7, 3) := by decide +kernel
theorem dM_put_55 : decode cM_put 55 = .ok (.iconst 1, 1) := by decide +kernel
theorem dM_put_56 : decode cM_put 56 = .ok (.goto 4, 3) := by decide +kernel
theorem dM_put_59 : decode cM_put 59 = .ok (.iconst 0, 1) := by decide +kernel
theorem dM_put_60 : decode cM_put 60 = .ok (.istore 6, 2) := by decide +kernel
theorem dM_put_62 : decode cM_put 62 = .ok (.aload_n 0, 1) := by decide +kernel
theorem dM_put_63 : decode cM_put 63 = .ok (.iload 5, 2) := by decide +kernel
theorem dM_put_65 : decode cM_put 65 = .ok (.ifCond .ne 13, 3) := by decide +kernel
theorem dM_put_68 : decode cM_put 68 = .ok (.iload 6, 2) := by decide +kernel
theorem dM_put_70 : decode cM_put 70 = .ok (.ifCond .ne 8, 3) := by decide +kernel
theorem dM_put_73 : decode cM_put 73 = .ok (.bipush 7, 2) := by decide +kernel
theorem dM_put_75 : decode cM_put 75 = .ok (.goto 5, 3) := by decide +kernel
theorem dM_put_78 : decode cM_put 78 = .ok (.iload 5, 2) := by decide +kernel
theorem dM_put_80 : decode cM_put 80 = .ok (.invokevirtual 136, 3) := by decide +kernel
theorem dM_put_83 : decode cM_put 83 = .ok (.ifCond .ne 5, 3) := by decide +kernel
theorem dM_put_86 : decode cM_put 86 = .ok (.iconst 0, 1) := by decide +kernel
theorem dM_put_87 : decode cM_put 87 = .ok (.ireturn, 1) := by decide +kernel
theorem dM_put_88 : decode cM_put 88 = .ok (.aload_n 0, 1) := by decide +kernel
theorem dM_put_89 : decode cM_put 89 = .ok (.getfield 7, 3) := by decide +kernel
theorem dM_put_92 : decode cM_put 92 = .ok (.aload_n 0, 1) := by decide +kernel
theorem dM_put_93 : decode cM_put 93 = .ok (.iload_n 1, 1) := by decide +kernel
theorem dM_put_94 : decode cM_put 94 = .ok (.invokevirtual 40, 3) := by decide +kernel
theorem dM_put_97 : decode cM_put 97 = .ok (.bipush 16, 2) := by decide +kernel
theorem dM_put_99 : decode cM_put 99 = .ok (.iadd, 1) := by decide +kernel
theorem dM_put_100 : decode cM_put 100 = .ok (.iload_n 3, 1) := by decide +kernel
theorem dM_put_101 : decode cM_put 101 = .ok (.iadd, 1) := by decide +kernel
theorem dM_put_102 : decode cM_put 102 = .ok (.iload 4, 2) := by decide +kernel
theorem dM_put_104 : decode cM_put 104 = .ok (.iastore, 1) := by decide +kernel
theorem dM_put_105 : decode cM_put 105 = .ok (.iconst 1, 1) := by decide +kernel
theorem dM_put_106 : decode cM_put 106 = .ok (.ireturn, 1) := by decide +kernel
theorem wd_127 : (.fieldLink "DrawingVaultModel" 13 "DrawingVaultModel" "kept" "[I" : Cond) ∈ aw := aw_in (tb_4 (List.mem_of_getElem? (i := 33) rfl)) rfl
theorem wd_128 : (.fieldLink "DrawingVaultModel" 102 "DrawingVaultModel" "failed" "Z" : Cond) ∈ aw := aw_in (tb_4 (List.mem_of_getElem? (i := 34) rfl)) rfl
theorem wd_129 : (.fieldLink "DrawingVaultModel" 106 "DrawingVaultModel" "reason" "I" : Cond) ∈ aw := aw_in (tb_4 (List.mem_of_getElem? (i := 31) rfl)) rfl
theorem wd_130 : (.fieldLink "DrawingVaultModel" 16 "DrawingVaultModel" "powerLeft" "I" : Cond) ∈ aw := aw_in (tb_4 (List.mem_of_getElem? (i := 35) rfl)) rfl
theorem wd_131 : (.code ⟨"DrawingVaultModel", "needed", "()I"⟩ prog_9_method_28_code 3 (Option.some .int) : Cond) ∈ aw := aw_in (tb_4 (List.mem_of_getElem? (i := 88) rfl)) rfl
theorem wd_132 : (.methodLink "DrawingVaultModel" 109 ⟨"DrawingVaultModel", "needed", "()I"⟩ : Cond) ∈ aw := aw_in (tb_4 (List.mem_of_getElem? (i := 85) rfl)) rfl
theorem wd_133 : (.instanceMethod ⟨"DrawingVaultModel", "needed", "()I"⟩ : Cond) ∈ aw := aw_in (tb_4 (List.mem_of_getElem? (i := 87) rfl)) rfl
theorem wd_134 : (.selects "DrawingVaultModel" ⟨"DrawingVaultModel", "needed", "()I"⟩ ⟨"DrawingVaultModel", "needed", "()I"⟩ : Cond) ∈ aw := aw_in (tb_s (q := (⟨"DrawingVaultModel", "needed", "()I"⟩, _)) (List.mem_append_right _ (List.mem_append_right _ (List.mem_append_left _ (List.mem_of_getElem? (i := 7) rfl))))) rfl
theorem wd_135 : (.code ⟨"DrawingVaultModel", "keep", "()V"⟩ prog_9_method_3_code 2 (Option.none : Option Jvm.ClassFile.FieldType) : Cond) ∈ aw := aw_in (tb_4 (List.mem_of_getElem? (i := 29) rfl)) rfl
theorem wd_136 : (.methodLink "DrawingVaultModel" 30 ⟨"DrawingVaultModel", "keep", "()V"⟩ : Cond) ∈ aw := aw_in (tb_4 (List.mem_of_getElem? (i := 26) rfl)) rfl
theorem wd_137 : (.instanceMethod ⟨"DrawingVaultModel", "keep", "()V"⟩ : Cond) ∈ aw := aw_in (tb_4 (List.mem_of_getElem? (i := 28) rfl)) rfl
theorem wd_138 : (.selects "DrawingVaultModel" ⟨"DrawingVaultModel", "keep", "()V"⟩ ⟨"DrawingVaultModel", "keep", "()V"⟩ : Cond) ∈ aw := aw_in (tb_s (q := (⟨"DrawingVaultModel", "keep", "()V"⟩, _)) (List.mem_append_right _ (List.mem_append_right _ (List.mem_append_left _ (List.mem_of_getElem? (i := 3) rfl))))) rfl
theorem wd_139 : (.code ⟨"DrawingVaultModel", "may", "(II)Z"⟩ prog_9_method_29_code 4 (Option.some .boolean) : Cond) ∈ aw := aw_in (tb_4 (List.mem_of_getElem? (i := 80) rfl)) rfl
theorem wd_140 : (.methodLink "DrawingVaultModel" 112 ⟨"DrawingVaultModel", "may", "(II)Z"⟩ : Cond) ∈ aw := aw_in (tb_4 (List.mem_of_getElem? (i := 77) rfl)) rfl
theorem wd_141 : (.instanceMethod ⟨"DrawingVaultModel", "may", "(II)Z"⟩ : Cond) ∈ aw := aw_in (tb_4 (List.mem_of_getElem? (i := 79) rfl)) rfl
theorem wd_142 : (.selects "DrawingVaultModel" ⟨"DrawingVaultModel", "may", "(II)Z"⟩ ⟨"DrawingVaultModel", "may", "(II)Z"⟩ : Cond) ∈ aw := aw_in (tb_s (q := (⟨"DrawingVaultModel", "may", "(II)Z"⟩, _)) (List.mem_append_right _ (List.mem_append_right _ (List.mem_append_left _ (List.mem_of_getElem? (i := 5) rfl))))) rfl
theorem wd_143 : (.code ⟨"DrawingVaultModel", "close", "()V"⟩ prog_9_method_30_code 2 (Option.none : Option Jvm.ClassFile.FieldType) : Cond) ∈ aw := aw_in (tb_4 (List.mem_of_getElem? (i := 84) rfl)) rfl
theorem wd_144 : (.methodLink "DrawingVaultModel" 115 ⟨"DrawingVaultModel", "close", "()V"⟩ : Cond) ∈ aw := aw_in (tb_4 (List.mem_of_getElem? (i := 81) rfl)) rfl
theorem wd_145 : (.instanceMethod ⟨"DrawingVaultModel", "close", "()V"⟩ : Cond) ∈ aw := aw_in (tb_4 (List.mem_of_getElem? (i := 83) rfl)) rfl
theorem wd_146 : (.selects "DrawingVaultModel" ⟨"DrawingVaultModel", "close", "()V"⟩ ⟨"DrawingVaultModel", "close", "()V"⟩ : Cond) ∈ aw := aw_in (tb_s (q := (⟨"DrawingVaultModel", "close", "()V"⟩, _)) (List.mem_append_right _ (List.mem_append_right _ (List.mem_append_left _ (List.mem_of_getElem? (i := 6) rfl))))) rfl
theorem wd_147 : (.code ⟨"DrawingVaultModel", "rights", "(I)I"⟩ prog_9_method_5_code 2 (Option.some .int) : Cond) ∈ aw := aw_in (tb_4 (List.mem_of_getElem? (i := 151) rfl)) rfl
theorem wd_148 : (.methodLink "DrawingVaultModel" 118 ⟨"DrawingVaultModel", "rights", "(I)I"⟩ : Cond) ∈ aw := aw_in (tb_4 (List.mem_of_getElem? (i := 148) rfl)) rfl
theorem wd_149 : (.instanceMethod ⟨"DrawingVaultModel", "rights", "(I)I"⟩ : Cond) ∈ aw := aw_in (tb_4 (List.mem_of_getElem? (i := 150) rfl)) rfl
theorem wd_150 : (.selects "DrawingVaultModel" ⟨"DrawingVaultModel", "rights", "(I)I"⟩ ⟨"DrawingVaultModel", "rights", "(I)I"⟩ : Cond) ∈ aw := aw_in (tb_s (q := (⟨"DrawingVaultModel", "rights", "(I)I"⟩, _)) (List.mem_append_right _ (List.mem_append_right _ (List.mem_append_right _ (List.mem_append_left _ (List.mem_of_getElem? (i := 5) rfl)))))) rfl
theorem wd_151 : (.code ⟨"DrawingVaultModel", "least", "(ZII)I"⟩ prog_9_method_26_code 3 (Option.some .int) : Cond) ∈ aw := aw_in (tb_4 (List.mem_of_getElem? (i := 154) rfl)) rfl
theorem wd_152 : (.methodLink "DrawingVaultModel" 121 ⟨"DrawingVaultModel", "least", "(ZII)I"⟩ : Cond) ∈ aw := aw_in (tb_4 (List.mem_of_getElem? (i := 152) rfl)) rfl
theorem wd_153 : (.static ⟨"DrawingVaultModel", "least", "(ZII)I"⟩ : Cond) ∈ aw := aw_in (tb_4 (List.mem_of_getElem? (i := 153) rfl)) rfl
theorem wd_154 : (.code ⟨"DrawingVaultModel", "blank", "(I)V"⟩ prog_9_method_32_code 3 (Option.none : Option Jvm.ClassFile.FieldType) : Cond) ∈ aw := aw_in (tb_4 (List.mem_of_getElem? (i := 158) rfl)) rfl
theorem wd_155 : (.methodLink "DrawingVaultModel" 125 ⟨"DrawingVaultModel", "blank", "(I)V"⟩ : Cond) ∈ aw := aw_in (tb_4 (List.mem_of_getElem? (i := 155) rfl)) rfl
theorem wd_156 : (.instanceMethod ⟨"DrawingVaultModel", "blank", "(I)V"⟩ : Cond) ∈ aw := aw_in (tb_4 (List.mem_of_getElem? (i := 157) rfl)) rfl
theorem wd_157 : (.selects "DrawingVaultModel" ⟨"DrawingVaultModel", "blank", "(I)V"⟩ ⟨"DrawingVaultModel", "blank", "(I)V"⟩ : Cond) ∈ aw := aw_in (tb_s (q := (⟨"DrawingVaultModel", "blank", "(I)V"⟩, _)) (List.mem_append_right _ (List.mem_append_right _ (List.mem_append_right _ (List.mem_append_left _ (List.mem_of_getElem? (i := 6) rfl)))))) rfl
theorem wd_158 : (.code ⟨"DrawingVaultModel", "copy", "(II)V"⟩ prog_9_method_34_code 4 (Option.none : Option Jvm.ClassFile.FieldType) : Cond) ∈ aw := aw_in (tb_4 (List.mem_of_getElem? (i := 166) rfl)) rfl
theorem wd_159 : (.methodLink "DrawingVaultModel" 129 ⟨"DrawingVaultModel", "copy", "(II)V"⟩ : Cond) ∈ aw := aw_in (tb_4 (List.mem_of_getElem? (i := 163) rfl)) rfl
theorem wd_160 : (.instanceMethod ⟨"DrawingVaultModel", "copy", "(II)V"⟩ : Cond) ∈ aw := aw_in (tb_4 (List.mem_of_getElem? (i := 165) rfl)) rfl
theorem wd_161 : (.selects "DrawingVaultModel" ⟨"DrawingVaultModel", "copy", "(II)V"⟩ ⟨"DrawingVaultModel", "copy", "(II)V"⟩ : Cond) ∈ aw := aw_in (tb_s (q := (⟨"DrawingVaultModel", "copy", "(II)V"⟩, _)) (List.mem_append_right _ (List.mem_append_right _ (List.mem_append_right _ (List.mem_append_left _ (List.mem_of_getElem? (i := 7) rfl)))))) rfl
theorem wd_162 : (.code ⟨"DrawingVaultModel", "whyNot", "(II)I"⟩ prog_9_method_36_code 4 (Option.some .int) : Cond) ∈ aw := aw_in (tb_4 (List.mem_of_getElem? (i := 174) rfl)) rfl
theorem wd_163 : (.methodLink "DrawingVaultModel" 133 ⟨"DrawingVaultModel", "whyNot", "(II)I"⟩ : Cond) ∈ aw := aw_in (tb_4 (List.mem_of_getElem? (i := 171) rfl)) rfl
theorem wd_164 : (.instanceMethod ⟨"DrawingVaultModel", "whyNot", "(II)I"⟩ : Cond) ∈ aw := aw_in (tb_4 (List.mem_of_getElem? (i := 173) rfl)) rfl
theorem wd_165 : (.selects "DrawingVaultModel" ⟨"DrawingVaultModel", "whyNot", "(II)I"⟩ ⟨"DrawingVaultModel", "whyNot", "(II)I"⟩ : Cond) ∈ aw := aw_in (tb_s (q := (⟨"DrawingVaultModel", "whyNot", "(II)I"⟩, _)) (List.mem_append_right _ (List.mem_append_right _ (List.mem_append_right _ (List.mem_append_left _ (List.mem_of_getElem? (i := 8) rfl)))))) rfl
theorem wd_166 : (.code ⟨"DrawingVaultModel", "mayHere", "(I)Z"⟩ prog_9_method_38_code 2 (Option.some .boolean) : Cond) ∈ aw := aw_in (tb_4 (List.mem_of_getElem? (i := 182) rfl)) rfl
theorem wd_167 : (.methodLink "DrawingVaultModel" 136 ⟨"DrawingVaultModel", "mayHere", "(I)Z"⟩ : Cond) ∈ aw := aw_in (tb_4 (List.mem_of_getElem? (i := 179) rfl)) rfl
theorem wd_168 : (.instanceMethod ⟨"DrawingVaultModel", "mayHere", "(I)Z"⟩ : Cond) ∈ aw := aw_in (tb_4 (List.mem_of_getElem? (i := 181) rfl)) rfl
theorem wd_169 : (.selects "DrawingVaultModel" ⟨"DrawingVaultModel", "mayHere", "(I)Z"⟩ ⟨"DrawingVaultModel", "mayHere", "(I)Z"⟩ : Cond) ∈ aw := aw_in (tb_s (q := (⟨"DrawingVaultModel", "mayHere", "(I)Z"⟩, _)) (List.mem_append_right _ (List.mem_append_right _ (List.mem_append_right _ (List.mem_append_left _ (List.mem_of_getElem? (i := 9) rfl)))))) rfl

def M_keep_L2 (n : Nat) (kx3 : hT → Int32 → Option (Unit × hT)) : Nat → hT → Int32 → Option (Unit × hT)
  | 0, _, _ => none
  | k + 1, σ1, p2 => if 25240 ≤ p2 then kx3 (σ1) p2 else if in9 p2 25240 then if in9 p2 25240 then lt9 (sI σ1 16 0 (p2).toNatClampNeg (xI σ1 15 0 (p2).toNatClampNeg)) fun σ10 => M_keep_L2 n kx3 k (σ10) (p2 + 1) else none else none
def M_keep (n : Nat) (σ : hT) : Option (Unit × hT) := lt9 (α := hT → Int32 → Option (Unit × hT)) (fun (σ1 : hT) (p2 : Int32) => some ((), σ1)) fun kx3 => M_keep_L2 n kx3 n (σ) 0
set_option maxHeartbeats 4000000 in
set_option maxRecDepth 100000 in
theorem t_M_keep (l : Launch) (dC : Nat → ClassId) (dI : Nat → Nat → Nat) (ad : Nat → Nat → Nat) (ca : Nat → Nat → ClassId) (dom : List (Nat × Nat)) (sz : Nat) (n : Nat) (σ : hT) (hm0 : (4, 0) ∈ dom) (hN : dom.Nodup) (hC : clo dom σ.2.2) (ρ : Unit) (σ' : hT) (hf : M_keep n σ = some (ρ, σ')) : Met l yM_keep (.code yM_keep cM_keep 2 none :: aw) ({ frames := 0, cells := 0, slots := 0, locals := 0 }) (hW (dC, dI) sz ad ca dom σ [.ref (ad 4 0)]) (va_Qv (fun (_ : Unit) => True) (fun _ t => hB (dC, dI) (va_A (w9 ad ca dom σ) sz) ad ca dom σ' t) (va_A (w9 ad ca dom σ) sz)) 0 0 (va_A (w9 ad ca dom σ) sz) := by
  refine Met.ofW (cc := cM_keep) (maxL := 2) (ret := none) (by decide) rfl ?_
  intro p e s m args below meth c s₁ B hml hv
  obtain ⟨rfl, hv⟩ := hv
  have hx := B.exec
  have hb := B.bytes
  have hr := B.returns
  have hts : ∀ w ∈ aw, w.before _ s = true := fun w h => atoms_spec (ws := (.code yM_keep cM_keep 2 none :: aw)) B.pre w (List.mem_cons_of_mem _ h)
  have hown : s.vm.findClass RM = some m.cls := findClass_of_methodNamed B.named
  have hlocks := B.notSynchronized
  obtain ⟨hsz, hP, hK, hD0, hG⟩ := hv
  subst hsz
  have hD := hD0.self (sz := s.heap.size)
  generalize hAe : va_A (w9 ad ca dom σ) s.heap.size = A at hD ⊢
  have hA : ∀ q : Nat, s.heap.size ≤ q → A q := fun q h => by rw [← hAe]; exact Or.inr h
  obtain ⟨H, hH⟩ : ∃ H, H = s.heap := ⟨_, rfl⟩
  have hS : va_S A s.heap H [] := by rw [hH]; exact va_S.rf
  rw [← hH] at hP ⊢
  unfold M_keep at hf
  have hl := lv_entry ([.ref (ad 4 0)]) (n := 2) (Nat.le_of_ble_eq_true rfl)
  rw [lg_entry_eq]
  generalize (lg_sl ([.ref (ad 4 0)]) ++ List.replicate (2 - (lg_sl ([.ref (ad 4 0)])).length) Slot.unset).toArray = ls at hl ⊢
  have hl : lv_has ls 2 [(0, .ref (ad 4 0))] := hl
  refine lv_iconst (pc := 0) (v := 0) hx hb dM_keep_0 (by decide) ?_
  refine lv_istore_n (pc := 1) hx hb dM_keep_1 rfl hl (by decide) rfl (fun ls hl => ?_)
  have hl : lv_has ls 2 [(1, .int 0), (0, .ref (ad 4 0))] := hl
  obtain ⟨kx3, hkx3, hf⟩ := lt_9 hf
  refine lpF (τ := (hT) × (Int32) × (Heap) × (List Loc) × (Array Slot)) (fun pc z => W p l e _ s m _ below meth c z.2.2.1 z.2.2.2.1 0 0 _ (F0 m pc z.2.2.2.2 [])) 2 27 (fun z => va_P (dC, dI) kCl (w9 ad ca dom z.1) z.2.2.1 ∧ va_D A (w9 ad ca dom z.1) ∧ va_S A s.heap z.2.2.1 z.2.2.2.1 ∧ clo dom z.1.2.2 ∧ lv_has z.2.2.2.2 2 [(1, .int z.2.1), (0, .ref (ad 4 0))]) (fun k z => M_keep_L2 n kx3 k z.1 z.2.1) (fun z => kx3 z.1 z.2.1) _ (fun z => rfl) ?_ ?_ n (σ, 0, H, _, ls) ⟨hP, hD, hS, hC, hl⟩ hf
  · rintro k ⟨σ1, p2, H, locs, ls⟩ ⟨hP, hD, hS, hC, hl⟩ hf ih4 hXkx3
    dsimp only at hP hD hS hC hl hf ih4 hXkx3 ⊢
    unfold M_keep_L2 at hf
    have hl : lv_has ls 2 [(1, .int p2), (0, .ref (ad 4 0))] := hl
    refine lv_iload_n (pc := 2) hx hb dM_keep_2 rfl (lv_at hl 0 rfl) ?_
    refine lv_sipush (pc := 3) (v := 25240) hx hb dM_keep_3 (by decide) ?_
    refine lv_icmp_ge (pc := 6) (tgt := 27) hx hb dM_keep_6 rfl (fun h5 => ?_) (fun h5 => ?_)
    · replace hf := ite_t h5 hf
      have hl := lv_sub hl (l' := [(1, .int p2), (0, .ref (ad 4 0))]) [0, 1] rfl
      exact hXkx3 (σ1, p2, H, _, ls) ⟨hP, hD, hS, hC, hl⟩ hf
    · replace hf := ite_f h5 hf
      refine lv_aload_n (pc := 9) hx hb dM_keep_9 rfl (lv_at hl 1 rfl) ?_
      obtain ⟨q6, hq6, eq6⟩ := at_4 (ad := ad) (ca := ca) (σ := σ1) hm0
      refine va_get (D := (dC, dI)) (cl := kCl) (C := RM) (T := TM) (N := 11) (pc := 10) hx hb hts inM hown hK.1 hP q6 eq6 rfl 3 (by decide) (hts _ wd_127) (fun _ h9 => h9) rfl dM_keep_10 ?_
      refine lv_iload_n (pc := 13) hx hb dM_keep_13 rfl (lv_at hl 0 rfl) ?_
      refine lv_aload_n (pc := 14) hx hb dM_keep_14 rfl (lv_at hl 1 rfl) ?_
      obtain ⟨q7, hq7, eq7⟩ := at_4 (ad := ad) (ca := ca) (σ := σ1) hm0
      refine va_get (D := (dC, dI)) (cl := kCl) (C := RM) (T := TM) (N := 11) (pc := 15) hx hb hts inM hown hK.1 hP q7 eq7 rfl 2 (by decide) (hts _ wd_51) (fun _ h9 => h9) rfl dM_keep_15 ?_
      refine lv_iload_n (pc := 18) hx hb dM_keep_18 rfl (lv_at hl 0 rfl) ?_
      obtain ⟨hv8, hf⟩ := ite_s hf
      obtain ⟨q9, hq9, eq9⟩ := at_15 (ad := ad) (ca := ca) (σ := σ1) (cm_4_2 hC hm0)
      refine va_iald (D := (dC, dI)) (cl := kCl) (pc := 19) hx hb (hK.2 15 0 .int (cm_4_2 hC hm0) rfl) hP q9 0 eq9 rfl (hv8) dM_keep_19 ?_
      refine W.eq (g2 := F0 m 20 ls [.int (xI σ1 15 0 (p2).toNatClampNeg), .int p2, .ref (ad 16 0)]) rfl ?_
      obtain ⟨hv11, hf⟩ := ite_s hf
      obtain ⟨q12, hq12, eq12⟩ := at_16 (ad := ad) (ca := ca) (σ := σ1) (cm_4_3 hC hm0)
      refine va_iast (D := (dC, dI)) (cl := kCl) (pc := 20) hx hb (hK.2 16 0 .int (cm_4_3 hC hm0) rfl) hP hD hS q12 0 eq12 rfl (hv11) dM_keep_20 (fun H locs hP hD hS => ?_)
      obtain ⟨σ10, hσ10, hf⟩ := lt_9 hf
      obtain ⟨hP, hD⟩ := w9_rI 16 rfl hN hq12 hσ10 (pr_16) hP hD
      have hC : clo dom σ10.2.2 := by rw [hσ10]; exact hC
      refine lv_iinc (pc := 21) (v := (p2 + 1)) hx hb dM_keep_21 hl (k := 0) rfl (by rfl) (by decide) rfl (fun ls hl => ?_)
      have hl : lv_has ls 2 [(1, .int (p2 + 1)), (0, .ref (ad 4 0))] := hl
      refine lv_goto (pc := 24) (tgt := 2) hx hb dM_keep_24 rfl ?_
      have hl := lv_sub hl (l' := [(1, .int (p2 + 1)), (0, .ref (ad 4 0))]) [0, 1] rfl
      exact ih4 (σ10, (p2 + 1), H, _, ls) ⟨hP, hD, hS, hC, hl⟩ hf
  · rintro ⟨σ1, p2, H, locs, ls⟩ ⟨hP, hD, hS, hC, hl⟩ hf
    dsimp only at hP hD hS hC hl hf ⊢
    rw [hkx3] at hf
    have hl : lv_has ls 2 [(1, .int p2), (0, .ref (ad 4 0))] := hl
    obtain ⟨h8, h9⟩ := Prod.mk.inj (Option.some.inj hf)
    subst h9
    exact W.vret (pc := 27) hx hb hr (fun t ht hW => ⟨⟨(), rfl, trivial, by rw [ht]; exact hP, hD, hC⟩, hS.F ht⟩) hS.2.2 dM_keep_27
def M_may (σ : hT) (a1 : Int32) (a2 : Int32) : Option (Int32 × hT) := lt9 (α := Int32 → Option (Int32 × hT)) (fun (s2 : Int32) => lt9 (α := Int32 → Option (Int32 × hT)) (fun (s9 : Int32) => lt9 (sI σ 500 0 0 s9) fun σ11 => if (xI σ11 504 0 0) = 0 then if s2 = 0 then if (xI σ11 505 0 0) = (-1) then lt9 (sI σ11 501 0 0 s2) fun σ36 => if s2 ≤ 0 then lt9 (α := Int32 → Option (Int32 × hT)) (fun (s41 : Int32) => lt9 (sI σ36 505 0 0 s41) fun σ44 => lt9 (sI σ44 15 0 17 ((xI σ44 15 0 17) - a2)) fun σ48 => lt9 (sI σ48 15 0 18 ((xI σ48 15 0 18) + 1)) fun σ52 => some (1, σ52)) fun x40 => if (xI σ36 505 0 0) = (-1) then x40 (-1) else x40 ((xI σ36 505 0 0) - a2) else some (0, σ36) else if a2 ≤ (xI σ11 505 0 0) then lt9 (sI σ11 501 0 0 s2) fun σ56 => if s2 ≤ 0 then lt9 (α := Int32 → Option (Int32 × hT)) (fun (s61 : Int32) => lt9 (sI σ56 505 0 0 s61) fun σ64 => lt9 (sI σ64 15 0 17 ((xI σ64 15 0 17) - a2)) fun σ68 => lt9 (sI σ68 15 0 18 ((xI σ68 15 0 18) + 1)) fun σ72 => some (1, σ72)) fun x60 => if (xI σ56 505 0 0) = (-1) then x60 (-1) else x60 ((xI σ56 505 0 0) - a2) else some (0, σ56) else lt9 (sI σ11 504 0 0 1) fun σ74 => lt9 (sI σ74 500 0 0 1) fun σ76 => some (0, σ76) else lt9 (sI σ11 501 0 0 s2) fun σ16 => if s2 ≤ 0 then lt9 (α := Int32 → Option (Int32 × hT)) (fun (s21 : Int32) => lt9 (sI σ16 505 0 0 s21) fun σ24 => lt9 (sI σ24 15 0 17 ((xI σ24 15 0 17) - a2)) fun σ28 => lt9 (sI σ28 15 0 18 ((xI σ28 15 0 18) + 1)) fun σ32 => some (1, σ32)) fun x20 => if (xI σ16 505 0 0) = (-1) then x20 (-1) else x20 ((xI σ16 505 0 0) - a2) else some (0, σ16) else some (0, σ11)) fun x8 => if (xI σ 504 0 0) = 0 then x8 0 else x8 1) fun x1 => if a1 = 0 then if a2 ≤ (xI σ 15 0 17) then x1 a1 else x1 8 else x1 a1
set_option maxHeartbeats 4000000 in
set_option maxRecDepth 100000 in
theorem t_M_may (l : Launch) (dC : Nat → ClassId) (dI : Nat → Nat → Nat) (ad : Nat → Nat → Nat) (ca : Nat → Nat → ClassId) (dom : List (Nat × Nat)) (sz : Nat) (σ : hT) (a1 : Int32) (a2 : Int32) (hm0 : (4, 0) ∈ dom) (hN : dom.Nodup) (hC : clo dom σ.2.2) (ρ : Int32) (σ' : hT) (hf : M_may σ a1 a2 = some (ρ, σ')) : Met l yM_may (.code yM_may cM_may 4 (some .boolean) :: aw) ({ frames := 0, cells := 0, slots := 0, locals := 0 }) (hW (dC, dI) sz ad ca dom σ [.ref (ad 4 0), .int a1, .int a2]) (va_Qi (fun r (_ : Unit) => r = ρ) (fun _ t => hB (dC, dI) (va_A (w9 ad ca dom σ) sz) ad ca dom σ' t) (va_A (w9 ad ca dom σ) sz)) 0 0 (va_A (w9 ad ca dom σ) sz) := by
  refine Met.ofW (cc := cM_may) (maxL := 4) (ret := (some .boolean)) (by decide) rfl ?_
  intro p e s m args below meth c s₁ B hml hv
  obtain ⟨rfl, hv⟩ := hv
  have hx := B.exec
  have hb := B.bytes
  have hr := B.returns
  have hts : ∀ w ∈ aw, w.before _ s = true := fun w h => atoms_spec (ws := (.code yM_may cM_may 4 (some .boolean) :: aw)) B.pre w (List.mem_cons_of_mem _ h)
  have hown : s.vm.findClass RM = some m.cls := findClass_of_methodNamed B.named
  have hlocks := B.notSynchronized
  obtain ⟨hsz, hP, hK, hD0, hG⟩ := hv
  subst hsz
  have hD := hD0.self (sz := s.heap.size)
  generalize hAe : va_A (w9 ad ca dom σ) s.heap.size = A at hD ⊢
  have hA : ∀ q : Nat, s.heap.size ≤ q → A q := fun q h => by rw [← hAe]; exact Or.inr h
  obtain ⟨H, hH⟩ : ∃ H, H = s.heap := ⟨_, rfl⟩
  have hS : va_S A s.heap H [] := by rw [hH]; exact va_S.rf
  rw [← hH] at hP ⊢
  unfold M_may at hf
  have hl := lv_entry ([.ref (ad 4 0), .int a1, .int a2]) (n := 4) (Nat.le_of_ble_eq_true rfl)
  rw [lg_entry_eq]
  generalize (lg_sl ([.ref (ad 4 0), .int a1, .int a2]) ++ List.replicate (4 - (lg_sl ([.ref (ad 4 0), .int a1, .int a2])).length) Slot.unset).toArray = ls at hl ⊢
  have hl : lv_has ls 4 [(0, .ref (ad 4 0)), (1, .int a1), (2, .int a2)] := hl
  refine lv_iload_n (pc := 0) hx hb dM_may_0 rfl (lv_at hl 1 rfl) ?_
  obtain ⟨x1, hx1, hf⟩ := lt_9 hf
  refine jnF (τ := (Int32) × (Heap) × (List Loc) × (Array Slot)) (fun pc st z => W p l e _ s m _ below meth c z.2.1 z.2.2.1 0 0 _ (F0 m pc z.2.2.2 st)) (pc0 := 1) (st0 := [.int a1]) (z0 := (0, H, _, ls)) 21 (fun z => [.int z.1]) (fun z => va_P (dC, dI) kCl (w9 ad ca dom (σ)) z.2.1 ∧ va_D A (w9 ad ca dom (σ)) ∧ va_S A s.heap z.2.1 z.2.2.1 ∧ lv_has z.2.2.2 4 [(0, .ref (ad 4 0)), (1, .int a1), (2, .int a2)]) (fun z => x1 z.1) (ρ, σ') ?_ ?_
  · intro hJx1
    dsimp only at hJx1 ⊢
    refine lv_if_ne (pc := 1) (tgt := 20) hx hb dM_may_1 rfl (fun h3 => ?_) (fun h3 => ?_)
    · replace hf := ite_f h3 hf
      refine lv_iload_n (pc := 20) hx hb dM_may_20 rfl (lv_at hl 1 rfl) ?_
      have hl := lv_sub hl (l' := [(0, .ref (ad 4 0)), (1, .int a1), (2, .int a2)]) [0, 1, 2] rfl
      exact hJx1 (a1, H, _, ls) ⟨hP, hD, hS, hl⟩ hf
    · replace hf := ite_t h3 hf
      refine lv_aload_n (pc := 4) hx hb dM_may_4 rfl (lv_at hl 0 rfl) ?_
      obtain ⟨q4, hq4, eq4⟩ := at_4 (ad := ad) (ca := ca) (σ := σ) hm0
      refine va_get (D := (dC, dI)) (cl := kCl) (C := RM) (T := TM) (N := 11) (pc := 5) hx hb hts inM hown hK.1 hP q4 eq4 rfl 2 (by decide) (hts _ wd_51) (fun _ h9 => h9) rfl dM_may_5 ?_
      refine lv_bipush (pc := 8) (v := 17) hx hb dM_may_8 (by decide) ?_
      obtain ⟨q5, hq5, eq5⟩ := at_15 (ad := ad) (ca := ca) (σ := σ) (cm_4_2 hC hm0)
      refine va_iald (D := (dC, dI)) (cl := kCl) (pc := 10) hx hb (hK.2 15 0 .int (cm_4_2 hC hm0) rfl) hP q5 0 eq5 rfl (vp_in_lit 17 25240 (by decide)) dM_may_10 ?_
      refine W.eq (g2 := F0 m 11 ls [.int (xI σ 15 0 17)]) rfl ?_
      refine lv_iload_n (pc := 11) hx hb dM_may_11 rfl (lv_at hl 2 rfl) ?_
      refine lv_icmp_ge (pc := 12) (tgt := 20) hx hb dM_may_12 rfl (fun h6 => ?_) (fun h6 => ?_)
      · replace hf := ite_t h6 hf
        refine lv_iload_n (pc := 20) hx hb dM_may_20 rfl (lv_at hl 1 rfl) ?_
        have hl := lv_sub hl (l' := [(0, .ref (ad 4 0)), (1, .int a1), (2, .int a2)]) [0, 1, 2] rfl
        exact hJx1 (a1, H, _, ls) ⟨hP, hD, hS, hl⟩ hf
      · replace hf := ite_f h6 hf
        refine lv_bipush (pc := 15) (v := 8) hx hb dM_may_15 (by decide) ?_
        refine lv_goto (pc := 17) (tgt := 21) hx hb dM_may_17 rfl ?_
        have hl := lv_sub hl (l' := [(0, .ref (ad 4 0)), (1, .int a1), (2, .int a2)]) [0, 1, 2] rfl
        exact hJx1 (8, H, _, ls) ⟨hP, hD, hS, hl⟩ hf
  · rintro ⟨s2, H, locs, ls⟩ ⟨hP, hD, hS, hl⟩ hf
    dsimp only at hP hD hS hl hf ⊢
    rw [hx1] at hf
    have hl : lv_has ls 4 [(0, .ref (ad 4 0)), (1, .int a1), (2, .int a2)] := hl
    refine lv_istore_n (pc := 21) hx hb dM_may_21 rfl hl (by decide) rfl (fun ls hl => ?_)
    have hl : lv_has ls 4 [(3, .int s2), (0, .ref (ad 4 0)), (1, .int a1), (2, .int a2)] := hl
    refine lv_aload_n (pc := 22) hx hb dM_may_22 rfl (lv_at hl 1 rfl) ?_
    refine lv_aload_n (pc := 23) hx hb dM_may_23 rfl (lv_at hl 1 rfl) ?_
    obtain ⟨q7, hq7, eq7⟩ := at_4 (ad := ad) (ca := ca) (σ := σ) hm0
    refine va_get (D := (dC, dI)) (cl := kCl) (C := RM) (T := TM) (N := 11) (pc := 24) hx hb hts inM hown hK.1 hP q7 eq7 rfl 4 (by decide) (hts _ wd_128) (fun _ h9 => h9) rfl dM_may_24 ?_
    obtain ⟨x8, hx8, hf⟩ := lt_9 hf
    refine jnF (τ := (Int32) × (Heap) × (List Loc) × (Array Slot)) (fun pc st z => W p l e _ s m _ below meth c z.2.1 z.2.2.1 0 0 _ (F0 m pc z.2.2.2 st)) (pc0 := 27) (st0 := [.int (xI σ 504 0 0), .ref (ad 4 0)]) (z0 := (0, H, _, ls)) 35 (fun z => [.int z.1, .ref (ad 4 0)]) (fun z => va_P (dC, dI) kCl (w9 ad ca dom (σ)) z.2.1 ∧ va_D A (w9 ad ca dom (σ)) ∧ va_S A s.heap z.2.1 z.2.2.1 ∧ lv_has z.2.2.2 4 [(3, .int s2), (0, .ref (ad 4 0)), (1, .int a1), (2, .int a2)]) (fun z => x8 z.1) (ρ, σ') ?_ ?_
    · intro hJx8
      dsimp only at hJx8 ⊢
      refine lv_if_eq (pc := 27) (tgt := 34) hx hb dM_may_27 rfl (fun h10 => ?_) (fun h10 => ?_)
      · replace hf := ite_t h10 hf
        refine lv_iconst (pc := 34) (v := 0) hx hb dM_may_34 (by decide) ?_
        have hl := lv_sub hl (l' := [(3, .int s2), (0, .ref (ad 4 0)), (1, .int a1), (2, .int a2)]) [0, 1, 2, 3] rfl
        exact hJx8 (0, H, _, ls) ⟨hP, hD, hS, hl⟩ hf
      · replace hf := ite_f h10 hf
        refine lv_iconst (pc := 30) (v := 1) hx hb dM_may_30 (by decide) ?_
        refine lv_goto (pc := 31) (tgt := 35) hx hb dM_may_31 rfl ?_
        have hl := lv_sub hl (l' := [(3, .int s2), (0, .ref (ad 4 0)), (1, .int a1), (2, .int a2)]) [0, 1, 2, 3] rfl
        exact hJx8 (1, H, _, ls) ⟨hP, hD, hS, hl⟩ hf
    · rintro ⟨s9, H, locs, ls⟩ ⟨hP, hD, hS, hl⟩ hf
      dsimp only at hP hD hS hl hf ⊢
      rw [hx8] at hf
      have hl : lv_has ls 4 [(3, .int s2), (0, .ref (ad 4 0)), (1, .int a1), (2, .int a2)] := hl
      obtain ⟨q12, hq12, eq12⟩ := at_4 (ad := ad) (ca := ca) (σ := σ) hm0
      refine va_put (D := (dC, dI)) (cl := kCl) (ci := 4) (v := .int s9) (ty := .int) (C := RM) (T := TM) (N := 11) (pc := 35) hx hb hts inM tyM tyM_ok nmM hown hK.1 hP hD hS q12 eq12 rfl 0 (by decide) (hts _ wd_45) (fun _ h9 => h9) rfl (by decide +kernel) (rfl) (rfl) (Nat.le_of_ble_eq_true rfl) dM_may_35 (fun H locs hP hD hS => ?_)
      obtain ⟨σ11, hσ11, hf⟩ := lt_9 hf
      obtain ⟨hP, hD⟩ := w9_rI 500 rfl hN hq12 hσ11 (pu_500) hP hD
      have hC : clo dom σ11.2.2 := by rw [hσ11]; exact hC
      refine lv_aload_n (pc := 38) hx hb dM_may_38 rfl (lv_at hl 1 rfl) ?_
      obtain ⟨q13, hq13, eq13⟩ := at_4 (ad := ad) (ca := ca) (σ := σ11) hm0
      refine va_get (D := (dC, dI)) (cl := kCl) (C := RM) (T := TM) (N := 11) (pc := 39) hx hb hts inM hown hK.1 hP q13 eq13 rfl 4 (by decide) (hts _ wd_128) (fun _ h9 => h9) rfl dM_may_39 ?_
      refine lv_if_eq (pc := 42) (tgt := 47) hx hb dM_may_42 rfl (fun h14 => ?_) (fun h14 => ?_)
      · replace hf := ite_t h14 hf
        refine lv_iload_n (pc := 47) hx hb dM_may_47 rfl (lv_at hl 0 rfl) ?_
        refine lv_if_ne (pc := 48) (tgt := 79) hx hb dM_may_48 rfl (fun h15 => ?_) (fun h15 => ?_)
        · replace hf := ite_f h15 hf
          refine lv_aload_n (pc := 79) hx hb dM_may_79 rfl (lv_at hl 1 rfl) ?_
          refine lv_iload_n (pc := 80) hx hb dM_may_80 rfl (lv_at hl 0 rfl) ?_
          obtain ⟨q17, hq17, eq17⟩ := at_4 (ad := ad) (ca := ca) (σ := σ11) hm0
          refine va_put (D := (dC, dI)) (cl := kCl) (ci := 4) (v := .int s2) (ty := .int) (C := RM) (T := TM) (N := 11) (pc := 81) hx hb hts inM tyM tyM_ok nmM hown hK.1 hP hD hS q17 eq17 rfl 1 (by decide) (hts _ wd_129) (fun _ h9 => h9) rfl (by decide +kernel) (rfl) (rfl) (Nat.le_of_ble_eq_true rfl) dM_may_81 (fun H locs hP hD hS => ?_)
          obtain ⟨σ16, hσ16, hf⟩ := lt_9 hf
          obtain ⟨hP, hD⟩ := w9_rI 501 rfl hN hq17 hσ16 (pu_501) hP hD
          have hC : clo dom σ16.2.2 := by rw [hσ16]; exact hC
          refine lv_iload_n (pc := 84) hx hb dM_may_84 rfl (lv_at hl 0 rfl) ?_
          refine lv_if_le (pc := 85) (tgt := 90) hx hb dM_may_85 rfl (fun h18 => ?_) (fun h18 => ?_)
          · replace hf := ite_t h18 hf
            refine lv_aload_n (pc := 90) hx hb dM_may_90 rfl (lv_at hl 1 rfl) ?_
            refine lv_aload_n (pc := 91) hx hb dM_may_91 rfl (lv_at hl 1 rfl) ?_
            obtain ⟨q19, hq19, eq19⟩ := at_4 (ad := ad) (ca := ca) (σ := σ16) hm0
            refine va_get (D := (dC, dI)) (cl := kCl) (C := RM) (T := TM) (N := 11) (pc := 92) hx hb hts inM hown hK.1 hP q19 eq19 rfl 5 (by decide) (hts _ wd_130) (fun _ h9 => h9) rfl dM_may_92 ?_
            refine lv_iconst (pc := 95) (v := (-1)) hx hb dM_may_95 (by decide) ?_
            obtain ⟨x20, hx20, hf⟩ := lt_9 hf
            refine jnF (τ := (Int32) × (Heap) × (List Loc) × (Array Slot)) (fun pc st z => W p l e _ s m _ below meth c z.2.1 z.2.2.1 0 0 _ (F0 m pc z.2.2.2 st)) (pc0 := 96) (st0 := [.int (-1), .int (xI σ16 505 0 0), .ref (ad 4 0)]) (z0 := (0, H, _, ls)) 109 (fun z => [.int z.1, .ref (ad 4 0)]) (fun z => va_P (dC, dI) kCl (w9 ad ca dom (σ16)) z.2.1 ∧ va_D A (w9 ad ca dom (σ16)) ∧ va_S A s.heap z.2.1 z.2.2.1 ∧ lv_has z.2.2.2 4 [(3, .int s2), (0, .ref (ad 4 0)), (1, .int a1), (2, .int a2)]) (fun z => x20 z.1) (ρ, σ') ?_ ?_
            · intro hJx20
              dsimp only at hJx20 ⊢
              refine lv_icmp_ne (pc := 96) (tgt := 103) hx hb dM_may_96 rfl (fun h22 => ?_) (fun h22 => ?_)
              · replace hf := ite_f h22 hf
                refine lv_aload_n (pc := 103) hx hb dM_may_103 rfl (lv_at hl 1 rfl) ?_
                obtain ⟨q23, hq23, eq23⟩ := at_4 (ad := ad) (ca := ca) (σ := σ16) hm0
                refine va_get (D := (dC, dI)) (cl := kCl) (C := RM) (T := TM) (N := 11) (pc := 104) hx hb hts inM hown hK.1 hP q23 eq23 rfl 5 (by decide) (hts _ wd_130) (fun _ h9 => h9) rfl dM_may_104 ?_
                refine lv_iload_n (pc := 107) hx hb dM_may_107 rfl (lv_at hl 3 rfl) ?_
                refine lv_isub (pc := 108) hx hb dM_may_108 ?_
                have hl := lv_sub hl (l' := [(3, .int s2), (0, .ref (ad 4 0)), (1, .int a1), (2, .int a2)]) [0, 1, 2, 3] rfl
                exact hJx20 (((xI σ16 505 0 0) - a2), H, _, ls) ⟨hP, hD, hS, hl⟩ hf
              · replace hf := ite_t h22 hf
                refine lv_iconst (pc := 99) (v := (-1)) hx hb dM_may_99 (by decide) ?_
                refine lv_goto (pc := 100) (tgt := 109) hx hb dM_may_100 rfl ?_
                have hl := lv_sub hl (l' := [(3, .int s2), (0, .ref (ad 4 0)), (1, .int a1), (2, .int a2)]) [0, 1, 2, 3] rfl
                exact hJx20 ((-1), H, _, ls) ⟨hP, hD, hS, hl⟩ hf
            · rintro ⟨s21, H, locs, ls⟩ ⟨hP, hD, hS, hl⟩ hf
              dsimp only at hP hD hS hl hf ⊢
              rw [hx20] at hf
              have hl : lv_has ls 4 [(3, .int s2), (0, .ref (ad 4 0)), (1, .int a1), (2, .int a2)] := hl
              obtain ⟨q25, hq25, eq25⟩ := at_4 (ad := ad) (ca := ca) (σ := σ16) hm0
              refine va_put (D := (dC, dI)) (cl := kCl) (ci := 4) (v := .int s21) (ty := .int) (C := RM) (T := TM) (N := 11) (pc := 109) hx hb hts inM tyM tyM_ok nmM hown hK.1 hP hD hS q25 eq25 rfl 5 (by decide) (hts _ wd_130) (fun _ h9 => h9) rfl (by decide +kernel) (rfl) (rfl) (Nat.le_of_ble_eq_true rfl) dM_may_109 (fun H locs hP hD hS => ?_)
              obtain ⟨σ24, hσ24, hf⟩ := lt_9 hf
              obtain ⟨hP, hD⟩ := w9_rI 505 rfl hN hq25 hσ24 (pu_505) hP hD
              have hC : clo dom σ24.2.2 := by rw [hσ24]; exact hC
              refine lv_aload_n (pc := 112) hx hb dM_may_112 rfl (lv_at hl 1 rfl) ?_
              obtain ⟨q26, hq26, eq26⟩ := at_4 (ad := ad) (ca := ca) (σ := σ24) hm0
              refine va_get (D := (dC, dI)) (cl := kCl) (C := RM) (T := TM) (N := 11) (pc := 113) hx hb hts inM hown hK.1 hP q26 eq26 rfl 2 (by decide) (hts _ wd_51) (fun _ h9 => h9) rfl dM_may_113 ?_
              refine lv_bipush (pc := 116) (v := 17) hx hb dM_may_116 (by decide) ?_
              refine lv_dup2_11 (pc := 118) hx hb dM_may_118 rfl rfl ?_
              obtain ⟨q27, hq27, eq27⟩ := at_15 (ad := ad) (ca := ca) (σ := σ24) (cm_4_2 hC hm0)
              refine va_iald (D := (dC, dI)) (cl := kCl) (pc := 119) hx hb (hK.2 15 0 .int (cm_4_2 hC hm0) rfl) hP q27 0 eq27 rfl (vp_in_lit 17 25240 (by decide)) dM_may_119 ?_
              refine W.eq (g2 := F0 m 120 ls [.int (xI σ24 15 0 17), .int 17, .ref (ad 15 0)]) rfl ?_
              refine lv_iload_n (pc := 120) hx hb dM_may_120 rfl (lv_at hl 3 rfl) ?_
              refine lv_isub (pc := 121) hx hb dM_may_121 ?_
              obtain ⟨q29, hq29, eq29⟩ := at_15 (ad := ad) (ca := ca) (σ := σ24) (cm_4_2 hC hm0)
              refine va_iast (D := (dC, dI)) (cl := kCl) (pc := 122) hx hb (hK.2 15 0 .int (cm_4_2 hC hm0) rfl) hP hD hS q29 0 eq29 rfl (vp_in_lit 17 25240 (by decide)) dM_may_122 (fun H locs hP hD hS => ?_)
              obtain ⟨σ28, hσ28, hf⟩ := lt_9 hf
              obtain ⟨hP, hD⟩ := w9_rI 15 rfl hN hq29 hσ28 (pr_15) hP hD
              have hC : clo dom σ28.2.2 := by rw [hσ28]; exact hC
              refine lv_aload_n (pc := 123) hx hb dM_may_123 rfl (lv_at hl 1 rfl) ?_
              obtain ⟨q30, hq30, eq30⟩ := at_4 (ad := ad) (ca := ca) (σ := σ28) hm0
              refine va_get (D := (dC, dI)) (cl := kCl) (C := RM) (T := TM) (N := 11) (pc := 124) hx hb hts inM hown hK.1 hP q30 eq30 rfl 2 (by decide) (hts _ wd_51) (fun _ h9 => h9) rfl dM_may_124 ?_
              refine lv_bipush (pc := 127) (v := 18) hx hb dM_may_127 (by decide) ?_
              refine lv_dup2_11 (pc := 129) hx hb dM_may_129 rfl rfl ?_
              obtain ⟨q31, hq31, eq31⟩ := at_15 (ad := ad) (ca := ca) (σ := σ28) (cm_4_2 hC hm0)
              refine va_iald (D := (dC, dI)) (cl := kCl) (pc := 130) hx hb (hK.2 15 0 .int (cm_4_2 hC hm0) rfl) hP q31 0 eq31 rfl (vp_in_lit 18 25240 (by decide)) dM_may_130 ?_
              refine W.eq (g2 := F0 m 131 ls [.int (xI σ28 15 0 18), .int 18, .ref (ad 15 0)]) rfl ?_
              refine lv_iconst (pc := 131) (v := 1) hx hb dM_may_131 (by decide) ?_
              refine lv_iadd (pc := 132) hx hb dM_may_132 ?_
              obtain ⟨q33, hq33, eq33⟩ := at_15 (ad := ad) (ca := ca) (σ := σ28) (cm_4_2 hC hm0)
              refine va_iast (D := (dC, dI)) (cl := kCl) (pc := 133) hx hb (hK.2 15 0 .int (cm_4_2 hC hm0) rfl) hP hD hS q33 0 eq33 rfl (vp_in_lit 18 25240 (by decide)) dM_may_133 (fun H locs hP hD hS => ?_)
              obtain ⟨σ32, hσ32, hf⟩ := lt_9 hf
              obtain ⟨hP, hD⟩ := w9_rI 15 rfl hN hq33 hσ32 (pr_15) hP hD
              have hC : clo dom σ32.2.2 := by rw [hσ32]; exact hC
              refine lv_iconst (pc := 134) (v := 1) hx hb dM_may_134 (by decide) ?_
              obtain ⟨h8, h9⟩ := Prod.mk.inj (Option.some.inj hf)
              subst h9
              exact W.zret (pc := 135) hx hb hr (rfl) (fun t ht hW => ⟨⟨_, (), rfl, h8, by rw [ht]; exact hP, hD, hC⟩, hS.F ht⟩) hS.2.2 dM_may_135
          · replace hf := ite_f h18 hf
            refine lv_iconst (pc := 88) (v := 0) hx hb dM_may_88 (by decide) ?_
            obtain ⟨h8, h9⟩ := Prod.mk.inj (Option.some.inj hf)
            subst h9
            exact W.zret (pc := 89) hx hb hr (rfl) (fun t ht hW => ⟨⟨_, (), rfl, h8, by rw [ht]; exact hP, hD, hC⟩, hS.F ht⟩) hS.2.2 dM_may_89
        · replace hf := ite_t h15 hf
          refine lv_aload_n (pc := 51) hx hb dM_may_51 rfl (lv_at hl 1 rfl) ?_
          obtain ⟨q34, hq34, eq34⟩ := at_4 (ad := ad) (ca := ca) (σ := σ11) hm0
          refine va_get (D := (dC, dI)) (cl := kCl) (C := RM) (T := TM) (N := 11) (pc := 52) hx hb hts inM hown hK.1 hP q34 eq34 rfl 5 (by decide) (hts _ wd_130) (fun _ h9 => h9) rfl dM_may_52 ?_
          refine lv_iconst (pc := 55) (v := (-1)) hx hb dM_may_55 (by decide) ?_
          refine lv_icmp_eq (pc := 56) (tgt := 79) hx hb dM_may_56 rfl (fun h35 => ?_) (fun h35 => ?_)
          · replace hf := ite_t h35 hf
            refine lv_aload_n (pc := 79) hx hb dM_may_79 rfl (lv_at hl 1 rfl) ?_
            refine lv_iload_n (pc := 80) hx hb dM_may_80 rfl (lv_at hl 0 rfl) ?_
            obtain ⟨q37, hq37, eq37⟩ := at_4 (ad := ad) (ca := ca) (σ := σ11) hm0
            refine va_put (D := (dC, dI)) (cl := kCl) (ci := 4) (v := .int s2) (ty := .int) (C := RM) (T := TM) (N := 11) (pc := 81) hx hb hts inM tyM tyM_ok nmM hown hK.1 hP hD hS q37 eq37 rfl 1 (by decide) (hts _ wd_129) (fun _ h9 => h9) rfl (by decide +kernel) (rfl) (rfl) (Nat.le_of_ble_eq_true rfl) dM_may_81 (fun H locs hP hD hS => ?_)
            obtain ⟨σ36, hσ36, hf⟩ := lt_9 hf
            obtain ⟨hP, hD⟩ := w9_rI 501 rfl hN hq37 hσ36 (pu_501) hP hD
            have hC : clo dom σ36.2.2 := by rw [hσ36]; exact hC
            refine lv_iload_n (pc := 84) hx hb dM_may_84 rfl (lv_at hl 0 rfl) ?_
            refine lv_if_le (pc := 85) (tgt := 90) hx hb dM_may_85 rfl (fun h38 => ?_) (fun h38 => ?_)
            · replace hf := ite_t h38 hf
              refine lv_aload_n (pc := 90) hx hb dM_may_90 rfl (lv_at hl 1 rfl) ?_
              refine lv_aload_n (pc := 91) hx hb dM_may_91 rfl (lv_at hl 1 rfl) ?_
              obtain ⟨q39, hq39, eq39⟩ := at_4 (ad := ad) (ca := ca) (σ := σ36) hm0
              refine va_get (D := (dC, dI)) (cl := kCl) (C := RM) (T := TM) (N := 11) (pc := 92) hx hb hts inM hown hK.1 hP q39 eq39 rfl 5 (by decide) (hts _ wd_130) (fun _ h9 => h9) rfl dM_may_92 ?_
              refine lv_iconst (pc := 95) (v := (-1)) hx hb dM_may_95 (by decide) ?_
              obtain ⟨x40, hx40, hf⟩ := lt_9 hf
              refine jnF (τ := (Int32) × (Heap) × (List Loc) × (Array Slot)) (fun pc st z => W p l e _ s m _ below meth c z.2.1 z.2.2.1 0 0 _ (F0 m pc z.2.2.2 st)) (pc0 := 96) (st0 := [.int (-1), .int (xI σ36 505 0 0), .ref (ad 4 0)]) (z0 := (0, H, _, ls)) 109 (fun z => [.int z.1, .ref (ad 4 0)]) (fun z => va_P (dC, dI) kCl (w9 ad ca dom (σ36)) z.2.1 ∧ va_D A (w9 ad ca dom (σ36)) ∧ va_S A s.heap z.2.1 z.2.2.1 ∧ lv_has z.2.2.2 4 [(3, .int s2), (0, .ref (ad 4 0)), (1, .int a1), (2, .int a2)]) (fun z => x40 z.1) (ρ, σ') ?_ ?_
              · intro hJx40
                dsimp only at hJx40 ⊢
                refine lv_icmp_ne (pc := 96) (tgt := 103) hx hb dM_may_96 rfl (fun h42 => ?_) (fun h42 => ?_)
                · replace hf := ite_f h42 hf
                  refine lv_aload_n (pc := 103) hx hb dM_may_103 rfl (lv_at hl 1 rfl) ?_
                  obtain ⟨q43, hq43, eq43⟩ := at_4 (ad := ad) (ca := ca) (σ := σ36) hm0
                  refine va_get (D := (dC, dI)) (cl := kCl) (C := RM) (T := TM) (N := 11) (pc := 104) hx hb hts inM hown hK.1 hP q43 eq43 rfl 5 (by decide) (hts _ wd_130) (fun _ h9 => h9) rfl dM_may_104 ?_
                  refine lv_iload_n (pc := 107) hx hb dM_may_107 rfl (lv_at hl 3 rfl) ?_
                  refine lv_isub (pc := 108) hx hb dM_may_108 ?_
                  have hl := lv_sub hl (l' := [(3, .int s2), (0, .ref (ad 4 0)), (1, .int a1), (2, .int a2)]) [0, 1, 2, 3] rfl
                  exact hJx40 (((xI σ36 505 0 0) - a2), H, _, ls) ⟨hP, hD, hS, hl⟩ hf
                · replace hf := ite_t h42 hf
                  refine lv_iconst (pc := 99) (v := (-1)) hx hb dM_may_99 (by decide) ?_
                  refine lv_goto (pc := 100) (tgt := 109) hx hb dM_may_100 rfl ?_
                  have hl := lv_sub hl (l' := [(3, .int s2), (0, .ref (ad 4 0)), (1, .int a1), (2, .int a2)]) [0, 1, 2, 3] rfl
                  exact hJx40 ((-1), H, _, ls) ⟨hP, hD, hS, hl⟩ hf
              · rintro ⟨s41, H, locs, ls⟩ ⟨hP, hD, hS, hl⟩ hf
                dsimp only at hP hD hS hl hf ⊢
                rw [hx40] at hf
                have hl : lv_has ls 4 [(3, .int s2), (0, .ref (ad 4 0)), (1, .int a1), (2, .int a2)] := hl
                obtain ⟨q45, hq45, eq45⟩ := at_4 (ad := ad) (ca := ca) (σ := σ36) hm0
                refine va_put (D := (dC, dI)) (cl := kCl) (ci := 4) (v := .int s41) (ty := .int) (C := RM) (T := TM) (N := 11) (pc := 109) hx hb hts inM tyM tyM_ok nmM hown hK.1 hP hD hS q45 eq45 rfl 5 (by decide) (hts _ wd_130) (fun _ h9 => h9) rfl (by decide +kernel) (rfl) (rfl) (Nat.le_of_ble_eq_true rfl) dM_may_109 (fun H locs hP hD hS => ?_)
                obtain ⟨σ44, hσ44, hf⟩ := lt_9 hf
                obtain ⟨hP, hD⟩ := w9_rI 505 rfl hN hq45 hσ44 (pu_505) hP hD
                have hC : clo dom σ44.2.2 := by rw [hσ44]; exact hC
                refine lv_aload_n (pc := 112) hx hb dM_may_112 rfl (lv_at hl 1 rfl) ?_
                obtain ⟨q46, hq46, eq46⟩ := at_4 (ad := ad) (ca := ca) (σ := σ44) hm0
                refine va_get (D := (dC, dI)) (cl := kCl) (C := RM) (T := TM) (N := 11) (pc := 113) hx hb hts inM hown hK.1 hP q46 eq46 rfl 2 (by decide) (hts _ wd_51) (fun _ h9 => h9) rfl dM_may_113 ?_
                refine lv_bipush (pc := 116) (v := 17) hx hb dM_may_116 (by decide) ?_
                refine lv_dup2_11 (pc := 118) hx hb dM_may_118 rfl rfl ?_
                obtain ⟨q47, hq47, eq47⟩ := at_15 (ad := ad) (ca := ca) (σ := σ44) (cm_4_2 hC hm0)
                refine va_iald (D := (dC, dI)) (cl := kCl) (pc := 119) hx hb (hK.2 15 0 .int (cm_4_2 hC hm0) rfl) hP q47 0 eq47 rfl (vp_in_lit 17 25240 (by decide)) dM_may_119 ?_
                refine W.eq (g2 := F0 m 120 ls [.int (xI σ44 15 0 17), .int 17, .ref (ad 15 0)]) rfl ?_
                refine lv_iload_n (pc := 120) hx hb dM_may_120 rfl (lv_at hl 3 rfl) ?_
                refine lv_isub (pc := 121) hx hb dM_may_121 ?_
                obtain ⟨q49, hq49, eq49⟩ := at_15 (ad := ad) (ca := ca) (σ := σ44) (cm_4_2 hC hm0)
                refine va_iast (D := (dC, dI)) (cl := kCl) (pc := 122) hx hb (hK.2 15 0 .int (cm_4_2 hC hm0) rfl) hP hD hS q49 0 eq49 rfl (vp_in_lit 17 25240 (by decide)) dM_may_122 (fun H locs hP hD hS => ?_)
                obtain ⟨σ48, hσ48, hf⟩ := lt_9 hf
                obtain ⟨hP, hD⟩ := w9_rI 15 rfl hN hq49 hσ48 (pr_15) hP hD
                have hC : clo dom σ48.2.2 := by rw [hσ48]; exact hC
                refine lv_aload_n (pc := 123) hx hb dM_may_123 rfl (lv_at hl 1 rfl) ?_
                obtain ⟨q50, hq50, eq50⟩ := at_4 (ad := ad) (ca := ca) (σ := σ48) hm0
                refine va_get (D := (dC, dI)) (cl := kCl) (C := RM) (T := TM) (N := 11) (pc := 124) hx hb hts inM hown hK.1 hP q50 eq50 rfl 2 (by decide) (hts _ wd_51) (fun _ h9 => h9) rfl dM_may_124 ?_
                refine lv_bipush (pc := 127) (v := 18) hx hb dM_may_127 (by decide) ?_
                refine lv_dup2_11 (pc := 129) hx hb dM_may_129 rfl rfl ?_
                obtain ⟨q51, hq51, eq51⟩ := at_15 (ad := ad) (ca := ca) (σ := σ48) (cm_4_2 hC hm0)
                refine va_iald (D := (dC, dI)) (cl := kCl) (pc := 130) hx hb (hK.2 15 0 .int (cm_4_2 hC hm0) rfl) hP q51 0 eq51 rfl (vp_in_lit 18 25240 (by decide)) dM_may_130 ?_
                refine W.eq (g2 := F0 m 131 ls [.int (xI σ48 15 0 18), .int 18, .ref (ad 15 0)]) rfl ?_
                refine lv_iconst (pc := 131) (v := 1) hx hb dM_may_131 (by decide) ?_
                refine lv_iadd (pc := 132) hx hb dM_may_132 ?_
                obtain ⟨q53, hq53, eq53⟩ := at_15 (ad := ad) (ca := ca) (σ := σ48) (cm_4_2 hC hm0)
                refine va_iast (D := (dC, dI)) (cl := kCl) (pc := 133) hx hb (hK.2 15 0 .int (cm_4_2 hC hm0) rfl) hP hD hS q53 0 eq53 rfl (vp_in_lit 18 25240 (by decide)) dM_may_133 (fun H locs hP hD hS => ?_)
                obtain ⟨σ52, hσ52, hf⟩ := lt_9 hf
                obtain ⟨hP, hD⟩ := w9_rI 15 rfl hN hq53 hσ52 (pr_15) hP hD
                have hC : clo dom σ52.2.2 := by rw [hσ52]; exact hC
                refine lv_iconst (pc := 134) (v := 1) hx hb dM_may_134 (by decide) ?_
                obtain ⟨h8, h9⟩ := Prod.mk.inj (Option.some.inj hf)
                subst h9
                exact W.zret (pc := 135) hx hb hr (rfl) (fun t ht hW => ⟨⟨_, (), rfl, h8, by rw [ht]; exact hP, hD, hC⟩, hS.F ht⟩) hS.2.2 dM_may_135
            · replace hf := ite_f h38 hf
              refine lv_iconst (pc := 88) (v := 0) hx hb dM_may_88 (by decide) ?_
              obtain ⟨h8, h9⟩ := Prod.mk.inj (Option.some.inj hf)
              subst h9
              exact W.zret (pc := 89) hx hb hr (rfl) (fun t ht hW => ⟨⟨_, (), rfl, h8, by rw [ht]; exact hP, hD, hC⟩, hS.F ht⟩) hS.2.2 dM_may_89
          · replace hf := ite_f h35 hf
            refine lv_iload_n (pc := 59) hx hb dM_may_59 rfl (lv_at hl 3 rfl) ?_
            refine lv_aload_n (pc := 60) hx hb dM_may_60 rfl (lv_at hl 1 rfl) ?_
            obtain ⟨q54, hq54, eq54⟩ := at_4 (ad := ad) (ca := ca) (σ := σ11) hm0
            refine va_get (D := (dC, dI)) (cl := kCl) (C := RM) (T := TM) (N := 11) (pc := 61) hx hb hts inM hown hK.1 hP q54 eq54 rfl 5 (by decide) (hts _ wd_130) (fun _ h9 => h9) rfl dM_may_61 ?_
            refine lv_icmp_le (pc := 64) (tgt := 79) hx hb dM_may_64 rfl (fun h55 => ?_) (fun h55 => ?_)
            · replace hf := ite_t h55 hf
              refine lv_aload_n (pc := 79) hx hb dM_may_79 rfl (lv_at hl 1 rfl) ?_
              refine lv_iload_n (pc := 80) hx hb dM_may_80 rfl (lv_at hl 0 rfl) ?_
              obtain ⟨q57, hq57, eq57⟩ := at_4 (ad := ad) (ca := ca) (σ := σ11) hm0
              refine va_put (D := (dC, dI)) (cl := kCl) (ci := 4) (v := .int s2) (ty := .int) (C := RM) (T := TM) (N := 11) (pc := 81) hx hb hts inM tyM tyM_ok nmM hown hK.1 hP hD hS q57 eq57 rfl 1 (by decide) (hts _ wd_129) (fun _ h9 => h9) rfl (by decide +kernel) (rfl) (rfl) (Nat.le_of_ble_eq_true rfl) dM_may_81 (fun H locs hP hD hS => ?_)
              obtain ⟨σ56, hσ56, hf⟩ := lt_9 hf
              obtain ⟨hP, hD⟩ := w9_rI 501 rfl hN hq57 hσ56 (pu_501) hP hD
              have hC : clo dom σ56.2.2 := by rw [hσ56]; exact hC
              refine lv_iload_n (pc := 84) hx hb dM_may_84 rfl (lv_at hl 0 rfl) ?_
              refine lv_if_le (pc := 85) (tgt := 90) hx hb dM_may_85 rfl (fun h58 => ?_) (fun h58 => ?_)
              · replace hf := ite_t h58 hf
                refine lv_aload_n (pc := 90) hx hb dM_may_90 rfl (lv_at hl 1 rfl) ?_
                refine lv_aload_n (pc := 91) hx hb dM_may_91 rfl (lv_at hl 1 rfl) ?_
                obtain ⟨q59, hq59, eq59⟩ := at_4 (ad := ad) (ca := ca) (σ := σ56) hm0
                refine va_get (D := (dC, dI)) (cl := kCl) (C := RM) (T := TM) (N := 11) (pc := 92) hx hb hts inM hown hK.1 hP q59 eq59 rfl 5 (by decide) (hts _ wd_130) (fun _ h9 => h9) rfl dM_may_92 ?_
                refine lv_iconst (pc := 95) (v := (-1)) hx hb dM_may_95 (by decide) ?_
                obtain ⟨x60, hx60, hf⟩ := lt_9 hf
                refine jnF (τ := (Int32) × (Heap) × (List Loc) × (Array Slot)) (fun pc st z => W p l e _ s m _ below meth c z.2.1 z.2.2.1 0 0 _ (F0 m pc z.2.2.2 st)) (pc0 := 96) (st0 := [.int (-1), .int (xI σ56 505 0 0), .ref (ad 4 0)]) (z0 := (0, H, _, ls)) 109 (fun z => [.int z.1, .ref (ad 4 0)]) (fun z => va_P (dC, dI) kCl (w9 ad ca dom (σ56)) z.2.1 ∧ va_D A (w9 ad ca dom (σ56)) ∧ va_S A s.heap z.2.1 z.2.2.1 ∧ lv_has z.2.2.2 4 [(3, .int s2), (0, .ref (ad 4 0)), (1, .int a1), (2, .int a2)]) (fun z => x60 z.1) (ρ, σ') ?_ ?_
                · intro hJx60
                  dsimp only at hJx60 ⊢
                  refine lv_icmp_ne (pc := 96) (tgt := 103) hx hb dM_may_96 rfl (fun h62 => ?_) (fun h62 => ?_)
                  · replace hf := ite_f h62 hf
                    refine lv_aload_n (pc := 103) hx hb dM_may_103 rfl (lv_at hl 1 rfl) ?_
                    obtain ⟨q63, hq63, eq63⟩ := at_4 (ad := ad) (ca := ca) (σ := σ56) hm0
                    refine va_get (D := (dC, dI)) (cl := kCl) (C := RM) (T := TM) (N := 11) (pc := 104) hx hb hts inM hown hK.1 hP q63 eq63 rfl 5 (by decide) (hts _ wd_130) (fun _ h9 => h9) rfl dM_may_104 ?_
                    refine lv_iload_n (pc := 107) hx hb dM_may_107 rfl (lv_at hl 3 rfl) ?_
                    refine lv_isub (pc := 108) hx hb dM_may_108 ?_
                    have hl := lv_sub hl (l' := [(3, .int s2), (0, .ref (ad 4 0)), (1, .int a1), (2, .int a2)]) [0, 1, 2, 3] rfl
                    exact hJx60 (((xI σ56 505 0 0) - a2), H, _, ls) ⟨hP, hD, hS, hl⟩ hf
                  · replace hf := ite_t h62 hf
                    refine lv_iconst (pc := 99) (v := (-1)) hx hb dM_may_99 (by decide) ?_
                    refine lv_goto (pc := 100) (tgt := 109) hx hb dM_may_100 rfl ?_
                    have hl := lv_sub hl (l' := [(3, .int s2), (0, .ref (ad 4 0)), (1, .int a1), (2, .int a2)]) [0, 1, 2, 3] rfl
                    exact hJx60 ((-1), H, _, ls) ⟨hP, hD, hS, hl⟩ hf
                · rintro ⟨s61, H, locs, ls⟩ ⟨hP, hD, hS, hl⟩ hf
                  dsimp only at hP hD hS hl hf ⊢
                  rw [hx60] at hf
                  have hl : lv_has ls 4 [(3, .int s2), (0, .ref (ad 4 0)), (1, .int a1), (2, .int a2)] := hl
                  obtain ⟨q65, hq65, eq65⟩ := at_4 (ad := ad) (ca := ca) (σ := σ56) hm0
                  refine va_put (D := (dC, dI)) (cl := kCl) (ci := 4) (v := .int s61) (ty := .int) (C := RM) (T := TM) (N := 11) (pc := 109) hx hb hts inM tyM tyM_ok nmM hown hK.1 hP hD hS q65 eq65 rfl 5 (by decide) (hts _ wd_130) (fun _ h9 => h9) rfl (by decide +kernel) (rfl) (rfl) (Nat.le_of_ble_eq_true rfl) dM_may_109 (fun H locs hP hD hS => ?_)
                  obtain ⟨σ64, hσ64, hf⟩ := lt_9 hf
                  obtain ⟨hP, hD⟩ := w9_rI 505 rfl hN hq65 hσ64 (pu_505) hP hD
                  have hC : clo dom σ64.2.2 := by rw [hσ64]; exact hC
                  refine lv_aload_n (pc := 112) hx hb dM_may_112 rfl (lv_at hl 1 rfl) ?_
                  obtain ⟨q66, hq66, eq66⟩ := at_4 (ad := ad) (ca := ca) (σ := σ64) hm0
                  refine va_get (D := (dC, dI)) (cl := kCl) (C := RM) (T := TM) (N := 11) (pc := 113) hx hb hts inM hown hK.1 hP q66 eq66 rfl 2 (by decide) (hts _ wd_51) (fun _ h9 => h9) rfl dM_may_113 ?_
                  refine lv_bipush (pc := 116) (v := 17) hx hb dM_may_116 (by decide) ?_
                  refine lv_dup2_11 (pc := 118) hx hb dM_may_118 rfl rfl ?_
                  obtain ⟨q67, hq67, eq67⟩ := at_15 (ad := ad) (ca := ca) (σ := σ64) (cm_4_2 hC hm0)
                  refine va_iald (D := (dC, dI)) (cl := kCl) (pc := 119) hx hb (hK.2 15 0 .int (cm_4_2 hC hm0) rfl) hP q67 0 eq67 rfl (vp_in_lit 17 25240 (by decide)) dM_may_119 ?_
                  refine W.eq (g2 := F0 m 120 ls [.int (xI σ64 15 0 17), .int 17, .ref (ad 15 0)]) rfl ?_
                  refine lv_iload_n (pc := 120) hx hb dM_may_120 rfl (lv_at hl 3 rfl) ?_
                  refine lv_isub (pc := 121) hx hb dM_may_121 ?_
                  obtain ⟨q69, hq69, eq69⟩ := at_15 (ad := ad) (ca := ca) (σ := σ64) (cm_4_2 hC hm0)
                  refine va_iast (D := (dC, dI)) (cl := kCl) (pc := 122) hx hb (hK.2 15 0 .int (cm_4_2 hC hm0) rfl) hP hD hS q69 0 eq69 rfl (vp_in_lit 17 25240 (by decide)) dM_may_122 (fun H locs hP hD hS => ?_)
                  obtain ⟨σ68, hσ68, hf⟩ := lt_9 hf
                  obtain ⟨hP, hD⟩ := w9_rI 15 rfl hN hq69 hσ68 (pr_15) hP hD
                  have hC : clo dom σ68.2.2 := by rw [hσ68]; exact hC
                  refine lv_aload_n (pc := 123) hx hb dM_may_123 rfl (lv_at hl 1 rfl) ?_
                  obtain ⟨q70, hq70, eq70⟩ := at_4 (ad := ad) (ca := ca) (σ := σ68) hm0
                  refine va_get (D := (dC, dI)) (cl := kCl) (C := RM) (T := TM) (N := 11) (pc := 124) hx hb hts inM hown hK.1 hP q70 eq70 rfl 2 (by decide) (hts _ wd_51) (fun _ h9 => h9) rfl dM_may_124 ?_
                  refine lv_bipush (pc := 127) (v := 18) hx hb dM_may_127 (by decide) ?_
                  refine lv_dup2_11 (pc := 129) hx hb dM_may_129 rfl rfl ?_
                  obtain ⟨q71, hq71, eq71⟩ := at_15 (ad := ad) (ca := ca) (σ := σ68) (cm_4_2 hC hm0)
                  refine va_iald (D := (dC, dI)) (cl := kCl) (pc := 130) hx hb (hK.2 15 0 .int (cm_4_2 hC hm0) rfl) hP q71 0 eq71 rfl (vp_in_lit 18 25240 (by decide)) dM_may_130 ?_
                  refine W.eq (g2 := F0 m 131 ls [.int (xI σ68 15 0 18), .int 18, .ref (ad 15 0)]) rfl ?_
                  refine lv_iconst (pc := 131) (v := 1) hx hb dM_may_131 (by decide) ?_
                  refine lv_iadd (pc := 132) hx hb dM_may_132 ?_
                  obtain ⟨q73, hq73, eq73⟩ := at_15 (ad := ad) (ca := ca) (σ := σ68) (cm_4_2 hC hm0)
                  refine va_iast (D := (dC, dI)) (cl := kCl) (pc := 133) hx hb (hK.2 15 0 .int (cm_4_2 hC hm0) rfl) hP hD hS q73 0 eq73 rfl (vp_in_lit 18 25240 (by decide)) dM_may_133 (fun H locs hP hD hS => ?_)
                  obtain ⟨σ72, hσ72, hf⟩ := lt_9 hf
                  obtain ⟨hP, hD⟩ := w9_rI 15 rfl hN hq73 hσ72 (pr_15) hP hD
                  have hC : clo dom σ72.2.2 := by rw [hσ72]; exact hC
                  refine lv_iconst (pc := 134) (v := 1) hx hb dM_may_134 (by decide) ?_
                  obtain ⟨h8, h9⟩ := Prod.mk.inj (Option.some.inj hf)
                  subst h9
                  exact W.zret (pc := 135) hx hb hr (rfl) (fun t ht hW => ⟨⟨_, (), rfl, h8, by rw [ht]; exact hP, hD, hC⟩, hS.F ht⟩) hS.2.2 dM_may_135
              · replace hf := ite_f h58 hf
                refine lv_iconst (pc := 88) (v := 0) hx hb dM_may_88 (by decide) ?_
                obtain ⟨h8, h9⟩ := Prod.mk.inj (Option.some.inj hf)
                subst h9
                exact W.zret (pc := 89) hx hb hr (rfl) (fun t ht hW => ⟨⟨_, (), rfl, h8, by rw [ht]; exact hP, hD, hC⟩, hS.F ht⟩) hS.2.2 dM_may_89
            · replace hf := ite_f h55 hf
              refine lv_aload_n (pc := 67) hx hb dM_may_67 rfl (lv_at hl 1 rfl) ?_
              refine lv_iconst (pc := 68) (v := 1) hx hb dM_may_68 (by decide) ?_
              obtain ⟨q75, hq75, eq75⟩ := at_4 (ad := ad) (ca := ca) (σ := σ11) hm0
              refine va_put (D := (dC, dI)) (cl := kCl) (ci := 4) (v := .int 1) (ty := .boolean) (C := RM) (T := TM) (N := 11) (pc := 69) hx hb hts inM tyM tyM_ok nmM hown hK.1 hP hD hS q75 eq75 rfl 4 (by decide) (hts _ wd_128) (fun _ h9 => h9) rfl (by decide +kernel) (rfl) (rfl) (Nat.le_of_ble_eq_true rfl) dM_may_69 (fun H locs hP hD hS => ?_)
              obtain ⟨σ74, hσ74, hf⟩ := lt_9 hf
              obtain ⟨hP, hD⟩ := w9_rI 504 rfl hN hq75 hσ74 (pu_504) hP hD
              have hC : clo dom σ74.2.2 := by rw [hσ74]; exact hC
              refine lv_aload_n (pc := 72) hx hb dM_may_72 rfl (lv_at hl 1 rfl) ?_
              refine lv_iconst (pc := 73) (v := 1) hx hb dM_may_73 (by decide) ?_
              obtain ⟨q77, hq77, eq77⟩ := at_4 (ad := ad) (ca := ca) (σ := σ74) hm0
              refine va_put (D := (dC, dI)) (cl := kCl) (ci := 4) (v := .int 1) (ty := .int) (C := RM) (T := TM) (N := 11) (pc := 74) hx hb hts inM tyM tyM_ok nmM hown hK.1 hP hD hS q77 eq77 rfl 0 (by decide) (hts _ wd_45) (fun _ h9 => h9) rfl (by decide +kernel) (rfl) (rfl) (Nat.le_of_ble_eq_true rfl) dM_may_74 (fun H locs hP hD hS => ?_)
              obtain ⟨σ76, hσ76, hf⟩ := lt_9 hf
              obtain ⟨hP, hD⟩ := w9_rI 500 rfl hN hq77 hσ76 (pu_500) hP hD
              have hC : clo dom σ76.2.2 := by rw [hσ76]; exact hC
              refine lv_iconst (pc := 77) (v := 0) hx hb dM_may_77 (by decide) ?_
              obtain ⟨h8, h9⟩ := Prod.mk.inj (Option.some.inj hf)
              subst h9
              exact W.zret (pc := 78) hx hb hr (rfl) (fun t ht hW => ⟨⟨_, (), rfl, h8, by rw [ht]; exact hP, hD, hC⟩, hS.F ht⟩) hS.2.2 dM_may_78
      · replace hf := ite_f h14 hf
        refine lv_iconst (pc := 45) (v := 0) hx hb dM_may_45 (by decide) ?_
        obtain ⟨h8, h9⟩ := Prod.mk.inj (Option.some.inj hf)
        subst h9
        exact W.zret (pc := 46) hx hb hr (rfl) (fun t ht hW => ⟨⟨_, (), rfl, h8, by rw [ht]; exact hP, hD, hC⟩, hS.F ht⟩) hS.2.2 dM_may_46
def M_close (n : Nat) (σ : hT) : Option (Unit × hT) := lt9 (α := hT → Option (Unit × hT)) (fun (σ4 : hT) => Option.bind (M_keep n σ4) fun ⟨y17, σ18⟩ => some ((), σ18)) fun x3 => if 40 ≤ (xI σ 15 0 17) then x3 (σ) else Option.bind (M_needed n σ) fun y7 => if (400 - y7) < 40 then x3 (σ) else lt9 (sI σ 15 0 17 (400 - y7)) fun σ10 => lt9 (sI σ10 15 0 19 ((xI σ10 15 0 19) + 1)) fun σ14 => x3 (σ14)
set_option maxHeartbeats 4000000 in
set_option maxRecDepth 100000 in
theorem t_M_close (l : Launch) (dC : Nat → ClassId) (dI : Nat → Nat → Nat) (ad : Nat → Nat → Nat) (ca : Nat → Nat → ClassId) (dom : List (Nat × Nat)) (sz : Nat) (n : Nat) (σ : hT) (hm0 : (4, 0) ∈ dom) (hN : dom.Nodup) (hC : clo dom σ.2.2) (ρ : Unit) (σ' : hT) (hf : M_close n σ = some (ρ, σ')) : Met l yM_close (.code yM_close cM_close 2 none :: aw) ({ frames := 6, cells := 0, slots := 0, locals := 136 }) (hW (dC, dI) sz ad ca dom σ [.ref (ad 4 0)]) (va_Qv (fun (_ : Unit) => True) (fun _ t => hB (dC, dI) (va_A (w9 ad ca dom σ) sz) ad ca dom σ' t) (va_A (w9 ad ca dom σ) sz)) 0 0 (va_A (w9 ad ca dom σ) sz) := by
  refine Met.ofW (cc := cM_close) (maxL := 2) (ret := none) (by decide) rfl ?_
  intro p e s m args below meth c s₁ B hml hv
  obtain ⟨rfl, hv⟩ := hv
  have hx := B.exec
  have hb := B.bytes
  have hr := B.returns
  have hts : ∀ w ∈ aw, w.before _ s = true := fun w h => atoms_spec (ws := (.code yM_close cM_close 2 none :: aw)) B.pre w (List.mem_cons_of_mem _ h)
  have hown : s.vm.findClass RM = some m.cls := findClass_of_methodNamed B.named
  have hlocks := B.notSynchronized
  obtain ⟨hsz, hP, hK, hD0, hG⟩ := hv
  subst hsz
  have hD := hD0.self (sz := s.heap.size)
  generalize hAe : va_A (w9 ad ca dom σ) s.heap.size = A at hD ⊢
  have hA : ∀ q : Nat, s.heap.size ≤ q → A q := fun q h => by rw [← hAe]; exact Or.inr h
  obtain ⟨H, hH⟩ : ∃ H, H = s.heap := ⟨_, rfl⟩
  have hS : va_S A s.heap H [] := by rw [hH]; exact va_S.rf
  rw [← hH] at hP ⊢
  unfold M_close at hf
  have hl := lv_entry ([.ref (ad 4 0)]) (n := 2) (Nat.le_of_ble_eq_true rfl)
  rw [lg_entry_eq]
  generalize (lg_sl ([.ref (ad 4 0)]) ++ List.replicate (2 - (lg_sl ([.ref (ad 4 0)])).length) Slot.unset).toArray = ls at hl ⊢
  have hl : lv_has ls 2 [(0, .ref (ad 4 0))] := hl
  refine lv_aload_n (pc := 0) hx hb dM_close_0 rfl (lv_at hl 0 rfl) ?_
  obtain ⟨q1, hq1, eq1⟩ := at_4 (ad := ad) (ca := ca) (σ := σ) hm0
  refine va_get (D := (dC, dI)) (cl := kCl) (C := RM) (T := TM) (N := 11) (pc := 1) hx hb hts inM hown hK.1 hP q1 eq1 rfl 2 (by decide) (hts _ wd_51) (fun _ h9 => h9) rfl dM_close_1 ?_
  refine lv_bipush (pc := 4) (v := 17) hx hb dM_close_4 (by decide) ?_
  obtain ⟨q2, hq2, eq2⟩ := at_15 (ad := ad) (ca := ca) (σ := σ) (cm_4_2 hC hm0)
  refine va_iald (D := (dC, dI)) (cl := kCl) (pc := 6) hx hb (hK.2 15 0 .int (cm_4_2 hC hm0) rfl) hP q2 0 eq2 rfl (vp_in_lit 17 25240 (by decide)) dM_close_6 ?_
  refine W.eq (g2 := F0 m 7 ls [.int (xI σ 15 0 17)]) rfl ?_
  refine lv_bipush (pc := 7) (v := 40) hx hb dM_close_7 (by decide) ?_
  obtain ⟨x3, hx3, hf⟩ := lt_9 hf
  refine jnF (τ := (hT) × (Heap) × (List Loc) × (Array Slot)) (fun pc st z => W p l e _ s m _ below meth c z.2.1 z.2.2.1 0 0 _ (F0 m pc z.2.2.2 st)) (pc0 := 9) (st0 := [.int 40, .int (xI σ 15 0 17)]) (z0 := (σ, H, _, ls)) 46 (fun z => []) (fun z => va_P (dC, dI) kCl (w9 ad ca dom z.1) z.2.1 ∧ va_D A (w9 ad ca dom z.1) ∧ va_S A s.heap z.2.1 z.2.2.1 ∧ clo dom z.1.2.2 ∧ lv_has z.2.2.2 2 [(0, .ref (ad 4 0))]) (fun z => x3 z.1) (ρ, σ') ?_ ?_
  · intro hJx3
    dsimp only at hJx3 ⊢
    refine lv_icmp_ge (pc := 9) (tgt := 46) hx hb dM_close_9 rfl (fun h5 => ?_) (fun h5 => ?_)
    · replace hf := ite_t h5 hf
      have hl := lv_sub hl (l' := [(0, .ref (ad 4 0))]) [0] rfl
      exact hJx3 (σ, H, _, ls) ⟨hP, hD, hS, hC, hl⟩ hf
    · replace hf := ite_f h5 hf
      refine lv_sipush (pc := 12) (v := 400) hx hb dM_close_12 (by decide) ?_
      refine lv_aload_n (pc := 15) hx hb dM_close_15 rfl (lv_at hl 0 rfl) ?_
      obtain ⟨q6, hq6, eq6⟩ := at_4 (ad := ad) (ca := ca) (σ := σ) hm0
      obtain ⟨y7, hy7, hf⟩ := ob hf
      refine vp_callSi (pc := 16) (W.runV (As := []) (rest := [.int 400]) ⟨hx, hb, hml, hown, hts⟩ (t_M_needed l dC dI ad ca dom n σ hm0 hN hC y7 hy7) (cwV 0 hts (gV wd_132 wd_133 wd_134 wd_50 wd_131) rfl rfl rfl (by decide +kernel) ⟨Nat.le_of_ble_eq_true rfl, Nat.le_of_ble_eq_true rfl⟩) ⟨hR_blind, va_recv (q := (RM, TM, 11)) (q0 := q6) (ci := 4) hK.1 hP rfl eq6, hR_pre hP hK hG⟩ rfl rfl hl.1 rfl (lv_room (Nat.le_of_ble_eq_true rfl)) dM_close_16 ⟨Nat.le_of_ble_eq_true rfl, Nat.le_of_ble_eq_true rfl⟩) (fun r9 hr9 => ?_)
      refine W.eq (g2 := F0 m 19 ls [.int y7, .int 400]) (by rw [hr9]) ?_
      refine lv_isub (pc := 19) hx hb dM_close_19 ?_
      refine lv_istore_n (pc := 20) hx hb dM_close_20 rfl hl (by decide) rfl (fun ls hl => ?_)
      have hl : lv_has ls 2 [(1, .int (400 - y7)), (0, .ref (ad 4 0))] := hl
      refine lv_iload_n (pc := 21) hx hb dM_close_21 rfl (lv_at hl 0 rfl) ?_
      refine lv_bipush (pc := 22) (v := 40) hx hb dM_close_22 (by decide) ?_
      refine lv_icmp_lt (pc := 24) (tgt := 46) hx hb dM_close_24 rfl (fun h8 => ?_) (fun h8 => ?_)
      · replace hf := ite_t h8 hf
        have hl := lv_sub hl (l' := [(0, .ref (ad 4 0))]) [1] rfl
        exact hJx3 (σ, H, _, ls) ⟨hP, hD, hS, hC, hl⟩ hf
      · replace hf := ite_f h8 hf
        refine lv_aload_n (pc := 27) hx hb dM_close_27 rfl (lv_at hl 1 rfl) ?_
        obtain ⟨q9, hq9, eq9⟩ := at_4 (ad := ad) (ca := ca) (σ := σ) hm0
        refine va_get (D := (dC, dI)) (cl := kCl) (C := RM) (T := TM) (N := 11) (pc := 28) hx hb hts inM hown hK.1 hP q9 eq9 rfl 2 (by decide) (hts _ wd_51) (fun _ h9 => h9) rfl dM_close_28 ?_
        refine lv_bipush (pc := 31) (v := 17) hx hb dM_close_31 (by decide) ?_
        refine lv_iload_n (pc := 33) hx hb dM_close_33 rfl (lv_at hl 0 rfl) ?_
        obtain ⟨q11, hq11, eq11⟩ := at_15 (ad := ad) (ca := ca) (σ := σ) (cm_4_2 hC hm0)
        refine va_iast (D := (dC, dI)) (cl := kCl) (pc := 34) hx hb (hK.2 15 0 .int (cm_4_2 hC hm0) rfl) hP hD hS q11 0 eq11 rfl (vp_in_lit 17 25240 (by decide)) dM_close_34 (fun H locs hP hD hS => ?_)
        obtain ⟨σ10, hσ10, hf⟩ := lt_9 hf
        obtain ⟨hP, hD⟩ := w9_rI 15 rfl hN hq11 hσ10 (pr_15) hP hD
        have hC : clo dom σ10.2.2 := by rw [hσ10]; exact hC
        refine lv_aload_n (pc := 35) hx hb dM_close_35 rfl (lv_at hl 1 rfl) ?_
        obtain ⟨q12, hq12, eq12⟩ := at_4 (ad := ad) (ca := ca) (σ := σ10) hm0
        refine va_get (D := (dC, dI)) (cl := kCl) (C := RM) (T := TM) (N := 11) (pc := 36) hx hb hts inM hown hK.1 hP q12 eq12 rfl 2 (by decide) (hts _ wd_51) (fun _ h9 => h9) rfl dM_close_36 ?_
        refine lv_bipush (pc := 39) (v := 19) hx hb dM_close_39 (by decide) ?_
        refine lv_dup2_11 (pc := 41) hx hb dM_close_41 rfl rfl ?_
        obtain ⟨q13, hq13, eq13⟩ := at_15 (ad := ad) (ca := ca) (σ := σ10) (cm_4_2 hC hm0)
        refine va_iald (D := (dC, dI)) (cl := kCl) (pc := 42) hx hb (hK.2 15 0 .int (cm_4_2 hC hm0) rfl) hP q13 0 eq13 rfl (vp_in_lit 19 25240 (by decide)) dM_close_42 ?_
        refine W.eq (g2 := F0 m 43 ls [.int (xI σ10 15 0 19), .int 19, .ref (ad 15 0)]) rfl ?_
        refine lv_iconst (pc := 43) (v := 1) hx hb dM_close_43 (by decide) ?_
        refine lv_iadd (pc := 44) hx hb dM_close_44 ?_
        obtain ⟨q15, hq15, eq15⟩ := at_15 (ad := ad) (ca := ca) (σ := σ10) (cm_4_2 hC hm0)
        refine va_iast (D := (dC, dI)) (cl := kCl) (pc := 45) hx hb (hK.2 15 0 .int (cm_4_2 hC hm0) rfl) hP hD hS q15 0 eq15 rfl (vp_in_lit 19 25240 (by decide)) dM_close_45 (fun H locs hP hD hS => ?_)
        obtain ⟨σ14, hσ14, hf⟩ := lt_9 hf
        obtain ⟨hP, hD⟩ := w9_rI 15 rfl hN hq15 hσ14 (pr_15) hP hD
        have hC : clo dom σ14.2.2 := by rw [hσ14]; exact hC
        have hl := lv_sub hl (l' := [(0, .ref (ad 4 0))]) [1] rfl
        exact hJx3 (σ14, H, _, ls) ⟨hP, hD, hS, hC, hl⟩ hf
  · rintro ⟨σ4, H, locs, ls⟩ ⟨hP, hD, hS, hC, hl⟩ hf
    dsimp only at hP hD hS hC hl hf ⊢
    rw [hx3] at hf
    have hl : lv_has ls 2 [(0, .ref (ad 4 0))] := hl
    refine lv_aload_n (pc := 46) hx hb dM_close_46 rfl (lv_at hl 0 rfl) ?_
    obtain ⟨q16, hq16, eq16⟩ := at_4 (ad := ad) (ca := ca) (σ := σ4) hm0
    obtain ⟨⟨y17, σ18⟩, hy17, hf⟩ := ob hf
    have hFc := w9_free hD hS hA
    refine va_callv (pc := 47) (va_runV (As := []) (rest := []) ⟨hx, hb, hml, hown, hts⟩ (t_M_keep l dC dI ad ca dom H.size n σ4 hm0 hN hC y17 σ18 hy17) (cwV 0 hts (gV wd_136 wd_137 wd_138 wd_50 wd_135) rfl rfl rfl (by decide +kernel) ⟨Nat.le_of_ble_eq_true rfl, Nat.le_of_ble_eq_true rfl⟩) ⟨hW_blind, va_recv (q := (RM, TM, 11)) (q0 := q16) (ci := 4) hK.1 hP rfl eq16, hW_pre hP hK hD hG⟩ rfl rfl hl.1 rfl (lv_room (Nat.le_of_ble_eq_true rfl)) dM_close_47 ⟨Nat.le_of_ble_eq_true rfl, Nat.le_of_ble_eq_true rfl⟩) hS (fun q _ h => hFc q h) hFc (fun u t H1 locs ht hvm hr9 hB hz1 hk1 hS => ?_)
    obtain ⟨hP, hD, hC⟩ := hB
    rw [ht] at hP
    replace hD := hD.weaken (fun _ _ _ h => hFc _ h)
    generalize H1 = H at hP hS ⊢
    obtain ⟨h8, h9⟩ := Prod.mk.inj (Option.some.inj hf)
    subst h9
    exact W.vret (pc := 50) hx hb hr (fun t ht hW => ⟨⟨(), rfl, trivial, by rw [ht]; exact hP, hD, hC⟩, hS.F ht⟩) hS.2.2 dM_close_50
def M_person (n : Nat) (σ : hT) (a1 : Int32) (a2 : Int32) : Option (Int32 × hT) := lt9 (α := Int32 → Option (Int32 × hT)) (fun (s3 : Int32) => Option.bind (M_may σ s3 1) fun ⟨y8, σ9⟩ => if y8 = 0 then some (0, σ9) else if in9 a1 25240 then lt9 (sI σ9 15 0 (a1).toNatClampNeg a2) fun σ12 => Option.bind (M_close n σ12) fun ⟨y16, σ17⟩ => some (1, σ17) else none) fun x2 => if (M_isPerson a1) = 0 then x2 7 else if a2 < 0 then x2 7 else if 8 ≤ a2 then x2 7 else x2 0
set_option maxHeartbeats 4000000 in
set_option maxRecDepth 100000 in
theorem t_M_person (l : Launch) (dC : Nat → ClassId) (dI : Nat → Nat → Nat) (ad : Nat → Nat → Nat) (ca : Nat → Nat → ClassId) (dom : List (Nat × Nat)) (sz : Nat) (n : Nat) (σ : hT) (a1 : Int32) (a2 : Int32) (hm0 : (4, 0) ∈ dom) (hN : dom.Nodup) (hC : clo dom σ.2.2) (ρ : Int32) (σ' : hT) (hf : M_person n σ a1 a2 = some (ρ, σ')) : Met l yM_person (.code yM_person cM_person 4 (some .boolean) :: aw) ({ frames := 7, cells := 0, slots := 0, locals := 157 }) (hW (dC, dI) sz ad ca dom σ [.ref (ad 4 0), .int a1, .int a2]) (va_Qi (fun r (_ : Unit) => r = ρ) (fun _ t => hB (dC, dI) (va_A (w9 ad ca dom σ) sz) ad ca dom σ' t) (va_A (w9 ad ca dom σ) sz)) 0 0 (va_A (w9 ad ca dom σ) sz) := by
  refine Met.ofW (cc := cM_person) (maxL := 4) (ret := (some .boolean)) (by decide) rfl ?_
  intro p e s m args below meth c s₁ B hml hv
  obtain ⟨rfl, hv⟩ := hv
  have hx := B.exec
  have hb := B.bytes
  have hr := B.returns
  have hts : ∀ w ∈ aw, w.before _ s = true := fun w h => atoms_spec (ws := (.code yM_person cM_person 4 (some .boolean) :: aw)) B.pre w (List.mem_cons_of_mem _ h)
  have hown : s.vm.findClass RM = some m.cls := findClass_of_methodNamed B.named
  have hlocks := B.notSynchronized
  obtain ⟨hsz, hP, hK, hD0, hG⟩ := hv
  subst hsz
  have hD := hD0.self (sz := s.heap.size)
  generalize hAe : va_A (w9 ad ca dom σ) s.heap.size = A at hD ⊢
  have hA : ∀ q : Nat, s.heap.size ≤ q → A q := fun q h => by rw [← hAe]; exact Or.inr h
  obtain ⟨H, hH⟩ : ∃ H, H = s.heap := ⟨_, rfl⟩
  have hS : va_S A s.heap H [] := by rw [hH]; exact va_S.rf
  rw [← hH] at hP ⊢
  unfold M_person at hf
  have hl := lv_entry ([.ref (ad 4 0), .int a1, .int a2]) (n := 4) (Nat.le_of_ble_eq_true rfl)
  rw [lg_entry_eq]
  generalize (lg_sl ([.ref (ad 4 0), .int a1, .int a2]) ++ List.replicate (4 - (lg_sl ([.ref (ad 4 0), .int a1, .int a2])).length) Slot.unset).toArray = ls at hl ⊢
  have hl : lv_has ls 4 [(0, .ref (ad 4 0)), (1, .int a1), (2, .int a2)] := hl
  refine lv_aload_n (pc := 0) hx hb dM_person_0 rfl (lv_at hl 0 rfl) ?_
  refine lv_iload_n (pc := 1) hx hb dM_person_1 rfl (lv_at hl 1 rfl) ?_
  obtain ⟨q1, hq1, eq1⟩ := at_4 (ad := ad) (ca := ca) (σ := σ) hm0
  refine vp_callSi (pc := 2) (W.runV (As := [.int a1]) (rest := []) ⟨hx, hb, hml, hown, hts⟩ (t_M_isPerson l dC dI ad ca dom a1 hm0 σ hN hC (M_isPerson a1) rfl) (cwV 1 hts (gV wd_47 wd_48 wd_49 wd_50 wd_46) rfl rfl rfl (by decide +kernel) ⟨Nat.le_of_ble_eq_true rfl, Nat.le_of_ble_eq_true rfl⟩) ⟨hR_blind, va_recv (q := (RM, TM, 11)) (q0 := q1) (ci := 4) hK.1 hP rfl eq1, hR_pre hP hK hG⟩ rfl rfl hl.1 rfl (lv_room (Nat.le_of_ble_eq_true rfl)) dM_person_2 ⟨Nat.le_of_ble_eq_true rfl, Nat.le_of_ble_eq_true rfl⟩) (fun r9 hr9 => ?_)
  refine W.eq (g2 := F0 m 5 ls [.int (M_isPerson a1)]) (by rw [hr9]) ?_
  obtain ⟨x2, hx2, hf⟩ := lt_9 hf
  refine jnF (τ := (Int32) × (Heap) × (List Loc) × (Array Slot)) (fun pc st z => W p l e _ s m _ below meth c z.2.1 z.2.2.1 0 0 _ (F0 m pc z.2.2.2 st)) (pc0 := 5) (st0 := [.int (M_isPerson a1)]) (z0 := (0, H, _, ls)) 24 (fun z => [.int z.1]) (fun z => va_P (dC, dI) kCl (w9 ad ca dom (σ)) z.2.1 ∧ va_D A (w9 ad ca dom (σ)) ∧ va_S A s.heap z.2.1 z.2.2.1 ∧ lv_has z.2.2.2 4 [(0, .ref (ad 4 0)), (1, .int a1), (2, .int a2)]) (fun z => x2 z.1) (ρ, σ') ?_ ?_
  · intro hJx2
    dsimp only at hJx2 ⊢
    refine lv_if_eq (pc := 5) (tgt := 22) hx hb dM_person_5 rfl (fun h4 => ?_) (fun h4 => ?_)
    · replace hf := ite_t h4 hf
      refine lv_bipush (pc := 22) (v := 7) hx hb dM_person_22 (by decide) ?_
      have hl := lv_sub hl (l' := [(0, .ref (ad 4 0)), (1, .int a1), (2, .int a2)]) [0, 1, 2] rfl
      exact hJx2 (7, H, _, ls) ⟨hP, hD, hS, hl⟩ hf
    · replace hf := ite_f h4 hf
      refine lv_iload_n (pc := 8) hx hb dM_person_8 rfl (lv_at hl 2 rfl) ?_
      refine lv_if_lt (pc := 9) (tgt := 22) hx hb dM_person_9 rfl (fun h5 => ?_) (fun h5 => ?_)
      · replace hf := ite_t h5 hf
        refine lv_bipush (pc := 22) (v := 7) hx hb dM_person_22 (by decide) ?_
        have hl := lv_sub hl (l' := [(0, .ref (ad 4 0)), (1, .int a1), (2, .int a2)]) [0, 1, 2] rfl
        exact hJx2 (7, H, _, ls) ⟨hP, hD, hS, hl⟩ hf
      · replace hf := ite_f h5 hf
        refine lv_iload_n (pc := 12) hx hb dM_person_12 rfl (lv_at hl 2 rfl) ?_
        refine lv_bipush (pc := 13) (v := 8) hx hb dM_person_13 (by decide) ?_
        refine lv_icmp_ge (pc := 15) (tgt := 22) hx hb dM_person_15 rfl (fun h6 => ?_) (fun h6 => ?_)
        · replace hf := ite_t h6 hf
          refine lv_bipush (pc := 22) (v := 7) hx hb dM_person_22 (by decide) ?_
          have hl := lv_sub hl (l' := [(0, .ref (ad 4 0)), (1, .int a1), (2, .int a2)]) [0, 1, 2] rfl
          exact hJx2 (7, H, _, ls) ⟨hP, hD, hS, hl⟩ hf
        · replace hf := ite_f h6 hf
          refine lv_iconst (pc := 18) (v := 0) hx hb dM_person_18 (by decide) ?_
          refine lv_goto (pc := 19) (tgt := 24) hx hb dM_person_19 rfl ?_
          have hl := lv_sub hl (l' := [(0, .ref (ad 4 0)), (1, .int a1), (2, .int a2)]) [0, 1, 2] rfl
          exact hJx2 (0, H, _, ls) ⟨hP, hD, hS, hl⟩ hf
  · rintro ⟨s3, H, locs, ls⟩ ⟨hP, hD, hS, hl⟩ hf
    dsimp only at hP hD hS hl hf ⊢
    rw [hx2] at hf
    have hl : lv_has ls 4 [(0, .ref (ad 4 0)), (1, .int a1), (2, .int a2)] := hl
    refine lv_istore_n (pc := 24) hx hb dM_person_24 rfl hl (by decide) rfl (fun ls hl => ?_)
    have hl : lv_has ls 4 [(3, .int s3), (0, .ref (ad 4 0)), (1, .int a1), (2, .int a2)] := hl
    refine lv_aload_n (pc := 25) hx hb dM_person_25 rfl (lv_at hl 1 rfl) ?_
    refine lv_iload_n (pc := 26) hx hb dM_person_26 rfl (lv_at hl 0 rfl) ?_
    refine lv_iconst (pc := 27) (v := 1) hx hb dM_person_27 (by decide) ?_
    obtain ⟨q7, hq7, eq7⟩ := at_4 (ad := ad) (ca := ca) (σ := σ) hm0
    obtain ⟨⟨y8, σ9⟩, hy8, hf⟩ := ob hf
    have hFc := w9_free hD hS hA
    refine va_calli (pc := 28) (va_runV (As := [.int s3, .int 1]) (rest := []) ⟨hx, hb, hml, hown, hts⟩ (t_M_may l dC dI ad ca dom H.size σ s3 1 hm0 hN hC y8 σ9 hy8) (cwV 2 hts (gV wd_140 wd_141 wd_142 wd_50 wd_139) rfl rfl rfl (by decide +kernel) ⟨Nat.le_of_ble_eq_true rfl, Nat.le_of_ble_eq_true rfl⟩) ⟨hW_blind, va_recv (q := (RM, TM, 11)) (q0 := q7) (ci := 4) hK.1 hP rfl eq7, hW_pre hP hK hD hG⟩ rfl rfl hl.1 rfl (lv_room (Nat.le_of_ble_eq_true rfl)) dM_person_28 ⟨Nat.le_of_ble_eq_true rfl, Nat.le_of_ble_eq_true rfl⟩) hS (fun q _ h => hFc q h) hFc (fun r9 u t H1 locs ht hvm hr9 hB hz1 hk1 hS => ?_)
    obtain ⟨hP, hD, hC⟩ := hB
    rw [ht] at hP
    replace hD := hD.weaken (fun _ _ _ h => hFc _ h)
    generalize H1 = H at hP hS ⊢
    refine W.eq (g2 := F0 m 31 ls [.int y8]) (by rw [hr9]) ?_
    refine lv_if_ne (pc := 31) (tgt := 36) hx hb dM_person_31 rfl (fun h10 => ?_) (fun h10 => ?_)
    · replace hf := ite_f h10 hf
      refine lv_aload_n (pc := 36) hx hb dM_person_36 rfl (lv_at hl 1 rfl) ?_
      obtain ⟨q11, hq11, eq11⟩ := at_4 (ad := ad) (ca := ca) (σ := σ9) hm0
      refine va_get (D := (dC, dI)) (cl := kCl) (C := RM) (T := TM) (N := 11) (pc := 37) hx hb hts inM hown hK.1 hP q11 eq11 rfl 2 (by decide) (hts _ wd_51) (fun _ h9 => h9) rfl dM_person_37 ?_
      refine lv_iload_n (pc := 40) hx hb dM_person_40 rfl (lv_at hl 2 rfl) ?_
      refine lv_iload_n (pc := 41) hx hb dM_person_41 rfl (lv_at hl 3 rfl) ?_
      obtain ⟨hv13, hf⟩ := ite_s hf
      obtain ⟨q14, hq14, eq14⟩ := at_15 (ad := ad) (ca := ca) (σ := σ9) (cm_4_2 hC hm0)
      refine va_iast (D := (dC, dI)) (cl := kCl) (pc := 42) hx hb (hK.2 15 0 .int (cm_4_2 hC hm0) rfl) hP hD hS q14 0 eq14 rfl (hv13) dM_person_42 (fun H locs hP hD hS => ?_)
      obtain ⟨σ12, hσ12, hf⟩ := lt_9 hf
      obtain ⟨hP, hD⟩ := w9_rI 15 rfl hN hq14 hσ12 (pr_15) hP hD
      have hC : clo dom σ12.2.2 := by rw [hσ12]; exact hC
      refine lv_aload_n (pc := 43) hx hb dM_person_43 rfl (lv_at hl 1 rfl) ?_
      obtain ⟨q15, hq15, eq15⟩ := at_4 (ad := ad) (ca := ca) (σ := σ12) hm0
      obtain ⟨⟨y16, σ17⟩, hy16, hf⟩ := ob hf
      have hFc := w9_free hD hS hA
      refine va_callv (pc := 44) (va_runV (As := []) (rest := []) ⟨hx, hb, hml, hown, hts⟩ (t_M_close l dC dI ad ca dom H.size n σ12 hm0 hN hC y16 σ17 hy16) (cwV 0 hts (gV wd_144 wd_145 wd_146 wd_50 wd_143) rfl rfl rfl (by decide +kernel) ⟨Nat.le_of_ble_eq_true rfl, Nat.le_of_ble_eq_true rfl⟩) ⟨hW_blind, va_recv (q := (RM, TM, 11)) (q0 := q15) (ci := 4) hK.1 hP rfl eq15, hW_pre hP hK hD hG⟩ rfl rfl hl.1 rfl (lv_room (Nat.le_of_ble_eq_true rfl)) dM_person_44 ⟨Nat.le_of_ble_eq_true rfl, Nat.le_of_ble_eq_true rfl⟩) hS (fun q _ h => hFc q h) hFc (fun u t H1 locs ht hvm hr9 hB hz1 hk1 hS => ?_)
      obtain ⟨hP, hD, hC⟩ := hB
      rw [ht] at hP
      replace hD := hD.weaken (fun _ _ _ h => hFc _ h)
      generalize H1 = H at hP hS ⊢
      refine lv_iconst (pc := 47) (v := 1) hx hb dM_person_47 (by decide) ?_
      obtain ⟨h8, h9⟩ := Prod.mk.inj (Option.some.inj hf)
      subst h9
      exact W.zret (pc := 48) hx hb hr (rfl) (fun t ht hW => ⟨⟨_, (), rfl, h8, by rw [ht]; exact hP, hD, hC⟩, hS.F ht⟩) hS.2.2 dM_person_48
    · replace hf := ite_t h10 hf
      refine lv_iconst (pc := 34) (v := 0) hx hb dM_person_34 (by decide) ?_
      obtain ⟨h8, h9⟩ := Prod.mk.inj (Option.some.inj hf)
      subst h9
      exact W.zret (pc := 35) hx hb hr (rfl) (fun t ht hW => ⟨⟨_, (), rfl, h8, by rw [ht]; exact hP, hD, hC⟩, hS.F ht⟩) hS.2.2 dM_person_35
def M_blank_L2 (n : Nat) (kx4 : hT → Int32 → Int32 → Option (Unit × hT)) : Nat → hT → Int32 → Int32 → Option (Unit × hT)
  | 0, _, _, _ => none
  | k + 1, σ1, p2, p3 => if 80 ≤ p2 then kx4 (σ1) p2 p3 else if in9 (p3 + p2) 25240 then lt9 (sI σ1 15 0 ((p3 + p2)).toNatClampNeg 0) fun σ8 => M_blank_L2 n kx4 k (σ8) (p2 + 1) p3 else none
def M_blank (n : Nat) (σ : hT) (a1 : Int32) : Option (Unit × hT) := lt9 (α := hT → Int32 → Int32 → Option (Unit × hT)) (fun (σ1 : hT) (p2 : Int32) (p3 : Int32) => some ((), σ1)) fun kx4 => M_blank_L2 n kx4 n (σ) 0 a1
set_option maxHeartbeats 4000000 in
set_option maxRecDepth 100000 in
theorem t_M_blank (l : Launch) (dC : Nat → ClassId) (dI : Nat → Nat → Nat) (ad : Nat → Nat → Nat) (ca : Nat → Nat → ClassId) (dom : List (Nat × Nat)) (sz : Nat) (n : Nat) (σ : hT) (a1 : Int32) (hm0 : (4, 0) ∈ dom) (hN : dom.Nodup) (hC : clo dom σ.2.2) (ρ : Unit) (σ' : hT) (hf : M_blank n σ a1 = some (ρ, σ')) : Met l yM_blank (.code yM_blank cM_blank 3 none :: aw) ({ frames := 0, cells := 0, slots := 0, locals := 0 }) (hW (dC, dI) sz ad ca dom σ [.ref (ad 4 0), .int a1]) (va_Qv (fun (_ : Unit) => True) (fun _ t => hB (dC, dI) (va_A (w9 ad ca dom σ) sz) ad ca dom σ' t) (va_A (w9 ad ca dom σ) sz)) 0 0 (va_A (w9 ad ca dom σ) sz) := by
  refine Met.ofW (cc := cM_blank) (maxL := 3) (ret := none) (by decide) rfl ?_
  intro p e s m args below meth c s₁ B hml hv
  obtain ⟨rfl, hv⟩ := hv
  have hx := B.exec
  have hb := B.bytes
  have hr := B.returns
  have hts : ∀ w ∈ aw, w.before _ s = true := fun w h => atoms_spec (ws := (.code yM_blank cM_blank 3 none :: aw)) B.pre w (List.mem_cons_of_mem _ h)
  have hown : s.vm.findClass RM = some m.cls := findClass_of_methodNamed B.named
  have hlocks := B.notSynchronized
  obtain ⟨hsz, hP, hK, hD0, hG⟩ := hv
  subst hsz
  have hD := hD0.self (sz := s.heap.size)
  generalize hAe : va_A (w9 ad ca dom σ) s.heap.size = A at hD ⊢
  have hA : ∀ q : Nat, s.heap.size ≤ q → A q := fun q h => by rw [← hAe]; exact Or.inr h
  obtain ⟨H, hH⟩ : ∃ H, H = s.heap := ⟨_, rfl⟩
  have hS : va_S A s.heap H [] := by rw [hH]; exact va_S.rf
  rw [← hH] at hP ⊢
  unfold M_blank at hf
  have hl := lv_entry ([.ref (ad 4 0), .int a1]) (n := 3) (Nat.le_of_ble_eq_true rfl)
  rw [lg_entry_eq]
  generalize (lg_sl ([.ref (ad 4 0), .int a1]) ++ List.replicate (3 - (lg_sl ([.ref (ad 4 0), .int a1])).length) Slot.unset).toArray = ls at hl ⊢
  have hl : lv_has ls 3 [(0, .ref (ad 4 0)), (1, .int a1)] := hl
  refine lv_iconst (pc := 0) (v := 0) hx hb dM_blank_0 (by decide) ?_
  refine lv_istore_n (pc := 1) hx hb dM_blank_1 rfl hl (by decide) rfl (fun ls hl => ?_)
  have hl : lv_has ls 3 [(2, .int 0), (0, .ref (ad 4 0)), (1, .int a1)] := hl
  obtain ⟨kx4, hkx4, hf⟩ := lt_9 hf
  refine lpF (τ := (hT) × (Int32) × (Int32) × (Heap) × (List Loc) × (Array Slot)) (fun pc z => W p l e _ s m _ below meth c z.2.2.2.1 z.2.2.2.2.1 0 0 _ (F0 m pc z.2.2.2.2.2 [])) 2 23 (fun z => va_P (dC, dI) kCl (w9 ad ca dom z.1) z.2.2.2.1 ∧ va_D A (w9 ad ca dom z.1) ∧ va_S A s.heap z.2.2.2.1 z.2.2.2.2.1 ∧ clo dom z.1.2.2 ∧ lv_has z.2.2.2.2.2 3 [(2, .int z.2.1), (0, .ref (ad 4 0)), (1, .int z.2.2.1)]) (fun k z => M_blank_L2 n kx4 k z.1 z.2.1 z.2.2.1) (fun z => kx4 z.1 z.2.1 z.2.2.1) _ (fun z => rfl) ?_ ?_ n (σ, 0, a1, H, _, ls) ⟨hP, hD, hS, hC, hl⟩ hf
  · rintro k ⟨σ1, p2, p3, H, locs, ls⟩ ⟨hP, hD, hS, hC, hl⟩ hf ih5 hXkx4
    dsimp only at hP hD hS hC hl hf ih5 hXkx4 ⊢
    unfold M_blank_L2 at hf
    have hl : lv_has ls 3 [(2, .int p2), (0, .ref (ad 4 0)), (1, .int p3)] := hl
    refine lv_iload_n (pc := 2) hx hb dM_blank_2 rfl (lv_at hl 0 rfl) ?_
    refine lv_bipush (pc := 3) (v := 80) hx hb dM_blank_3 (by decide) ?_
    refine lv_icmp_ge (pc := 5) (tgt := 23) hx hb dM_blank_5 rfl (fun h6 => ?_) (fun h6 => ?_)
    · replace hf := ite_t h6 hf
      have hl := lv_sub hl (l' := [(2, .int p2), (0, .ref (ad 4 0)), (1, .int p3)]) [0, 1, 2] rfl
      exact hXkx4 (σ1, p2, p3, H, _, ls) ⟨hP, hD, hS, hC, hl⟩ hf
    · replace hf := ite_f h6 hf
      refine lv_aload_n (pc := 8) hx hb dM_blank_8 rfl (lv_at hl 1 rfl) ?_
      obtain ⟨q7, hq7, eq7⟩ := at_4 (ad := ad) (ca := ca) (σ := σ1) hm0
      refine va_get (D := (dC, dI)) (cl := kCl) (C := RM) (T := TM) (N := 11) (pc := 9) hx hb hts inM hown hK.1 hP q7 eq7 rfl 2 (by decide) (hts _ wd_51) (fun _ h9 => h9) rfl dM_blank_9 ?_
      refine lv_iload_n (pc := 12) hx hb dM_blank_12 rfl (lv_at hl 2 rfl) ?_
      refine lv_iload_n (pc := 13) hx hb dM_blank_13 rfl (lv_at hl 0 rfl) ?_
      refine lv_iadd (pc := 14) hx hb dM_blank_14 ?_
      refine lv_iconst (pc := 15) (v := 0) hx hb dM_blank_15 (by decide) ?_
      obtain ⟨hv9, hf⟩ := ite_s hf
      obtain ⟨q10, hq10, eq10⟩ := at_15 (ad := ad) (ca := ca) (σ := σ1) (cm_4_2 hC hm0)
      refine va_iast (D := (dC, dI)) (cl := kCl) (pc := 16) hx hb (hK.2 15 0 .int (cm_4_2 hC hm0) rfl) hP hD hS q10 0 eq10 rfl (hv9) dM_blank_16 (fun H locs hP hD hS => ?_)
      obtain ⟨σ8, hσ8, hf⟩ := lt_9 hf
      obtain ⟨hP, hD⟩ := w9_rI 15 rfl hN hq10 hσ8 (pr_15) hP hD
      have hC : clo dom σ8.2.2 := by rw [hσ8]; exact hC
      refine lv_iinc (pc := 17) (v := (p2 + 1)) hx hb dM_blank_17 hl (k := 0) rfl (by rfl) (by decide) rfl (fun ls hl => ?_)
      have hl : lv_has ls 3 [(2, .int (p2 + 1)), (0, .ref (ad 4 0)), (1, .int p3)] := hl
      refine lv_goto (pc := 20) (tgt := 2) hx hb dM_blank_20 rfl ?_
      have hl := lv_sub hl (l' := [(2, .int (p2 + 1)), (0, .ref (ad 4 0)), (1, .int p3)]) [0, 1, 2] rfl
      exact ih5 (σ8, (p2 + 1), p3, H, _, ls) ⟨hP, hD, hS, hC, hl⟩ hf
  · rintro ⟨σ1, p2, p3, H, locs, ls⟩ ⟨hP, hD, hS, hC, hl⟩ hf
    dsimp only at hP hD hS hC hl hf ⊢
    rw [hkx4] at hf
    have hl : lv_has ls 3 [(2, .int p2), (0, .ref (ad 4 0)), (1, .int p3)] := hl
    obtain ⟨h8, h9⟩ := Prod.mk.inj (Option.some.inj hf)
    subst h9
    exact W.vret (pc := 23) hx hb hr (fun t ht hW => ⟨⟨(), rfl, trivial, by rw [ht]; exact hP, hD, hC⟩, hS.F ht⟩) hS.2.2 dM_blank_23
def M_drawing (n : Nat) (σ : hT) (a1 : Int32) : Option (Int32 × hT) := Option.bind (M_rights σ a1) fun y2 => lt9 (α := Int32 → Option (Int32 × hT)) (fun (s4 : Int32) => lt9 (α := Int32 → Option (Int32 × hT)) (fun (s9 : Int32) => Option.bind (M_may σ (M_least s4 1 (M_least s9 8 0)) 2) fun ⟨y15, σ16⟩ => if y15 = 0 then if (xI σ16 500 0 0) ≤ 0 then some ((-1), σ16) else some (0, σ16) else lt9 (sI σ16 15 0 16 ((xI σ16 15 0 16) + 1)) fun σ22 => Option.bind (M_blank n σ22 (M_drawingAt (xI σ16 15 0 16))) fun ⟨y26, σ27⟩ => Option.bind (M_blank n σ27 (M_revisionAt (xI σ16 15 0 16) 0)) fun ⟨y30, σ31⟩ => if in9 ((M_drawingAt (xI σ16 15 0 16)) + 0) 25240 then lt9 (sI σ31 15 0 (((M_drawingAt (xI σ16 15 0 16)) + 0)).toNatClampNeg 1) fun σ34 => if in9 ((M_revisionAt (xI σ16 15 0 16) 0) + 1) 25240 then lt9 (sI σ34 15 0 (((M_revisionAt (xI σ16 15 0 16) 0) + 1)).toNatClampNeg a1) fun σ39 => Option.bind (M_close n σ39) fun ⟨y43, σ44⟩ => some ((xI σ16 15 0 16), σ44) else none else none) fun x8 => if (xI σ 15 0 16) = 24 then x8 1 else Option.bind (M_allRevisions n σ) fun y12 => if y12 = 100 then x8 1 else x8 0) fun x3 => if (y2 &&& 1) = 0 then x3 1 else x3 0
set_option maxHeartbeats 4000000 in
set_option maxRecDepth 100000 in
theorem t_M_drawing (l : Launch) (dC : Nat → ClassId) (dI : Nat → Nat → Nat) (ad : Nat → Nat → Nat) (ca : Nat → Nat → ClassId) (dom : List (Nat × Nat)) (sz : Nat) (n : Nat) (σ : hT) (a1 : Int32) (hm0 : (4, 0) ∈ dom) (hN : dom.Nodup) (hC : clo dom σ.2.2) (ρ : Int32) (σ' : hT) (hf : M_drawing n σ a1 = some (ρ, σ')) : Met l yM_drawing (.code yM_drawing cM_drawing 4 (some .int) :: aw) ({ frames := 7, cells := 0, slots := 0, locals := 157 }) (hW (dC, dI) sz ad ca dom σ [.ref (ad 4 0), .int a1]) (va_Qi (fun r (_ : Unit) => r = ρ) (fun _ t => hB (dC, dI) (va_A (w9 ad ca dom σ) sz) ad ca dom σ' t) (va_A (w9 ad ca dom σ) sz)) 0 0 (va_A (w9 ad ca dom σ) sz) := by
  refine Met.ofW (cc := cM_drawing) (maxL := 4) (ret := (some .int)) (by decide) rfl ?_
  intro p e s m args below meth c s₁ B hml hv
  obtain ⟨rfl, hv⟩ := hv
  have hx := B.exec
  have hb := B.bytes
  have hr := B.returns
  have hts : ∀ w ∈ aw, w.before _ s = true := fun w h => atoms_spec (ws := (.code yM_drawing cM_drawing 4 (some .int) :: aw)) B.pre w (List.mem_cons_of_mem _ h)
  have hown : s.vm.findClass RM = some m.cls := findClass_of_methodNamed B.named
  have hlocks := B.notSynchronized
  obtain ⟨hsz, hP, hK, hD0, hG⟩ := hv
  subst hsz
  have hD := hD0.self (sz := s.heap.size)
  generalize hAe : va_A (w9 ad ca dom σ) s.heap.size = A at hD ⊢
  have hA : ∀ q : Nat, s.heap.size ≤ q → A q := fun q h => by rw [← hAe]; exact Or.inr h
  obtain ⟨H, hH⟩ : ∃ H, H = s.heap := ⟨_, rfl⟩
  have hS : va_S A s.heap H [] := by rw [hH]; exact va_S.rf
  rw [← hH] at hP ⊢
  unfold M_drawing at hf
  have hl := lv_entry ([.ref (ad 4 0), .int a1]) (n := 4) (Nat.le_of_ble_eq_true rfl)
  rw [lg_entry_eq]
  generalize (lg_sl ([.ref (ad 4 0), .int a1]) ++ List.replicate (4 - (lg_sl ([.ref (ad 4 0), .int a1])).length) Slot.unset).toArray = ls at hl ⊢
  have hl : lv_has ls 4 [(0, .ref (ad 4 0)), (1, .int a1)] := hl
  refine lv_aload_n (pc := 0) hx hb dM_drawing_0 rfl (lv_at hl 0 rfl) ?_
  refine lv_iload_n (pc := 1) hx hb dM_drawing_1 rfl (lv_at hl 1 rfl) ?_
  obtain ⟨q1, hq1, eq1⟩ := at_4 (ad := ad) (ca := ca) (σ := σ) hm0
  obtain ⟨y2, hy2, hf⟩ := ob hf
  refine vp_callSi (pc := 2) (W.runV (As := [.int a1]) (rest := []) ⟨hx, hb, hml, hown, hts⟩ (t_M_rights l dC dI ad ca dom σ a1 hm0 hN hC y2 hy2) (cwV 1 hts (gV wd_148 wd_149 wd_150 wd_50 wd_147) rfl rfl rfl (by decide +kernel) ⟨Nat.le_of_ble_eq_true rfl, Nat.le_of_ble_eq_true rfl⟩) ⟨hR_blind, va_recv (q := (RM, TM, 11)) (q0 := q1) (ci := 4) hK.1 hP rfl eq1, hR_pre hP hK hG⟩ rfl rfl hl.1 rfl (lv_room (Nat.le_of_ble_eq_true rfl)) dM_drawing_2 ⟨Nat.le_of_ble_eq_true rfl, Nat.le_of_ble_eq_true rfl⟩) (fun r9 hr9 => ?_)
  refine W.eq (g2 := F0 m 5 ls [.int y2]) (by rw [hr9]) ?_
  refine lv_iconst (pc := 5) (v := 1) hx hb dM_drawing_5 (by decide) ?_
  refine lv_iand (pc := 6) hx hb dM_drawing_6 ?_
  obtain ⟨x3, hx3, hf⟩ := lt_9 hf
  refine jnF (τ := (Int32) × (Heap) × (List Loc) × (Array Slot)) (fun pc st z => W p l e _ s m _ below meth c z.2.1 z.2.2.1 0 0 _ (F0 m pc z.2.2.2 st)) (pc0 := 7) (st0 := [.int (y2 &&& 1)]) (z0 := (0, H, _, ls)) 15 (fun z => [.int z.1]) (fun z => va_P (dC, dI) kCl (w9 ad ca dom (σ)) z.2.1 ∧ va_D A (w9 ad ca dom (σ)) ∧ va_S A s.heap z.2.1 z.2.2.1 ∧ lv_has z.2.2.2 4 [(0, .ref (ad 4 0)), (1, .int a1)]) (fun z => x3 z.1) (ρ, σ') ?_ ?_
  · intro hJx3
    dsimp only at hJx3 ⊢
    refine lv_if_ne (pc := 7) (tgt := 14) hx hb dM_drawing_7 rfl (fun h5 => ?_) (fun h5 => ?_)
    · replace hf := ite_f h5 hf
      refine lv_iconst (pc := 14) (v := 0) hx hb dM_drawing_14 (by decide) ?_
      have hl := lv_sub hl (l' := [(0, .ref (ad 4 0)), (1, .int a1)]) [0, 1] rfl
      exact hJx3 (0, H, _, ls) ⟨hP, hD, hS, hl⟩ hf
    · replace hf := ite_t h5 hf
      refine lv_iconst (pc := 10) (v := 1) hx hb dM_drawing_10 (by decide) ?_
      refine lv_goto (pc := 11) (tgt := 15) hx hb dM_drawing_11 rfl ?_
      have hl := lv_sub hl (l' := [(0, .ref (ad 4 0)), (1, .int a1)]) [0, 1] rfl
      exact hJx3 (1, H, _, ls) ⟨hP, hD, hS, hl⟩ hf
  · rintro ⟨s4, H, locs, ls⟩ ⟨hP, hD, hS, hl⟩ hf
    dsimp only at hP hD hS hl hf ⊢
    rw [hx3] at hf
    have hl : lv_has ls 4 [(0, .ref (ad 4 0)), (1, .int a1)] := hl
    refine lv_iconst (pc := 15) (v := 1) hx hb dM_drawing_15 (by decide) ?_
    refine lv_aload_n (pc := 16) hx hb dM_drawing_16 rfl (lv_at hl 0 rfl) ?_
    obtain ⟨q6, hq6, eq6⟩ := at_4 (ad := ad) (ca := ca) (σ := σ) hm0
    refine va_get (D := (dC, dI)) (cl := kCl) (C := RM) (T := TM) (N := 11) (pc := 17) hx hb hts inM hown hK.1 hP q6 eq6 rfl 2 (by decide) (hts _ wd_51) (fun _ h9 => h9) rfl dM_drawing_17 ?_
    refine lv_bipush (pc := 20) (v := 16) hx hb dM_drawing_20 (by decide) ?_
    obtain ⟨q7, hq7, eq7⟩ := at_15 (ad := ad) (ca := ca) (σ := σ) (cm_4_2 hC hm0)
    refine va_iald (D := (dC, dI)) (cl := kCl) (pc := 22) hx hb (hK.2 15 0 .int (cm_4_2 hC hm0) rfl) hP q7 0 eq7 rfl (vp_in_lit 16 25240 (by decide)) dM_drawing_22 ?_
    refine W.eq (g2 := F0 m 23 ls [.int (xI σ 15 0 16), .int 1, .int s4]) rfl ?_
    refine lv_bipush (pc := 23) (v := 24) hx hb dM_drawing_23 (by decide) ?_
    obtain ⟨x8, hx8, hf⟩ := lt_9 hf
    refine jnF (τ := (Int32) × (Heap) × (List Loc) × (Array Slot)) (fun pc st z => W p l e _ s m _ below meth c z.2.1 z.2.2.1 0 0 _ (F0 m pc z.2.2.2 st)) (pc0 := 25) (st0 := [.int 24, .int (xI σ 15 0 16), .int 1, .int s4]) (z0 := (0, H, _, ls)) 42 (fun z => [.int z.1, .int 1, .int s4]) (fun z => va_P (dC, dI) kCl (w9 ad ca dom (σ)) z.2.1 ∧ va_D A (w9 ad ca dom (σ)) ∧ va_S A s.heap z.2.1 z.2.2.1 ∧ lv_has z.2.2.2 4 [(0, .ref (ad 4 0)), (1, .int a1)]) (fun z => x8 z.1) (ρ, σ') ?_ ?_
    · intro hJx8
      dsimp only at hJx8 ⊢
      refine lv_icmp_eq (pc := 25) (tgt := 37) hx hb dM_drawing_25 rfl (fun h10 => ?_) (fun h10 => ?_)
      · replace hf := ite_t h10 hf
        refine lv_iconst (pc := 37) (v := 1) hx hb dM_drawing_37 (by decide) ?_
        refine lv_goto (pc := 38) (tgt := 42) hx hb dM_drawing_38 rfl ?_
        have hl := lv_sub hl (l' := [(0, .ref (ad 4 0)), (1, .int a1)]) [0, 1] rfl
        exact hJx8 (1, H, _, ls) ⟨hP, hD, hS, hl⟩ hf
      · replace hf := ite_f h10 hf
        refine lv_aload_n (pc := 28) hx hb dM_drawing_28 rfl (lv_at hl 0 rfl) ?_
        obtain ⟨q11, hq11, eq11⟩ := at_4 (ad := ad) (ca := ca) (σ := σ) hm0
        obtain ⟨y12, hy12, hf⟩ := ob hf
        refine vp_callSi (pc := 29) (W.runV (As := []) (rest := [.int 1, .int s4]) ⟨hx, hb, hml, hown, hts⟩ (t_M_allRevisions l dC dI ad ca dom n σ hm0 hN hC y12 hy12) (cwV 0 hts (gV wd_116 wd_117 wd_118 wd_50 wd_115) rfl rfl rfl (by decide +kernel) ⟨Nat.le_of_ble_eq_true rfl, Nat.le_of_ble_eq_true rfl⟩) ⟨hR_blind, va_recv (q := (RM, TM, 11)) (q0 := q11) (ci := 4) hK.1 hP rfl eq11, hR_pre hP hK hG⟩ rfl rfl hl.1 rfl (lv_room (Nat.le_of_ble_eq_true rfl)) dM_drawing_29 ⟨Nat.le_of_ble_eq_true rfl, Nat.le_of_ble_eq_true rfl⟩) (fun r9 hr9 => ?_)
        refine W.eq (g2 := F0 m 32 ls [.int y12, .int 1, .int s4]) (by rw [hr9]) ?_
        refine lv_bipush (pc := 32) (v := 100) hx hb dM_drawing_32 (by decide) ?_
        refine lv_icmp_ne (pc := 34) (tgt := 41) hx hb dM_drawing_34 rfl (fun h13 => ?_) (fun h13 => ?_)
        · replace hf := ite_f h13 hf
          refine lv_iconst (pc := 41) (v := 0) hx hb dM_drawing_41 (by decide) ?_
          have hl := lv_sub hl (l' := [(0, .ref (ad 4 0)), (1, .int a1)]) [0, 1] rfl
          exact hJx8 (0, H, _, ls) ⟨hP, hD, hS, hl⟩ hf
        · replace hf := ite_t h13 hf
          refine lv_iconst (pc := 37) (v := 1) hx hb dM_drawing_37 (by decide) ?_
          refine lv_goto (pc := 38) (tgt := 42) hx hb dM_drawing_38 rfl ?_
          have hl := lv_sub hl (l' := [(0, .ref (ad 4 0)), (1, .int a1)]) [0, 1] rfl
          exact hJx8 (1, H, _, ls) ⟨hP, hD, hS, hl⟩ hf
    · rintro ⟨s9, H, locs, ls⟩ ⟨hP, hD, hS, hl⟩ hf
      dsimp only at hP hD hS hl hf ⊢
      rw [hx8] at hf
      have hl : lv_has ls 4 [(0, .ref (ad 4 0)), (1, .int a1)] := hl
      refine lv_bipush (pc := 42) (v := 8) hx hb dM_drawing_42 (by decide) ?_
      refine lv_iconst (pc := 44) (v := 0) hx hb dM_drawing_44 (by decide) ?_
      refine vp_callSi (pc := 45) (W.runS (As := [.int s9, .int 8, .int 0]) (rest := [.int 1, .int s4]) ⟨hx, hb, hml, hown, hts⟩ (t_M_least l dC dI ad ca dom s9 8 0 σ hN hC (M_least s9 8 0) rfl) (cwS 3 hts (gS wd_152 wd_153 wd_50 wd_151) rfl rfl rfl (by decide +kernel) ⟨Nat.le_of_ble_eq_true rfl, Nat.le_of_ble_eq_true rfl⟩) ⟨hR_blind, hR_pre hP hK hG⟩ rfl rfl hl.1 rfl (lv_room (Nat.le_of_ble_eq_true rfl)) dM_drawing_45 ⟨Nat.le_of_ble_eq_true rfl, Nat.le_of_ble_eq_true rfl⟩) (fun r9 hr9 => ?_)
      refine W.eq (g2 := F0 m 48 ls [.int (M_least s9 8 0), .int 1, .int s4]) (by rw [hr9]) ?_
      refine vp_callSi (pc := 48) (W.runS (As := [.int s4, .int 1, .int (M_least s9 8 0)]) (rest := []) ⟨hx, hb, hml, hown, hts⟩ (t_M_least l dC dI ad ca dom s4 1 (M_least s9 8 0) σ hN hC (M_least s4 1 (M_least s9 8 0)) rfl) (cwS 3 hts (gS wd_152 wd_153 wd_50 wd_151) rfl rfl rfl (by decide +kernel) ⟨Nat.le_of_ble_eq_true rfl, Nat.le_of_ble_eq_true rfl⟩) ⟨hR_blind, hR_pre hP hK hG⟩ rfl rfl hl.1 rfl (lv_room (Nat.le_of_ble_eq_true rfl)) dM_drawing_48 ⟨Nat.le_of_ble_eq_true rfl, Nat.le_of_ble_eq_true rfl⟩) (fun r9 hr9 => ?_)
      refine W.eq (g2 := F0 m 51 ls [.int (M_least s4 1 (M_least s9 8 0))]) (by rw [hr9]) ?_
      refine lv_istore_n (pc := 51) hx hb dM_drawing_51 rfl hl (by decide) rfl (fun ls hl => ?_)
      have hl : lv_has ls 4 [(2, .int (M_least s4 1 (M_least s9 8 0))), (0, .ref (ad 4 0)), (1, .int a1)] := hl
      refine lv_aload_n (pc := 52) hx hb dM_drawing_52 rfl (lv_at hl 1 rfl) ?_
      refine lv_iload_n (pc := 53) hx hb dM_drawing_53 rfl (lv_at hl 0 rfl) ?_
      refine lv_iconst (pc := 54) (v := 2) hx hb dM_drawing_54 (by decide) ?_
      obtain ⟨q14, hq14, eq14⟩ := at_4 (ad := ad) (ca := ca) (σ := σ) hm0
      obtain ⟨⟨y15, σ16⟩, hy15, hf⟩ := ob hf
      have hFc := w9_free hD hS hA
      refine va_calli (pc := 55) (va_runV (As := [.int (M_least s4 1 (M_least s9 8 0)), .int 2]) (rest := []) ⟨hx, hb, hml, hown, hts⟩ (t_M_may l dC dI ad ca dom H.size σ (M_least s4 1 (M_least s9 8 0)) 2 hm0 hN hC y15 σ16 hy15) (cwV 2 hts (gV wd_140 wd_141 wd_142 wd_50 wd_139) rfl rfl rfl (by decide +kernel) ⟨Nat.le_of_ble_eq_true rfl, Nat.le_of_ble_eq_true rfl⟩) ⟨hW_blind, va_recv (q := (RM, TM, 11)) (q0 := q14) (ci := 4) hK.1 hP rfl eq14, hW_pre hP hK hD hG⟩ rfl rfl hl.1 rfl (lv_room (Nat.le_of_ble_eq_true rfl)) dM_drawing_55 ⟨Nat.le_of_ble_eq_true rfl, Nat.le_of_ble_eq_true rfl⟩) hS (fun q _ h => hFc q h) hFc (fun r9 u t H1 locs ht hvm hr9 hB hz1 hk1 hS => ?_)
      obtain ⟨hP, hD, hC⟩ := hB
      rw [ht] at hP
      replace hD := hD.weaken (fun _ _ _ h => hFc _ h)
      generalize H1 = H at hP hS ⊢
      refine W.eq (g2 := F0 m 58 ls [.int y15]) (by rw [hr9]) ?_
      refine lv_if_ne (pc := 58) (tgt := 74) hx hb dM_drawing_58 rfl (fun h17 => ?_) (fun h17 => ?_)
      · replace hf := ite_f h17 hf
        refine lv_aload_n (pc := 74) hx hb dM_drawing_74 rfl (lv_at hl 1 rfl) ?_
        obtain ⟨q18, hq18, eq18⟩ := at_4 (ad := ad) (ca := ca) (σ := σ16) hm0
        refine va_get (D := (dC, dI)) (cl := kCl) (C := RM) (T := TM) (N := 11) (pc := 75) hx hb hts inM hown hK.1 hP q18 eq18 rfl 2 (by decide) (hts _ wd_51) (fun _ h9 => h9) rfl dM_drawing_75 ?_
        refine lv_bipush (pc := 78) (v := 16) hx hb dM_drawing_78 (by decide) ?_
        obtain ⟨q19, hq19, eq19⟩ := at_15 (ad := ad) (ca := ca) (σ := σ16) (cm_4_2 hC hm0)
        refine va_iald (D := (dC, dI)) (cl := kCl) (pc := 80) hx hb (hK.2 15 0 .int (cm_4_2 hC hm0) rfl) hP q19 0 eq19 rfl (vp_in_lit 16 25240 (by decide)) dM_drawing_80 ?_
        refine W.eq (g2 := F0 m 81 ls [.int (xI σ16 15 0 16)]) rfl ?_
        refine lv_istore_n (pc := 81) hx hb dM_drawing_81 rfl hl (by decide) rfl (fun ls hl => ?_)
        have hl : lv_has ls 4 [(3, .int (xI σ16 15 0 16)), (2, .int (M_least s4 1 (M_least s9 8 0))), (0, .ref (ad 4 0)), (1, .int a1)] := hl
        refine lv_aload_n (pc := 82) hx hb dM_drawing_82 rfl (lv_at hl 2 rfl) ?_
        obtain ⟨q20, hq20, eq20⟩ := at_4 (ad := ad) (ca := ca) (σ := σ16) hm0
        refine va_get (D := (dC, dI)) (cl := kCl) (C := RM) (T := TM) (N := 11) (pc := 83) hx hb hts inM hown hK.1 hP q20 eq20 rfl 2 (by decide) (hts _ wd_51) (fun _ h9 => h9) rfl dM_drawing_83 ?_
        refine lv_bipush (pc := 86) (v := 16) hx hb dM_drawing_86 (by decide) ?_
        refine lv_dup2_11 (pc := 88) hx hb dM_drawing_88 rfl rfl ?_
        obtain ⟨q21, hq21, eq21⟩ := at_15 (ad := ad) (ca := ca) (σ := σ16) (cm_4_2 hC hm0)
        refine va_iald (D := (dC, dI)) (cl := kCl) (pc := 89) hx hb (hK.2 15 0 .int (cm_4_2 hC hm0) rfl) hP q21 0 eq21 rfl (vp_in_lit 16 25240 (by decide)) dM_drawing_89 ?_
        refine W.eq (g2 := F0 m 90 ls [.int (xI σ16 15 0 16), .int 16, .ref (ad 15 0)]) rfl ?_
        refine lv_iconst (pc := 90) (v := 1) hx hb dM_drawing_90 (by decide) ?_
        refine lv_iadd (pc := 91) hx hb dM_drawing_91 ?_
        obtain ⟨q23, hq23, eq23⟩ := at_15 (ad := ad) (ca := ca) (σ := σ16) (cm_4_2 hC hm0)
        refine va_iast (D := (dC, dI)) (cl := kCl) (pc := 92) hx hb (hK.2 15 0 .int (cm_4_2 hC hm0) rfl) hP hD hS q23 0 eq23 rfl (vp_in_lit 16 25240 (by decide)) dM_drawing_92 (fun H locs hP hD hS => ?_)
        obtain ⟨σ22, hσ22, hf⟩ := lt_9 hf
        obtain ⟨hP, hD⟩ := w9_rI 15 rfl hN hq23 hσ22 (pr_15) hP hD
        have hC : clo dom σ22.2.2 := by rw [hσ22]; exact hC
        refine lv_aload_n (pc := 93) hx hb dM_drawing_93 rfl (lv_at hl 2 rfl) ?_
        refine lv_aload_n (pc := 94) hx hb dM_drawing_94 rfl (lv_at hl 2 rfl) ?_
        refine lv_iload_n (pc := 95) hx hb dM_drawing_95 rfl (lv_at hl 0 rfl) ?_
        obtain ⟨q24, hq24, eq24⟩ := at_4 (ad := ad) (ca := ca) (σ := σ22) hm0
        refine vp_callSi (pc := 96) (W.runV (As := [.int (xI σ16 15 0 16)]) (rest := [.ref (ad 4 0)]) ⟨hx, hb, hml, hown, hts⟩ (t_M_drawingAt l dC dI ad ca dom (xI σ16 15 0 16) hm0 σ22 hN hC (M_drawingAt (xI σ16 15 0 16)) rfl) (cwV 1 hts (gV wd_53 wd_54 wd_55 wd_50 wd_52) rfl rfl rfl (by decide +kernel) ⟨Nat.le_of_ble_eq_true rfl, Nat.le_of_ble_eq_true rfl⟩) ⟨hR_blind, va_recv (q := (RM, TM, 11)) (q0 := q24) (ci := 4) hK.1 hP rfl eq24, hR_pre hP hK hG⟩ rfl rfl hl.1 rfl (lv_room (Nat.le_of_ble_eq_true rfl)) dM_drawing_96 ⟨Nat.le_of_ble_eq_true rfl, Nat.le_of_ble_eq_true rfl⟩) (fun r9 hr9 => ?_)
        refine W.eq (g2 := F0 m 99 ls [.int (M_drawingAt (xI σ16 15 0 16)), .ref (ad 4 0)]) (by rw [hr9]) ?_
        obtain ⟨q25, hq25, eq25⟩ := at_4 (ad := ad) (ca := ca) (σ := σ22) hm0
        obtain ⟨⟨y26, σ27⟩, hy26, hf⟩ := ob hf
        have hFc := w9_free hD hS hA
        refine va_callv (pc := 99) (va_runV (As := [.int (M_drawingAt (xI σ16 15 0 16))]) (rest := []) ⟨hx, hb, hml, hown, hts⟩ (t_M_blank l dC dI ad ca dom H.size n σ22 (M_drawingAt (xI σ16 15 0 16)) hm0 hN hC y26 σ27 hy26) (cwV 1 hts (gV wd_155 wd_156 wd_157 wd_50 wd_154) rfl rfl rfl (by decide +kernel) ⟨Nat.le_of_ble_eq_true rfl, Nat.le_of_ble_eq_true rfl⟩) ⟨hW_blind, va_recv (q := (RM, TM, 11)) (q0 := q25) (ci := 4) hK.1 hP rfl eq25, hW_pre hP hK hD hG⟩ rfl rfl hl.1 rfl (lv_room (Nat.le_of_ble_eq_true rfl)) dM_drawing_99 ⟨Nat.le_of_ble_eq_true rfl, Nat.le_of_ble_eq_true rfl⟩) hS (fun q _ h => hFc q h) hFc (fun u t H1 locs ht hvm hr9 hB hz1 hk1 hS => ?_)
        obtain ⟨hP, hD, hC⟩ := hB
        rw [ht] at hP
        replace hD := hD.weaken (fun _ _ _ h => hFc _ h)
        generalize H1 = H at hP hS ⊢
        refine lv_aload_n (pc := 102) hx hb dM_drawing_102 rfl (lv_at hl 2 rfl) ?_
        refine lv_aload_n (pc := 103) hx hb dM_drawing_103 rfl (lv_at hl 2 rfl) ?_
        refine lv_iload_n (pc := 104) hx hb dM_drawing_104 rfl (lv_at hl 0 rfl) ?_
        refine lv_iconst (pc := 105) (v := 0) hx hb dM_drawing_105 (by decide) ?_
        obtain ⟨q28, hq28, eq28⟩ := at_4 (ad := ad) (ca := ca) (σ := σ27) hm0
        refine vp_callSi (pc := 106) (W.runV (As := [.int (xI σ16 15 0 16), .int 0]) (rest := [.ref (ad 4 0)]) ⟨hx, hb, hml, hown, hts⟩ (t_M_revisionAt l dC dI ad ca dom (xI σ16 15 0 16) 0 hm0 σ27 hN hC (M_revisionAt (xI σ16 15 0 16) 0) rfl) (cwV 2 hts (gV wd_65 wd_66 wd_67 wd_50 wd_64) rfl rfl rfl (by decide +kernel) ⟨Nat.le_of_ble_eq_true rfl, Nat.le_of_ble_eq_true rfl⟩) ⟨hR_blind, va_recv (q := (RM, TM, 11)) (q0 := q28) (ci := 4) hK.1 hP rfl eq28, hR_pre hP hK hG⟩ rfl rfl hl.1 rfl (lv_room (Nat.le_of_ble_eq_true rfl)) dM_drawing_106 ⟨Nat.le_of_ble_eq_true rfl, Nat.le_of_ble_eq_true rfl⟩) (fun r9 hr9 => ?_)
        refine W.eq (g2 := F0 m 109 ls [.int (M_revisionAt (xI σ16 15 0 16) 0), .ref (ad 4 0)]) (by rw [hr9]) ?_
        obtain ⟨q29, hq29, eq29⟩ := at_4 (ad := ad) (ca := ca) (σ := σ27) hm0
        obtain ⟨⟨y30, σ31⟩, hy30, hf⟩ := ob hf
        have hFc := w9_free hD hS hA
        refine va_callv (pc := 109) (va_runV (As := [.int (M_revisionAt (xI σ16 15 0 16) 0)]) (rest := []) ⟨hx, hb, hml, hown, hts⟩ (t_M_blank l dC dI ad ca dom H.size n σ27 (M_revisionAt (xI σ16 15 0 16) 0) hm0 hN hC y30 σ31 hy30) (cwV 1 hts (gV wd_155 wd_156 wd_157 wd_50 wd_154) rfl rfl rfl (by decide +kernel) ⟨Nat.le_of_ble_eq_true rfl, Nat.le_of_ble_eq_true rfl⟩) ⟨hW_blind, va_recv (q := (RM, TM, 11)) (q0 := q29) (ci := 4) hK.1 hP rfl eq29, hW_pre hP hK hD hG⟩ rfl rfl hl.1 rfl (lv_room (Nat.le_of_ble_eq_true rfl)) dM_drawing_109 ⟨Nat.le_of_ble_eq_true rfl, Nat.le_of_ble_eq_true rfl⟩) hS (fun q _ h => hFc q h) hFc (fun u t H1 locs ht hvm hr9 hB hz1 hk1 hS => ?_)
        obtain ⟨hP, hD, hC⟩ := hB
        rw [ht] at hP
        replace hD := hD.weaken (fun _ _ _ h => hFc _ h)
        generalize H1 = H at hP hS ⊢
        refine lv_aload_n (pc := 112) hx hb dM_drawing_112 rfl (lv_at hl 2 rfl) ?_
        obtain ⟨q32, hq32, eq32⟩ := at_4 (ad := ad) (ca := ca) (σ := σ31) hm0
        refine va_get (D := (dC, dI)) (cl := kCl) (C := RM) (T := TM) (N := 11) (pc := 113) hx hb hts inM hown hK.1 hP q32 eq32 rfl 2 (by decide) (hts _ wd_51) (fun _ h9 => h9) rfl dM_drawing_113 ?_
        refine lv_aload_n (pc := 116) hx hb dM_drawing_116 rfl (lv_at hl 2 rfl) ?_
        refine lv_iload_n (pc := 117) hx hb dM_drawing_117 rfl (lv_at hl 0 rfl) ?_
        obtain ⟨q33, hq33, eq33⟩ := at_4 (ad := ad) (ca := ca) (σ := σ31) hm0
        refine vp_callSi (pc := 118) (W.runV (As := [.int (xI σ16 15 0 16)]) (rest := [.ref (ad 15 0)]) ⟨hx, hb, hml, hown, hts⟩ (t_M_drawingAt l dC dI ad ca dom (xI σ16 15 0 16) hm0 σ31 hN hC (M_drawingAt (xI σ16 15 0 16)) rfl) (cwV 1 hts (gV wd_53 wd_54 wd_55 wd_50 wd_52) rfl rfl rfl (by decide +kernel) ⟨Nat.le_of_ble_eq_true rfl, Nat.le_of_ble_eq_true rfl⟩) ⟨hR_blind, va_recv (q := (RM, TM, 11)) (q0 := q33) (ci := 4) hK.1 hP rfl eq33, hR_pre hP hK hG⟩ rfl rfl hl.1 rfl (lv_room (Nat.le_of_ble_eq_true rfl)) dM_drawing_118 ⟨Nat.le_of_ble_eq_true rfl, Nat.le_of_ble_eq_true rfl⟩) (fun r9 hr9 => ?_)
        refine W.eq (g2 := F0 m 121 ls [.int (M_drawingAt (xI σ16 15 0 16)), .ref (ad 15 0)]) (by rw [hr9]) ?_
        refine lv_iconst (pc := 121) (v := 0) hx hb dM_drawing_121 (by decide) ?_
        refine lv_iadd (pc := 122) hx hb dM_drawing_122 ?_
        refine lv_iconst (pc := 123) (v := 1) hx hb dM_drawing_123 (by decide) ?_
        obtain ⟨hv35, hf⟩ := ite_s hf
        obtain ⟨q36, hq36, eq36⟩ := at_15 (ad := ad) (ca := ca) (σ := σ31) (cm_4_2 hC hm0)
        refine va_iast (D := (dC, dI)) (cl := kCl) (pc := 124) hx hb (hK.2 15 0 .int (cm_4_2 hC hm0) rfl) hP hD hS q36 0 eq36 rfl (hv35) dM_drawing_124 (fun H locs hP hD hS => ?_)
        obtain ⟨σ34, hσ34, hf⟩ := lt_9 hf
        obtain ⟨hP, hD⟩ := w9_rI 15 rfl hN hq36 hσ34 (pr_15) hP hD
        have hC : clo dom σ34.2.2 := by rw [hσ34]; exact hC
        refine lv_aload_n (pc := 125) hx hb dM_drawing_125 rfl (lv_at hl 2 rfl) ?_
        obtain ⟨q37, hq37, eq37⟩ := at_4 (ad := ad) (ca := ca) (σ := σ34) hm0
        refine va_get (D := (dC, dI)) (cl := kCl) (C := RM) (T := TM) (N := 11) (pc := 126) hx hb hts inM hown hK.1 hP q37 eq37 rfl 2 (by decide) (hts _ wd_51) (fun _ h9 => h9) rfl dM_drawing_126 ?_
        refine lv_aload_n (pc := 129) hx hb dM_drawing_129 rfl (lv_at hl 2 rfl) ?_
        refine lv_iload_n (pc := 130) hx hb dM_drawing_130 rfl (lv_at hl 0 rfl) ?_
        refine lv_iconst (pc := 131) (v := 0) hx hb dM_drawing_131 (by decide) ?_
        obtain ⟨q38, hq38, eq38⟩ := at_4 (ad := ad) (ca := ca) (σ := σ34) hm0
        refine vp_callSi (pc := 132) (W.runV (As := [.int (xI σ16 15 0 16), .int 0]) (rest := [.ref (ad 15 0)]) ⟨hx, hb, hml, hown, hts⟩ (t_M_revisionAt l dC dI ad ca dom (xI σ16 15 0 16) 0 hm0 σ34 hN hC (M_revisionAt (xI σ16 15 0 16) 0) rfl) (cwV 2 hts (gV wd_65 wd_66 wd_67 wd_50 wd_64) rfl rfl rfl (by decide +kernel) ⟨Nat.le_of_ble_eq_true rfl, Nat.le_of_ble_eq_true rfl⟩) ⟨hR_blind, va_recv (q := (RM, TM, 11)) (q0 := q38) (ci := 4) hK.1 hP rfl eq38, hR_pre hP hK hG⟩ rfl rfl hl.1 rfl (lv_room (Nat.le_of_ble_eq_true rfl)) dM_drawing_132 ⟨Nat.le_of_ble_eq_true rfl, Nat.le_of_ble_eq_true rfl⟩) (fun r9 hr9 => ?_)
        refine W.eq (g2 := F0 m 135 ls [.int (M_revisionAt (xI σ16 15 0 16) 0), .ref (ad 15 0)]) (by rw [hr9]) ?_
        refine lv_iconst (pc := 135) (v := 1) hx hb dM_drawing_135 (by decide) ?_
        refine lv_iadd (pc := 136) hx hb dM_drawing_136 ?_
        refine lv_iload_n (pc := 137) hx hb dM_drawing_137 rfl (lv_at hl 3 rfl) ?_
        obtain ⟨hv40, hf⟩ := ite_s hf
        obtain ⟨q41, hq41, eq41⟩ := at_15 (ad := ad) (ca := ca) (σ := σ34) (cm_4_2 hC hm0)
        refine va_iast (D := (dC, dI)) (cl := kCl) (pc := 138) hx hb (hK.2 15 0 .int (cm_4_2 hC hm0) rfl) hP hD hS q41 0 eq41 rfl (hv40) dM_drawing_138 (fun H locs hP hD hS => ?_)
        obtain ⟨σ39, hσ39, hf⟩ := lt_9 hf
        obtain ⟨hP, hD⟩ := w9_rI 15 rfl hN hq41 hσ39 (pr_15) hP hD
        have hC : clo dom σ39.2.2 := by rw [hσ39]; exact hC
        refine lv_aload_n (pc := 139) hx hb dM_drawing_139 rfl (lv_at hl 2 rfl) ?_
        obtain ⟨q42, hq42, eq42⟩ := at_4 (ad := ad) (ca := ca) (σ := σ39) hm0
        obtain ⟨⟨y43, σ44⟩, hy43, hf⟩ := ob hf
        have hFc := w9_free hD hS hA
        refine va_callv (pc := 140) (va_runV (As := []) (rest := []) ⟨hx, hb, hml, hown, hts⟩ (t_M_close l dC dI ad ca dom H.size n σ39 hm0 hN hC y43 σ44 hy43) (cwV 0 hts (gV wd_144 wd_145 wd_146 wd_50 wd_143) rfl rfl rfl (by decide +kernel) ⟨Nat.le_of_ble_eq_true rfl, Nat.le_of_ble_eq_true rfl⟩) ⟨hW_blind, va_recv (q := (RM, TM, 11)) (q0 := q42) (ci := 4) hK.1 hP rfl eq42, hW_pre hP hK hD hG⟩ rfl rfl hl.1 rfl (lv_room (Nat.le_of_ble_eq_true rfl)) dM_drawing_140 ⟨Nat.le_of_ble_eq_true rfl, Nat.le_of_ble_eq_true rfl⟩) hS (fun q _ h => hFc q h) hFc (fun u t H1 locs ht hvm hr9 hB hz1 hk1 hS => ?_)
        obtain ⟨hP, hD, hC⟩ := hB
        rw [ht] at hP
        replace hD := hD.weaken (fun _ _ _ h => hFc _ h)
        generalize H1 = H at hP hS ⊢
        refine lv_iload_n (pc := 143) hx hb dM_drawing_143 rfl (lv_at hl 0 rfl) ?_
        obtain ⟨h8, h9⟩ := Prod.mk.inj (Option.some.inj hf)
        subst h9
        exact W.iret (pc := 144) hx hb hr (fun t ht hW => ⟨⟨_, (), rfl, h8, by rw [ht]; exact hP, hD, hC⟩, hS.F ht⟩) hS.2.2 dM_drawing_144
      · replace hf := ite_t h17 hf
        refine lv_aload_n (pc := 61) hx hb dM_drawing_61 rfl (lv_at hl 1 rfl) ?_
        obtain ⟨q45, hq45, eq45⟩ := at_4 (ad := ad) (ca := ca) (σ := σ16) hm0
        refine va_get (D := (dC, dI)) (cl := kCl) (C := RM) (T := TM) (N := 11) (pc := 62) hx hb hts inM hown hK.1 hP q45 eq45 rfl 0 (by decide) (hts _ wd_45) (fun _ h9 => h9) rfl dM_drawing_62 ?_
        refine lv_if_le (pc := 65) (tgt := 72) hx hb dM_drawing_65 rfl (fun h46 => ?_) (fun h46 => ?_)
        · replace hf := ite_t h46 hf
          refine lv_iconst (pc := 72) (v := (-1)) hx hb dM_drawing_72 (by decide) ?_
          obtain ⟨h8, h9⟩ := Prod.mk.inj (Option.some.inj hf)
          subst h9
          exact W.iret (pc := 73) hx hb hr (fun t ht hW => ⟨⟨_, (), rfl, h8, by rw [ht]; exact hP, hD, hC⟩, hS.F ht⟩) hS.2.2 dM_drawing_73
        · replace hf := ite_f h46 hf
          refine lv_iconst (pc := 68) (v := 0) hx hb dM_drawing_68 (by decide) ?_
          refine lv_goto (pc := 69) (tgt := 73) hx hb dM_drawing_69 rfl ?_
          obtain ⟨h8, h9⟩ := Prod.mk.inj (Option.some.inj hf)
          subst h9
          exact W.iret (pc := 73) hx hb hr (fun t ht hW => ⟨⟨_, (), rfl, h8, by rw [ht]; exact hP, hD, hC⟩, hS.F ht⟩) hS.2.2 dM_drawing_73
def M_copy_L2 (n : Nat) (kx5 : hT → Int32 → Int32 → Int32 → Option (Unit × hT)) : Nat → hT → Int32 → Int32 → Int32 → Option (Unit × hT)
  | 0, _, _, _, _ => none
  | k + 1, σ1, p2, p3, p4 => if 80 ≤ p2 then kx5 (σ1) p2 p3 p4 else if in9 (p3 + p2) 25240 then if in9 (p4 + p2) 25240 then lt9 (sI σ1 15 0 ((p4 + p2)).toNatClampNeg (xI σ1 15 0 ((p3 + p2)).toNatClampNeg)) fun σ12 => M_copy_L2 n kx5 k (σ12) (p2 + 1) p3 p4 else none else none
def M_copy (n : Nat) (σ : hT) (a1 : Int32) (a2 : Int32) : Option (Unit × hT) := lt9 (α := hT → Int32 → Int32 → Int32 → Option (Unit × hT)) (fun (σ1 : hT) (p2 : Int32) (p3 : Int32) (p4 : Int32) => some ((), σ1)) fun kx5 => M_copy_L2 n kx5 n (σ) 2 a1 a2
set_option maxHeartbeats 4000000 in
set_option maxRecDepth 100000 in
theorem t_M_copy (l : Launch) (dC : Nat → ClassId) (dI : Nat → Nat → Nat) (ad : Nat → Nat → Nat) (ca : Nat → Nat → ClassId) (dom : List (Nat × Nat)) (sz : Nat) (n : Nat) (σ : hT) (a1 : Int32) (a2 : Int32) (hm0 : (4, 0) ∈ dom) (hN : dom.Nodup) (hC : clo dom σ.2.2) (ρ : Unit) (σ' : hT) (hf : M_copy n σ a1 a2 = some (ρ, σ')) : Met l yM_copy (.code yM_copy cM_copy 4 none :: aw) ({ frames := 0, cells := 0, slots := 0, locals := 0 }) (hW (dC, dI) sz ad ca dom σ [.ref (ad 4 0), .int a1, .int a2]) (va_Qv (fun (_ : Unit) => True) (fun _ t => hB (dC, dI) (va_A (w9 ad ca dom σ) sz) ad ca dom σ' t) (va_A (w9 ad ca dom σ) sz)) 0 0 (va_A (w9 ad ca dom σ) sz) := by
  refine Met.ofW (cc := cM_copy) (maxL := 4) (ret := none) (by decide) rfl ?_
  intro p e s m args below meth c s₁ B hml hv
  obtain ⟨rfl, hv⟩ := hv
  have hx := B.exec
  have hb := B.bytes
  have hr := B.returns
  have hts : ∀ w ∈ aw, w.before _ s = true := fun w h => atoms_spec (ws := (.code yM_copy cM_copy 4 none :: aw)) B.pre w (List.mem_cons_of_mem _ h)
  have hown : s.vm.findClass RM = some m.cls := findClass_of_methodNamed B.named
  have hlocks := B.notSynchronized
  obtain ⟨hsz, hP, hK, hD0, hG⟩ := hv
  subst hsz
  have hD := hD0.self (sz := s.heap.size)
  generalize hAe : va_A (w9 ad ca dom σ) s.heap.size = A at hD ⊢
  have hA : ∀ q : Nat, s.heap.size ≤ q → A q := fun q h => by rw [← hAe]; exact Or.inr h
  obtain ⟨H, hH⟩ : ∃ H, H = s.heap := ⟨_, rfl⟩
  have hS : va_S A s.heap H [] := by rw [hH]; exact va_S.rf
  rw [← hH] at hP ⊢
  unfold M_copy at hf
  have hl := lv_entry ([.ref (ad 4 0), .int a1, .int a2]) (n := 4) (Nat.le_of_ble_eq_true rfl)
  rw [lg_entry_eq]
  generalize (lg_sl ([.ref (ad 4 0), .int a1, .int a2]) ++ List.replicate (4 - (lg_sl ([.ref (ad 4 0), .int a1, .int a2])).length) Slot.unset).toArray = ls at hl ⊢
  have hl : lv_has ls 4 [(0, .ref (ad 4 0)), (1, .int a1), (2, .int a2)] := hl
  refine lv_iconst (pc := 0) (v := 2) hx hb dM_copy_0 (by decide) ?_
  refine lv_istore_n (pc := 1) hx hb dM_copy_1 rfl hl (by decide) rfl (fun ls hl => ?_)
  have hl : lv_has ls 4 [(3, .int 2), (0, .ref (ad 4 0)), (1, .int a1), (2, .int a2)] := hl
  obtain ⟨kx5, hkx5, hf⟩ := lt_9 hf
  refine lpF (τ := (hT) × (Int32) × (Int32) × (Int32) × (Heap) × (List Loc) × (Array Slot)) (fun pc z => W p l e _ s m _ below meth c z.2.2.2.2.1 z.2.2.2.2.2.1 0 0 _ (F0 m pc z.2.2.2.2.2.2 [])) 2 30 (fun z => va_P (dC, dI) kCl (w9 ad ca dom z.1) z.2.2.2.2.1 ∧ va_D A (w9 ad ca dom z.1) ∧ va_S A s.heap z.2.2.2.2.1 z.2.2.2.2.2.1 ∧ clo dom z.1.2.2 ∧ lv_has z.2.2.2.2.2.2 4 [(3, .int z.2.1), (0, .ref (ad 4 0)), (1, .int z.2.2.1), (2, .int z.2.2.2.1)]) (fun k z => M_copy_L2 n kx5 k z.1 z.2.1 z.2.2.1 z.2.2.2.1) (fun z => kx5 z.1 z.2.1 z.2.2.1 z.2.2.2.1) _ (fun z => rfl) ?_ ?_ n (σ, 2, a1, a2, H, _, ls) ⟨hP, hD, hS, hC, hl⟩ hf
  · rintro k ⟨σ1, p2, p3, p4, H, locs, ls⟩ ⟨hP, hD, hS, hC, hl⟩ hf ih6 hXkx5
    dsimp only at hP hD hS hC hl hf ih6 hXkx5 ⊢
    unfold M_copy_L2 at hf
    have hl : lv_has ls 4 [(3, .int p2), (0, .ref (ad 4 0)), (1, .int p3), (2, .int p4)] := hl
    refine lv_iload_n (pc := 2) hx hb dM_copy_2 rfl (lv_at hl 0 rfl) ?_
    refine lv_bipush (pc := 3) (v := 80) hx hb dM_copy_3 (by decide) ?_
    refine lv_icmp_ge (pc := 5) (tgt := 30) hx hb dM_copy_5 rfl (fun h7 => ?_) (fun h7 => ?_)
    · replace hf := ite_t h7 hf
      have hl := lv_sub hl (l' := [(3, .int p2), (0, .ref (ad 4 0)), (1, .int p3), (2, .int p4)]) [0, 1, 2, 3] rfl
      exact hXkx5 (σ1, p2, p3, p4, H, _, ls) ⟨hP, hD, hS, hC, hl⟩ hf
    · replace hf := ite_f h7 hf
      refine lv_aload_n (pc := 8) hx hb dM_copy_8 rfl (lv_at hl 1 rfl) ?_
      obtain ⟨q8, hq8, eq8⟩ := at_4 (ad := ad) (ca := ca) (σ := σ1) hm0
      refine va_get (D := (dC, dI)) (cl := kCl) (C := RM) (T := TM) (N := 11) (pc := 9) hx hb hts inM hown hK.1 hP q8 eq8 rfl 2 (by decide) (hts _ wd_51) (fun _ h9 => h9) rfl dM_copy_9 ?_
      refine lv_iload_n (pc := 12) hx hb dM_copy_12 rfl (lv_at hl 3 rfl) ?_
      refine lv_iload_n (pc := 13) hx hb dM_copy_13 rfl (lv_at hl 0 rfl) ?_
      refine lv_iadd (pc := 14) hx hb dM_copy_14 ?_
      refine lv_aload_n (pc := 15) hx hb dM_copy_15 rfl (lv_at hl 1 rfl) ?_
      obtain ⟨q9, hq9, eq9⟩ := at_4 (ad := ad) (ca := ca) (σ := σ1) hm0
      refine va_get (D := (dC, dI)) (cl := kCl) (C := RM) (T := TM) (N := 11) (pc := 16) hx hb hts inM hown hK.1 hP q9 eq9 rfl 2 (by decide) (hts _ wd_51) (fun _ h9 => h9) rfl dM_copy_16 ?_
      refine lv_iload_n (pc := 19) hx hb dM_copy_19 rfl (lv_at hl 2 rfl) ?_
      refine lv_iload_n (pc := 20) hx hb dM_copy_20 rfl (lv_at hl 0 rfl) ?_
      refine lv_iadd (pc := 21) hx hb dM_copy_21 ?_
      obtain ⟨hv10, hf⟩ := ite_s hf
      obtain ⟨q11, hq11, eq11⟩ := at_15 (ad := ad) (ca := ca) (σ := σ1) (cm_4_2 hC hm0)
      refine va_iald (D := (dC, dI)) (cl := kCl) (pc := 22) hx hb (hK.2 15 0 .int (cm_4_2 hC hm0) rfl) hP q11 0 eq11 rfl (hv10) dM_copy_22 ?_
      refine W.eq (g2 := F0 m 23 ls [.int (xI σ1 15 0 ((p3 + p2)).toNatClampNeg), .int (p4 + p2), .ref (ad 15 0)]) rfl ?_
      obtain ⟨hv13, hf⟩ := ite_s hf
      obtain ⟨q14, hq14, eq14⟩ := at_15 (ad := ad) (ca := ca) (σ := σ1) (cm_4_2 hC hm0)
      refine va_iast (D := (dC, dI)) (cl := kCl) (pc := 23) hx hb (hK.2 15 0 .int (cm_4_2 hC hm0) rfl) hP hD hS q14 0 eq14 rfl (hv13) dM_copy_23 (fun H locs hP hD hS => ?_)
      obtain ⟨σ12, hσ12, hf⟩ := lt_9 hf
      obtain ⟨hP, hD⟩ := w9_rI 15 rfl hN hq14 hσ12 (pr_15) hP hD
      have hC : clo dom σ12.2.2 := by rw [hσ12]; exact hC
      refine lv_iinc (pc := 24) (v := (p2 + 1)) hx hb dM_copy_24 hl (k := 0) rfl (by rfl) (by decide) rfl (fun ls hl => ?_)
      have hl : lv_has ls 4 [(3, .int (p2 + 1)), (0, .ref (ad 4 0)), (1, .int p3), (2, .int p4)] := hl
      refine lv_goto (pc := 27) (tgt := 2) hx hb dM_copy_27 rfl ?_
      have hl := lv_sub hl (l' := [(3, .int (p2 + 1)), (0, .ref (ad 4 0)), (1, .int p3), (2, .int p4)]) [0, 1, 2, 3] rfl
      exact ih6 (σ12, (p2 + 1), p3, p4, H, _, ls) ⟨hP, hD, hS, hC, hl⟩ hf
  · rintro ⟨σ1, p2, p3, p4, H, locs, ls⟩ ⟨hP, hD, hS, hC, hl⟩ hf
    dsimp only at hP hD hS hC hl hf ⊢
    rw [hkx5] at hf
    have hl : lv_has ls 4 [(3, .int p2), (0, .ref (ad 4 0)), (1, .int p3), (2, .int p4)] := hl
    obtain ⟨h8, h9⟩ := Prod.mk.inj (Option.some.inj hf)
    subst h9
    exact W.vret (pc := 30) hx hb hr (fun t ht hW => ⟨⟨(), rfl, trivial, by rw [ht]; exact hP, hD, hC⟩, hS.F ht⟩) hS.2.2 dM_copy_30
def M_out (n : Nat) (σ : hT) (a1 : Int32) (a2 : Int32) : Option (Int32 × hT) := Option.bind (M_isDrawing σ a1) fun y2 => Option.bind (M_rights σ a2) fun y4 => lt9 (α := Int32 → Option (Int32 × hT)) (fun (s6 : Int32) => lt9 (α := Int32 → Option (Int32 × hT)) (fun (s9 : Int32) => lt9 (α := Int32 → Option (Int32 × hT)) (fun (s12 : Int32) => Option.bind (M_may σ (M_least s6 1 (M_least s9 7 (M_least s12 2 0))) 1) fun ⟨y21, σ22⟩ => if y21 = 0 then some (0, σ22) else if in9 ((M_drawingAt a1) + 1) 25240 then lt9 (sI σ22 15 0 (((M_drawingAt a1) + 1)).toNatClampNeg (a2 + 1)) fun σ26 => Option.bind (M_made σ26 a1) fun y30 => Option.bind (M_copy n σ26 (M_revisionAt a1 (y30 - 1)) (M_drawingAt a1)) fun ⟨y34, σ35⟩ => Option.bind (M_close n σ35) fun ⟨y37, σ38⟩ => some (1, σ38) else none) fun x11 => if y2 = 0 then x11 0 else lt9 (α := Int32 → Option (Int32 × hT)) (fun (s15 : Int32) => Option.bind (M_with σ s15) fun y18 => if y18 < 0 then x11 0 else x11 1) fun x14 => if y2 = 0 then x14 0 else x14 a1) fun x8 => if y2 = 0 then x8 1 else x8 0) fun x5 => if y4 = 0 then x5 1 else x5 0
set_option maxHeartbeats 4000000 in
set_option maxRecDepth 100000 in
theorem t_M_out (l : Launch) (dC : Nat → ClassId) (dI : Nat → Nat → Nat) (ad : Nat → Nat → Nat) (ca : Nat → Nat → ClassId) (dom : List (Nat × Nat)) (sz : Nat) (n : Nat) (σ : hT) (a1 : Int32) (a2 : Int32) (hm0 : (4, 0) ∈ dom) (hN : dom.Nodup) (hC : clo dom σ.2.2) (ρ : Int32) (σ' : hT) (hf : M_out n σ a1 a2 = some (ρ, σ')) : Met l yM_out (.code yM_out cM_out 5 (some .boolean) :: aw) ({ frames := 7, cells := 0, slots := 0, locals := 157 }) (hW (dC, dI) sz ad ca dom σ [.ref (ad 4 0), .int a1, .int a2]) (va_Qi (fun r (_ : Unit) => r = ρ) (fun _ t => hB (dC, dI) (va_A (w9 ad ca dom σ) sz) ad ca dom σ' t) (va_A (w9 ad ca dom σ) sz)) 0 0 (va_A (w9 ad ca dom σ) sz) := by
  refine Met.ofW (cc := cM_out) (maxL := 5) (ret := (some .boolean)) (by decide) rfl ?_
  intro p e s m args below meth c s₁ B hml hv
  obtain ⟨rfl, hv⟩ := hv
  have hx := B.exec
  have hb := B.bytes
  have hr := B.returns
  have hts : ∀ w ∈ aw, w.before _ s = true := fun w h => atoms_spec (ws := (.code yM_out cM_out 5 (some .boolean) :: aw)) B.pre w (List.mem_cons_of_mem _ h)
  have hown : s.vm.findClass RM = some m.cls := findClass_of_methodNamed B.named
  have hlocks := B.notSynchronized
  obtain ⟨hsz, hP, hK, hD0, hG⟩ := hv
  subst hsz
  have hD := hD0.self (sz := s.heap.size)
  generalize hAe : va_A (w9 ad ca dom σ) s.heap.size = A at hD ⊢
  have hA : ∀ q : Nat, s.heap.size ≤ q → A q := fun q h => by rw [← hAe]; exact Or.inr h
  obtain ⟨H, hH⟩ : ∃ H, H = s.heap := ⟨_, rfl⟩
  have hS : va_S A s.heap H [] := by rw [hH]; exact va_S.rf
  rw [← hH] at hP ⊢
  unfold M_out at hf
  have hl := lv_entry ([.ref (ad 4 0), .int a1, .int a2]) (n := 5) (Nat.le_of_ble_eq_true rfl)
  rw [lg_entry_eq]
  generalize (lg_sl ([.ref (ad 4 0), .int a1, .int a2]) ++ List.replicate (5 - (lg_sl ([.ref (ad 4 0), .int a1, .int a2])).length) Slot.unset).toArray = ls at hl ⊢
  have hl : lv_has ls 5 [(0, .ref (ad 4 0)), (1, .int a1), (2, .int a2)] := hl
  refine lv_aload_n (pc := 0) hx hb dM_out_0 rfl (lv_at hl 0 rfl) ?_
  refine lv_iload_n (pc := 1) hx hb dM_out_1 rfl (lv_at hl 1 rfl) ?_
  obtain ⟨q1, hq1, eq1⟩ := at_4 (ad := ad) (ca := ca) (σ := σ) hm0
  obtain ⟨y2, hy2, hf⟩ := ob hf
  refine vp_callSi (pc := 2) (W.runV (As := [.int a1]) (rest := []) ⟨hx, hb, hml, hown, hts⟩ (t_M_isDrawing l dC dI ad ca dom σ a1 hm0 hN hC y2 hy2) (cwV 1 hts (gV wd_57 wd_58 wd_59 wd_50 wd_56) rfl rfl rfl (by decide +kernel) ⟨Nat.le_of_ble_eq_true rfl, Nat.le_of_ble_eq_true rfl⟩) ⟨hR_blind, va_recv (q := (RM, TM, 11)) (q0 := q1) (ci := 4) hK.1 hP rfl eq1, hR_pre hP hK hG⟩ rfl rfl hl.1 rfl (lv_room (Nat.le_of_ble_eq_true rfl)) dM_out_2 ⟨Nat.le_of_ble_eq_true rfl, Nat.le_of_ble_eq_true rfl⟩) (fun r9 hr9 => ?_)
  refine W.eq (g2 := F0 m 5 ls [.int y2]) (by rw [hr9]) ?_
  refine lv_istore_n (pc := 5) hx hb dM_out_5 rfl hl (by decide) rfl (fun ls hl => ?_)
  have hl : lv_has ls 5 [(3, .int y2), (0, .ref (ad 4 0)), (1, .int a1), (2, .int a2)] := hl
  refine lv_aload_n (pc := 6) hx hb dM_out_6 rfl (lv_at hl 1 rfl) ?_
  refine lv_iload_n (pc := 7) hx hb dM_out_7 rfl (lv_at hl 3 rfl) ?_
  obtain ⟨q3, hq3, eq3⟩ := at_4 (ad := ad) (ca := ca) (σ := σ) hm0
  obtain ⟨y4, hy4, hf⟩ := ob hf
  refine vp_callSi (pc := 8) (W.runV (As := [.int a2]) (rest := []) ⟨hx, hb, hml, hown, hts⟩ (t_M_rights l dC dI ad ca dom σ a2 hm0 hN hC y4 hy4) (cwV 1 hts (gV wd_148 wd_149 wd_150 wd_50 wd_147) rfl rfl rfl (by decide +kernel) ⟨Nat.le_of_ble_eq_true rfl, Nat.le_of_ble_eq_true rfl⟩) ⟨hR_blind, va_recv (q := (RM, TM, 11)) (q0 := q3) (ci := 4) hK.1 hP rfl eq3, hR_pre hP hK hG⟩ rfl rfl hl.1 rfl (lv_room (Nat.le_of_ble_eq_true rfl)) dM_out_8 ⟨Nat.le_of_ble_eq_true rfl, Nat.le_of_ble_eq_true rfl⟩) (fun r9 hr9 => ?_)
  refine W.eq (g2 := F0 m 11 ls [.int y4]) (by rw [hr9]) ?_
  obtain ⟨x5, hx5, hf⟩ := lt_9 hf
  refine jnF (τ := (Int32) × (Heap) × (List Loc) × (Array Slot)) (fun pc st z => W p l e _ s m _ below meth c z.2.1 z.2.2.1 0 0 _ (F0 m pc z.2.2.2 st)) (pc0 := 11) (st0 := [.int y4]) (z0 := (0, H, _, ls)) 19 (fun z => [.int z.1]) (fun z => va_P (dC, dI) kCl (w9 ad ca dom (σ)) z.2.1 ∧ va_D A (w9 ad ca dom (σ)) ∧ va_S A s.heap z.2.1 z.2.2.1 ∧ lv_has z.2.2.2 5 [(3, .int y2), (0, .ref (ad 4 0)), (1, .int a1), (2, .int a2)]) (fun z => x5 z.1) (ρ, σ') ?_ ?_
  · intro hJx5
    dsimp only at hJx5 ⊢
    refine lv_if_ne (pc := 11) (tgt := 18) hx hb dM_out_11 rfl (fun h7 => ?_) (fun h7 => ?_)
    · replace hf := ite_f h7 hf
      refine lv_iconst (pc := 18) (v := 0) hx hb dM_out_18 (by decide) ?_
      have hl := lv_sub hl (l' := [(3, .int y2), (0, .ref (ad 4 0)), (1, .int a1), (2, .int a2)]) [0, 1, 2, 3] rfl
      exact hJx5 (0, H, _, ls) ⟨hP, hD, hS, hl⟩ hf
    · replace hf := ite_t h7 hf
      refine lv_iconst (pc := 14) (v := 1) hx hb dM_out_14 (by decide) ?_
      refine lv_goto (pc := 15) (tgt := 19) hx hb dM_out_15 rfl ?_
      have hl := lv_sub hl (l' := [(3, .int y2), (0, .ref (ad 4 0)), (1, .int a1), (2, .int a2)]) [0, 1, 2, 3] rfl
      exact hJx5 (1, H, _, ls) ⟨hP, hD, hS, hl⟩ hf
  · rintro ⟨s6, H, locs, ls⟩ ⟨hP, hD, hS, hl⟩ hf
    dsimp only at hP hD hS hl hf ⊢
    rw [hx5] at hf
    have hl : lv_has ls 5 [(3, .int y2), (0, .ref (ad 4 0)), (1, .int a1), (2, .int a2)] := hl
    refine lv_iconst (pc := 19) (v := 1) hx hb dM_out_19 (by decide) ?_
    refine lv_iload_n (pc := 20) hx hb dM_out_20 rfl (lv_at hl 0 rfl) ?_
    obtain ⟨x8, hx8, hf⟩ := lt_9 hf
    refine jnF (τ := (Int32) × (Heap) × (List Loc) × (Array Slot)) (fun pc st z => W p l e _ s m _ below meth c z.2.1 z.2.2.1 0 0 _ (F0 m pc z.2.2.2 st)) (pc0 := 21) (st0 := [.int y2, .int 1, .int s6]) (z0 := (0, H, _, ls)) 29 (fun z => [.int z.1, .int 1, .int s6]) (fun z => va_P (dC, dI) kCl (w9 ad ca dom (σ)) z.2.1 ∧ va_D A (w9 ad ca dom (σ)) ∧ va_S A s.heap z.2.1 z.2.2.1 ∧ lv_has z.2.2.2 5 [(3, .int y2), (0, .ref (ad 4 0)), (1, .int a1), (2, .int a2)]) (fun z => x8 z.1) (ρ, σ') ?_ ?_
    · intro hJx8
      dsimp only at hJx8 ⊢
      refine lv_if_ne (pc := 21) (tgt := 28) hx hb dM_out_21 rfl (fun h10 => ?_) (fun h10 => ?_)
      · replace hf := ite_f h10 hf
        refine lv_iconst (pc := 28) (v := 0) hx hb dM_out_28 (by decide) ?_
        have hl := lv_sub hl (l' := [(3, .int y2), (0, .ref (ad 4 0)), (1, .int a1), (2, .int a2)]) [0, 1, 2, 3] rfl
        exact hJx8 (0, H, _, ls) ⟨hP, hD, hS, hl⟩ hf
      · replace hf := ite_t h10 hf
        refine lv_iconst (pc := 24) (v := 1) hx hb dM_out_24 (by decide) ?_
        refine lv_goto (pc := 25) (tgt := 29) hx hb dM_out_25 rfl ?_
        have hl := lv_sub hl (l' := [(3, .int y2), (0, .ref (ad 4 0)), (1, .int a1), (2, .int a2)]) [0, 1, 2, 3] rfl
        exact hJx8 (1, H, _, ls) ⟨hP, hD, hS, hl⟩ hf
    · rintro ⟨s9, H, locs, ls⟩ ⟨hP, hD, hS, hl⟩ hf
      dsimp only at hP hD hS hl hf ⊢
      rw [hx8] at hf
      have hl : lv_has ls 5 [(3, .int y2), (0, .ref (ad 4 0)), (1, .int a1), (2, .int a2)] := hl
      refine lv_bipush (pc := 29) (v := 7) hx hb dM_out_29 (by decide) ?_
      refine lv_iload_n (pc := 31) hx hb dM_out_31 rfl (lv_at hl 0 rfl) ?_
      obtain ⟨x11, hx11, hf⟩ := lt_9 hf
      refine jnF (τ := (Int32) × (Heap) × (List Loc) × (Array Slot)) (fun pc st z => W p l e _ s m _ below meth c z.2.1 z.2.2.1 0 0 _ (F0 m pc z.2.2.2 st)) (pc0 := 32) (st0 := [.int y2, .int 7, .int s9, .int 1, .int s6]) (z0 := (0, H, _, ls)) 56 (fun z => [.int z.1, .int 7, .int s9, .int 1, .int s6]) (fun z => va_P (dC, dI) kCl (w9 ad ca dom (σ)) z.2.1 ∧ va_D A (w9 ad ca dom (σ)) ∧ va_S A s.heap z.2.1 z.2.2.1 ∧ lv_has z.2.2.2 5 [(3, .int y2), (0, .ref (ad 4 0)), (1, .int a1), (2, .int a2)]) (fun z => x11 z.1) (ρ, σ') ?_ ?_
      · intro hJx11
        dsimp only at hJx11 ⊢
        refine lv_if_eq (pc := 32) (tgt := 55) hx hb dM_out_32 rfl (fun h13 => ?_) (fun h13 => ?_)
        · replace hf := ite_t h13 hf
          refine lv_iconst (pc := 55) (v := 0) hx hb dM_out_55 (by decide) ?_
          have hl := lv_sub hl (l' := [(3, .int y2), (0, .ref (ad 4 0)), (1, .int a1), (2, .int a2)]) [0, 1, 2, 3] rfl
          exact hJx11 (0, H, _, ls) ⟨hP, hD, hS, hl⟩ hf
        · replace hf := ite_f h13 hf
          refine lv_aload_n (pc := 35) hx hb dM_out_35 rfl (lv_at hl 1 rfl) ?_
          refine lv_iload_n (pc := 36) hx hb dM_out_36 rfl (lv_at hl 0 rfl) ?_
          obtain ⟨x14, hx14, hf⟩ := lt_9 hf
          refine jnF (τ := (Int32) × (Heap) × (List Loc) × (Array Slot)) (fun pc st z => W p l e _ s m _ below meth c z.2.1 z.2.2.1 0 0 _ (F0 m pc z.2.2.2 st)) (pc0 := 37) (st0 := [.int y2, .ref (ad 4 0), .int 7, .int s9, .int 1, .int s6]) (z0 := (0, H, _, ls)) 45 (fun z => [.int z.1, .ref (ad 4 0), .int 7, .int s9, .int 1, .int s6]) (fun z => va_P (dC, dI) kCl (w9 ad ca dom (σ)) z.2.1 ∧ va_D A (w9 ad ca dom (σ)) ∧ va_S A s.heap z.2.1 z.2.2.1 ∧ lv_has z.2.2.2 5 [(3, .int y2), (0, .ref (ad 4 0)), (1, .int a1), (2, .int a2)]) (fun z => x14 z.1) (ρ, σ') ?_ ?_
          · intro hJx14
            dsimp only at hJx14 ⊢
            refine lv_if_eq (pc := 37) (tgt := 44) hx hb dM_out_37 rfl (fun h16 => ?_) (fun h16 => ?_)
            · replace hf := ite_t h16 hf
              refine lv_iconst (pc := 44) (v := 0) hx hb dM_out_44 (by decide) ?_
              have hl := lv_sub hl (l' := [(3, .int y2), (0, .ref (ad 4 0)), (1, .int a1), (2, .int a2)]) [0, 1, 2, 3] rfl
              exact hJx14 (0, H, _, ls) ⟨hP, hD, hS, hl⟩ hf
            · replace hf := ite_f h16 hf
              refine lv_iload_n (pc := 40) hx hb dM_out_40 rfl (lv_at hl 2 rfl) ?_
              refine lv_goto (pc := 41) (tgt := 45) hx hb dM_out_41 rfl ?_
              have hl := lv_sub hl (l' := [(3, .int y2), (0, .ref (ad 4 0)), (1, .int a1), (2, .int a2)]) [0, 1, 2, 3] rfl
              exact hJx14 (a1, H, _, ls) ⟨hP, hD, hS, hl⟩ hf
          · rintro ⟨s15, H, locs, ls⟩ ⟨hP, hD, hS, hl⟩ hf
            dsimp only at hP hD hS hl hf ⊢
            rw [hx14] at hf
            have hl : lv_has ls 5 [(3, .int y2), (0, .ref (ad 4 0)), (1, .int a1), (2, .int a2)] := hl
            obtain ⟨q17, hq17, eq17⟩ := at_4 (ad := ad) (ca := ca) (σ := σ) hm0
            obtain ⟨y18, hy18, hf⟩ := ob hf
            refine vp_callSi (pc := 45) (W.runV (As := [.int s15]) (rest := [.int 7, .int s9, .int 1, .int s6]) ⟨hx, hb, hml, hown, hts⟩ (t_M_with l dC dI ad ca dom σ s15 hm0 hN hC y18 hy18) (cwV 1 hts (gV wd_101 wd_102 wd_103 wd_50 wd_100) rfl rfl rfl (by decide +kernel) ⟨Nat.le_of_ble_eq_true rfl, Nat.le_of_ble_eq_true rfl⟩) ⟨hR_blind, va_recv (q := (RM, TM, 11)) (q0 := q17) (ci := 4) hK.1 hP rfl eq17, hR_pre hP hK hG⟩ rfl rfl hl.1 rfl (lv_room (Nat.le_of_ble_eq_true rfl)) dM_out_45 ⟨Nat.le_of_ble_eq_true rfl, Nat.le_of_ble_eq_true rfl⟩) (fun r9 hr9 => ?_)
            refine W.eq (g2 := F0 m 48 ls [.int y18, .int 7, .int s9, .int 1, .int s6]) (by rw [hr9]) ?_
            refine lv_if_lt (pc := 48) (tgt := 55) hx hb dM_out_48 rfl (fun h19 => ?_) (fun h19 => ?_)
            · replace hf := ite_t h19 hf
              refine lv_iconst (pc := 55) (v := 0) hx hb dM_out_55 (by decide) ?_
              have hl := lv_sub hl (l' := [(3, .int y2), (0, .ref (ad 4 0)), (1, .int a1), (2, .int a2)]) [0, 1, 2, 3] rfl
              exact hJx11 (0, H, _, ls) ⟨hP, hD, hS, hl⟩ hf
            · replace hf := ite_f h19 hf
              refine lv_iconst (pc := 51) (v := 1) hx hb dM_out_51 (by decide) ?_
              refine lv_goto (pc := 52) (tgt := 56) hx hb dM_out_52 rfl ?_
              have hl := lv_sub hl (l' := [(3, .int y2), (0, .ref (ad 4 0)), (1, .int a1), (2, .int a2)]) [0, 1, 2, 3] rfl
              exact hJx11 (1, H, _, ls) ⟨hP, hD, hS, hl⟩ hf
      · rintro ⟨s12, H, locs, ls⟩ ⟨hP, hD, hS, hl⟩ hf
        dsimp only at hP hD hS hl hf ⊢
        rw [hx11] at hf
        have hl : lv_has ls 5 [(3, .int y2), (0, .ref (ad 4 0)), (1, .int a1), (2, .int a2)] := hl
        refine lv_iconst (pc := 56) (v := 2) hx hb dM_out_56 (by decide) ?_
        refine lv_iconst (pc := 57) (v := 0) hx hb dM_out_57 (by decide) ?_
        refine vp_callSi (pc := 58) (W.runS (As := [.int s12, .int 2, .int 0]) (rest := [.int 7, .int s9, .int 1, .int s6]) ⟨hx, hb, hml, hown, hts⟩ (t_M_least l dC dI ad ca dom s12 2 0 σ hN hC (M_least s12 2 0) rfl) (cwS 3 hts (gS wd_152 wd_153 wd_50 wd_151) rfl rfl rfl (by decide +kernel) ⟨Nat.le_of_ble_eq_true rfl, Nat.le_of_ble_eq_true rfl⟩) ⟨hR_blind, hR_pre hP hK hG⟩ rfl rfl hl.1 rfl (lv_room (Nat.le_of_ble_eq_true rfl)) dM_out_58 ⟨Nat.le_of_ble_eq_true rfl, Nat.le_of_ble_eq_true rfl⟩) (fun r9 hr9 => ?_)
        refine W.eq (g2 := F0 m 61 ls [.int (M_least s12 2 0), .int 7, .int s9, .int 1, .int s6]) (by rw [hr9]) ?_
        refine vp_callSi (pc := 61) (W.runS (As := [.int s9, .int 7, .int (M_least s12 2 0)]) (rest := [.int 1, .int s6]) ⟨hx, hb, hml, hown, hts⟩ (t_M_least l dC dI ad ca dom s9 7 (M_least s12 2 0) σ hN hC (M_least s9 7 (M_least s12 2 0)) rfl) (cwS 3 hts (gS wd_152 wd_153 wd_50 wd_151) rfl rfl rfl (by decide +kernel) ⟨Nat.le_of_ble_eq_true rfl, Nat.le_of_ble_eq_true rfl⟩) ⟨hR_blind, hR_pre hP hK hG⟩ rfl rfl hl.1 rfl (lv_room (Nat.le_of_ble_eq_true rfl)) dM_out_61 ⟨Nat.le_of_ble_eq_true rfl, Nat.le_of_ble_eq_true rfl⟩) (fun r9 hr9 => ?_)
        refine W.eq (g2 := F0 m 64 ls [.int (M_least s9 7 (M_least s12 2 0)), .int 1, .int s6]) (by rw [hr9]) ?_
        refine vp_callSi (pc := 64) (W.runS (As := [.int s6, .int 1, .int (M_least s9 7 (M_least s12 2 0))]) (rest := []) ⟨hx, hb, hml, hown, hts⟩ (t_M_least l dC dI ad ca dom s6 1 (M_least s9 7 (M_least s12 2 0)) σ hN hC (M_least s6 1 (M_least s9 7 (M_least s12 2 0))) rfl) (cwS 3 hts (gS wd_152 wd_153 wd_50 wd_151) rfl rfl rfl (by decide +kernel) ⟨Nat.le_of_ble_eq_true rfl, Nat.le_of_ble_eq_true rfl⟩) ⟨hR_blind, hR_pre hP hK hG⟩ rfl rfl hl.1 rfl (lv_room (Nat.le_of_ble_eq_true rfl)) dM_out_64 ⟨Nat.le_of_ble_eq_true rfl, Nat.le_of_ble_eq_true rfl⟩) (fun r9 hr9 => ?_)
        refine W.eq (g2 := F0 m 67 ls [.int (M_least s6 1 (M_least s9 7 (M_least s12 2 0)))]) (by rw [hr9]) ?_
        refine lv_istore (pc := 67) hx hb dM_out_67 hl (by decide) rfl (fun ls hl => ?_)
        have hl : lv_has ls 5 [(4, .int (M_least s6 1 (M_least s9 7 (M_least s12 2 0)))), (3, .int y2), (0, .ref (ad 4 0)), (1, .int a1), (2, .int a2)] := hl
        refine lv_aload_n (pc := 69) hx hb dM_out_69 rfl (lv_at hl 2 rfl) ?_
        refine lv_iload (pc := 70) hx hb dM_out_70 (lv_at hl 0 rfl) ?_
        refine lv_iconst (pc := 72) (v := 1) hx hb dM_out_72 (by decide) ?_
        obtain ⟨q20, hq20, eq20⟩ := at_4 (ad := ad) (ca := ca) (σ := σ) hm0
        obtain ⟨⟨y21, σ22⟩, hy21, hf⟩ := ob hf
        have hFc := w9_free hD hS hA
        refine va_calli (pc := 73) (va_runV (As := [.int (M_least s6 1 (M_least s9 7 (M_least s12 2 0))), .int 1]) (rest := []) ⟨hx, hb, hml, hown, hts⟩ (t_M_may l dC dI ad ca dom H.size σ (M_least s6 1 (M_least s9 7 (M_least s12 2 0))) 1 hm0 hN hC y21 σ22 hy21) (cwV 2 hts (gV wd_140 wd_141 wd_142 wd_50 wd_139) rfl rfl rfl (by decide +kernel) ⟨Nat.le_of_ble_eq_true rfl, Nat.le_of_ble_eq_true rfl⟩) ⟨hW_blind, va_recv (q := (RM, TM, 11)) (q0 := q20) (ci := 4) hK.1 hP rfl eq20, hW_pre hP hK hD hG⟩ rfl rfl hl.1 rfl (lv_room (Nat.le_of_ble_eq_true rfl)) dM_out_73 ⟨Nat.le_of_ble_eq_true rfl, Nat.le_of_ble_eq_true rfl⟩) hS (fun q _ h => hFc q h) hFc (fun r9 u t H1 locs ht hvm hr9 hB hz1 hk1 hS => ?_)
        obtain ⟨hP, hD, hC⟩ := hB
        rw [ht] at hP
        replace hD := hD.weaken (fun _ _ _ h => hFc _ h)
        generalize H1 = H at hP hS ⊢
        refine W.eq (g2 := F0 m 76 ls [.int y21]) (by rw [hr9]) ?_
        refine lv_if_ne (pc := 76) (tgt := 81) hx hb dM_out_76 rfl (fun h23 => ?_) (fun h23 => ?_)
        · replace hf := ite_f h23 hf
          refine lv_aload_n (pc := 81) hx hb dM_out_81 rfl (lv_at hl 2 rfl) ?_
          obtain ⟨q24, hq24, eq24⟩ := at_4 (ad := ad) (ca := ca) (σ := σ22) hm0
          refine va_get (D := (dC, dI)) (cl := kCl) (C := RM) (T := TM) (N := 11) (pc := 82) hx hb hts inM hown hK.1 hP q24 eq24 rfl 2 (by decide) (hts _ wd_51) (fun _ h9 => h9) rfl dM_out_82 ?_
          refine lv_aload_n (pc := 85) hx hb dM_out_85 rfl (lv_at hl 2 rfl) ?_
          refine lv_iload_n (pc := 86) hx hb dM_out_86 rfl (lv_at hl 3 rfl) ?_
          obtain ⟨q25, hq25, eq25⟩ := at_4 (ad := ad) (ca := ca) (σ := σ22) hm0
          refine vp_callSi (pc := 87) (W.runV (As := [.int a1]) (rest := [.ref (ad 15 0)]) ⟨hx, hb, hml, hown, hts⟩ (t_M_drawingAt l dC dI ad ca dom a1 hm0 σ22 hN hC (M_drawingAt a1) rfl) (cwV 1 hts (gV wd_53 wd_54 wd_55 wd_50 wd_52) rfl rfl rfl (by decide +kernel) ⟨Nat.le_of_ble_eq_true rfl, Nat.le_of_ble_eq_true rfl⟩) ⟨hR_blind, va_recv (q := (RM, TM, 11)) (q0 := q25) (ci := 4) hK.1 hP rfl eq25, hR_pre hP hK hG⟩ rfl rfl hl.1 rfl (lv_room (Nat.le_of_ble_eq_true rfl)) dM_out_87 ⟨Nat.le_of_ble_eq_true rfl, Nat.le_of_ble_eq_true rfl⟩) (fun r9 hr9 => ?_)
          refine W.eq (g2 := F0 m 90 ls [.int (M_drawingAt a1), .ref (ad 15 0)]) (by rw [hr9]) ?_
          refine lv_iconst (pc := 90) (v := 1) hx hb dM_out_90 (by decide) ?_
          refine lv_iadd (pc := 91) hx hb dM_out_91 ?_
          refine lv_iload_n (pc := 92) hx hb dM_out_92 rfl (lv_at hl 4 rfl) ?_
          refine lv_iconst (pc := 93) (v := 1) hx hb dM_out_93 (by decide) ?_
          refine lv_iadd (pc := 94) hx hb dM_out_94 ?_
          obtain ⟨hv27, hf⟩ := ite_s hf
          obtain ⟨q28, hq28, eq28⟩ := at_15 (ad := ad) (ca := ca) (σ := σ22) (cm_4_2 hC hm0)
          refine va_iast (D := (dC, dI)) (cl := kCl) (pc := 95) hx hb (hK.2 15 0 .int (cm_4_2 hC hm0) rfl) hP hD hS q28 0 eq28 rfl (hv27) dM_out_95 (fun H locs hP hD hS => ?_)
          obtain ⟨σ26, hσ26, hf⟩ := lt_9 hf
          obtain ⟨hP, hD⟩ := w9_rI 15 rfl hN hq28 hσ26 (pr_15) hP hD
          have hC : clo dom σ26.2.2 := by rw [hσ26]; exact hC
          refine lv_aload_n (pc := 96) hx hb dM_out_96 rfl (lv_at hl 2 rfl) ?_
          refine lv_aload_n (pc := 97) hx hb dM_out_97 rfl (lv_at hl 2 rfl) ?_
          refine lv_iload_n (pc := 98) hx hb dM_out_98 rfl (lv_at hl 3 rfl) ?_
          refine lv_aload_n (pc := 99) hx hb dM_out_99 rfl (lv_at hl 2 rfl) ?_
          refine lv_iload_n (pc := 100) hx hb dM_out_100 rfl (lv_at hl 3 rfl) ?_
          obtain ⟨q29, hq29, eq29⟩ := at_4 (ad := ad) (ca := ca) (σ := σ26) hm0
          obtain ⟨y30, hy30, hf⟩ := ob hf
          refine vp_callSi (pc := 101) (W.runV (As := [.int a1]) (rest := [.int a1, .ref (ad 4 0), .ref (ad 4 0)]) ⟨hx, hb, hml, hown, hts⟩ (t_M_made l dC dI ad ca dom σ26 a1 hm0 hN hC y30 hy30) (cwV 1 hts (gV wd_61 wd_62 wd_63 wd_50 wd_60) rfl rfl rfl (by decide +kernel) ⟨Nat.le_of_ble_eq_true rfl, Nat.le_of_ble_eq_true rfl⟩) ⟨hR_blind, va_recv (q := (RM, TM, 11)) (q0 := q29) (ci := 4) hK.1 hP rfl eq29, hR_pre hP hK hG⟩ rfl rfl hl.1 rfl (lv_room (Nat.le_of_ble_eq_true rfl)) dM_out_101 ⟨Nat.le_of_ble_eq_true rfl, Nat.le_of_ble_eq_true rfl⟩) (fun r9 hr9 => ?_)
          refine W.eq (g2 := F0 m 104 ls [.int y30, .int a1, .ref (ad 4 0), .ref (ad 4 0)]) (by rw [hr9]) ?_
          refine lv_iconst (pc := 104) (v := 1) hx hb dM_out_104 (by decide) ?_
          refine lv_isub (pc := 105) hx hb dM_out_105 ?_
          obtain ⟨q31, hq31, eq31⟩ := at_4 (ad := ad) (ca := ca) (σ := σ26) hm0
          refine vp_callSi (pc := 106) (W.runV (As := [.int a1, .int (y30 - 1)]) (rest := [.ref (ad 4 0)]) ⟨hx, hb, hml, hown, hts⟩ (t_M_revisionAt l dC dI ad ca dom a1 (y30 - 1) hm0 σ26 hN hC (M_revisionAt a1 (y30 - 1)) rfl) (cwV 2 hts (gV wd_65 wd_66 wd_67 wd_50 wd_64) rfl rfl rfl (by decide +kernel) ⟨Nat.le_of_ble_eq_true rfl, Nat.le_of_ble_eq_true rfl⟩) ⟨hR_blind, va_recv (q := (RM, TM, 11)) (q0 := q31) (ci := 4) hK.1 hP rfl eq31, hR_pre hP hK hG⟩ rfl rfl hl.1 rfl (lv_room (Nat.le_of_ble_eq_true rfl)) dM_out_106 ⟨Nat.le_of_ble_eq_true rfl, Nat.le_of_ble_eq_true rfl⟩) (fun r9 hr9 => ?_)
          refine W.eq (g2 := F0 m 109 ls [.int (M_revisionAt a1 (y30 - 1)), .ref (ad 4 0)]) (by rw [hr9]) ?_
          refine lv_aload_n (pc := 109) hx hb dM_out_109 rfl (lv_at hl 2 rfl) ?_
          refine lv_iload_n (pc := 110) hx hb dM_out_110 rfl (lv_at hl 3 rfl) ?_
          obtain ⟨q32, hq32, eq32⟩ := at_4 (ad := ad) (ca := ca) (σ := σ26) hm0
          refine vp_callSi (pc := 111) (W.runV (As := [.int a1]) (rest := [.int (M_revisionAt a1 (y30 - 1)), .ref (ad 4 0)]) ⟨hx, hb, hml, hown, hts⟩ (t_M_drawingAt l dC dI ad ca dom a1 hm0 σ26 hN hC (M_drawingAt a1) rfl) (cwV 1 hts (gV wd_53 wd_54 wd_55 wd_50 wd_52) rfl rfl rfl (by decide +kernel) ⟨Nat.le_of_ble_eq_true rfl, Nat.le_of_ble_eq_true rfl⟩) ⟨hR_blind, va_recv (q := (RM, TM, 11)) (q0 := q32) (ci := 4) hK.1 hP rfl eq32, hR_pre hP hK hG⟩ rfl rfl hl.1 rfl (lv_room (Nat.le_of_ble_eq_true rfl)) dM_out_111 ⟨Nat.le_of_ble_eq_true rfl, Nat.le_of_ble_eq_true rfl⟩) (fun r9 hr9 => ?_)
          refine W.eq (g2 := F0 m 114 ls [.int (M_drawingAt a1), .int (M_revisionAt a1 (y30 - 1)), .ref (ad 4 0)]) (by rw [hr9]) ?_
          obtain ⟨q33, hq33, eq33⟩ := at_4 (ad := ad) (ca := ca) (σ := σ26) hm0
          obtain ⟨⟨y34, σ35⟩, hy34, hf⟩ := ob hf
          have hFc := w9_free hD hS hA
          refine va_callv (pc := 114) (va_runV (As := [.int (M_revisionAt a1 (y30 - 1)), .int (M_drawingAt a1)]) (rest := []) ⟨hx, hb, hml, hown, hts⟩ (t_M_copy l dC dI ad ca dom H.size n σ26 (M_revisionAt a1 (y30 - 1)) (M_drawingAt a1) hm0 hN hC y34 σ35 hy34) (cwV 2 hts (gV wd_159 wd_160 wd_161 wd_50 wd_158) rfl rfl rfl (by decide +kernel) ⟨Nat.le_of_ble_eq_true rfl, Nat.le_of_ble_eq_true rfl⟩) ⟨hW_blind, va_recv (q := (RM, TM, 11)) (q0 := q33) (ci := 4) hK.1 hP rfl eq33, hW_pre hP hK hD hG⟩ rfl rfl hl.1 rfl (lv_room (Nat.le_of_ble_eq_true rfl)) dM_out_114 ⟨Nat.le_of_ble_eq_true rfl, Nat.le_of_ble_eq_true rfl⟩) hS (fun q _ h => hFc q h) hFc (fun u t H1 locs ht hvm hr9 hB hz1 hk1 hS => ?_)
          obtain ⟨hP, hD, hC⟩ := hB
          rw [ht] at hP
          replace hD := hD.weaken (fun _ _ _ h => hFc _ h)
          generalize H1 = H at hP hS ⊢
          refine lv_aload_n (pc := 117) hx hb dM_out_117 rfl (lv_at hl 2 rfl) ?_
          obtain ⟨q36, hq36, eq36⟩ := at_4 (ad := ad) (ca := ca) (σ := σ35) hm0
          obtain ⟨⟨y37, σ38⟩, hy37, hf⟩ := ob hf
          have hFc := w9_free hD hS hA
          refine va_callv (pc := 118) (va_runV (As := []) (rest := []) ⟨hx, hb, hml, hown, hts⟩ (t_M_close l dC dI ad ca dom H.size n σ35 hm0 hN hC y37 σ38 hy37) (cwV 0 hts (gV wd_144 wd_145 wd_146 wd_50 wd_143) rfl rfl rfl (by decide +kernel) ⟨Nat.le_of_ble_eq_true rfl, Nat.le_of_ble_eq_true rfl⟩) ⟨hW_blind, va_recv (q := (RM, TM, 11)) (q0 := q36) (ci := 4) hK.1 hP rfl eq36, hW_pre hP hK hD hG⟩ rfl rfl hl.1 rfl (lv_room (Nat.le_of_ble_eq_true rfl)) dM_out_118 ⟨Nat.le_of_ble_eq_true rfl, Nat.le_of_ble_eq_true rfl⟩) hS (fun q _ h => hFc q h) hFc (fun u t H1 locs ht hvm hr9 hB hz1 hk1 hS => ?_)
          obtain ⟨hP, hD, hC⟩ := hB
          rw [ht] at hP
          replace hD := hD.weaken (fun _ _ _ h => hFc _ h)
          generalize H1 = H at hP hS ⊢
          refine lv_iconst (pc := 121) (v := 1) hx hb dM_out_121 (by decide) ?_
          obtain ⟨h8, h9⟩ := Prod.mk.inj (Option.some.inj hf)
          subst h9
          exact W.zret (pc := 122) hx hb hr (rfl) (fun t ht hW => ⟨⟨_, (), rfl, h8, by rw [ht]; exact hP, hD, hC⟩, hS.F ht⟩) hS.2.2 dM_out_122
        · replace hf := ite_t h23 hf
          refine lv_iconst (pc := 79) (v := 0) hx hb dM_out_79 (by decide) ?_
          obtain ⟨h8, h9⟩ := Prod.mk.inj (Option.some.inj hf)
          subst h9
          exact W.zret (pc := 80) hx hb hr (rfl) (fun t ht hW => ⟨⟨_, (), rfl, h8, by rw [ht]; exact hP, hD, hC⟩, hS.F ht⟩) hS.2.2 dM_out_80
def M_whyNot (σ : hT) (a1 : Int32) (a2 : Int32) : Option (Int32) := Option.bind (M_isDrawing σ a1) fun y2 => Option.bind (M_rights σ a2) fun y4 => lt9 (α := Int32 → Option (Int32)) (fun (s6 : Int32) => lt9 (α := Int32 → Option (Int32)) (fun (s9 : Int32) => lt9 (α := Int32 → Option (Int32)) (fun (s12 : Int32) => some (M_least s6 1 (M_least s9 7 (M_least s12 2 0)))) fun x11 => if y2 = 0 then x11 0 else lt9 (α := Int32 → Option (Int32)) (fun (s15 : Int32) => Option.bind (M_with σ s15) fun y18 => if y18 = a2 then x11 0 else x11 1) fun x14 => if y2 = 0 then x14 0 else x14 a1) fun x8 => if y2 = 0 then x8 1 else x8 0) fun x5 => if y4 = 0 then x5 1 else x5 0
set_option maxHeartbeats 4000000 in
set_option maxRecDepth 100000 in
theorem t_M_whyNot (l : Launch) (dC : Nat → ClassId) (dI : Nat → Nat → Nat) (ad : Nat → Nat → Nat) (ca : Nat → Nat → ClassId) (dom : List (Nat × Nat)) (σ : hT) (a1 : Int32) (a2 : Int32) (hm0 : (4, 0) ∈ dom) (hN : dom.Nodup) (hC : clo dom σ.2.2) (ρ : Int32) (hf : M_whyNot σ a1 a2 = some ρ) : Met l yM_whyNot (.code yM_whyNot cM_whyNot 4 (some .int) :: aw) ({ frames := 2, cells := 0, slots := 0, locals := 42 }) (hR (dC, dI) ad ca dom σ [.ref (ad 4 0), .int a1, .int a2]) (vp_Si (fun r => r = ρ)) 0 0 (fun _ => False) := by
  refine Met.ofW (cc := cM_whyNot) (maxL := 4) (ret := (some .int)) (by decide) rfl ?_
  intro p e s m args below meth c s₁ B hml hv
  obtain ⟨rfl, hv⟩ := hv
  have hx := B.exec
  have hb := B.bytes
  have hr := B.returns
  have hts : ∀ w ∈ aw, w.before _ s = true := fun w h => atoms_spec (ws := (.code yM_whyNot cM_whyNot 4 (some .int) :: aw)) B.pre w (List.mem_cons_of_mem _ h)
  have hown : s.vm.findClass RM = some m.cls := findClass_of_methodNamed B.named
  have hlocks := B.notSynchronized
  obtain ⟨hP, hK, hG⟩ := hv
  obtain ⟨H, hH⟩ : ∃ H, H = s.heap := ⟨_, rfl⟩
  rw [← hH] at hP ⊢
  unfold M_whyNot at hf
  have hl := lv_entry ([.ref (ad 4 0), .int a1, .int a2]) (n := 4) (Nat.le_of_ble_eq_true rfl)
  rw [lg_entry_eq]
  generalize (lg_sl ([.ref (ad 4 0), .int a1, .int a2]) ++ List.replicate (4 - (lg_sl ([.ref (ad 4 0), .int a1, .int a2])).length) Slot.unset).toArray = ls at hl ⊢
  have hl : lv_has ls 4 [(0, .ref (ad 4 0)), (1, .int a1), (2, .int a2)] := hl
  refine lv_aload_n (pc := 0) hx hb dM_whyNot_0 rfl (lv_at hl 0 rfl) ?_
  refine lv_iload_n (pc := 1) hx hb dM_whyNot_1 rfl (lv_at hl 1 rfl) ?_
  obtain ⟨q1, hq1, eq1⟩ := at_4 (ad := ad) (ca := ca) (σ := σ) hm0
  obtain ⟨y2, hy2, hf⟩ := ob hf
  refine vp_callSi (pc := 2) (W.runV (As := [.int a1]) (rest := []) ⟨hx, hb, hml, hown, hts⟩ (t_M_isDrawing l dC dI ad ca dom σ a1 hm0 hN hC y2 hy2) (cwV 1 hts (gV wd_57 wd_58 wd_59 wd_50 wd_56) rfl rfl rfl (by decide +kernel) ⟨Nat.le_of_ble_eq_true rfl, Nat.le_of_ble_eq_true rfl⟩) ⟨hR_blind, va_recv (q := (RM, TM, 11)) (q0 := q1) (ci := 4) hK.1 hP rfl eq1, hR_pre hP hK hG⟩ rfl rfl hl.1 rfl (lv_room (Nat.le_of_ble_eq_true rfl)) dM_whyNot_2 ⟨Nat.le_of_ble_eq_true rfl, Nat.le_of_ble_eq_true rfl⟩) (fun r9 hr9 => ?_)
  refine W.eq (g2 := F0 m 5 ls [.int y2]) (by rw [hr9]) ?_
  refine lv_istore_n (pc := 5) hx hb dM_whyNot_5 rfl hl (by decide) rfl (fun ls hl => ?_)
  have hl : lv_has ls 4 [(3, .int y2), (0, .ref (ad 4 0)), (1, .int a1), (2, .int a2)] := hl
  refine lv_aload_n (pc := 6) hx hb dM_whyNot_6 rfl (lv_at hl 1 rfl) ?_
  refine lv_iload_n (pc := 7) hx hb dM_whyNot_7 rfl (lv_at hl 3 rfl) ?_
  obtain ⟨q3, hq3, eq3⟩ := at_4 (ad := ad) (ca := ca) (σ := σ) hm0
  obtain ⟨y4, hy4, hf⟩ := ob hf
  refine vp_callSi (pc := 8) (W.runV (As := [.int a2]) (rest := []) ⟨hx, hb, hml, hown, hts⟩ (t_M_rights l dC dI ad ca dom σ a2 hm0 hN hC y4 hy4) (cwV 1 hts (gV wd_148 wd_149 wd_150 wd_50 wd_147) rfl rfl rfl (by decide +kernel) ⟨Nat.le_of_ble_eq_true rfl, Nat.le_of_ble_eq_true rfl⟩) ⟨hR_blind, va_recv (q := (RM, TM, 11)) (q0 := q3) (ci := 4) hK.1 hP rfl eq3, hR_pre hP hK hG⟩ rfl rfl hl.1 rfl (lv_room (Nat.le_of_ble_eq_true rfl)) dM_whyNot_8 ⟨Nat.le_of_ble_eq_true rfl, Nat.le_of_ble_eq_true rfl⟩) (fun r9 hr9 => ?_)
  refine W.eq (g2 := F0 m 11 ls [.int y4]) (by rw [hr9]) ?_
  obtain ⟨x5, hx5, hf⟩ := lt_9 hf
  refine jnF (τ := (Int32) × (Array Slot)) (fun pc st z => W p l e _ s m _ below meth c H ([]) 0 0 _ (F0 m pc z.2 st)) (pc0 := 11) (st0 := [.int y4]) (z0 := (0, ls)) 19 (fun z => [.int z.1]) (fun z => lv_has z.2 4 [(3, .int y2), (0, .ref (ad 4 0)), (1, .int a1), (2, .int a2)]) (fun z => x5 z.1) ρ ?_ ?_
  · intro hJx5
    dsimp only at hJx5 ⊢
    refine lv_if_ne (pc := 11) (tgt := 18) hx hb dM_whyNot_11 rfl (fun h7 => ?_) (fun h7 => ?_)
    · replace hf := ite_f h7 hf
      refine lv_iconst (pc := 18) (v := 0) hx hb dM_whyNot_18 (by decide) ?_
      have hl := lv_sub hl (l' := [(3, .int y2), (0, .ref (ad 4 0)), (1, .int a1), (2, .int a2)]) [0, 1, 2, 3] rfl
      exact hJx5 (0, ls) hl hf
    · replace hf := ite_t h7 hf
      refine lv_iconst (pc := 14) (v := 1) hx hb dM_whyNot_14 (by decide) ?_
      refine lv_goto (pc := 15) (tgt := 19) hx hb dM_whyNot_15 rfl ?_
      have hl := lv_sub hl (l' := [(3, .int y2), (0, .ref (ad 4 0)), (1, .int a1), (2, .int a2)]) [0, 1, 2, 3] rfl
      exact hJx5 (1, ls) hl hf
  · rintro ⟨s6, ls⟩ hl hf
    dsimp only at hl hf ⊢
    rw [hx5] at hf
    have hl : lv_has ls 4 [(3, .int y2), (0, .ref (ad 4 0)), (1, .int a1), (2, .int a2)] := hl
    refine lv_iconst (pc := 19) (v := 1) hx hb dM_whyNot_19 (by decide) ?_
    refine lv_iload_n (pc := 20) hx hb dM_whyNot_20 rfl (lv_at hl 0 rfl) ?_
    obtain ⟨x8, hx8, hf⟩ := lt_9 hf
    refine jnF (τ := (Int32) × (Array Slot)) (fun pc st z => W p l e _ s m _ below meth c H ([]) 0 0 _ (F0 m pc z.2 st)) (pc0 := 21) (st0 := [.int y2, .int 1, .int s6]) (z0 := (0, ls)) 29 (fun z => [.int z.1, .int 1, .int s6]) (fun z => lv_has z.2 4 [(3, .int y2), (0, .ref (ad 4 0)), (1, .int a1), (2, .int a2)]) (fun z => x8 z.1) ρ ?_ ?_
    · intro hJx8
      dsimp only at hJx8 ⊢
      refine lv_if_ne (pc := 21) (tgt := 28) hx hb dM_whyNot_21 rfl (fun h10 => ?_) (fun h10 => ?_)
      · replace hf := ite_f h10 hf
        refine lv_iconst (pc := 28) (v := 0) hx hb dM_whyNot_28 (by decide) ?_
        have hl := lv_sub hl (l' := [(3, .int y2), (0, .ref (ad 4 0)), (1, .int a1), (2, .int a2)]) [0, 1, 2, 3] rfl
        exact hJx8 (0, ls) hl hf
      · replace hf := ite_t h10 hf
        refine lv_iconst (pc := 24) (v := 1) hx hb dM_whyNot_24 (by decide) ?_
        refine lv_goto (pc := 25) (tgt := 29) hx hb dM_whyNot_25 rfl ?_
        have hl := lv_sub hl (l' := [(3, .int y2), (0, .ref (ad 4 0)), (1, .int a1), (2, .int a2)]) [0, 1, 2, 3] rfl
        exact hJx8 (1, ls) hl hf
    · rintro ⟨s9, ls⟩ hl hf
      dsimp only at hl hf ⊢
      rw [hx8] at hf
      have hl : lv_has ls 4 [(3, .int y2), (0, .ref (ad 4 0)), (1, .int a1), (2, .int a2)] := hl
      refine lv_bipush (pc := 29) (v := 7) hx hb dM_whyNot_29 (by decide) ?_
      refine lv_iload_n (pc := 31) hx hb dM_whyNot_31 rfl (lv_at hl 0 rfl) ?_
      obtain ⟨x11, hx11, hf⟩ := lt_9 hf
      refine jnF (τ := (Int32) × (Array Slot)) (fun pc st z => W p l e _ s m _ below meth c H ([]) 0 0 _ (F0 m pc z.2 st)) (pc0 := 32) (st0 := [.int y2, .int 7, .int s9, .int 1, .int s6]) (z0 := (0, ls)) 57 (fun z => [.int z.1, .int 7, .int s9, .int 1, .int s6]) (fun z => lv_has z.2 4 [(3, .int y2), (0, .ref (ad 4 0)), (1, .int a1), (2, .int a2)]) (fun z => x11 z.1) ρ ?_ ?_
      · intro hJx11
        dsimp only at hJx11 ⊢
        refine lv_if_eq (pc := 32) (tgt := 56) hx hb dM_whyNot_32 rfl (fun h13 => ?_) (fun h13 => ?_)
        · replace hf := ite_t h13 hf
          refine lv_iconst (pc := 56) (v := 0) hx hb dM_whyNot_56 (by decide) ?_
          have hl := lv_sub hl (l' := [(3, .int y2), (0, .ref (ad 4 0)), (1, .int a1), (2, .int a2)]) [0, 1, 2, 3] rfl
          exact hJx11 (0, ls) hl hf
        · replace hf := ite_f h13 hf
          refine lv_aload_n (pc := 35) hx hb dM_whyNot_35 rfl (lv_at hl 1 rfl) ?_
          refine lv_iload_n (pc := 36) hx hb dM_whyNot_36 rfl (lv_at hl 0 rfl) ?_
          obtain ⟨x14, hx14, hf⟩ := lt_9 hf
          refine jnF (τ := (Int32) × (Array Slot)) (fun pc st z => W p l e _ s m _ below meth c H ([]) 0 0 _ (F0 m pc z.2 st)) (pc0 := 37) (st0 := [.int y2, .ref (ad 4 0), .int 7, .int s9, .int 1, .int s6]) (z0 := (0, ls)) 45 (fun z => [.int z.1, .ref (ad 4 0), .int 7, .int s9, .int 1, .int s6]) (fun z => lv_has z.2 4 [(3, .int y2), (0, .ref (ad 4 0)), (1, .int a1), (2, .int a2)]) (fun z => x14 z.1) ρ ?_ ?_
          · intro hJx14
            dsimp only at hJx14 ⊢
            refine lv_if_eq (pc := 37) (tgt := 44) hx hb dM_whyNot_37 rfl (fun h16 => ?_) (fun h16 => ?_)
            · replace hf := ite_t h16 hf
              refine lv_iconst (pc := 44) (v := 0) hx hb dM_whyNot_44 (by decide) ?_
              have hl := lv_sub hl (l' := [(3, .int y2), (0, .ref (ad 4 0)), (1, .int a1), (2, .int a2)]) [0, 1, 2, 3] rfl
              exact hJx14 (0, ls) hl hf
            · replace hf := ite_f h16 hf
              refine lv_iload_n (pc := 40) hx hb dM_whyNot_40 rfl (lv_at hl 2 rfl) ?_
              refine lv_goto (pc := 41) (tgt := 45) hx hb dM_whyNot_41 rfl ?_
              have hl := lv_sub hl (l' := [(3, .int y2), (0, .ref (ad 4 0)), (1, .int a1), (2, .int a2)]) [0, 1, 2, 3] rfl
              exact hJx14 (a1, ls) hl hf
          · rintro ⟨s15, ls⟩ hl hf
            dsimp only at hl hf ⊢
            rw [hx14] at hf
            have hl : lv_has ls 4 [(3, .int y2), (0, .ref (ad 4 0)), (1, .int a1), (2, .int a2)] := hl
            obtain ⟨q17, hq17, eq17⟩ := at_4 (ad := ad) (ca := ca) (σ := σ) hm0
            obtain ⟨y18, hy18, hf⟩ := ob hf
            refine vp_callSi (pc := 45) (W.runV (As := [.int s15]) (rest := [.int 7, .int s9, .int 1, .int s6]) ⟨hx, hb, hml, hown, hts⟩ (t_M_with l dC dI ad ca dom σ s15 hm0 hN hC y18 hy18) (cwV 1 hts (gV wd_101 wd_102 wd_103 wd_50 wd_100) rfl rfl rfl (by decide +kernel) ⟨Nat.le_of_ble_eq_true rfl, Nat.le_of_ble_eq_true rfl⟩) ⟨hR_blind, va_recv (q := (RM, TM, 11)) (q0 := q17) (ci := 4) hK.1 hP rfl eq17, hR_pre hP hK hG⟩ rfl rfl hl.1 rfl (lv_room (Nat.le_of_ble_eq_true rfl)) dM_whyNot_45 ⟨Nat.le_of_ble_eq_true rfl, Nat.le_of_ble_eq_true rfl⟩) (fun r9 hr9 => ?_)
            refine W.eq (g2 := F0 m 48 ls [.int y18, .int 7, .int s9, .int 1, .int s6]) (by rw [hr9]) ?_
            refine lv_iload_n (pc := 48) hx hb dM_whyNot_48 rfl (lv_at hl 3 rfl) ?_
            refine lv_icmp_eq (pc := 49) (tgt := 56) hx hb dM_whyNot_49 rfl (fun h19 => ?_) (fun h19 => ?_)
            · replace hf := ite_t h19 hf
              refine lv_iconst (pc := 56) (v := 0) hx hb dM_whyNot_56 (by decide) ?_
              have hl := lv_sub hl (l' := [(3, .int y2), (0, .ref (ad 4 0)), (1, .int a1), (2, .int a2)]) [0, 1, 2, 3] rfl
              exact hJx11 (0, ls) hl hf
            · replace hf := ite_f h19 hf
              refine lv_iconst (pc := 52) (v := 1) hx hb dM_whyNot_52 (by decide) ?_
              refine lv_goto (pc := 53) (tgt := 57) hx hb dM_whyNot_53 rfl ?_
              have hl := lv_sub hl (l' := [(3, .int y2), (0, .ref (ad 4 0)), (1, .int a1), (2, .int a2)]) [0, 1, 2, 3] rfl
              exact hJx11 (1, ls) hl hf
      · rintro ⟨s12, ls⟩ hl hf
        dsimp only at hl hf ⊢
        rw [hx11] at hf
        have hl : lv_has ls 4 [(3, .int y2), (0, .ref (ad 4 0)), (1, .int a1), (2, .int a2)] := hl
        refine lv_iconst (pc := 57) (v := 2) hx hb dM_whyNot_57 (by decide) ?_
        refine lv_iconst (pc := 58) (v := 0) hx hb dM_whyNot_58 (by decide) ?_
        refine vp_callSi (pc := 59) (W.runS (As := [.int s12, .int 2, .int 0]) (rest := [.int 7, .int s9, .int 1, .int s6]) ⟨hx, hb, hml, hown, hts⟩ (t_M_least l dC dI ad ca dom s12 2 0 σ hN hC (M_least s12 2 0) rfl) (cwS 3 hts (gS wd_152 wd_153 wd_50 wd_151) rfl rfl rfl (by decide +kernel) ⟨Nat.le_of_ble_eq_true rfl, Nat.le_of_ble_eq_true rfl⟩) ⟨hR_blind, hR_pre hP hK hG⟩ rfl rfl hl.1 rfl (lv_room (Nat.le_of_ble_eq_true rfl)) dM_whyNot_59 ⟨Nat.le_of_ble_eq_true rfl, Nat.le_of_ble_eq_true rfl⟩) (fun r9 hr9 => ?_)
        refine W.eq (g2 := F0 m 62 ls [.int (M_least s12 2 0), .int 7, .int s9, .int 1, .int s6]) (by rw [hr9]) ?_
        refine vp_callSi (pc := 62) (W.runS (As := [.int s9, .int 7, .int (M_least s12 2 0)]) (rest := [.int 1, .int s6]) ⟨hx, hb, hml, hown, hts⟩ (t_M_least l dC dI ad ca dom s9 7 (M_least s12 2 0) σ hN hC (M_least s9 7 (M_least s12 2 0)) rfl) (cwS 3 hts (gS wd_152 wd_153 wd_50 wd_151) rfl rfl rfl (by decide +kernel) ⟨Nat.le_of_ble_eq_true rfl, Nat.le_of_ble_eq_true rfl⟩) ⟨hR_blind, hR_pre hP hK hG⟩ rfl rfl hl.1 rfl (lv_room (Nat.le_of_ble_eq_true rfl)) dM_whyNot_62 ⟨Nat.le_of_ble_eq_true rfl, Nat.le_of_ble_eq_true rfl⟩) (fun r9 hr9 => ?_)
        refine W.eq (g2 := F0 m 65 ls [.int (M_least s9 7 (M_least s12 2 0)), .int 1, .int s6]) (by rw [hr9]) ?_
        refine vp_callSi (pc := 65) (W.runS (As := [.int s6, .int 1, .int (M_least s9 7 (M_least s12 2 0))]) (rest := []) ⟨hx, hb, hml, hown, hts⟩ (t_M_least l dC dI ad ca dom s6 1 (M_least s9 7 (M_least s12 2 0)) σ hN hC (M_least s6 1 (M_least s9 7 (M_least s12 2 0))) rfl) (cwS 3 hts (gS wd_152 wd_153 wd_50 wd_151) rfl rfl rfl (by decide +kernel) ⟨Nat.le_of_ble_eq_true rfl, Nat.le_of_ble_eq_true rfl⟩) ⟨hR_blind, hR_pre hP hK hG⟩ rfl rfl hl.1 rfl (lv_room (Nat.le_of_ble_eq_true rfl)) dM_whyNot_65 ⟨Nat.le_of_ble_eq_true rfl, Nat.le_of_ble_eq_true rfl⟩) (fun r9 hr9 => ?_)
        refine W.eq (g2 := F0 m 68 ls [.int (M_least s6 1 (M_least s9 7 (M_least s12 2 0)))]) (by rw [hr9]) ?_
        exact W.iret (pc := 68) hx hb hr (fun t ht hW => ⟨_, rfl, (Option.some.inj hf), ht.trans hH⟩) (fun q h => nomatch h) dM_whyNot_68
def M_undo (n : Nat) (σ : hT) (a1 : Int32) (a2 : Int32) : Option (Int32 × hT) := Option.bind (M_whyNot σ a1 a2) fun y2 => Option.bind (M_may σ y2 1) fun ⟨y4, σ5⟩ => if y4 = 0 then some (0, σ5) else if in9 ((M_drawingAt a1) + 1) 25240 then lt9 (sI σ5 15 0 (((M_drawingAt a1) + 1)).toNatClampNeg 0) fun σ9 => Option.bind (M_close n σ9) fun ⟨y13, σ14⟩ => some (1, σ14) else none
set_option maxHeartbeats 4000000 in
set_option maxRecDepth 100000 in
theorem t_M_undo (l : Launch) (dC : Nat → ClassId) (dI : Nat → Nat → Nat) (ad : Nat → Nat → Nat) (ca : Nat → Nat → ClassId) (dom : List (Nat × Nat)) (sz : Nat) (n : Nat) (σ : hT) (a1 : Int32) (a2 : Int32) (hm0 : (4, 0) ∈ dom) (hN : dom.Nodup) (hC : clo dom σ.2.2) (ρ : Int32) (σ' : hT) (hf : M_undo n σ a1 a2 = some (ρ, σ')) : Met l yM_undo (.code yM_undo cM_undo 3 (some .boolean) :: aw) ({ frames := 7, cells := 0, slots := 0, locals := 157 }) (hW (dC, dI) sz ad ca dom σ [.ref (ad 4 0), .int a1, .int a2]) (va_Qi (fun r (_ : Unit) => r = ρ) (fun _ t => hB (dC, dI) (va_A (w9 ad ca dom σ) sz) ad ca dom σ' t) (va_A (w9 ad ca dom σ) sz)) 0 0 (va_A (w9 ad ca dom σ) sz) := by
  refine Met.ofW (cc := cM_undo) (maxL := 3) (ret := (some .boolean)) (by decide) rfl ?_
  intro p e s m args below meth c s₁ B hml hv
  obtain ⟨rfl, hv⟩ := hv
  have hx := B.exec
  have hb := B.bytes
  have hr := B.returns
  have hts : ∀ w ∈ aw, w.before _ s = true := fun w h => atoms_spec (ws := (.code yM_undo cM_undo 3 (some .boolean) :: aw)) B.pre w (List.mem_cons_of_mem _ h)
  have hown : s.vm.findClass RM = some m.cls := findClass_of_methodNamed B.named
  have hlocks := B.notSynchronized
  obtain ⟨hsz, hP, hK, hD0, hG⟩ := hv
  subst hsz
  have hD := hD0.self (sz := s.heap.size)
  generalize hAe : va_A (w9 ad ca dom σ) s.heap.size = A at hD ⊢
  have hA : ∀ q : Nat, s.heap.size ≤ q → A q := fun q h => by rw [← hAe]; exact Or.inr h
  obtain ⟨H, hH⟩ : ∃ H, H = s.heap := ⟨_, rfl⟩
  have hS : va_S A s.heap H [] := by rw [hH]; exact va_S.rf
  rw [← hH] at hP ⊢
  unfold M_undo at hf
  have hl := lv_entry ([.ref (ad 4 0), .int a1, .int a2]) (n := 3) (Nat.le_of_ble_eq_true rfl)
  rw [lg_entry_eq]
  generalize (lg_sl ([.ref (ad 4 0), .int a1, .int a2]) ++ List.replicate (3 - (lg_sl ([.ref (ad 4 0), .int a1, .int a2])).length) Slot.unset).toArray = ls at hl ⊢
  have hl : lv_has ls 3 [(0, .ref (ad 4 0)), (1, .int a1), (2, .int a2)] := hl
  refine lv_aload_n (pc := 0) hx hb dM_undo_0 rfl (lv_at hl 0 rfl) ?_
  refine lv_aload_n (pc := 1) hx hb dM_undo_1 rfl (lv_at hl 0 rfl) ?_
  refine lv_iload_n (pc := 2) hx hb dM_undo_2 rfl (lv_at hl 1 rfl) ?_
  refine lv_iload_n (pc := 3) hx hb dM_undo_3 rfl (lv_at hl 2 rfl) ?_
  obtain ⟨q1, hq1, eq1⟩ := at_4 (ad := ad) (ca := ca) (σ := σ) hm0
  obtain ⟨y2, hy2, hf⟩ := ob hf
  refine vp_callSi (pc := 4) (W.runV (As := [.int a1, .int a2]) (rest := [.ref (ad 4 0)]) ⟨hx, hb, hml, hown, hts⟩ (t_M_whyNot l dC dI ad ca dom σ a1 a2 hm0 hN hC y2 hy2) (cwV 2 hts (gV wd_163 wd_164 wd_165 wd_50 wd_162) rfl rfl rfl (by decide +kernel) ⟨Nat.le_of_ble_eq_true rfl, Nat.le_of_ble_eq_true rfl⟩) ⟨hR_blind, va_recv (q := (RM, TM, 11)) (q0 := q1) (ci := 4) hK.1 hP rfl eq1, hR_pre hP hK hG⟩ rfl rfl hl.1 rfl (lv_room (Nat.le_of_ble_eq_true rfl)) dM_undo_4 ⟨Nat.le_of_ble_eq_true rfl, Nat.le_of_ble_eq_true rfl⟩) (fun r9 hr9 => ?_)
  refine W.eq (g2 := F0 m 7 ls [.int y2, .ref (ad 4 0)]) (by rw [hr9]) ?_
  refine lv_iconst (pc := 7) (v := 1) hx hb dM_undo_7 (by decide) ?_
  obtain ⟨q3, hq3, eq3⟩ := at_4 (ad := ad) (ca := ca) (σ := σ) hm0
  obtain ⟨⟨y4, σ5⟩, hy4, hf⟩ := ob hf
  have hFc := w9_free hD hS hA
  refine va_calli (pc := 8) (va_runV (As := [.int y2, .int 1]) (rest := []) ⟨hx, hb, hml, hown, hts⟩ (t_M_may l dC dI ad ca dom H.size σ y2 1 hm0 hN hC y4 σ5 hy4) (cwV 2 hts (gV wd_140 wd_141 wd_142 wd_50 wd_139) rfl rfl rfl (by decide +kernel) ⟨Nat.le_of_ble_eq_true rfl, Nat.le_of_ble_eq_true rfl⟩) ⟨hW_blind, va_recv (q := (RM, TM, 11)) (q0 := q3) (ci := 4) hK.1 hP rfl eq3, hW_pre hP hK hD hG⟩ rfl rfl hl.1 rfl (lv_room (Nat.le_of_ble_eq_true rfl)) dM_undo_8 ⟨Nat.le_of_ble_eq_true rfl, Nat.le_of_ble_eq_true rfl⟩) hS (fun q _ h => hFc q h) hFc (fun r9 u t H1 locs ht hvm hr9 hB hz1 hk1 hS => ?_)
  obtain ⟨hP, hD, hC⟩ := hB
  rw [ht] at hP
  replace hD := hD.weaken (fun _ _ _ h => hFc _ h)
  generalize H1 = H at hP hS ⊢
  refine W.eq (g2 := F0 m 11 ls [.int y4]) (by rw [hr9]) ?_
  refine lv_if_ne (pc := 11) (tgt := 16) hx hb dM_undo_11 rfl (fun h6 => ?_) (fun h6 => ?_)
  · replace hf := ite_f h6 hf
    refine lv_aload_n (pc := 16) hx hb dM_undo_16 rfl (lv_at hl 0 rfl) ?_
    obtain ⟨q7, hq7, eq7⟩ := at_4 (ad := ad) (ca := ca) (σ := σ5) hm0
    refine va_get (D := (dC, dI)) (cl := kCl) (C := RM) (T := TM) (N := 11) (pc := 17) hx hb hts inM hown hK.1 hP q7 eq7 rfl 2 (by decide) (hts _ wd_51) (fun _ h9 => h9) rfl dM_undo_17 ?_
    refine lv_aload_n (pc := 20) hx hb dM_undo_20 rfl (lv_at hl 0 rfl) ?_
    refine lv_iload_n (pc := 21) hx hb dM_undo_21 rfl (lv_at hl 1 rfl) ?_
    obtain ⟨q8, hq8, eq8⟩ := at_4 (ad := ad) (ca := ca) (σ := σ5) hm0
    refine vp_callSi (pc := 22) (W.runV (As := [.int a1]) (rest := [.ref (ad 15 0)]) ⟨hx, hb, hml, hown, hts⟩ (t_M_drawingAt l dC dI ad ca dom a1 hm0 σ5 hN hC (M_drawingAt a1) rfl) (cwV 1 hts (gV wd_53 wd_54 wd_55 wd_50 wd_52) rfl rfl rfl (by decide +kernel) ⟨Nat.le_of_ble_eq_true rfl, Nat.le_of_ble_eq_true rfl⟩) ⟨hR_blind, va_recv (q := (RM, TM, 11)) (q0 := q8) (ci := 4) hK.1 hP rfl eq8, hR_pre hP hK hG⟩ rfl rfl hl.1 rfl (lv_room (Nat.le_of_ble_eq_true rfl)) dM_undo_22 ⟨Nat.le_of_ble_eq_true rfl, Nat.le_of_ble_eq_true rfl⟩) (fun r9 hr9 => ?_)
    refine W.eq (g2 := F0 m 25 ls [.int (M_drawingAt a1), .ref (ad 15 0)]) (by rw [hr9]) ?_
    refine lv_iconst (pc := 25) (v := 1) hx hb dM_undo_25 (by decide) ?_
    refine lv_iadd (pc := 26) hx hb dM_undo_26 ?_
    refine lv_iconst (pc := 27) (v := 0) hx hb dM_undo_27 (by decide) ?_
    obtain ⟨hv10, hf⟩ := ite_s hf
    obtain ⟨q11, hq11, eq11⟩ := at_15 (ad := ad) (ca := ca) (σ := σ5) (cm_4_2 hC hm0)
    refine va_iast (D := (dC, dI)) (cl := kCl) (pc := 28) hx hb (hK.2 15 0 .int (cm_4_2 hC hm0) rfl) hP hD hS q11 0 eq11 rfl (hv10) dM_undo_28 (fun H locs hP hD hS => ?_)
    obtain ⟨σ9, hσ9, hf⟩ := lt_9 hf
    obtain ⟨hP, hD⟩ := w9_rI 15 rfl hN hq11 hσ9 (pr_15) hP hD
    have hC : clo dom σ9.2.2 := by rw [hσ9]; exact hC
    refine lv_aload_n (pc := 29) hx hb dM_undo_29 rfl (lv_at hl 0 rfl) ?_
    obtain ⟨q12, hq12, eq12⟩ := at_4 (ad := ad) (ca := ca) (σ := σ9) hm0
    obtain ⟨⟨y13, σ14⟩, hy13, hf⟩ := ob hf
    have hFc := w9_free hD hS hA
    refine va_callv (pc := 30) (va_runV (As := []) (rest := []) ⟨hx, hb, hml, hown, hts⟩ (t_M_close l dC dI ad ca dom H.size n σ9 hm0 hN hC y13 σ14 hy13) (cwV 0 hts (gV wd_144 wd_145 wd_146 wd_50 wd_143) rfl rfl rfl (by decide +kernel) ⟨Nat.le_of_ble_eq_true rfl, Nat.le_of_ble_eq_true rfl⟩) ⟨hW_blind, va_recv (q := (RM, TM, 11)) (q0 := q12) (ci := 4) hK.1 hP rfl eq12, hW_pre hP hK hD hG⟩ rfl rfl hl.1 rfl (lv_room (Nat.le_of_ble_eq_true rfl)) dM_undo_30 ⟨Nat.le_of_ble_eq_true rfl, Nat.le_of_ble_eq_true rfl⟩) hS (fun q _ h => hFc q h) hFc (fun u t H1 locs ht hvm hr9 hB hz1 hk1 hS => ?_)
    obtain ⟨hP, hD, hC⟩ := hB
    rw [ht] at hP
    replace hD := hD.weaken (fun _ _ _ h => hFc _ h)
    generalize H1 = H at hP hS ⊢
    refine lv_iconst (pc := 33) (v := 1) hx hb dM_undo_33 (by decide) ?_
    obtain ⟨h8, h9⟩ := Prod.mk.inj (Option.some.inj hf)
    subst h9
    exact W.zret (pc := 34) hx hb hr (rfl) (fun t ht hW => ⟨⟨_, (), rfl, h8, by rw [ht]; exact hP, hD, hC⟩, hS.F ht⟩) hS.2.2 dM_undo_34
  · replace hf := ite_t h6 hf
    refine lv_iconst (pc := 14) (v := 0) hx hb dM_undo_14 (by decide) ?_
    obtain ⟨h8, h9⟩ := Prod.mk.inj (Option.some.inj hf)
    subst h9
    exact W.zret (pc := 15) hx hb hr (rfl) (fun t ht hW => ⟨⟨_, (), rfl, h8, by rw [ht]; exact hP, hD, hC⟩, hS.F ht⟩) hS.2.2 dM_undo_15
def M_mayHere (σ : hT) (a1 : Int32) : Option (Int32 × hT) := lt9 (α := Int32 → Option (Int32 × hT)) (fun (s3 : Int32) => lt9 (sI σ 500 0 0 s3) fun σ5 => if (xI σ5 504 0 0) = 0 then lt9 (sI σ5 501 0 0 a1) fun σ9 => if a1 = 0 then some (1, σ9) else some (0, σ9) else some (0, σ5)) fun x2 => if (xI σ 504 0 0) = 0 then x2 0 else x2 1
set_option maxHeartbeats 4000000 in
set_option maxRecDepth 100000 in
theorem t_M_mayHere (l : Launch) (dC : Nat → ClassId) (dI : Nat → Nat → Nat) (ad : Nat → Nat → Nat) (ca : Nat → Nat → ClassId) (dom : List (Nat × Nat)) (sz : Nat) (σ : hT) (a1 : Int32) (hm0 : (4, 0) ∈ dom) (hN : dom.Nodup) (hC : clo dom σ.2.2) (ρ : Int32) (σ' : hT) (hf : M_mayHere σ a1 = some (ρ, σ')) : Met l yM_mayHere (.code yM_mayHere cM_mayHere 2 (some .boolean) :: aw) ({ frames := 0, cells := 0, slots := 0, locals := 0 }) (hW (dC, dI) sz ad ca dom σ [.ref (ad 4 0), .int a1]) (va_Qi (fun r (_ : Unit) => r = ρ) (fun _ t => hB (dC, dI) (va_A (w9 ad ca dom σ) sz) ad ca dom σ' t) (va_A (w9 ad ca dom σ) sz)) 0 0 (va_A (w9 ad ca dom σ) sz) := by
  refine Met.ofW (cc := cM_mayHere) (maxL := 2) (ret := (some .boolean)) (by decide) rfl ?_
  intro p e s m args below meth c s₁ B hml hv
  obtain ⟨rfl, hv⟩ := hv
  have hx := B.exec
  have hb := B.bytes
  have hr := B.returns
  have hts : ∀ w ∈ aw, w.before _ s = true := fun w h => atoms_spec (ws := (.code yM_mayHere cM_mayHere 2 (some .boolean) :: aw)) B.pre w (List.mem_cons_of_mem _ h)
  have hown : s.vm.findClass RM = some m.cls := findClass_of_methodNamed B.named
  have hlocks := B.notSynchronized
  obtain ⟨hsz, hP, hK, hD0, hG⟩ := hv
  subst hsz
  have hD := hD0.self (sz := s.heap.size)
  generalize hAe : va_A (w9 ad ca dom σ) s.heap.size = A at hD ⊢
  have hA : ∀ q : Nat, s.heap.size ≤ q → A q := fun q h => by rw [← hAe]; exact Or.inr h
  obtain ⟨H, hH⟩ : ∃ H, H = s.heap := ⟨_, rfl⟩
  have hS : va_S A s.heap H [] := by rw [hH]; exact va_S.rf
  rw [← hH] at hP ⊢
  unfold M_mayHere at hf
  have hl := lv_entry ([.ref (ad 4 0), .int a1]) (n := 2) (Nat.le_of_ble_eq_true rfl)
  rw [lg_entry_eq]
  generalize (lg_sl ([.ref (ad 4 0), .int a1]) ++ List.replicate (2 - (lg_sl ([.ref (ad 4 0), .int a1])).length) Slot.unset).toArray = ls at hl ⊢
  have hl : lv_has ls 2 [(0, .ref (ad 4 0)), (1, .int a1)] := hl
  refine lv_aload_n (pc := 0) hx hb dM_mayHere_0 rfl (lv_at hl 0 rfl) ?_
  refine lv_aload_n (pc := 1) hx hb dM_mayHere_1 rfl (lv_at hl 0 rfl) ?_
  obtain ⟨q1, hq1, eq1⟩ := at_4 (ad := ad) (ca := ca) (σ := σ) hm0
  refine va_get (D := (dC, dI)) (cl := kCl) (C := RM) (T := TM) (N := 11) (pc := 2) hx hb hts inM hown hK.1 hP q1 eq1 rfl 4 (by decide) (hts _ wd_128) (fun _ h9 => h9) rfl dM_mayHere_2 ?_
  obtain ⟨x2, hx2, hf⟩ := lt_9 hf
  refine jnF (τ := (Int32) × (Heap) × (List Loc) × (Array Slot)) (fun pc st z => W p l e _ s m _ below meth c z.2.1 z.2.2.1 0 0 _ (F0 m pc z.2.2.2 st)) (pc0 := 5) (st0 := [.int (xI σ 504 0 0), .ref (ad 4 0)]) (z0 := (0, H, _, ls)) 13 (fun z => [.int z.1, .ref (ad 4 0)]) (fun z => va_P (dC, dI) kCl (w9 ad ca dom (σ)) z.2.1 ∧ va_D A (w9 ad ca dom (σ)) ∧ va_S A s.heap z.2.1 z.2.2.1 ∧ lv_has z.2.2.2 2 [(0, .ref (ad 4 0)), (1, .int a1)]) (fun z => x2 z.1) (ρ, σ') ?_ ?_
  · intro hJx2
    dsimp only at hJx2 ⊢
    refine lv_if_eq (pc := 5) (tgt := 12) hx hb dM_mayHere_5 rfl (fun h4 => ?_) (fun h4 => ?_)
    · replace hf := ite_t h4 hf
      refine lv_iconst (pc := 12) (v := 0) hx hb dM_mayHere_12 (by decide) ?_
      have hl := lv_sub hl (l' := [(0, .ref (ad 4 0)), (1, .int a1)]) [0, 1] rfl
      exact hJx2 (0, H, _, ls) ⟨hP, hD, hS, hl⟩ hf
    · replace hf := ite_f h4 hf
      refine lv_iconst (pc := 8) (v := 1) hx hb dM_mayHere_8 (by decide) ?_
      refine lv_goto (pc := 9) (tgt := 13) hx hb dM_mayHere_9 rfl ?_
      have hl := lv_sub hl (l' := [(0, .ref (ad 4 0)), (1, .int a1)]) [0, 1] rfl
      exact hJx2 (1, H, _, ls) ⟨hP, hD, hS, hl⟩ hf
  · rintro ⟨s3, H, locs, ls⟩ ⟨hP, hD, hS, hl⟩ hf
    dsimp only at hP hD hS hl hf ⊢
    rw [hx2] at hf
    have hl : lv_has ls 2 [(0, .ref (ad 4 0)), (1, .int a1)] := hl
    obtain ⟨q6, hq6, eq6⟩ := at_4 (ad := ad) (ca := ca) (σ := σ) hm0
    refine va_put (D := (dC, dI)) (cl := kCl) (ci := 4) (v := .int s3) (ty := .int) (C := RM) (T := TM) (N := 11) (pc := 13) hx hb hts inM tyM tyM_ok nmM hown hK.1 hP hD hS q6 eq6 rfl 0 (by decide) (hts _ wd_45) (fun _ h9 => h9) rfl (by decide +kernel) (rfl) (rfl) (Nat.le_of_ble_eq_true rfl) dM_mayHere_13 (fun H locs hP hD hS => ?_)
    obtain ⟨σ5, hσ5, hf⟩ := lt_9 hf
    obtain ⟨hP, hD⟩ := w9_rI 500 rfl hN hq6 hσ5 (pu_500) hP hD
    have hC : clo dom σ5.2.2 := by rw [hσ5]; exact hC
    refine lv_aload_n (pc := 16) hx hb dM_mayHere_16 rfl (lv_at hl 0 rfl) ?_
    obtain ⟨q7, hq7, eq7⟩ := at_4 (ad := ad) (ca := ca) (σ := σ5) hm0
    refine va_get (D := (dC, dI)) (cl := kCl) (C := RM) (T := TM) (N := 11) (pc := 17) hx hb hts inM hown hK.1 hP q7 eq7 rfl 4 (by decide) (hts _ wd_128) (fun _ h9 => h9) rfl dM_mayHere_17 ?_
    refine lv_if_eq (pc := 20) (tgt := 25) hx hb dM_mayHere_20 rfl (fun h8 => ?_) (fun h8 => ?_)
    · replace hf := ite_t h8 hf
      refine lv_aload_n (pc := 25) hx hb dM_mayHere_25 rfl (lv_at hl 0 rfl) ?_
      refine lv_iload_n (pc := 26) hx hb dM_mayHere_26 rfl (lv_at hl 1 rfl) ?_
      obtain ⟨q10, hq10, eq10⟩ := at_4 (ad := ad) (ca := ca) (σ := σ5) hm0
      refine va_put (D := (dC, dI)) (cl := kCl) (ci := 4) (v := .int a1) (ty := .int) (C := RM) (T := TM) (N := 11) (pc := 27) hx hb hts inM tyM tyM_ok nmM hown hK.1 hP hD hS q10 eq10 rfl 1 (by decide) (hts _ wd_129) (fun _ h9 => h9) rfl (by decide +kernel) (rfl) (rfl) (Nat.le_of_ble_eq_true rfl) dM_mayHere_27 (fun H locs hP hD hS => ?_)
      obtain ⟨σ9, hσ9, hf⟩ := lt_9 hf
      obtain ⟨hP, hD⟩ := w9_rI 501 rfl hN hq10 hσ9 (pu_501) hP hD
      have hC : clo dom σ9.2.2 := by rw [hσ9]; exact hC
      refine lv_iload_n (pc := 30) hx hb dM_mayHere_30 rfl (lv_at hl 1 rfl) ?_
      refine lv_if_ne (pc := 31) (tgt := 38) hx hb dM_mayHere_31 rfl (fun h11 => ?_) (fun h11 => ?_)
      · replace hf := ite_f h11 hf
        refine lv_iconst (pc := 38) (v := 0) hx hb dM_mayHere_38 (by decide) ?_
        obtain ⟨h8, h9⟩ := Prod.mk.inj (Option.some.inj hf)
        subst h9
        exact W.zret (pc := 39) hx hb hr (rfl) (fun t ht hW => ⟨⟨_, (), rfl, h8, by rw [ht]; exact hP, hD, hC⟩, hS.F ht⟩) hS.2.2 dM_mayHere_39
      · replace hf := ite_t h11 hf
        refine lv_iconst (pc := 34) (v := 1) hx hb dM_mayHere_34 (by decide) ?_
        refine lv_goto (pc := 35) (tgt := 39) hx hb dM_mayHere_35 rfl ?_
        obtain ⟨h8, h9⟩ := Prod.mk.inj (Option.some.inj hf)
        subst h9
        exact W.zret (pc := 39) hx hb hr (rfl) (fun t ht hW => ⟨⟨_, (), rfl, h8, by rw [ht]; exact hP, hD, hC⟩, hS.F ht⟩) hS.2.2 dM_mayHere_39
    · replace hf := ite_f h8 hf
      refine lv_iconst (pc := 23) (v := 0) hx hb dM_mayHere_23 (by decide) ?_
      obtain ⟨h8, h9⟩ := Prod.mk.inj (Option.some.inj hf)
      subst h9
      exact W.zret (pc := 24) hx hb hr (rfl) (fun t ht hW => ⟨⟨_, (), rfl, h8, by rw [ht]; exact hP, hD, hC⟩, hS.F ht⟩) hS.2.2 dM_mayHere_24
def M_put (σ : hT) (a1 : Int32) (a2 : Int32) (a3 : Int32) (a4 : Int32) : Option (Int32 × hT) := Option.bind (M_whyNot σ a1 a2) fun y2 => lt9 (α := Int32 → Option (Int32 × hT)) (fun (s4 : Int32) => lt9 (α := Int32 → Option (Int32 × hT)) (fun (s18 : Int32) => Option.bind (M_mayHere σ s18) fun ⟨y22, σ23⟩ => if y22 = 0 then some (0, σ23) else if in9 (((M_drawingAt a1) + 16) + a3) 25240 then lt9 (sI σ23 15 0 ((((M_drawingAt a1) + 16) + a3)).toNatClampNeg a4) fun σ27 => some (1, σ27) else none) fun x17 => if y2 = 0 then if s4 = 0 then x17 7 else x17 y2 else x17 y2) fun x3 => if y2 = 0 then if a3 < 0 then x3 0 else lt9 (α := Int32 → Option (Int32 × hT)) (fun (s9 : Int32) => if in9 ((M_drawingAt s9) + 2) 25240 then if (xI σ 15 0 (((M_drawingAt s9) + 2)).toNatClampNeg) ≤ a3 then x3 0 else if a4 < 0 then x3 0 else if 256 ≤ a4 then x3 0 else x3 1 else none) fun x8 => if y2 = 0 then x8 a1 else x8 0 else x3 0
set_option maxHeartbeats 4000000 in
set_option maxRecDepth 100000 in
theorem t_M_put (l : Launch) (dC : Nat → ClassId) (dI : Nat → Nat → Nat) (ad : Nat → Nat → Nat) (ca : Nat → Nat → ClassId) (dom : List (Nat × Nat)) (sz : Nat) (σ : hT) (a1 : Int32) (a2 : Int32) (a3 : Int32) (a4 : Int32) (hm0 : (4, 0) ∈ dom) (hN : dom.Nodup) (hC : clo dom σ.2.2) (ρ : Int32) (σ' : hT) (hf : M_put σ a1 a2 a3 a4 = some (ρ, σ')) : Met l yM_put (.code yM_put cM_put 7 (some .boolean) :: aw) ({ frames := 3, cells := 0, slots := 0, locals := 65 }) (hW (dC, dI) sz ad ca dom σ [.ref (ad 4 0), .int a1, .int a2, .int a3, .int a4]) (va_Qi (fun r (_ : Unit) => r = ρ) (fun _ t => hB (dC, dI) (va_A (w9 ad ca dom σ) sz) ad ca dom σ' t) (va_A (w9 ad ca dom σ) sz)) 0 0 (va_A (w9 ad ca dom σ) sz) := by
  refine Met.ofW (cc := cM_put) (maxL := 7) (ret := (some .boolean)) (by decide) rfl ?_
  intro p e s m args below meth c s₁ B hml hv
  obtain ⟨rfl, hv⟩ := hv
  have hx := B.exec
  have hb := B.bytes
  have hr := B.returns
  have hts : ∀ w ∈ aw, w.before _ s = true := fun w h => atoms_spec (ws := (.code yM_put cM_put 7 (some .boolean) :: aw)) B.pre w (List.mem_cons_of_mem _ h)
  have hown : s.vm.findClass RM = some m.cls := findClass_of_methodNamed B.named
  have hlocks := B.notSynchronized
  obtain ⟨hsz, hP, hK, hD0, hG⟩ := hv
  subst hsz
  have hD := hD0.self (sz := s.heap.size)
  generalize hAe : va_A (w9 ad ca dom σ) s.heap.size = A at hD ⊢
  have hA : ∀ q : Nat, s.heap.size ≤ q → A q := fun q h => by rw [← hAe]; exact Or.inr h
  obtain ⟨H, hH⟩ : ∃ H, H = s.heap := ⟨_, rfl⟩
  have hS : va_S A s.heap H [] := by rw [hH]; exact va_S.rf
  rw [← hH] at hP ⊢
  unfold M_put at hf
  have hl := lv_entry ([.ref (ad 4 0), .int a1, .int a2, .int a3, .int a4]) (n := 7) (Nat.le_of_ble_eq_true rfl)
  rw [lg_entry_eq]
  generalize (lg_sl ([.ref (ad 4 0), .int a1, .int a2, .int a3, .int a4]) ++ List.replicate (7 - (lg_sl ([.ref (ad 4 0), .int a1, .int a2, .int a3, .int a4])).length) Slot.unset).toArray = ls at hl ⊢
  have hl : lv_has ls 7 [(0, .ref (ad 4 0)), (1, .int a1), (2, .int a2), (3, .int a3), (4, .int a4)] := hl
  refine lv_aload_n (pc := 0) hx hb dM_put_0 rfl (lv_at hl 0 rfl) ?_
  refine lv_iload_n (pc := 1) hx hb dM_put_1 rfl (lv_at hl 1 rfl) ?_
  refine lv_iload_n (pc := 2) hx hb dM_put_2 rfl (lv_at hl 2 rfl) ?_
  obtain ⟨q1, hq1, eq1⟩ := at_4 (ad := ad) (ca := ca) (σ := σ) hm0
  obtain ⟨y2, hy2, hf⟩ := ob hf
  refine vp_callSi (pc := 3) (W.runV (As := [.int a1, .int a2]) (rest := []) ⟨hx, hb, hml, hown, hts⟩ (t_M_whyNot l dC dI ad ca dom σ a1 a2 hm0 hN hC y2 hy2) (cwV 2 hts (gV wd_163 wd_164 wd_165 wd_50 wd_162) rfl rfl rfl (by decide +kernel) ⟨Nat.le_of_ble_eq_true rfl, Nat.le_of_ble_eq_true rfl⟩) ⟨hR_blind, va_recv (q := (RM, TM, 11)) (q0 := q1) (ci := 4) hK.1 hP rfl eq1, hR_pre hP hK hG⟩ rfl rfl hl.1 rfl (lv_room (Nat.le_of_ble_eq_true rfl)) dM_put_3 ⟨Nat.le_of_ble_eq_true rfl, Nat.le_of_ble_eq_true rfl⟩) (fun r9 hr9 => ?_)
  refine W.eq (g2 := F0 m 6 ls [.int y2]) (by rw [hr9]) ?_
  refine lv_istore (pc := 6) hx hb dM_put_6 hl (by decide) rfl (fun ls hl => ?_)
  have hl : lv_has ls 7 [(5, .int y2), (0, .ref (ad 4 0)), (1, .int a1), (2, .int a2), (3, .int a3), (4, .int a4)] := hl
  refine lv_iload (pc := 8) hx hb dM_put_8 (lv_at hl 0 rfl) ?_
  obtain ⟨x3, hx3, hf⟩ := lt_9 hf
  refine jnF (τ := (Int32) × (Heap) × (List Loc) × (Array Slot)) (fun pc st z => W p l e _ s m _ below meth c z.2.1 z.2.2.1 0 0 _ (F0 m pc z.2.2.2 st)) (pc0 := 10) (st0 := [.int y2]) (z0 := (0, H, _, ls)) 60 (fun z => [.int z.1]) (fun z => va_P (dC, dI) kCl (w9 ad ca dom (σ)) z.2.1 ∧ va_D A (w9 ad ca dom (σ)) ∧ va_S A s.heap z.2.1 z.2.2.1 ∧ lv_has z.2.2.2 7 [(5, .int y2), (0, .ref (ad 4 0)), (1, .int a1), (2, .int a2), (3, .int a3), (4, .int a4)]) (fun z => x3 z.1) (ρ, σ') ?_ ?_
  · intro hJx3
    dsimp only at hJx3 ⊢
    refine lv_if_ne (pc := 10) (tgt := 59) hx hb dM_put_10 rfl (fun h5 => ?_) (fun h5 => ?_)
    · replace hf := ite_f h5 hf
      refine lv_iconst (pc := 59) (v := 0) hx hb dM_put_59 (by decide) ?_
      have hl := lv_sub hl (l' := [(5, .int y2), (0, .ref (ad 4 0)), (1, .int a1), (2, .int a2), (3, .int a3), (4, .int a4)]) [0, 1, 2, 3, 4, 5] rfl
      exact hJx3 (0, H, _, ls) ⟨hP, hD, hS, hl⟩ hf
    · replace hf := ite_t h5 hf
      refine lv_iload_n (pc := 13) hx hb dM_put_13 rfl (lv_at hl 4 rfl) ?_
      refine lv_if_lt (pc := 14) (tgt := 59) hx hb dM_put_14 rfl (fun h6 => ?_) (fun h6 => ?_)
      · replace hf := ite_t h6 hf
        refine lv_iconst (pc := 59) (v := 0) hx hb dM_put_59 (by decide) ?_
        have hl := lv_sub hl (l' := [(5, .int y2), (0, .ref (ad 4 0)), (1, .int a1), (2, .int a2), (3, .int a3), (4, .int a4)]) [0, 1, 2, 3, 4, 5] rfl
        exact hJx3 (0, H, _, ls) ⟨hP, hD, hS, hl⟩ hf
      · replace hf := ite_f h6 hf
        refine lv_iload_n (pc := 17) hx hb dM_put_17 rfl (lv_at hl 4 rfl) ?_
        refine lv_aload_n (pc := 18) hx hb dM_put_18 rfl (lv_at hl 1 rfl) ?_
        obtain ⟨q7, hq7, eq7⟩ := at_4 (ad := ad) (ca := ca) (σ := σ) hm0
        refine va_get (D := (dC, dI)) (cl := kCl) (C := RM) (T := TM) (N := 11) (pc := 19) hx hb hts inM hown hK.1 hP q7 eq7 rfl 2 (by decide) (hts _ wd_51) (fun _ h9 => h9) rfl dM_put_19 ?_
        refine lv_aload_n (pc := 22) hx hb dM_put_22 rfl (lv_at hl 1 rfl) ?_
        refine lv_iload (pc := 23) hx hb dM_put_23 (lv_at hl 0 rfl) ?_
        obtain ⟨x8, hx8, hf⟩ := lt_9 hf
        refine jnF (τ := (Int32) × (Heap) × (List Loc) × (Array Slot)) (fun pc st z => W p l e _ s m _ below meth c z.2.1 z.2.2.1 0 0 _ (F0 m pc z.2.2.2 st)) (pc0 := 25) (st0 := [.int y2, .ref (ad 4 0), .ref (ad 15 0), .int a3]) (z0 := (0, H, _, ls)) 33 (fun z => [.int z.1, .ref (ad 4 0), .ref (ad 15 0), .int a3]) (fun z => va_P (dC, dI) kCl (w9 ad ca dom (σ)) z.2.1 ∧ va_D A (w9 ad ca dom (σ)) ∧ va_S A s.heap z.2.1 z.2.2.1 ∧ lv_has z.2.2.2 7 [(5, .int y2), (0, .ref (ad 4 0)), (1, .int a1), (2, .int a2), (3, .int a3), (4, .int a4)]) (fun z => x8 z.1) (ρ, σ') ?_ ?_
        · intro hJx8
          dsimp only at hJx8 ⊢
          refine lv_if_ne (pc := 25) (tgt := 32) hx hb dM_put_25 rfl (fun h10 => ?_) (fun h10 => ?_)
          · replace hf := ite_f h10 hf
            refine lv_iconst (pc := 32) (v := 0) hx hb dM_put_32 (by decide) ?_
            have hl := lv_sub hl (l' := [(5, .int y2), (0, .ref (ad 4 0)), (1, .int a1), (2, .int a2), (3, .int a3), (4, .int a4)]) [0, 1, 2, 3, 4, 5] rfl
            exact hJx8 (0, H, _, ls) ⟨hP, hD, hS, hl⟩ hf
          · replace hf := ite_t h10 hf
            refine lv_iload_n (pc := 28) hx hb dM_put_28 rfl (lv_at hl 2 rfl) ?_
            refine lv_goto (pc := 29) (tgt := 33) hx hb dM_put_29 rfl ?_
            have hl := lv_sub hl (l' := [(5, .int y2), (0, .ref (ad 4 0)), (1, .int a1), (2, .int a2), (3, .int a3), (4, .int a4)]) [0, 1, 2, 3, 4, 5] rfl
            exact hJx8 (a1, H, _, ls) ⟨hP, hD, hS, hl⟩ hf
        · rintro ⟨s9, H, locs, ls⟩ ⟨hP, hD, hS, hl⟩ hf
          dsimp only at hP hD hS hl hf ⊢
          rw [hx8] at hf
          have hl : lv_has ls 7 [(5, .int y2), (0, .ref (ad 4 0)), (1, .int a1), (2, .int a2), (3, .int a3), (4, .int a4)] := hl
          obtain ⟨q11, hq11, eq11⟩ := at_4 (ad := ad) (ca := ca) (σ := σ) hm0
          refine vp_callSi (pc := 33) (W.runV (As := [.int s9]) (rest := [.ref (ad 15 0), .int a3]) ⟨hx, hb, hml, hown, hts⟩ (t_M_drawingAt l dC dI ad ca dom s9 hm0 σ hN hC (M_drawingAt s9) rfl) (cwV 1 hts (gV wd_53 wd_54 wd_55 wd_50 wd_52) rfl rfl rfl (by decide +kernel) ⟨Nat.le_of_ble_eq_true rfl, Nat.le_of_ble_eq_true rfl⟩) ⟨hR_blind, va_recv (q := (RM, TM, 11)) (q0 := q11) (ci := 4) hK.1 hP rfl eq11, hR_pre hP hK hG⟩ rfl rfl hl.1 rfl (lv_room (Nat.le_of_ble_eq_true rfl)) dM_put_33 ⟨Nat.le_of_ble_eq_true rfl, Nat.le_of_ble_eq_true rfl⟩) (fun r9 hr9 => ?_)
          refine W.eq (g2 := F0 m 36 ls [.int (M_drawingAt s9), .ref (ad 15 0), .int a3]) (by rw [hr9]) ?_
          refine lv_iconst (pc := 36) (v := 2) hx hb dM_put_36 (by decide) ?_
          refine lv_iadd (pc := 37) hx hb dM_put_37 ?_
          obtain ⟨hv12, hf⟩ := ite_s hf
          obtain ⟨q13, hq13, eq13⟩ := at_15 (ad := ad) (ca := ca) (σ := σ) (cm_4_2 hC hm0)
          refine va_iald (D := (dC, dI)) (cl := kCl) (pc := 38) hx hb (hK.2 15 0 .int (cm_4_2 hC hm0) rfl) hP q13 0 eq13 rfl (hv12) dM_put_38 ?_
          refine W.eq (g2 := F0 m 39 ls [.int (xI σ 15 0 (((M_drawingAt s9) + 2)).toNatClampNeg), .int a3]) rfl ?_
          refine lv_icmp_ge (pc := 39) (tgt := 59) hx hb dM_put_39 rfl (fun h14 => ?_) (fun h14 => ?_)
          · replace hf := ite_t h14 hf
            refine lv_iconst (pc := 59) (v := 0) hx hb dM_put_59 (by decide) ?_
            have hl := lv_sub hl (l' := [(5, .int y2), (0, .ref (ad 4 0)), (1, .int a1), (2, .int a2), (3, .int a3), (4, .int a4)]) [0, 1, 2, 3, 4, 5] rfl
            exact hJx3 (0, H, _, ls) ⟨hP, hD, hS, hl⟩ hf
          · replace hf := ite_f h14 hf
            refine lv_iload (pc := 42) hx hb dM_put_42 (lv_at hl 5 rfl) ?_
            refine lv_if_lt (pc := 44) (tgt := 59) hx hb dM_put_44 rfl (fun h15 => ?_) (fun h15 => ?_)
            · replace hf := ite_t h15 hf
              refine lv_iconst (pc := 59) (v := 0) hx hb dM_put_59 (by decide) ?_
              have hl := lv_sub hl (l' := [(5, .int y2), (0, .ref (ad 4 0)), (1, .int a1), (2, .int a2), (3, .int a3), (4, .int a4)]) [0, 1, 2, 3, 4, 5] rfl
              exact hJx3 (0, H, _, ls) ⟨hP, hD, hS, hl⟩ hf
            · replace hf := ite_f h15 hf
              refine lv_iload (pc := 47) hx hb dM_put_47 (lv_at hl 5 rfl) ?_
              refine lv_sipush (pc := 49) (v := 256) hx hb dM_put_49 (by decide) ?_
              refine lv_icmp_ge (pc := 52) (tgt := 59) hx hb dM_put_52 rfl (fun h16 => ?_) (fun h16 => ?_)
              · replace hf := ite_t h16 hf
                refine lv_iconst (pc := 59) (v := 0) hx hb dM_put_59 (by decide) ?_
                have hl := lv_sub hl (l' := [(5, .int y2), (0, .ref (ad 4 0)), (1, .int a1), (2, .int a2), (3, .int a3), (4, .int a4)]) [0, 1, 2, 3, 4, 5] rfl
                exact hJx3 (0, H, _, ls) ⟨hP, hD, hS, hl⟩ hf
              · replace hf := ite_f h16 hf
                refine lv_iconst (pc := 55) (v := 1) hx hb dM_put_55 (by decide) ?_
                refine lv_goto (pc := 56) (tgt := 60) hx hb dM_put_56 rfl ?_
                have hl := lv_sub hl (l' := [(5, .int y2), (0, .ref (ad 4 0)), (1, .int a1), (2, .int a2), (3, .int a3), (4, .int a4)]) [0, 1, 2, 3, 4, 5] rfl
                exact hJx3 (1, H, _, ls) ⟨hP, hD, hS, hl⟩ hf
  · rintro ⟨s4, H, locs, ls⟩ ⟨hP, hD, hS, hl⟩ hf
    dsimp only at hP hD hS hl hf ⊢
    rw [hx3] at hf
    have hl : lv_has ls 7 [(5, .int y2), (0, .ref (ad 4 0)), (1, .int a1), (2, .int a2), (3, .int a3), (4, .int a4)] := hl
    refine lv_istore (pc := 60) hx hb dM_put_60 hl (by decide) rfl (fun ls hl => ?_)
    have hl : lv_has ls 7 [(6, .int s4), (5, .int y2), (0, .ref (ad 4 0)), (1, .int a1), (2, .int a2), (3, .int a3), (4, .int a4)] := hl
    refine lv_aload_n (pc := 62) hx hb dM_put_62 rfl (lv_at hl 2 rfl) ?_
    refine lv_iload (pc := 63) hx hb dM_put_63 (lv_at hl 1 rfl) ?_
    obtain ⟨x17, hx17, hf⟩ := lt_9 hf
    refine jnF (τ := (Int32) × (Heap) × (List Loc) × (Array Slot)) (fun pc st z => W p l e _ s m _ below meth c z.2.1 z.2.2.1 0 0 _ (F0 m pc z.2.2.2 st)) (pc0 := 65) (st0 := [.int y2, .ref (ad 4 0)]) (z0 := (0, H, _, ls)) 80 (fun z => [.int z.1, .ref (ad 4 0)]) (fun z => va_P (dC, dI) kCl (w9 ad ca dom (σ)) z.2.1 ∧ va_D A (w9 ad ca dom (σ)) ∧ va_S A s.heap z.2.1 z.2.2.1 ∧ lv_has z.2.2.2 7 [(6, .int s4), (5, .int y2), (0, .ref (ad 4 0)), (1, .int a1), (2, .int a2), (3, .int a3), (4, .int a4)]) (fun z => x17 z.1) (ρ, σ') ?_ ?_
    · intro hJx17
      dsimp only at hJx17 ⊢
      refine lv_if_ne (pc := 65) (tgt := 78) hx hb dM_put_65 rfl (fun h19 => ?_) (fun h19 => ?_)
      · replace hf := ite_f h19 hf
        refine lv_iload (pc := 78) hx hb dM_put_78 (lv_at hl 1 rfl) ?_
        have hl := lv_sub hl (l' := [(6, .int s4), (5, .int y2), (0, .ref (ad 4 0)), (1, .int a1), (2, .int a2), (3, .int a3), (4, .int a4)]) [0, 1, 2, 3, 4, 5, 6] rfl
        exact hJx17 (y2, H, _, ls) ⟨hP, hD, hS, hl⟩ hf
      · replace hf := ite_t h19 hf
        refine lv_iload (pc := 68) hx hb dM_put_68 (lv_at hl 0 rfl) ?_
        refine lv_if_ne (pc := 70) (tgt := 78) hx hb dM_put_70 rfl (fun h20 => ?_) (fun h20 => ?_)
        · replace hf := ite_f h20 hf
          refine lv_iload (pc := 78) hx hb dM_put_78 (lv_at hl 1 rfl) ?_
          have hl := lv_sub hl (l' := [(6, .int s4), (5, .int y2), (0, .ref (ad 4 0)), (1, .int a1), (2, .int a2), (3, .int a3), (4, .int a4)]) [0, 1, 2, 3, 4, 5, 6] rfl
          exact hJx17 (y2, H, _, ls) ⟨hP, hD, hS, hl⟩ hf
        · replace hf := ite_t h20 hf
          refine lv_bipush (pc := 73) (v := 7) hx hb dM_put_73 (by decide) ?_
          refine lv_goto (pc := 75) (tgt := 80) hx hb dM_put_75 rfl ?_
          have hl := lv_sub hl (l' := [(6, .int s4), (5, .int y2), (0, .ref (ad 4 0)), (1, .int a1), (2, .int a2), (3, .int a3), (4, .int a4)]) [0, 1, 2, 3, 4, 5, 6] rfl
          exact hJx17 (7, H, _, ls) ⟨hP, hD, hS, hl⟩ hf
    · rintro ⟨s18, H, locs, ls⟩ ⟨hP, hD, hS, hl⟩ hf
      dsimp only at hP hD hS hl hf ⊢
      rw [hx17] at hf
      have hl : lv_has ls 7 [(6, .int s4), (5, .int y2), (0, .ref (ad 4 0)), (1, .int a1), (2, .int a2), (3, .int a3), (4, .int a4)] := hl
      obtain ⟨q21, hq21, eq21⟩ := at_4 (ad := ad) (ca := ca) (σ := σ) hm0
      obtain ⟨⟨y22, σ23⟩, hy22, hf⟩ := ob hf
      have hFc := w9_free hD hS hA
      refine va_calli (pc := 80) (va_runV (As := [.int s18]) (rest := []) ⟨hx, hb, hml, hown, hts⟩ (t_M_mayHere l dC dI ad ca dom H.size σ s18 hm0 hN hC y22 σ23 hy22) (cwV 1 hts (gV wd_167 wd_168 wd_169 wd_50 wd_166) rfl rfl rfl (by decide +kernel) ⟨Nat.le_of_ble_eq_true rfl, Nat.le_of_ble_eq_true rfl⟩) ⟨hW_blind, va_recv (q := (RM, TM, 11)) (q0 := q21) (ci := 4) hK.1 hP rfl eq21, hW_pre hP hK hD hG⟩ rfl rfl hl.1 rfl (lv_room (Nat.le_of_ble_eq_true rfl)) dM_put_80 ⟨Nat.le_of_ble_eq_true rfl, Nat.le_of_ble_eq_true rfl⟩) hS (fun q _ h => hFc q h) hFc (fun r9 u t H1 locs ht hvm hr9 hB hz1 hk1 hS => ?_)
      obtain ⟨hP, hD, hC⟩ := hB
      rw [ht] at hP
      replace hD := hD.weaken (fun _ _ _ h => hFc _ h)
      generalize H1 = H at hP hS ⊢
      refine W.eq (g2 := F0 m 83 ls [.int y22]) (by rw [hr9]) ?_
      refine lv_if_ne (pc := 83) (tgt := 88) hx hb dM_put_83 rfl (fun h24 => ?_) (fun h24 => ?_)
      · replace hf := ite_f h24 hf
        refine lv_aload_n (pc := 88) hx hb dM_put_88 rfl (lv_at hl 2 rfl) ?_
        obtain ⟨q25, hq25, eq25⟩ := at_4 (ad := ad) (ca := ca) (σ := σ23) hm0
        refine va_get (D := (dC, dI)) (cl := kCl) (C := RM) (T := TM) (N := 11) (pc := 89) hx hb hts inM hown hK.1 hP q25 eq25 rfl 2 (by decide) (hts _ wd_51) (fun _ h9 => h9) rfl dM_put_89 ?_
        refine lv_aload_n (pc := 92) hx hb dM_put_92 rfl (lv_at hl 2 rfl) ?_
        refine lv_iload_n (pc := 93) hx hb dM_put_93 rfl (lv_at hl 3 rfl) ?_
        obtain ⟨q26, hq26, eq26⟩ := at_4 (ad := ad) (ca := ca) (σ := σ23) hm0
        refine vp_callSi (pc := 94) (W.runV (As := [.int a1]) (rest := [.ref (ad 15 0)]) ⟨hx, hb, hml, hown, hts⟩ (t_M_drawingAt l dC dI ad ca dom a1 hm0 σ23 hN hC (M_drawingAt a1) rfl) (cwV 1 hts (gV wd_53 wd_54 wd_55 wd_50 wd_52) rfl rfl rfl (by decide +kernel) ⟨Nat.le_of_ble_eq_true rfl, Nat.le_of_ble_eq_true rfl⟩) ⟨hR_blind, va_recv (q := (RM, TM, 11)) (q0 := q26) (ci := 4) hK.1 hP rfl eq26, hR_pre hP hK hG⟩ rfl rfl hl.1 rfl (lv_room (Nat.le_of_ble_eq_true rfl)) dM_put_94 ⟨Nat.le_of_ble_eq_true rfl, Nat.le_of_ble_eq_true rfl⟩) (fun r9 hr9 => ?_)
        refine W.eq (g2 := F0 m 97 ls [.int (M_drawingAt a1), .ref (ad 15 0)]) (by rw [hr9]) ?_
        refine lv_bipush (pc := 97) (v := 16) hx hb dM_put_97 (by decide) ?_
        refine lv_iadd (pc := 99) hx hb dM_put_99 ?_
        refine lv_iload_n (pc := 100) hx hb dM_put_100 rfl (lv_at hl 5 rfl) ?_
        refine lv_iadd (pc := 101) hx hb dM_put_101 ?_
        refine lv_iload (pc := 102) hx hb dM_put_102 (lv_at hl 6 rfl) ?_
        obtain ⟨hv28, hf⟩ := ite_s hf
        obtain ⟨q29, hq29, eq29⟩ := at_15 (ad := ad) (ca := ca) (σ := σ23) (cm_4_2 hC hm0)
        refine va_iast (D := (dC, dI)) (cl := kCl) (pc := 104) hx hb (hK.2 15 0 .int (cm_4_2 hC hm0) rfl) hP hD hS q29 0 eq29 rfl (hv28) dM_put_104 (fun H locs hP hD hS => ?_)
        obtain ⟨σ27, hσ27, hf⟩ := lt_9 hf
        obtain ⟨hP, hD⟩ := w9_rI 15 rfl hN hq29 hσ27 (pr_15) hP hD
        have hC : clo dom σ27.2.2 := by rw [hσ27]; exact hC
        refine lv_iconst (pc := 105) (v := 1) hx hb dM_put_105 (by decide) ?_
        obtain ⟨h8, h9⟩ := Prod.mk.inj (Option.some.inj hf)
        subst h9
        exact W.zret (pc := 106) hx hb hr (rfl) (fun t ht hW => ⟨⟨_, (), rfl, h8, by rw [ht]; exact hP, hD, hC⟩, hS.F ht⟩) hS.2.2 dM_put_106
      · replace hf := ite_t h24 hf
        refine lv_iconst (pc := 86) (v := 0) hx hb dM_put_86 (by decide) ?_
        obtain ⟨h8, h9⟩ := Prod.mk.inj (Option.some.inj hf)
        subst h9
        exact W.zret (pc := 87) hx hb hr (rfl) (fun t ht hW => ⟨⟨_, (), rfl, h8, by rw [ht]; exact hP, hD, hC⟩, hS.F ht⟩) hS.2.2 dM_put_87
