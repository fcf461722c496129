abbrev cM_thrown : ByteArray := prog_9_method_2_code
abbrev yM_thrown : MethodName := ⟨"DrawingVaultModel", "thrown", "()I"⟩
theorem dM_thrown_0 : decode cM_thrown 0 = .ok (.aload_n 0, 1) := by decide +kernel
theorem dM_thrown_1 : decode cM_thrown 1 = .ok (.getfield 33, 3) := by decide +kernel
theorem dM_thrown_4 : decode cM_thrown 4 = .ok (.ireturn, 1) := by decide +kernel
abbrev cM_isPerson : ByteArray := prog_9_method_4_code
abbrev yM_isPerson : MethodName := ⟨"DrawingVaultModel", "isPerson", "(I)Z"⟩
theorem dM_isPerson_0 : decode cM_isPerson 0 = .ok (.iload_n 1, 1) := by decide +kernel
theorem dM_isPerson_1 : decode cM_isPerson 1 = .ok (.ifCond .lt 13, 3) := by decide +kernel
theorem dM_isPerson_4 : decode cM_isPerson 4 = .ok (.iload_n 1, 1) := by decide +kernel
theorem dM_isPerson_5 : decode cM_isPerson 5 = .ok (.bipush 16, 2) := by decide +kernel
theorem dM_isPerson_7 : decode cM_isPerson 7 = .ok (.if_icmp .ge 7, 3) := by decide +kernel
theorem dM_isPerson_10 : decode cM_isPerson 10 = .ok (.iconst 1, 1) := by decide +kernel
theorem dM_isPerson_11 : decode cM_isPerson 11 = .ok (.goto 4, 3) := by decide +kernel
theorem dM_isPerson_14 : decode cM_isPerson 14 = .ok (.iconst 0, 1) := by decide +kernel
theorem dM_isPerson_15 : decode cM_isPerson 15 = .ok (.ireturn, 1) := by decide +kernel
abbrev cM_rights : ByteArray := prog_9_method_5_code
abbrev yM_rights : MethodName := ⟨"DrawingVaultModel", "rights", "(I)I"⟩
theorem dM_rights_0 : decode cM_rights 0 = .ok (.aload_n 0, 1) := by decide +kernel
theorem dM_rights_1 : decode cM_rights 1 = .ok (.iload_n 1, 1) := by decide +kernel
theorem dM_rights_2 : decode cM_rights 2 = .ok (.invokevirtual 36, 3) := by decide +kernel
theorem dM_rights_5 : decode cM_rights 5 = .ok (.ifCond .eq 12, 3) := by decide +kernel
theorem dM_rights_8 : decode cM_rights 8 = .ok (.aload_n 0, 1) := by decide +kernel
theorem dM_rights_9 : decode cM_rights 9 = .ok (.getfield 7, 3) := by decide +kernel
theorem dM_rights_12 : decode cM_rights 12 = .ok (.iload_n 1, 1) := by decide +kernel
theorem dM_rights_13 : decode cM_rights 13 = .ok (.iaload, 1) := by decide +kernel
theorem dM_rights_14 : decode cM_rights 14 = .ok (.goto 4, 3) := by decide +kernel
theorem dM_rights_17 : decode cM_rights 17 = .ok (.iconst 0, 1) := by decide +kernel
theorem dM_rights_18 : decode cM_rights 18 = .ok (.ireturn, 1) := by decide +kernel
abbrev cM_isDrawing : ByteArray := prog_9_method_6_code
abbrev yM_isDrawing : MethodName := ⟨"DrawingVaultModel", "isDrawing", "(I)Z"⟩
theorem dM_isDrawing_0 : decode cM_isDrawing 0 = .ok (.iload_n 1, 1) := by decide +kernel
theorem dM_isDrawing_1 : decode cM_isDrawing 1 = .ok (.ifCond .lt 18, 3) := by decide +kernel
theorem dM_isDrawing_4 : decode cM_isDrawing 4 = .ok (.iload_n 1, 1) := by decide +kernel
theorem dM_isDrawing_5 : decode cM_isDrawing 5 = .ok (.aload_n 0, 1) := by decide +kernel
theorem dM_isDrawing_6 : decode cM_isDrawing 6 = .ok (.getfield 7, 3) := by decide +kernel
theorem dM_isDrawing_9 : decode cM_isDrawing 9 = .ok (.bipush 16, 2) := by decide +kernel
theorem dM_isDrawing_11 : decode cM_isDrawing 11 = .ok (.iaload, 1) := by decide +kernel
theorem dM_isDrawing_12 : decode cM_isDrawing 12 = .ok (.if_icmp .ge 7, 3) := by decide +kernel
theorem dM_isDrawing_19 : decode cM_isDrawing 19 = .ok (.iconst 0, 1) := by decide +kernel
theorem dM_isDrawing_20 : decode cM_isDrawing 20 = .ok (.ireturn, 1) := by decide +kernel
abbrev cM_isRevision : ByteArray := prog_9_method_9_code
abbrev yM_isRevision : MethodName := ⟨"DrawingVaultModel", "isRevision", "(II)Z"⟩
theorem dM_isRevision_0 : decode cM_isRevision 0 = .ok (.aload_n 0, 1) := by decide +kernel
theorem dM_isRevision_1 : decode cM_isRevision 1 = .ok (.iload_n 1, 1) := by decide +kernel
theorem dM_isRevision_2 : decode cM_isRevision 2 = .ok (.invokevirtual 44, 3) := by decide +kernel
theorem dM_isRevision_5 : decode cM_isRevision 5 = .ok (.ifCond .eq 20, 3) := by decide +kernel
theorem dM_isRevision_25 : decode cM_isRevision 25 = .ok (.iconst 0, 1) := by decide +kernel
theorem dM_isRevision_26 : decode cM_isRevision 26 = .ok (.ireturn, 1) := by decide +kernel
abbrev cM_baselineAt : ByteArray := prog_9_method_27_code
abbrev yM_baselineAt : MethodName := ⟨"DrawingVaultModel", "baselineAt", "(I)I"⟩
theorem dM_baselineAt_0 : decode cM_baselineAt 0 = .ok (.sipush 24980, 3) := by decide +kernel
theorem dM_baselineAt_3 : decode cM_baselineAt 3 = .ok (.bipush 26, 2) := by decide +kernel
theorem dM_baselineAt_5 : decode cM_baselineAt 5 = .ok (.iload_n 1, 1) := by decide +kernel
theorem dM_baselineAt_6 : decode cM_baselineAt 6 = .ok (.imul, 1) := by decide +kernel
theorem dM_baselineAt_7 : decode cM_baselineAt 7 = .ok (.iadd, 1) := by decide +kernel
theorem dM_baselineAt_8 : decode cM_baselineAt 8 = .ok (.ireturn, 1) := by decide +kernel
abbrev cM_parts : ByteArray := prog_9_method_19_code
abbrev yM_parts : MethodName := ⟨"DrawingVaultModel", "parts", "(I)I"⟩
theorem dM_parts_0 : decode cM_parts 0 = .ok (.iload_n 0, 1) := by decide +kernel
theorem dM_parts_1 : decode cM_parts 1 = .ok (.bipush 7, 2) := by decide +kernel
theorem dM_parts_3 : decode cM_parts 3 = .ok (.iadd, 1) := by decide +kernel
theorem dM_parts_4 : decode cM_parts 4 = .ok (.bipush 8, 2) := by decide +kernel
theorem dM_parts_6 : decode cM_parts 6 = .ok (.idiv, 1) := by decide +kernel
theorem dM_parts_7 : decode cM_parts 7 = .ok (.ireturn, 1) := by decide +kernel
abbrev cM_least : ByteArray := prog_9_method_26_code
abbrev yM_least : MethodName := ⟨"DrawingVaultModel", "least", "(ZII)I"⟩
theorem dM_least_0 : decode cM_least 0 = .ok (.iload_n 0, 1) := by decide +kernel
theorem dM_least_1 : decode cM_least 1 = .ok (.ifCond .eq 16, 3) := by decide +kernel
theorem dM_least_4 : decode cM_least 4 = .ok (.iload_n 2, 1) := by decide +kernel
theorem dM_least_5 : decode cM_least 5 = .ok (.ifCond .eq 8, 3) := by decide +kernel
theorem dM_least_8 : decode cM_least 8 = .ok (.iload_n 1, 1) := by decide +kernel
theorem dM_least_9 : decode cM_least 9 = .ok (.iload_n 2, 1) := by decide +kernel
theorem dM_least_10 : decode cM_least 10 = .ok (.if_icmp .ge 7, 3) := by decide +kernel
theorem dM_least_13 : decode cM_least 13 = .ok (.iload_n 1, 1) := by decide +kernel
theorem dM_least_14 : decode cM_least 14 = .ok (.goto 4, 3) := by decide +kernel
theorem dM_least_17 : decode cM_least 17 = .ok (.iload_n 2, 1) := by decide +kernel
theorem dM_least_18 : decode cM_least 18 = .ok (.ireturn, 1) := by decide +kernel
abbrev cM_allRevisions : ByteArray := prog_9_method_18_code
abbrev yM_allRevisions : MethodName := ⟨"DrawingVaultModel", "allRevisions", "()I"⟩
theorem dM_allRevisions_0 : decode cM_allRevisions 0 = .ok (.iconst 0, 1) := by decide +kernel
theorem dM_allRevisions_1 : decode cM_allRevisions 1 = .ok (.istore_n 1, 1) := by decide +kernel
theorem dM_allRevisions_2 : decode cM_allRevisions 2 = .ok (.iconst 0, 1) := by decide +kernel
theorem dM_allRevisions_3 : decode cM_allRevisions 3 = .ok (.istore_n 2, 1) := by decide +kernel
theorem dM_allRevisions_4 : decode cM_allRevisions 4 = .ok (.iload_n 2, 1) := by decide +kernel
theorem dM_allRevisions_5 : decode cM_allRevisions 5 = .ok (.aload_n 0, 1) := by decide +kernel
theorem dM_allRevisions_6 : decode cM_allRevisions 6 = .ok (.getfield 7, 3) := by decide +kernel
theorem dM_allRevisions_9 : decode cM_allRevisions 9 = .ok (.bipush 16, 2) := by decide +kernel
theorem dM_allRevisions_11 : decode cM_allRevisions 11 = .ok (.iaload, 1) := by decide +kernel
theorem dM_allRevisions_12 : decode cM_allRevisions 12 = .ok (.if_icmp .ge 17, 3) := by decide +kernel
theorem dM_allRevisions_29 : decode cM_allRevisions 29 = .ok (.iload_n 1, 1) := by decide +kernel
theorem dM_allRevisions_30 : decode cM_allRevisions 30 = .ok (.ireturn, 1) := by decide +kernel
abbrev cM_may : ByteArray := prog_9_method_29_code
abbrev yM_may : MethodName := ⟨"DrawingVaultModel", "may", "(II)Z"⟩
theorem dM_may_0 : decode cM_may 0 = .ok (.iload_n 1, 1) := by decide +kernel
theorem dM_may_1 : decode cM_may 1 = .ok (.ifCond .ne 19, 3) := by decide +kernel
theorem dM_may_20 : decode cM_may 20 = .ok (.iload_n 1, 1) := by decide +kernel
theorem dM_may_21 : decode cM_may 21 = .ok (.istore_n 3, 1) := by decide +kernel
theorem dM_may_22 : decode cM_may 22 = .ok (.aload_n 0, 1) := by decide +kernel
theorem dM_may_23 : decode cM_may 23 = .ok (.aload_n 0, 1) := by decide +kernel
theorem dM_may_24 : decode cM_may 24 = .ok (.getfield 102, 3) := by decide +kernel
theorem dM_may_27 : decode cM_may 27 = .ok (.ifCond .eq 7, 3) := by decide +kernel
theorem dM_may_34 : decode cM_may 34 = .ok (.iconst 0, 1) := by decide +kernel
theorem dM_may_35 : decode cM_may 35 = .ok (.putfield 33, 3) := by decide +kernel
theorem dM_may_38 : decode cM_may 38 = .ok (.aload_n 0, 1) := by decide +kernel
theorem dM_may_39 : decode cM_may 39 = .ok (.getfield 102, 3) := by decide +kernel
theorem dM_may_42 : decode cM_may 42 = .ok (.ifCond .eq 5, 3) := by decide +kernel
theorem dM_may_47 : decode cM_may 47 = .ok (.iload_n 3, 1) := by decide +kernel
theorem dM_may_48 : decode cM_may 48 = .ok (.ifCond .ne 31, 3) := by decide +kernel
theorem dM_may_79 : decode cM_may 79 = .ok (.aload_n 0, 1) := by decide +kernel
theorem dM_may_80 : decode cM_may 80 = .ok (.iload_n 3, 1) := by decide +kernel
theorem dM_may_81 : decode cM_may 81 = .ok (.putfield 106, 3) := by decide +kernel
theorem dM_may_84 : decode cM_may 84 = .ok (.iload_n 3, 1) := by decide +kernel
theorem dM_may_85 : decode cM_may 85 = .ok (.ifCond .le 5, 3) := by decide +kernel
theorem dM_may_88 : decode cM_may 88 = .ok (.iconst 0, 1) := by decide +kernel
theorem dM_may_89 : decode cM_may 89 = .ok (.ireturn, 1) := by decide +kernel
abbrev cM_mayHere : ByteArray := prog_9_method_38_code
abbrev yM_mayHere : MethodName := ⟨"DrawingVaultModel", "mayHere", "(I)Z"⟩
theorem dM_mayHere_0 : decode cM_mayHere 0 = .ok (.aload_n 0, 1) := by decide +kernel
theorem dM_mayHere_1 : decode cM_mayHere 1 = .ok (.aload_n 0, 1) := by decide +kernel
theorem dM_mayHere_2 : decode cM_mayHere 2 = .ok (.getfield 102, 3) := by decide +kernel
theorem dM_mayHere_5 : decode cM_mayHere 5 = .ok (.ifCond .eq 7, 3) := by decide +kernel
theorem dM_mayHere_12 : decode cM_mayHere 12 = .ok (.iconst 0, 1) := by decide +kernel
theorem dM_mayHere_13 : decode cM_mayHere 13 = .ok (.putfield 33, 3) := by decide +kernel
theorem dM_mayHere_16 : decode cM_mayHere 16 = .ok (.aload_n 0, 1) := by decide +kernel
theorem dM_mayHere_17 : decode cM_mayHere 17 = .ok (.getfield 102, 3) := by decide +kernel
theorem dM_mayHere_20 : decode cM_mayHere 20 = .ok (.ifCond .eq 5, 3) := by decide +kernel
theorem dM_mayHere_25 : decode cM_mayHere 25 = .ok (.aload_n 0, 1) := by decide +kernel
theorem dM_mayHere_26 : decode cM_mayHere 26 = .ok (.iload_n 1, 1) := by decide +kernel
theorem dM_mayHere_27 : decode cM_mayHere 27 = .ok (.putfield 106, 3) := by decide +kernel
theorem dM_mayHere_30 : decode cM_mayHere 30 = .ok (.iload_n 1, 1) := by decide +kernel
theorem dM_mayHere_31 : decode cM_mayHere 31 = .ok (.ifCond .ne 7, 3) := by decide +kernel
theorem dM_mayHere_38 : decode cM_mayHere 38 = .ok (.iconst 0, 1) := by decide +kernel
theorem dM_mayHere_39 : decode cM_mayHere 39 = .ok (.ireturn, 1) := by decide +kernel
abbrev cM_whyNot : ByteArray := prog_9_method_36_code
abbrev yM_whyNot : MethodName := ⟨"DrawingVaultModel", "whyNot", "(II)I"⟩
theorem dM_whyNot_0 : decode cM_whyNot 0 = .ok (.aload_n 0, 1) := by decide +kernel
theorem dM_whyNot_1 : decode cM_whyNot 1 = .ok (.iload_n 1, 1) := by decide +kernel
theorem dM_whyNot_2 : decode cM_whyNot 2 = .ok (.invokevirtual 44, 3) := by decide +kernel
theorem dM_whyNot_5 : decode cM_whyNot 5 = .ok (.istore_n 3, 1) := by decide +kernel
theorem dM_whyNot_6 : decode cM_whyNot 6 = .ok (.aload_n 0, 1) := by decide +kernel
theorem dM_whyNot_7 : decode cM_whyNot 7 = .ok (.iload_n 2, 1) := by decide +kernel
theorem dM_whyNot_8 : decode cM_whyNot 8 = .ok (.invokevirtual 118, 3) := by decide +kernel
theorem dM_whyNot_11 : decode cM_whyNot 11 = .ok (.ifCond .ne 7, 3) := by decide +kernel
theorem dM_whyNot_14 : decode cM_whyNot 14 = .ok (.iconst 1, 1) := by decide +kernel
theorem dM_whyNot_15 : decode cM_whyNot 15 = .ok (.goto 4, 3) := by decide +kernel
theorem dM_whyNot_19 : decode cM_whyNot 19 = .ok (.iconst 1, 1) := by decide +kernel
theorem dM_whyNot_20 : decode cM_whyNot 20 = .ok (.iload_n 3, 1) := by decide +kernel
theorem dM_whyNot_21 : decode cM_whyNot 21 = .ok (.ifCond .ne 7, 3) := by decide +kernel
theorem dM_whyNot_24 : decode cM_whyNot 24 = .ok (.iconst 1, 1) := by decide +kernel
theorem dM_whyNot_25 : decode cM_whyNot 25 = .ok (.goto 4, 3) := by decide +kernel
theorem dM_whyNot_29 : decode cM_whyNot 29 = .ok (.bipush 7, 2) := by decide +kernel
theorem dM_whyNot_31 : decode cM_whyNot 31 = .ok (.iload_n 3, 1) := by decide +kernel
theorem dM_whyNot_32 : decode cM_whyNot 32 = .ok (.ifCond .eq 24, 3) := by decide +kernel
theorem dM_whyNot_56 : decode cM_whyNot 56 = .ok (.iconst 0, 1) := by decide +kernel
theorem dM_whyNot_57 : decode cM_whyNot 57 = .ok (.iconst 2, 1) := by decide +kernel
theorem dM_whyNot_58 : decode cM_whyNot 58 = .ok (.iconst 0, 1) := by decide +kernel
theorem dM_whyNot_59 : decode cM_whyNot 59 = .ok (.invokestatic 121, 3) := by decide +kernel
theorem dM_whyNot_62 : decode cM_whyNot 62 = .ok (.invokestatic 121, 3) := by decide +kernel
theorem dM_whyNot_65 : decode cM_whyNot 65 = .ok (.invokestatic 121, 3) := by decide +kernel
theorem dM_whyNot_68 : decode cM_whyNot 68 = .ok (.ireturn, 1) := by decide +kernel
abbrev cM_whyNotRevision : ByteArray := prog_9_method_49_code
abbrev yM_whyNotRevision : MethodName := ⟨"DrawingVaultModel", "whyNotRevision", "(IIII)I"⟩
theorem dM_whyNotRevision_0 : decode cM_whyNotRevision 0 = .ok (.aload_n 0, 1) := by decide +kernel
theorem dM_whyNotRevision_1 : decode cM_whyNotRevision 1 = .ok (.iload_n 3, 1) := by decide +kernel
theorem dM_whyNotRevision_2 : decode cM_whyNotRevision 2 = .ok (.invokevirtual 118, 3) := by decide +kernel
theorem dM_whyNotRevision_5 : decode cM_whyNotRevision 5 = .ok (.iload 4, 2) := by decide +kernel
theorem dM_whyNotRevision_7 : decode cM_whyNotRevision 7 = .ok (.iand, 1) := by decide +kernel
theorem dM_whyNotRevision_8 : decode cM_whyNotRevision 8 = .ok (.ifCond .ne 7, 3) := by decide +kernel
theorem dM_whyNotRevision_11 : decode cM_whyNotRevision 11 = .ok (.iconst 1, 1) := by decide +kernel
theorem dM_whyNotRevision_12 : decode cM_whyNotRevision 12 = .ok (.goto 4, 3) := by decide +kernel
theorem dM_whyNotRevision_16 : decode cM_whyNotRevision 16 = .ok (.iconst 1, 1) := by decide +kernel
theorem dM_whyNotRevision_17 : decode cM_whyNotRevision 17 = .ok (.aload_n 0, 1) := by decide +kernel
theorem dM_whyNotRevision_18 : decode cM_whyNotRevision 18 = .ok (.iload_n 1, 1) := by decide +kernel
theorem dM_whyNotRevision_19 : decode cM_whyNotRevision 19 = .ok (.iload_n 2, 1) := by decide +kernel
theorem dM_whyNotRevision_20 : decode cM_whyNotRevision 20 = .ok (.invokevirtual 79, 3) := by decide +kernel
theorem dM_whyNotRevision_23 : decode cM_whyNotRevision 23 = .ok (.ifCond .ne 7, 3) := by decide +kernel
theorem dM_whyNotRevision_26 : decode cM_whyNotRevision 26 = .ok (.iconst 1, 1) := by decide +kernel
theorem dM_whyNotRevision_27 : decode cM_whyNotRevision 27 = .ok (.goto 4, 3) := by decide +kernel
theorem dM_whyNotRevision_31 : decode cM_whyNotRevision 31 = .ok (.bipush 7, 2) := by decide +kernel
theorem dM_whyNotRevision_33 : decode cM_whyNotRevision 33 = .ok (.iconst 0, 1) := by decide +kernel
theorem dM_whyNotRevision_34 : decode cM_whyNotRevision 34 = .ok (.invokestatic 121, 3) := by decide +kernel
theorem dM_whyNotRevision_37 : decode cM_whyNotRevision 37 = .ok (.invokestatic 121, 3) := by decide +kernel
theorem dM_whyNotRevision_40 : decode cM_whyNotRevision 40 = .ok (.ireturn, 1) := by decide +kernel
abbrev cM_drawing : ByteArray := prog_9_method_33_code
abbrev yM_drawing : MethodName := ⟨"DrawingVaultModel", "drawing", "(I)I"⟩
theorem dM_drawing_0 : decode cM_drawing 0 = .ok (.aload_n 0, 1) := by decide +kernel
theorem dM_drawing_1 : decode cM_drawing 1 = .ok (.iload_n 1, 1) := by decide +kernel
theorem dM_drawing_2 : decode cM_drawing 2 = .ok (.invokevirtual 118, 3) := by decide +kernel
theorem dM_drawing_5 : decode cM_drawing 5 = .ok (.iconst 1, 1) := by decide +kernel
theorem dM_drawing_6 : decode cM_drawing 6 = .ok (.iand, 1) := by decide +kernel
theorem dM_drawing_7 : decode cM_drawing 7 = .ok (.ifCond .ne 7, 3) := by decide +kernel
theorem dM_drawing_10 : decode cM_drawing 10 = .ok (.iconst 1, 1) := by decide +kernel
theorem dM_drawing_11 : decode cM_drawing 11 = .ok (.goto 4, 3) := by decide +kernel
theorem dM_drawing_15 : decode cM_drawing 15 = .ok (.iconst 1, 1) := by decide +kernel
theorem dM_drawing_16 : decode cM_drawing 16 = .ok (.aload_n 0, 1) := by decide +kernel
theorem dM_drawing_17 : decode cM_drawing 17 = .ok (.getfield 7, 3) := by decide +kernel
theorem dM_drawing_20 : decode cM_drawing 20 = .ok (.bipush 16, 2) := by decide +kernel
theorem dM_drawing_22 : decode cM_drawing 22 = .ok (.iaload, 1) := by decide +kernel
theorem dM_drawing_23 : decode cM_drawing 23 = .ok (.bipush 24, 2) := by decide +kernel
theorem dM_drawing_25 : decode cM_drawing 25 = .ok (.if_icmp .eq 12, 3) := by decide +kernel
theorem dM_drawing_28 : decode cM_drawing 28 = .ok (.aload_n 0, 1) := by decide +kernel
theorem dM_drawing_29 : decode cM_drawing 29 = .ok (.invokevirtual 92, 3) := by decide +kernel
theorem dM_drawing_32 : decode cM_drawing 32 = .ok (.bipush 100, 2) := by decide +kernel
theorem dM_drawing_34 : decode cM_drawing 34 = .ok (.if_icmp .ne 7, 3) := by decide +kernel
theorem dM_drawing_41 : decode cM_drawing 41 = .ok (.iconst 0, 1) := by decide +kernel
theorem dM_drawing_42 : decode cM_drawing 42 = .ok (.bipush 8, 2) := by decide +kernel
theorem dM_drawing_44 : decode cM_drawing 44 = .ok (.iconst 0, 1) := by decide +kernel
theorem dM_drawing_45 : decode cM_drawing 45 = .ok (.invokestatic 121, 3) := by decide +kernel
theorem dM_drawing_48 : decode cM_drawing 48 = .ok (.invokestatic 121, 3) := by decide +kernel
theorem dM_drawing_51 : decode cM_drawing 51 = .ok (.istore_n 2, 1) := by decide +kernel
theorem dM_drawing_52 : decode cM_drawing 52 = .ok (.aload_n 0, 1) := by decide +kernel
theorem dM_drawing_53 : decode cM_drawing 53 = .ok (.iload_n 2, 1) := by decide +kernel
theorem dM_drawing_54 : decode cM_drawing 54 = .ok (.iconst 2, 1) := by decide +kernel
theorem dM_drawing_55 : decode cM_drawing 55 = .ok (.invokevirtual 112, 3) := by decide +kernel
theorem dM_drawing_58 : decode cM_drawing 58 = .ok (.ifCond .ne 16, 3) := by decide +kernel
theorem dM_drawing_61 : decode cM_drawing 61 = .ok (.aload_n 0, 1) := by decide +kernel
theorem dM_drawing_62 : decode cM_drawing 62 = .ok (.getfield 33, 3) := by decide +kernel
theorem dM_drawing_65 : decode cM_drawing 65 = .ok (.ifCond .le 7, 3) := by decide +kernel
theorem dM_drawing_72 : decode cM_drawing 72 = .ok (.iconst (-1), 1) := by decide +kernel
theorem dM_drawing_73 : decode cM_drawing 73 = .ok (.ireturn, 1) := by decide +kernel
abbrev cM_out : ByteArray := prog_9_method_35_code
abbrev yM_out : MethodName := ⟨"DrawingVaultModel", "out", "(II)Z"⟩
theorem dM_out_0 : decode cM_out 0 = .ok (.aload_n 0, 1) := by decide +kernel
theorem dM_out_1 : decode cM_out 1 = .ok (.iload_n 1, 1) := by decide +kernel
theorem dM_out_2 : decode cM_out 2 = .ok (.invokevirtual 44, 3) := by decide +kernel
theorem dM_out_5 : decode cM_out 5 = .ok (.istore_n 3, 1) := by decide +kernel
theorem dM_out_6 : decode cM_out 6 = .ok (.aload_n 0, 1) := by decide +kernel
theorem dM_out_7 : decode cM_out 7 = .ok (.iload_n 2, 1) := by decide +kernel
theorem dM_out_8 : decode cM_out 8 = .ok (.invokevirtual 118, 3) := by decide +kernel
theorem dM_out_11 : decode cM_out 11 = .ok (.ifCond .ne 7, 3) := by decide +kernel
theorem dM_out_14 : decode cM_out 14 = .ok (.iconst 1, 1) := by decide +kernel
theorem dM_out_15 : decode cM_out 15 = .ok (.goto 4, 3) := by decide +kernel
theorem dM_out_19 : decode cM_out 19 = .ok (.iconst 1, 1) := by decide +kernel
theorem dM_out_20 : decode cM_out 20 = .ok (.iload_n 3, 1) := by decide +kernel
theorem dM_out_21 : decode cM_out 21 = .ok (.ifCond .ne 7, 3) := by decide +kernel
theorem dM_out_24 : decode cM_out 24 = .ok (.iconst 1, 1) := by decide +kernel
theorem dM_out_25 : decode cM_out 25 = .ok (.goto 4, 3) := by decide +kernel
theorem dM_out_29 : decode cM_out 29 = .ok (.bipush 7, 2) := by decide +kernel
theorem dM_out_31 : decode cM_out 31 = .ok (.iload_n 3, 1) := by decide +kernel
theorem dM_out_32 : decode cM_out 32 = .ok (.ifCond .eq 23, 3) := by decide +kernel
theorem dM_out_55 : decode cM_out 55 = .ok (.iconst 0, 1) := by decide +kernel
theorem dM_out_56 : decode cM_out 56 = .ok (.iconst 2, 1) := by decide +kernel
theorem dM_out_57 : decode cM_out 57 = .ok (.iconst 0, 1) := by decide +kernel
theorem dM_out_58 : decode cM_out 58 = .ok (.invokestatic 121, 3) := by decide +kernel
theorem dM_out_61 : decode cM_out 61 = .ok (.invokestatic 121, 3) := by decide +kernel
theorem dM_out_64 : decode cM_out 64 = .ok (.invokestatic 121, 3) := by decide +kernel
theorem dM_out_67 : decode cM_out 67 = .ok (.istore 4, 2) := by decide +kernel
theorem dM_out_69 : decode cM_out 69 = .ok (.aload_n 0, 1) := by decide +kernel
theorem dM_out_70 : decode cM_out 70 = .ok (.iload 4, 2) := by decide +kernel
theorem dM_out_72 : decode cM_out 72 = .ok (.iconst 1, 1) := by decide +kernel
theorem dM_out_73 : decode cM_out 73 = .ok (.invokevirtual 112, 3) := by decide +kernel
theorem dM_out_76 : decode cM_out 76 = .ok (.ifCond .ne 5, 3) := by decide +kernel
theorem dM_out_79 : decode cM_out 79 = .ok (.iconst 0, 1) := by decide +kernel
theorem dM_out_80 : decode cM_out 80 = .ok (.ireturn, 1) := by decide +kernel
abbrev cM_undo : ByteArray := prog_9_method_37_code
abbrev yM_undo : MethodName := ⟨"DrawingVaultModel", "undo", "(II)Z"⟩
theorem dM_undo_0 : decode cM_undo 0 = .ok (.aload_n 0, 1) := by decide +kernel
theorem dM_undo_1 : decode cM_undo 1 = .ok (.aload_n 0, 1) := by decide +kernel
theorem dM_undo_2 : decode cM_undo 2 = .ok (.iload_n 1, 1) := by decide +kernel
theorem dM_undo_3 : decode cM_undo 3 = .ok (.iload_n 2, 1) := by decide +kernel
theorem dM_undo_4 : decode cM_undo 4 = .ok (.invokevirtual 133, 3) := by decide +kernel
theorem dM_undo_7 : decode cM_undo 7 = .ok (.iconst 1, 1) := by decide +kernel
theorem dM_undo_8 : decode cM_undo 8 = .ok (.invokevirtual 112, 3) := by decide +kernel
theorem dM_undo_11 : decode cM_undo 11 = .ok (.ifCond .ne 5, 3) := by decide +kernel
theorem dM_undo_14 : decode cM_undo 14 = .ok (.iconst 0, 1) := by decide +kernel
theorem dM_undo_15 : decode cM_undo 15 = .ok (.ireturn, 1) := by decide +kernel
abbrev cM_put : ByteArray := prog_9_method_39_code
abbrev yM_put : MethodName := ⟨"DrawingVaultModel", "put", "(IIII)Z"⟩
theorem dM_put_0 : decode cM_put 0 = .ok (.aload_n 0, 1) := by decide +kernel
theorem dM_put_1 : decode cM_put 1 = .ok (.iload_n 1, 1) := by decide +kernel
theorem dM_put_2 : decode cM_put 2 = .ok (.iload_n 2, 1) := by decide +kernel
theorem dM_put_3 : decode cM_put 3 = .ok (.invokevirtual 133, 3) := by decide +kernel
theorem dM_put_6 : decode cM_put 6 = .ok (.istore 5, 2) := by decide +kernel
theorem dM_put_8 : decode cM_put 8 = .ok (.iload 5, 2) := by decide +kernel
theorem dM_put_10 : decode cM_put 10 = .ok (.ifCond .ne 49, 3) := by decide +kernel
theorem dM_put_59 : decode cM_put 59 = .ok (.iconst 0, 1) := by decide +kernel
theorem dM_put_60 : decode cM_put 60 = .ok (.istore 6, 2) := by decide +kernel
theorem dM_put_62 : decode cM_put 62 = .ok (.aload_n 0, 1) := by decide +kernel
theorem dM_put_63 : decode cM_put 63 = .ok (.iload 5, 2) := by decide +kernel
theorem dM_put_65 : decode cM_put 65 = .ok (.ifCond .ne 13, 3) := by decide +kernel
theorem dM_put_78 : decode cM_put 78 = .ok (.iload 5, 2) := by decide +kernel
theorem dM_put_80 : decode cM_put 80 = .ok (.invokevirtual 136, 3) := by decide +kernel
theorem dM_put_83 : decode cM_put 83 = .ok (.ifCond .ne 5, 3) := by decide +kernel
theorem dM_put_86 : decode cM_put 86 = .ok (.iconst 0, 1) := by decide +kernel
theorem dM_put_87 : decode cM_put 87 = .ok (.ireturn, 1) := by decide +kernel
abbrev cM_resize : ByteArray := prog_9_method_40_code
abbrev yM_resize : MethodName := ⟨"DrawingVaultModel", "resize", "(III)Z"⟩
theorem dM_resize_0 : decode cM_resize 0 = .ok (.aload_n 0, 1) := by decide +kernel
theorem dM_resize_1 : decode cM_resize 1 = .ok (.iload_n 1, 1) := by decide +kernel
theorem dM_resize_2 : decode cM_resize 2 = .ok (.iload_n 2, 1) := by decide +kernel
theorem dM_resize_3 : decode cM_resize 3 = .ok (.invokevirtual 133, 3) := by decide +kernel
theorem dM_resize_6 : decode cM_resize 6 = .ok (.istore 4, 2) := by decide +kernel
theorem dM_resize_8 : decode cM_resize 8 = .ok (.aload_n 0, 1) := by decide +kernel
theorem dM_resize_9 : decode cM_resize 9 = .ok (.iload 4, 2) := by decide +kernel
theorem dM_resize_11 : decode cM_resize 11 = .ok (.ifCond .ne 18, 3) := by decide +kernel
theorem dM_resize_29 : decode cM_resize 29 = .ok (.iload 4, 2) := by decide +kernel
theorem dM_resize_31 : decode cM_resize 31 = .ok (.invokevirtual 136, 3) := by decide +kernel
theorem dM_resize_34 : decode cM_resize 34 = .ok (.ifCond .ne 5, 3) := by decide +kernel
theorem dM_resize_37 : decode cM_resize 37 = .ok (.iconst 0, 1) := by decide +kernel
theorem dM_resize_38 : decode cM_resize 38 = .ok (.ireturn, 1) := by decide +kernel
abbrev cM_ref : ByteArray := prog_9_method_41_code
abbrev yM_ref : MethodName := ⟨"DrawingVaultModel", "ref", "(IIIII)Z"⟩
theorem dM_ref_0 : decode cM_ref 0 = .ok (.aload_n 0, 1) := by decide +kernel
theorem dM_ref_1 : decode cM_ref 1 = .ok (.iload_n 1, 1) := by decide +kernel
theorem dM_ref_2 : decode cM_ref 2 = .ok (.iload_n 2, 1) := by decide +kernel
theorem dM_ref_3 : decode cM_ref 3 = .ok (.invokevirtual 133, 3) := by decide +kernel
theorem dM_ref_6 : decode cM_ref 6 = .ok (.istore 6, 2) := by decide +kernel
theorem dM_ref_8 : decode cM_ref 8 = .ok (.iload 6, 2) := by decide +kernel
theorem dM_ref_10 : decode cM_ref 10 = .ok (.ifCond .ne 18, 3) := by decide +kernel
theorem dM_ref_28 : decode cM_ref 28 = .ok (.iconst 0, 1) := by decide +kernel
theorem dM_ref_29 : decode cM_ref 29 = .ok (.istore 7, 2) := by decide +kernel
theorem dM_ref_31 : decode cM_ref 31 = .ok (.iload_n 3, 1) := by decide +kernel
theorem dM_ref_32 : decode cM_ref 32 = .ok (.ifCond .lt 24, 3) := by decide +kernel
theorem dM_ref_35 : decode cM_ref 35 = .ok (.iload_n 3, 1) := by decide +kernel
theorem dM_ref_36 : decode cM_ref 36 = .ok (.iload 7, 2) := by decide +kernel
theorem dM_ref_38 : decode cM_ref 38 = .ok (.if_icmp .gt 18, 3) := by decide +kernel
theorem dM_ref_41 : decode cM_ref 41 = .ok (.aload_n 0, 1) := by decide +kernel
theorem dM_ref_42 : decode cM_ref 42 = .ok (.iload 4, 2) := by decide +kernel
theorem dM_ref_44 : decode cM_ref 44 = .ok (.invokevirtual 44, 3) := by decide +kernel
theorem dM_ref_47 : decode cM_ref 47 = .ok (.ifCond .eq 9, 3) := by decide +kernel
theorem dM_ref_56 : decode cM_ref 56 = .ok (.iconst 1, 1) := by decide +kernel
theorem dM_ref_57 : decode cM_ref 57 = .ok (.goto 4, 3) := by decide +kernel
theorem dM_ref_61 : decode cM_ref 61 = .ok (.istore 8, 2) := by decide +kernel
theorem dM_ref_63 : decode cM_ref 63 = .ok (.iload 6, 2) := by decide +kernel
theorem dM_ref_65 : decode cM_ref 65 = .ok (.ifCond .le 8, 3) := by decide +kernel
theorem dM_ref_68 : decode cM_ref 68 = .ok (.iload 6, 2) := by decide +kernel
theorem dM_ref_70 : decode cM_ref 70 = .ok (.goto 25, 3) := by decide +kernel
theorem dM_ref_95 : decode cM_ref 95 = .ok (.istore 9, 2) := by decide +kernel
theorem dM_ref_97 : decode cM_ref 97 = .ok (.aload_n 0, 1) := by decide +kernel
theorem dM_ref_98 : decode cM_ref 98 = .ok (.iload 9, 2) := by decide +kernel
theorem dM_ref_100 : decode cM_ref 100 = .ok (.invokevirtual 136, 3) := by decide +kernel
theorem dM_ref_103 : decode cM_ref 103 = .ok (.ifCond .ne 5, 3) := by decide +kernel
theorem dM_ref_106 : decode cM_ref 106 = .ok (.iconst 0, 1) := by decide +kernel
theorem dM_ref_107 : decode cM_ref 107 = .ok (.ireturn, 1) := by decide +kernel
abbrev cM_drop : ByteArray := prog_9_method_42_code
abbrev yM_drop : MethodName := ⟨"DrawingVaultModel", "drop", "(III)Z"⟩
theorem dM_drop_0 : decode cM_drop 0 = .ok (.aload_n 0, 1) := by decide +kernel
theorem dM_drop_1 : decode cM_drop 1 = .ok (.iload_n 1, 1) := by decide +kernel
theorem dM_drop_2 : decode cM_drop 2 = .ok (.iload_n 2, 1) := by decide +kernel
theorem dM_drop_3 : decode cM_drop 3 = .ok (.invokevirtual 133, 3) := by decide +kernel
theorem dM_drop_6 : decode cM_drop 6 = .ok (.istore 4, 2) := by decide +kernel
theorem dM_drop_8 : decode cM_drop 8 = .ok (.iload 4, 2) := by decide +kernel
theorem dM_drop_10 : decode cM_drop 10 = .ok (.ifCond .ne 36, 3) := by decide +kernel
theorem dM_drop_46 : decode cM_drop 46 = .ok (.iconst 0, 1) := by decide +kernel
theorem dM_drop_47 : decode cM_drop 47 = .ok (.istore 5, 2) := by decide +kernel
theorem dM_drop_49 : decode cM_drop 49 = .ok (.aload_n 0, 1) := by decide +kernel
theorem dM_drop_50 : decode cM_drop 50 = .ok (.iload 4, 2) := by decide +kernel
theorem dM_drop_52 : decode cM_drop 52 = .ok (.ifCond .ne 13, 3) := by decide +kernel
theorem dM_drop_65 : decode cM_drop 65 = .ok (.iload 4, 2) := by decide +kernel
theorem dM_drop_67 : decode cM_drop 67 = .ok (.invokevirtual 136, 3) := by decide +kernel
theorem dM_drop_70 : decode cM_drop 70 = .ok (.ifCond .ne 5, 3) := by decide +kernel
theorem dM_drop_73 : decode cM_drop 73 = .ok (.iconst 0, 1) := by decide +kernel
theorem dM_drop_74 : decode cM_drop 74 = .ok (.ireturn, 1) := by decide +kernel
abbrev cM_checkIn : ByteArray := prog_9_method_48_code
abbrev yM_checkIn : MethodName := ⟨"DrawingVaultModel", "checkIn", "(II)I"⟩
theorem dM_checkIn_0 : decode cM_checkIn 0 = .ok (.aload_n 0, 1) := by decide +kernel
theorem dM_checkIn_1 : decode cM_checkIn 1 = .ok (.iload_n 1, 1) := by decide +kernel
theorem dM_checkIn_2 : decode cM_checkIn 2 = .ok (.iload_n 2, 1) := by decide +kernel
theorem dM_checkIn_3 : decode cM_checkIn 3 = .ok (.invokevirtual 133, 3) := by decide +kernel
theorem dM_checkIn_6 : decode cM_checkIn 6 = .ok (.istore_n 3, 1) := by decide +kernel
theorem dM_checkIn_7 : decode cM_checkIn 7 = .ok (.iconst 2, 1) := by decide +kernel
theorem dM_checkIn_8 : decode cM_checkIn 8 = .ok (.istore 4, 2) := by decide +kernel
theorem dM_checkIn_10 : decode cM_checkIn 10 = .ok (.iload_n 3, 1) := by decide +kernel
theorem dM_checkIn_11 : decode cM_checkIn 11 = .ok (.ifCond .ne 72, 3) := by decide +kernel
theorem dM_checkIn_83 : decode cM_checkIn 83 = .ok (.aload_n 0, 1) := by decide +kernel
theorem dM_checkIn_84 : decode cM_checkIn 84 = .ok (.iload_n 3, 1) := by decide +kernel
theorem dM_checkIn_85 : decode cM_checkIn 85 = .ok (.iload 4, 2) := by decide +kernel
theorem dM_checkIn_87 : decode cM_checkIn 87 = .ok (.invokevirtual 112, 3) := by decide +kernel
theorem dM_checkIn_90 : decode cM_checkIn 90 = .ok (.ifCond .ne 16, 3) := by decide +kernel
theorem dM_checkIn_93 : decode cM_checkIn 93 = .ok (.aload_n 0, 1) := by decide +kernel
theorem dM_checkIn_94 : decode cM_checkIn 94 = .ok (.getfield 33, 3) := by decide +kernel
theorem dM_checkIn_97 : decode cM_checkIn 97 = .ok (.ifCond .le 7, 3) := by decide +kernel
theorem dM_checkIn_104 : decode cM_checkIn 104 = .ok (.iconst (-1), 1) := by decide +kernel
theorem dM_checkIn_105 : decode cM_checkIn 105 = .ok (.ireturn, 1) := by decide +kernel
abbrev cM_check : ByteArray := prog_9_method_50_code
abbrev yM_check : MethodName := ⟨"DrawingVaultModel", "check", "(III)Z"⟩
theorem dM_check_0 : decode cM_check 0 = .ok (.aload_n 0, 1) := by decide +kernel
theorem dM_check_1 : decode cM_check 1 = .ok (.iload_n 1, 1) := by decide +kernel
theorem dM_check_2 : decode cM_check 2 = .ok (.iload_n 2, 1) := by decide +kernel
theorem dM_check_3 : decode cM_check 3 = .ok (.iload_n 3, 1) := by decide +kernel
theorem dM_check_4 : decode cM_check 4 = .ok (.iconst 2, 1) := by decide +kernel
theorem dM_check_5 : decode cM_check 5 = .ok (.invokevirtual 157, 3) := by decide +kernel
theorem dM_check_8 : decode cM_check 8 = .ok (.istore 4, 2) := by decide +kernel
theorem dM_check_10 : decode cM_check 10 = .ok (.aload_n 0, 1) := by decide +kernel
theorem dM_check_11 : decode cM_check 11 = .ok (.iload_n 1, 1) := by decide +kernel
theorem dM_check_12 : decode cM_check 12 = .ok (.iload_n 2, 1) := by decide +kernel
theorem dM_check_13 : decode cM_check 13 = .ok (.invokevirtual 79, 3) := by decide +kernel
theorem dM_check_16 : decode cM_check 16 = .ok (.ifCond .eq 74, 3) := by decide +kernel
theorem dM_check_90 : decode cM_check 90 = .ok (.aload_n 0, 1) := by decide +kernel
theorem dM_check_91 : decode cM_check 91 = .ok (.iload 4, 2) := by decide +kernel
theorem dM_check_93 : decode cM_check 93 = .ok (.iconst 1, 1) := by decide +kernel
theorem dM_check_94 : decode cM_check 94 = .ok (.invokevirtual 112, 3) := by decide +kernel
theorem dM_check_97 : decode cM_check 97 = .ok (.ifCond .ne 5, 3) := by decide +kernel
theorem dM_check_100 : decode cM_check 100 = .ok (.iconst 0, 1) := by decide +kernel
theorem dM_check_101 : decode cM_check 101 = .ok (.ireturn, 1) := by decide +kernel
abbrev cM_release : ByteArray := prog_9_method_52_code
abbrev yM_release : MethodName := ⟨"DrawingVaultModel", "release", "(III)Z"⟩
theorem dM_release_0 : decode cM_release 0 = .ok (.aload_n 0, 1) := by decide +kernel
theorem dM_release_1 : decode cM_release 1 = .ok (.iload_n 1, 1) := by decide +kernel
theorem dM_release_2 : decode cM_release 2 = .ok (.iload_n 2, 1) := by decide +kernel
theorem dM_release_3 : decode cM_release 3 = .ok (.iload_n 3, 1) := by decide +kernel
theorem dM_release_4 : decode cM_release 4 = .ok (.iconst 4, 1) := by decide +kernel
theorem dM_release_5 : decode cM_release 5 = .ok (.invokevirtual 157, 3) := by decide +kernel
theorem dM_release_8 : decode cM_release 8 = .ok (.istore 4, 2) := by decide +kernel
theorem dM_release_10 : decode cM_release 10 = .ok (.aload_n 0, 1) := by decide +kernel
theorem dM_release_11 : decode cM_release 11 = .ok (.iload_n 1, 1) := by decide +kernel
theorem dM_release_12 : decode cM_release 12 = .ok (.iload_n 2, 1) := by decide +kernel
theorem dM_release_13 : decode cM_release 13 = .ok (.invokevirtual 79, 3) := by decide +kernel
theorem dM_release_16 : decode cM_release 16 = .ok (.ifCond .eq 44, 3) := by decide +kernel
theorem dM_release_60 : decode cM_release 60 = .ok (.aload_n 0, 1) := by decide +kernel
theorem dM_release_61 : decode cM_release 61 = .ok (.iload 4, 2) := by decide +kernel
theorem dM_release_63 : decode cM_release 63 = .ok (.iconst 1, 1) := by decide +kernel
theorem dM_release_64 : decode cM_release 64 = .ok (.invokevirtual 112, 3) := by decide +kernel
theorem dM_release_67 : decode cM_release 67 = .ok (.ifCond .ne 5, 3) := by decide +kernel
theorem dM_release_70 : decode cM_release 70 = .ok (.iconst 0, 1) := by decide +kernel
theorem dM_release_71 : decode cM_release 71 = .ok (.ireturn, 1) := by decide +kernel
abbrev cM_withdraw : ByteArray := prog_9_method_54_code
abbrev yM_withdraw : MethodName := ⟨"DrawingVaultModel", "withdraw", "(III)Z"⟩
theorem dM_withdraw_0 : decode cM_withdraw 0 = .ok (.aload_n 0, 1) := by decide +kernel
theorem dM_withdraw_1 : decode cM_withdraw 1 = .ok (.iload_n 1, 1) := by decide +kernel
theorem dM_withdraw_2 : decode cM_withdraw 2 = .ok (.iload_n 2, 1) := by decide +kernel
theorem dM_withdraw_3 : decode cM_withdraw 3 = .ok (.iload_n 3, 1) := by decide +kernel
theorem dM_withdraw_4 : decode cM_withdraw 4 = .ok (.iconst 4, 1) := by decide +kernel
theorem dM_withdraw_5 : decode cM_withdraw 5 = .ok (.invokevirtual 157, 3) := by decide +kernel
theorem dM_withdraw_8 : decode cM_withdraw 8 = .ok (.istore 4, 2) := by decide +kernel
theorem dM_withdraw_10 : decode cM_withdraw 10 = .ok (.aload_n 0, 1) := by decide +kernel
theorem dM_withdraw_11 : decode cM_withdraw 11 = .ok (.iload_n 1, 1) := by decide +kernel
theorem dM_withdraw_12 : decode cM_withdraw 12 = .ok (.iload_n 2, 1) := by decide +kernel
theorem dM_withdraw_13 : decode cM_withdraw 13 = .ok (.invokevirtual 79, 3) := by decide +kernel
theorem dM_withdraw_16 : decode cM_withdraw 16 = .ok (.ifCond .eq 40, 3) := by decide +kernel
theorem dM_withdraw_56 : decode cM_withdraw 56 = .ok (.aload_n 0, 1) := by decide +kernel
theorem dM_withdraw_57 : decode cM_withdraw 57 = .ok (.iload 4, 2) := by decide +kernel
theorem dM_withdraw_59 : decode cM_withdraw 59 = .ok (.iconst 1, 1) := by decide +kernel
theorem dM_withdraw_60 : decode cM_withdraw 60 = .ok (.invokevirtual 112, 3) := by decide +kernel
theorem dM_withdraw_63 : decode cM_withdraw 63 = .ok (.ifCond .ne 5, 3) := by decide +kernel
theorem dM_withdraw_66 : decode cM_withdraw 66 = .ok (.iconst 0, 1) := by decide +kernel
theorem dM_withdraw_67 : decode cM_withdraw 67 = .ok (.ireturn, 1) := by decide +kernel
abbrev cM_why : ByteArray := prog_9_method_58_code
abbrev yM_why : MethodName := ⟨"DrawingVaultModel", "why", "()I"⟩
theorem dM_why_0 : decode cM_why 0 = .ok (.aload_n 0, 1) := by decide +kernel
theorem dM_why_1 : decode cM_why 1 = .ok (.iconst 0, 1) := by decide +kernel
theorem dM_why_2 : decode cM_why 2 = .ok (.putfield 33, 3) := by decide +kernel
theorem dM_why_5 : decode cM_why 5 = .ok (.aload_n 0, 1) := by decide +kernel
theorem dM_why_6 : decode cM_why 6 = .ok (.getfield 106, 3) := by decide +kernel
theorem dM_why_9 : decode cM_why 9 = .ok (.ireturn, 1) := by decide +kernel
abbrev cM_look : ByteArray := prog_9_method_59_code
abbrev yM_look : MethodName := ⟨"DrawingVaultModel", "look", "(III)I"⟩
theorem dM_look_0 : decode cM_look 0 = .ok (.aload_n 0, 1) := by decide +kernel
theorem dM_look_1 : decode cM_look 1 = .ok (.iload_n 1, 1) := by decide +kernel
theorem dM_look_2 : decode cM_look 2 = .ok (.iload_n 2, 1) := by decide +kernel
theorem dM_look_3 : decode cM_look 3 = .ok (.invokevirtual 79, 3) := by decide +kernel
theorem dM_look_6 : decode cM_look 6 = .ok (.istore 4, 2) := by decide +kernel
theorem dM_look_8 : decode cM_look 8 = .ok (.iload 4, 2) := by decide +kernel
theorem dM_look_10 : decode cM_look 10 = .ok (.ifCond .eq 12, 3) := by decide +kernel
theorem dM_look_22 : decode cM_look 22 = .ok (.sipush 1940, 3) := by decide +kernel
theorem dM_look_25 : decode cM_look 25 = .ok (.istore 5, 2) := by decide +kernel
theorem dM_look_27 : decode cM_look 27 = .ok (.aload_n 0, 1) := by decide +kernel
theorem dM_look_28 : decode cM_look 28 = .ok (.iload 4, 2) := by decide +kernel
theorem dM_look_30 : decode cM_look 30 = .ok (.ifCond .eq 38, 3) := by decide +kernel
theorem dM_look_68 : decode cM_look 68 = .ok (.iconst 1, 1) := by decide +kernel
theorem dM_look_69 : decode cM_look 69 = .ok (.putfield 33, 3) := by decide +kernel
theorem dM_look_72 : decode cM_look 72 = .ok (.aload_n 0, 1) := by decide +kernel
theorem dM_look_73 : decode cM_look 73 = .ok (.getfield 33, 3) := by decide +kernel
theorem dM_look_76 : decode cM_look 76 = .ok (.ifCond .le 5, 3) := by decide +kernel
theorem dM_look_79 : decode cM_look 79 = .ok (.iconst 0, 1) := by decide +kernel
theorem dM_look_80 : decode cM_look 80 = .ok (.ireturn, 1) := by decide +kernel
abbrev cM_reference : ByteArray := prog_9_method_60_code
abbrev yM_reference : MethodName := ⟨"DrawingVaultModel", "reference", "(IIII)I"⟩
theorem dM_reference_0 : decode cM_reference 0 = .ok (.aload_n 0, 1) := by decide +kernel
theorem dM_reference_1 : decode cM_reference 1 = .ok (.iload_n 1, 1) := by decide +kernel
theorem dM_reference_2 : decode cM_reference 2 = .ok (.iload_n 2, 1) := by decide +kernel
theorem dM_reference_3 : decode cM_reference 3 = .ok (.invokevirtual 79, 3) := by decide +kernel
theorem dM_reference_6 : decode cM_reference 6 = .ok (.istore 5, 2) := by decide +kernel
theorem dM_reference_8 : decode cM_reference 8 = .ok (.iload 5, 2) := by decide +kernel
theorem dM_reference_10 : decode cM_reference 10 = .ok (.ifCond .eq 12, 3) := by decide +kernel
theorem dM_reference_22 : decode cM_reference 22 = .ok (.sipush 1940, 3) := by decide +kernel
theorem dM_reference_25 : decode cM_reference 25 = .ok (.istore 6, 2) := by decide +kernel
theorem dM_reference_27 : decode cM_reference 27 = .ok (.aload_n 0, 1) := by decide +kernel
theorem dM_reference_28 : decode cM_reference 28 = .ok (.iload 5, 2) := by decide +kernel
theorem dM_reference_30 : decode cM_reference 30 = .ok (.ifCond .eq 35, 3) := by decide +kernel
theorem dM_reference_65 : decode cM_reference 65 = .ok (.iconst 1, 1) := by decide +kernel
theorem dM_reference_66 : decode cM_reference 66 = .ok (.putfield 33, 3) := by decide +kernel
theorem dM_reference_69 : decode cM_reference 69 = .ok (.aload_n 0, 1) := by decide +kernel
theorem dM_reference_70 : decode cM_reference 70 = .ok (.getfield 33, 3) := by decide +kernel
theorem dM_reference_73 : decode cM_reference 73 = .ok (.ifCond .le 5, 3) := by decide +kernel
theorem dM_reference_76 : decode cM_reference 76 = .ok (.iconst 0, 1) := by decide +kernel
theorem dM_reference_77 : decode cM_reference 77 = .ok (.ireturn, 1) := by decide +kernel
abbrev cM_about : ByteArray := prog_9_method_61_code
abbrev yM_about : MethodName := ⟨"DrawingVaultModel", "about", "(II)I"⟩
theorem dM_about_0 : decode cM_about 0 = .ok (.aload_n 0, 1) := by decide +kernel
theorem dM_about_1 : decode cM_about 1 = .ok (.iload_n 1, 1) := by decide +kernel
theorem dM_about_2 : decode cM_about 2 = .ok (.invokevirtual 44, 3) := by decide +kernel
theorem dM_about_5 : decode cM_about 5 = .ok (.istore_n 3, 1) := by decide +kernel
theorem dM_about_6 : decode cM_about 6 = .ok (.iload_n 3, 1) := by decide +kernel
theorem dM_about_7 : decode cM_about 7 = .ok (.ifCond .eq 11, 3) := by decide +kernel
theorem dM_about_18 : decode cM_about 18 = .ok (.bipush 20, 2) := by decide +kernel
theorem dM_about_20 : decode cM_about 20 = .ok (.istore 4, 2) := by decide +kernel
theorem dM_about_22 : decode cM_about 22 = .ok (.iload_n 3, 1) := by decide +kernel
theorem dM_about_23 : decode cM_about 23 = .ok (.ifCond .eq 15, 3) := by decide +kernel
theorem dM_about_38 : decode cM_about 38 = .ok (.iconst 0, 1) := by decide +kernel
theorem dM_about_39 : decode cM_about 39 = .ok (.istore 5, 2) := by decide +kernel
theorem dM_about_41 : decode cM_about 41 = .ok (.iload_n 3, 1) := by decide +kernel
theorem dM_about_42 : decode cM_about 42 = .ok (.ifCond .eq 12, 3) := by decide +kernel
theorem dM_about_54 : decode cM_about 54 = .ok (.iload 5, 2) := by decide +kernel
theorem dM_about_56 : decode cM_about 56 = .ok (.ifCond .eq 25, 3) := by decide +kernel
theorem dM_about_81 : decode cM_about 81 = .ok (.iload 5, 2) := by decide +kernel
theorem dM_about_83 : decode cM_about 83 = .ok (.ifCond .eq 33, 3) := by decide +kernel
theorem dM_about_116 : decode cM_about 116 = .ok (.iconst 0, 1) := by decide +kernel
theorem dM_about_117 : decode cM_about 117 = .ok (.istore 6, 2) := by decide +kernel
theorem dM_about_119 : decode cM_about 119 = .ok (.aload_n 0, 1) := by decide +kernel
theorem dM_about_120 : decode cM_about 120 = .ok (.iload 6, 2) := by decide +kernel
theorem dM_about_122 : decode cM_about 122 = .ok (.ifCond .eq 7, 3) := by decide +kernel
theorem dM_about_129 : decode cM_about 129 = .ok (.iconst 1, 1) := by decide +kernel
theorem dM_about_130 : decode cM_about 130 = .ok (.putfield 33, 3) := by decide +kernel
theorem dM_about_133 : decode cM_about 133 = .ok (.iload 6, 2) := by decide +kernel
theorem dM_about_135 : decode cM_about 135 = .ok (.ifCond .ne 5, 3) := by decide +kernel
theorem dM_about_138 : decode cM_about 138 = .ok (.iconst 0, 1) := by decide +kernel
theorem dM_about_139 : decode cM_about 139 = .ok (.ireturn, 1) := by decide +kernel
abbrev cM_inBaseline : ByteArray := prog_9_method_62_code
abbrev yM_inBaseline : MethodName := ⟨"DrawingVaultModel", "inBaseline", "(III)I"⟩
theorem dM_inBaseline_0 : decode cM_inBaseline 0 = .ok (.iload_n 1, 1) := by decide +kernel
theorem dM_inBaseline_1 : decode cM_inBaseline 1 = .ok (.ifCond .lt 40, 3) := by decide +kernel
theorem dM_inBaseline_4 : decode cM_inBaseline 4 = .ok (.iload_n 1, 1) := by decide +kernel
theorem dM_inBaseline_5 : decode cM_inBaseline 5 = .ok (.bipush 10, 2) := by decide +kernel
theorem dM_inBaseline_7 : decode cM_inBaseline 7 = .ok (.if_icmp .ge 34, 3) := by decide +kernel
theorem dM_inBaseline_10 : decode cM_inBaseline 10 = .ok (.aload_n 0, 1) := by decide +kernel
theorem dM_inBaseline_11 : decode cM_inBaseline 11 = .ok (.getfield 7, 3) := by decide +kernel
theorem dM_inBaseline_14 : decode cM_inBaseline 14 = .ok (.aload_n 0, 1) := by decide +kernel
theorem dM_inBaseline_15 : decode cM_inBaseline 15 = .ok (.iload_n 1, 1) := by decide +kernel
theorem dM_inBaseline_16 : decode cM_inBaseline 16 = .ok (.ifCond .lt 13, 3) := by decide +kernel
theorem dM_inBaseline_19 : decode cM_inBaseline 19 = .ok (.iload_n 1, 1) := by decide +kernel
theorem dM_inBaseline_20 : decode cM_inBaseline 20 = .ok (.bipush 10, 2) := by decide +kernel
theorem dM_inBaseline_22 : decode cM_inBaseline 22 = .ok (.if_icmp .ge 7, 3) := by decide +kernel
theorem dM_inBaseline_25 : decode cM_inBaseline 25 = .ok (.iload_n 1, 1) := by decide +kernel
theorem dM_inBaseline_26 : decode cM_inBaseline 26 = .ok (.goto 4, 3) := by decide +kernel
theorem dM_inBaseline_29 : decode cM_inBaseline 29 = .ok (.iconst 0, 1) := by decide +kernel
theorem dM_inBaseline_30 : decode cM_inBaseline 30 = .ok (.invokevirtual 99, 3) := by decide +kernel
theorem dM_inBaseline_33 : decode cM_inBaseline 33 = .ok (.iaload, 1) := by decide +kernel
theorem dM_inBaseline_34 : decode cM_inBaseline 34 = .ok (.ifCond .le 7, 3) := by decide +kernel
theorem dM_inBaseline_41 : decode cM_inBaseline 41 = .ok (.iconst 0, 1) := by decide +kernel
theorem dM_inBaseline_42 : decode cM_inBaseline 42 = .ok (.istore 4, 2) := by decide +kernel
theorem dM_inBaseline_44 : decode cM_inBaseline 44 = .ok (.iload 4, 2) := by decide +kernel
theorem dM_inBaseline_46 : decode cM_inBaseline 46 = .ok (.ifCond .eq 11, 3) := by decide +kernel
theorem dM_inBaseline_57 : decode cM_inBaseline 57 = .ok (.sipush 24980, 3) := by decide +kernel
theorem dM_inBaseline_60 : decode cM_inBaseline 60 = .ok (.istore 5, 2) := by decide +kernel
theorem dM_inBaseline_62 : decode cM_inBaseline 62 = .ok (.iload 4, 2) := by decide +kernel
theorem dM_inBaseline_64 : decode cM_inBaseline 64 = .ok (.ifCond .eq 45, 3) := by decide +kernel
theorem dM_inBaseline_109 : decode cM_inBaseline 109 = .ok (.iconst 0, 1) := by decide +kernel
theorem dM_inBaseline_110 : decode cM_inBaseline 110 = .ok (.istore 6, 2) := by decide +kernel
theorem dM_inBaseline_112 : decode cM_inBaseline 112 = .ok (.aload_n 0, 1) := by decide +kernel
theorem dM_inBaseline_113 : decode cM_inBaseline 113 = .ok (.iload 6, 2) := by decide +kernel
theorem dM_inBaseline_115 : decode cM_inBaseline 115 = .ok (.ifCond .eq 7, 3) := by decide +kernel
theorem dM_inBaseline_122 : decode cM_inBaseline 122 = .ok (.iconst 1, 1) := by decide +kernel
theorem dM_inBaseline_123 : decode cM_inBaseline 123 = .ok (.putfield 33, 3) := by decide +kernel
theorem dM_inBaseline_126 : decode cM_inBaseline 126 = .ok (.iload 6, 2) := by decide +kernel
theorem dM_inBaseline_128 : decode cM_inBaseline 128 = .ok (.ifCond .ne 5, 3) := by decide +kernel
theorem dM_inBaseline_131 : decode cM_inBaseline 131 = .ok (.iconst 0, 1) := by decide +kernel
theorem dM_inBaseline_132 : decode cM_inBaseline 132 = .ok (.ireturn, 1) := by decide +kernel
abbrev cM_difference : ByteArray := prog_9_method_64_code
abbrev yM_difference : MethodName := ⟨"DrawingVaultModel", "difference", "(IIII)I"⟩
theorem dM_difference_0 : decode cM_difference 0 = .ok (.aload_n 0, 1) := by decide +kernel
theorem dM_difference_1 : decode cM_difference 1 = .ok (.iload_n 1, 1) := by decide +kernel
theorem dM_difference_2 : decode cM_difference 2 = .ok (.iload_n 2, 1) := by decide +kernel
theorem dM_difference_3 : decode cM_difference 3 = .ok (.invokevirtual 79, 3) := by decide +kernel
theorem dM_difference_6 : decode cM_difference 6 = .ok (.ifCond .eq 16, 3) := by decide +kernel
theorem dM_difference_22 : decode cM_difference 22 = .ok (.iconst 0, 1) := by decide +kernel
theorem dM_difference_23 : decode cM_difference 23 = .ok (.istore 5, 2) := by decide +kernel
theorem dM_difference_25 : decode cM_difference 25 = .ok (.aload_n 0, 1) := by decide +kernel
theorem dM_difference_26 : decode cM_difference 26 = .ok (.iload 5, 2) := by decide +kernel
theorem dM_difference_28 : decode cM_difference 28 = .ok (.ifCond .eq 7, 3) := by decide +kernel
theorem dM_difference_35 : decode cM_difference 35 = .ok (.iconst 1, 1) := by decide +kernel
theorem dM_difference_36 : decode cM_difference 36 = .ok (.putfield 33, 3) := by decide +kernel
theorem dM_difference_39 : decode cM_difference 39 = .ok (.iload 5, 2) := by decide +kernel
theorem dM_difference_41 : decode cM_difference 41 = .ok (.ifCond .ne 5, 3) := by decide +kernel
theorem dM_difference_44 : decode cM_difference 44 = .ok (.iconst 0, 1) := by decide +kernel
theorem dM_difference_45 : decode cM_difference 45 = .ok (.ireturn, 1) := by decide +kernel
abbrev cM_user : ByteArray := prog_9_method_63_code
abbrev yM_user : MethodName := ⟨"DrawingVaultModel", "user", "(IZI)I"⟩
theorem dM_user_0 : decode cM_user 0 = .ok (.aload_n 0, 1) := by decide +kernel
theorem dM_user_1 : decode cM_user 1 = .ok (.iconst 0, 1) := by decide +kernel
theorem dM_user_2 : decode cM_user 2 = .ok (.putfield 33, 3) := by decide +kernel
theorem dM_user_5 : decode cM_user 5 = .ok (.aload_n 0, 1) := by decide +kernel
theorem dM_user_6 : decode cM_user 6 = .ok (.iload_n 1, 1) := by decide +kernel
theorem dM_user_7 : decode cM_user 7 = .ok (.invokevirtual 44, 3) := by decide +kernel
theorem dM_user_10 : decode cM_user 10 = .ok (.ifCond .eq 7, 3) := by decide +kernel
theorem dM_user_17 : decode cM_user 17 = .ok (.iconst (-1), 1) := by decide +kernel
theorem dM_user_18 : decode cM_user 18 = .ok (.ireturn, 1) := by decide +kernel
abbrev cM_baseline : ByteArray := prog_9_method_57_code
abbrev yM_baseline : MethodName := ⟨"DrawingVaultModel", "baseline", "(II)I"⟩
theorem dM_baseline_0 : decode cM_baseline 0 = .ok (.iload_n 1, 1) := by decide +kernel
theorem dM_baseline_1 : decode cM_baseline 1 = .ok (.ifCond .lt 13, 3) := by decide +kernel
theorem dM_baseline_4 : decode cM_baseline 4 = .ok (.iload_n 1, 1) := by decide +kernel
theorem dM_baseline_5 : decode cM_baseline 5 = .ok (.bipush 10, 2) := by decide +kernel
theorem dM_baseline_7 : decode cM_baseline 7 = .ok (.if_icmp .ge 7, 3) := by decide +kernel
theorem dM_baseline_10 : decode cM_baseline 10 = .ok (.iconst 1, 1) := by decide +kernel
theorem dM_baseline_11 : decode cM_baseline 11 = .ok (.goto 4, 3) := by decide +kernel
theorem dM_baseline_14 : decode cM_baseline 14 = .ok (.iconst 0, 1) := by decide +kernel
theorem dM_baseline_15 : decode cM_baseline 15 = .ok (.istore_n 3, 1) := by decide +kernel
theorem dM_baseline_16 : decode cM_baseline 16 = .ok (.iload_n 3, 1) := by decide +kernel
theorem dM_baseline_17 : decode cM_baseline 17 = .ok (.ifCond .eq 11, 3) := by decide +kernel
theorem dM_baseline_20 : decode cM_baseline 20 = .ok (.aload_n 0, 1) := by decide +kernel
theorem dM_baseline_21 : decode cM_baseline 21 = .ok (.iload_n 2, 1) := by decide +kernel
theorem dM_baseline_22 : decode cM_baseline 22 = .ok (.invokevirtual 44, 3) := by decide +kernel
theorem dM_baseline_25 : decode cM_baseline 25 = .ok (.ifCond .ne 7, 3) := by decide +kernel
theorem dM_baseline_28 : decode cM_baseline 28 = .ok (.iconst 1, 1) := by decide +kernel
theorem dM_baseline_29 : decode cM_baseline 29 = .ok (.goto 4, 3) := by decide +kernel
theorem dM_baseline_33 : decode cM_baseline 33 = .ok (.bipush 7, 2) := by decide +kernel
theorem dM_baseline_35 : decode cM_baseline 35 = .ok (.iconst 0, 1) := by decide +kernel
theorem dM_baseline_36 : decode cM_baseline 36 = .ok (.invokestatic 121, 3) := by decide +kernel
theorem dM_baseline_39 : decode cM_baseline 39 = .ok (.istore 4, 2) := by decide +kernel
theorem dM_baseline_41 : decode cM_baseline 41 = .ok (.iload_n 3, 1) := by decide +kernel
theorem dM_baseline_42 : decode cM_baseline 42 = .ok (.ifCond .eq 28, 3) := by decide +kernel
theorem dM_baseline_45 : decode cM_baseline 45 = .ok (.aload_n 0, 1) := by decide +kernel
theorem dM_baseline_46 : decode cM_baseline 46 = .ok (.getfield 7, 3) := by decide +kernel
theorem dM_baseline_49 : decode cM_baseline 49 = .ok (.aload_n 0, 1) := by decide +kernel
theorem dM_baseline_50 : decode cM_baseline 50 = .ok (.iload_n 3, 1) := by decide +kernel
theorem dM_baseline_51 : decode cM_baseline 51 = .ok (.ifCond .eq 7, 3) := by decide +kernel
theorem dM_baseline_54 : decode cM_baseline 54 = .ok (.iload_n 1, 1) := by decide +kernel
theorem dM_baseline_55 : decode cM_baseline 55 = .ok (.goto 4, 3) := by decide +kernel
theorem dM_baseline_59 : decode cM_baseline 59 = .ok (.invokevirtual 99, 3) := by decide +kernel
theorem dM_baseline_62 : decode cM_baseline 62 = .ok (.iaload, 1) := by decide +kernel
theorem dM_baseline_63 : decode cM_baseline 63 = .ok (.ifCond .le 7, 3) := by decide +kernel
theorem dM_baseline_70 : decode cM_baseline 70 = .ok (.iconst 0, 1) := by decide +kernel
theorem dM_baseline_71 : decode cM_baseline 71 = .ok (.iconst 2, 1) := by decide +kernel
theorem dM_baseline_72 : decode cM_baseline 72 = .ok (.iload 4, 2) := by decide +kernel
theorem dM_baseline_74 : decode cM_baseline 74 = .ok (.invokestatic 121, 3) := by decide +kernel
theorem dM_baseline_77 : decode cM_baseline 77 = .ok (.istore 4, 2) := by decide +kernel
theorem dM_baseline_79 : decode cM_baseline 79 = .ok (.iconst 0, 1) := by decide +kernel
theorem dM_baseline_80 : decode cM_baseline 80 = .ok (.istore 5, 2) := by decide +kernel
theorem dM_baseline_82 : decode cM_baseline 82 = .ok (.aload_n 0, 1) := by decide +kernel
theorem dM_baseline_83 : decode cM_baseline 83 = .ok (.iload_n 2, 1) := by decide +kernel
theorem dM_baseline_84 : decode cM_baseline 84 = .ok (.invokevirtual 44, 3) := by decide +kernel
theorem dM_baseline_87 : decode cM_baseline 87 = .ok (.ifCond .eq 102, 3) := by decide +kernel
theorem dM_baseline_189 : decode cM_baseline 189 = .ok (.aload_n 0, 1) := by decide +kernel
theorem dM_baseline_190 : decode cM_baseline 190 = .ok (.iload 4, 2) := by decide +kernel
theorem dM_baseline_192 : decode cM_baseline 192 = .ok (.iconst 1, 1) := by decide +kernel
theorem dM_baseline_193 : decode cM_baseline 193 = .ok (.iload 5, 2) := by decide +kernel
theorem dM_baseline_195 : decode cM_baseline 195 = .ok (.invokestatic 83, 3) := by decide +kernel
theorem dM_baseline_198 : decode cM_baseline 198 = .ok (.iadd, 1) := by decide +kernel
theorem dM_baseline_199 : decode cM_baseline 199 = .ok (.invokevirtual 112, 3) := by decide +kernel
theorem dM_baseline_202 : decode cM_baseline 202 = .ok (.ifCond .ne 16, 3) := by decide +kernel
theorem dM_baseline_205 : decode cM_baseline 205 = .ok (.aload_n 0, 1) := by decide +kernel
theorem dM_baseline_206 : decode cM_baseline 206 = .ok (.getfield 33, 3) := by decide +kernel
theorem dM_baseline_209 : decode cM_baseline 209 = .ok (.ifCond .le 7, 3) := by decide +kernel
theorem dM_baseline_216 : decode cM_baseline 216 = .ok (.iconst (-1), 1) := by decide +kernel
theorem dM_baseline_217 : decode cM_baseline 217 = .ok (.ireturn, 1) := by decide +kernel
abbrev cM_failAfter : ByteArray := prog_9_method_65_code
abbrev yM_failAfter : MethodName := ⟨"DrawingVaultModel", "failAfter", "(I)Z"⟩
theorem dM_failAfter_0 : decode cM_failAfter 0 = .ok (.aload_n 0, 1) := by decide +kernel
theorem dM_failAfter_1 : decode cM_failAfter 1 = .ok (.iconst 0, 1) := by decide +kernel
theorem dM_failAfter_2 : decode cM_failAfter 2 = .ok (.putfield 33, 3) := by decide +kernel
theorem dM_failAfter_5 : decode cM_failAfter 5 = .ok (.iload_n 1, 1) := by decide +kernel
theorem dM_failAfter_6 : decode cM_failAfter 6 = .ok (.ifCond .lt 10, 3) := by decide +kernel
theorem dM_failAfter_9 : decode cM_failAfter 9 = .ok (.aload_n 0, 1) := by decide +kernel
theorem dM_failAfter_10 : decode cM_failAfter 10 = .ok (.getfield 102, 3) := by decide +kernel
theorem dM_failAfter_13 : decode cM_failAfter 13 = .ok (.ifCond .eq 5, 3) := by decide +kernel
theorem dM_failAfter_16 : decode cM_failAfter 16 = .ok (.iconst 0, 1) := by decide +kernel
theorem dM_failAfter_17 : decode cM_failAfter 17 = .ok (.ireturn, 1) := by decide +kernel
theorem dM_failAfter_18 : decode cM_failAfter 18 = .ok (.aload_n 0, 1) := by decide +kernel
theorem dM_failAfter_19 : decode cM_failAfter 19 = .ok (.iload_n 1, 1) := by decide +kernel
theorem dM_failAfter_20 : decode cM_failAfter 20 = .ok (.putfield 16, 3) := by decide +kernel
theorem dM_failAfter_23 : decode cM_failAfter 23 = .ok (.iconst 1, 1) := by decide +kernel
theorem dM_failAfter_24 : decode cM_failAfter 24 = .ok (.ireturn, 1) := by decide +kernel
theorem wd_152 : (.fieldLink "DrawingVaultModel" 33 "DrawingVaultModel" "thrown" "I" : Cond) ∈ aw := aw_in (tb_4 (List.mem_of_getElem? (i := 30) rfl)) rfl
theorem wd_153 : (.code ⟨"DrawingVaultModel", "isPerson", "(I)Z"⟩ prog_9_method_4_code 2 (Option.some .boolean) : Cond) ∈ aw := aw_in (tb_4 (List.mem_of_getElem? (i := 76) rfl)) rfl
theorem wd_154 : (.methodLink "DrawingVaultModel" 36 ⟨"DrawingVaultModel", "isPerson", "(I)Z"⟩ : Cond) ∈ aw := aw_in (tb_4 (List.mem_of_getElem? (i := 73) rfl)) rfl
theorem wd_155 : (.instanceMethod ⟨"DrawingVaultModel", "isPerson", "(I)Z"⟩ : Cond) ∈ aw := aw_in (tb_4 (List.mem_of_getElem? (i := 75) rfl)) rfl
theorem wd_156 : (.selects "DrawingVaultModel" ⟨"DrawingVaultModel", "isPerson", "(I)Z"⟩ ⟨"DrawingVaultModel", "isPerson", "(I)Z"⟩ : Cond) ∈ aw := aw_in (tb_s (q := (⟨"DrawingVaultModel", "isPerson", "(I)Z"⟩, _)) (List.mem_append_right _ (List.mem_append_right _ (List.mem_append_left _ (List.mem_of_getElem? (i := 4) rfl))))) rfl
theorem wd_157 : (.initialized "DrawingVaultModel" : Cond) ∈ aw := aw_in (tb_1 (List.mem_of_getElem? (i := 6) rfl)) rfl
theorem wd_158 : (.fieldLink "DrawingVaultModel" 7 "DrawingVaultModel" "now" "[I" : Cond) ∈ aw := aw_in (tb_4 (List.mem_of_getElem? (i := 32) rfl)) rfl
theorem wd_159 : (.code ⟨"DrawingVaultModel", "isDrawing", "(I)Z"⟩ prog_9_method_6_code 2 (Option.some .boolean) : Cond) ∈ aw := aw_in (tb_4 (List.mem_of_getElem? (i := 112) rfl)) rfl
theorem wd_160 : (.methodLink "DrawingVaultModel" 44 ⟨"DrawingVaultModel", "isDrawing", "(I)Z"⟩ : Cond) ∈ aw := aw_in (tb_4 (List.mem_of_getElem? (i := 109) rfl)) rfl
theorem wd_161 : (.instanceMethod ⟨"DrawingVaultModel", "isDrawing", "(I)Z"⟩ : Cond) ∈ aw := aw_in (tb_4 (List.mem_of_getElem? (i := 111) rfl)) rfl
theorem wd_162 : (.selects "DrawingVaultModel" ⟨"DrawingVaultModel", "isDrawing", "(I)Z"⟩ ⟨"DrawingVaultModel", "isDrawing", "(I)Z"⟩ : Cond) ∈ aw := aw_in (tb_s (q := (⟨"DrawingVaultModel", "isDrawing", "(I)Z"⟩, _)) (List.mem_append_right _ (List.mem_append_right _ (List.mem_append_left _ (List.mem_of_getElem? (i := 13) rfl))))) rfl
theorem wd_163 : (.fieldLink "DrawingVaultModel" 102 "DrawingVaultModel" "failed" "Z" : Cond) ∈ aw := aw_in (tb_4 (List.mem_of_getElem? (i := 34) rfl)) rfl
theorem wd_164 : (.fieldLink "DrawingVaultModel" 106 "DrawingVaultModel" "reason" "I" : Cond) ∈ aw := aw_in (tb_4 (List.mem_of_getElem? (i := 31) rfl)) rfl
theorem wd_165 : (.code ⟨"DrawingVaultModel", "rights", "(I)I"⟩ prog_9_method_5_code 2 (Option.some .int) : Cond) ∈ aw := aw_in (tb_4 (List.mem_of_getElem? (i := 151) rfl)) rfl
theorem wd_166 : (.methodLink "DrawingVaultModel" 118 ⟨"DrawingVaultModel", "rights", "(I)I"⟩ : Cond) ∈ aw := aw_in (tb_4 (List.mem_of_getElem? (i := 148) rfl)) rfl
theorem wd_167 : (.instanceMethod ⟨"DrawingVaultModel", "rights", "(I)I"⟩ : Cond) ∈ aw := aw_in (tb_4 (List.mem_of_getElem? (i := 150) rfl)) rfl
theorem wd_168 : (.selects "DrawingVaultModel" ⟨"DrawingVaultModel", "rights", "(I)I"⟩ ⟨"DrawingVaultModel", "rights", "(I)I"⟩ : Cond) ∈ aw := aw_in (tb_s (q := (⟨"DrawingVaultModel", "rights", "(I)I"⟩, _)) (List.mem_append_right _ (List.mem_append_right _ (List.mem_append_right _ (List.mem_append_left _ (List.mem_of_getElem? (i := 5) rfl)))))) rfl
theorem wd_169 : (.code ⟨"DrawingVaultModel", "least", "(ZII)I"⟩ prog_9_method_26_code 3 (Option.some .int) : Cond) ∈ aw := aw_in (tb_4 (List.mem_of_getElem? (i := 154) rfl)) rfl
theorem wd_170 : (.methodLink "DrawingVaultModel" 121 ⟨"DrawingVaultModel", "least", "(ZII)I"⟩ : Cond) ∈ aw := aw_in (tb_4 (List.mem_of_getElem? (i := 152) rfl)) rfl
theorem wd_171 : (.static ⟨"DrawingVaultModel", "least", "(ZII)I"⟩ : Cond) ∈ aw := aw_in (tb_4 (List.mem_of_getElem? (i := 153) rfl)) rfl
theorem wd_172 : (.code ⟨"DrawingVaultModel", "isRevision", "(II)Z"⟩ prog_9_method_9_code 3 (Option.some .boolean) : Cond) ∈ aw := aw_in (tb_4 (List.mem_of_getElem? (i := 120) rfl)) rfl
theorem wd_173 : (.methodLink "DrawingVaultModel" 79 ⟨"DrawingVaultModel", "isRevision", "(II)Z"⟩ : Cond) ∈ aw := aw_in (tb_4 (List.mem_of_getElem? (i := 117) rfl)) rfl
theorem wd_174 : (.instanceMethod ⟨"DrawingVaultModel", "isRevision", "(II)Z"⟩ : Cond) ∈ aw := aw_in (tb_4 (List.mem_of_getElem? (i := 119) rfl)) rfl
theorem wd_175 : (.selects "DrawingVaultModel" ⟨"DrawingVaultModel", "isRevision", "(II)Z"⟩ ⟨"DrawingVaultModel", "isRevision", "(II)Z"⟩ : Cond) ∈ aw := aw_in (tb_s (q := (⟨"DrawingVaultModel", "isRevision", "(II)Z"⟩, _)) (List.mem_append_right _ (List.mem_append_right _ (List.mem_append_left _ (List.mem_of_getElem? (i := 15) rfl))))) rfl
theorem wd_176 : (.code ⟨"DrawingVaultModel", "allRevisions", "()I"⟩ prog_9_method_18_code 3 (Option.some .int) : Cond) ∈ aw := aw_in (tb_4 (List.mem_of_getElem? (i := 92) rfl)) rfl
theorem wd_177 : (.methodLink "DrawingVaultModel" 92 ⟨"DrawingVaultModel", "allRevisions", "()I"⟩ : Cond) ∈ aw := aw_in (tb_4 (List.mem_of_getElem? (i := 89) rfl)) rfl
theorem wd_178 : (.instanceMethod ⟨"DrawingVaultModel", "allRevisions", "()I"⟩ : Cond) ∈ aw := aw_in (tb_4 (List.mem_of_getElem? (i := 91) rfl)) rfl
theorem wd_179 : (.selects "DrawingVaultModel" ⟨"DrawingVaultModel", "allRevisions", "()I"⟩ ⟨"DrawingVaultModel", "allRevisions", "()I"⟩ : Cond) ∈ aw := aw_in (tb_s (q := (⟨"DrawingVaultModel", "allRevisions", "()I"⟩, _)) (List.mem_append_right _ (List.mem_append_right _ (List.mem_append_left _ (List.mem_of_getElem? (i := 8) rfl))))) rfl
theorem wd_180 : (.code ⟨"DrawingVaultModel", "may", "(II)Z"⟩ prog_9_method_29_code 4 (Option.some .boolean) : Cond) ∈ aw := aw_in (tb_4 (List.mem_of_getElem? (i := 80) rfl)) rfl
theorem wd_181 : (.methodLink "DrawingVaultModel" 112 ⟨"DrawingVaultModel", "may", "(II)Z"⟩ : Cond) ∈ aw := aw_in (tb_4 (List.mem_of_getElem? (i := 77) rfl)) rfl
theorem wd_182 : (.instanceMethod ⟨"DrawingVaultModel", "may", "(II)Z"⟩ : Cond) ∈ aw := aw_in (tb_4 (List.mem_of_getElem? (i := 79) rfl)) rfl
theorem wd_183 : (.selects "DrawingVaultModel" ⟨"DrawingVaultModel", "may", "(II)Z"⟩ ⟨"DrawingVaultModel", "may", "(II)Z"⟩ : Cond) ∈ aw := aw_in (tb_s (q := (⟨"DrawingVaultModel", "may", "(II)Z"⟩, _)) (List.mem_append_right _ (List.mem_append_right _ (List.mem_append_left _ (List.mem_of_getElem? (i := 5) rfl))))) rfl
theorem wd_184 : (.code ⟨"DrawingVaultModel", "whyNot", "(II)I"⟩ prog_9_method_36_code 4 (Option.some .int) : Cond) ∈ aw := aw_in (tb_4 (List.mem_of_getElem? (i := 174) rfl)) rfl
theorem wd_185 : (.methodLink "DrawingVaultModel" 133 ⟨"DrawingVaultModel", "whyNot", "(II)I"⟩ : Cond) ∈ aw := aw_in (tb_4 (List.mem_of_getElem? (i := 171) rfl)) rfl
theorem wd_186 : (.instanceMethod ⟨"DrawingVaultModel", "whyNot", "(II)I"⟩ : Cond) ∈ aw := aw_in (tb_4 (List.mem_of_getElem? (i := 173) rfl)) rfl
theorem wd_187 : (.selects "DrawingVaultModel" ⟨"DrawingVaultModel", "whyNot", "(II)I"⟩ ⟨"DrawingVaultModel", "whyNot", "(II)I"⟩ : Cond) ∈ aw := aw_in (tb_s (q := (⟨"DrawingVaultModel", "whyNot", "(II)I"⟩, _)) (List.mem_append_right _ (List.mem_append_right _ (List.mem_append_right _ (List.mem_append_left _ (List.mem_of_getElem? (i := 8) rfl)))))) rfl
theorem wd_188 : (.code ⟨"DrawingVaultModel", "mayHere", "(I)Z"⟩ prog_9_method_38_code 2 (Option.some .boolean) : Cond) ∈ aw := aw_in (tb_4 (List.mem_of_getElem? (i := 182) rfl)) rfl
theorem wd_189 : (.methodLink "DrawingVaultModel" 136 ⟨"DrawingVaultModel", "mayHere", "(I)Z"⟩ : Cond) ∈ aw := aw_in (tb_4 (List.mem_of_getElem? (i := 179) rfl)) rfl
theorem wd_190 : (.instanceMethod ⟨"DrawingVaultModel", "mayHere", "(I)Z"⟩ : Cond) ∈ aw := aw_in (tb_4 (List.mem_of_getElem? (i := 181) rfl)) rfl
theorem wd_191 : (.selects "DrawingVaultModel" ⟨"DrawingVaultModel", "mayHere", "(I)Z"⟩ ⟨"DrawingVaultModel", "mayHere", "(I)Z"⟩ : Cond) ∈ aw := aw_in (tb_s (q := (⟨"DrawingVaultModel", "mayHere", "(I)Z"⟩, _)) (List.mem_append_right _ (List.mem_append_right _ (List.mem_append_right _ (List.mem_append_left _ (List.mem_of_getElem? (i := 9) rfl)))))) rfl
theorem wd_192 : (.code ⟨"DrawingVaultModel", "whyNotRevision", "(IIII)I"⟩ prog_9_method_49_code 5 (Option.some .int) : Cond) ∈ aw := aw_in (tb_4 (List.mem_of_getElem? (i := 238) rfl)) rfl
theorem wd_193 : (.methodLink "DrawingVaultModel" 157 ⟨"DrawingVaultModel", "whyNotRevision", "(IIII)I"⟩ : Cond) ∈ aw := aw_in (tb_4 (List.mem_of_getElem? (i := 235) rfl)) rfl
theorem wd_194 : (.instanceMethod ⟨"DrawingVaultModel", "whyNotRevision", "(IIII)I"⟩ : Cond) ∈ aw := aw_in (tb_4 (List.mem_of_getElem? (i := 237) rfl)) rfl
theorem wd_195 : (.selects "DrawingVaultModel" ⟨"DrawingVaultModel", "whyNotRevision", "(IIII)I"⟩ ⟨"DrawingVaultModel", "whyNotRevision", "(IIII)I"⟩ : Cond) ∈ aw := aw_in (tb_s (q := (⟨"DrawingVaultModel", "whyNotRevision", "(IIII)I"⟩, _)) (List.mem_append_right _ (List.mem_append_right _ (List.mem_append_right _ (List.mem_append_right _ (List.mem_of_getElem? (i := 2) rfl)))))) rfl
theorem wd_196 : (.code ⟨"DrawingVaultModel", "baselineAt", "(I)I"⟩ prog_9_method_27_code 2 (Option.some .int) : Cond) ∈ aw := aw_in (tb_4 (List.mem_of_getElem? (i := 143) rfl)) rfl
theorem wd_197 : (.methodLink "DrawingVaultModel" 99 ⟨"DrawingVaultModel", "baselineAt", "(I)I"⟩ : Cond) ∈ aw := aw_in (tb_4 (List.mem_of_getElem? (i := 140) rfl)) rfl
theorem wd_198 : (.instanceMethod ⟨"DrawingVaultModel", "baselineAt", "(I)I"⟩ : Cond) ∈ aw := aw_in (tb_4 (List.mem_of_getElem? (i := 142) rfl)) rfl
theorem wd_199 : (.selects "DrawingVaultModel" ⟨"DrawingVaultModel", "baselineAt", "(I)I"⟩ ⟨"DrawingVaultModel", "baselineAt", "(I)I"⟩ : Cond) ∈ aw := aw_in (tb_s (q := (⟨"DrawingVaultModel", "baselineAt", "(I)I"⟩, _)) (List.mem_append_right _ (List.mem_append_right _ (List.mem_append_right _ (List.mem_append_left _ (List.mem_of_getElem? (i := 4) rfl)))))) rfl
theorem wd_200 : (.code ⟨"DrawingVaultModel", "parts", "(I)I"⟩ prog_9_method_19_code 1 (Option.some .int) : Cond) ∈ aw := aw_in (tb_4 (List.mem_of_getElem? (i := 127) rfl)) rfl
theorem wd_201 : (.methodLink "DrawingVaultModel" 83 ⟨"DrawingVaultModel", "parts", "(I)I"⟩ : Cond) ∈ aw := aw_in (tb_4 (List.mem_of_getElem? (i := 125) rfl)) rfl
theorem wd_202 : (.static ⟨"DrawingVaultModel", "parts", "(I)I"⟩ : Cond) ∈ aw := aw_in (tb_4 (List.mem_of_getElem? (i := 126) rfl)) rfl
theorem wd_203 : (.fieldLink "DrawingVaultModel" 16 "DrawingVaultModel" "powerLeft" "I" : Cond) ∈ aw := aw_in (tb_4 (List.mem_of_getElem? (i := 35) rfl)) rfl

/-- a loop that counts up to B -/
theorem lpN {σ : Type} (G : σ → Prop) (I : Nat → σ → Prop) (B : Nat) (hx : ∀ z, I B z → G z) (hs : ∀ i z, i < B → I i z → (∀ z', I (i + 1) z' → G z') → G z) : ∀ n i z, i + n = B → I i z → G z := by
  intro n
  induction n with
  | zero => intro i z h hI; obtain rfl : i = B := by omega
            exact hx z hI
  | succ n ih => intro i z h hI; exact hs i z (by omega) hI (fun z' hI' => ih (i + 1) z' (by omega) hI')
theorem vin_le {i : Int32} {a b : Nat} (h : vp_in i a) (hab : a ≤ b) : vp_in i b := fun q => q.elim (fun z => h (Or.inl z)) (fun z => h (Or.inr (Nat.le_trans hab z)))
/-- the model's numbers in a fresh object -/
def now0 : Nat → Int32 := upd (fun _ => 0) (17 : Int32).toNatClampNeg 400
theorem now0_p {i : Int32} (h : vp_in i 16) : now0 i.toNatClampNeg = 0 := by
  have h1 : i.toNatClampNeg < 16 := Nat.not_le.mp fun q => h (Or.inr q)
  unfold now0
  exact pk_un (fun e => by have h2 : (17 : Int32).toNatClampNeg = 17 := by decide
                           omega)
theorem bl_all : ∀ j, j < 10 → (¬ ((24980 + 26 * nI j : Int32) < 0 ∨ 25240 ≤ (24980 + 26 * nI j : Int32).toNatClampNeg)) ∧ now0 (24980 + 26 * nI j : Int32).toNatClampNeg = 0 := by decide +kernel
theorem bl_ix {n : Int32} (h1 : ¬ n < 0) (h2 : ¬ (10 : Int32) ≤ n) : vp_in (24980 + 26 * n) 25240 ∧ now0 (24980 + 26 * n : Int32).toNatClampNeg = 0 := by
  rcases pk_ix n (n := 10) (by decide) with h | h | ⟨j, hj, rfl⟩
  · exact absurd h h1
  · exact absurd h h2
  · exact bl_all j hj
/-- the lesser of two reasons, as the model takes it -/
def lst (a b c : Int32) : Int32 := if a = 0 then c else if c = 0 then b else if b < c then b else c
theorem lst_0 {b c : Int32} : c = lst 0 b c := by unfold lst; rw [if_pos rfl]
theorem lst_n {a b : Int32} (h : ¬ a = 0) : b = lst a b 0 := by unfold lst; rw [if_neg h, if_pos rfl]
theorem lst_l {a b c : Int32} (h : ¬ a = 0) (h1 : ¬ c = 0) (h2 : b < c) : b = lst a b c := by unfold lst; rw [if_neg h, if_neg h1, if_pos h2]
theorem lst_g {a b c : Int32} (h : ¬ a = 0) (h1 : ¬ c = 0) (h2 : ¬ b < c) : c = lst a b c := by unfold lst; rw [if_neg h, if_neg h1, if_neg h2]

set_option maxHeartbeats 4000000 in
set_option maxRecDepth 100000 in
theorem m_thrown (l : Launch) (dC : Nat → ClassId) (dI : Nat → Nat → Nat) (mo : Nat) (nw : Nat) (kp : Nat) (mk : Nat) (co : Nat) (se : Nat) (th : Int32) (mr : Int32) : Met l yM_thrown (.code yM_thrown cM_thrown 1 (some .int) :: aw) ({ frames := 0, cells := 0, slots := 0, locals := 0 }) (pR (dC, dI) [(mo, .inr (4, [.int th, .int mr, .ref nw, .ref kp, .int 0, .int (-1), .ref mk, .ref co, .int 0, .int 0, .ref se]))] [] [.ref mo]) (vp_Si (fun r => r = th)) 0 0 (fun _ => False) := by
  refine Met.ofW (cc := cM_thrown) (maxL := 1) (ret := (some .int)) (by decide) rfl ?_
  intro p e s m args below meth c s₁ B hml hv
  obtain ⟨rfl, hv⟩ := hv
  have hx := B.exec
  have hb := B.bytes
  have hr := B.returns
  have hts : ∀ w ∈ aw, w.before _ s = true := fun w h => atoms_spec (ws := (.code yM_thrown cM_thrown 1 (some .int) :: aw)) B.pre w (List.mem_cons_of_mem _ h)
  have hown : s.vm.findClass RM = some m.cls := findClass_of_methodNamed B.named
  have hlocks := B.notSynchronized
  obtain ⟨hP, hK⟩ := hv
  obtain ⟨H, hH⟩ : ∃ H, H = s.heap := ⟨_, rfl⟩
  rw [← hH] at hP ⊢
  have hl := lv_entry ([.ref mo]) (n := 1) (Nat.le_of_ble_eq_true rfl)
  rw [lg_entry_eq]
  generalize (lg_sl ([.ref mo]) ++ List.replicate (1 - (lg_sl ([.ref mo])).length) Slot.unset).toArray = ls at hl ⊢
  have hl : lv_has ls 1 [(0, .ref mo)] := hl
  refine lv_aload_n (pc := 0) hx hb dM_thrown_0 rfl (lv_at hl 0 rfl) ?_
  refine va_get (D := (dC, dI)) (cl := kCl) (C := RM) (T := TM) (N := 11) (pc := 1) hx hb hts inM hown hK hP 0 rfl rfl 0 (by decide) (hts _ wd_152) (fun _ h9 => h9) rfl dM_thrown_1 ?_
  exact W.iret (pc := 4) hx hb hr (fun t ht hW => ⟨_, rfl, rfl, ht.trans hH⟩) (fun q h => nomatch h) dM_thrown_4
set_option maxHeartbeats 4000000 in
set_option maxRecDepth 100000 in
theorem m_isPerson (l : Launch) (dC : Nat → ClassId) (dI : Nat → Nat → Nat) (mo : Nat) (nw : Nat) (kp : Nat) (mk : Nat) (co : Nat) (se : Nat) (th : Int32) (mr : Int32) (pp : Int32) : Met l yM_isPerson (.code yM_isPerson cM_isPerson 2 (some .boolean) :: aw) ({ frames := 0, cells := 0, slots := 0, locals := 0 }) (pR (dC, dI) [(mo, .inr (4, [.int th, .int mr, .ref nw, .ref kp, .int 0, .int (-1), .ref mk, .ref co, .int 0, .int 0, .ref se]))] [] [.ref mo, .int pp]) (vp_Si (fun r => (r = 1 ∧ (¬ pp < 0 ∧ ¬ (16 : Int32) ≤ pp)) ∨ (r = 0 ∧ (pp < 0 ∨ (16 : Int32) ≤ pp)))) 0 0 (fun _ => False) := by
  refine Met.ofW (cc := cM_isPerson) (maxL := 2) (ret := (some .boolean)) (by decide) rfl ?_
  intro p e s m args below meth c s₁ B hml hv
  obtain ⟨rfl, hv⟩ := hv
  have hx := B.exec
  have hb := B.bytes
  have hr := B.returns
  have hts : ∀ w ∈ aw, w.before _ s = true := fun w h => atoms_spec (ws := (.code yM_isPerson cM_isPerson 2 (some .boolean) :: aw)) B.pre w (List.mem_cons_of_mem _ h)
  have hown : s.vm.findClass RM = some m.cls := findClass_of_methodNamed B.named
  have hlocks := B.notSynchronized
  obtain ⟨hP, hK⟩ := hv
  obtain ⟨H, hH⟩ : ∃ H, H = s.heap := ⟨_, rfl⟩
  rw [← hH] at hP ⊢
  have hl := lv_entry ([.ref mo, .int pp]) (n := 2) (Nat.le_of_ble_eq_true rfl)
  rw [lg_entry_eq]
  generalize (lg_sl ([.ref mo, .int pp]) ++ List.replicate (2 - (lg_sl ([.ref mo, .int pp])).length) Slot.unset).toArray = ls at hl ⊢
  have hl : lv_has ls 2 [(0, .ref mo), (1, .int pp)] := hl
  refine lv_iload_n (pc := 0) hx hb dM_isPerson_0 rfl (lv_at hl 1 rfl) ?_
  refine lv_if_lt (pc := 1) (tgt := 14) hx hb dM_isPerson_1 rfl (fun h1 => ?_) (fun h1 => ?_)
  · refine lv_iconst (pc := 14) (v := 0) hx hb dM_isPerson_14 (by decide) ?_
    exact W.zret (pc := 15) hx hb hr rfl (fun t ht hW => ⟨_, rfl, (Or.inr ⟨rfl, by first | assumption | exact ⟨by assumption, by assumption⟩ | exact Or.inl (by assumption) | exact Or.inr (by assumption) | exact Or.inr (Or.inl (by assumption)) | exact Or.inr (Or.inr (by assumption)) | simp_all⟩), ht.trans hH⟩) (fun q h => nomatch h) dM_isPerson_15
  · refine lv_iload_n (pc := 4) hx hb dM_isPerson_4 rfl (lv_at hl 1 rfl) ?_
    refine lv_bipush (pc := 5) (v := 16) hx hb dM_isPerson_5 (by decide) ?_
    refine lv_icmp_ge (pc := 7) (tgt := 14) hx hb dM_isPerson_7 rfl (fun h2 => ?_) (fun h2 => ?_)
    · refine lv_iconst (pc := 14) (v := 0) hx hb dM_isPerson_14 (by decide) ?_
      exact W.zret (pc := 15) hx hb hr rfl (fun t ht hW => ⟨_, rfl, (Or.inr ⟨rfl, by first | assumption | exact ⟨by assumption, by assumption⟩ | exact Or.inl (by assumption) | exact Or.inr (by assumption) | exact Or.inr (Or.inl (by assumption)) | exact Or.inr (Or.inr (by assumption)) | simp_all⟩), ht.trans hH⟩) (fun q h => nomatch h) dM_isPerson_15
    · refine lv_iconst (pc := 10) (v := 1) hx hb dM_isPerson_10 (by decide) ?_
      refine lv_goto (pc := 11) (tgt := 15) hx hb dM_isPerson_11 rfl ?_
      exact W.zret (pc := 15) hx hb hr rfl (fun t ht hW => ⟨_, rfl, (Or.inl ⟨rfl, by first | assumption | exact ⟨by assumption, by assumption⟩ | exact Or.inl (by assumption) | exact Or.inr (by assumption) | exact Or.inr (Or.inl (by assumption)) | exact Or.inr (Or.inr (by assumption)) | simp_all⟩), ht.trans hH⟩) (fun q h => nomatch h) dM_isPerson_15
set_option maxHeartbeats 4000000 in
set_option maxRecDepth 100000 in
theorem m_rights (l : Launch) (dC : Nat → ClassId) (dI : Nat → Nat → Nat) (mo : Nat) (nw : Nat) (kp : Nat) (mk : Nat) (co : Nat) (se : Nat) (th : Int32) (mr : Int32) (cN : ClassId) (pp : Int32) : Met l yM_rights (.code yM_rights cM_rights 2 (some .int) :: aw) ({ frames := 1, cells := 0, slots := 0, locals := 21 }) (pR (dC, dI) [(mo, .inr (4, [.int th, .int mr, .ref nw, .ref kp, .int 0, .int (-1), .ref mk, .ref co, .int 0, .int 0, .ref se])), (nw, .inl (cN, 25240, .inl now0))] [(cN, .int)] [.ref mo, .int pp]) (vp_Si (fun r => r = 0)) 0 0 (fun _ => False) := by
  refine Met.ofW (cc := cM_rights) (maxL := 2) (ret := (some .int)) (by decide) rfl ?_
  intro p e s m args below meth c s₁ B hml hv
  obtain ⟨rfl, hv⟩ := hv
  have hx := B.exec
  have hb := B.bytes
  have hr := B.returns
  have hts : ∀ w ∈ aw, w.before _ s = true := fun w h => atoms_spec (ws := (.code yM_rights cM_rights 2 (some .int) :: aw)) B.pre w (List.mem_cons_of_mem _ h)
  have hown : s.vm.findClass RM = some m.cls := findClass_of_methodNamed B.named
  have hlocks := B.notSynchronized
  obtain ⟨hP, hK⟩ := hv
  obtain ⟨H, hH⟩ : ∃ H, H = s.heap := ⟨_, rfl⟩
  rw [← hH] at hP ⊢
  have hl := lv_entry ([.ref mo, .int pp]) (n := 2) (Nat.le_of_ble_eq_true rfl)
  rw [lg_entry_eq]
  generalize (lg_sl ([.ref mo, .int pp]) ++ List.replicate (2 - (lg_sl ([.ref mo, .int pp])).length) Slot.unset).toArray = ls at hl ⊢
  have hl : lv_has ls 2 [(0, .ref mo), (1, .int pp)] := hl
  refine lv_aload_n (pc := 0) hx hb dM_rights_0 rfl (lv_at hl 0 rfl) ?_
  refine lv_iload_n (pc := 1) hx hb dM_rights_1 rfl (lv_at hl 1 rfl) ?_
  refine vp_callSi (pc := 2) (W.runV (As := [.int pp]) (rest := []) ⟨hx, hb, hml, hown, hts⟩ (m_isPerson l dC dI mo nw kp mk co se th mr pp) (cwV 1 hts (gV wd_154 wd_155 wd_156 wd_157 wd_153) rfl rfl rfl (by decide +kernel) ⟨Nat.le_of_ble_eq_true rfl, Nat.le_of_ble_eq_true rfl⟩) ⟨pR_blind, va_recv (q := (RM, TM, 11)) (q0 := 0) (ci := 4) hK hP rfl rfl, pR_pre (hP.sub (ws' := [(mo, .inr (4, [.int th, .int mr, .ref nw, .ref kp, .int 0, .int (-1), .ref mk, .ref co, .int 0, .int 0, .ref se]))]) [0] rfl) (hK.sub (tys' := []) [] rfl)⟩ rfl rfl hl.1 rfl (lv_room (Nat.le_of_ble_eq_true rfl)) dM_rights_2 ⟨Nat.le_of_ble_eq_true rfl, Nat.le_of_ble_eq_true rfl⟩) (fun r1 hr2 => ?_)
  obtain ⟨rfl, h3⟩ | ⟨rfl, h3⟩ : (r1 = 1 ∧ (¬ pp < 0 ∧ ¬ (16 : Int32) ≤ pp)) ∨ (r1 = 0 ∧ (pp < 0 ∨ (16 : Int32) ≤ pp)) := hr2
  · refine lv_if_eq (pc := 5) (tgt := 17) hx hb dM_rights_5 rfl (fun h4 => absurd h4 (by decide)) (fun h4 => ?_)
    refine lv_aload_n (pc := 8) hx hb dM_rights_8 rfl (lv_at hl 0 rfl) ?_
    refine va_get (D := (dC, dI)) (cl := kCl) (C := RM) (T := TM) (N := 11) (pc := 9) hx hb hts inM hown hK hP 0 rfl rfl 2 (by decide) (hts _ wd_158) (fun _ h9 => h9) rfl dM_rights_9 ?_
    refine lv_iload_n (pc := 12) hx hb dM_rights_12 rfl (lv_at hl 1 rfl) ?_
    refine va_iald (D := (dC, dI)) (cl := kCl) (pc := 13) hx hb hK hP 1 0 rfl rfl (vin_le (vin_of (n := 16) (k := 16) (by decide) h3.1 h3.2) (by decide)) dM_rights_13 ?_
    refine W.eq (g2 := F0 m 14 ls [.int (now0 (pp : Int32).toNatClampNeg)]) rfl ?_
    refine lv_topi (fun z5 hz6 => ?_)
    obtain rfl : z5 = 0 := hz6.trans (now0_p (vin_of (k := 16) (by decide) h3.1 h3.2))
    refine lv_goto (pc := 14) (tgt := 18) hx hb dM_rights_14 rfl ?_
    exact W.iret (pc := 18) hx hb hr (fun t ht hW => ⟨_, rfl, rfl, ht.trans hH⟩) (fun q h => nomatch h) dM_rights_18
  · refine lv_if_eq (pc := 5) (tgt := 17) hx hb dM_rights_5 rfl (fun h7 => ?_) (fun h7 => absurd h7 (by decide))
    refine lv_iconst (pc := 17) (v := 0) hx hb dM_rights_17 (by decide) ?_
    exact W.iret (pc := 18) hx hb hr (fun t ht hW => ⟨_, rfl, rfl, ht.trans hH⟩) (fun q h => nomatch h) dM_rights_18
set_option maxHeartbeats 4000000 in
set_option maxRecDepth 100000 in
theorem m_isDrawing (l : Launch) (dC : Nat → ClassId) (dI : Nat → Nat → Nat) (mo : Nat) (nw : Nat) (kp : Nat) (mk : Nat) (co : Nat) (se : Nat) (th : Int32) (mr : Int32) (cN : ClassId) (dd : Int32) : Met l yM_isDrawing (.code yM_isDrawing cM_isDrawing 2 (some .boolean) :: aw) ({ frames := 0, cells := 0, slots := 0, locals := 0 }) (pR (dC, dI) [(mo, .inr (4, [.int th, .int mr, .ref nw, .ref kp, .int 0, .int (-1), .ref mk, .ref co, .int 0, .int 0, .ref se])), (nw, .inl (cN, 25240, .inl now0))] [(cN, .int)] [.ref mo, .int dd]) (vp_Si (fun r => r = 0)) 0 0 (fun _ => False) := by
  refine Met.ofW (cc := cM_isDrawing) (maxL := 2) (ret := (some .boolean)) (by decide) rfl ?_
  intro p e s m args below meth c s₁ B hml hv
  obtain ⟨rfl, hv⟩ := hv
  have hx := B.exec
  have hb := B.bytes
  have hr := B.returns
  have hts : ∀ w ∈ aw, w.before _ s = true := fun w h => atoms_spec (ws := (.code yM_isDrawing cM_isDrawing 2 (some .boolean) :: aw)) B.pre w (List.mem_cons_of_mem _ h)
  have hown : s.vm.findClass RM = some m.cls := findClass_of_methodNamed B.named
  have hlocks := B.notSynchronized
  obtain ⟨hP, hK⟩ := hv
  obtain ⟨H, hH⟩ : ∃ H, H = s.heap := ⟨_, rfl⟩
  rw [← hH] at hP ⊢
  have hl := lv_entry ([.ref mo, .int dd]) (n := 2) (Nat.le_of_ble_eq_true rfl)
  rw [lg_entry_eq]
  generalize (lg_sl ([.ref mo, .int dd]) ++ List.replicate (2 - (lg_sl ([.ref mo, .int dd])).length) Slot.unset).toArray = ls at hl ⊢
  have hl : lv_has ls 2 [(0, .ref mo), (1, .int dd)] := hl
  refine lv_iload_n (pc := 0) hx hb dM_isDrawing_0 rfl (lv_at hl 1 rfl) ?_
  refine lv_if_lt (pc := 1) (tgt := 19) hx hb dM_isDrawing_1 rfl (fun h1 => ?_) (fun h1 => ?_)
  · refine lv_iconst (pc := 19) (v := 0) hx hb dM_isDrawing_19 (by decide) ?_
    exact W.zret (pc := 20) hx hb hr rfl (fun t ht hW => ⟨_, rfl, rfl, ht.trans hH⟩) (fun q h => nomatch h) dM_isDrawing_20
  · refine lv_iload_n (pc := 4) hx hb dM_isDrawing_4 rfl (lv_at hl 1 rfl) ?_
    refine lv_aload_n (pc := 5) hx hb dM_isDrawing_5 rfl (lv_at hl 0 rfl) ?_
    refine va_get (D := (dC, dI)) (cl := kCl) (C := RM) (T := TM) (N := 11) (pc := 6) hx hb hts inM hown hK hP 0 rfl rfl 2 (by decide) (hts _ wd_158) (fun _ h9 => h9) rfl dM_isDrawing_6 ?_
    refine lv_bipush (pc := 9) (v := 16) hx hb dM_isDrawing_9 (by decide) ?_
    refine va_iald (D := (dC, dI)) (cl := kCl) (pc := 11) hx hb hK hP 1 0 rfl rfl (vp_in_lit 16 25240 (by decide)) dM_isDrawing_11 ?_
    refine W.eq (g2 := F0 m 12 ls [.int 0, .int dd]) rfl ?_
    refine lv_icmp_ge (pc := 12) (tgt := 19) hx hb dM_isDrawing_12 rfl (fun h2 => ?_) (fun h2 => absurd (Int32.not_lt.mp h1) h2)
    refine lv_iconst (pc := 19) (v := 0) hx hb dM_isDrawing_19 (by decide) ?_
    exact W.zret (pc := 20) hx hb hr rfl (fun t ht hW => ⟨_, rfl, rfl, ht.trans hH⟩) (fun q h => nomatch h) dM_isDrawing_20
set_option maxHeartbeats 4000000 in
set_option maxRecDepth 100000 in
theorem m_isRevision (l : Launch) (dC : Nat → ClassId) (dI : Nat → Nat → Nat) (mo : Nat) (nw : Nat) (kp : Nat) (mk : Nat) (co : Nat) (se : Nat) (th : Int32) (mr : Int32) (cN : ClassId) (dd : Int32) (vv : Int32) : Met l yM_isRevision (.code yM_isRevision cM_isRevision 3 (some .boolean) :: aw) ({ frames := 1, cells := 0, slots := 0, locals := 21 }) (pR (dC, dI) [(mo, .inr (4, [.int th, .int mr, .ref nw, .ref kp, .int 0, .int (-1), .ref mk, .ref co, .int 0, .int 0, .ref se])), (nw, .inl (cN, 25240, .inl now0))] [(cN, .int)] [.ref mo, .int dd, .int vv]) (vp_Si (fun r => r = 0)) 0 0 (fun _ => False) := by
  refine Met.ofW (cc := cM_isRevision) (maxL := 3) (ret := (some .boolean)) (by decide) rfl ?_
  intro p e s m args below meth c s₁ B hml hv
  obtain ⟨rfl, hv⟩ := hv
  have hx := B.exec
  have hb := B.bytes
  have hr := B.returns
  have hts : ∀ w ∈ aw, w.before _ s = true := fun w h => atoms_spec (ws := (.code yM_isRevision cM_isRevision 3 (some .boolean) :: aw)) B.pre w (List.mem_cons_of_mem _ h)
  have hown : s.vm.findClass RM = some m.cls := findClass_of_methodNamed B.named
  have hlocks := B.notSynchronized
  obtain ⟨hP, hK⟩ := hv
  obtain ⟨H, hH⟩ : ∃ H, H = s.heap := ⟨_, rfl⟩
  rw [← hH] at hP ⊢
  have hl := lv_entry ([.ref mo, .int dd, .int vv]) (n := 3) (Nat.le_of_ble_eq_true rfl)
  rw [lg_entry_eq]
  generalize (lg_sl ([.ref mo, .int dd, .int vv]) ++ List.replicate (3 - (lg_sl ([.ref mo, .int dd, .int vv])).length) Slot.unset).toArray = ls at hl ⊢
  have hl : lv_has ls 3 [(0, .ref mo), (1, .int dd), (2, .int vv)] := hl
  refine lv_aload_n (pc := 0) hx hb dM_isRevision_0 rfl (lv_at hl 0 rfl) ?_
  refine lv_iload_n (pc := 1) hx hb dM_isRevision_1 rfl (lv_at hl 1 rfl) ?_
  refine vp_callSi (pc := 2) (W.runV (As := [.int dd]) (rest := []) ⟨hx, hb, hml, hown, hts⟩ (m_isDrawing l dC dI mo nw kp mk co se th mr cN dd) (cwV 1 hts (gV wd_160 wd_161 wd_162 wd_157 wd_159) rfl rfl rfl (by decide +kernel) ⟨Nat.le_of_ble_eq_true rfl, Nat.le_of_ble_eq_true rfl⟩) ⟨pR_blind, va_recv (q := (RM, TM, 11)) (q0 := 0) (ci := 4) hK hP rfl rfl, pR_pre (hP.sub (ws' := [(mo, .inr (4, [.int th, .int mr, .ref nw, .ref kp, .int 0, .int (-1), .ref mk, .ref co, .int 0, .int 0, .ref se])), (nw, .inl (cN, 25240, .inl now0))]) [0, 1] rfl) (hK.sub (tys' := [(cN, .int)]) [0] rfl)⟩ rfl rfl hl.1 rfl (lv_room (Nat.le_of_ble_eq_true rfl)) dM_isRevision_2 ⟨Nat.le_of_ble_eq_true rfl, Nat.le_of_ble_eq_true rfl⟩) (fun r1 hr2 => ?_)
  obtain rfl : r1 = 0 := hr2
  refine lv_if_eq (pc := 5) (tgt := 25) hx hb dM_isRevision_5 rfl (fun h3 => ?_) (fun h3 => absurd h3 (by decide))
  refine lv_iconst (pc := 25) (v := 0) hx hb dM_isRevision_25 (by decide) ?_
  exact W.zret (pc := 26) hx hb hr rfl (fun t ht hW => ⟨_, rfl, rfl, ht.trans hH⟩) (fun q h => nomatch h) dM_isRevision_26
set_option maxHeartbeats 4000000 in
set_option maxRecDepth 100000 in
theorem m_baselineAt (l : Launch) (dC : Nat → ClassId) (dI : Nat → Nat → Nat) (mo : Nat) (nw : Nat) (kp : Nat) (mk : Nat) (co : Nat) (se : Nat) (th : Int32) (mr : Int32) (nn : Int32) : Met l yM_baselineAt (.code yM_baselineAt cM_baselineAt 2 (some .int) :: aw) ({ frames := 0, cells := 0, slots := 0, locals := 0 }) (pR (dC, dI) [(mo, .inr (4, [.int th, .int mr, .ref nw, .ref kp, .int 0, .int (-1), .ref mk, .ref co, .int 0, .int 0, .ref se]))] [] [.ref mo, .int nn]) (vp_Si (fun r => r = (24980 + 26 * nn))) 0 0 (fun _ => False) := by
  refine Met.ofW (cc := cM_baselineAt) (maxL := 2) (ret := (some .int)) (by decide) rfl ?_
  intro p e s m args below meth c s₁ B hml hv
  obtain ⟨rfl, hv⟩ := hv
  have hx := B.exec
  have hb := B.bytes
  have hr := B.returns
  have hts : ∀ w ∈ aw, w.before _ s = true := fun w h => atoms_spec (ws := (.code yM_baselineAt cM_baselineAt 2 (some .int) :: aw)) B.pre w (List.mem_cons_of_mem _ h)
  have hown : s.vm.findClass RM = some m.cls := findClass_of_methodNamed B.named
  have hlocks := B.notSynchronized
  obtain ⟨hP, hK⟩ := hv
  obtain ⟨H, hH⟩ : ∃ H, H = s.heap := ⟨_, rfl⟩
  rw [← hH] at hP ⊢
  have hl := lv_entry ([.ref mo, .int nn]) (n := 2) (Nat.le_of_ble_eq_true rfl)
  rw [lg_entry_eq]
  generalize (lg_sl ([.ref mo, .int nn]) ++ List.replicate (2 - (lg_sl ([.ref mo, .int nn])).length) Slot.unset).toArray = ls at hl ⊢
  have hl : lv_has ls 2 [(0, .ref mo), (1, .int nn)] := hl
  refine lv_sipush (pc := 0) (v := 24980) hx hb dM_baselineAt_0 (by decide) ?_
  refine lv_bipush (pc := 3) (v := 26) hx hb dM_baselineAt_3 (by decide) ?_
  refine lv_iload_n (pc := 5) hx hb dM_baselineAt_5 rfl (lv_at hl 1 rfl) ?_
  refine lv_imul (pc := 6) hx hb dM_baselineAt_6 ?_
  refine lv_iadd (pc := 7) hx hb dM_baselineAt_7 ?_
  exact W.iret (pc := 8) hx hb hr (fun t ht hW => ⟨_, rfl, rfl, ht.trans hH⟩) (fun q h => nomatch h) dM_baselineAt_8
set_option maxHeartbeats 4000000 in
set_option maxRecDepth 100000 in
theorem m_parts (l : Launch) (dC : Nat → ClassId) (dI : Nat → Nat → Nat) : Met l yM_parts (.code yM_parts cM_parts 1 (some .int) :: aw) ({ frames := 0, cells := 0, slots := 0, locals := 0 }) (pR (dC, dI) [] [] [.int 0]) (vp_Si (fun r => r = 0)) 0 0 (fun _ => False) := by
  refine Met.ofW (cc := cM_parts) (maxL := 1) (ret := (some .int)) (by decide) rfl ?_
  intro p e s m args below meth c s₁ B hml hv
  obtain ⟨rfl, hv⟩ := hv
  have hx := B.exec
  have hb := B.bytes
  have hr := B.returns
  have hts : ∀ w ∈ aw, w.before _ s = true := fun w h => atoms_spec (ws := (.code yM_parts cM_parts 1 (some .int) :: aw)) B.pre w (List.mem_cons_of_mem _ h)
  have hown : s.vm.findClass RM = some m.cls := findClass_of_methodNamed B.named
  have hlocks := B.notSynchronized
  obtain ⟨hP, hK⟩ := hv
  obtain ⟨H, hH⟩ : ∃ H, H = s.heap := ⟨_, rfl⟩
  rw [← hH] at hP ⊢
  have hl := lv_entry ([.int 0]) (n := 1) (Nat.le_of_ble_eq_true rfl)
  rw [lg_entry_eq]
  generalize (lg_sl ([.int 0]) ++ List.replicate (1 - (lg_sl ([.int 0])).length) Slot.unset).toArray = ls at hl ⊢
  have hl : lv_has ls 1 [(0, .int 0)] := hl
  refine lv_iload_n (pc := 0) hx hb dM_parts_0 rfl (lv_at hl 0 rfl) ?_
  refine lv_bipush (pc := 1) (v := 7) hx hb dM_parts_1 (by decide) ?_
  refine lv_iadd (pc := 3) hx hb dM_parts_3 ?_
  refine lv_topi (fun z1 hz2 => ?_)
  obtain rfl : z1 = 7 := hz2.trans (by decide)
  refine lv_bipush (pc := 4) (v := 8) hx hb dM_parts_4 (by decide) ?_
  refine lv_idiv (pc := 6) hx hb dM_parts_6 (by decide) ?_
  refine lv_topi (fun z3 hz4 => ?_)
  obtain rfl : z3 = 0 := hz4.trans (by decide)
  exact W.iret (pc := 7) hx hb hr (fun t ht hW => ⟨_, rfl, rfl, ht.trans hH⟩) (fun q h => nomatch h) dM_parts_7
set_option maxHeartbeats 4000000 in
set_option maxRecDepth 100000 in
theorem m_least (l : Launch) (dC : Nat → ClassId) (dI : Nat → Nat → Nat) (ba : Int32) (nu : Int32) (be : Int32) : Met l yM_least (.code yM_least cM_least 3 (some .int) :: aw) ({ frames := 0, cells := 0, slots := 0, locals := 0 }) (pR (dC, dI) [] [] [.int ba, .int nu, .int be]) (vp_Si (fun r => r = (lst ba nu be))) 0 0 (fun _ => False) := by
  refine Met.ofW (cc := cM_least) (maxL := 3) (ret := (some .int)) (by decide) rfl ?_
  intro p e s m args below meth c s₁ B hml hv
  obtain ⟨rfl, hv⟩ := hv
  have hx := B.exec
  have hb := B.bytes
  have hr := B.returns
  have hts : ∀ w ∈ aw, w.before _ s = true := fun w h => atoms_spec (ws := (.code yM_least cM_least 3 (some .int) :: aw)) B.pre w (List.mem_cons_of_mem _ h)
  have hown : s.vm.findClass RM = some m.cls := findClass_of_methodNamed B.named
  have hlocks := B.notSynchronized
  obtain ⟨hP, hK⟩ := hv
  obtain ⟨H, hH⟩ : ∃ H, H = s.heap := ⟨_, rfl⟩
  rw [← hH] at hP ⊢
  have hl := lv_entry ([.int ba, .int nu, .int be]) (n := 3) (Nat.le_of_ble_eq_true rfl)
  rw [lg_entry_eq]
  generalize (lg_sl ([.int ba, .int nu, .int be]) ++ List.replicate (3 - (lg_sl ([.int ba, .int nu, .int be])).length) Slot.unset).toArray = ls at hl ⊢
  have hl : lv_has ls 3 [(0, .int ba), (1, .int nu), (2, .int be)] := hl
  refine lv_iload_n (pc := 0) hx hb dM_least_0 rfl (lv_at hl 0 rfl) ?_
  refine lv_if_eq (pc := 1) (tgt := 17) hx hb dM_least_1 rfl (fun h1 => ?_) (fun h1 => ?_)
  · refine lv_iload_n (pc := 17) hx hb dM_least_17 rfl (lv_at hl 2 rfl) ?_
    exact W.iret (pc := 18) hx hb hr (fun t ht hW => ⟨_, rfl, by rw [h1]; exact lst_0, ht.trans hH⟩) (fun q h => nomatch h) dM_least_18
  · refine lv_iload_n (pc := 4) hx hb dM_least_4 rfl (lv_at hl 2 rfl) ?_
    refine lv_if_eq (pc := 5) (tgt := 13) hx hb dM_least_5 rfl (fun h2 => ?_) (fun h2 => ?_)
    · refine lv_iload_n (pc := 13) hx hb dM_least_13 rfl (lv_at hl 1 rfl) ?_
      refine lv_goto (pc := 14) (tgt := 18) hx hb dM_least_14 rfl ?_
      exact W.iret (pc := 18) hx hb hr (fun t ht hW => ⟨_, rfl, by rw [h2]; exact lst_n h1, ht.trans hH⟩) (fun q h => nomatch h) dM_least_18
    · refine lv_iload_n (pc := 8) hx hb dM_least_8 rfl (lv_at hl 1 rfl) ?_
      refine lv_iload_n (pc := 9) hx hb dM_least_9 rfl (lv_at hl 2 rfl) ?_
      refine lv_icmp_ge (pc := 10) (tgt := 17) hx hb dM_least_10 rfl (fun h3 => ?_) (fun h3 => ?_)
      · refine lv_iload_n (pc := 17) hx hb dM_least_17 rfl (lv_at hl 2 rfl) ?_
        exact W.iret (pc := 18) hx hb hr (fun t ht hW => ⟨_, rfl, lst_g h1 h2 (Int32.not_lt.mpr h3), ht.trans hH⟩) (fun q h => nomatch h) dM_least_18
      · refine lv_iload_n (pc := 13) hx hb dM_least_13 rfl (lv_at hl 1 rfl) ?_
        refine lv_goto (pc := 14) (tgt := 18) hx hb dM_least_14 rfl ?_
        exact W.iret (pc := 18) hx hb hr (fun t ht hW => ⟨_, rfl, lst_l h1 h2 (Int32.not_le.mp h3), ht.trans hH⟩) (fun q h => nomatch h) dM_least_18
set_option maxHeartbeats 4000000 in
set_option maxRecDepth 100000 in
theorem m_allRevisions (l : Launch) (dC : Nat → ClassId) (dI : Nat → Nat → Nat) (mo : Nat) (nw : Nat) (kp : Nat) (mk : Nat) (co : Nat) (se : Nat) (th : Int32) (mr : Int32) (cN : ClassId) : Met l yM_allRevisions (.code yM_allRevisions cM_allRevisions 3 (some .int) :: aw) ({ frames := 0, cells := 0, slots := 0, locals := 0 }) (pR (dC, dI) [(mo, .inr (4, [.int th, .int mr, .ref nw, .ref kp, .int 0, .int (-1), .ref mk, .ref co, .int 0, .int 0, .ref se])), (nw, .inl (cN, 25240, .inl now0))] [(cN, .int)] [.ref mo]) (vp_Si (fun r => r = 0)) 0 0 (fun _ => False) := by
  refine Met.ofW (cc := cM_allRevisions) (maxL := 3) (ret := (some .int)) (by decide) rfl ?_
  intro p e s m args below meth c s₁ B hml hv
  obtain ⟨rfl, hv⟩ := hv
  have hx := B.exec
  have hb := B.bytes
  have hr := B.returns
  have hts : ∀ w ∈ aw, w.before _ s = true := fun w h => atoms_spec (ws := (.code yM_allRevisions cM_allRevisions 3 (some .int) :: aw)) B.pre w (List.mem_cons_of_mem _ h)
  have hown : s.vm.findClass RM = some m.cls := findClass_of_methodNamed B.named
  have hlocks := B.notSynchronized
  obtain ⟨hP, hK⟩ := hv
  obtain ⟨H, hH⟩ : ∃ H, H = s.heap := ⟨_, rfl⟩
  rw [← hH] at hP ⊢
  have hl := lv_entry ([.ref mo]) (n := 3) (Nat.le_of_ble_eq_true rfl)
  rw [lg_entry_eq]
  generalize (lg_sl ([.ref mo]) ++ List.replicate (3 - (lg_sl ([.ref mo])).length) Slot.unset).toArray = ls at hl ⊢
  have hl : lv_has ls 3 [(0, .ref mo)] := hl
  refine lv_iconst (pc := 0) (v := 0) hx hb dM_allRevisions_0 (by decide) ?_
  refine lv_istore_n (pc := 1) hx hb dM_allRevisions_1 rfl hl (by decide) rfl (fun ls hl => ?_)
  have hl : lv_has ls 3 [(1, .int 0), (0, .ref mo)] := hl
  refine lv_iconst (pc := 2) (v := 0) hx hb dM_allRevisions_2 (by decide) ?_
  refine lv_istore_n (pc := 3) hx hb dM_allRevisions_3 rfl hl (by decide) rfl (fun ls hl => ?_)
  have hl : lv_has ls 3 [(2, .int 0), (1, .int 0), (0, .ref mo)] := hl
  refine lv_iload_n (pc := 4) hx hb dM_allRevisions_4 rfl (lv_at hl 0 rfl) ?_
  refine lv_aload_n (pc := 5) hx hb dM_allRevisions_5 rfl (lv_at hl 2 rfl) ?_
  refine va_get (D := (dC, dI)) (cl := kCl) (C := RM) (T := TM) (N := 11) (pc := 6) hx hb hts inM hown hK hP 0 rfl rfl 2 (by decide) (hts _ wd_158) (fun _ h9 => h9) rfl dM_allRevisions_6 ?_
  refine lv_bipush (pc := 9) (v := 16) hx hb dM_allRevisions_9 (by decide) ?_
  refine va_iald (D := (dC, dI)) (cl := kCl) (pc := 11) hx hb hK hP 1 0 rfl rfl (vp_in_lit 16 25240 (by decide)) dM_allRevisions_11 ?_
  refine W.eq (g2 := F0 m 12 ls [.int 0, .int 0]) rfl ?_
  refine lv_icmp_ge (pc := 12) (tgt := 29) hx hb dM_allRevisions_12 rfl (fun h1 => ?_) (fun h1 => absurd h1 (by decide))
  refine lv_iload_n (pc := 29) hx hb dM_allRevisions_29 rfl (lv_at hl 1 rfl) ?_
  exact W.iret (pc := 30) hx hb hr (fun t ht hW => ⟨_, rfl, rfl, ht.trans hH⟩) (fun q h => nomatch h) dM_allRevisions_30
set_option maxHeartbeats 4000000 in
set_option maxRecDepth 100000 in
theorem m_may (l : Launch) (dC : Nat → ClassId) (dI : Nat → Nat → Nat) (sz : Nat) (mo : Nat) (nw : Nat) (kp : Nat) (mk : Nat) (co : Nat) (se : Nat) (th : Int32) (mr : Int32) (cN : ClassId) (rf : Int32) (kk : Int32) (hf : ¬ rf = 0) (hg : 0 < rf) : Met l yM_may (.code yM_may cM_may 4 (some .boolean) :: aw) ({ frames := 0, cells := 0, slots := 0, locals := 0 }) (pW (dC, dI) sz [(mo, .inr (4, [.int th, .int mr, .ref nw, .ref kp, .int 0, .int (-1), .ref mk, .ref co, .int 0, .int 0, .ref se])), (nw, .inl (cN, 25240, .inl now0))] [(cN, .int)] [.ref mo, .int rf, .int kk]) (va_Qi (fun r (_ : Unit) => r = 0) (fun _ t => wW (dC, dI) (va_A [(mo, .inr (4, [.int th, .int mr, .ref nw, .ref kp, .int 0, .int (-1), .ref mk, .ref co, .int 0, .int 0, .ref se])), (nw, .inl (cN, 25240, .inl now0))] sz) [(mo, .inr (4, [.int 0, .int rf, .ref nw, .ref kp, .int 0, .int (-1), .ref mk, .ref co, .int 0, .int 0, .ref se])), (nw, .inl (cN, 25240, .inl now0))] [(cN, .int)] t) (va_A [(mo, .inr (4, [.int th, .int mr, .ref nw, .ref kp, .int 0, .int (-1), .ref mk, .ref co, .int 0, .int 0, .ref se])), (nw, .inl (cN, 25240, .inl now0))] sz)) 0 0 (va_A [(mo, .inr (4, [.int th, .int mr, .ref nw, .ref kp, .int 0, .int (-1), .ref mk, .ref co, .int 0, .int 0, .ref se])), (nw, .inl (cN, 25240, .inl now0))] sz) := by
  refine Met.ofW (cc := cM_may) (maxL := 4) (ret := (some .boolean)) (by decide) rfl ?_
  intro p e s m args below meth c s₁ B hml hv
  obtain ⟨rfl, hv⟩ := hv
  have hx := B.exec
  have hb := B.bytes
  have hr := B.returns
  have hts : ∀ w ∈ aw, w.before _ s = true := fun w h => atoms_spec (ws := (.code yM_may cM_may 4 (some .boolean) :: aw)) B.pre w (List.mem_cons_of_mem _ h)
  have hown : s.vm.findClass RM = some m.cls := findClass_of_methodNamed B.named
  have hlocks := B.notSynchronized
  obtain ⟨hsz, hP, hK, hD0⟩ := hv
  subst hsz
  have hD := hD0.self (sz := s.heap.size)
  generalize hAe : va_A [(mo, .inr (4, [.int th, .int mr, .ref nw, .ref kp, .int 0, .int (-1), .ref mk, .ref co, .int 0, .int 0, .ref se])), (nw, .inl (cN, 25240, .inl now0))] s.heap.size = A at hD ⊢
  have hA : ∀ q : Nat, s.heap.size ≤ q → A q := fun q h => by rw [← hAe]; exact Or.inr h
  obtain ⟨H, hH⟩ : ∃ H, H = s.heap := ⟨_, rfl⟩
  have hS : va_S A s.heap H [] := by rw [hH]; exact va_S.rf
  rw [← hH] at hP ⊢
  have hP : va_P (dC, dI) kCl [(mo, .inr (4, [.int th, .int mr, .ref nw, .ref kp, .int 0, .int (-1), .ref mk, .ref co, .int 0, .int 0, .ref se])), (nw, .inl (cN, 25240, .inl now0))] H := hP
  have hl := lv_entry ([.ref mo, .int rf, .int kk]) (n := 4) (Nat.le_of_ble_eq_true rfl)
  rw [lg_entry_eq]
  generalize (lg_sl ([.ref mo, .int rf, .int kk]) ++ List.replicate (4 - (lg_sl ([.ref mo, .int rf, .int kk])).length) Slot.unset).toArray = ls at hl ⊢
  have hl : lv_has ls 4 [(0, .ref mo), (1, .int rf), (2, .int kk)] := hl
  refine lv_iload_n (pc := 0) hx hb dM_may_0 rfl (lv_at hl 1 rfl) ?_
  refine lv_if_ne (pc := 1) (tgt := 20) hx hb dM_may_1 rfl (fun h1 => ?_) (fun h1 => absurd h1 hf)
  refine lv_iload_n (pc := 20) hx hb dM_may_20 rfl (lv_at hl 1 rfl) ?_
  refine lv_istore_n (pc := 21) hx hb dM_may_21 rfl hl (by decide) rfl (fun ls hl => ?_)
  have hl : lv_has ls 4 [(3, .int rf), (0, .ref mo), (1, .int rf), (2, .int kk)] := hl
  refine lv_aload_n (pc := 22) hx hb dM_may_22 rfl (lv_at hl 1 rfl) ?_
  refine lv_aload_n (pc := 23) hx hb dM_may_23 rfl (lv_at hl 1 rfl) ?_
  refine va_get (D := (dC, dI)) (cl := kCl) (C := RM) (T := TM) (N := 11) (pc := 24) hx hb hts inM hown hK hP 0 rfl rfl 4 (by decide) (hts _ wd_163) (fun _ h9 => h9) rfl dM_may_24 ?_
  refine lv_if_eq (pc := 27) (tgt := 34) hx hb dM_may_27 rfl (fun h2 => ?_) (fun h2 => absurd h2 (by decide))
  refine lv_iconst (pc := 34) (v := 0) hx hb dM_may_34 (by decide) ?_
  refine va_put (D := (dC, dI)) (cl := kCl) (ci := 4) (v := .int 0) (ty := .int) (C := RM) (T := TM) (N := 11) (pc := 35) hx hb hts inM tyM tyM_ok nmM hown hK hP hD hS 0 rfl rfl 0 (by decide) (hts _ wd_152) (fun _ h9 => h9) rfl (by decide +kernel) rfl rfl (Nat.le_of_ble_eq_true rfl) dM_may_35 (fun H locs hP hD hS => ?_)
  have hP : va_P (dC, dI) kCl [(mo, .inr (4, [.int 0, .int mr, .ref nw, .ref kp, .int 0, .int (-1), .ref mk, .ref co, .int 0, .int 0, .ref se])), (nw, .inl (cN, 25240, .inl now0))] H := hP
  have hD : va_D A [(mo, .inr (4, [.int 0, .int mr, .ref nw, .ref kp, .int 0, .int (-1), .ref mk, .ref co, .int 0, .int 0, .ref se])), (nw, .inl (cN, 25240, .inl now0))] := hD
  refine lv_aload_n (pc := 38) hx hb dM_may_38 rfl (lv_at hl 1 rfl) ?_
  refine va_get (D := (dC, dI)) (cl := kCl) (C := RM) (T := TM) (N := 11) (pc := 39) hx hb hts inM hown hK hP 0 rfl rfl 4 (by decide) (hts _ wd_163) (fun _ h9 => h9) rfl dM_may_39 ?_
  refine lv_if_eq (pc := 42) (tgt := 47) hx hb dM_may_42 rfl (fun h3 => ?_) (fun h3 => absurd h3 (by decide))
  refine lv_iload_n (pc := 47) hx hb dM_may_47 rfl (lv_at hl 0 rfl) ?_
  refine lv_if_ne (pc := 48) (tgt := 79) hx hb dM_may_48 rfl (fun h4 => ?_) (fun h4 => absurd h4 hf)
  refine lv_aload_n (pc := 79) hx hb dM_may_79 rfl (lv_at hl 1 rfl) ?_
  refine lv_iload_n (pc := 80) hx hb dM_may_80 rfl (lv_at hl 0 rfl) ?_
  refine va_put (D := (dC, dI)) (cl := kCl) (ci := 4) (v := .int rf) (ty := .int) (C := RM) (T := TM) (N := 11) (pc := 81) hx hb hts inM tyM tyM_ok nmM hown hK hP hD hS 0 rfl rfl 1 (by decide) (hts _ wd_164) (fun _ h9 => h9) rfl (by decide +kernel) rfl rfl (Nat.le_of_ble_eq_true rfl) dM_may_81 (fun H locs hP hD hS => ?_)
  have hP : va_P (dC, dI) kCl [(mo, .inr (4, [.int 0, .int rf, .ref nw, .ref kp, .int 0, .int (-1), .ref mk, .ref co, .int 0, .int 0, .ref se])), (nw, .inl (cN, 25240, .inl now0))] H := hP
  have hD : va_D A [(mo, .inr (4, [.int 0, .int rf, .ref nw, .ref kp, .int 0, .int (-1), .ref mk, .ref co, .int 0, .int 0, .ref se])), (nw, .inl (cN, 25240, .inl now0))] := hD
  refine lv_iload_n (pc := 84) hx hb dM_may_84 rfl (lv_at hl 0 rfl) ?_
  refine lv_if_le (pc := 85) (tgt := 90) hx hb dM_may_85 rfl (fun h5 => absurd hg (Int32.not_lt.mpr h5)) (fun h5 => ?_)
  refine lv_iconst (pc := 88) (v := 0) hx hb dM_may_88 (by decide) ?_
  have hP9 := hP.sub (ws' := [(mo, .inr (4, [.int 0, .int rf, .ref nw, .ref kp, .int 0, .int (-1), .ref mk, .ref co, .int 0, .int 0, .ref se])), (nw, .inl (cN, 25240, .inl now0))]) [0, 1] rfl
  have hD9 := hD.sub (ws' := [(mo, .inr (4, [.int 0, .int rf, .ref nw, .ref kp, .int 0, .int (-1), .ref mk, .ref co, .int 0, .int 0, .ref se])), (nw, .inl (cN, 25240, .inl now0))]) [0, 1] (by decide) rfl
  have hK9 := hK.sub (tys' := [(cN, .int)]) [0] rfl
  exact W.zret (pc := 89) hx hb hr rfl (fun t ht hW => ⟨⟨_, (), rfl, rfl, by rw [ht]; exact hP9, va_K.moved hW.alike hK9, hD9⟩, hS.F ht⟩) hS.2.2 dM_may_89
set_option maxHeartbeats 4000000 in
set_option maxRecDepth 100000 in
theorem m_mayHere (l : Launch) (dC : Nat → ClassId) (dI : Nat → Nat → Nat) (sz : Nat) (mo : Nat) (nw : Nat) (kp : Nat) (mk : Nat) (co : Nat) (se : Nat) (th : Int32) (mr : Int32) (rf : Int32) (hf : ¬ rf = 0) : Met l yM_mayHere (.code yM_mayHere cM_mayHere 2 (some .boolean) :: aw) ({ frames := 0, cells := 0, slots := 0, locals := 0 }) (pW (dC, dI) sz [(mo, .inr (4, [.int th, .int mr, .ref nw, .ref kp, .int 0, .int (-1), .ref mk, .ref co, .int 0, .int 0, .ref se]))] [] [.ref mo, .int rf]) (va_Qi (fun r (_ : Unit) => r = 0) (fun _ t => wW (dC, dI) (va_A [(mo, .inr (4, [.int th, .int mr, .ref nw, .ref kp, .int 0, .int (-1), .ref mk, .ref co, .int 0, .int 0, .ref se]))] sz) [(mo, .inr (4, [.int 0, .int rf, .ref nw, .ref kp, .int 0, .int (-1), .ref mk, .ref co, .int 0, .int 0, .ref se]))] [] t) (va_A [(mo, .inr (4, [.int th, .int mr, .ref nw, .ref kp, .int 0, .int (-1), .ref mk, .ref co, .int 0, .int 0, .ref se]))] sz)) 0 0 (va_A [(mo, .inr (4, [.int th, .int mr, .ref nw, .ref kp, .int 0, .int (-1), .ref mk, .ref co, .int 0, .int 0, .ref se]))] sz) := by
  refine Met.ofW (cc := cM_mayHere) (maxL := 2) (ret := (some .boolean)) (by decide) rfl ?_
  intro p e s m args below meth c s₁ B hml hv
  obtain ⟨rfl, hv⟩ := hv
  have hx := B.exec
  have hb := B.bytes
  have hr := B.returns
  have hts : ∀ w ∈ aw, w.before _ s = true := fun w h => atoms_spec (ws := (.code yM_mayHere cM_mayHere 2 (some .boolean) :: aw)) B.pre w (List.mem_cons_of_mem _ h)
  have hown : s.vm.findClass RM = some m.cls := findClass_of_methodNamed B.named
  have hlocks := B.notSynchronized
  obtain ⟨hsz, hP, hK, hD0⟩ := hv
  subst hsz
  have hD := hD0.self (sz := s.heap.size)
  generalize hAe : va_A [(mo, .inr (4, [.int th, .int mr, .ref nw, .ref kp, .int 0, .int (-1), .ref mk, .ref co, .int 0, .int 0, .ref se]))] s.heap.size = A at hD ⊢
  have hA : ∀ q : Nat, s.heap.size ≤ q → A q := fun q h => by rw [← hAe]; exact Or.inr h
  obtain ⟨H, hH⟩ : ∃ H, H = s.heap := ⟨_, rfl⟩
  have hS : va_S A s.heap H [] := by rw [hH]; exact va_S.rf
  rw [← hH] at hP ⊢
  have hP : va_P (dC, dI) kCl [(mo, .inr (4, [.int th, .int mr, .ref nw, .ref kp, .int 0, .int (-1), .ref mk, .ref co, .int 0, .int 0, .ref se]))] H := hP
  have hl := lv_entry ([.ref mo, .int rf]) (n := 2) (Nat.le_of_ble_eq_true rfl)
  rw [lg_entry_eq]
  generalize (lg_sl ([.ref mo, .int rf]) ++ List.replicate (2 - (lg_sl ([.ref mo, .int rf])).length) Slot.unset).toArray = ls at hl ⊢
  have hl : lv_has ls 2 [(0, .ref mo), (1, .int rf)] := hl
  refine lv_aload_n (pc := 0) hx hb dM_mayHere_0 rfl (lv_at hl 0 rfl) ?_
  refine lv_aload_n (pc := 1) hx hb dM_mayHere_1 rfl (lv_at hl 0 rfl) ?_
  refine va_get (D := (dC, dI)) (cl := kCl) (C := RM) (T := TM) (N := 11) (pc := 2) hx hb hts inM hown hK hP 0 rfl rfl 4 (by decide) (hts _ wd_163) (fun _ h9 => h9) rfl dM_mayHere_2 ?_
  refine lv_if_eq (pc := 5) (tgt := 12) hx hb dM_mayHere_5 rfl (fun h1 => ?_) (fun h1 => absurd h1 (by decide))
  refine lv_iconst (pc := 12) (v := 0) hx hb dM_mayHere_12 (by decide) ?_
  refine va_put (D := (dC, dI)) (cl := kCl) (ci := 4) (v := .int 0) (ty := .int) (C := RM) (T := TM) (N := 11) (pc := 13) hx hb hts inM tyM tyM_ok nmM hown hK hP hD hS 0 rfl rfl 0 (by decide) (hts _ wd_152) (fun _ h9 => h9) rfl (by decide +kernel) rfl rfl (Nat.le_of_ble_eq_true rfl) dM_mayHere_13 (fun H locs hP hD hS => ?_)
  have hP : va_P (dC, dI) kCl [(mo, .inr (4, [.int 0, .int mr, .ref nw, .ref kp, .int 0, .int (-1), .ref mk, .ref co, .int 0, .int 0, .ref se]))] H := hP
  have hD : va_D A [(mo, .inr (4, [.int 0, .int mr, .ref nw, .ref kp, .int 0, .int (-1), .ref mk, .ref co, .int 0, .int 0, .ref se]))] := hD
  refine lv_aload_n (pc := 16) hx hb dM_mayHere_16 rfl (lv_at hl 0 rfl) ?_
  refine va_get (D := (dC, dI)) (cl := kCl) (C := RM) (T := TM) (N := 11) (pc := 17) hx hb hts inM hown hK hP 0 rfl rfl 4 (by decide) (hts _ wd_163) (fun _ h9 => h9) rfl dM_mayHere_17 ?_
  refine lv_if_eq (pc := 20) (tgt := 25) hx hb dM_mayHere_20 rfl (fun h2 => ?_) (fun h2 => absurd h2 (by decide))
  refine lv_aload_n (pc := 25) hx hb dM_mayHere_25 rfl (lv_at hl 0 rfl) ?_
  refine lv_iload_n (pc := 26) hx hb dM_mayHere_26 rfl (lv_at hl 1 rfl) ?_
  refine va_put (D := (dC, dI)) (cl := kCl) (ci := 4) (v := .int rf) (ty := .int) (C := RM) (T := TM) (N := 11) (pc := 27) hx hb hts inM tyM tyM_ok nmM hown hK hP hD hS 0 rfl rfl 1 (by decide) (hts _ wd_164) (fun _ h9 => h9) rfl (by decide +kernel) rfl rfl (Nat.le_of_ble_eq_true rfl) dM_mayHere_27 (fun H locs hP hD hS => ?_)
  have hP : va_P (dC, dI) kCl [(mo, .inr (4, [.int 0, .int rf, .ref nw, .ref kp, .int 0, .int (-1), .ref mk, .ref co, .int 0, .int 0, .ref se]))] H := hP
  have hD : va_D A [(mo, .inr (4, [.int 0, .int rf, .ref nw, .ref kp, .int 0, .int (-1), .ref mk, .ref co, .int 0, .int 0, .ref se]))] := hD
  refine lv_iload_n (pc := 30) hx hb dM_mayHere_30 rfl (lv_at hl 1 rfl) ?_
  refine lv_if_ne (pc := 31) (tgt := 38) hx hb dM_mayHere_31 rfl (fun h3 => ?_) (fun h3 => absurd h3 hf)
  refine lv_iconst (pc := 38) (v := 0) hx hb dM_mayHere_38 (by decide) ?_
  have hP9 := hP.sub (ws' := [(mo, .inr (4, [.int 0, .int rf, .ref nw, .ref kp, .int 0, .int (-1), .ref mk, .ref co, .int 0, .int 0, .ref se]))]) [0] rfl
  have hD9 := hD.sub (ws' := [(mo, .inr (4, [.int 0, .int rf, .ref nw, .ref kp, .int 0, .int (-1), .ref mk, .ref co, .int 0, .int 0, .ref se]))]) [0] (by decide) rfl
  have hK9 := hK.sub (tys' := []) [] rfl
  exact W.zret (pc := 39) hx hb hr rfl (fun t ht hW => ⟨⟨_, (), rfl, rfl, by rw [ht]; exact hP9, va_K.moved hW.alike hK9, hD9⟩, hS.F ht⟩) hS.2.2 dM_mayHere_39
set_option maxHeartbeats 4000000 in
set_option maxRecDepth 100000 in
theorem m_whyNot (l : Launch) (dC : Nat → ClassId) (dI : Nat → Nat → Nat) (mo : Nat) (nw : Nat) (kp : Nat) (mk : Nat) (co : Nat) (se : Nat) (th : Int32) (mr : Int32) (cN : ClassId) (dd : Int32) (pp : Int32) : Met l yM_whyNot (.code yM_whyNot cM_whyNot 4 (some .int) :: aw) ({ frames := 2, cells := 0, slots := 0, locals := 42 }) (pR (dC, dI) [(mo, .inr (4, [.int th, .int mr, .ref nw, .ref kp, .int 0, .int (-1), .ref mk, .ref co, .int 0, .int 0, .ref se])), (nw, .inl (cN, 25240, .inl now0))] [(cN, .int)] [.ref mo, .int dd, .int pp]) (vp_Si (fun r => r = 1)) 0 0 (fun _ => False) := by
  refine Met.ofW (cc := cM_whyNot) (maxL := 4) (ret := (some .int)) (by decide) rfl ?_
  intro p e s m args below meth c s₁ B hml hv
  obtain ⟨rfl, hv⟩ := hv
  have hx := B.exec
  have hb := B.bytes
  have hr := B.returns
  have hts : ∀ w ∈ aw, w.before _ s = true := fun w h => atoms_spec (ws := (.code yM_whyNot cM_whyNot 4 (some .int) :: aw)) B.pre w (List.mem_cons_of_mem _ h)
  have hown : s.vm.findClass RM = some m.cls := findClass_of_methodNamed B.named
  have hlocks := B.notSynchronized
  obtain ⟨hP, hK⟩ := hv
  obtain ⟨H, hH⟩ : ∃ H, H = s.heap := ⟨_, rfl⟩
  rw [← hH] at hP ⊢
  have hl := lv_entry ([.ref mo, .int dd, .int pp]) (n := 4) (Nat.le_of_ble_eq_true rfl)
  rw [lg_entry_eq]
  generalize (lg_sl ([.ref mo, .int dd, .int pp]) ++ List.replicate (4 - (lg_sl ([.ref mo, .int dd, .int pp])).length) Slot.unset).toArray = ls at hl ⊢
  have hl : lv_has ls 4 [(0, .ref mo), (1, .int dd), (2, .int pp)] := hl
  refine lv_aload_n (pc := 0) hx hb dM_whyNot_0 rfl (lv_at hl 0 rfl) ?_
  refine lv_iload_n (pc := 1) hx hb dM_whyNot_1 rfl (lv_at hl 1 rfl) ?_
  refine vp_callSi (pc := 2) (W.runV (As := [.int dd]) (rest := []) ⟨hx, hb, hml, hown, hts⟩ (m_isDrawing l dC dI mo nw kp mk co se th mr cN dd) (cwV 1 hts (gV wd_160 wd_161 wd_162 wd_157 wd_159) rfl rfl rfl (by decide +kernel) ⟨Nat.le_of_ble_eq_true rfl, Nat.le_of_ble_eq_true rfl⟩) ⟨pR_blind, va_recv (q := (RM, TM, 11)) (q0 := 0) (ci := 4) hK hP rfl rfl, pR_pre (hP.sub (ws' := [(mo, .inr (4, [.int th, .int mr, .ref nw, .ref kp, .int 0, .int (-1), .ref mk, .ref co, .int 0, .int 0, .ref se])), (nw, .inl (cN, 25240, .inl now0))]) [0, 1] rfl) (hK.sub (tys' := [(cN, .int)]) [0] rfl)⟩ rfl rfl hl.1 rfl (lv_room (Nat.le_of_ble_eq_true rfl)) dM_whyNot_2 ⟨Nat.le_of_ble_eq_true rfl, Nat.le_of_ble_eq_true rfl⟩) (fun r1 hr2 => ?_)
  obtain rfl : r1 = 0 := hr2
  refine lv_istore_n (pc := 5) hx hb dM_whyNot_5 rfl hl (by decide) rfl (fun ls hl => ?_)
  have hl : lv_has ls 4 [(3, .int 0), (0, .ref mo), (1, .int dd), (2, .int pp)] := hl
  refine lv_aload_n (pc := 6) hx hb dM_whyNot_6 rfl (lv_at hl 1 rfl) ?_
  refine lv_iload_n (pc := 7) hx hb dM_whyNot_7 rfl (lv_at hl 3 rfl) ?_
  refine vp_callSi (pc := 8) (W.runV (As := [.int pp]) (rest := []) ⟨hx, hb, hml, hown, hts⟩ (m_rights l dC dI mo nw kp mk co se th mr cN pp) (cwV 1 hts (gV wd_166 wd_167 wd_168 wd_157 wd_165) rfl rfl rfl (by decide +kernel) ⟨Nat.le_of_ble_eq_true rfl, Nat.le_of_ble_eq_true rfl⟩) ⟨pR_blind, va_recv (q := (RM, TM, 11)) (q0 := 0) (ci := 4) hK hP rfl rfl, pR_pre (hP.sub (ws' := [(mo, .inr (4, [.int th, .int mr, .ref nw, .ref kp, .int 0, .int (-1), .ref mk, .ref co, .int 0, .int 0, .ref se])), (nw, .inl (cN, 25240, .inl now0))]) [0, 1] rfl) (hK.sub (tys' := [(cN, .int)]) [0] rfl)⟩ rfl rfl hl.1 rfl (lv_room (Nat.le_of_ble_eq_true rfl)) dM_whyNot_8 ⟨Nat.le_of_ble_eq_true rfl, Nat.le_of_ble_eq_true rfl⟩) (fun r3 hr4 => ?_)
  obtain rfl : r3 = 0 := hr4
  refine lv_if_ne (pc := 11) (tgt := 18) hx hb dM_whyNot_11 rfl (fun h5 => absurd h5 (by decide)) (fun h5 => ?_)
  refine lv_iconst (pc := 14) (v := 1) hx hb dM_whyNot_14 (by decide) ?_
  refine lv_goto (pc := 15) (tgt := 19) hx hb dM_whyNot_15 rfl ?_
  refine lv_iconst (pc := 19) (v := 1) hx hb dM_whyNot_19 (by decide) ?_
  refine lv_iload_n (pc := 20) hx hb dM_whyNot_20 rfl (lv_at hl 0 rfl) ?_
  refine lv_if_ne (pc := 21) (tgt := 28) hx hb dM_whyNot_21 rfl (fun h6 => absurd h6 (by decide)) (fun h6 => ?_)
  refine lv_iconst (pc := 24) (v := 1) hx hb dM_whyNot_24 (by decide) ?_
  refine lv_goto (pc := 25) (tgt := 29) hx hb dM_whyNot_25 rfl ?_
  refine lv_bipush (pc := 29) (v := 7) hx hb dM_whyNot_29 (by decide) ?_
  refine lv_iload_n (pc := 31) hx hb dM_whyNot_31 rfl (lv_at hl 0 rfl) ?_
  refine lv_if_eq (pc := 32) (tgt := 56) hx hb dM_whyNot_32 rfl (fun h7 => ?_) (fun h7 => absurd h7 (by decide))
  refine lv_iconst (pc := 56) (v := 0) hx hb dM_whyNot_56 (by decide) ?_
  refine lv_iconst (pc := 57) (v := 2) hx hb dM_whyNot_57 (by decide) ?_
  refine lv_iconst (pc := 58) (v := 0) hx hb dM_whyNot_58 (by decide) ?_
  refine vp_callSi (pc := 59) (W.runS (As := [.int 0, .int 2, .int 0]) (rest := [.int 7, .int 1, .int 1, .int 1]) ⟨hx, hb, hml, hown, hts⟩ (m_least l dC dI 0 2 0) (cwS 3 hts (gS wd_170 wd_171 wd_157 wd_169) rfl rfl rfl (by decide +kernel) ⟨Nat.le_of_ble_eq_true rfl, Nat.le_of_ble_eq_true rfl⟩) ⟨pR_blind, pR_pre (hP.sub (ws' := []) [] rfl) (hK.sub (tys' := []) [] rfl)⟩ rfl rfl hl.1 rfl (lv_room (Nat.le_of_ble_eq_true rfl)) dM_whyNot_59 ⟨Nat.le_of_ble_eq_true rfl, Nat.le_of_ble_eq_true rfl⟩) (fun r8 hr9 => ?_)
  obtain rfl : r8 = 0 := Eq.trans (hr9) (by decide)
  refine vp_callSi (pc := 62) (W.runS (As := [.int 1, .int 7, .int 0]) (rest := [.int 1, .int 1]) ⟨hx, hb, hml, hown, hts⟩ (m_least l dC dI 1 7 0) (cwS 3 hts (gS wd_170 wd_171 wd_157 wd_169) rfl rfl rfl (by decide +kernel) ⟨Nat.le_of_ble_eq_true rfl, Nat.le_of_ble_eq_true rfl⟩) ⟨pR_blind, pR_pre (hP.sub (ws' := []) [] rfl) (hK.sub (tys' := []) [] rfl)⟩ rfl rfl hl.1 rfl (lv_room (Nat.le_of_ble_eq_true rfl)) dM_whyNot_62 ⟨Nat.le_of_ble_eq_true rfl, Nat.le_of_ble_eq_true rfl⟩) (fun r10 hr11 => ?_)
  obtain rfl : r10 = 7 := Eq.trans (hr11) (by decide)
  refine vp_callSi (pc := 65) (W.runS (As := [.int 1, .int 1, .int 7]) (rest := []) ⟨hx, hb, hml, hown, hts⟩ (m_least l dC dI 1 1 7) (cwS 3 hts (gS wd_170 wd_171 wd_157 wd_169) rfl rfl rfl (by decide +kernel) ⟨Nat.le_of_ble_eq_true rfl, Nat.le_of_ble_eq_true rfl⟩) ⟨pR_blind, pR_pre (hP.sub (ws' := []) [] rfl) (hK.sub (tys' := []) [] rfl)⟩ rfl rfl hl.1 rfl (lv_room (Nat.le_of_ble_eq_true rfl)) dM_whyNot_65 ⟨Nat.le_of_ble_eq_true rfl, Nat.le_of_ble_eq_true rfl⟩) (fun r12 hr13 => ?_)
  obtain rfl : r12 = 1 := Eq.trans (hr13) (by decide)
  exact W.iret (pc := 68) hx hb hr (fun t ht hW => ⟨_, rfl, rfl, ht.trans hH⟩) (fun q h => nomatch h) dM_whyNot_68
set_option maxHeartbeats 4000000 in
set_option maxRecDepth 100000 in
theorem m_whyNotRevision (l : Launch) (dC : Nat → ClassId) (dI : Nat → Nat → Nat) (mo : Nat) (nw : Nat) (kp : Nat) (mk : Nat) (co : Nat) (se : Nat) (th : Int32) (mr : Int32) (cN : ClassId) (dd : Int32) (vv : Int32) (pp : Int32) (kk : Int32) : Met l yM_whyNotRevision (.code yM_whyNotRevision cM_whyNotRevision 5 (some .int) :: aw) ({ frames := 2, cells := 0, slots := 0, locals := 43 }) (pR (dC, dI) [(mo, .inr (4, [.int th, .int mr, .ref nw, .ref kp, .int 0, .int (-1), .ref mk, .ref co, .int 0, .int 0, .ref se])), (nw, .inl (cN, 25240, .inl now0))] [(cN, .int)] [.ref mo, .int dd, .int vv, .int pp, .int kk]) (vp_Si (fun r => r = 1)) 0 0 (fun _ => False) := by
  refine Met.ofW (cc := cM_whyNotRevision) (maxL := 5) (ret := (some .int)) (by decide) rfl ?_
  intro p e s m args below meth c s₁ B hml hv
  obtain ⟨rfl, hv⟩ := hv
  have hx := B.exec
  have hb := B.bytes
  have hr := B.returns
  have hts : ∀ w ∈ aw, w.before _ s = true := fun w h => atoms_spec (ws := (.code yM_whyNotRevision cM_whyNotRevision 5 (some .int) :: aw)) B.pre w (List.mem_cons_of_mem _ h)
  have hown : s.vm.findClass RM = some m.cls := findClass_of_methodNamed B.named
  have hlocks := B.notSynchronized
  obtain ⟨hP, hK⟩ := hv
  obtain ⟨H, hH⟩ : ∃ H, H = s.heap := ⟨_, rfl⟩
  rw [← hH] at hP ⊢
  have hl := lv_entry ([.ref mo, .int dd, .int vv, .int pp, .int kk]) (n := 5) (Nat.le_of_ble_eq_true rfl)
  rw [lg_entry_eq]
  generalize (lg_sl ([.ref mo, .int dd, .int vv, .int pp, .int kk]) ++ List.replicate (5 - (lg_sl ([.ref mo, .int dd, .int vv, .int pp, .int kk])).length) Slot.unset).toArray = ls at hl ⊢
  have hl : lv_has ls 5 [(0, .ref mo), (1, .int dd), (2, .int vv), (3, .int pp), (4, .int kk)] := hl
  refine lv_aload_n (pc := 0) hx hb dM_whyNotRevision_0 rfl (lv_at hl 0 rfl) ?_
  refine lv_iload_n (pc := 1) hx hb dM_whyNotRevision_1 rfl (lv_at hl 3 rfl) ?_
  refine vp_callSi (pc := 2) (W.runV (As := [.int pp]) (rest := []) ⟨hx, hb, hml, hown, hts⟩ (m_rights l dC dI mo nw kp mk co se th mr cN pp) (cwV 1 hts (gV wd_166 wd_167 wd_168 wd_157 wd_165) rfl rfl rfl (by decide +kernel) ⟨Nat.le_of_ble_eq_true rfl, Nat.le_of_ble_eq_true rfl⟩) ⟨pR_blind, va_recv (q := (RM, TM, 11)) (q0 := 0) (ci := 4) hK hP rfl rfl, pR_pre (hP.sub (ws' := [(mo, .inr (4, [.int th, .int mr, .ref nw, .ref kp, .int 0, .int (-1), .ref mk, .ref co, .int 0, .int 0, .ref se])), (nw, .inl (cN, 25240, .inl now0))]) [0, 1] rfl) (hK.sub (tys' := [(cN, .int)]) [0] rfl)⟩ rfl rfl hl.1 rfl (lv_room (Nat.le_of_ble_eq_true rfl)) dM_whyNotRevision_2 ⟨Nat.le_of_ble_eq_true rfl, Nat.le_of_ble_eq_true rfl⟩) (fun r1 hr2 => ?_)
  obtain rfl : r1 = 0 := hr2
  refine lv_iload (pc := 5) hx hb dM_whyNotRevision_5 (lv_at hl 4 rfl) ?_
  refine lv_iand (pc := 7) hx hb dM_whyNotRevision_7 ?_
  refine lv_topi (fun z3 hz4 => ?_)
  obtain rfl : z3 = 0 := hz4.trans (Int32.zero_and)
  refine lv_if_ne (pc := 8) (tgt := 15) hx hb dM_whyNotRevision_8 rfl (fun h5 => absurd h5 (by decide)) (fun h5 => ?_)
  refine lv_iconst (pc := 11) (v := 1) hx hb dM_whyNotRevision_11 (by decide) ?_
  refine lv_goto (pc := 12) (tgt := 16) hx hb dM_whyNotRevision_12 rfl ?_
  refine lv_iconst (pc := 16) (v := 1) hx hb dM_whyNotRevision_16 (by decide) ?_
  refine lv_aload_n (pc := 17) hx hb dM_whyNotRevision_17 rfl (lv_at hl 0 rfl) ?_
  refine lv_iload_n (pc := 18) hx hb dM_whyNotRevision_18 rfl (lv_at hl 1 rfl) ?_
  refine lv_iload_n (pc := 19) hx hb dM_whyNotRevision_19 rfl (lv_at hl 2 rfl) ?_
  refine vp_callSi (pc := 20) (W.runV (As := [.int dd, .int vv]) (rest := [.int 1, .int 1]) ⟨hx, hb, hml, hown, hts⟩ (m_isRevision l dC dI mo nw kp mk co se th mr cN dd vv) (cwV 2 hts (gV wd_173 wd_174 wd_175 wd_157 wd_172) rfl rfl rfl (by decide +kernel) ⟨Nat.le_of_ble_eq_true rfl, Nat.le_of_ble_eq_true rfl⟩) ⟨pR_blind, va_recv (q := (RM, TM, 11)) (q0 := 0) (ci := 4) hK hP rfl rfl, pR_pre (hP.sub (ws' := [(mo, .inr (4, [.int th, .int mr, .ref nw, .ref kp, .int 0, .int (-1), .ref mk, .ref co, .int 0, .int 0, .ref se])), (nw, .inl (cN, 25240, .inl now0))]) [0, 1] rfl) (hK.sub (tys' := [(cN, .int)]) [0] rfl)⟩ rfl rfl hl.1 rfl (lv_room (Nat.le_of_ble_eq_true rfl)) dM_whyNotRevision_20 ⟨Nat.le_of_ble_eq_true rfl, Nat.le_of_ble_eq_true rfl⟩) (fun r6 hr7 => ?_)
  obtain rfl : r6 = 0 := hr7
  refine lv_if_ne (pc := 23) (tgt := 30) hx hb dM_whyNotRevision_23 rfl (fun h8 => absurd h8 (by decide)) (fun h8 => ?_)
  refine lv_iconst (pc := 26) (v := 1) hx hb dM_whyNotRevision_26 (by decide) ?_
  refine lv_goto (pc := 27) (tgt := 31) hx hb dM_whyNotRevision_27 rfl ?_
  refine lv_bipush (pc := 31) (v := 7) hx hb dM_whyNotRevision_31 (by decide) ?_
  refine lv_iconst (pc := 33) (v := 0) hx hb dM_whyNotRevision_33 (by decide) ?_
  refine vp_callSi (pc := 34) (W.runS (As := [.int 1, .int 7, .int 0]) (rest := [.int 1, .int 1]) ⟨hx, hb, hml, hown, hts⟩ (m_least l dC dI 1 7 0) (cwS 3 hts (gS wd_170 wd_171 wd_157 wd_169) rfl rfl rfl (by decide +kernel) ⟨Nat.le_of_ble_eq_true rfl, Nat.le_of_ble_eq_true rfl⟩) ⟨pR_blind, pR_pre (hP.sub (ws' := []) [] rfl) (hK.sub (tys' := []) [] rfl)⟩ rfl rfl hl.1 rfl (lv_room (Nat.le_of_ble_eq_true rfl)) dM_whyNotRevision_34 ⟨Nat.le_of_ble_eq_true rfl, Nat.le_of_ble_eq_true rfl⟩) (fun r9 hr10 => ?_)
  obtain rfl : r9 = 7 := Eq.trans (hr10) (by decide)
  refine vp_callSi (pc := 37) (W.runS (As := [.int 1, .int 1, .int 7]) (rest := []) ⟨hx, hb, hml, hown, hts⟩ (m_least l dC dI 1 1 7) (cwS 3 hts (gS wd_170 wd_171 wd_157 wd_169) rfl rfl rfl (by decide +kernel) ⟨Nat.le_of_ble_eq_true rfl, Nat.le_of_ble_eq_true rfl⟩) ⟨pR_blind, pR_pre (hP.sub (ws' := []) [] rfl) (hK.sub (tys' := []) [] rfl)⟩ rfl rfl hl.1 rfl (lv_room (Nat.le_of_ble_eq_true rfl)) dM_whyNotRevision_37 ⟨Nat.le_of_ble_eq_true rfl, Nat.le_of_ble_eq_true rfl⟩) (fun r11 hr12 => ?_)
  obtain rfl : r11 = 1 := Eq.trans (hr12) (by decide)
  exact W.iret (pc := 40) hx hb hr (fun t ht hW => ⟨_, rfl, rfl, ht.trans hH⟩) (fun q h => nomatch h) dM_whyNotRevision_40
set_option maxHeartbeats 4000000 in
set_option maxRecDepth 100000 in
theorem m_drawing (l : Launch) (dC : Nat → ClassId) (dI : Nat → Nat → Nat) (sz : Nat) (mo : Nat) (nw : Nat) (kp : Nat) (mk : Nat) (co : Nat) (se : Nat) (th : Int32) (mr : Int32) (cN : ClassId) (pp : Int32) : Met l yM_drawing (.code yM_drawing cM_drawing 4 (some .int) :: aw) ({ frames := 2, cells := 0, slots := 0, locals := 42 }) (pW (dC, dI) sz [(mo, .inr (4, [.int th, .int mr, .ref nw, .ref kp, .int 0, .int (-1), .ref mk, .ref co, .int 0, .int 0, .ref se])), (nw, .inl (cN, 25240, .inl now0))] [(cN, .int)] [.ref mo, .int pp]) (va_Qi (fun r (_ : Unit) => r = (-1)) (fun _ t => wW (dC, dI) (va_A [(mo, .inr (4, [.int th, .int mr, .ref nw, .ref kp, .int 0, .int (-1), .ref mk, .ref co, .int 0, .int 0, .ref se])), (nw, .inl (cN, 25240, .inl now0))] sz) [(mo, .inr (4, [.int 0, .int 1, .ref nw, .ref kp, .int 0, .int (-1), .ref mk, .ref co, .int 0, .int 0, .ref se]))] [] t) (va_A [(mo, .inr (4, [.int th, .int mr, .ref nw, .ref kp, .int 0, .int (-1), .ref mk, .ref co, .int 0, .int 0, .ref se])), (nw, .inl (cN, 25240, .inl now0))] sz)) 0 0 (va_A [(mo, .inr (4, [.int th, .int mr, .ref nw, .ref kp, .int 0, .int (-1), .ref mk, .ref co, .int 0, .int 0, .ref se])), (nw, .inl (cN, 25240, .inl now0))] sz) := by
  refine Met.ofW (cc := cM_drawing) (maxL := 4) (ret := (some .int)) (by decide) rfl ?_
  intro p e s m args below meth c s₁ B hml hv
  obtain ⟨rfl, hv⟩ := hv
  have hx := B.exec
  have hb := B.bytes
  have hr := B.returns
  have hts : ∀ w ∈ aw, w.before _ s = true := fun w h => atoms_spec (ws := (.code yM_drawing cM_drawing 4 (some .int) :: aw)) B.pre w (List.mem_cons_of_mem _ h)
  have hown : s.vm.findClass RM = some m.cls := findClass_of_methodNamed B.named
  have hlocks := B.notSynchronized
  obtain ⟨hsz, hP, hK, hD0⟩ := hv
  subst hsz
  have hD := hD0.self (sz := s.heap.size)
  generalize hAe : va_A [(mo, .inr (4, [.int th, .int mr, .ref nw, .ref kp, .int 0, .int (-1), .ref mk, .ref co, .int 0, .int 0, .ref se])), (nw, .inl (cN, 25240, .inl now0))] s.heap.size = A at hD ⊢
  have hA : ∀ q : Nat, s.heap.size ≤ q → A q := fun q h => by rw [← hAe]; exact Or.inr h
  obtain ⟨H, hH⟩ : ∃ H, H = s.heap := ⟨_, rfl⟩
  have hS : va_S A s.heap H [] := by rw [hH]; exact va_S.rf
  rw [← hH] at hP ⊢
  have hP : va_P (dC, dI) kCl [(mo, .inr (4, [.int th, .int mr, .ref nw, .ref kp, .int 0, .int (-1), .ref mk, .ref co, .int 0, .int 0, .ref se])), (nw, .inl (cN, 25240, .inl now0))] H := hP
  have hl := lv_entry ([.ref mo, .int pp]) (n := 4) (Nat.le_of_ble_eq_true rfl)
  rw [lg_entry_eq]
  generalize (lg_sl ([.ref mo, .int pp]) ++ List.replicate (4 - (lg_sl ([.ref mo, .int pp])).length) Slot.unset).toArray = ls at hl ⊢
  have hl : lv_has ls 4 [(0, .ref mo), (1, .int pp)] := hl
  refine lv_aload_n (pc := 0) hx hb dM_drawing_0 rfl (lv_at hl 0 rfl) ?_
  refine lv_iload_n (pc := 1) hx hb dM_drawing_1 rfl (lv_at hl 1 rfl) ?_
  refine vp_callSi (pc := 2) (W.runV (As := [.int pp]) (rest := []) ⟨hx, hb, hml, hown, hts⟩ (m_rights l dC dI mo nw kp mk co se th mr cN pp) (cwV 1 hts (gV wd_166 wd_167 wd_168 wd_157 wd_165) rfl rfl rfl (by decide +kernel) ⟨Nat.le_of_ble_eq_true rfl, Nat.le_of_ble_eq_true rfl⟩) ⟨pR_blind, va_recv (q := (RM, TM, 11)) (q0 := 0) (ci := 4) hK hP rfl rfl, pR_pre (hP.sub (ws' := [(mo, .inr (4, [.int th, .int mr, .ref nw, .ref kp, .int 0, .int (-1), .ref mk, .ref co, .int 0, .int 0, .ref se])), (nw, .inl (cN, 25240, .inl now0))]) [0, 1] rfl) (hK.sub (tys' := [(cN, .int)]) [0] rfl)⟩ rfl rfl hl.1 rfl (lv_room (Nat.le_of_ble_eq_true rfl)) dM_drawing_2 ⟨Nat.le_of_ble_eq_true rfl, Nat.le_of_ble_eq_true rfl⟩) (fun r1 hr2 => ?_)
  obtain rfl : r1 = 0 := hr2
  refine lv_iconst (pc := 5) (v := 1) hx hb dM_drawing_5 (by decide) ?_
  refine lv_iand (pc := 6) hx hb dM_drawing_6 ?_
  refine lv_topi (fun z3 hz4 => ?_)
  obtain rfl : z3 = 0 := hz4.trans (by decide)
  refine lv_if_ne (pc := 7) (tgt := 14) hx hb dM_drawing_7 rfl (fun h5 => absurd h5 (by decide)) (fun h5 => ?_)
  refine lv_iconst (pc := 10) (v := 1) hx hb dM_drawing_10 (by decide) ?_
  refine lv_goto (pc := 11) (tgt := 15) hx hb dM_drawing_11 rfl ?_
  refine lv_iconst (pc := 15) (v := 1) hx hb dM_drawing_15 (by decide) ?_
  refine lv_aload_n (pc := 16) hx hb dM_drawing_16 rfl (lv_at hl 0 rfl) ?_
  refine va_get (D := (dC, dI)) (cl := kCl) (C := RM) (T := TM) (N := 11) (pc := 17) hx hb hts inM hown hK hP 0 rfl rfl 2 (by decide) (hts _ wd_158) (fun _ h9 => h9) rfl dM_drawing_17 ?_
  refine lv_bipush (pc := 20) (v := 16) hx hb dM_drawing_20 (by decide) ?_
  refine va_iald (D := (dC, dI)) (cl := kCl) (pc := 22) hx hb hK hP 1 0 rfl rfl (vp_in_lit 16 25240 (by decide)) dM_drawing_22 ?_
  refine W.eq (g2 := F0 m 23 ls [.int 0, .int 1, .int 1]) rfl ?_
  refine lv_bipush (pc := 23) (v := 24) hx hb dM_drawing_23 (by decide) ?_
  refine lv_icmp_eq (pc := 25) (tgt := 37) hx hb dM_drawing_25 rfl (fun h6 => absurd h6 (by decide)) (fun h6 => ?_)
  refine lv_aload_n (pc := 28) hx hb dM_drawing_28 rfl (lv_at hl 0 rfl) ?_
  refine vp_callSi (pc := 29) (W.runV (As := []) (rest := [.int 1, .int 1]) ⟨hx, hb, hml, hown, hts⟩ (m_allRevisions l dC dI mo nw kp mk co se th mr cN) (cwV 0 hts (gV wd_177 wd_178 wd_179 wd_157 wd_176) rfl rfl rfl (by decide +kernel) ⟨Nat.le_of_ble_eq_true rfl, Nat.le_of_ble_eq_true rfl⟩) ⟨pR_blind, va_recv (q := (RM, TM, 11)) (q0 := 0) (ci := 4) hK hP rfl rfl, pR_pre (hP.sub (ws' := [(mo, .inr (4, [.int th, .int mr, .ref nw, .ref kp, .int 0, .int (-1), .ref mk, .ref co, .int 0, .int 0, .ref se])), (nw, .inl (cN, 25240, .inl now0))]) [0, 1] rfl) (hK.sub (tys' := [(cN, .int)]) [0] rfl)⟩ rfl rfl hl.1 rfl (lv_room (Nat.le_of_ble_eq_true rfl)) dM_drawing_29 ⟨Nat.le_of_ble_eq_true rfl, Nat.le_of_ble_eq_true rfl⟩) (fun r7 hr8 => ?_)
  obtain rfl : r7 = 0 := hr8
  refine lv_bipush (pc := 32) (v := 100) hx hb dM_drawing_32 (by decide) ?_
  refine lv_icmp_ne (pc := 34) (tgt := 41) hx hb dM_drawing_34 rfl (fun h9 => ?_) (fun h9 => absurd h9 (by decide))
  refine lv_iconst (pc := 41) (v := 0) hx hb dM_drawing_41 (by decide) ?_
  refine lv_bipush (pc := 42) (v := 8) hx hb dM_drawing_42 (by decide) ?_
  refine lv_iconst (pc := 44) (v := 0) hx hb dM_drawing_44 (by decide) ?_
  refine vp_callSi (pc := 45) (W.runS (As := [.int 0, .int 8, .int 0]) (rest := [.int 1, .int 1]) ⟨hx, hb, hml, hown, hts⟩ (m_least l dC dI 0 8 0) (cwS 3 hts (gS wd_170 wd_171 wd_157 wd_169) rfl rfl rfl (by decide +kernel) ⟨Nat.le_of_ble_eq_true rfl, Nat.le_of_ble_eq_true rfl⟩) ⟨pR_blind, pR_pre (hP.sub (ws' := []) [] rfl) (hK.sub (tys' := []) [] rfl)⟩ rfl rfl hl.1 rfl (lv_room (Nat.le_of_ble_eq_true rfl)) dM_drawing_45 ⟨Nat.le_of_ble_eq_true rfl, Nat.le_of_ble_eq_true rfl⟩) (fun r10 hr11 => ?_)
  obtain rfl : r10 = 0 := Eq.trans (hr11) (by decide)
  refine vp_callSi (pc := 48) (W.runS (As := [.int 1, .int 1, .int 0]) (rest := []) ⟨hx, hb, hml, hown, hts⟩ (m_least l dC dI 1 1 0) (cwS 3 hts (gS wd_170 wd_171 wd_157 wd_169) rfl rfl rfl (by decide +kernel) ⟨Nat.le_of_ble_eq_true rfl, Nat.le_of_ble_eq_true rfl⟩) ⟨pR_blind, pR_pre (hP.sub (ws' := []) [] rfl) (hK.sub (tys' := []) [] rfl)⟩ rfl rfl hl.1 rfl (lv_room (Nat.le_of_ble_eq_true rfl)) dM_drawing_48 ⟨Nat.le_of_ble_eq_true rfl, Nat.le_of_ble_eq_true rfl⟩) (fun r12 hr13 => ?_)
  obtain rfl : r12 = 1 := Eq.trans (hr13) (by decide)
  refine lv_istore_n (pc := 51) hx hb dM_drawing_51 rfl hl (by decide) rfl (fun ls hl => ?_)
  have hl : lv_has ls 4 [(2, .int 1), (0, .ref mo), (1, .int pp)] := hl
  refine lv_aload_n (pc := 52) hx hb dM_drawing_52 rfl (lv_at hl 1 rfl) ?_
  refine lv_iload_n (pc := 53) hx hb dM_drawing_53 rfl (lv_at hl 0 rfl) ?_
  refine lv_iconst (pc := 54) (v := 2) hx hb dM_drawing_54 (by decide) ?_
  have hPc := hP.sub (ws' := [(mo, .inr (4, [.int th, .int mr, .ref nw, .ref kp, .int 0, .int (-1), .ref mk, .ref co, .int 0, .int 0, .ref se])), (nw, .inl (cN, 25240, .inl now0))]) [0, 1] rfl
  have hDc := hD.sub (ws' := [(mo, .inr (4, [.int th, .int mr, .ref nw, .ref kp, .int 0, .int (-1), .ref mk, .ref co, .int 0, .int 0, .ref se])), (nw, .inl (cN, 25240, .inl now0))]) [0, 1] (by decide) rfl
  have hKc := hK.sub (tys' := [(cN, .int)]) [0] rfl
  have hFc := va_free (wc := [(mo, .inr (4, [.int th, .int mr, .ref nw, .ref kp, .int 0, .int (-1), .ref mk, .ref co, .int 0, .int 0, .ref se])), (nw, .inl (cN, 25240, .inl now0))]) hD hS hA [0, 1] rfl
  refine va_calli (pc := 55) (va_runV (As := [.int 1, .int 2]) (rest := []) ⟨hx, hb, hml, hown, hts⟩ (m_may l dC dI H.size mo nw kp mk co se th mr cN 1 2 (by decide) (by decide)) (cwV 2 hts (gV wd_181 wd_182 wd_183 wd_157 wd_180) rfl rfl rfl (by decide +kernel) ⟨Nat.le_of_ble_eq_true rfl, Nat.le_of_ble_eq_true rfl⟩) ⟨pW_blind, va_recv (q := (RM, TM, 11)) (q0 := 0) (ci := 4) hK hP rfl rfl, pW_pre hPc hKc hDc⟩ rfl rfl hl.1 rfl (lv_room (Nat.le_of_ble_eq_true rfl)) dM_drawing_55 ⟨Nat.le_of_ble_eq_true rfl, Nat.le_of_ble_eq_true rfl⟩) hS (fun q _ h => hFc q h) hFc (fun r14 u t H1 locs ht hvm hr15 hB hz1 hk1 hS => ?_)
  obtain ⟨hP1, hK1, hD1⟩ := hB
  rw [ht] at hP1
  have hK1 := va_K.moved hvm.symm hK1
  obtain ⟨hP, hD⟩ := va_join (wr := []) (w1 := [(mo, .inr (4, [.int 0, .int 1, .ref nw, .ref kp, .int 0, .int (-1), .ref mk, .ref co, .int 0, .int 0, .ref se])), (nw, .inl (cN, 25240, .inl now0))]) hP hD [0, 1] [] rfl rfl (by decide) (by decide) hk1 hFc hP1 hD1
  generalize H1 = H at hP hS ⊢
  have hP : va_P (dC, dI) kCl [(mo, .inr (4, [.int 0, .int 1, .ref nw, .ref kp, .int 0, .int (-1), .ref mk, .ref co, .int 0, .int 0, .ref se])), (nw, .inl (cN, 25240, .inl now0))] H := hP
  have hD : va_D A [(mo, .inr (4, [.int 0, .int 1, .ref nw, .ref kp, .int 0, .int (-1), .ref mk, .ref co, .int 0, .int 0, .ref se])), (nw, .inl (cN, 25240, .inl now0))] := hD
  refine W.widen (k := 0) (n := 0) (Nat.le_of_ble_eq_true rfl) (Nat.le_of_ble_eq_true rfl) ?_
  obtain rfl : r14 = 0 := hr15
  refine lv_if_ne (pc := 58) (tgt := 74) hx hb dM_drawing_58 rfl (fun h17 => absurd h17 (by decide)) (fun h17 => ?_)
  refine lv_aload_n (pc := 61) hx hb dM_drawing_61 rfl (lv_at hl 1 rfl) ?_
  refine va_get (D := (dC, dI)) (cl := kCl) (C := RM) (T := TM) (N := 11) (pc := 62) hx hb hts inM hown hK hP 0 rfl rfl 0 (by decide) (hts _ wd_152) (fun _ h9 => h9) rfl dM_drawing_62 ?_
  refine lv_if_le (pc := 65) (tgt := 72) hx hb dM_drawing_65 rfl (fun h18 => ?_) (fun h18 => absurd h18 (by decide))
  refine lv_iconst (pc := 72) (v := (-1)) hx hb dM_drawing_72 (by decide) ?_
  have hP9 := hP.sub (ws' := [(mo, .inr (4, [.int 0, .int 1, .ref nw, .ref kp, .int 0, .int (-1), .ref mk, .ref co, .int 0, .int 0, .ref se]))]) [0] rfl
  have hD9 := hD.sub (ws' := [(mo, .inr (4, [.int 0, .int 1, .ref nw, .ref kp, .int 0, .int (-1), .ref mk, .ref co, .int 0, .int 0, .ref se]))]) [0] (by decide) rfl
  have hK9 := hK.sub (tys' := []) [] rfl
  exact W.iret (pc := 73) hx hb hr (fun t ht hW => ⟨⟨_, (), rfl, rfl, by rw [ht]; exact hP9, va_K.moved hW.alike hK9, hD9⟩, hS.F ht⟩) hS.2.2 dM_drawing_73
set_option maxHeartbeats 4000000 in
set_option maxRecDepth 100000 in
theorem m_out (l : Launch) (dC : Nat → ClassId) (dI : Nat → Nat → Nat) (sz : Nat) (mo : Nat) (nw : Nat) (kp : Nat) (mk : Nat) (co : Nat) (se : Nat) (th : Int32) (mr : Int32) (cN : ClassId) (dd : Int32) (pp : Int32) : Met l yM_out (.code yM_out cM_out 5 (some .boolean) :: aw) ({ frames := 2, cells := 0, slots := 0, locals := 42 }) (pW (dC, dI) sz [(mo, .inr (4, [.int th, .int mr, .ref nw, .ref kp, .int 0, .int (-1), .ref mk, .ref co, .int 0, .int 0, .ref se])), (nw, .inl (cN, 25240, .inl now0))] [(cN, .int)] [.ref mo, .int dd, .int pp]) (va_Qi (fun r (_ : Unit) => r = 0) (fun _ t => wW (dC, dI) (va_A [(mo, .inr (4, [.int th, .int mr, .ref nw, .ref kp, .int 0, .int (-1), .ref mk, .ref co, .int 0, .int 0, .ref se])), (nw, .inl (cN, 25240, .inl now0))] sz) [(mo, .inr (4, [.int 0, .int 1, .ref nw, .ref kp, .int 0, .int (-1), .ref mk, .ref co, .int 0, .int 0, .ref se]))] [] t) (va_A [(mo, .inr (4, [.int th, .int mr, .ref nw, .ref kp, .int 0, .int (-1), .ref mk, .ref co, .int 0, .int 0, .ref se])), (nw, .inl (cN, 25240, .inl now0))] sz)) 0 0 (va_A [(mo, .inr (4, [.int th, .int mr, .ref nw, .ref kp, .int 0, .int (-1), .ref mk, .ref co, .int 0, .int 0, .ref se])), (nw, .inl (cN, 25240, .inl now0))] sz) := by
  refine Met.ofW (cc := cM_out) (maxL := 5) (ret := (some .boolean)) (by decide) rfl ?_
  intro p e s m args below meth c s₁ B hml hv
  obtain ⟨rfl, hv⟩ := hv
  have hx := B.exec
  have hb := B.bytes
  have hr := B.returns
  have hts : ∀ w ∈ aw, w.before _ s = true := fun w h => atoms_spec (ws := (.code yM_out cM_out 5 (some .boolean) :: aw)) B.pre w (List.mem_cons_of_mem _ h)
  have hown : s.vm.findClass RM = some m.cls := findClass_of_methodNamed B.named
  have hlocks := B.notSynchronized
  obtain ⟨hsz, hP, hK, hD0⟩ := hv
  subst hsz
  have hD := hD0.self (sz := s.heap.size)
  generalize hAe : va_A [(mo, .inr (4, [.int th, .int mr, .ref nw, .ref kp, .int 0, .int (-1), .ref mk, .ref co, .int 0, .int 0, .ref se])), (nw, .inl (cN, 25240, .inl now0))] s.heap.size = A at hD ⊢
  have hA : ∀ q : Nat, s.heap.size ≤ q → A q := fun q h => by rw [← hAe]; exact Or.inr h
  obtain ⟨H, hH⟩ : ∃ H, H = s.heap := ⟨_, rfl⟩
  have hS : va_S A s.heap H [] := by rw [hH]; exact va_S.rf
  rw [← hH] at hP ⊢
  have hP : va_P (dC, dI) kCl [(mo, .inr (4, [.int th, .int mr, .ref nw, .ref kp, .int 0, .int (-1), .ref mk, .ref co, .int 0, .int 0, .ref se])), (nw, .inl (cN, 25240, .inl now0))] H := hP
  have hl := lv_entry ([.ref mo, .int dd, .int pp]) (n := 5) (Nat.le_of_ble_eq_true rfl)
  rw [lg_entry_eq]
  generalize (lg_sl ([.ref mo, .int dd, .int pp]) ++ List.replicate (5 - (lg_sl ([.ref mo, .int dd, .int pp])).length) Slot.unset).toArray = ls at hl ⊢
  have hl : lv_has ls 5 [(0, .ref mo), (1, .int dd), (2, .int pp)] := hl
  refine lv_aload_n (pc := 0) hx hb dM_out_0 rfl (lv_at hl 0 rfl) ?_
  refine lv_iload_n (pc := 1) hx hb dM_out_1 rfl (lv_at hl 1 rfl) ?_
  refine vp_callSi (pc := 2) (W.runV (As := [.int dd]) (rest := []) ⟨hx, hb, hml, hown, hts⟩ (m_isDrawing l dC dI mo nw kp mk co se th mr cN dd) (cwV 1 hts (gV wd_160 wd_161 wd_162 wd_157 wd_159) rfl rfl rfl (by decide +kernel) ⟨Nat.le_of_ble_eq_true rfl, Nat.le_of_ble_eq_true rfl⟩) ⟨pR_blind, va_recv (q := (RM, TM, 11)) (q0 := 0) (ci := 4) hK hP rfl rfl, pR_pre (hP.sub (ws' := [(mo, .inr (4, [.int th, .int mr, .ref nw, .ref kp, .int 0, .int (-1), .ref mk, .ref co, .int 0, .int 0, .ref se])), (nw, .inl (cN, 25240, .inl now0))]) [0, 1] rfl) (hK.sub (tys' := [(cN, .int)]) [0] rfl)⟩ rfl rfl hl.1 rfl (lv_room (Nat.le_of_ble_eq_true rfl)) dM_out_2 ⟨Nat.le_of_ble_eq_true rfl, Nat.le_of_ble_eq_true rfl⟩) (fun r1 hr2 => ?_)
  obtain rfl : r1 = 0 := hr2
  refine lv_istore_n (pc := 5) hx hb dM_out_5 rfl hl (by decide) rfl (fun ls hl => ?_)
  have hl : lv_has ls 5 [(3, .int 0), (0, .ref mo), (1, .int dd), (2, .int pp)] := hl
  refine lv_aload_n (pc := 6) hx hb dM_out_6 rfl (lv_at hl 1 rfl) ?_
  refine lv_iload_n (pc := 7) hx hb dM_out_7 rfl (lv_at hl 3 rfl) ?_
  refine vp_callSi (pc := 8) (W.runV (As := [.int pp]) (rest := []) ⟨hx, hb, hml, hown, hts⟩ (m_rights l dC dI mo nw kp mk co se th mr cN pp) (cwV 1 hts (gV wd_166 wd_167 wd_168 wd_157 wd_165) rfl rfl rfl (by decide +kernel) ⟨Nat.le_of_ble_eq_true rfl, Nat.le_of_ble_eq_true rfl⟩) ⟨pR_blind, va_recv (q := (RM, TM, 11)) (q0 := 0) (ci := 4) hK hP rfl rfl, pR_pre (hP.sub (ws' := [(mo, .inr (4, [.int th, .int mr, .ref nw, .ref kp, .int 0, .int (-1), .ref mk, .ref co, .int 0, .int 0, .ref se])), (nw, .inl (cN, 25240, .inl now0))]) [0, 1] rfl) (hK.sub (tys' := [(cN, .int)]) [0] rfl)⟩ rfl rfl hl.1 rfl (lv_room (Nat.le_of_ble_eq_true rfl)) dM_out_8 ⟨Nat.le_of_ble_eq_true rfl, Nat.le_of_ble_eq_true rfl⟩) (fun r3 hr4 => ?_)
  obtain rfl : r3 = 0 := hr4
  refine lv_if_ne (pc := 11) (tgt := 18) hx hb dM_out_11 rfl (fun h5 => absurd h5 (by decide)) (fun h5 => ?_)
  refine lv_iconst (pc := 14) (v := 1) hx hb dM_out_14 (by decide) ?_
  refine lv_goto (pc := 15) (tgt := 19) hx hb dM_out_15 rfl ?_
  refine lv_iconst (pc := 19) (v := 1) hx hb dM_out_19 (by decide) ?_
  refine lv_iload_n (pc := 20) hx hb dM_out_20 rfl (lv_at hl 0 rfl) ?_
  refine lv_if_ne (pc := 21) (tgt := 28) hx hb dM_out_21 rfl (fun h6 => absurd h6 (by decide)) (fun h6 => ?_)
  refine lv_iconst (pc := 24) (v := 1) hx hb dM_out_24 (by decide) ?_
  refine lv_goto (pc := 25) (tgt := 29) hx hb dM_out_25 rfl ?_
  refine lv_bipush (pc := 29) (v := 7) hx hb dM_out_29 (by decide) ?_
  refine lv_iload_n (pc := 31) hx hb dM_out_31 rfl (lv_at hl 0 rfl) ?_
  refine lv_if_eq (pc := 32) (tgt := 55) hx hb dM_out_32 rfl (fun h7 => ?_) (fun h7 => absurd h7 (by decide))
  refine lv_iconst (pc := 55) (v := 0) hx hb dM_out_55 (by decide) ?_
  refine lv_iconst (pc := 56) (v := 2) hx hb dM_out_56 (by decide) ?_
  refine lv_iconst (pc := 57) (v := 0) hx hb dM_out_57 (by decide) ?_
  refine vp_callSi (pc := 58) (W.runS (As := [.int 0, .int 2, .int 0]) (rest := [.int 7, .int 1, .int 1, .int 1]) ⟨hx, hb, hml, hown, hts⟩ (m_least l dC dI 0 2 0) (cwS 3 hts (gS wd_170 wd_171 wd_157 wd_169) rfl rfl rfl (by decide +kernel) ⟨Nat.le_of_ble_eq_true rfl, Nat.le_of_ble_eq_true rfl⟩) ⟨pR_blind, pR_pre (hP.sub (ws' := []) [] rfl) (hK.sub (tys' := []) [] rfl)⟩ rfl rfl hl.1 rfl (lv_room (Nat.le_of_ble_eq_true rfl)) dM_out_58 ⟨Nat.le_of_ble_eq_true rfl, Nat.le_of_ble_eq_true rfl⟩) (fun r8 hr9 => ?_)
  obtain rfl : r8 = 0 := Eq.trans (hr9) (by decide)
  refine vp_callSi (pc := 61) (W.runS (As := [.int 1, .int 7, .int 0]) (rest := [.int 1, .int 1]) ⟨hx, hb, hml, hown, hts⟩ (m_least l dC dI 1 7 0) (cwS 3 hts (gS wd_170 wd_171 wd_157 wd_169) rfl rfl rfl (by decide +kernel) ⟨Nat.le_of_ble_eq_true rfl, Nat.le_of_ble_eq_true rfl⟩) ⟨pR_blind, pR_pre (hP.sub (ws' := []) [] rfl) (hK.sub (tys' := []) [] rfl)⟩ rfl rfl hl.1 rfl (lv_room (Nat.le_of_ble_eq_true rfl)) dM_out_61 ⟨Nat.le_of_ble_eq_true rfl, Nat.le_of_ble_eq_true rfl⟩) (fun r10 hr11 => ?_)
  obtain rfl : r10 = 7 := Eq.trans (hr11) (by decide)
  refine vp_callSi (pc := 64) (W.runS (As := [.int 1, .int 1, .int 7]) (rest := []) ⟨hx, hb, hml, hown, hts⟩ (m_least l dC dI 1 1 7) (cwS 3 hts (gS wd_170 wd_171 wd_157 wd_169) rfl rfl rfl (by decide +kernel) ⟨Nat.le_of_ble_eq_true rfl, Nat.le_of_ble_eq_true rfl⟩) ⟨pR_blind, pR_pre (hP.sub (ws' := []) [] rfl) (hK.sub (tys' := []) [] rfl)⟩ rfl rfl hl.1 rfl (lv_room (Nat.le_of_ble_eq_true rfl)) dM_out_64 ⟨Nat.le_of_ble_eq_true rfl, Nat.le_of_ble_eq_true rfl⟩) (fun r12 hr13 => ?_)
  obtain rfl : r12 = 1 := Eq.trans (hr13) (by decide)
  refine lv_istore (pc := 67) hx hb dM_out_67 hl (by decide) rfl (fun ls hl => ?_)
  have hl : lv_has ls 5 [(4, .int 1), (3, .int 0), (0, .ref mo), (1, .int dd), (2, .int pp)] := hl
  refine lv_aload_n (pc := 69) hx hb dM_out_69 rfl (lv_at hl 2 rfl) ?_
  refine lv_iload (pc := 70) hx hb dM_out_70 (lv_at hl 0 rfl) ?_
  refine lv_iconst (pc := 72) (v := 1) hx hb dM_out_72 (by decide) ?_
  have hPc := hP.sub (ws' := [(mo, .inr (4, [.int th, .int mr, .ref nw, .ref kp, .int 0, .int (-1), .ref mk, .ref co, .int 0, .int 0, .ref se])), (nw, .inl (cN, 25240, .inl now0))]) [0, 1] rfl
  have hDc := hD.sub (ws' := [(mo, .inr (4, [.int th, .int mr, .ref nw, .ref kp, .int 0, .int (-1), .ref mk, .ref co, .int 0, .int 0, .ref se])), (nw, .inl (cN, 25240, .inl now0))]) [0, 1] (by decide) rfl
  have hKc := hK.sub (tys' := [(cN, .int)]) [0] rfl
  have hFc := va_free (wc := [(mo, .inr (4, [.int th, .int mr, .ref nw, .ref kp, .int 0, .int (-1), .ref mk, .ref co, .int 0, .int 0, .ref se])), (nw, .inl (cN, 25240, .inl now0))]) hD hS hA [0, 1] rfl
  refine va_calli (pc := 73) (va_runV (As := [.int 1, .int 1]) (rest := []) ⟨hx, hb, hml, hown, hts⟩ (m_may l dC dI H.size mo nw kp mk co se th mr cN 1 1 (by decide) (by decide)) (cwV 2 hts (gV wd_181 wd_182 wd_183 wd_157 wd_180) rfl rfl rfl (by decide +kernel) ⟨Nat.le_of_ble_eq_true rfl, Nat.le_of_ble_eq_true rfl⟩) ⟨pW_blind, va_recv (q := (RM, TM, 11)) (q0 := 0) (ci := 4) hK hP rfl rfl, pW_pre hPc hKc hDc⟩ rfl rfl hl.1 rfl (lv_room (Nat.le_of_ble_eq_true rfl)) dM_out_73 ⟨Nat.le_of_ble_eq_true rfl, Nat.le_of_ble_eq_true rfl⟩) hS (fun q _ h => hFc q h) hFc (fun r14 u t H1 locs ht hvm hr15 hB hz1 hk1 hS => ?_)
  obtain ⟨hP1, hK1, hD1⟩ := hB
  rw [ht] at hP1
  have hK1 := va_K.moved hvm.symm hK1
  obtain ⟨hP, hD⟩ := va_join (wr := []) (w1 := [(mo, .inr (4, [.int 0, .int 1, .ref nw, .ref kp, .int 0, .int (-1), .ref mk, .ref co, .int 0, .int 0, .ref se])), (nw, .inl (cN, 25240, .inl now0))]) hP hD [0, 1] [] rfl rfl (by decide) (by decide) hk1 hFc hP1 hD1
  generalize H1 = H at hP hS ⊢
  have hP : va_P (dC, dI) kCl [(mo, .inr (4, [.int 0, .int 1, .ref nw, .ref kp, .int 0, .int (-1), .ref mk, .ref co, .int 0, .int 0, .ref se])), (nw, .inl (cN, 25240, .inl now0))] H := hP
  have hD : va_D A [(mo, .inr (4, [.int 0, .int 1, .ref nw, .ref kp, .int 0, .int (-1), .ref mk, .ref co, .int 0, .int 0, .ref se])), (nw, .inl (cN, 25240, .inl now0))] := hD
  refine W.widen (k := 0) (n := 0) (Nat.le_of_ble_eq_true rfl) (Nat.le_of_ble_eq_true rfl) ?_
  obtain rfl : r14 = 0 := hr15
  refine lv_if_ne (pc := 76) (tgt := 81) hx hb dM_out_76 rfl (fun h17 => absurd h17 (by decide)) (fun h17 => ?_)
  refine lv_iconst (pc := 79) (v := 0) hx hb dM_out_79 (by decide) ?_
  have hP9 := hP.sub (ws' := [(mo, .inr (4, [.int 0, .int 1, .ref nw, .ref kp, .int 0, .int (-1), .ref mk, .ref co, .int 0, .int 0, .ref se]))]) [0] rfl
  have hD9 := hD.sub (ws' := [(mo, .inr (4, [.int 0, .int 1, .ref nw, .ref kp, .int 0, .int (-1), .ref mk, .ref co, .int 0, .int 0, .ref se]))]) [0] (by decide) rfl
  have hK9 := hK.sub (tys' := []) [] rfl
  exact W.zret (pc := 80) hx hb hr rfl (fun t ht hW => ⟨⟨_, (), rfl, rfl, by rw [ht]; exact hP9, va_K.moved hW.alike hK9, hD9⟩, hS.F ht⟩) hS.2.2 dM_out_80
set_option maxHeartbeats 4000000 in
set_option maxRecDepth 100000 in
theorem m_undo (l : Launch) (dC : Nat → ClassId) (dI : Nat → Nat → Nat) (sz : Nat) (mo : Nat) (nw : Nat) (kp : Nat) (mk : Nat) (co : Nat) (se : Nat) (th : Int32) (mr : Int32) (cN : ClassId) (dd : Int32) (pp : Int32) : Met l yM_undo (.code yM_undo cM_undo 3 (some .boolean) :: aw) ({ frames := 3, cells := 0, slots := 0, locals := 65 }) (pW (dC, dI) sz [(mo, .inr (4, [.int th, .int mr, .ref nw, .ref kp, .int 0, .int (-1), .ref mk, .ref co, .int 0, .int 0, .ref se])), (nw, .inl (cN, 25240, .inl now0))] [(cN, .int)] [.ref mo, .int dd, .int pp]) (va_Qi (fun r (_ : Unit) => r = 0) (fun _ t => wW (dC, dI) (va_A [(mo, .inr (4, [.int th, .int mr, .ref nw, .ref kp, .int 0, .int (-1), .ref mk, .ref co, .int 0, .int 0, .ref se])), (nw, .inl (cN, 25240, .inl now0))] sz) [(mo, .inr (4, [.int 0, .int 1, .ref nw, .ref kp, .int 0, .int (-1), .ref mk, .ref co, .int 0, .int 0, .ref se]))] [] t) (va_A [(mo, .inr (4, [.int th, .int mr, .ref nw, .ref kp, .int 0, .int (-1), .ref mk, .ref co, .int 0, .int 0, .ref se])), (nw, .inl (cN, 25240, .inl now0))] sz)) 0 0 (va_A [(mo, .inr (4, [.int th, .int mr, .ref nw, .ref kp, .int 0, .int (-1), .ref mk, .ref co, .int 0, .int 0, .ref se])), (nw, .inl (cN, 25240, .inl now0))] sz) := by
  refine Met.ofW (cc := cM_undo) (maxL := 3) (ret := (some .boolean)) (by decide) rfl ?_
  intro p e s m args below meth c s₁ B hml hv
  obtain ⟨rfl, hv⟩ := hv
  have hx := B.exec
  have hb := B.bytes
  have hr := B.returns
  have hts : ∀ w ∈ aw, w.before _ s = true := fun w h => atoms_spec (ws := (.code yM_undo cM_undo 3 (some .boolean) :: aw)) B.pre w (List.mem_cons_of_mem _ h)
  have hown : s.vm.findClass RM = some m.cls := findClass_of_methodNamed B.named
  have hlocks := B.notSynchronized
  obtain ⟨hsz, hP, hK, hD0⟩ := hv
  subst hsz
  have hD := hD0.self (sz := s.heap.size)
  generalize hAe : va_A [(mo, .inr (4, [.int th, .int mr, .ref nw, .ref kp, .int 0, .int (-1), .ref mk, .ref co, .int 0, .int 0, .ref se])), (nw, .inl (cN, 25240, .inl now0))] s.heap.size = A at hD ⊢
  have hA : ∀ q : Nat, s.heap.size ≤ q → A q := fun q h => by rw [← hAe]; exact Or.inr h
  obtain ⟨H, hH⟩ : ∃ H, H = s.heap := ⟨_, rfl⟩
  have hS : va_S A s.heap H [] := by rw [hH]; exact va_S.rf
  rw [← hH] at hP ⊢
  have hP : va_P (dC, dI) kCl [(mo, .inr (4, [.int th, .int mr, .ref nw, .ref kp, .int 0, .int (-1), .ref mk, .ref co, .int 0, .int 0, .ref se])), (nw, .inl (cN, 25240, .inl now0))] H := hP
  have hl := lv_entry ([.ref mo, .int dd, .int pp]) (n := 3) (Nat.le_of_ble_eq_true rfl)
  rw [lg_entry_eq]
  generalize (lg_sl ([.ref mo, .int dd, .int pp]) ++ List.replicate (3 - (lg_sl ([.ref mo, .int dd, .int pp])).length) Slot.unset).toArray = ls at hl ⊢
  have hl : lv_has ls 3 [(0, .ref mo), (1, .int dd), (2, .int pp)] := hl
  refine lv_aload_n (pc := 0) hx hb dM_undo_0 rfl (lv_at hl 0 rfl) ?_
  refine lv_aload_n (pc := 1) hx hb dM_undo_1 rfl (lv_at hl 0 rfl) ?_
  refine lv_iload_n (pc := 2) hx hb dM_undo_2 rfl (lv_at hl 1 rfl) ?_
  refine lv_iload_n (pc := 3) hx hb dM_undo_3 rfl (lv_at hl 2 rfl) ?_
  refine vp_callSi (pc := 4) (W.runV (As := [.int dd, .int pp]) (rest := [.ref mo]) ⟨hx, hb, hml, hown, hts⟩ (m_whyNot l dC dI mo nw kp mk co se th mr cN dd pp) (cwV 2 hts (gV wd_185 wd_186 wd_187 wd_157 wd_184) rfl rfl rfl (by decide +kernel) ⟨Nat.le_of_ble_eq_true rfl, Nat.le_of_ble_eq_true rfl⟩) ⟨pR_blind, va_recv (q := (RM, TM, 11)) (q0 := 0) (ci := 4) hK hP rfl rfl, pR_pre (hP.sub (ws' := [(mo, .inr (4, [.int th, .int mr, .ref nw, .ref kp, .int 0, .int (-1), .ref mk, .ref co, .int 0, .int 0, .ref se])), (nw, .inl (cN, 25240, .inl now0))]) [0, 1] rfl) (hK.sub (tys' := [(cN, .int)]) [0] rfl)⟩ rfl rfl hl.1 rfl (lv_room (Nat.le_of_ble_eq_true rfl)) dM_undo_4 ⟨Nat.le_of_ble_eq_true rfl, Nat.le_of_ble_eq_true rfl⟩) (fun r1 hr2 => ?_)
  obtain rfl : r1 = 1 := hr2
  refine lv_iconst (pc := 7) (v := 1) hx hb dM_undo_7 (by decide) ?_
  have hPc := hP.sub (ws' := [(mo, .inr (4, [.int th, .int mr, .ref nw, .ref kp, .int 0, .int (-1), .ref mk, .ref co, .int 0, .int 0, .ref se])), (nw, .inl (cN, 25240, .inl now0))]) [0, 1] rfl
  have hDc := hD.sub (ws' := [(mo, .inr (4, [.int th, .int mr, .ref nw, .ref kp, .int 0, .int (-1), .ref mk, .ref co, .int 0, .int 0, .ref se])), (nw, .inl (cN, 25240, .inl now0))]) [0, 1] (by decide) rfl
  have hKc := hK.sub (tys' := [(cN, .int)]) [0] rfl
  have hFc := va_free (wc := [(mo, .inr (4, [.int th, .int mr, .ref nw, .ref kp, .int 0, .int (-1), .ref mk, .ref co, .int 0, .int 0, .ref se])), (nw, .inl (cN, 25240, .inl now0))]) hD hS hA [0, 1] rfl
  refine va_calli (pc := 8) (va_runV (As := [.int 1, .int 1]) (rest := []) ⟨hx, hb, hml, hown, hts⟩ (m_may l dC dI H.size mo nw kp mk co se th mr cN 1 1 (by decide) (by decide)) (cwV 2 hts (gV wd_181 wd_182 wd_183 wd_157 wd_180) rfl rfl rfl (by decide +kernel) ⟨Nat.le_of_ble_eq_true rfl, Nat.le_of_ble_eq_true rfl⟩) ⟨pW_blind, va_recv (q := (RM, TM, 11)) (q0 := 0) (ci := 4) hK hP rfl rfl, pW_pre hPc hKc hDc⟩ rfl rfl hl.1 rfl (lv_room (Nat.le_of_ble_eq_true rfl)) dM_undo_8 ⟨Nat.le_of_ble_eq_true rfl, Nat.le_of_ble_eq_true rfl⟩) hS (fun q _ h => hFc q h) hFc (fun r3 u t H1 locs ht hvm hr4 hB hz1 hk1 hS => ?_)
  obtain ⟨hP1, hK1, hD1⟩ := hB
  rw [ht] at hP1
  have hK1 := va_K.moved hvm.symm hK1
  obtain ⟨hP, hD⟩ := va_join (wr := []) (w1 := [(mo, .inr (4, [.int 0, .int 1, .ref nw, .ref kp, .int 0, .int (-1), .ref mk, .ref co, .int 0, .int 0, .ref se])), (nw, .inl (cN, 25240, .inl now0))]) hP hD [0, 1] [] rfl rfl (by decide) (by decide) hk1 hFc hP1 hD1
  generalize H1 = H at hP hS ⊢
  have hP : va_P (dC, dI) kCl [(mo, .inr (4, [.int 0, .int 1, .ref nw, .ref kp, .int 0, .int (-1), .ref mk, .ref co, .int 0, .int 0, .ref se])), (nw, .inl (cN, 25240, .inl now0))] H := hP
  have hD : va_D A [(mo, .inr (4, [.int 0, .int 1, .ref nw, .ref kp, .int 0, .int (-1), .ref mk, .ref co, .int 0, .int 0, .ref se])), (nw, .inl (cN, 25240, .inl now0))] := hD
  refine W.widen (k := 0) (n := 0) (Nat.le_of_ble_eq_true rfl) (Nat.le_of_ble_eq_true rfl) ?_
  obtain rfl : r3 = 0 := hr4
  refine lv_if_ne (pc := 11) (tgt := 16) hx hb dM_undo_11 rfl (fun h6 => absurd h6 (by decide)) (fun h6 => ?_)
  refine lv_iconst (pc := 14) (v := 0) hx hb dM_undo_14 (by decide) ?_
  have hP9 := hP.sub (ws' := [(mo, .inr (4, [.int 0, .int 1, .ref nw, .ref kp, .int 0, .int (-1), .ref mk, .ref co, .int 0, .int 0, .ref se]))]) [0] rfl
  have hD9 := hD.sub (ws' := [(mo, .inr (4, [.int 0, .int 1, .ref nw, .ref kp, .int 0, .int (-1), .ref mk, .ref co, .int 0, .int 0, .ref se]))]) [0] (by decide) rfl
  have hK9 := hK.sub (tys' := []) [] rfl
  exact W.zret (pc := 15) hx hb hr rfl (fun t ht hW => ⟨⟨_, (), rfl, rfl, by rw [ht]; exact hP9, va_K.moved hW.alike hK9, hD9⟩, hS.F ht⟩) hS.2.2 dM_undo_15
set_option maxHeartbeats 4000000 in
set_option maxRecDepth 100000 in
theorem m_put (l : Launch) (dC : Nat → ClassId) (dI : Nat → Nat → Nat) (sz : Nat) (mo : Nat) (nw : Nat) (kp : Nat) (mk : Nat) (co : Nat) (se : Nat) (th : Int32) (mr : Int32) (cN : ClassId) (dd : Int32) (pp : Int32) (ta : Int32) (va : Int32) : Met l yM_put (.code yM_put cM_put 7 (some .boolean) :: aw) ({ frames := 3, cells := 0, slots := 0, locals := 65 }) (pW (dC, dI) sz [(mo, .inr (4, [.int th, .int mr, .ref nw, .ref kp, .int 0, .int (-1), .ref mk, .ref co, .int 0, .int 0, .ref se])), (nw, .inl (cN, 25240, .inl now0))] [(cN, .int)] [.ref mo, .int dd, .int pp, .int ta, .int va]) (va_Qi (fun r (_ : Unit) => r = 0) (fun _ t => wW (dC, dI) (va_A [(mo, .inr (4, [.int th, .int mr, .ref nw, .ref kp, .int 0, .int (-1), .ref mk, .ref co, .int 0, .int 0, .ref se])), (nw, .inl (cN, 25240, .inl now0))] sz) [(mo, .inr (4, [.int 0, .int 1, .ref nw, .ref kp, .int 0, .int (-1), .ref mk, .ref co, .int 0, .int 0, .ref se]))] [] t) (va_A [(mo, .inr (4, [.int th, .int mr, .ref nw, .ref kp, .int 0, .int (-1), .ref mk, .ref co, .int 0, .int 0, .ref se])), (nw, .inl (cN, 25240, .inl now0))] sz)) 0 0 (va_A [(mo, .inr (4, [.int th, .int mr, .ref nw, .ref kp, .int 0, .int (-1), .ref mk, .ref co, .int 0, .int 0, .ref se])), (nw, .inl (cN, 25240, .inl now0))] sz) := by
  refine Met.ofW (cc := cM_put) (maxL := 7) (ret := (some .boolean)) (by decide) rfl ?_
  intro p e s m args below meth c s₁ B hml hv
  obtain ⟨rfl, hv⟩ := hv
  have hx := B.exec
  have hb := B.bytes
  have hr := B.returns
  have hts : ∀ w ∈ aw, w.before _ s = true := fun w h => atoms_spec (ws := (.code yM_put cM_put 7 (some .boolean) :: aw)) B.pre w (List.mem_cons_of_mem _ h)
  have hown : s.vm.findClass RM = some m.cls := findClass_of_methodNamed B.named
  have hlocks := B.notSynchronized
  obtain ⟨hsz, hP, hK, hD0⟩ := hv
  subst hsz
  have hD := hD0.self (sz := s.heap.size)
  generalize hAe : va_A [(mo, .inr (4, [.int th, .int mr, .ref nw, .ref kp, .int 0, .int (-1), .ref mk, .ref co, .int 0, .int 0, .ref se])), (nw, .inl (cN, 25240, .inl now0))] s.heap.size = A at hD ⊢
  have hA : ∀ q : Nat, s.heap.size ≤ q → A q := fun q h => by rw [← hAe]; exact Or.inr h
  obtain ⟨H, hH⟩ : ∃ H, H = s.heap := ⟨_, rfl⟩
  have hS : va_S A s.heap H [] := by rw [hH]; exact va_S.rf
  rw [← hH] at hP ⊢
  have hP : va_P (dC, dI) kCl [(mo, .inr (4, [.int th, .int mr, .ref nw, .ref kp, .int 0, .int (-1), .ref mk, .ref co, .int 0, .int 0, .ref se])), (nw, .inl (cN, 25240, .inl now0))] H := hP
  have hl := lv_entry ([.ref mo, .int dd, .int pp, .int ta, .int va]) (n := 7) (Nat.le_of_ble_eq_true rfl)
  rw [lg_entry_eq]
  generalize (lg_sl ([.ref mo, .int dd, .int pp, .int ta, .int va]) ++ List.replicate (7 - (lg_sl ([.ref mo, .int dd, .int pp, .int ta, .int va])).length) Slot.unset).toArray = ls at hl ⊢
  have hl : lv_has ls 7 [(0, .ref mo), (1, .int dd), (2, .int pp), (3, .int ta), (4, .int va)] := hl
  refine lv_aload_n (pc := 0) hx hb dM_put_0 rfl (lv_at hl 0 rfl) ?_
  refine lv_iload_n (pc := 1) hx hb dM_put_1 rfl (lv_at hl 1 rfl) ?_
  refine lv_iload_n (pc := 2) hx hb dM_put_2 rfl (lv_at hl 2 rfl) ?_
  refine vp_callSi (pc := 3) (W.runV (As := [.int dd, .int pp]) (rest := []) ⟨hx, hb, hml, hown, hts⟩ (m_whyNot l dC dI mo nw kp mk co se th mr cN dd pp) (cwV 2 hts (gV wd_185 wd_186 wd_187 wd_157 wd_184) rfl rfl rfl (by decide +kernel) ⟨Nat.le_of_ble_eq_true rfl, Nat.le_of_ble_eq_true rfl⟩) ⟨pR_blind, va_recv (q := (RM, TM, 11)) (q0 := 0) (ci := 4) hK hP rfl rfl, pR_pre (hP.sub (ws' := [(mo, .inr (4, [.int th, .int mr, .ref nw, .ref kp, .int 0, .int (-1), .ref mk, .ref co, .int 0, .int 0, .ref se])), (nw, .inl (cN, 25240, .inl now0))]) [0, 1] rfl) (hK.sub (tys' := [(cN, .int)]) [0] rfl)⟩ rfl rfl hl.1 rfl (lv_room (Nat.le_of_ble_eq_true rfl)) dM_put_3 ⟨Nat.le_of_ble_eq_true rfl, Nat.le_of_ble_eq_true rfl⟩) (fun r1 hr2 => ?_)
  obtain rfl : r1 = 1 := hr2
  refine lv_istore (pc := 6) hx hb dM_put_6 hl (by decide) rfl (fun ls hl => ?_)
  have hl : lv_has ls 7 [(5, .int 1), (0, .ref mo), (1, .int dd), (2, .int pp), (3, .int ta), (4, .int va)] := hl
  refine lv_iload (pc := 8) hx hb dM_put_8 (lv_at hl 0 rfl) ?_
  refine lv_if_ne (pc := 10) (tgt := 59) hx hb dM_put_10 rfl (fun h3 => ?_) (fun h3 => absurd h3 (by decide))
  refine lv_iconst (pc := 59) (v := 0) hx hb dM_put_59 (by decide) ?_
  refine lv_istore (pc := 60) hx hb dM_put_60 hl (by decide) rfl (fun ls hl => ?_)
  have hl : lv_has ls 7 [(6, .int 0), (5, .int 1), (0, .ref mo), (1, .int dd), (2, .int pp), (3, .int ta), (4, .int va)] := hl
  refine lv_aload_n (pc := 62) hx hb dM_put_62 rfl (lv_at hl 2 rfl) ?_
  refine lv_iload (pc := 63) hx hb dM_put_63 (lv_at hl 1 rfl) ?_
  refine lv_if_ne (pc := 65) (tgt := 78) hx hb dM_put_65 rfl (fun h4 => ?_) (fun h4 => absurd h4 (by decide))
  refine lv_iload (pc := 78) hx hb dM_put_78 (lv_at hl 1 rfl) ?_
  have hPc := hP.sub (ws' := [(mo, .inr (4, [.int th, .int mr, .ref nw, .ref kp, .int 0, .int (-1), .ref mk, .ref co, .int 0, .int 0, .ref se]))]) [0] rfl
  have hDc := hD.sub (ws' := [(mo, .inr (4, [.int th, .int mr, .ref nw, .ref kp, .int 0, .int (-1), .ref mk, .ref co, .int 0, .int 0, .ref se]))]) [0] (by decide) rfl
  have hKc := hK.sub (tys' := []) [] rfl
  have hFc := va_free (wc := [(mo, .inr (4, [.int th, .int mr, .ref nw, .ref kp, .int 0, .int (-1), .ref mk, .ref co, .int 0, .int 0, .ref se]))]) hD hS hA [0] rfl
  refine va_calli (pc := 80) (va_runV (As := [.int 1]) (rest := []) ⟨hx, hb, hml, hown, hts⟩ (m_mayHere l dC dI H.size mo nw kp mk co se th mr 1 (by decide)) (cwV 1 hts (gV wd_189 wd_190 wd_191 wd_157 wd_188) rfl rfl rfl (by decide +kernel) ⟨Nat.le_of_ble_eq_true rfl, Nat.le_of_ble_eq_true rfl⟩) ⟨pW_blind, va_recv (q := (RM, TM, 11)) (q0 := 0) (ci := 4) hK hP rfl rfl, pW_pre hPc hKc hDc⟩ rfl rfl hl.1 rfl (lv_room (Nat.le_of_ble_eq_true rfl)) dM_put_80 ⟨Nat.le_of_ble_eq_true rfl, Nat.le_of_ble_eq_true rfl⟩) hS (fun q _ h => hFc q h) hFc (fun r5 u t H1 locs ht hvm hr6 hB hz1 hk1 hS => ?_)
  obtain ⟨hP1, hK1, hD1⟩ := hB
  rw [ht] at hP1
  have hK1 := va_K.moved hvm.symm hK1
  obtain ⟨hP, hD⟩ := va_join (wr := [(nw, .inl (cN, 25240, .inl now0))]) (w1 := [(mo, .inr (4, [.int 0, .int 1, .ref nw, .ref kp, .int 0, .int (-1), .ref mk, .ref co, .int 0, .int 0, .ref se]))]) hP hD [0] [1] rfl rfl (by decide) (by decide) hk1 hFc hP1 hD1
  generalize H1 = H at hP hS ⊢
  have hP : va_P (dC, dI) kCl [(nw, .inl (cN, 25240, .inl now0)), (mo, .inr (4, [.int 0, .int 1, .ref nw, .ref kp, .int 0, .int (-1), .ref mk, .ref co, .int 0, .int 0, .ref se]))] H := hP
  have hD : va_D A [(nw, .inl (cN, 25240, .inl now0)), (mo, .inr (4, [.int 0, .int 1, .ref nw, .ref kp, .int 0, .int (-1), .ref mk, .ref co, .int 0, .int 0, .ref se]))] := hD
  refine W.widen (k := 0) (n := 0) (Nat.le_of_ble_eq_true rfl) (Nat.le_of_ble_eq_true rfl) ?_
  obtain rfl : r5 = 0 := hr6
  refine lv_if_ne (pc := 83) (tgt := 88) hx hb dM_put_83 rfl (fun h8 => absurd h8 (by decide)) (fun h8 => ?_)
  refine lv_iconst (pc := 86) (v := 0) hx hb dM_put_86 (by decide) ?_
  have hP9 := hP.sub (ws' := [(mo, .inr (4, [.int 0, .int 1, .ref nw, .ref kp, .int 0, .int (-1), .ref mk, .ref co, .int 0, .int 0, .ref se]))]) [1] rfl
  have hD9 := hD.sub (ws' := [(mo, .inr (4, [.int 0, .int 1, .ref nw, .ref kp, .int 0, .int (-1), .ref mk, .ref co, .int 0, .int 0, .ref se]))]) [1] (by decide) rfl
  have hK9 := hK.sub (tys' := []) [] rfl
  exact W.zret (pc := 87) hx hb hr rfl (fun t ht hW => ⟨⟨_, (), rfl, rfl, by rw [ht]; exact hP9, va_K.moved hW.alike hK9, hD9⟩, hS.F ht⟩) hS.2.2 dM_put_87
set_option maxHeartbeats 4000000 in
set_option maxRecDepth 100000 in
theorem m_resize (l : Launch) (dC : Nat → ClassId) (dI : Nat → Nat → Nat) (sz : Nat) (mo : Nat) (nw : Nat) (kp : Nat) (mk : Nat) (co : Nat) (se : Nat) (th : Int32) (mr : Int32) (cN : ClassId) (dd : Int32) (pp : Int32) (bn : Int32) : Met l yM_resize (.code yM_resize cM_resize 7 (some .boolean) :: aw) ({ frames := 3, cells := 0, slots := 0, locals := 65 }) (pW (dC, dI) sz [(mo, .inr (4, [.int th, .int mr, .ref nw, .ref kp, .int 0, .int (-1), .ref mk, .ref co, .int 0, .int 0, .ref se])), (nw, .inl (cN, 25240, .inl now0))] [(cN, .int)] [.ref mo, .int dd, .int pp, .int bn]) (va_Qi (fun r (_ : Unit) => r = 0) (fun _ t => wW (dC, dI) (va_A [(mo, .inr (4, [.int th, .int mr, .ref nw, .ref kp, .int 0, .int (-1), .ref mk, .ref co, .int 0, .int 0, .ref se])), (nw, .inl (cN, 25240, .inl now0))] sz) [(mo, .inr (4, [.int 0, .int 1, .ref nw, .ref kp, .int 0, .int (-1), .ref mk, .ref co, .int 0, .int 0, .ref se]))] [] t) (va_A [(mo, .inr (4, [.int th, .int mr, .ref nw, .ref kp, .int 0, .int (-1), .ref mk, .ref co, .int 0, .int 0, .ref se])), (nw, .inl (cN, 25240, .inl now0))] sz)) 0 0 (va_A [(mo, .inr (4, [.int th, .int mr, .ref nw, .ref kp, .int 0, .int (-1), .ref mk, .ref co, .int 0, .int 0, .ref se])), (nw, .inl (cN, 25240, .inl now0))] sz) := by
  refine Met.ofW (cc := cM_resize) (maxL := 7) (ret := (some .boolean)) (by decide) rfl ?_
  intro p e s m args below meth c s₁ B hml hv
  obtain ⟨rfl, hv⟩ := hv
  have hx := B.exec
  have hb := B.bytes
  have hr := B.returns
  have hts : ∀ w ∈ aw, w.before _ s = true := fun w h => atoms_spec (ws := (.code yM_resize cM_resize 7 (some .boolean) :: aw)) B.pre w (List.mem_cons_of_mem _ h)
  have hown : s.vm.findClass RM = some m.cls := findClass_of_methodNamed B.named
  have hlocks := B.notSynchronized
  obtain ⟨hsz, hP, hK, hD0⟩ := hv
  subst hsz
  have hD := hD0.self (sz := s.heap.size)
  generalize hAe : va_A [(mo, .inr (4, [.int th, .int mr, .ref nw, .ref kp, .int 0, .int (-1), .ref mk, .ref co, .int 0, .int 0, .ref se])), (nw, .inl (cN, 25240, .inl now0))] s.heap.size = A at hD ⊢
  have hA : ∀ q : Nat, s.heap.size ≤ q → A q := fun q h => by rw [← hAe]; exact Or.inr h
  obtain ⟨H, hH⟩ : ∃ H, H = s.heap := ⟨_, rfl⟩
  have hS : va_S A s.heap H [] := by rw [hH]; exact va_S.rf
  rw [← hH] at hP ⊢
  have hP : va_P (dC, dI) kCl [(mo, .inr (4, [.int th, .int mr, .ref nw, .ref kp, .int 0, .int (-1), .ref mk, .ref co, .int 0, .int 0, .ref se])), (nw, .inl (cN, 25240, .inl now0))] H := hP
  have hl := lv_entry ([.ref mo, .int dd, .int pp, .int bn]) (n := 7) (Nat.le_of_ble_eq_true rfl)
  rw [lg_entry_eq]
  generalize (lg_sl ([.ref mo, .int dd, .int pp, .int bn]) ++ List.replicate (7 - (lg_sl ([.ref mo, .int dd, .int pp, .int bn])).length) Slot.unset).toArray = ls at hl ⊢
  have hl : lv_has ls 7 [(0, .ref mo), (1, .int dd), (2, .int pp), (3, .int bn)] := hl
  refine lv_aload_n (pc := 0) hx hb dM_resize_0 rfl (lv_at hl 0 rfl) ?_
  refine lv_iload_n (pc := 1) hx hb dM_resize_1 rfl (lv_at hl 1 rfl) ?_
  refine lv_iload_n (pc := 2) hx hb dM_resize_2 rfl (lv_at hl 2 rfl) ?_
  refine vp_callSi (pc := 3) (W.runV (As := [.int dd, .int pp]) (rest := []) ⟨hx, hb, hml, hown, hts⟩ (m_whyNot l dC dI mo nw kp mk co se th mr cN dd pp) (cwV 2 hts (gV wd_185 wd_186 wd_187 wd_157 wd_184) rfl rfl rfl (by decide +kernel) ⟨Nat.le_of_ble_eq_true rfl, Nat.le_of_ble_eq_true rfl⟩) ⟨pR_blind, va_recv (q := (RM, TM, 11)) (q0 := 0) (ci := 4) hK hP rfl rfl, pR_pre (hP.sub (ws' := [(mo, .inr (4, [.int th, .int mr, .ref nw, .ref kp, .int 0, .int (-1), .ref mk, .ref co, .int 0, .int 0, .ref se])), (nw, .inl (cN, 25240, .inl now0))]) [0, 1] rfl) (hK.sub (tys' := [(cN, .int)]) [0] rfl)⟩ rfl rfl hl.1 rfl (lv_room (Nat.le_of_ble_eq_true rfl)) dM_resize_3 ⟨Nat.le_of_ble_eq_true rfl, Nat.le_of_ble_eq_true rfl⟩) (fun r1 hr2 => ?_)
  obtain rfl : r1 = 1 := hr2
  refine lv_istore (pc := 6) hx hb dM_resize_6 hl (by decide) rfl (fun ls hl => ?_)
  have hl : lv_has ls 7 [(4, .int 1), (0, .ref mo), (1, .int dd), (2, .int pp), (3, .int bn)] := hl
  refine lv_aload_n (pc := 8) hx hb dM_resize_8 rfl (lv_at hl 1 rfl) ?_
  refine lv_iload (pc := 9) hx hb dM_resize_9 (lv_at hl 0 rfl) ?_
  refine lv_if_ne (pc := 11) (tgt := 29) hx hb dM_resize_11 rfl (fun h3 => ?_) (fun h3 => absurd h3 (by decide))
  refine lv_iload (pc := 29) hx hb dM_resize_29 (lv_at hl 0 rfl) ?_
  have hPc := hP.sub (ws' := [(mo, .inr (4, [.int th, .int mr, .ref nw, .ref kp, .int 0, .int (-1), .ref mk, .ref co, .int 0, .int 0, .ref se]))]) [0] rfl
  have hDc := hD.sub (ws' := [(mo, .inr (4, [.int th, .int mr, .ref nw, .ref kp, .int 0, .int (-1), .ref mk, .ref co, .int 0, .int 0, .ref se]))]) [0] (by decide) rfl
  have hKc := hK.sub (tys' := []) [] rfl
  have hFc := va_free (wc := [(mo, .inr (4, [.int th, .int mr, .ref nw, .ref kp, .int 0, .int (-1), .ref mk, .ref co, .int 0, .int 0, .ref se]))]) hD hS hA [0] rfl
  refine va_calli (pc := 31) (va_runV (As := [.int 1]) (rest := []) ⟨hx, hb, hml, hown, hts⟩ (m_mayHere l dC dI H.size mo nw kp mk co se th mr 1 (by decide)) (cwV 1 hts (gV wd_189 wd_190 wd_191 wd_157 wd_188) rfl rfl rfl (by decide +kernel) ⟨Nat.le_of_ble_eq_true rfl, Nat.le_of_ble_eq_true rfl⟩) ⟨pW_blind, va_recv (q := (RM, TM, 11)) (q0 := 0) (ci := 4) hK hP rfl rfl, pW_pre hPc hKc hDc⟩ rfl rfl hl.1 rfl (lv_room (Nat.le_of_ble_eq_true rfl)) dM_resize_31 ⟨Nat.le_of_ble_eq_true rfl, Nat.le_of_ble_eq_true rfl⟩) hS (fun q _ h => hFc q h) hFc (fun r4 u t H1 locs ht hvm hr5 hB hz1 hk1 hS => ?_)
  obtain ⟨hP1, hK1, hD1⟩ := hB
  rw [ht] at hP1
  have hK1 := va_K.moved hvm.symm hK1
  obtain ⟨hP, hD⟩ := va_join (wr := [(nw, .inl (cN, 25240, .inl now0))]) (w1 := [(mo, .inr (4, [.int 0, .int 1, .ref nw, .ref kp, .int 0, .int (-1), .ref mk, .ref co, .int 0, .int 0, .ref se]))]) hP hD [0] [1] rfl rfl (by decide) (by decide) hk1 hFc hP1 hD1
  generalize H1 = H at hP hS ⊢
  have hP : va_P (dC, dI) kCl [(nw, .inl (cN, 25240, .inl now0)), (mo, .inr (4, [.int 0, .int 1, .ref nw, .ref kp, .int 0, .int (-1), .ref mk, .ref co, .int 0, .int 0, .ref se]))] H := hP
  have hD : va_D A [(nw, .inl (cN, 25240, .inl now0)), (mo, .inr (4, [.int 0, .int 1, .ref nw, .ref kp, .int 0, .int (-1), .ref mk, .ref co, .int 0, .int 0, .ref se]))] := hD
  refine W.widen (k := 0) (n := 0) (Nat.le_of_ble_eq_true rfl) (Nat.le_of_ble_eq_true rfl) ?_
  obtain rfl : r4 = 0 := hr5
  refine lv_if_ne (pc := 34) (tgt := 39) hx hb dM_resize_34 rfl (fun h7 => absurd h7 (by decide)) (fun h7 => ?_)
  refine lv_iconst (pc := 37) (v := 0) hx hb dM_resize_37 (by decide) ?_
  have hP9 := hP.sub (ws' := [(mo, .inr (4, [.int 0, .int 1, .ref nw, .ref kp, .int 0, .int (-1), .ref mk, .ref co, .int 0, .int 0, .ref se]))]) [1] rfl
  have hD9 := hD.sub (ws' := [(mo, .inr (4, [.int 0, .int 1, .ref nw, .ref kp, .int 0, .int (-1), .ref mk, .ref co, .int 0, .int 0, .ref se]))]) [1] (by decide) rfl
  have hK9 := hK.sub (tys' := []) [] rfl
  exact W.zret (pc := 38) hx hb hr rfl (fun t ht hW => ⟨⟨_, (), rfl, rfl, by rw [ht]; exact hP9, va_K.moved hW.alike hK9, hD9⟩, hS.F ht⟩) hS.2.2 dM_resize_38
set_option maxHeartbeats 4000000 in
set_option maxRecDepth 100000 in
theorem m_ref (l : Launch) (dC : Nat → ClassId) (dI : Nat → Nat → Nat) (sz : Nat) (mo : Nat) (nw : Nat) (kp : Nat) (mk : Nat) (co : Nat) (se : Nat) (th : Int32) (mr : Int32) (cN : ClassId) (dd : Int32) (pp : Int32) (kk : Int32) (tg : Int32) (vv : Int32) : Met l yM_ref (.code yM_ref cM_ref 11 (some .boolean) :: aw) ({ frames := 3, cells := 0, slots := 0, locals := 65 }) (pW (dC, dI) sz [(mo, .inr (4, [.int th, .int mr, .ref nw, .ref kp, .int 0, .int (-1), .ref mk, .ref co, .int 0, .int 0, .ref se])), (nw, .inl (cN, 25240, .inl now0))] [(cN, .int)] [.ref mo, .int dd, .int pp, .int kk, .int tg, .int vv]) (va_Qi (fun r (_ : Unit) => r = 0) (fun _ t => wW (dC, dI) (va_A [(mo, .inr (4, [.int th, .int mr, .ref nw, .ref kp, .int 0, .int (-1), .ref mk, .ref co, .int 0, .int 0, .ref se])), (nw, .inl (cN, 25240, .inl now0))] sz) [(mo, .inr (4, [.int 0, .int 1, .ref nw, .ref kp, .int 0, .int (-1), .ref mk, .ref co, .int 0, .int 0, .ref se]))] [] t) (va_A [(mo, .inr (4, [.int th, .int mr, .ref nw, .ref kp, .int 0, .int (-1), .ref mk, .ref co, .int 0, .int 0, .ref se])), (nw, .inl (cN, 25240, .inl now0))] sz)) 0 0 (va_A [(mo, .inr (4, [.int th, .int mr, .ref nw, .ref kp, .int 0, .int (-1), .ref mk, .ref co, .int 0, .int 0, .ref se])), (nw, .inl (cN, 25240, .inl now0))] sz) := by
  refine Met.ofW (cc := cM_ref) (maxL := 11) (ret := (some .boolean)) (by decide) rfl ?_
  intro p e s m args below meth c s₁ B hml hv
  obtain ⟨rfl, hv⟩ := hv
  have hx := B.exec
  have hb := B.bytes
  have hr := B.returns
  have hts : ∀ w ∈ aw, w.before _ s = true := fun w h => atoms_spec (ws := (.code yM_ref cM_ref 11 (some .boolean) :: aw)) B.pre w (List.mem_cons_of_mem _ h)
  have hown : s.vm.findClass RM = some m.cls := findClass_of_methodNamed B.named
  have hlocks := B.notSynchronized
  obtain ⟨hsz, hP, hK, hD0⟩ := hv
  subst hsz
  have hD := hD0.self (sz := s.heap.size)
  generalize hAe : va_A [(mo, .inr (4, [.int th, .int mr, .ref nw, .ref kp, .int 0, .int (-1), .ref mk, .ref co, .int 0, .int 0, .ref se])), (nw, .inl (cN, 25240, .inl now0))] s.heap.size = A at hD ⊢
  have hA : ∀ q : Nat, s.heap.size ≤ q → A q := fun q h => by rw [← hAe]; exact Or.inr h
  obtain ⟨H, hH⟩ : ∃ H, H = s.heap := ⟨_, rfl⟩
  have hS : va_S A s.heap H [] := by rw [hH]; exact va_S.rf
  rw [← hH] at hP ⊢
  have hP : va_P (dC, dI) kCl [(mo, .inr (4, [.int th, .int mr, .ref nw, .ref kp, .int 0, .int (-1), .ref mk, .ref co, .int 0, .int 0, .ref se])), (nw, .inl (cN, 25240, .inl now0))] H := hP
  have hl := lv_entry ([.ref mo, .int dd, .int pp, .int kk, .int tg, .int vv]) (n := 11) (Nat.le_of_ble_eq_true rfl)
  rw [lg_entry_eq]
  generalize (lg_sl ([.ref mo, .int dd, .int pp, .int kk, .int tg, .int vv]) ++ List.replicate (11 - (lg_sl ([.ref mo, .int dd, .int pp, .int kk, .int tg, .int vv])).length) Slot.unset).toArray = ls at hl ⊢
  have hl : lv_has ls 11 [(0, .ref mo), (1, .int dd), (2, .int pp), (3, .int kk), (4, .int tg), (5, .int vv)] := hl
  refine lv_aload_n (pc := 0) hx hb dM_ref_0 rfl (lv_at hl 0 rfl) ?_
  refine lv_iload_n (pc := 1) hx hb dM_ref_1 rfl (lv_at hl 1 rfl) ?_
  refine lv_iload_n (pc := 2) hx hb dM_ref_2 rfl (lv_at hl 2 rfl) ?_
  refine vp_callSi (pc := 3) (W.runV (As := [.int dd, .int pp]) (rest := []) ⟨hx, hb, hml, hown, hts⟩ (m_whyNot l dC dI mo nw kp mk co se th mr cN dd pp) (cwV 2 hts (gV wd_185 wd_186 wd_187 wd_157 wd_184) rfl rfl rfl (by decide +kernel) ⟨Nat.le_of_ble_eq_true rfl, Nat.le_of_ble_eq_true rfl⟩) ⟨pR_blind, va_recv (q := (RM, TM, 11)) (q0 := 0) (ci := 4) hK hP rfl rfl, pR_pre (hP.sub (ws' := [(mo, .inr (4, [.int th, .int mr, .ref nw, .ref kp, .int 0, .int (-1), .ref mk, .ref co, .int 0, .int 0, .ref se])), (nw, .inl (cN, 25240, .inl now0))]) [0, 1] rfl) (hK.sub (tys' := [(cN, .int)]) [0] rfl)⟩ rfl rfl hl.1 rfl (lv_room (Nat.le_of_ble_eq_true rfl)) dM_ref_3 ⟨Nat.le_of_ble_eq_true rfl, Nat.le_of_ble_eq_true rfl⟩) (fun r1 hr2 => ?_)
  obtain rfl : r1 = 1 := hr2
  refine lv_istore (pc := 6) hx hb dM_ref_6 hl (by decide) rfl (fun ls hl => ?_)
  have hl : lv_has ls 11 [(6, .int 1), (0, .ref mo), (1, .int dd), (2, .int pp), (3, .int kk), (4, .int tg), (5, .int vv)] := hl
  refine lv_iload (pc := 8) hx hb dM_ref_8 (lv_at hl 0 rfl) ?_
  refine lv_if_ne (pc := 10) (tgt := 28) hx hb dM_ref_10 rfl (fun h3 => ?_) (fun h3 => absurd h3 (by decide))
  refine lv_iconst (pc := 28) (v := 0) hx hb dM_ref_28 (by decide) ?_
  refine lv_istore (pc := 29) hx hb dM_ref_29 hl (by decide) rfl (fun ls hl => ?_)
  have hl : lv_has ls 11 [(7, .int 0), (6, .int 1), (0, .ref mo), (1, .int dd), (2, .int pp), (3, .int kk), (4, .int tg), (5, .int vv)] := hl
  refine lv_iload_n (pc := 31) hx hb dM_ref_31 rfl (lv_at hl 5 rfl) ?_
  refine lv_if_lt (pc := 32) (tgt := 56) hx hb dM_ref_32 rfl (fun h4 => ?_) (fun h4 => ?_)
  · refine lv_iconst (pc := 56) (v := 1) hx hb dM_ref_56 (by decide) ?_
    refine lv_goto (pc := 57) (tgt := 61) hx hb dM_ref_57 rfl ?_
    refine lv_istore (pc := 61) hx hb dM_ref_61 hl (by decide) rfl (fun ls hl => ?_)
    have hl : lv_has ls 11 [(8, .int 1), (7, .int 0), (6, .int 1), (0, .ref mo), (1, .int dd), (2, .int pp), (3, .int kk), (4, .int tg), (5, .int vv)] := hl
    refine lv_iload (pc := 63) hx hb dM_ref_63 (lv_at hl 2 rfl) ?_
    refine lv_if_le (pc := 65) (tgt := 73) hx hb dM_ref_65 rfl (fun h5 => absurd h5 (by decide)) (fun h5 => ?_)
    refine lv_iload (pc := 68) hx hb dM_ref_68 (lv_at hl 2 rfl) ?_
    refine lv_goto (pc := 70) (tgt := 95) hx hb dM_ref_70 rfl ?_
    refine lv_istore (pc := 95) hx hb dM_ref_95 hl (by decide) rfl (fun ls hl => ?_)
    have hl : lv_has ls 11 [(9, .int 1), (8, .int 1), (7, .int 0), (6, .int 1), (0, .ref mo), (1, .int dd), (2, .int pp), (3, .int kk), (4, .int tg), (5, .int vv)] := hl
    refine lv_aload_n (pc := 97) hx hb dM_ref_97 rfl (lv_at hl 4 rfl) ?_
    refine lv_iload (pc := 98) hx hb dM_ref_98 (lv_at hl 0 rfl) ?_
    have hPc := hP.sub (ws' := [(mo, .inr (4, [.int th, .int mr, .ref nw, .ref kp, .int 0, .int (-1), .ref mk, .ref co, .int 0, .int 0, .ref se]))]) [0] rfl
    have hDc := hD.sub (ws' := [(mo, .inr (4, [.int th, .int mr, .ref nw, .ref kp, .int 0, .int (-1), .ref mk, .ref co, .int 0, .int 0, .ref se]))]) [0] (by decide) rfl
    have hKc := hK.sub (tys' := []) [] rfl
    have hFc := va_free (wc := [(mo, .inr (4, [.int th, .int mr, .ref nw, .ref kp, .int 0, .int (-1), .ref mk, .ref co, .int 0, .int 0, .ref se]))]) hD hS hA [0] rfl
    refine va_calli (pc := 100) (va_runV (As := [.int 1]) (rest := []) ⟨hx, hb, hml, hown, hts⟩ (m_mayHere l dC dI H.size mo nw kp mk co se th mr 1 (by decide)) (cwV 1 hts (gV wd_189 wd_190 wd_191 wd_157 wd_188) rfl rfl rfl (by decide +kernel) ⟨Nat.le_of_ble_eq_true rfl, Nat.le_of_ble_eq_true rfl⟩) ⟨pW_blind, va_recv (q := (RM, TM, 11)) (q0 := 0) (ci := 4) hK hP rfl rfl, pW_pre hPc hKc hDc⟩ rfl rfl hl.1 rfl (lv_room (Nat.le_of_ble_eq_true rfl)) dM_ref_100 ⟨Nat.le_of_ble_eq_true rfl, Nat.le_of_ble_eq_true rfl⟩) hS (fun q _ h => hFc q h) hFc (fun r6 u t H1 locs ht hvm hr7 hB hz1 hk1 hS => ?_)
    obtain ⟨hP1, hK1, hD1⟩ := hB
    rw [ht] at hP1
    have hK1 := va_K.moved hvm.symm hK1
    obtain ⟨hP, hD⟩ := va_join (wr := [(nw, .inl (cN, 25240, .inl now0))]) (w1 := [(mo, .inr (4, [.int 0, .int 1, .ref nw, .ref kp, .int 0, .int (-1), .ref mk, .ref co, .int 0, .int 0, .ref se]))]) hP hD [0] [1] rfl rfl (by decide) (by decide) hk1 hFc hP1 hD1
    generalize H1 = H at hP hS ⊢
    have hP : va_P (dC, dI) kCl [(nw, .inl (cN, 25240, .inl now0)), (mo, .inr (4, [.int 0, .int 1, .ref nw, .ref kp, .int 0, .int (-1), .ref mk, .ref co, .int 0, .int 0, .ref se]))] H := hP
    have hD : va_D A [(nw, .inl (cN, 25240, .inl now0)), (mo, .inr (4, [.int 0, .int 1, .ref nw, .ref kp, .int 0, .int (-1), .ref mk, .ref co, .int 0, .int 0, .ref se]))] := hD
    refine W.widen (k := 0) (n := 0) (Nat.le_of_ble_eq_true rfl) (Nat.le_of_ble_eq_true rfl) ?_
    obtain rfl : r6 = 0 := hr7
    refine lv_if_ne (pc := 103) (tgt := 108) hx hb dM_ref_103 rfl (fun h9 => absurd h9 (by decide)) (fun h9 => ?_)
    refine lv_iconst (pc := 106) (v := 0) hx hb dM_ref_106 (by decide) ?_
    have hP9 := hP.sub (ws' := [(mo, .inr (4, [.int 0, .int 1, .ref nw, .ref kp, .int 0, .int (-1), .ref mk, .ref co, .int 0, .int 0, .ref se]))]) [1] rfl
    have hD9 := hD.sub (ws' := [(mo, .inr (4, [.int 0, .int 1, .ref nw, .ref kp, .int 0, .int (-1), .ref mk, .ref co, .int 0, .int 0, .ref se]))]) [1] (by decide) rfl
    have hK9 := hK.sub (tys' := []) [] rfl
    exact W.zret (pc := 107) hx hb hr rfl (fun t ht hW => ⟨⟨_, (), rfl, rfl, by rw [ht]; exact hP9, va_K.moved hW.alike hK9, hD9⟩, hS.F ht⟩) hS.2.2 dM_ref_107
  · refine lv_iload_n (pc := 35) hx hb dM_ref_35 rfl (lv_at hl 5 rfl) ?_
    refine lv_iload (pc := 36) hx hb dM_ref_36 (lv_at hl 0 rfl) ?_
    refine lv_icmp_gt (pc := 38) (tgt := 56) hx hb dM_ref_38 rfl (fun h10 => ?_) (fun h10 => ?_)
    · refine lv_iconst (pc := 56) (v := 1) hx hb dM_ref_56 (by decide) ?_
      refine lv_goto (pc := 57) (tgt := 61) hx hb dM_ref_57 rfl ?_
      refine lv_istore (pc := 61) hx hb dM_ref_61 hl (by decide) rfl (fun ls hl => ?_)
      have hl : lv_has ls 11 [(8, .int 1), (7, .int 0), (6, .int 1), (0, .ref mo), (1, .int dd), (2, .int pp), (3, .int kk), (4, .int tg), (5, .int vv)] := hl
      refine lv_iload (pc := 63) hx hb dM_ref_63 (lv_at hl 2 rfl) ?_
      refine lv_if_le (pc := 65) (tgt := 73) hx hb dM_ref_65 rfl (fun h11 => absurd h11 (by decide)) (fun h11 => ?_)
      refine lv_iload (pc := 68) hx hb dM_ref_68 (lv_at hl 2 rfl) ?_
      refine lv_goto (pc := 70) (tgt := 95) hx hb dM_ref_70 rfl ?_
      refine lv_istore (pc := 95) hx hb dM_ref_95 hl (by decide) rfl (fun ls hl => ?_)
      have hl : lv_has ls 11 [(9, .int 1), (8, .int 1), (7, .int 0), (6, .int 1), (0, .ref mo), (1, .int dd), (2, .int pp), (3, .int kk), (4, .int tg), (5, .int vv)] := hl
      refine lv_aload_n (pc := 97) hx hb dM_ref_97 rfl (lv_at hl 4 rfl) ?_
      refine lv_iload (pc := 98) hx hb dM_ref_98 (lv_at hl 0 rfl) ?_
      have hPc := hP.sub (ws' := [(mo, .inr (4, [.int th, .int mr, .ref nw, .ref kp, .int 0, .int (-1), .ref mk, .ref co, .int 0, .int 0, .ref se]))]) [0] rfl
      have hDc := hD.sub (ws' := [(mo, .inr (4, [.int th, .int mr, .ref nw, .ref kp, .int 0, .int (-1), .ref mk, .ref co, .int 0, .int 0, .ref se]))]) [0] (by decide) rfl
      have hKc := hK.sub (tys' := []) [] rfl
      have hFc := va_free (wc := [(mo, .inr (4, [.int th, .int mr, .ref nw, .ref kp, .int 0, .int (-1), .ref mk, .ref co, .int 0, .int 0, .ref se]))]) hD hS hA [0] rfl
      refine va_calli (pc := 100) (va_runV (As := [.int 1]) (rest := []) ⟨hx, hb, hml, hown, hts⟩ (m_mayHere l dC dI H.size mo nw kp mk co se th mr 1 (by decide)) (cwV 1 hts (gV wd_189 wd_190 wd_191 wd_157 wd_188) rfl rfl rfl (by decide +kernel) ⟨Nat.le_of_ble_eq_true rfl, Nat.le_of_ble_eq_true rfl⟩) ⟨pW_blind, va_recv (q := (RM, TM, 11)) (q0 := 0) (ci := 4) hK hP rfl rfl, pW_pre hPc hKc hDc⟩ rfl rfl hl.1 rfl (lv_room (Nat.le_of_ble_eq_true rfl)) dM_ref_100 ⟨Nat.le_of_ble_eq_true rfl, Nat.le_of_ble_eq_true rfl⟩) hS (fun q _ h => hFc q h) hFc (fun r12 u t H1 locs ht hvm hr13 hB hz1 hk1 hS => ?_)
      obtain ⟨hP1, hK1, hD1⟩ := hB
      rw [ht] at hP1
      have hK1 := va_K.moved hvm.symm hK1
      obtain ⟨hP, hD⟩ := va_join (wr := [(nw, .inl (cN, 25240, .inl now0))]) (w1 := [(mo, .inr (4, [.int 0, .int 1, .ref nw, .ref kp, .int 0, .int (-1), .ref mk, .ref co, .int 0, .int 0, .ref se]))]) hP hD [0] [1] rfl rfl (by decide) (by decide) hk1 hFc hP1 hD1
      generalize H1 = H at hP hS ⊢
      have hP : va_P (dC, dI) kCl [(nw, .inl (cN, 25240, .inl now0)), (mo, .inr (4, [.int 0, .int 1, .ref nw, .ref kp, .int 0, .int (-1), .ref mk, .ref co, .int 0, .int 0, .ref se]))] H := hP
      have hD : va_D A [(nw, .inl (cN, 25240, .inl now0)), (mo, .inr (4, [.int 0, .int 1, .ref nw, .ref kp, .int 0, .int (-1), .ref mk, .ref co, .int 0, .int 0, .ref se]))] := hD
      refine W.widen (k := 0) (n := 0) (Nat.le_of_ble_eq_true rfl) (Nat.le_of_ble_eq_true rfl) ?_
      obtain rfl : r12 = 0 := hr13
      refine lv_if_ne (pc := 103) (tgt := 108) hx hb dM_ref_103 rfl (fun h15 => absurd h15 (by decide)) (fun h15 => ?_)
      refine lv_iconst (pc := 106) (v := 0) hx hb dM_ref_106 (by decide) ?_
      have hP9 := hP.sub (ws' := [(mo, .inr (4, [.int 0, .int 1, .ref nw, .ref kp, .int 0, .int (-1), .ref mk, .ref co, .int 0, .int 0, .ref se]))]) [1] rfl
      have hD9 := hD.sub (ws' := [(mo, .inr (4, [.int 0, .int 1, .ref nw, .ref kp, .int 0, .int (-1), .ref mk, .ref co, .int 0, .int 0, .ref se]))]) [1] (by decide) rfl
      have hK9 := hK.sub (tys' := []) [] rfl
      exact W.zret (pc := 107) hx hb hr rfl (fun t ht hW => ⟨⟨_, (), rfl, rfl, by rw [ht]; exact hP9, va_K.moved hW.alike hK9, hD9⟩, hS.F ht⟩) hS.2.2 dM_ref_107
    · refine lv_aload_n (pc := 41) hx hb dM_ref_41 rfl (lv_at hl 2 rfl) ?_
      refine lv_iload (pc := 42) hx hb dM_ref_42 (lv_at hl 6 rfl) ?_
      refine vp_callSi (pc := 44) (W.runV (As := [.int tg]) (rest := []) ⟨hx, hb, hml, hown, hts⟩ (m_isDrawing l dC dI mo nw kp mk co se th mr cN tg) (cwV 1 hts (gV wd_160 wd_161 wd_162 wd_157 wd_159) rfl rfl rfl (by decide +kernel) ⟨Nat.le_of_ble_eq_true rfl, Nat.le_of_ble_eq_true rfl⟩) ⟨pR_blind, va_recv (q := (RM, TM, 11)) (q0 := 0) (ci := 4) hK hP rfl rfl, pR_pre (hP.sub (ws' := [(mo, .inr (4, [.int th, .int mr, .ref nw, .ref kp, .int 0, .int (-1), .ref mk, .ref co, .int 0, .int 0, .ref se])), (nw, .inl (cN, 25240, .inl now0))]) [0, 1] rfl) (hK.sub (tys' := [(cN, .int)]) [0] rfl)⟩ rfl rfl hl.1 rfl (lv_room (Nat.le_of_ble_eq_true rfl)) dM_ref_44 ⟨Nat.le_of_ble_eq_true rfl, Nat.le_of_ble_eq_true rfl⟩) (fun r16 hr17 => ?_)
      obtain rfl : r16 = 0 := hr17
      refine lv_if_eq (pc := 47) (tgt := 56) hx hb dM_ref_47 rfl (fun h18 => ?_) (fun h18 => absurd h18 (by decide))
      refine lv_iconst (pc := 56) (v := 1) hx hb dM_ref_56 (by decide) ?_
      refine lv_goto (pc := 57) (tgt := 61) hx hb dM_ref_57 rfl ?_
      refine lv_istore (pc := 61) hx hb dM_ref_61 hl (by decide) rfl (fun ls hl => ?_)
      have hl : lv_has ls 11 [(8, .int 1), (7, .int 0), (6, .int 1), (0, .ref mo), (1, .int dd), (2, .int pp), (3, .int kk), (4, .int tg), (5, .int vv)] := hl
      refine lv_iload (pc := 63) hx hb dM_ref_63 (lv_at hl 2 rfl) ?_
      refine lv_if_le (pc := 65) (tgt := 73) hx hb dM_ref_65 rfl (fun h19 => absurd h19 (by decide)) (fun h19 => ?_)
      refine lv_iload (pc := 68) hx hb dM_ref_68 (lv_at hl 2 rfl) ?_
      refine lv_goto (pc := 70) (tgt := 95) hx hb dM_ref_70 rfl ?_
      refine lv_istore (pc := 95) hx hb dM_ref_95 hl (by decide) rfl (fun ls hl => ?_)
      have hl : lv_has ls 11 [(9, .int 1), (8, .int 1), (7, .int 0), (6, .int 1), (0, .ref mo), (1, .int dd), (2, .int pp), (3, .int kk), (4, .int tg), (5, .int vv)] := hl
      refine lv_aload_n (pc := 97) hx hb dM_ref_97 rfl (lv_at hl 4 rfl) ?_
      refine lv_iload (pc := 98) hx hb dM_ref_98 (lv_at hl 0 rfl) ?_
      have hPc := hP.sub (ws' := [(mo, .inr (4, [.int th, .int mr, .ref nw, .ref kp, .int 0, .int (-1), .ref mk, .ref co, .int 0, .int 0, .ref se]))]) [0] rfl
      have hDc := hD.sub (ws' := [(mo, .inr (4, [.int th, .int mr, .ref nw, .ref kp, .int 0, .int (-1), .ref mk, .ref co, .int 0, .int 0, .ref se]))]) [0] (by decide) rfl
      have hKc := hK.sub (tys' := []) [] rfl
      have hFc := va_free (wc := [(mo, .inr (4, [.int th, .int mr, .ref nw, .ref kp, .int 0, .int (-1), .ref mk, .ref co, .int 0, .int 0, .ref se]))]) hD hS hA [0] rfl
      refine va_calli (pc := 100) (va_runV (As := [.int 1]) (rest := []) ⟨hx, hb, hml, hown, hts⟩ (m_mayHere l dC dI H.size mo nw kp mk co se th mr 1 (by decide)) (cwV 1 hts (gV wd_189 wd_190 wd_191 wd_157 wd_188) rfl rfl rfl (by decide +kernel) ⟨Nat.le_of_ble_eq_true rfl, Nat.le_of_ble_eq_true rfl⟩) ⟨pW_blind, va_recv (q := (RM, TM, 11)) (q0 := 0) (ci := 4) hK hP rfl rfl, pW_pre hPc hKc hDc⟩ rfl rfl hl.1 rfl (lv_room (Nat.le_of_ble_eq_true rfl)) dM_ref_100 ⟨Nat.le_of_ble_eq_true rfl, Nat.le_of_ble_eq_true rfl⟩) hS (fun q _ h => hFc q h) hFc (fun r20 u t H1 locs ht hvm hr21 hB hz1 hk1 hS => ?_)
      obtain ⟨hP1, hK1, hD1⟩ := hB
      rw [ht] at hP1
      have hK1 := va_K.moved hvm.symm hK1
      obtain ⟨hP, hD⟩ := va_join (wr := [(nw, .inl (cN, 25240, .inl now0))]) (w1 := [(mo, .inr (4, [.int 0, .int 1, .ref nw, .ref kp, .int 0, .int (-1), .ref mk, .ref co, .int 0, .int 0, .ref se]))]) hP hD [0] [1] rfl rfl (by decide) (by decide) hk1 hFc hP1 hD1
      generalize H1 = H at hP hS ⊢
      have hP : va_P (dC, dI) kCl [(nw, .inl (cN, 25240, .inl now0)), (mo, .inr (4, [.int 0, .int 1, .ref nw, .ref kp, .int 0, .int (-1), .ref mk, .ref co, .int 0, .int 0, .ref se]))] H := hP
      have hD : va_D A [(nw, .inl (cN, 25240, .inl now0)), (mo, .inr (4, [.int 0, .int 1, .ref nw, .ref kp, .int 0, .int (-1), .ref mk, .ref co, .int 0, .int 0, .ref se]))] := hD
      refine W.widen (k := 0) (n := 0) (Nat.le_of_ble_eq_true rfl) (Nat.le_of_ble_eq_true rfl) ?_
      obtain rfl : r20 = 0 := hr21
      refine lv_if_ne (pc := 103) (tgt := 108) hx hb dM_ref_103 rfl (fun h23 => absurd h23 (by decide)) (fun h23 => ?_)
      refine lv_iconst (pc := 106) (v := 0) hx hb dM_ref_106 (by decide) ?_
      have hP9 := hP.sub (ws' := [(mo, .inr (4, [.int 0, .int 1, .ref nw, .ref kp, .int 0, .int (-1), .ref mk, .ref co, .int 0, .int 0, .ref se]))]) [1] rfl
      have hD9 := hD.sub (ws' := [(mo, .inr (4, [.int 0, .int 1, .ref nw, .ref kp, .int 0, .int (-1), .ref mk, .ref co, .int 0, .int 0, .ref se]))]) [1] (by decide) rfl
      have hK9 := hK.sub (tys' := []) [] rfl
      exact W.zret (pc := 107) hx hb hr rfl (fun t ht hW => ⟨⟨_, (), rfl, rfl, by rw [ht]; exact hP9, va_K.moved hW.alike hK9, hD9⟩, hS.F ht⟩) hS.2.2 dM_ref_107
set_option maxHeartbeats 4000000 in
set_option maxRecDepth 100000 in
theorem m_drop (l : Launch) (dC : Nat → ClassId) (dI : Nat → Nat → Nat) (sz : Nat) (mo : Nat) (nw : Nat) (kp : Nat) (mk : Nat) (co : Nat) (se : Nat) (th : Int32) (mr : Int32) (cN : ClassId) (dd : Int32) (pp : Int32) (kk : Int32) : Met l yM_drop (.code yM_drop cM_drop 8 (some .boolean) :: aw) ({ frames := 3, cells := 0, slots := 0, locals := 65 }) (pW (dC, dI) sz [(mo, .inr (4, [.int th, .int mr, .ref nw, .ref kp, .int 0, .int (-1), .ref mk, .ref co, .int 0, .int 0, .ref se])), (nw, .inl (cN, 25240, .inl now0))] [(cN, .int)] [.ref mo, .int dd, .int pp, .int kk]) (va_Qi (fun r (_ : Unit) => r = 0) (fun _ t => wW (dC, dI) (va_A [(mo, .inr (4, [.int th, .int mr, .ref nw, .ref kp, .int 0, .int (-1), .ref mk, .ref co, .int 0, .int 0, .ref se])), (nw, .inl (cN, 25240, .inl now0))] sz) [(mo, .inr (4, [.int 0, .int 1, .ref nw, .ref kp, .int 0, .int (-1), .ref mk, .ref co, .int 0, .int 0, .ref se]))] [] t) (va_A [(mo, .inr (4, [.int th, .int mr, .ref nw, .ref kp, .int 0, .int (-1), .ref mk, .ref co, .int 0, .int 0, .ref se])), (nw, .inl (cN, 25240, .inl now0))] sz)) 0 0 (va_A [(mo, .inr (4, [.int th, .int mr, .ref nw, .ref kp, .int 0, .int (-1), .ref mk, .ref co, .int 0, .int 0, .ref se])), (nw, .inl (cN, 25240, .inl now0))] sz) := by
  refine Met.ofW (cc := cM_drop) (maxL := 8) (ret := (some .boolean)) (by decide) rfl ?_
  intro p e s m args below meth c s₁ B hml hv
  obtain ⟨rfl, hv⟩ := hv
  have hx := B.exec
  have hb := B.bytes
  have hr := B.returns
  have hts : ∀ w ∈ aw, w.before _ s = true := fun w h => atoms_spec (ws := (.code yM_drop cM_drop 8 (some .boolean) :: aw)) B.pre w (List.mem_cons_of_mem _ h)
  have hown : s.vm.findClass RM = some m.cls := findClass_of_methodNamed B.named
  have hlocks := B.notSynchronized
  obtain ⟨hsz, hP, hK, hD0⟩ := hv
  subst hsz
  have hD := hD0.self (sz := s.heap.size)
  generalize hAe : va_A [(mo, .inr (4, [.int th, .int mr, .ref nw, .ref kp, .int 0, .int (-1), .ref mk, .ref co, .int 0, .int 0, .ref se])), (nw, .inl (cN, 25240, .inl now0))] s.heap.size = A at hD ⊢
  have hA : ∀ q : Nat, s.heap.size ≤ q → A q := fun q h => by rw [← hAe]; exact Or.inr h
  obtain ⟨H, hH⟩ : ∃ H, H = s.heap := ⟨_, rfl⟩
  have hS : va_S A s.heap H [] := by rw [hH]; exact va_S.rf
  rw [← hH] at hP ⊢
  have hP : va_P (dC, dI) kCl [(mo, .inr (4, [.int th, .int mr, .ref nw, .ref kp, .int 0, .int (-1), .ref mk, .ref co, .int 0, .int 0, .ref se])), (nw, .inl (cN, 25240, .inl now0))] H := hP
  have hl := lv_entry ([.ref mo, .int dd, .int pp, .int kk]) (n := 8) (Nat.le_of_ble_eq_true rfl)
  rw [lg_entry_eq]
  generalize (lg_sl ([.ref mo, .int dd, .int pp, .int kk]) ++ List.replicate (8 - (lg_sl ([.ref mo, .int dd, .int pp, .int kk])).length) Slot.unset).toArray = ls at hl ⊢
  have hl : lv_has ls 8 [(0, .ref mo), (1, .int dd), (2, .int pp), (3, .int kk)] := hl
  refine lv_aload_n (pc := 0) hx hb dM_drop_0 rfl (lv_at hl 0 rfl) ?_
  refine lv_iload_n (pc := 1) hx hb dM_drop_1 rfl (lv_at hl 1 rfl) ?_
  refine lv_iload_n (pc := 2) hx hb dM_drop_2 rfl (lv_at hl 2 rfl) ?_
  refine vp_callSi (pc := 3) (W.runV (As := [.int dd, .int pp]) (rest := []) ⟨hx, hb, hml, hown, hts⟩ (m_whyNot l dC dI mo nw kp mk co se th mr cN dd pp) (cwV 2 hts (gV wd_185 wd_186 wd_187 wd_157 wd_184) rfl rfl rfl (by decide +kernel) ⟨Nat.le_of_ble_eq_true rfl, Nat.le_of_ble_eq_true rfl⟩) ⟨pR_blind, va_recv (q := (RM, TM, 11)) (q0 := 0) (ci := 4) hK hP rfl rfl, pR_pre (hP.sub (ws' := [(mo, .inr (4, [.int th, .int mr, .ref nw, .ref kp, .int 0, .int (-1), .ref mk, .ref co, .int 0, .int 0, .ref se])), (nw, .inl (cN, 25240, .inl now0))]) [0, 1] rfl) (hK.sub (tys' := [(cN, .int)]) [0] rfl)⟩ rfl rfl hl.1 rfl (lv_room (Nat.le_of_ble_eq_true rfl)) dM_drop_3 ⟨Nat.le_of_ble_eq_true rfl, Nat.le_of_ble_eq_true rfl⟩) (fun r1 hr2 => ?_)
  obtain rfl : r1 = 1 := hr2
  refine lv_istore (pc := 6) hx hb dM_drop_6 hl (by decide) rfl (fun ls hl => ?_)
  have hl : lv_has ls 8 [(4, .int 1), (0, .ref mo), (1, .int dd), (2, .int pp), (3, .int kk)] := hl
  refine lv_iload (pc := 8) hx hb dM_drop_8 (lv_at hl 0 rfl) ?_
  refine lv_if_ne (pc := 10) (tgt := 46) hx hb dM_drop_10 rfl (fun h3 => ?_) (fun h3 => absurd h3 (by decide))
  refine lv_iconst (pc := 46) (v := 0) hx hb dM_drop_46 (by decide) ?_
  refine lv_istore (pc := 47) hx hb dM_drop_47 hl (by decide) rfl (fun ls hl => ?_)
  have hl : lv_has ls 8 [(5, .int 0), (4, .int 1), (0, .ref mo), (1, .int dd), (2, .int pp), (3, .int kk)] := hl
  refine lv_aload_n (pc := 49) hx hb dM_drop_49 rfl (lv_at hl 2 rfl) ?_
  refine lv_iload (pc := 50) hx hb dM_drop_50 (lv_at hl 1 rfl) ?_
  refine lv_if_ne (pc := 52) (tgt := 65) hx hb dM_drop_52 rfl (fun h4 => ?_) (fun h4 => absurd h4 (by decide))
  refine lv_iload (pc := 65) hx hb dM_drop_65 (lv_at hl 1 rfl) ?_
  have hPc := hP.sub (ws' := [(mo, .inr (4, [.int th, .int mr, .ref nw, .ref kp, .int 0, .int (-1), .ref mk, .ref co, .int 0, .int 0, .ref se]))]) [0] rfl
  have hDc := hD.sub (ws' := [(mo, .inr (4, [.int th, .int mr, .ref nw, .ref kp, .int 0, .int (-1), .ref mk, .ref co, .int 0, .int 0, .ref se]))]) [0] (by decide) rfl
  have hKc := hK.sub (tys' := []) [] rfl
  have hFc := va_free (wc := [(mo, .inr (4, [.int th, .int mr, .ref nw, .ref kp, .int 0, .int (-1), .ref mk, .ref co, .int 0, .int 0, .ref se]))]) hD hS hA [0] rfl
  refine va_calli (pc := 67) (va_runV (As := [.int 1]) (rest := []) ⟨hx, hb, hml, hown, hts⟩ (m_mayHere l dC dI H.size mo nw kp mk co se th mr 1 (by decide)) (cwV 1 hts (gV wd_189 wd_190 wd_191 wd_157 wd_188) rfl rfl rfl (by decide +kernel) ⟨Nat.le_of_ble_eq_true rfl, Nat.le_of_ble_eq_true rfl⟩) ⟨pW_blind, va_recv (q := (RM, TM, 11)) (q0 := 0) (ci := 4) hK hP rfl rfl, pW_pre hPc hKc hDc⟩ rfl rfl hl.1 rfl (lv_room (Nat.le_of_ble_eq_true rfl)) dM_drop_67 ⟨Nat.le_of_ble_eq_true rfl, Nat.le_of_ble_eq_true rfl⟩) hS (fun q _ h => hFc q h) hFc (fun r5 u t H1 locs ht hvm hr6 hB hz1 hk1 hS => ?_)
  obtain ⟨hP1, hK1, hD1⟩ := hB
  rw [ht] at hP1
  have hK1 := va_K.moved hvm.symm hK1
  obtain ⟨hP, hD⟩ := va_join (wr := [(nw, .inl (cN, 25240, .inl now0))]) (w1 := [(mo, .inr (4, [.int 0, .int 1, .ref nw, .ref kp, .int 0, .int (-1), .ref mk, .ref co, .int 0, .int 0, .ref se]))]) hP hD [0] [1] rfl rfl (by decide) (by decide) hk1 hFc hP1 hD1
  generalize H1 = H at hP hS ⊢
  have hP : va_P (dC, dI) kCl [(nw, .inl (cN, 25240, .inl now0)), (mo, .inr (4, [.int 0, .int 1, .ref nw, .ref kp, .int 0, .int (-1), .ref mk, .ref co, .int 0, .int 0, .ref se]))] H := hP
  have hD : va_D A [(nw, .inl (cN, 25240, .inl now0)), (mo, .inr (4, [.int 0, .int 1, .ref nw, .ref kp, .int 0, .int (-1), .ref mk, .ref co, .int 0, .int 0, .ref se]))] := hD
  refine W.widen (k := 0) (n := 0) (Nat.le_of_ble_eq_true rfl) (Nat.le_of_ble_eq_true rfl) ?_
  obtain rfl : r5 = 0 := hr6
  refine lv_if_ne (pc := 70) (tgt := 75) hx hb dM_drop_70 rfl (fun h8 => absurd h8 (by decide)) (fun h8 => ?_)
  refine lv_iconst (pc := 73) (v := 0) hx hb dM_drop_73 (by decide) ?_
  have hP9 := hP.sub (ws' := [(mo, .inr (4, [.int 0, .int 1, .ref nw, .ref kp, .int 0, .int (-1), .ref mk, .ref co, .int 0, .int 0, .ref se]))]) [1] rfl
  have hD9 := hD.sub (ws' := [(mo, .inr (4, [.int 0, .int 1, .ref nw, .ref kp, .int 0, .int (-1), .ref mk, .ref co, .int 0, .int 0, .ref se]))]) [1] (by decide) rfl
  have hK9 := hK.sub (tys' := []) [] rfl
  exact W.zret (pc := 74) hx hb hr rfl (fun t ht hW => ⟨⟨_, (), rfl, rfl, by rw [ht]; exact hP9, va_K.moved hW.alike hK9, hD9⟩, hS.F ht⟩) hS.2.2 dM_drop_74
set_option maxHeartbeats 4000000 in
set_option maxRecDepth 100000 in
theorem m_checkIn (l : Launch) (dC : Nat → ClassId) (dI : Nat → Nat → Nat) (sz : Nat) (mo : Nat) (nw : Nat) (kp : Nat) (mk : Nat) (co : Nat) (se : Nat) (th : Int32) (mr : Int32) (cN : ClassId) (dd : Int32) (pp : Int32) : Met l yM_checkIn (.code yM_checkIn cM_checkIn 7 (some .int) :: aw) ({ frames := 3, cells := 0, slots := 0, locals := 65 }) (pW (dC, dI) sz [(mo, .inr (4, [.int th, .int mr, .ref nw, .ref kp, .int 0, .int (-1), .ref mk, .ref co, .int 0, .int 0, .ref se])), (nw, .inl (cN, 25240, .inl now0))] [(cN, .int)] [.ref mo, .int dd, .int pp]) (va_Qi (fun r (_ : Unit) => r = (-1)) (fun _ t => wW (dC, dI) (va_A [(mo, .inr (4, [.int th, .int mr, .ref nw, .ref kp, .int 0, .int (-1), .ref mk, .ref co, .int 0, .int 0, .ref se])), (nw, .inl (cN, 25240, .inl now0))] sz) [(mo, .inr (4, [.int 0, .int 1, .ref nw, .ref kp, .int 0, .int (-1), .ref mk, .ref co, .int 0, .int 0, .ref se]))] [] t) (va_A [(mo, .inr (4, [.int th, .int mr, .ref nw, .ref kp, .int 0, .int (-1), .ref mk, .ref co, .int 0, .int 0, .ref se])), (nw, .inl (cN, 25240, .inl now0))] sz)) 0 0 (va_A [(mo, .inr (4, [.int th, .int mr, .ref nw, .ref kp, .int 0, .int (-1), .ref mk, .ref co, .int 0, .int 0, .ref se])), (nw, .inl (cN, 25240, .inl now0))] sz) := by
  refine Met.ofW (cc := cM_checkIn) (maxL := 7) (ret := (some .int)) (by decide) rfl ?_
  intro p e s m args below meth c s₁ B hml hv
  obtain ⟨rfl, hv⟩ := hv
  have hx := B.exec
  have hb := B.bytes
  have hr := B.returns
  have hts : ∀ w ∈ aw, w.before _ s = true := fun w h => atoms_spec (ws := (.code yM_checkIn cM_checkIn 7 (some .int) :: aw)) B.pre w (List.mem_cons_of_mem _ h)
  have hown : s.vm.findClass RM = some m.cls := findClass_of_methodNamed B.named
  have hlocks := B.notSynchronized
  obtain ⟨hsz, hP, hK, hD0⟩ := hv
  subst hsz
  have hD := hD0.self (sz := s.heap.size)
  generalize hAe : va_A [(mo, .inr (4, [.int th, .int mr, .ref nw, .ref kp, .int 0, .int (-1), .ref mk, .ref co, .int 0, .int 0, .ref se])), (nw, .inl (cN, 25240, .inl now0))] s.heap.size = A at hD ⊢
  have hA : ∀ q : Nat, s.heap.size ≤ q → A q := fun q h => by rw [← hAe]; exact Or.inr h
  obtain ⟨H, hH⟩ : ∃ H, H = s.heap := ⟨_, rfl⟩
  have hS : va_S A s.heap H [] := by rw [hH]; exact va_S.rf
  rw [← hH] at hP ⊢
  have hP : va_P (dC, dI) kCl [(mo, .inr (4, [.int th, .int mr, .ref nw, .ref kp, .int 0, .int (-1), .ref mk, .ref co, .int 0, .int 0, .ref se])), (nw, .inl (cN, 25240, .inl now0))] H := hP
  have hl := lv_entry ([.ref mo, .int dd, .int pp]) (n := 7) (Nat.le_of_ble_eq_true rfl)
  rw [lg_entry_eq]
  generalize (lg_sl ([.ref mo, .int dd, .int pp]) ++ List.replicate (7 - (lg_sl ([.ref mo, .int dd, .int pp])).length) Slot.unset).toArray = ls at hl ⊢
  have hl : lv_has ls 7 [(0, .ref mo), (1, .int dd), (2, .int pp)] := hl
  refine lv_aload_n (pc := 0) hx hb dM_checkIn_0 rfl (lv_at hl 0 rfl) ?_
  refine lv_iload_n (pc := 1) hx hb dM_checkIn_1 rfl (lv_at hl 1 rfl) ?_
  refine lv_iload_n (pc := 2) hx hb dM_checkIn_2 rfl (lv_at hl 2 rfl) ?_
  refine vp_callSi (pc := 3) (W.runV (As := [.int dd, .int pp]) (rest := []) ⟨hx, hb, hml, hown, hts⟩ (m_whyNot l dC dI mo nw kp mk co se th mr cN dd pp) (cwV 2 hts (gV wd_185 wd_186 wd_187 wd_157 wd_184) rfl rfl rfl (by decide +kernel) ⟨Nat.le_of_ble_eq_true rfl, Nat.le_of_ble_eq_true rfl⟩) ⟨pR_blind, va_recv (q := (RM, TM, 11)) (q0 := 0) (ci := 4) hK hP rfl rfl, pR_pre (hP.sub (ws' := [(mo, .inr (4, [.int th, .int mr, .ref nw, .ref kp, .int 0, .int (-1), .ref mk, .ref co, .int 0, .int 0, .ref se])), (nw, .inl (cN, 25240, .inl now0))]) [0, 1] rfl) (hK.sub (tys' := [(cN, .int)]) [0] rfl)⟩ rfl rfl hl.1 rfl (lv_room (Nat.le_of_ble_eq_true rfl)) dM_checkIn_3 ⟨Nat.le_of_ble_eq_true rfl, Nat.le_of_ble_eq_true rfl⟩) (fun r1 hr2 => ?_)
  obtain rfl : r1 = 1 := hr2
  refine lv_istore_n (pc := 6) hx hb dM_checkIn_6 rfl hl (by decide) rfl (fun ls hl => ?_)
  have hl : lv_has ls 7 [(3, .int 1), (0, .ref mo), (1, .int dd), (2, .int pp)] := hl
  refine lv_iconst (pc := 7) (v := 2) hx hb dM_checkIn_7 (by decide) ?_
  refine lv_istore (pc := 8) hx hb dM_checkIn_8 hl (by decide) rfl (fun ls hl => ?_)
  have hl : lv_has ls 7 [(4, .int 2), (3, .int 1), (0, .ref mo), (1, .int dd), (2, .int pp)] := hl
  refine lv_iload_n (pc := 10) hx hb dM_checkIn_10 rfl (lv_at hl 1 rfl) ?_
  refine lv_if_ne (pc := 11) (tgt := 83) hx hb dM_checkIn_11 rfl (fun h3 => ?_) (fun h3 => absurd h3 (by decide))
  refine lv_aload_n (pc := 83) hx hb dM_checkIn_83 rfl (lv_at hl 2 rfl) ?_
  refine lv_iload_n (pc := 84) hx hb dM_checkIn_84 rfl (lv_at hl 1 rfl) ?_
  refine lv_iload (pc := 85) hx hb dM_checkIn_85 (lv_at hl 0 rfl) ?_
  have hPc := hP.sub (ws' := [(mo, .inr (4, [.int th, .int mr, .ref nw, .ref kp, .int 0, .int (-1), .ref mk, .ref co, .int 0, .int 0, .ref se])), (nw, .inl (cN, 25240, .inl now0))]) [0, 1] rfl
  have hDc := hD.sub (ws' := [(mo, .inr (4, [.int th, .int mr, .ref nw, .ref kp, .int 0, .int (-1), .ref mk, .ref co, .int 0, .int 0, .ref se])), (nw, .inl (cN, 25240, .inl now0))]) [0, 1] (by decide) rfl
  have hKc := hK.sub (tys' := [(cN, .int)]) [0] rfl
  have hFc := va_free (wc := [(mo, .inr (4, [.int th, .int mr, .ref nw, .ref kp, .int 0, .int (-1), .ref mk, .ref co, .int 0, .int 0, .ref se])), (nw, .inl (cN, 25240, .inl now0))]) hD hS hA [0, 1] rfl
  refine va_calli (pc := 87) (va_runV (As := [.int 1, .int 2]) (rest := []) ⟨hx, hb, hml, hown, hts⟩ (m_may l dC dI H.size mo nw kp mk co se th mr cN 1 2 (by decide) (by decide)) (cwV 2 hts (gV wd_181 wd_182 wd_183 wd_157 wd_180) rfl rfl rfl (by decide +kernel) ⟨Nat.le_of_ble_eq_true rfl, Nat.le_of_ble_eq_true rfl⟩) ⟨pW_blind, va_recv (q := (RM, TM, 11)) (q0 := 0) (ci := 4) hK hP rfl rfl, pW_pre hPc hKc hDc⟩ rfl rfl hl.1 rfl (lv_room (Nat.le_of_ble_eq_true rfl)) dM_checkIn_87 ⟨Nat.le_of_ble_eq_true rfl, Nat.le_of_ble_eq_true rfl⟩) hS (fun q _ h => hFc q h) hFc (fun r4 u t H1 locs ht hvm hr5 hB hz1 hk1 hS => ?_)
  obtain ⟨hP1, hK1, hD1⟩ := hB
  rw [ht] at hP1
  have hK1 := va_K.moved hvm.symm hK1
  obtain ⟨hP, hD⟩ := va_join (wr := []) (w1 := [(mo, .inr (4, [.int 0, .int 1, .ref nw, .ref kp, .int 0, .int (-1), .ref mk, .ref co, .int 0, .int 0, .ref se])), (nw, .inl (cN, 25240, .inl now0))]) hP hD [0, 1] [] rfl rfl (by decide) (by decide) hk1 hFc hP1 hD1
  generalize H1 = H at hP hS ⊢
  have hP : va_P (dC, dI) kCl [(mo, .inr (4, [.int 0, .int 1, .ref nw, .ref kp, .int 0, .int (-1), .ref mk, .ref co, .int 0, .int 0, .ref se])), (nw, .inl (cN, 25240, .inl now0))] H := hP
  have hD : va_D A [(mo, .inr (4, [.int 0, .int 1, .ref nw, .ref kp, .int 0, .int (-1), .ref mk, .ref co, .int 0, .int 0, .ref se])), (nw, .inl (cN, 25240, .inl now0))] := hD
  refine W.widen (k := 0) (n := 0) (Nat.le_of_ble_eq_true rfl) (Nat.le_of_ble_eq_true rfl) ?_
  obtain rfl : r4 = 0 := hr5
  refine lv_if_ne (pc := 90) (tgt := 106) hx hb dM_checkIn_90 rfl (fun h7 => absurd h7 (by decide)) (fun h7 => ?_)
  refine lv_aload_n (pc := 93) hx hb dM_checkIn_93 rfl (lv_at hl 2 rfl) ?_
  refine va_get (D := (dC, dI)) (cl := kCl) (C := RM) (T := TM) (N := 11) (pc := 94) hx hb hts inM hown hK hP 0 rfl rfl 0 (by decide) (hts _ wd_152) (fun _ h9 => h9) rfl dM_checkIn_94 ?_
  refine lv_if_le (pc := 97) (tgt := 104) hx hb dM_checkIn_97 rfl (fun h8 => ?_) (fun h8 => absurd h8 (by decide))
  refine lv_iconst (pc := 104) (v := (-1)) hx hb dM_checkIn_104 (by decide) ?_
  have hP9 := hP.sub (ws' := [(mo, .inr (4, [.int 0, .int 1, .ref nw, .ref kp, .int 0, .int (-1), .ref mk, .ref co, .int 0, .int 0, .ref se]))]) [0] rfl
  have hD9 := hD.sub (ws' := [(mo, .inr (4, [.int 0, .int 1, .ref nw, .ref kp, .int 0, .int (-1), .ref mk, .ref co, .int 0, .int 0, .ref se]))]) [0] (by decide) rfl
  have hK9 := hK.sub (tys' := []) [] rfl
  exact W.iret (pc := 105) hx hb hr (fun t ht hW => ⟨⟨_, (), rfl, rfl, by rw [ht]; exact hP9, va_K.moved hW.alike hK9, hD9⟩, hS.F ht⟩) hS.2.2 dM_checkIn_105
set_option maxHeartbeats 4000000 in
set_option maxRecDepth 100000 in
theorem m_check (l : Launch) (dC : Nat → ClassId) (dI : Nat → Nat → Nat) (sz : Nat) (mo : Nat) (nw : Nat) (kp : Nat) (mk : Nat) (co : Nat) (se : Nat) (th : Int32) (mr : Int32) (cN : ClassId) (dd : Int32) (vv : Int32) (pp : Int32) : Met l yM_check (.code yM_check cM_check 5 (some .boolean) :: aw) ({ frames := 3, cells := 0, slots := 0, locals := 67 }) (pW (dC, dI) sz [(mo, .inr (4, [.int th, .int mr, .ref nw, .ref kp, .int 0, .int (-1), .ref mk, .ref co, .int 0, .int 0, .ref se])), (nw, .inl (cN, 25240, .inl now0))] [(cN, .int)] [.ref mo, .int dd, .int vv, .int pp]) (va_Qi (fun r (_ : Unit) => r = 0) (fun _ t => wW (dC, dI) (va_A [(mo, .inr (4, [.int th, .int mr, .ref nw, .ref kp, .int 0, .int (-1), .ref mk, .ref co, .int 0, .int 0, .ref se])), (nw, .inl (cN, 25240, .inl now0))] sz) [(mo, .inr (4, [.int 0, .int 1, .ref nw, .ref kp, .int 0, .int (-1), .ref mk, .ref co, .int 0, .int 0, .ref se]))] [] t) (va_A [(mo, .inr (4, [.int th, .int mr, .ref nw, .ref kp, .int 0, .int (-1), .ref mk, .ref co, .int 0, .int 0, .ref se])), (nw, .inl (cN, 25240, .inl now0))] sz)) 0 0 (va_A [(mo, .inr (4, [.int th, .int mr, .ref nw, .ref kp, .int 0, .int (-1), .ref mk, .ref co, .int 0, .int 0, .ref se])), (nw, .inl (cN, 25240, .inl now0))] sz) := by
  refine Met.ofW (cc := cM_check) (maxL := 5) (ret := (some .boolean)) (by decide) rfl ?_
  intro p e s m args below meth c s₁ B hml hv
  obtain ⟨rfl, hv⟩ := hv
  have hx := B.exec
  have hb := B.bytes
  have hr := B.returns
  have hts : ∀ w ∈ aw, w.before _ s = true := fun w h => atoms_spec (ws := (.code yM_check cM_check 5 (some .boolean) :: aw)) B.pre w (List.mem_cons_of_mem _ h)
  have hown : s.vm.findClass RM = some m.cls := findClass_of_methodNamed B.named
  have hlocks := B.notSynchronized
  obtain ⟨hsz, hP, hK, hD0⟩ := hv
  subst hsz
  have hD := hD0.self (sz := s.heap.size)
  generalize hAe : va_A [(mo, .inr (4, [.int th, .int mr, .ref nw, .ref kp, .int 0, .int (-1), .ref mk, .ref co, .int 0, .int 0, .ref se])), (nw, .inl (cN, 25240, .inl now0))] s.heap.size = A at hD ⊢
  have hA : ∀ q : Nat, s.heap.size ≤ q → A q := fun q h => by rw [← hAe]; exact Or.inr h
  obtain ⟨H, hH⟩ : ∃ H, H = s.heap := ⟨_, rfl⟩
  have hS : va_S A s.heap H [] := by rw [hH]; exact va_S.rf
  rw [← hH] at hP ⊢
  have hP : va_P (dC, dI) kCl [(mo, .inr (4, [.int th, .int mr, .ref nw, .ref kp, .int 0, .int (-1), .ref mk, .ref co, .int 0, .int 0, .ref se])), (nw, .inl (cN, 25240, .inl now0))] H := hP
  have hl := lv_entry ([.ref mo, .int dd, .int vv, .int pp]) (n := 5) (Nat.le_of_ble_eq_true rfl)
  rw [lg_entry_eq]
  generalize (lg_sl ([.ref mo, .int dd, .int vv, .int pp]) ++ List.replicate (5 - (lg_sl ([.ref mo, .int dd, .int vv, .int pp])).length) Slot.unset).toArray = ls at hl ⊢
  have hl : lv_has ls 5 [(0, .ref mo), (1, .int dd), (2, .int vv), (3, .int pp)] := hl
  refine lv_aload_n (pc := 0) hx hb dM_check_0 rfl (lv_at hl 0 rfl) ?_
  refine lv_iload_n (pc := 1) hx hb dM_check_1 rfl (lv_at hl 1 rfl) ?_
  refine lv_iload_n (pc := 2) hx hb dM_check_2 rfl (lv_at hl 2 rfl) ?_
  refine lv_iload_n (pc := 3) hx hb dM_check_3 rfl (lv_at hl 3 rfl) ?_
  refine lv_iconst (pc := 4) (v := 2) hx hb dM_check_4 (by decide) ?_
  refine vp_callSi (pc := 5) (W.runV (As := [.int dd, .int vv, .int pp, .int 2]) (rest := []) ⟨hx, hb, hml, hown, hts⟩ (m_whyNotRevision l dC dI mo nw kp mk co se th mr cN dd vv pp 2) (cwV 4 hts (gV wd_193 wd_194 wd_195 wd_157 wd_192) rfl rfl rfl (by decide +kernel) ⟨Nat.le_of_ble_eq_true rfl, Nat.le_of_ble_eq_true rfl⟩) ⟨pR_blind, va_recv (q := (RM, TM, 11)) (q0 := 0) (ci := 4) hK hP rfl rfl, pR_pre (hP.sub (ws' := [(mo, .inr (4, [.int th, .int mr, .ref nw, .ref kp, .int 0, .int (-1), .ref mk, .ref co, .int 0, .int 0, .ref se])), (nw, .inl (cN, 25240, .inl now0))]) [0, 1] rfl) (hK.sub (tys' := [(cN, .int)]) [0] rfl)⟩ rfl rfl hl.1 rfl (lv_room (Nat.le_of_ble_eq_true rfl)) dM_check_5 ⟨Nat.le_of_ble_eq_true rfl, Nat.le_of_ble_eq_true rfl⟩) (fun r1 hr2 => ?_)
  obtain rfl : r1 = 1 := hr2
  refine lv_istore (pc := 8) hx hb dM_check_8 hl (by decide) rfl (fun ls hl => ?_)
  have hl : lv_has ls 5 [(4, .int 1), (0, .ref mo), (1, .int dd), (2, .int vv), (3, .int pp)] := hl
  refine lv_aload_n (pc := 10) hx hb dM_check_10 rfl (lv_at hl 1 rfl) ?_
  refine lv_iload_n (pc := 11) hx hb dM_check_11 rfl (lv_at hl 2 rfl) ?_
  refine lv_iload_n (pc := 12) hx hb dM_check_12 rfl (lv_at hl 3 rfl) ?_
  refine vp_callSi (pc := 13) (W.runV (As := [.int dd, .int vv]) (rest := []) ⟨hx, hb, hml, hown, hts⟩ (m_isRevision l dC dI mo nw kp mk co se th mr cN dd vv) (cwV 2 hts (gV wd_173 wd_174 wd_175 wd_157 wd_172) rfl rfl rfl (by decide +kernel) ⟨Nat.le_of_ble_eq_true rfl, Nat.le_of_ble_eq_true rfl⟩) ⟨pR_blind, va_recv (q := (RM, TM, 11)) (q0 := 0) (ci := 4) hK hP rfl rfl, pR_pre (hP.sub (ws' := [(mo, .inr (4, [.int th, .int mr, .ref nw, .ref kp, .int 0, .int (-1), .ref mk, .ref co, .int 0, .int 0, .ref se])), (nw, .inl (cN, 25240, .inl now0))]) [0, 1] rfl) (hK.sub (tys' := [(cN, .int)]) [0] rfl)⟩ rfl rfl hl.1 rfl (lv_room (Nat.le_of_ble_eq_true rfl)) dM_check_13 ⟨Nat.le_of_ble_eq_true rfl, Nat.le_of_ble_eq_true rfl⟩) (fun r3 hr4 => ?_)
  obtain rfl : r3 = 0 := hr4
  refine lv_if_eq (pc := 16) (tgt := 90) hx hb dM_check_16 rfl (fun h5 => ?_) (fun h5 => absurd h5 (by decide))
  refine lv_aload_n (pc := 90) hx hb dM_check_90 rfl (lv_at hl 1 rfl) ?_
  refine lv_iload (pc := 91) hx hb dM_check_91 (lv_at hl 0 rfl) ?_
  refine lv_iconst (pc := 93) (v := 1) hx hb dM_check_93 (by decide) ?_
  have hPc := hP.sub (ws' := [(mo, .inr (4, [.int th, .int mr, .ref nw, .ref kp, .int 0, .int (-1), .ref mk, .ref co, .int 0, .int 0, .ref se])), (nw, .inl (cN, 25240, .inl now0))]) [0, 1] rfl
  have hDc := hD.sub (ws' := [(mo, .inr (4, [.int th, .int mr, .ref nw, .ref kp, .int 0, .int (-1), .ref mk, .ref co, .int 0, .int 0, .ref se])), (nw, .inl (cN, 25240, .inl now0))]) [0, 1] (by decide) rfl
  have hKc := hK.sub (tys' := [(cN, .int)]) [0] rfl
  have hFc := va_free (wc := [(mo, .inr (4, [.int th, .int mr, .ref nw, .ref kp, .int 0, .int (-1), .ref mk, .ref co, .int 0, .int 0, .ref se])), (nw, .inl (cN, 25240, .inl now0))]) hD hS hA [0, 1] rfl
  refine va_calli (pc := 94) (va_runV (As := [.int 1, .int 1]) (rest := []) ⟨hx, hb, hml, hown, hts⟩ (m_may l dC dI H.size mo nw kp mk co se th mr cN 1 1 (by decide) (by decide)) (cwV 2 hts (gV wd_181 wd_182 wd_183 wd_157 wd_180) rfl rfl rfl (by decide +kernel) ⟨Nat.le_of_ble_eq_true rfl, Nat.le_of_ble_eq_true rfl⟩) ⟨pW_blind, va_recv (q := (RM, TM, 11)) (q0 := 0) (ci := 4) hK hP rfl rfl, pW_pre hPc hKc hDc⟩ rfl rfl hl.1 rfl (lv_room (Nat.le_of_ble_eq_true rfl)) dM_check_94 ⟨Nat.le_of_ble_eq_true rfl, Nat.le_of_ble_eq_true rfl⟩) hS (fun q _ h => hFc q h) hFc (fun r6 u t H1 locs ht hvm hr7 hB hz1 hk1 hS => ?_)
  obtain ⟨hP1, hK1, hD1⟩ := hB
  rw [ht] at hP1
  have hK1 := va_K.moved hvm.symm hK1
  obtain ⟨hP, hD⟩ := va_join (wr := []) (w1 := [(mo, .inr (4, [.int 0, .int 1, .ref nw, .ref kp, .int 0, .int (-1), .ref mk, .ref co, .int 0, .int 0, .ref se])), (nw, .inl (cN, 25240, .inl now0))]) hP hD [0, 1] [] rfl rfl (by decide) (by decide) hk1 hFc hP1 hD1
  generalize H1 = H at hP hS ⊢
  have hP : va_P (dC, dI) kCl [(mo, .inr (4, [.int 0, .int 1, .ref nw, .ref kp, .int 0, .int (-1), .ref mk, .ref co, .int 0, .int 0, .ref se])), (nw, .inl (cN, 25240, .inl now0))] H := hP
  have hD : va_D A [(mo, .inr (4, [.int 0, .int 1, .ref nw, .ref kp, .int 0, .int (-1), .ref mk, .ref co, .int 0, .int 0, .ref se])), (nw, .inl (cN, 25240, .inl now0))] := hD
  refine W.widen (k := 0) (n := 0) (Nat.le_of_ble_eq_true rfl) (Nat.le_of_ble_eq_true rfl) ?_
  obtain rfl : r6 = 0 := hr7
  refine lv_if_ne (pc := 97) (tgt := 102) hx hb dM_check_97 rfl (fun h9 => absurd h9 (by decide)) (fun h9 => ?_)
  refine lv_iconst (pc := 100) (v := 0) hx hb dM_check_100 (by decide) ?_
  have hP9 := hP.sub (ws' := [(mo, .inr (4, [.int 0, .int 1, .ref nw, .ref kp, .int 0, .int (-1), .ref mk, .ref co, .int 0, .int 0, .ref se]))]) [0] rfl
  have hD9 := hD.sub (ws' := [(mo, .inr (4, [.int 0, .int 1, .ref nw, .ref kp, .int 0, .int (-1), .ref mk, .ref co, .int 0, .int 0, .ref se]))]) [0] (by decide) rfl
  have hK9 := hK.sub (tys' := []) [] rfl
  exact W.zret (pc := 101) hx hb hr rfl (fun t ht hW => ⟨⟨_, (), rfl, rfl, by rw [ht]; exact hP9, va_K.moved hW.alike hK9, hD9⟩, hS.F ht⟩) hS.2.2 dM_check_101
set_option maxHeartbeats 4000000 in
set_option maxRecDepth 100000 in
theorem m_release (l : Launch) (dC : Nat → ClassId) (dI : Nat → Nat → Nat) (sz : Nat) (mo : Nat) (nw : Nat) (kp : Nat) (mk : Nat) (co : Nat) (se : Nat) (th : Int32) (mr : Int32) (cN : ClassId) (dd : Int32) (vv : Int32) (pp : Int32) : Met l yM_release (.code yM_release cM_release 5 (some .boolean) :: aw) ({ frames := 3, cells := 0, slots := 0, locals := 67 }) (pW (dC, dI) sz [(mo, .inr (4, [.int th, .int mr, .ref nw, .ref kp, .int 0, .int (-1), .ref mk, .ref co, .int 0, .int 0, .ref se])), (nw, .inl (cN, 25240, .inl now0))] [(cN, .int)] [.ref mo, .int dd, .int vv, .int pp]) (va_Qi (fun r (_ : Unit) => r = 0) (fun _ t => wW (dC, dI) (va_A [(mo, .inr (4, [.int th, .int mr, .ref nw, .ref kp, .int 0, .int (-1), .ref mk, .ref co, .int 0, .int 0, .ref se])), (nw, .inl (cN, 25240, .inl now0))] sz) [(mo, .inr (4, [.int 0, .int 1, .ref nw, .ref kp, .int 0, .int (-1), .ref mk, .ref co, .int 0, .int 0, .ref se]))] [] t) (va_A [(mo, .inr (4, [.int th, .int mr, .ref nw, .ref kp, .int 0, .int (-1), .ref mk, .ref co, .int 0, .int 0, .ref se])), (nw, .inl (cN, 25240, .inl now0))] sz)) 0 0 (va_A [(mo, .inr (4, [.int th, .int mr, .ref nw, .ref kp, .int 0, .int (-1), .ref mk, .ref co, .int 0, .int 0, .ref se])), (nw, .inl (cN, 25240, .inl now0))] sz) := by
  refine Met.ofW (cc := cM_release) (maxL := 5) (ret := (some .boolean)) (by decide) rfl ?_
  intro p e s m args below meth c s₁ B hml hv
  obtain ⟨rfl, hv⟩ := hv
  have hx := B.exec
  have hb := B.bytes
  have hr := B.returns
  have hts : ∀ w ∈ aw, w.before _ s = true := fun w h => atoms_spec (ws := (.code yM_release cM_release 5 (some .boolean) :: aw)) B.pre w (List.mem_cons_of_mem _ h)
  have hown : s.vm.findClass RM = some m.cls := findClass_of_methodNamed B.named
  have hlocks := B.notSynchronized
  obtain ⟨hsz, hP, hK, hD0⟩ := hv
  subst hsz
  have hD := hD0.self (sz := s.heap.size)
  generalize hAe : va_A [(mo, .inr (4, [.int th, .int mr, .ref nw, .ref kp, .int 0, .int (-1), .ref mk, .ref co, .int 0, .int 0, .ref se])), (nw, .inl (cN, 25240, .inl now0))] s.heap.size = A at hD ⊢
  have hA : ∀ q : Nat, s.heap.size ≤ q → A q := fun q h => by rw [← hAe]; exact Or.inr h
  obtain ⟨H, hH⟩ : ∃ H, H = s.heap := ⟨_, rfl⟩
  have hS : va_S A s.heap H [] := by rw [hH]; exact va_S.rf
  rw [← hH] at hP ⊢
  have hP : va_P (dC, dI) kCl [(mo, .inr (4, [.int th, .int mr, .ref nw, .ref kp, .int 0, .int (-1), .ref mk, .ref co, .int 0, .int 0, .ref se])), (nw, .inl (cN, 25240, .inl now0))] H := hP
  have hl := lv_entry ([.ref mo, .int dd, .int vv, .int pp]) (n := 5) (Nat.le_of_ble_eq_true rfl)
  rw [lg_entry_eq]
  generalize (lg_sl ([.ref mo, .int dd, .int vv, .int pp]) ++ List.replicate (5 - (lg_sl ([.ref mo, .int dd, .int vv, .int pp])).length) Slot.unset).toArray = ls at hl ⊢
  have hl : lv_has ls 5 [(0, .ref mo), (1, .int dd), (2, .int vv), (3, .int pp)] := hl
  refine lv_aload_n (pc := 0) hx hb dM_release_0 rfl (lv_at hl 0 rfl) ?_
  refine lv_iload_n (pc := 1) hx hb dM_release_1 rfl (lv_at hl 1 rfl) ?_
  refine lv_iload_n (pc := 2) hx hb dM_release_2 rfl (lv_at hl 2 rfl) ?_
  refine lv_iload_n (pc := 3) hx hb dM_release_3 rfl (lv_at hl 3 rfl) ?_
  refine lv_iconst (pc := 4) (v := 4) hx hb dM_release_4 (by decide) ?_
  refine vp_callSi (pc := 5) (W.runV (As := [.int dd, .int vv, .int pp, .int 4]) (rest := []) ⟨hx, hb, hml, hown, hts⟩ (m_whyNotRevision l dC dI mo nw kp mk co se th mr cN dd vv pp 4) (cwV 4 hts (gV wd_193 wd_194 wd_195 wd_157 wd_192) rfl rfl rfl (by decide +kernel) ⟨Nat.le_of_ble_eq_true rfl, Nat.le_of_ble_eq_true rfl⟩) ⟨pR_blind, va_recv (q := (RM, TM, 11)) (q0 := 0) (ci := 4) hK hP rfl rfl, pR_pre (hP.sub (ws' := [(mo, .inr (4, [.int th, .int mr, .ref nw, .ref kp, .int 0, .int (-1), .ref mk, .ref co, .int 0, .int 0, .ref se])), (nw, .inl (cN, 25240, .inl now0))]) [0, 1] rfl) (hK.sub (tys' := [(cN, .int)]) [0] rfl)⟩ rfl rfl hl.1 rfl (lv_room (Nat.le_of_ble_eq_true rfl)) dM_release_5 ⟨Nat.le_of_ble_eq_true rfl, Nat.le_of_ble_eq_true rfl⟩) (fun r1 hr2 => ?_)
  obtain rfl : r1 = 1 := hr2
  refine lv_istore (pc := 8) hx hb dM_release_8 hl (by decide) rfl (fun ls hl => ?_)
  have hl : lv_has ls 5 [(4, .int 1), (0, .ref mo), (1, .int dd), (2, .int vv), (3, .int pp)] := hl
  refine lv_aload_n (pc := 10) hx hb dM_release_10 rfl (lv_at hl 1 rfl) ?_
  refine lv_iload_n (pc := 11) hx hb dM_release_11 rfl (lv_at hl 2 rfl) ?_
  refine lv_iload_n (pc := 12) hx hb dM_release_12 rfl (lv_at hl 3 rfl) ?_
  refine vp_callSi (pc := 13) (W.runV (As := [.int dd, .int vv]) (rest := []) ⟨hx, hb, hml, hown, hts⟩ (m_isRevision l dC dI mo nw kp mk co se th mr cN dd vv) (cwV 2 hts (gV wd_173 wd_174 wd_175 wd_157 wd_172) rfl rfl rfl (by decide +kernel) ⟨Nat.le_of_ble_eq_true rfl, Nat.le_of_ble_eq_true rfl⟩) ⟨pR_blind, va_recv (q := (RM, TM, 11)) (q0 := 0) (ci := 4) hK hP rfl rfl, pR_pre (hP.sub (ws' := [(mo, .inr (4, [.int th, .int mr, .ref nw, .ref kp, .int 0, .int (-1), .ref mk, .ref co, .int 0, .int 0, .ref se])), (nw, .inl (cN, 25240, .inl now0))]) [0, 1] rfl) (hK.sub (tys' := [(cN, .int)]) [0] rfl)⟩ rfl rfl hl.1 rfl (lv_room (Nat.le_of_ble_eq_true rfl)) dM_release_13 ⟨Nat.le_of_ble_eq_true rfl, Nat.le_of_ble_eq_true rfl⟩) (fun r3 hr4 => ?_)
  obtain rfl : r3 = 0 := hr4
  refine lv_if_eq (pc := 16) (tgt := 60) hx hb dM_release_16 rfl (fun h5 => ?_) (fun h5 => absurd h5 (by decide))
  refine lv_aload_n (pc := 60) hx hb dM_release_60 rfl (lv_at hl 1 rfl) ?_
  refine lv_iload (pc := 61) hx hb dM_release_61 (lv_at hl 0 rfl) ?_
  refine lv_iconst (pc := 63) (v := 1) hx hb dM_release_63 (by decide) ?_
  have hPc := hP.sub (ws' := [(mo, .inr (4, [.int th, .int mr, .ref nw, .ref kp, .int 0, .int (-1), .ref mk, .ref co, .int 0, .int 0, .ref se])), (nw, .inl (cN, 25240, .inl now0))]) [0, 1] rfl
  have hDc := hD.sub (ws' := [(mo, .inr (4, [.int th, .int mr, .ref nw, .ref kp, .int 0, .int (-1), .ref mk, .ref co, .int 0, .int 0, .ref se])), (nw, .inl (cN, 25240, .inl now0))]) [0, 1] (by decide) rfl
  have hKc := hK.sub (tys' := [(cN, .int)]) [0] rfl
  have hFc := va_free (wc := [(mo, .inr (4, [.int th, .int mr, .ref nw, .ref kp, .int 0, .int (-1), .ref mk, .ref co, .int 0, .int 0, .ref se])), (nw, .inl (cN, 25240, .inl now0))]) hD hS hA [0, 1] rfl
  refine va_calli (pc := 64) (va_runV (As := [.int 1, .int 1]) (rest := []) ⟨hx, hb, hml, hown, hts⟩ (m_may l dC dI H.size mo nw kp mk co se th mr cN 1 1 (by decide) (by decide)) (cwV 2 hts (gV wd_181 wd_182 wd_183 wd_157 wd_180) rfl rfl rfl (by decide +kernel) ⟨Nat.le_of_ble_eq_true rfl, Nat.le_of_ble_eq_true rfl⟩) ⟨pW_blind, va_recv (q := (RM, TM, 11)) (q0 := 0) (ci := 4) hK hP rfl rfl, pW_pre hPc hKc hDc⟩ rfl rfl hl.1 rfl (lv_room (Nat.le_of_ble_eq_true rfl)) dM_release_64 ⟨Nat.le_of_ble_eq_true rfl, Nat.le_of_ble_eq_true rfl⟩) hS (fun q _ h => hFc q h) hFc (fun r6 u t H1 locs ht hvm hr7 hB hz1 hk1 hS => ?_)
  obtain ⟨hP1, hK1, hD1⟩ := hB
  rw [ht] at hP1
  have hK1 := va_K.moved hvm.symm hK1
  obtain ⟨hP, hD⟩ := va_join (wr := []) (w1 := [(mo, .inr (4, [.int 0, .int 1, .ref nw, .ref kp, .int 0, .int (-1), .ref mk, .ref co, .int 0, .int 0, .ref se])), (nw, .inl (cN, 25240, .inl now0))]) hP hD [0, 1] [] rfl rfl (by decide) (by decide) hk1 hFc hP1 hD1
  generalize H1 = H at hP hS ⊢
  have hP : va_P (dC, dI) kCl [(mo, .inr (4, [.int 0, .int 1, .ref nw, .ref kp, .int 0, .int (-1), .ref mk, .ref co, .int 0, .int 0, .ref se])), (nw, .inl (cN, 25240, .inl now0))] H := hP
  have hD : va_D A [(mo, .inr (4, [.int 0, .int 1, .ref nw, .ref kp, .int 0, .int (-1), .ref mk, .ref co, .int 0, .int 0, .ref se])), (nw, .inl (cN, 25240, .inl now0))] := hD
  refine W.widen (k := 0) (n := 0) (Nat.le_of_ble_eq_true rfl) (Nat.le_of_ble_eq_true rfl) ?_
  obtain rfl : r6 = 0 := hr7
  refine lv_if_ne (pc := 67) (tgt := 72) hx hb dM_release_67 rfl (fun h9 => absurd h9 (by decide)) (fun h9 => ?_)
  refine lv_iconst (pc := 70) (v := 0) hx hb dM_release_70 (by decide) ?_
  have hP9 := hP.sub (ws' := [(mo, .inr (4, [.int 0, .int 1, .ref nw, .ref kp, .int 0, .int (-1), .ref mk, .ref co, .int 0, .int 0, .ref se]))]) [0] rfl
  have hD9 := hD.sub (ws' := [(mo, .inr (4, [.int 0, .int 1, .ref nw, .ref kp, .int 0, .int (-1), .ref mk, .ref co, .int 0, .int 0, .ref se]))]) [0] (by decide) rfl
  have hK9 := hK.sub (tys' := []) [] rfl
  exact W.zret (pc := 71) hx hb hr rfl (fun t ht hW => ⟨⟨_, (), rfl, rfl, by rw [ht]; exact hP9, va_K.moved hW.alike hK9, hD9⟩, hS.F ht⟩) hS.2.2 dM_release_71
set_option maxHeartbeats 4000000 in
set_option maxRecDepth 100000 in
theorem m_withdraw (l : Launch) (dC : Nat → ClassId) (dI : Nat → Nat → Nat) (sz : Nat) (mo : Nat) (nw : Nat) (kp : Nat) (mk : Nat) (co : Nat) (se : Nat) (th : Int32) (mr : Int32) (cN : ClassId) (dd : Int32) (vv : Int32) (pp : Int32) : Met l yM_withdraw (.code yM_withdraw cM_withdraw 5 (some .boolean) :: aw) ({ frames := 3, cells := 0, slots := 0, locals := 67 }) (pW (dC, dI) sz [(mo, .inr (4, [.int th, .int mr, .ref nw, .ref kp, .int 0, .int (-1), .ref mk, .ref co, .int 0, .int 0, .ref se])), (nw, .inl (cN, 25240, .inl now0))] [(cN, .int)] [.ref mo, .int dd, .int vv, .int pp]) (va_Qi (fun r (_ : Unit) => r = 0) (fun _ t => wW (dC, dI) (va_A [(mo, .inr (4, [.int th, .int mr, .ref nw, .ref kp, .int 0, .int (-1), .ref mk, .ref co, .int 0, .int 0, .ref se])), (nw, .inl (cN, 25240, .inl now0))] sz) [(mo, .inr (4, [.int 0, .int 1, .ref nw, .ref kp, .int 0, .int (-1), .ref mk, .ref co, .int 0, .int 0, .ref se]))] [] t) (va_A [(mo, .inr (4, [.int th, .int mr, .ref nw, .ref kp, .int 0, .int (-1), .ref mk, .ref co, .int 0, .int 0, .ref se])), (nw, .inl (cN, 25240, .inl now0))] sz)) 0 0 (va_A [(mo, .inr (4, [.int th, .int mr, .ref nw, .ref kp, .int 0, .int (-1), .ref mk, .ref co, .int 0, .int 0, .ref se])), (nw, .inl (cN, 25240, .inl now0))] sz) := by
  refine Met.ofW (cc := cM_withdraw) (maxL := 5) (ret := (some .boolean)) (by decide) rfl ?_
  intro p e s m args below meth c s₁ B hml hv
  obtain ⟨rfl, hv⟩ := hv
  have hx := B.exec
  have hb := B.bytes
  have hr := B.returns
  have hts : ∀ w ∈ aw, w.before _ s = true := fun w h => atoms_spec (ws := (.code yM_withdraw cM_withdraw 5 (some .boolean) :: aw)) B.pre w (List.mem_cons_of_mem _ h)
  have hown : s.vm.findClass RM = some m.cls := findClass_of_methodNamed B.named
  have hlocks := B.notSynchronized
  obtain ⟨hsz, hP, hK, hD0⟩ := hv
  subst hsz
  have hD := hD0.self (sz := s.heap.size)
  generalize hAe : va_A [(mo, .inr (4, [.int th, .int mr, .ref nw, .ref kp, .int 0, .int (-1), .ref mk, .ref co, .int 0, .int 0, .ref se])), (nw, .inl (cN, 25240, .inl now0))] s.heap.size = A at hD ⊢
  have hA : ∀ q : Nat, s.heap.size ≤ q → A q := fun q h => by rw [← hAe]; exact Or.inr h
  obtain ⟨H, hH⟩ : ∃ H, H = s.heap := ⟨_, rfl⟩
  have hS : va_S A s.heap H [] := by rw [hH]; exact va_S.rf
  rw [← hH] at hP ⊢
  have hP : va_P (dC, dI) kCl [(mo, .inr (4, [.int th, .int mr, .ref nw, .ref kp, .int 0, .int (-1), .ref mk, .ref co, .int 0, .int 0, .ref se])), (nw, .inl (cN, 25240, .inl now0))] H := hP
  have hl := lv_entry ([.ref mo, .int dd, .int vv, .int pp]) (n := 5) (Nat.le_of_ble_eq_true rfl)
  rw [lg_entry_eq]
  generalize (lg_sl ([.ref mo, .int dd, .int vv, .int pp]) ++ List.replicate (5 - (lg_sl ([.ref mo, .int dd, .int vv, .int pp])).length) Slot.unset).toArray = ls at hl ⊢
  have hl : lv_has ls 5 [(0, .ref mo), (1, .int dd), (2, .int vv), (3, .int pp)] := hl
  refine lv_aload_n (pc := 0) hx hb dM_withdraw_0 rfl (lv_at hl 0 rfl) ?_
  refine lv_iload_n (pc := 1) hx hb dM_withdraw_1 rfl (lv_at hl 1 rfl) ?_
  refine lv_iload_n (pc := 2) hx hb dM_withdraw_2 rfl (lv_at hl 2 rfl) ?_
  refine lv_iload_n (pc := 3) hx hb dM_withdraw_3 rfl (lv_at hl 3 rfl) ?_
  refine lv_iconst (pc := 4) (v := 4) hx hb dM_withdraw_4 (by decide) ?_
  refine vp_callSi (pc := 5) (W.runV (As := [.int dd, .int vv, .int pp, .int 4]) (rest := []) ⟨hx, hb, hml, hown, hts⟩ (m_whyNotRevision l dC dI mo nw kp mk co se th mr cN dd vv pp 4) (cwV 4 hts (gV wd_193 wd_194 wd_195 wd_157 wd_192) rfl rfl rfl (by decide +kernel) ⟨Nat.le_of_ble_eq_true rfl, Nat.le_of_ble_eq_true rfl⟩) ⟨pR_blind, va_recv (q := (RM, TM, 11)) (q0 := 0) (ci := 4) hK hP rfl rfl, pR_pre (hP.sub (ws' := [(mo, .inr (4, [.int th, .int mr, .ref nw, .ref kp, .int 0, .int (-1), .ref mk, .ref co, .int 0, .int 0, .ref se])), (nw, .inl (cN, 25240, .inl now0))]) [0, 1] rfl) (hK.sub (tys' := [(cN, .int)]) [0] rfl)⟩ rfl rfl hl.1 rfl (lv_room (Nat.le_of_ble_eq_true rfl)) dM_withdraw_5 ⟨Nat.le_of_ble_eq_true rfl, Nat.le_of_ble_eq_true rfl⟩) (fun r1 hr2 => ?_)
  obtain rfl : r1 = 1 := hr2
  refine lv_istore (pc := 8) hx hb dM_withdraw_8 hl (by decide) rfl (fun ls hl => ?_)
  have hl : lv_has ls 5 [(4, .int 1), (0, .ref mo), (1, .int dd), (2, .int vv), (3, .int pp)] := hl
  refine lv_aload_n (pc := 10) hx hb dM_withdraw_10 rfl (lv_at hl 1 rfl) ?_
  refine lv_iload_n (pc := 11) hx hb dM_withdraw_11 rfl (lv_at hl 2 rfl) ?_
  refine lv_iload_n (pc := 12) hx hb dM_withdraw_12 rfl (lv_at hl 3 rfl) ?_
  refine vp_callSi (pc := 13) (W.runV (As := [.int dd, .int vv]) (rest := []) ⟨hx, hb, hml, hown, hts⟩ (m_isRevision l dC dI mo nw kp mk co se th mr cN dd vv) (cwV 2 hts (gV wd_173 wd_174 wd_175 wd_157 wd_172) rfl rfl rfl (by decide +kernel) ⟨Nat.le_of_ble_eq_true rfl, Nat.le_of_ble_eq_true rfl⟩) ⟨pR_blind, va_recv (q := (RM, TM, 11)) (q0 := 0) (ci := 4) hK hP rfl rfl, pR_pre (hP.sub (ws' := [(mo, .inr (4, [.int th, .int mr, .ref nw, .ref kp, .int 0, .int (-1), .ref mk, .ref co, .int 0, .int 0, .ref se])), (nw, .inl (cN, 25240, .inl now0))]) [0, 1] rfl) (hK.sub (tys' := [(cN, .int)]) [0] rfl)⟩ rfl rfl hl.1 rfl (lv_room (Nat.le_of_ble_eq_true rfl)) dM_withdraw_13 ⟨Nat.le_of_ble_eq_true rfl, Nat.le_of_ble_eq_true rfl⟩) (fun r3 hr4 => ?_)
  obtain rfl : r3 = 0 := hr4
  refine lv_if_eq (pc := 16) (tgt := 56) hx hb dM_withdraw_16 rfl (fun h5 => ?_) (fun h5 => absurd h5 (by decide))
  refine lv_aload_n (pc := 56) hx hb dM_withdraw_56 rfl (lv_at hl 1 rfl) ?_
  refine lv_iload (pc := 57) hx hb dM_withdraw_57 (lv_at hl 0 rfl) ?_
  refine lv_iconst (pc := 59) (v := 1) hx hb dM_withdraw_59 (by decide) ?_
  have hPc := hP.sub (ws' := [(mo, .inr (4, [.int th, .int mr, .ref nw, .ref kp, .int 0, .int (-1), .ref mk, .ref co, .int 0, .int 0, .ref se])), (nw, .inl (cN, 25240, .inl now0))]) [0, 1] rfl
  have hDc := hD.sub (ws' := [(mo, .inr (4, [.int th, .int mr, .ref nw, .ref kp, .int 0, .int (-1), .ref mk, .ref co, .int 0, .int 0, .ref se])), (nw, .inl (cN, 25240, .inl now0))]) [0, 1] (by decide) rfl
  have hKc := hK.sub (tys' := [(cN, .int)]) [0] rfl
  have hFc := va_free (wc := [(mo, .inr (4, [.int th, .int mr, .ref nw, .ref kp, .int 0, .int (-1), .ref mk, .ref co, .int 0, .int 0, .ref se])), (nw, .inl (cN, 25240, .inl now0))]) hD hS hA [0, 1] rfl
  refine va_calli (pc := 60) (va_runV (As := [.int 1, .int 1]) (rest := []) ⟨hx, hb, hml, hown, hts⟩ (m_may l dC dI H.size mo nw kp mk co se th mr cN 1 1 (by decide) (by decide)) (cwV 2 hts (gV wd_181 wd_182 wd_183 wd_157 wd_180) rfl rfl rfl (by decide +kernel) ⟨Nat.le_of_ble_eq_true rfl, Nat.le_of_ble_eq_true rfl⟩) ⟨pW_blind, va_recv (q := (RM, TM, 11)) (q0 := 0) (ci := 4) hK hP rfl rfl, pW_pre hPc hKc hDc⟩ rfl rfl hl.1 rfl (lv_room (Nat.le_of_ble_eq_true rfl)) dM_withdraw_60 ⟨Nat.le_of_ble_eq_true rfl, Nat.le_of_ble_eq_true rfl⟩) hS (fun q _ h => hFc q h) hFc (fun r6 u t H1 locs ht hvm hr7 hB hz1 hk1 hS => ?_)
  obtain ⟨hP1, hK1, hD1⟩ := hB
  rw [ht] at hP1
  have hK1 := va_K.moved hvm.symm hK1
  obtain ⟨hP, hD⟩ := va_join (wr := []) (w1 := [(mo, .inr (4, [.int 0, .int 1, .ref nw, .ref kp, .int 0, .int (-1), .ref mk, .ref co, .int 0, .int 0, .ref se])), (nw, .inl (cN, 25240, .inl now0))]) hP hD [0, 1] [] rfl rfl (by decide) (by decide) hk1 hFc hP1 hD1
  generalize H1 = H at hP hS ⊢
  have hP : va_P (dC, dI) kCl [(mo, .inr (4, [.int 0, .int 1, .ref nw, .ref kp, .int 0, .int (-1), .ref mk, .ref co, .int 0, .int 0, .ref se])), (nw, .inl (cN, 25240, .inl now0))] H := hP
  have hD : va_D A [(mo, .inr (4, [.int 0, .int 1, .ref nw, .ref kp, .int 0, .int (-1), .ref mk, .ref co, .int 0, .int 0, .ref se])), (nw, .inl (cN, 25240, .inl now0))] := hD
  refine W.widen (k := 0) (n := 0) (Nat.le_of_ble_eq_true rfl) (Nat.le_of_ble_eq_true rfl) ?_
  obtain rfl : r6 = 0 := hr7
  refine lv_if_ne (pc := 63) (tgt := 68) hx hb dM_withdraw_63 rfl (fun h9 => absurd h9 (by decide)) (fun h9 => ?_)
  refine lv_iconst (pc := 66) (v := 0) hx hb dM_withdraw_66 (by decide) ?_
  have hP9 := hP.sub (ws' := [(mo, .inr (4, [.int 0, .int 1, .ref nw, .ref kp, .int 0, .int (-1), .ref mk, .ref co, .int 0, .int 0, .ref se]))]) [0] rfl
  have hD9 := hD.sub (ws' := [(mo, .inr (4, [.int 0, .int 1, .ref nw, .ref kp, .int 0, .int (-1), .ref mk, .ref co, .int 0, .int 0, .ref se]))]) [0] (by decide) rfl
  have hK9 := hK.sub (tys' := []) [] rfl
  exact W.zret (pc := 67) hx hb hr rfl (fun t ht hW => ⟨⟨_, (), rfl, rfl, by rw [ht]; exact hP9, va_K.moved hW.alike hK9, hD9⟩, hS.F ht⟩) hS.2.2 dM_withdraw_67
set_option maxHeartbeats 4000000 in
set_option maxRecDepth 100000 in
theorem m_why (l : Launch) (dC : Nat → ClassId) (dI : Nat → Nat → Nat) (sz : Nat) (mo : Nat) (nw : Nat) (kp : Nat) (mk : Nat) (co : Nat) (se : Nat) (th : Int32) (mr : Int32) (cN : ClassId) : Met l yM_why (.code yM_why cM_why 1 (some .int) :: aw) ({ frames := 0, cells := 0, slots := 0, locals := 0 }) (pW (dC, dI) sz [(mo, .inr (4, [.int th, .int mr, .ref nw, .ref kp, .int 0, .int (-1), .ref mk, .ref co, .int 0, .int 0, .ref se])), (nw, .inl (cN, 25240, .inl now0))] [(cN, .int)] [.ref mo]) (va_Qi (fun r (_ : Unit) => r = mr) (fun _ t => wW (dC, dI) (va_A [(mo, .inr (4, [.int th, .int mr, .ref nw, .ref kp, .int 0, .int (-1), .ref mk, .ref co, .int 0, .int 0, .ref se])), (nw, .inl (cN, 25240, .inl now0))] sz) [(mo, .inr (4, [.int 0, .int mr, .ref nw, .ref kp, .int 0, .int (-1), .ref mk, .ref co, .int 0, .int 0, .ref se]))] [] t) (va_A [(mo, .inr (4, [.int th, .int mr, .ref nw, .ref kp, .int 0, .int (-1), .ref mk, .ref co, .int 0, .int 0, .ref se])), (nw, .inl (cN, 25240, .inl now0))] sz)) 0 0 (va_A [(mo, .inr (4, [.int th, .int mr, .ref nw, .ref kp, .int 0, .int (-1), .ref mk, .ref co, .int 0, .int 0, .ref se])), (nw, .inl (cN, 25240, .inl now0))] sz) := by
  refine Met.ofW (cc := cM_why) (maxL := 1) (ret := (some .int)) (by decide) rfl ?_
  intro p e s m args below meth c s₁ B hml hv
  obtain ⟨rfl, hv⟩ := hv
  have hx := B.exec
  have hb := B.bytes
  have hr := B.returns
  have hts : ∀ w ∈ aw, w.before _ s = true := fun w h => atoms_spec (ws := (.code yM_why cM_why 1 (some .int) :: aw)) B.pre w (List.mem_cons_of_mem _ h)
  have hown : s.vm.findClass RM = some m.cls := findClass_of_methodNamed B.named
  have hlocks := B.notSynchronized
  obtain ⟨hsz, hP, hK, hD0⟩ := hv
  subst hsz
  have hD := hD0.self (sz := s.heap.size)
  generalize hAe : va_A [(mo, .inr (4, [.int th, .int mr, .ref nw, .ref kp, .int 0, .int (-1), .ref mk, .ref co, .int 0, .int 0, .ref se])), (nw, .inl (cN, 25240, .inl now0))] s.heap.size = A at hD ⊢
  have hA : ∀ q : Nat, s.heap.size ≤ q → A q := fun q h => by rw [← hAe]; exact Or.inr h
  obtain ⟨H, hH⟩ : ∃ H, H = s.heap := ⟨_, rfl⟩
  have hS : va_S A s.heap H [] := by rw [hH]; exact va_S.rf
  rw [← hH] at hP ⊢
  have hP : va_P (dC, dI) kCl [(mo, .inr (4, [.int th, .int mr, .ref nw, .ref kp, .int 0, .int (-1), .ref mk, .ref co, .int 0, .int 0, .ref se])), (nw, .inl (cN, 25240, .inl now0))] H := hP
  have hl := lv_entry ([.ref mo]) (n := 1) (Nat.le_of_ble_eq_true rfl)
  rw [lg_entry_eq]
  generalize (lg_sl ([.ref mo]) ++ List.replicate (1 - (lg_sl ([.ref mo])).length) Slot.unset).toArray = ls at hl ⊢
  have hl : lv_has ls 1 [(0, .ref mo)] := hl
  refine lv_aload_n (pc := 0) hx hb dM_why_0 rfl (lv_at hl 0 rfl) ?_
  refine lv_iconst (pc := 1) (v := 0) hx hb dM_why_1 (by decide) ?_
  refine va_put (D := (dC, dI)) (cl := kCl) (ci := 4) (v := .int 0) (ty := .int) (C := RM) (T := TM) (N := 11) (pc := 2) hx hb hts inM tyM tyM_ok nmM hown hK hP hD hS 0 rfl rfl 0 (by decide) (hts _ wd_152) (fun _ h9 => h9) rfl (by decide +kernel) rfl rfl (Nat.le_of_ble_eq_true rfl) dM_why_2 (fun H locs hP hD hS => ?_)
  have hP : va_P (dC, dI) kCl [(mo, .inr (4, [.int 0, .int mr, .ref nw, .ref kp, .int 0, .int (-1), .ref mk, .ref co, .int 0, .int 0, .ref se])), (nw, .inl (cN, 25240, .inl now0))] H := hP
  have hD : va_D A [(mo, .inr (4, [.int 0, .int mr, .ref nw, .ref kp, .int 0, .int (-1), .ref mk, .ref co, .int 0, .int 0, .ref se])), (nw, .inl (cN, 25240, .inl now0))] := hD
  refine lv_aload_n (pc := 5) hx hb dM_why_5 rfl (lv_at hl 0 rfl) ?_
  refine va_get (D := (dC, dI)) (cl := kCl) (C := RM) (T := TM) (N := 11) (pc := 6) hx hb hts inM hown hK hP 0 rfl rfl 1 (by decide) (hts _ wd_164) (fun _ h9 => h9) rfl dM_why_6 ?_
  have hP9 := hP.sub (ws' := [(mo, .inr (4, [.int 0, .int mr, .ref nw, .ref kp, .int 0, .int (-1), .ref mk, .ref co, .int 0, .int 0, .ref se]))]) [0] rfl
  have hD9 := hD.sub (ws' := [(mo, .inr (4, [.int 0, .int mr, .ref nw, .ref kp, .int 0, .int (-1), .ref mk, .ref co, .int 0, .int 0, .ref se]))]) [0] (by decide) rfl
  have hK9 := hK.sub (tys' := []) [] rfl
  exact W.iret (pc := 9) hx hb hr (fun t ht hW => ⟨⟨_, (), rfl, rfl, by rw [ht]; exact hP9, va_K.moved hW.alike hK9, hD9⟩, hS.F ht⟩) hS.2.2 dM_why_9
set_option maxHeartbeats 4000000 in
set_option maxRecDepth 100000 in
theorem m_look (l : Launch) (dC : Nat → ClassId) (dI : Nat → Nat → Nat) (sz : Nat) (mo : Nat) (nw : Nat) (kp : Nat) (mk : Nat) (co : Nat) (se : Nat) (th : Int32) (mr : Int32) (cN : ClassId) (dd : Int32) (vv : Int32) (ww : Int32) : Met l yM_look (.code yM_look cM_look 6 (some .int) :: aw) ({ frames := 2, cells := 0, slots := 0, locals := 43 }) (pW (dC, dI) sz [(mo, .inr (4, [.int th, .int mr, .ref nw, .ref kp, .int 0, .int (-1), .ref mk, .ref co, .int 0, .int 0, .ref se])), (nw, .inl (cN, 25240, .inl now0))] [(cN, .int)] [.ref mo, .int dd, .int vv, .int ww]) (va_Qi (fun r (_ : Unit) => r = 0) (fun _ t => wW (dC, dI) (va_A [(mo, .inr (4, [.int th, .int mr, .ref nw, .ref kp, .int 0, .int (-1), .ref mk, .ref co, .int 0, .int 0, .ref se])), (nw, .inl (cN, 25240, .inl now0))] sz) [(mo, .inr (4, [.int 1, .int mr, .ref nw, .ref kp, .int 0, .int (-1), .ref mk, .ref co, .int 0, .int 0, .ref se]))] [] t) (va_A [(mo, .inr (4, [.int th, .int mr, .ref nw, .ref kp, .int 0, .int (-1), .ref mk, .ref co, .int 0, .int 0, .ref se])), (nw, .inl (cN, 25240, .inl now0))] sz)) 0 0 (va_A [(mo, .inr (4, [.int th, .int mr, .ref nw, .ref kp, .int 0, .int (-1), .ref mk, .ref co, .int 0, .int 0, .ref se])), (nw, .inl (cN, 25240, .inl now0))] sz) := by
  refine Met.ofW (cc := cM_look) (maxL := 6) (ret := (some .int)) (by decide) rfl ?_
  intro p e s m args below meth c s₁ B hml hv
  obtain ⟨rfl, hv⟩ := hv
  have hx := B.exec
  have hb := B.bytes
  have hr := B.returns
  have hts : ∀ w ∈ aw, w.before _ s = true := fun w h => atoms_spec (ws := (.code yM_look cM_look 6 (some .int) :: aw)) B.pre w (List.mem_cons_of_mem _ h)
  have hown : s.vm.findClass RM = some m.cls := findClass_of_methodNamed B.named
  have hlocks := B.notSynchronized
  obtain ⟨hsz, hP, hK, hD0⟩ := hv
  subst hsz
  have hD := hD0.self (sz := s.heap.size)
  generalize hAe : va_A [(mo, .inr (4, [.int th, .int mr, .ref nw, .ref kp, .int 0, .int (-1), .ref mk, .ref co, .int 0, .int 0, .ref se])), (nw, .inl (cN, 25240, .inl now0))] s.heap.size = A at hD ⊢
  have hA : ∀ q : Nat, s.heap.size ≤ q → A q := fun q h => by rw [← hAe]; exact Or.inr h
  obtain ⟨H, hH⟩ : ∃ H, H = s.heap := ⟨_, rfl⟩
  have hS : va_S A s.heap H [] := by rw [hH]; exact va_S.rf
  rw [← hH] at hP ⊢
  have hP : va_P (dC, dI) kCl [(mo, .inr (4, [.int th, .int mr, .ref nw, .ref kp, .int 0, .int (-1), .ref mk, .ref co, .int 0, .int 0, .ref se])), (nw, .inl (cN, 25240, .inl now0))] H := hP
  have hl := lv_entry ([.ref mo, .int dd, .int vv, .int ww]) (n := 6) (Nat.le_of_ble_eq_true rfl)
  rw [lg_entry_eq]
  generalize (lg_sl ([.ref mo, .int dd, .int vv, .int ww]) ++ List.replicate (6 - (lg_sl ([.ref mo, .int dd, .int vv, .int ww])).length) Slot.unset).toArray = ls at hl ⊢
  have hl : lv_has ls 6 [(0, .ref mo), (1, .int dd), (2, .int vv), (3, .int ww)] := hl
  refine lv_aload_n (pc := 0) hx hb dM_look_0 rfl (lv_at hl 0 rfl) ?_
  refine lv_iload_n (pc := 1) hx hb dM_look_1 rfl (lv_at hl 1 rfl) ?_
  refine lv_iload_n (pc := 2) hx hb dM_look_2 rfl (lv_at hl 2 rfl) ?_
  refine vp_callSi (pc := 3) (W.runV (As := [.int dd, .int vv]) (rest := []) ⟨hx, hb, hml, hown, hts⟩ (m_isRevision l dC dI mo nw kp mk co se th mr cN dd vv) (cwV 2 hts (gV wd_173 wd_174 wd_175 wd_157 wd_172) rfl rfl rfl (by decide +kernel) ⟨Nat.le_of_ble_eq_true rfl, Nat.le_of_ble_eq_true rfl⟩) ⟨pR_blind, va_recv (q := (RM, TM, 11)) (q0 := 0) (ci := 4) hK hP rfl rfl, pR_pre (hP.sub (ws' := [(mo, .inr (4, [.int th, .int mr, .ref nw, .ref kp, .int 0, .int (-1), .ref mk, .ref co, .int 0, .int 0, .ref se])), (nw, .inl (cN, 25240, .inl now0))]) [0, 1] rfl) (hK.sub (tys' := [(cN, .int)]) [0] rfl)⟩ rfl rfl hl.1 rfl (lv_room (Nat.le_of_ble_eq_true rfl)) dM_look_3 ⟨Nat.le_of_ble_eq_true rfl, Nat.le_of_ble_eq_true rfl⟩) (fun r1 hr2 => ?_)
  obtain rfl : r1 = 0 := hr2
  refine lv_istore (pc := 6) hx hb dM_look_6 hl (by decide) rfl (fun ls hl => ?_)
  have hl : lv_has ls 6 [(4, .int 0), (0, .ref mo), (1, .int dd), (2, .int vv), (3, .int ww)] := hl
  refine lv_iload (pc := 8) hx hb dM_look_8 (lv_at hl 0 rfl) ?_
  refine lv_if_eq (pc := 10) (tgt := 22) hx hb dM_look_10 rfl (fun h3 => ?_) (fun h3 => absurd h3 (by decide))
  refine lv_sipush (pc := 22) (v := 1940) hx hb dM_look_22 (by decide) ?_
  refine lv_istore (pc := 25) hx hb dM_look_25 hl (by decide) rfl (fun ls hl => ?_)
  have hl : lv_has ls 6 [(5, .int 1940), (4, .int 0), (0, .ref mo), (1, .int dd), (2, .int vv), (3, .int ww)] := hl
  refine lv_aload_n (pc := 27) hx hb dM_look_27 rfl (lv_at hl 2 rfl) ?_
  refine lv_iload (pc := 28) hx hb dM_look_28 (lv_at hl 1 rfl) ?_
  refine lv_if_eq (pc := 30) (tgt := 68) hx hb dM_look_30 rfl (fun h4 => ?_) (fun h4 => absurd h4 (by decide))
  refine lv_iconst (pc := 68) (v := 1) hx hb dM_look_68 (by decide) ?_
  refine va_put (D := (dC, dI)) (cl := kCl) (ci := 4) (v := .int 1) (ty := .int) (C := RM) (T := TM) (N := 11) (pc := 69) hx hb hts inM tyM tyM_ok nmM hown hK hP hD hS 0 rfl rfl 0 (by decide) (hts _ wd_152) (fun _ h9 => h9) rfl (by decide +kernel) rfl rfl (Nat.le_of_ble_eq_true rfl) dM_look_69 (fun H locs hP hD hS => ?_)
  have hP : va_P (dC, dI) kCl [(mo, .inr (4, [.int 1, .int mr, .ref nw, .ref kp, .int 0, .int (-1), .ref mk, .ref co, .int 0, .int 0, .ref se])), (nw, .inl (cN, 25240, .inl now0))] H := hP
  have hD : va_D A [(mo, .inr (4, [.int 1, .int mr, .ref nw, .ref kp, .int 0, .int (-1), .ref mk, .ref co, .int 0, .int 0, .ref se])), (nw, .inl (cN, 25240, .inl now0))] := hD
  refine lv_aload_n (pc := 72) hx hb dM_look_72 rfl (lv_at hl 2 rfl) ?_
  refine va_get (D := (dC, dI)) (cl := kCl) (C := RM) (T := TM) (N := 11) (pc := 73) hx hb hts inM hown hK hP 0 rfl rfl 0 (by decide) (hts _ wd_152) (fun _ h9 => h9) rfl dM_look_73 ?_
  refine lv_if_le (pc := 76) (tgt := 81) hx hb dM_look_76 rfl (fun h5 => absurd h5 (by decide)) (fun h5 => ?_)
  refine lv_iconst (pc := 79) (v := 0) hx hb dM_look_79 (by decide) ?_
  have hP9 := hP.sub (ws' := [(mo, .inr (4, [.int 1, .int mr, .ref nw, .ref kp, .int 0, .int (-1), .ref mk, .ref co, .int 0, .int 0, .ref se]))]) [0] rfl
  have hD9 := hD.sub (ws' := [(mo, .inr (4, [.int 1, .int mr, .ref nw, .ref kp, .int 0, .int (-1), .ref mk, .ref co, .int 0, .int 0, .ref se]))]) [0] (by decide) rfl
  have hK9 := hK.sub (tys' := []) [] rfl
  exact W.iret (pc := 80) hx hb hr (fun t ht hW => ⟨⟨_, (), rfl, rfl, by rw [ht]; exact hP9, va_K.moved hW.alike hK9, hD9⟩, hS.F ht⟩) hS.2.2 dM_look_80
set_option maxHeartbeats 4000000 in
set_option maxRecDepth 100000 in
theorem m_reference (l : Launch) (dC : Nat → ClassId) (dI : Nat → Nat → Nat) (sz : Nat) (mo : Nat) (nw : Nat) (kp : Nat) (mk : Nat) (co : Nat) (se : Nat) (th : Int32) (mr : Int32) (cN : ClassId) (dd : Int32) (vv : Int32) (kk : Int32) (ww : Int32) : Met l yM_reference (.code yM_reference cM_reference 7 (some .int) :: aw) ({ frames := 2, cells := 0, slots := 0, locals := 43 }) (pW (dC, dI) sz [(mo, .inr (4, [.int th, .int mr, .ref nw, .ref kp, .int 0, .int (-1), .ref mk, .ref co, .int 0, .int 0, .ref se])), (nw, .inl (cN, 25240, .inl now0))] [(cN, .int)] [.ref mo, .int dd, .int vv, .int kk, .int ww]) (va_Qi (fun r (_ : Unit) => r = 0) (fun _ t => wW (dC, dI) (va_A [(mo, .inr (4, [.int th, .int mr, .ref nw, .ref kp, .int 0, .int (-1), .ref mk, .ref co, .int 0, .int 0, .ref se])), (nw, .inl (cN, 25240, .inl now0))] sz) [(mo, .inr (4, [.int 1, .int mr, .ref nw, .ref kp, .int 0, .int (-1), .ref mk, .ref co, .int 0, .int 0, .ref se]))] [] t) (va_A [(mo, .inr (4, [.int th, .int mr, .ref nw, .ref kp, .int 0, .int (-1), .ref mk, .ref co, .int 0, .int 0, .ref se])), (nw, .inl (cN, 25240, .inl now0))] sz)) 0 0 (va_A [(mo, .inr (4, [.int th, .int mr, .ref nw, .ref kp, .int 0, .int (-1), .ref mk, .ref co, .int 0, .int 0, .ref se])), (nw, .inl (cN, 25240, .inl now0))] sz) := by
  refine Met.ofW (cc := cM_reference) (maxL := 7) (ret := (some .int)) (by decide) rfl ?_
  intro p e s m args below meth c s₁ B hml hv
  obtain ⟨rfl, hv⟩ := hv
  have hx := B.exec
  have hb := B.bytes
  have hr := B.returns
  have hts : ∀ w ∈ aw, w.before _ s = true := fun w h => atoms_spec (ws := (.code yM_reference cM_reference 7 (some .int) :: aw)) B.pre w (List.mem_cons_of_mem _ h)
  have hown : s.vm.findClass RM = some m.cls := findClass_of_methodNamed B.named
  have hlocks := B.notSynchronized
  obtain ⟨hsz, hP, hK, hD0⟩ := hv
  subst hsz
  have hD := hD0.self (sz := s.heap.size)
  generalize hAe : va_A [(mo, .inr (4, [.int th, .int mr, .ref nw, .ref kp, .int 0, .int (-1), .ref mk, .ref co, .int 0, .int 0, .ref se])), (nw, .inl (cN, 25240, .inl now0))] s.heap.size = A at hD ⊢
  have hA : ∀ q : Nat, s.heap.size ≤ q → A q := fun q h => by rw [← hAe]; exact Or.inr h
  obtain ⟨H, hH⟩ : ∃ H, H = s.heap := ⟨_, rfl⟩
  have hS : va_S A s.heap H [] := by rw [hH]; exact va_S.rf
  rw [← hH] at hP ⊢
  have hP : va_P (dC, dI) kCl [(mo, .inr (4, [.int th, .int mr, .ref nw, .ref kp, .int 0, .int (-1), .ref mk, .ref co, .int 0, .int 0, .ref se])), (nw, .inl (cN, 25240, .inl now0))] H := hP
  have hl := lv_entry ([.ref mo, .int dd, .int vv, .int kk, .int ww]) (n := 7) (Nat.le_of_ble_eq_true rfl)
  rw [lg_entry_eq]
  generalize (lg_sl ([.ref mo, .int dd, .int vv, .int kk, .int ww]) ++ List.replicate (7 - (lg_sl ([.ref mo, .int dd, .int vv, .int kk, .int ww])).length) Slot.unset).toArray = ls at hl ⊢
  have hl : lv_has ls 7 [(0, .ref mo), (1, .int dd), (2, .int vv), (3, .int kk), (4, .int ww)] := hl
  refine lv_aload_n (pc := 0) hx hb dM_reference_0 rfl (lv_at hl 0 rfl) ?_
  refine lv_iload_n (pc := 1) hx hb dM_reference_1 rfl (lv_at hl 1 rfl) ?_
  refine lv_iload_n (pc := 2) hx hb dM_reference_2 rfl (lv_at hl 2 rfl) ?_
  refine vp_callSi (pc := 3) (W.runV (As := [.int dd, .int vv]) (rest := []) ⟨hx, hb, hml, hown, hts⟩ (m_isRevision l dC dI mo nw kp mk co se th mr cN dd vv) (cwV 2 hts (gV wd_173 wd_174 wd_175 wd_157 wd_172) rfl rfl rfl (by decide +kernel) ⟨Nat.le_of_ble_eq_true rfl, Nat.le_of_ble_eq_true rfl⟩) ⟨pR_blind, va_recv (q := (RM, TM, 11)) (q0 := 0) (ci := 4) hK hP rfl rfl, pR_pre (hP.sub (ws' := [(mo, .inr (4, [.int th, .int mr, .ref nw, .ref kp, .int 0, .int (-1), .ref mk, .ref co, .int 0, .int 0, .ref se])), (nw, .inl (cN, 25240, .inl now0))]) [0, 1] rfl) (hK.sub (tys' := [(cN, .int)]) [0] rfl)⟩ rfl rfl hl.1 rfl (lv_room (Nat.le_of_ble_eq_true rfl)) dM_reference_3 ⟨Nat.le_of_ble_eq_true rfl, Nat.le_of_ble_eq_true rfl⟩) (fun r1 hr2 => ?_)
  obtain rfl : r1 = 0 := hr2
  refine lv_istore (pc := 6) hx hb dM_reference_6 hl (by decide) rfl (fun ls hl => ?_)
  have hl : lv_has ls 7 [(5, .int 0), (0, .ref mo), (1, .int dd), (2, .int vv), (3, .int kk), (4, .int ww)] := hl
  refine lv_iload (pc := 8) hx hb dM_reference_8 (lv_at hl 0 rfl) ?_
  refine lv_if_eq (pc := 10) (tgt := 22) hx hb dM_reference_10 rfl (fun h3 => ?_) (fun h3 => absurd h3 (by decide))
  refine lv_sipush (pc := 22) (v := 1940) hx hb dM_reference_22 (by decide) ?_
  refine lv_istore (pc := 25) hx hb dM_reference_25 hl (by decide) rfl (fun ls hl => ?_)
  have hl : lv_has ls 7 [(6, .int 1940), (5, .int 0), (0, .ref mo), (1, .int dd), (2, .int vv), (3, .int kk), (4, .int ww)] := hl
  refine lv_aload_n (pc := 27) hx hb dM_reference_27 rfl (lv_at hl 2 rfl) ?_
  refine lv_iload (pc := 28) hx hb dM_reference_28 (lv_at hl 1 rfl) ?_
  refine lv_if_eq (pc := 30) (tgt := 65) hx hb dM_reference_30 rfl (fun h4 => ?_) (fun h4 => absurd h4 (by decide))
  refine lv_iconst (pc := 65) (v := 1) hx hb dM_reference_65 (by decide) ?_
  refine va_put (D := (dC, dI)) (cl := kCl) (ci := 4) (v := .int 1) (ty := .int) (C := RM) (T := TM) (N := 11) (pc := 66) hx hb hts inM tyM tyM_ok nmM hown hK hP hD hS 0 rfl rfl 0 (by decide) (hts _ wd_152) (fun _ h9 => h9) rfl (by decide +kernel) rfl rfl (Nat.le_of_ble_eq_true rfl) dM_reference_66 (fun H locs hP hD hS => ?_)
  have hP : va_P (dC, dI) kCl [(mo, .inr (4, [.int 1, .int mr, .ref nw, .ref kp, .int 0, .int (-1), .ref mk, .ref co, .int 0, .int 0, .ref se])), (nw, .inl (cN, 25240, .inl now0))] H := hP
  have hD : va_D A [(mo, .inr (4, [.int 1, .int mr, .ref nw, .ref kp, .int 0, .int (-1), .ref mk, .ref co, .int 0, .int 0, .ref se])), (nw, .inl (cN, 25240, .inl now0))] := hD
  refine lv_aload_n (pc := 69) hx hb dM_reference_69 rfl (lv_at hl 2 rfl) ?_
  refine va_get (D := (dC, dI)) (cl := kCl) (C := RM) (T := TM) (N := 11) (pc := 70) hx hb hts inM hown hK hP 0 rfl rfl 0 (by decide) (hts _ wd_152) (fun _ h9 => h9) rfl dM_reference_70 ?_
  refine lv_if_le (pc := 73) (tgt := 78) hx hb dM_reference_73 rfl (fun h5 => absurd h5 (by decide)) (fun h5 => ?_)
  refine lv_iconst (pc := 76) (v := 0) hx hb dM_reference_76 (by decide) ?_
  have hP9 := hP.sub (ws' := [(mo, .inr (4, [.int 1, .int mr, .ref nw, .ref kp, .int 0, .int (-1), .ref mk, .ref co, .int 0, .int 0, .ref se]))]) [0] rfl
  have hD9 := hD.sub (ws' := [(mo, .inr (4, [.int 1, .int mr, .ref nw, .ref kp, .int 0, .int (-1), .ref mk, .ref co, .int 0, .int 0, .ref se]))]) [0] (by decide) rfl
  have hK9 := hK.sub (tys' := []) [] rfl
  exact W.iret (pc := 77) hx hb hr (fun t ht hW => ⟨⟨_, (), rfl, rfl, by rw [ht]; exact hP9, va_K.moved hW.alike hK9, hD9⟩, hS.F ht⟩) hS.2.2 dM_reference_77
set_option maxHeartbeats 4000000 in
set_option maxRecDepth 100000 in
theorem m_about (l : Launch) (dC : Nat → ClassId) (dI : Nat → Nat → Nat) (sz : Nat) (mo : Nat) (nw : Nat) (kp : Nat) (mk : Nat) (co : Nat) (se : Nat) (th : Int32) (mr : Int32) (cN : ClassId) (dd : Int32) (ww : Int32) : Met l yM_about (.code yM_about cM_about 7 (some .int) :: aw) ({ frames := 1, cells := 0, slots := 0, locals := 21 }) (pW (dC, dI) sz [(mo, .inr (4, [.int th, .int mr, .ref nw, .ref kp, .int 0, .int (-1), .ref mk, .ref co, .int 0, .int 0, .ref se])), (nw, .inl (cN, 25240, .inl now0))] [(cN, .int)] [.ref mo, .int dd, .int ww]) (va_Qi (fun r (_ : Unit) => r = 0) (fun _ t => wW (dC, dI) (va_A [(mo, .inr (4, [.int th, .int mr, .ref nw, .ref kp, .int 0, .int (-1), .ref mk, .ref co, .int 0, .int 0, .ref se])), (nw, .inl (cN, 25240, .inl now0))] sz) [(mo, .inr (4, [.int 1, .int mr, .ref nw, .ref kp, .int 0, .int (-1), .ref mk, .ref co, .int 0, .int 0, .ref se]))] [] t) (va_A [(mo, .inr (4, [.int th, .int mr, .ref nw, .ref kp, .int 0, .int (-1), .ref mk, .ref co, .int 0, .int 0, .ref se])), (nw, .inl (cN, 25240, .inl now0))] sz)) 0 0 (va_A [(mo, .inr (4, [.int th, .int mr, .ref nw, .ref kp, .int 0, .int (-1), .ref mk, .ref co, .int 0, .int 0, .ref se])), (nw, .inl (cN, 25240, .inl now0))] sz) := by
  refine Met.ofW (cc := cM_about) (maxL := 7) (ret := (some .int)) (by decide) rfl ?_
  intro p e s m args below meth c s₁ B hml hv
  obtain ⟨rfl, hv⟩ := hv
  have hx := B.exec
  have hb := B.bytes
  have hr := B.returns
  have hts : ∀ w ∈ aw, w.before _ s = true := fun w h => atoms_spec (ws := (.code yM_about cM_about 7 (some .int) :: aw)) B.pre w (List.mem_cons_of_mem _ h)
  have hown : s.vm.findClass RM = some m.cls := findClass_of_methodNamed B.named
  have hlocks := B.notSynchronized
  obtain ⟨hsz, hP, hK, hD0⟩ := hv
  subst hsz
  have hD := hD0.self (sz := s.heap.size)
  generalize hAe : va_A [(mo, .inr (4, [.int th, .int mr, .ref nw, .ref kp, .int 0, .int (-1), .ref mk, .ref co, .int 0, .int 0, .ref se])), (nw, .inl (cN, 25240, .inl now0))] s.heap.size = A at hD ⊢
  have hA : ∀ q : Nat, s.heap.size ≤ q → A q := fun q h => by rw [← hAe]; exact Or.inr h
  obtain ⟨H, hH⟩ : ∃ H, H = s.heap := ⟨_, rfl⟩
  have hS : va_S A s.heap H [] := by rw [hH]; exact va_S.rf
  rw [← hH] at hP ⊢
  have hP : va_P (dC, dI) kCl [(mo, .inr (4, [.int th, .int mr, .ref nw, .ref kp, .int 0, .int (-1), .ref mk, .ref co, .int 0, .int 0, .ref se])), (nw, .inl (cN, 25240, .inl now0))] H := hP
  have hl := lv_entry ([.ref mo, .int dd, .int ww]) (n := 7) (Nat.le_of_ble_eq_true rfl)
  rw [lg_entry_eq]
  generalize (lg_sl ([.ref mo, .int dd, .int ww]) ++ List.replicate (7 - (lg_sl ([.ref mo, .int dd, .int ww])).length) Slot.unset).toArray = ls at hl ⊢
  have hl : lv_has ls 7 [(0, .ref mo), (1, .int dd), (2, .int ww)] := hl
  refine lv_aload_n (pc := 0) hx hb dM_about_0 rfl (lv_at hl 0 rfl) ?_
  refine lv_iload_n (pc := 1) hx hb dM_about_1 rfl (lv_at hl 1 rfl) ?_
  refine vp_callSi (pc := 2) (W.runV (As := [.int dd]) (rest := []) ⟨hx, hb, hml, hown, hts⟩ (m_isDrawing l dC dI mo nw kp mk co se th mr cN dd) (cwV 1 hts (gV wd_160 wd_161 wd_162 wd_157 wd_159) rfl rfl rfl (by decide +kernel) ⟨Nat.le_of_ble_eq_true rfl, Nat.le_of_ble_eq_true rfl⟩) ⟨pR_blind, va_recv (q := (RM, TM, 11)) (q0 := 0) (ci := 4) hK hP rfl rfl, pR_pre (hP.sub (ws' := [(mo, .inr (4, [.int th, .int mr, .ref nw, .ref kp, .int 0, .int (-1), .ref mk, .ref co, .int 0, .int 0, .ref se])), (nw, .inl (cN, 25240, .inl now0))]) [0, 1] rfl) (hK.sub (tys' := [(cN, .int)]) [0] rfl)⟩ rfl rfl hl.1 rfl (lv_room (Nat.le_of_ble_eq_true rfl)) dM_about_2 ⟨Nat.le_of_ble_eq_true rfl, Nat.le_of_ble_eq_true rfl⟩) (fun r1 hr2 => ?_)
  obtain rfl : r1 = 0 := hr2
  refine lv_istore_n (pc := 5) hx hb dM_about_5 rfl hl (by decide) rfl (fun ls hl => ?_)
  have hl : lv_has ls 7 [(3, .int 0), (0, .ref mo), (1, .int dd), (2, .int ww)] := hl
  refine lv_iload_n (pc := 6) hx hb dM_about_6 rfl (lv_at hl 0 rfl) ?_
  refine lv_if_eq (pc := 7) (tgt := 18) hx hb dM_about_7 rfl (fun h3 => ?_) (fun h3 => absurd h3 (by decide))
  refine lv_bipush (pc := 18) (v := 20) hx hb dM_about_18 (by decide) ?_
  refine lv_istore (pc := 20) hx hb dM_about_20 hl (by decide) rfl (fun ls hl => ?_)
  have hl : lv_has ls 7 [(4, .int 20), (3, .int 0), (0, .ref mo), (1, .int dd), (2, .int ww)] := hl
  refine lv_iload_n (pc := 22) hx hb dM_about_22 rfl (lv_at hl 1 rfl) ?_
  refine lv_if_eq (pc := 23) (tgt := 38) hx hb dM_about_23 rfl (fun h4 => ?_) (fun h4 => absurd h4 (by decide))
  refine lv_iconst (pc := 38) (v := 0) hx hb dM_about_38 (by decide) ?_
  refine lv_istore (pc := 39) hx hb dM_about_39 hl (by decide) rfl (fun ls hl => ?_)
  have hl : lv_has ls 7 [(5, .int 0), (4, .int 20), (3, .int 0), (0, .ref mo), (1, .int dd), (2, .int ww)] := hl
  refine lv_iload_n (pc := 41) hx hb dM_about_41 rfl (lv_at hl 2 rfl) ?_
  refine lv_if_eq (pc := 42) (tgt := 54) hx hb dM_about_42 rfl (fun h5 => ?_) (fun h5 => absurd h5 (by decide))
  refine lv_iload (pc := 54) hx hb dM_about_54 (lv_at hl 0 rfl) ?_
  refine lv_if_eq (pc := 56) (tgt := 81) hx hb dM_about_56 rfl (fun h6 => ?_) (fun h6 => absurd h6 (by decide))
  refine lv_iload (pc := 81) hx hb dM_about_81 (lv_at hl 0 rfl) ?_
  refine lv_if_eq (pc := 83) (tgt := 116) hx hb dM_about_83 rfl (fun h7 => ?_) (fun h7 => absurd h7 (by decide))
  refine lv_iconst (pc := 116) (v := 0) hx hb dM_about_116 (by decide) ?_
  refine lv_istore (pc := 117) hx hb dM_about_117 hl (by decide) rfl (fun ls hl => ?_)
  have hl : lv_has ls 7 [(6, .int 0), (5, .int 0), (4, .int 20), (3, .int 0), (0, .ref mo), (1, .int dd), (2, .int ww)] := hl
  refine lv_aload_n (pc := 119) hx hb dM_about_119 rfl (lv_at hl 4 rfl) ?_
  refine lv_iload (pc := 120) hx hb dM_about_120 (lv_at hl 0 rfl) ?_
  refine lv_if_eq (pc := 122) (tgt := 129) hx hb dM_about_122 rfl (fun h8 => ?_) (fun h8 => absurd h8 (by decide))
  refine lv_iconst (pc := 129) (v := 1) hx hb dM_about_129 (by decide) ?_
  refine va_put (D := (dC, dI)) (cl := kCl) (ci := 4) (v := .int 1) (ty := .int) (C := RM) (T := TM) (N := 11) (pc := 130) hx hb hts inM tyM tyM_ok nmM hown hK hP hD hS 0 rfl rfl 0 (by decide) (hts _ wd_152) (fun _ h9 => h9) rfl (by decide +kernel) rfl rfl (Nat.le_of_ble_eq_true rfl) dM_about_130 (fun H locs hP hD hS => ?_)
  have hP : va_P (dC, dI) kCl [(mo, .inr (4, [.int 1, .int mr, .ref nw, .ref kp, .int 0, .int (-1), .ref mk, .ref co, .int 0, .int 0, .ref se])), (nw, .inl (cN, 25240, .inl now0))] H := hP
  have hD : va_D A [(mo, .inr (4, [.int 1, .int mr, .ref nw, .ref kp, .int 0, .int (-1), .ref mk, .ref co, .int 0, .int 0, .ref se])), (nw, .inl (cN, 25240, .inl now0))] := hD
  refine lv_iload (pc := 133) hx hb dM_about_133 (lv_at hl 0 rfl) ?_
  refine lv_if_ne (pc := 135) (tgt := 140) hx hb dM_about_135 rfl (fun h9 => absurd h9 (by decide)) (fun h9 => ?_)
  refine lv_iconst (pc := 138) (v := 0) hx hb dM_about_138 (by decide) ?_
  have hP9 := hP.sub (ws' := [(mo, .inr (4, [.int 1, .int mr, .ref nw, .ref kp, .int 0, .int (-1), .ref mk, .ref co, .int 0, .int 0, .ref se]))]) [0] rfl
  have hD9 := hD.sub (ws' := [(mo, .inr (4, [.int 1, .int mr, .ref nw, .ref kp, .int 0, .int (-1), .ref mk, .ref co, .int 0, .int 0, .ref se]))]) [0] (by decide) rfl
  have hK9 := hK.sub (tys' := []) [] rfl
  exact W.iret (pc := 139) hx hb hr (fun t ht hW => ⟨⟨_, (), rfl, rfl, by rw [ht]; exact hP9, va_K.moved hW.alike hK9, hD9⟩, hS.F ht⟩) hS.2.2 dM_about_139
set_option maxHeartbeats 4000000 in
set_option maxRecDepth 100000 in
theorem m_inBaseline (l : Launch) (dC : Nat → ClassId) (dI : Nat → Nat → Nat) (sz : Nat) (mo : Nat) (nw : Nat) (kp : Nat) (mk : Nat) (co : Nat) (se : Nat) (th : Int32) (mr : Int32) (cN : ClassId) (nn : Int32) (kk : Int32) (ww : Int32) : Met l yM_inBaseline (.code yM_inBaseline cM_inBaseline 9 (some .int) :: aw) ({ frames := 1, cells := 0, slots := 0, locals := 21 }) (pW (dC, dI) sz [(mo, .inr (4, [.int th, .int mr, .ref nw, .ref kp, .int 0, .int (-1), .ref mk, .ref co, .int 0, .int 0, .ref se])), (nw, .inl (cN, 25240, .inl now0))] [(cN, .int)] [.ref mo, .int nn, .int kk, .int ww]) (va_Qi (fun r (_ : Unit) => r = 0) (fun _ t => wW (dC, dI) (va_A [(mo, .inr (4, [.int th, .int mr, .ref nw, .ref kp, .int 0, .int (-1), .ref mk, .ref co, .int 0, .int 0, .ref se])), (nw, .inl (cN, 25240, .inl now0))] sz) [(mo, .inr (4, [.int 1, .int mr, .ref nw, .ref kp, .int 0, .int (-1), .ref mk, .ref co, .int 0, .int 0, .ref se]))] [] t) (va_A [(mo, .inr (4, [.int th, .int mr, .ref nw, .ref kp, .int 0, .int (-1), .ref mk, .ref co, .int 0, .int 0, .ref se])), (nw, .inl (cN, 25240, .inl now0))] sz)) 0 0 (va_A [(mo, .inr (4, [.int th, .int mr, .ref nw, .ref kp, .int 0, .int (-1), .ref mk, .ref co, .int 0, .int 0, .ref se])), (nw, .inl (cN, 25240, .inl now0))] sz) := by
  refine Met.ofW (cc := cM_inBaseline) (maxL := 9) (ret := (some .int)) (by decide) rfl ?_
  intro p e s m args below meth c s₁ B hml hv
  obtain ⟨rfl, hv⟩ := hv
  have hx := B.exec
  have hb := B.bytes
  have hr := B.returns
  have hts : ∀ w ∈ aw, w.before _ s = true := fun w h => atoms_spec (ws := (.code yM_inBaseline cM_inBaseline 9 (some .int) :: aw)) B.pre w (List.mem_cons_of_mem _ h)
  have hown : s.vm.findClass RM = some m.cls := findClass_of_methodNamed B.named
  have hlocks := B.notSynchronized
  obtain ⟨hsz, hP, hK, hD0⟩ := hv
  subst hsz
  have hD := hD0.self (sz := s.heap.size)
  generalize hAe : va_A [(mo, .inr (4, [.int th, .int mr, .ref nw, .ref kp, .int 0, .int (-1), .ref mk, .ref co, .int 0, .int 0, .ref se])), (nw, .inl (cN, 25240, .inl now0))] s.heap.size = A at hD ⊢
  have hA : ∀ q : Nat, s.heap.size ≤ q → A q := fun q h => by rw [← hAe]; exact Or.inr h
  obtain ⟨H, hH⟩ : ∃ H, H = s.heap := ⟨_, rfl⟩
  have hS : va_S A s.heap H [] := by rw [hH]; exact va_S.rf
  rw [← hH] at hP ⊢
  have hP : va_P (dC, dI) kCl [(mo, .inr (4, [.int th, .int mr, .ref nw, .ref kp, .int 0, .int (-1), .ref mk, .ref co, .int 0, .int 0, .ref se])), (nw, .inl (cN, 25240, .inl now0))] H := hP
  have hl := lv_entry ([.ref mo, .int nn, .int kk, .int ww]) (n := 9) (Nat.le_of_ble_eq_true rfl)
  rw [lg_entry_eq]
  generalize (lg_sl ([.ref mo, .int nn, .int kk, .int ww]) ++ List.replicate (9 - (lg_sl ([.ref mo, .int nn, .int kk, .int ww])).length) Slot.unset).toArray = ls at hl ⊢
  have hl : lv_has ls 9 [(0, .ref mo), (1, .int nn), (2, .int kk), (3, .int ww)] := hl
  refine lv_iload_n (pc := 0) hx hb dM_inBaseline_0 rfl (lv_at hl 1 rfl) ?_
  refine lv_if_lt (pc := 1) (tgt := 41) hx hb dM_inBaseline_1 rfl (fun h1 => ?_) (fun h1 => ?_)
  · refine lv_iconst (pc := 41) (v := 0) hx hb dM_inBaseline_41 (by decide) ?_
    refine lv_istore (pc := 42) hx hb dM_inBaseline_42 hl (by decide) rfl (fun ls hl => ?_)
    have hl : lv_has ls 9 [(4, .int 0), (0, .ref mo), (1, .int nn), (2, .int kk), (3, .int ww)] := hl
    refine lv_iload (pc := 44) hx hb dM_inBaseline_44 (lv_at hl 0 rfl) ?_
    refine lv_if_eq (pc := 46) (tgt := 57) hx hb dM_inBaseline_46 rfl (fun h2 => ?_) (fun h2 => absurd h2 (by decide))
    refine lv_sipush (pc := 57) (v := 24980) hx hb dM_inBaseline_57 (by decide) ?_
    refine lv_istore (pc := 60) hx hb dM_inBaseline_60 hl (by decide) rfl (fun ls hl => ?_)
    have hl : lv_has ls 9 [(5, .int 24980), (4, .int 0), (0, .ref mo), (1, .int nn), (2, .int kk), (3, .int ww)] := hl
    refine lv_iload (pc := 62) hx hb dM_inBaseline_62 (lv_at hl 1 rfl) ?_
    refine lv_if_eq (pc := 64) (tgt := 109) hx hb dM_inBaseline_64 rfl (fun h3 => ?_) (fun h3 => absurd h3 (by decide))
    refine lv_iconst (pc := 109) (v := 0) hx hb dM_inBaseline_109 (by decide) ?_
    refine lv_istore (pc := 110) hx hb dM_inBaseline_110 hl (by decide) rfl (fun ls hl => ?_)
    have hl : lv_has ls 9 [(6, .int 0), (5, .int 24980), (4, .int 0), (0, .ref mo), (1, .int nn), (2, .int kk), (3, .int ww)] := hl
    refine lv_aload_n (pc := 112) hx hb dM_inBaseline_112 rfl (lv_at hl 3 rfl) ?_
    refine lv_iload (pc := 113) hx hb dM_inBaseline_113 (lv_at hl 0 rfl) ?_
    refine lv_if_eq (pc := 115) (tgt := 122) hx hb dM_inBaseline_115 rfl (fun h4 => ?_) (fun h4 => absurd h4 (by decide))
    refine lv_iconst (pc := 122) (v := 1) hx hb dM_inBaseline_122 (by decide) ?_
    refine va_put (D := (dC, dI)) (cl := kCl) (ci := 4) (v := .int 1) (ty := .int) (C := RM) (T := TM) (N := 11) (pc := 123) hx hb hts inM tyM tyM_ok nmM hown hK hP hD hS 0 rfl rfl 0 (by decide) (hts _ wd_152) (fun _ h9 => h9) rfl (by decide +kernel) rfl rfl (Nat.le_of_ble_eq_true rfl) dM_inBaseline_123 (fun H locs hP hD hS => ?_)
    have hP : va_P (dC, dI) kCl [(mo, .inr (4, [.int 1, .int mr, .ref nw, .ref kp, .int 0, .int (-1), .ref mk, .ref co, .int 0, .int 0, .ref se])), (nw, .inl (cN, 25240, .inl now0))] H := hP
    have hD : va_D A [(mo, .inr (4, [.int 1, .int mr, .ref nw, .ref kp, .int 0, .int (-1), .ref mk, .ref co, .int 0, .int 0, .ref se])), (nw, .inl (cN, 25240, .inl now0))] := hD
    refine lv_iload (pc := 126) hx hb dM_inBaseline_126 (lv_at hl 0 rfl) ?_
    refine lv_if_ne (pc := 128) (tgt := 133) hx hb dM_inBaseline_128 rfl (fun h5 => absurd h5 (by decide)) (fun h5 => ?_)
    refine lv_iconst (pc := 131) (v := 0) hx hb dM_inBaseline_131 (by decide) ?_
    have hP9 := hP.sub (ws' := [(mo, .inr (4, [.int 1, .int mr, .ref nw, .ref kp, .int 0, .int (-1), .ref mk, .ref co, .int 0, .int 0, .ref se]))]) [0] rfl
    have hD9 := hD.sub (ws' := [(mo, .inr (4, [.int 1, .int mr, .ref nw, .ref kp, .int 0, .int (-1), .ref mk, .ref co, .int 0, .int 0, .ref se]))]) [0] (by decide) rfl
    have hK9 := hK.sub (tys' := []) [] rfl
    exact W.iret (pc := 132) hx hb hr (fun t ht hW => ⟨⟨_, (), rfl, rfl, by rw [ht]; exact hP9, va_K.moved hW.alike hK9, hD9⟩, hS.F ht⟩) hS.2.2 dM_inBaseline_132
  · refine lv_iload_n (pc := 4) hx hb dM_inBaseline_4 rfl (lv_at hl 1 rfl) ?_
    refine lv_bipush (pc := 5) (v := 10) hx hb dM_inBaseline_5 (by decide) ?_
    refine lv_icmp_ge (pc := 7) (tgt := 41) hx hb dM_inBaseline_7 rfl (fun h6 => ?_) (fun h6 => ?_)
    · refine lv_iconst (pc := 41) (v := 0) hx hb dM_inBaseline_41 (by decide) ?_
      refine lv_istore (pc := 42) hx hb dM_inBaseline_42 hl (by decide) rfl (fun ls hl => ?_)
      have hl : lv_has ls 9 [(4, .int 0), (0, .ref mo), (1, .int nn), (2, .int kk), (3, .int ww)] := hl
      refine lv_iload (pc := 44) hx hb dM_inBaseline_44 (lv_at hl 0 rfl) ?_
      refine lv_if_eq (pc := 46) (tgt := 57) hx hb dM_inBaseline_46 rfl (fun h7 => ?_) (fun h7 => absurd h7 (by decide))
      refine lv_sipush (pc := 57) (v := 24980) hx hb dM_inBaseline_57 (by decide) ?_
      refine lv_istore (pc := 60) hx hb dM_inBaseline_60 hl (by decide) rfl (fun ls hl => ?_)
      have hl : lv_has ls 9 [(5, .int 24980), (4, .int 0), (0, .ref mo), (1, .int nn), (2, .int kk), (3, .int ww)] := hl
      refine lv_iload (pc := 62) hx hb dM_inBaseline_62 (lv_at hl 1 rfl) ?_
      refine lv_if_eq (pc := 64) (tgt := 109) hx hb dM_inBaseline_64 rfl (fun h8 => ?_) (fun h8 => absurd h8 (by decide))
      refine lv_iconst (pc := 109) (v := 0) hx hb dM_inBaseline_109 (by decide) ?_
      refine lv_istore (pc := 110) hx hb dM_inBaseline_110 hl (by decide) rfl (fun ls hl => ?_)
      have hl : lv_has ls 9 [(6, .int 0), (5, .int 24980), (4, .int 0), (0, .ref mo), (1, .int nn), (2, .int kk), (3, .int ww)] := hl
      refine lv_aload_n (pc := 112) hx hb dM_inBaseline_112 rfl (lv_at hl 3 rfl) ?_
      refine lv_iload (pc := 113) hx hb dM_inBaseline_113 (lv_at hl 0 rfl) ?_
      refine lv_if_eq (pc := 115) (tgt := 122) hx hb dM_inBaseline_115 rfl (fun h9 => ?_) (fun h9 => absurd h9 (by decide))
      refine lv_iconst (pc := 122) (v := 1) hx hb dM_inBaseline_122 (by decide) ?_
      refine va_put (D := (dC, dI)) (cl := kCl) (ci := 4) (v := .int 1) (ty := .int) (C := RM) (T := TM) (N := 11) (pc := 123) hx hb hts inM tyM tyM_ok nmM hown hK hP hD hS 0 rfl rfl 0 (by decide) (hts _ wd_152) (fun _ h9 => h9) rfl (by decide +kernel) rfl rfl (Nat.le_of_ble_eq_true rfl) dM_inBaseline_123 (fun H locs hP hD hS => ?_)
      have hP : va_P (dC, dI) kCl [(mo, .inr (4, [.int 1, .int mr, .ref nw, .ref kp, .int 0, .int (-1), .ref mk, .ref co, .int 0, .int 0, .ref se])), (nw, .inl (cN, 25240, .inl now0))] H := hP
      have hD : va_D A [(mo, .inr (4, [.int 1, .int mr, .ref nw, .ref kp, .int 0, .int (-1), .ref mk, .ref co, .int 0, .int 0, .ref se])), (nw, .inl (cN, 25240, .inl now0))] := hD
      refine lv_iload (pc := 126) hx hb dM_inBaseline_126 (lv_at hl 0 rfl) ?_
      refine lv_if_ne (pc := 128) (tgt := 133) hx hb dM_inBaseline_128 rfl (fun h10 => absurd h10 (by decide)) (fun h10 => ?_)
      refine lv_iconst (pc := 131) (v := 0) hx hb dM_inBaseline_131 (by decide) ?_
      have hP9 := hP.sub (ws' := [(mo, .inr (4, [.int 1, .int mr, .ref nw, .ref kp, .int 0, .int (-1), .ref mk, .ref co, .int 0, .int 0, .ref se]))]) [0] rfl
      have hD9 := hD.sub (ws' := [(mo, .inr (4, [.int 1, .int mr, .ref nw, .ref kp, .int 0, .int (-1), .ref mk, .ref co, .int 0, .int 0, .ref se]))]) [0] (by decide) rfl
      have hK9 := hK.sub (tys' := []) [] rfl
      exact W.iret (pc := 132) hx hb hr (fun t ht hW => ⟨⟨_, (), rfl, rfl, by rw [ht]; exact hP9, va_K.moved hW.alike hK9, hD9⟩, hS.F ht⟩) hS.2.2 dM_inBaseline_132
    · refine lv_aload_n (pc := 10) hx hb dM_inBaseline_10 rfl (lv_at hl 0 rfl) ?_
      refine va_get (D := (dC, dI)) (cl := kCl) (C := RM) (T := TM) (N := 11) (pc := 11) hx hb hts inM hown hK hP 0 rfl rfl 2 (by decide) (hts _ wd_158) (fun _ h9 => h9) rfl dM_inBaseline_11 ?_
      refine lv_aload_n (pc := 14) hx hb dM_inBaseline_14 rfl (lv_at hl 0 rfl) ?_
      refine lv_iload_n (pc := 15) hx hb dM_inBaseline_15 rfl (lv_at hl 1 rfl) ?_
      refine lv_if_lt (pc := 16) (tgt := 29) hx hb dM_inBaseline_16 rfl (fun h11 => ?_) (fun h11 => ?_)
      · refine lv_iconst (pc := 29) (v := 0) hx hb dM_inBaseline_29 (by decide) ?_
        refine vp_callSi (pc := 30) (W.runV (As := [.int 0]) (rest := [.ref nw]) ⟨hx, hb, hml, hown, hts⟩ (m_baselineAt l dC dI mo nw kp mk co se th mr 0) (cwV 1 hts (gV wd_197 wd_198 wd_199 wd_157 wd_196) rfl rfl rfl (by decide +kernel) ⟨Nat.le_of_ble_eq_true rfl, Nat.le_of_ble_eq_true rfl⟩) ⟨pR_blind, va_recv (q := (RM, TM, 11)) (q0 := 0) (ci := 4) hK hP rfl rfl, pR_pre (hP.sub (ws' := [(mo, .inr (4, [.int th, .int mr, .ref nw, .ref kp, .int 0, .int (-1), .ref mk, .ref co, .int 0, .int 0, .ref se]))]) [0] rfl) (hK.sub (tys' := []) [] rfl)⟩ rfl rfl hl.1 rfl (lv_room (Nat.le_of_ble_eq_true rfl)) dM_inBaseline_30 ⟨Nat.le_of_ble_eq_true rfl, Nat.le_of_ble_eq_true rfl⟩) (fun r12 hr13 => ?_)
        obtain rfl : r12 = 24980 := Eq.trans (hr13) (by decide)
        refine va_iald (D := (dC, dI)) (cl := kCl) (pc := 33) hx hb hK hP 1 0 rfl rfl (vp_in_lit 24980 25240 (by decide)) dM_inBaseline_33 ?_
        refine W.eq (g2 := F0 m 34 ls [.int 0]) rfl ?_
        refine lv_if_le (pc := 34) (tgt := 41) hx hb dM_inBaseline_34 rfl (fun h14 => ?_) (fun h14 => absurd h14 (by decide))
        refine lv_iconst (pc := 41) (v := 0) hx hb dM_inBaseline_41 (by decide) ?_
        refine lv_istore (pc := 42) hx hb dM_inBaseline_42 hl (by decide) rfl (fun ls hl => ?_)
        have hl : lv_has ls 9 [(4, .int 0), (0, .ref mo), (1, .int nn), (2, .int kk), (3, .int ww)] := hl
        refine lv_iload (pc := 44) hx hb dM_inBaseline_44 (lv_at hl 0 rfl) ?_
        refine lv_if_eq (pc := 46) (tgt := 57) hx hb dM_inBaseline_46 rfl (fun h15 => ?_) (fun h15 => absurd h15 (by decide))
        refine lv_sipush (pc := 57) (v := 24980) hx hb dM_inBaseline_57 (by decide) ?_
        refine lv_istore (pc := 60) hx hb dM_inBaseline_60 hl (by decide) rfl (fun ls hl => ?_)
        have hl : lv_has ls 9 [(5, .int 24980), (4, .int 0), (0, .ref mo), (1, .int nn), (2, .int kk), (3, .int ww)] := hl
        refine lv_iload (pc := 62) hx hb dM_inBaseline_62 (lv_at hl 1 rfl) ?_
        refine lv_if_eq (pc := 64) (tgt := 109) hx hb dM_inBaseline_64 rfl (fun h16 => ?_) (fun h16 => absurd h16 (by decide))
        refine lv_iconst (pc := 109) (v := 0) hx hb dM_inBaseline_109 (by decide) ?_
        refine lv_istore (pc := 110) hx hb dM_inBaseline_110 hl (by decide) rfl (fun ls hl => ?_)
        have hl : lv_has ls 9 [(6, .int 0), (5, .int 24980), (4, .int 0), (0, .ref mo), (1, .int nn), (2, .int kk), (3, .int ww)] := hl
        refine lv_aload_n (pc := 112) hx hb dM_inBaseline_112 rfl (lv_at hl 3 rfl) ?_
        refine lv_iload (pc := 113) hx hb dM_inBaseline_113 (lv_at hl 0 rfl) ?_
        refine lv_if_eq (pc := 115) (tgt := 122) hx hb dM_inBaseline_115 rfl (fun h17 => ?_) (fun h17 => absurd h17 (by decide))
        refine lv_iconst (pc := 122) (v := 1) hx hb dM_inBaseline_122 (by decide) ?_
        refine va_put (D := (dC, dI)) (cl := kCl) (ci := 4) (v := .int 1) (ty := .int) (C := RM) (T := TM) (N := 11) (pc := 123) hx hb hts inM tyM tyM_ok nmM hown hK hP hD hS 0 rfl rfl 0 (by decide) (hts _ wd_152) (fun _ h9 => h9) rfl (by decide +kernel) rfl rfl (Nat.le_of_ble_eq_true rfl) dM_inBaseline_123 (fun H locs hP hD hS => ?_)
        have hP : va_P (dC, dI) kCl [(mo, .inr (4, [.int 1, .int mr, .ref nw, .ref kp, .int 0, .int (-1), .ref mk, .ref co, .int 0, .int 0, .ref se])), (nw, .inl (cN, 25240, .inl now0))] H := hP
        have hD : va_D A [(mo, .inr (4, [.int 1, .int mr, .ref nw, .ref kp, .int 0, .int (-1), .ref mk, .ref co, .int 0, .int 0, .ref se])), (nw, .inl (cN, 25240, .inl now0))] := hD
        refine lv_iload (pc := 126) hx hb dM_inBaseline_126 (lv_at hl 0 rfl) ?_
        refine lv_if_ne (pc := 128) (tgt := 133) hx hb dM_inBaseline_128 rfl (fun h18 => absurd h18 (by decide)) (fun h18 => ?_)
        refine lv_iconst (pc := 131) (v := 0) hx hb dM_inBaseline_131 (by decide) ?_
        have hP9 := hP.sub (ws' := [(mo, .inr (4, [.int 1, .int mr, .ref nw, .ref kp, .int 0, .int (-1), .ref mk, .ref co, .int 0, .int 0, .ref se]))]) [0] rfl
        have hD9 := hD.sub (ws' := [(mo, .inr (4, [.int 1, .int mr, .ref nw, .ref kp, .int 0, .int (-1), .ref mk, .ref co, .int 0, .int 0, .ref se]))]) [0] (by decide) rfl
        have hK9 := hK.sub (tys' := []) [] rfl
        exact W.iret (pc := 132) hx hb hr (fun t ht hW => ⟨⟨_, (), rfl, rfl, by rw [ht]; exact hP9, va_K.moved hW.alike hK9, hD9⟩, hS.F ht⟩) hS.2.2 dM_inBaseline_132
      · refine lv_iload_n (pc := 19) hx hb dM_inBaseline_19 rfl (lv_at hl 1 rfl) ?_
        refine lv_bipush (pc := 20) (v := 10) hx hb dM_inBaseline_20 (by decide) ?_
        refine lv_icmp_ge (pc := 22) (tgt := 29) hx hb dM_inBaseline_22 rfl (fun h19 => ?_) (fun h19 => ?_)
        · refine lv_iconst (pc := 29) (v := 0) hx hb dM_inBaseline_29 (by decide) ?_
          refine vp_callSi (pc := 30) (W.runV (As := [.int 0]) (rest := [.ref nw]) ⟨hx, hb, hml, hown, hts⟩ (m_baselineAt l dC dI mo nw kp mk co se th mr 0) (cwV 1 hts (gV wd_197 wd_198 wd_199 wd_157 wd_196) rfl rfl rfl (by decide +kernel) ⟨Nat.le_of_ble_eq_true rfl, Nat.le_of_ble_eq_true rfl⟩) ⟨pR_blind, va_recv (q := (RM, TM, 11)) (q0 := 0) (ci := 4) hK hP rfl rfl, pR_pre (hP.sub (ws' := [(mo, .inr (4, [.int th, .int mr, .ref nw, .ref kp, .int 0, .int (-1), .ref mk, .ref co, .int 0, .int 0, .ref se]))]) [0] rfl) (hK.sub (tys' := []) [] rfl)⟩ rfl rfl hl.1 rfl (lv_room (Nat.le_of_ble_eq_true rfl)) dM_inBaseline_30 ⟨Nat.le_of_ble_eq_true rfl, Nat.le_of_ble_eq_true rfl⟩) (fun r20 hr21 => ?_)
          obtain rfl : r20 = 24980 := Eq.trans (hr21) (by decide)
          refine va_iald (D := (dC, dI)) (cl := kCl) (pc := 33) hx hb hK hP 1 0 rfl rfl (vp_in_lit 24980 25240 (by decide)) dM_inBaseline_33 ?_
          refine W.eq (g2 := F0 m 34 ls [.int 0]) rfl ?_
          refine lv_if_le (pc := 34) (tgt := 41) hx hb dM_inBaseline_34 rfl (fun h22 => ?_) (fun h22 => absurd h22 (by decide))
          refine lv_iconst (pc := 41) (v := 0) hx hb dM_inBaseline_41 (by decide) ?_
          refine lv_istore (pc := 42) hx hb dM_inBaseline_42 hl (by decide) rfl (fun ls hl => ?_)
          have hl : lv_has ls 9 [(4, .int 0), (0, .ref mo), (1, .int nn), (2, .int kk), (3, .int ww)] := hl
          refine lv_iload (pc := 44) hx hb dM_inBaseline_44 (lv_at hl 0 rfl) ?_
          refine lv_if_eq (pc := 46) (tgt := 57) hx hb dM_inBaseline_46 rfl (fun h23 => ?_) (fun h23 => absurd h23 (by decide))
          refine lv_sipush (pc := 57) (v := 24980) hx hb dM_inBaseline_57 (by decide) ?_
          refine lv_istore (pc := 60) hx hb dM_inBaseline_60 hl (by decide) rfl (fun ls hl => ?_)
          have hl : lv_has ls 9 [(5, .int 24980), (4, .int 0), (0, .ref mo), (1, .int nn), (2, .int kk), (3, .int ww)] := hl
          refine lv_iload (pc := 62) hx hb dM_inBaseline_62 (lv_at hl 1 rfl) ?_
          refine lv_if_eq (pc := 64) (tgt := 109) hx hb dM_inBaseline_64 rfl (fun h24 => ?_) (fun h24 => absurd h24 (by decide))
          refine lv_iconst (pc := 109) (v := 0) hx hb dM_inBaseline_109 (by decide) ?_
          refine lv_istore (pc := 110) hx hb dM_inBaseline_110 hl (by decide) rfl (fun ls hl => ?_)
          have hl : lv_has ls 9 [(6, .int 0), (5, .int 24980), (4, .int 0), (0, .ref mo), (1, .int nn), (2, .int kk), (3, .int ww)] := hl
          refine lv_aload_n (pc := 112) hx hb dM_inBaseline_112 rfl (lv_at hl 3 rfl) ?_
          refine lv_iload (pc := 113) hx hb dM_inBaseline_113 (lv_at hl 0 rfl) ?_
          refine lv_if_eq (pc := 115) (tgt := 122) hx hb dM_inBaseline_115 rfl (fun h25 => ?_) (fun h25 => absurd h25 (by decide))
          refine lv_iconst (pc := 122) (v := 1) hx hb dM_inBaseline_122 (by decide) ?_
          refine va_put (D := (dC, dI)) (cl := kCl) (ci := 4) (v := .int 1) (ty := .int) (C := RM) (T := TM) (N := 11) (pc := 123) hx hb hts inM tyM tyM_ok nmM hown hK hP hD hS 0 rfl rfl 0 (by decide) (hts _ wd_152) (fun _ h9 => h9) rfl (by decide +kernel) rfl rfl (Nat.le_of_ble_eq_true rfl) dM_inBaseline_123 (fun H locs hP hD hS => ?_)
          have hP : va_P (dC, dI) kCl [(mo, .inr (4, [.int 1, .int mr, .ref nw, .ref kp, .int 0, .int (-1), .ref mk, .ref co, .int 0, .int 0, .ref se])), (nw, .inl (cN, 25240, .inl now0))] H := hP
          have hD : va_D A [(mo, .inr (4, [.int 1, .int mr, .ref nw, .ref kp, .int 0, .int (-1), .ref mk, .ref co, .int 0, .int 0, .ref se])), (nw, .inl (cN, 25240, .inl now0))] := hD
          refine lv_iload (pc := 126) hx hb dM_inBaseline_126 (lv_at hl 0 rfl) ?_
          refine lv_if_ne (pc := 128) (tgt := 133) hx hb dM_inBaseline_128 rfl (fun h26 => absurd h26 (by decide)) (fun h26 => ?_)
          refine lv_iconst (pc := 131) (v := 0) hx hb dM_inBaseline_131 (by decide) ?_
          have hP9 := hP.sub (ws' := [(mo, .inr (4, [.int 1, .int mr, .ref nw, .ref kp, .int 0, .int (-1), .ref mk, .ref co, .int 0, .int 0, .ref se]))]) [0] rfl
          have hD9 := hD.sub (ws' := [(mo, .inr (4, [.int 1, .int mr, .ref nw, .ref kp, .int 0, .int (-1), .ref mk, .ref co, .int 0, .int 0, .ref se]))]) [0] (by decide) rfl
          have hK9 := hK.sub (tys' := []) [] rfl
          exact W.iret (pc := 132) hx hb hr (fun t ht hW => ⟨⟨_, (), rfl, rfl, by rw [ht]; exact hP9, va_K.moved hW.alike hK9, hD9⟩, hS.F ht⟩) hS.2.2 dM_inBaseline_132
        · refine lv_iload_n (pc := 25) hx hb dM_inBaseline_25 rfl (lv_at hl 1 rfl) ?_
          refine lv_goto (pc := 26) (tgt := 30) hx hb dM_inBaseline_26 rfl ?_
          refine vp_callSi (pc := 30) (W.runV (As := [.int nn]) (rest := [.ref nw]) ⟨hx, hb, hml, hown, hts⟩ (m_baselineAt l dC dI mo nw kp mk co se th mr nn) (cwV 1 hts (gV wd_197 wd_198 wd_199 wd_157 wd_196) rfl rfl rfl (by decide +kernel) ⟨Nat.le_of_ble_eq_true rfl, Nat.le_of_ble_eq_true rfl⟩) ⟨pR_blind, va_recv (q := (RM, TM, 11)) (q0 := 0) (ci := 4) hK hP rfl rfl, pR_pre (hP.sub (ws' := [(mo, .inr (4, [.int th, .int mr, .ref nw, .ref kp, .int 0, .int (-1), .ref mk, .ref co, .int 0, .int 0, .ref se]))]) [0] rfl) (hK.sub (tys' := []) [] rfl)⟩ rfl rfl hl.1 rfl (lv_room (Nat.le_of_ble_eq_true rfl)) dM_inBaseline_30 ⟨Nat.le_of_ble_eq_true rfl, Nat.le_of_ble_eq_true rfl⟩) (fun r27 hr28 => ?_)
          obtain rfl : r27 = (24980 + 26 * nn) := hr28
          refine va_iald (D := (dC, dI)) (cl := kCl) (pc := 33) hx hb hK hP 1 0 rfl rfl ((bl_ix h1 h6).1) dM_inBaseline_33 ?_
          refine W.eq (g2 := F0 m 34 ls [.int (now0 ((24980 + 26 * nn) : Int32).toNatClampNeg)]) rfl ?_
          refine lv_topi (fun z29 hz30 => ?_)
          obtain rfl : z29 = 0 := hz30.trans ((bl_ix h1 h6).2)
          refine lv_if_le (pc := 34) (tgt := 41) hx hb dM_inBaseline_34 rfl (fun h31 => ?_) (fun h31 => absurd h31 (by decide))
          refine lv_iconst (pc := 41) (v := 0) hx hb dM_inBaseline_41 (by decide) ?_
          refine lv_istore (pc := 42) hx hb dM_inBaseline_42 hl (by decide) rfl (fun ls hl => ?_)
          have hl : lv_has ls 9 [(4, .int 0), (0, .ref mo), (1, .int nn), (2, .int kk), (3, .int ww)] := hl
          refine lv_iload (pc := 44) hx hb dM_inBaseline_44 (lv_at hl 0 rfl) ?_
          refine lv_if_eq (pc := 46) (tgt := 57) hx hb dM_inBaseline_46 rfl (fun h32 => ?_) (fun h32 => absurd h32 (by decide))
          refine lv_sipush (pc := 57) (v := 24980) hx hb dM_inBaseline_57 (by decide) ?_
          refine lv_istore (pc := 60) hx hb dM_inBaseline_60 hl (by decide) rfl (fun ls hl => ?_)
          have hl : lv_has ls 9 [(5, .int 24980), (4, .int 0), (0, .ref mo), (1, .int nn), (2, .int kk), (3, .int ww)] := hl
          refine lv_iload (pc := 62) hx hb dM_inBaseline_62 (lv_at hl 1 rfl) ?_
          refine lv_if_eq (pc := 64) (tgt := 109) hx hb dM_inBaseline_64 rfl (fun h33 => ?_) (fun h33 => absurd h33 (by decide))
          refine lv_iconst (pc := 109) (v := 0) hx hb dM_inBaseline_109 (by decide) ?_
          refine lv_istore (pc := 110) hx hb dM_inBaseline_110 hl (by decide) rfl (fun ls hl => ?_)
          have hl : lv_has ls 9 [(6, .int 0), (5, .int 24980), (4, .int 0), (0, .ref mo), (1, .int nn), (2, .int kk), (3, .int ww)] := hl
          refine lv_aload_n (pc := 112) hx hb dM_inBaseline_112 rfl (lv_at hl 3 rfl) ?_
          refine lv_iload (pc := 113) hx hb dM_inBaseline_113 (lv_at hl 0 rfl) ?_
          refine lv_if_eq (pc := 115) (tgt := 122) hx hb dM_inBaseline_115 rfl (fun h34 => ?_) (fun h34 => absurd h34 (by decide))
          refine lv_iconst (pc := 122) (v := 1) hx hb dM_inBaseline_122 (by decide) ?_
          refine va_put (D := (dC, dI)) (cl := kCl) (ci := 4) (v := .int 1) (ty := .int) (C := RM) (T := TM) (N := 11) (pc := 123) hx hb hts inM tyM tyM_ok nmM hown hK hP hD hS 0 rfl rfl 0 (by decide) (hts _ wd_152) (fun _ h9 => h9) rfl (by decide +kernel) rfl rfl (Nat.le_of_ble_eq_true rfl) dM_inBaseline_123 (fun H locs hP hD hS => ?_)
          have hP : va_P (dC, dI) kCl [(mo, .inr (4, [.int 1, .int mr, .ref nw, .ref kp, .int 0, .int (-1), .ref mk, .ref co, .int 0, .int 0, .ref se])), (nw, .inl (cN, 25240, .inl now0))] H := hP
          have hD : va_D A [(mo, .inr (4, [.int 1, .int mr, .ref nw, .ref kp, .int 0, .int (-1), .ref mk, .ref co, .int 0, .int 0, .ref se])), (nw, .inl (cN, 25240, .inl now0))] := hD
          refine lv_iload (pc := 126) hx hb dM_inBaseline_126 (lv_at hl 0 rfl) ?_
          refine lv_if_ne (pc := 128) (tgt := 133) hx hb dM_inBaseline_128 rfl (fun h35 => absurd h35 (by decide)) (fun h35 => ?_)
          refine lv_iconst (pc := 131) (v := 0) hx hb dM_inBaseline_131 (by decide) ?_
          have hP9 := hP.sub (ws' := [(mo, .inr (4, [.int 1, .int mr, .ref nw, .ref kp, .int 0, .int (-1), .ref mk, .ref co, .int 0, .int 0, .ref se]))]) [0] rfl
          have hD9 := hD.sub (ws' := [(mo, .inr (4, [.int 1, .int mr, .ref nw, .ref kp, .int 0, .int (-1), .ref mk, .ref co, .int 0, .int 0, .ref se]))]) [0] (by decide) rfl
          have hK9 := hK.sub (tys' := []) [] rfl
          exact W.iret (pc := 132) hx hb hr (fun t ht hW => ⟨⟨_, (), rfl, rfl, by rw [ht]; exact hP9, va_K.moved hW.alike hK9, hD9⟩, hS.F ht⟩) hS.2.2 dM_inBaseline_132
set_option maxHeartbeats 4000000 in
set_option maxRecDepth 100000 in
theorem m_difference (l : Launch) (dC : Nat → ClassId) (dI : Nat → Nat → Nat) (sz : Nat) (mo : Nat) (nw : Nat) (kp : Nat) (mk : Nat) (co : Nat) (se : Nat) (th : Int32) (mr : Int32) (cN : ClassId) (dd : Int32) (vv : Int32) (ov : Int32) (kk : Int32) : Met l yM_difference (.code yM_difference cM_difference 12 (some .int) :: aw) ({ frames := 2, cells := 0, slots := 0, locals := 43 }) (pW (dC, dI) sz [(mo, .inr (4, [.int th, .int mr, .ref nw, .ref kp, .int 0, .int (-1), .ref mk, .ref co, .int 0, .int 0, .ref se])), (nw, .inl (cN, 25240, .inl now0))] [(cN, .int)] [.ref mo, .int dd, .int vv, .int ov, .int kk]) (va_Qi (fun r (_ : Unit) => r = 0) (fun _ t => wW (dC, dI) (va_A [(mo, .inr (4, [.int th, .int mr, .ref nw, .ref kp, .int 0, .int (-1), .ref mk, .ref co, .int 0, .int 0, .ref se])), (nw, .inl (cN, 25240, .inl now0))] sz) [(mo, .inr (4, [.int 1, .int mr, .ref nw, .ref kp, .int 0, .int (-1), .ref mk, .ref co, .int 0, .int 0, .ref se]))] [] t) (va_A [(mo, .inr (4, [.int th, .int mr, .ref nw, .ref kp, .int 0, .int (-1), .ref mk, .ref co, .int 0, .int 0, .ref se])), (nw, .inl (cN, 25240, .inl now0))] sz)) 0 0 (va_A [(mo, .inr (4, [.int th, .int mr, .ref nw, .ref kp, .int 0, .int (-1), .ref mk, .ref co, .int 0, .int 0, .ref se])), (nw, .inl (cN, 25240, .inl now0))] sz) := by
  refine Met.ofW (cc := cM_difference) (maxL := 12) (ret := (some .int)) (by decide) rfl ?_
  intro p e s m args below meth c s₁ B hml hv
  obtain ⟨rfl, hv⟩ := hv
  have hx := B.exec
  have hb := B.bytes
  have hr := B.returns
  have hts : ∀ w ∈ aw, w.before _ s = true := fun w h => atoms_spec (ws := (.code yM_difference cM_difference 12 (some .int) :: aw)) B.pre w (List.mem_cons_of_mem _ h)
  have hown : s.vm.findClass RM = some m.cls := findClass_of_methodNamed B.named
  have hlocks := B.notSynchronized
  obtain ⟨hsz, hP, hK, hD0⟩ := hv
  subst hsz
  have hD := hD0.self (sz := s.heap.size)
  generalize hAe : va_A [(mo, .inr (4, [.int th, .int mr, .ref nw, .ref kp, .int 0, .int (-1), .ref mk, .ref co, .int 0, .int 0, .ref se])), (nw, .inl (cN, 25240, .inl now0))] s.heap.size = A at hD ⊢
  have hA : ∀ q : Nat, s.heap.size ≤ q → A q := fun q h => by rw [← hAe]; exact Or.inr h
  obtain ⟨H, hH⟩ : ∃ H, H = s.heap := ⟨_, rfl⟩
  have hS : va_S A s.heap H [] := by rw [hH]; exact va_S.rf
  rw [← hH] at hP ⊢
  have hP : va_P (dC, dI) kCl [(mo, .inr (4, [.int th, .int mr, .ref nw, .ref kp, .int 0, .int (-1), .ref mk, .ref co, .int 0, .int 0, .ref se])), (nw, .inl (cN, 25240, .inl now0))] H := hP
  have hl := lv_entry ([.ref mo, .int dd, .int vv, .int ov, .int kk]) (n := 12) (Nat.le_of_ble_eq_true rfl)
  rw [lg_entry_eq]
  generalize (lg_sl ([.ref mo, .int dd, .int vv, .int ov, .int kk]) ++ List.replicate (12 - (lg_sl ([.ref mo, .int dd, .int vv, .int ov, .int kk])).length) Slot.unset).toArray = ls at hl ⊢
  have hl : lv_has ls 12 [(0, .ref mo), (1, .int dd), (2, .int vv), (3, .int ov), (4, .int kk)] := hl
  refine lv_aload_n (pc := 0) hx hb dM_difference_0 rfl (lv_at hl 0 rfl) ?_
  refine lv_iload_n (pc := 1) hx hb dM_difference_1 rfl (lv_at hl 1 rfl) ?_
  refine lv_iload_n (pc := 2) hx hb dM_difference_2 rfl (lv_at hl 2 rfl) ?_
  refine vp_callSi (pc := 3) (W.runV (As := [.int dd, .int vv]) (rest := []) ⟨hx, hb, hml, hown, hts⟩ (m_isRevision l dC dI mo nw kp mk co se th mr cN dd vv) (cwV 2 hts (gV wd_173 wd_174 wd_175 wd_157 wd_172) rfl rfl rfl (by decide +kernel) ⟨Nat.le_of_ble_eq_true rfl, Nat.le_of_ble_eq_true rfl⟩) ⟨pR_blind, va_recv (q := (RM, TM, 11)) (q0 := 0) (ci := 4) hK hP rfl rfl, pR_pre (hP.sub (ws' := [(mo, .inr (4, [.int th, .int mr, .ref nw, .ref kp, .int 0, .int (-1), .ref mk, .ref co, .int 0, .int 0, .ref se])), (nw, .inl (cN, 25240, .inl now0))]) [0, 1] rfl) (hK.sub (tys' := [(cN, .int)]) [0] rfl)⟩ rfl rfl hl.1 rfl (lv_room (Nat.le_of_ble_eq_true rfl)) dM_difference_3 ⟨Nat.le_of_ble_eq_true rfl, Nat.le_of_ble_eq_true rfl⟩) (fun r1 hr2 => ?_)
  obtain rfl : r1 = 0 := hr2
  refine lv_if_eq (pc := 6) (tgt := 22) hx hb dM_difference_6 rfl (fun h3 => ?_) (fun h3 => absurd h3 (by decide))
  refine lv_iconst (pc := 22) (v := 0) hx hb dM_difference_22 (by decide) ?_
  refine lv_istore (pc := 23) hx hb dM_difference_23 hl (by decide) rfl (fun ls hl => ?_)
  have hl : lv_has ls 12 [(5, .int 0), (0, .ref mo), (1, .int dd), (2, .int vv), (3, .int ov), (4, .int kk)] := hl
  refine lv_aload_n (pc := 25) hx hb dM_difference_25 rfl (lv_at hl 1 rfl) ?_
  refine lv_iload (pc := 26) hx hb dM_difference_26 (lv_at hl 0 rfl) ?_
  refine lv_if_eq (pc := 28) (tgt := 35) hx hb dM_difference_28 rfl (fun h4 => ?_) (fun h4 => absurd h4 (by decide))
  refine lv_iconst (pc := 35) (v := 1) hx hb dM_difference_35 (by decide) ?_
  refine va_put (D := (dC, dI)) (cl := kCl) (ci := 4) (v := .int 1) (ty := .int) (C := RM) (T := TM) (N := 11) (pc := 36) hx hb hts inM tyM tyM_ok nmM hown hK hP hD hS 0 rfl rfl 0 (by decide) (hts _ wd_152) (fun _ h9 => h9) rfl (by decide +kernel) rfl rfl (Nat.le_of_ble_eq_true rfl) dM_difference_36 (fun H locs hP hD hS => ?_)
  have hP : va_P (dC, dI) kCl [(mo, .inr (4, [.int 1, .int mr, .ref nw, .ref kp, .int 0, .int (-1), .ref mk, .ref co, .int 0, .int 0, .ref se])), (nw, .inl (cN, 25240, .inl now0))] H := hP
  have hD : va_D A [(mo, .inr (4, [.int 1, .int mr, .ref nw, .ref kp, .int 0, .int (-1), .ref mk, .ref co, .int 0, .int 0, .ref se])), (nw, .inl (cN, 25240, .inl now0))] := hD
  refine lv_iload (pc := 39) hx hb dM_difference_39 (lv_at hl 0 rfl) ?_
  refine lv_if_ne (pc := 41) (tgt := 46) hx hb dM_difference_41 rfl (fun h5 => absurd h5 (by decide)) (fun h5 => ?_)
  refine lv_iconst (pc := 44) (v := 0) hx hb dM_difference_44 (by decide) ?_
  have hP9 := hP.sub (ws' := [(mo, .inr (4, [.int 1, .int mr, .ref nw, .ref kp, .int 0, .int (-1), .ref mk, .ref co, .int 0, .int 0, .ref se]))]) [0] rfl
  have hD9 := hD.sub (ws' := [(mo, .inr (4, [.int 1, .int mr, .ref nw, .ref kp, .int 0, .int (-1), .ref mk, .ref co, .int 0, .int 0, .ref se]))]) [0] (by decide) rfl
  have hK9 := hK.sub (tys' := []) [] rfl
  exact W.iret (pc := 45) hx hb hr (fun t ht hW => ⟨⟨_, (), rfl, rfl, by rw [ht]; exact hP9, va_K.moved hW.alike hK9, hD9⟩, hS.F ht⟩) hS.2.2 dM_difference_45
set_option maxHeartbeats 4000000 in
set_option maxRecDepth 100000 in
theorem m_user (l : Launch) (dC : Nat → ClassId) (dI : Nat → Nat → Nat) (sz : Nat) (mo : Nat) (nw : Nat) (kp : Nat) (mk : Nat) (co : Nat) (se : Nat) (th : Int32) (mr : Int32) (cN : ClassId) (dd : Int32) (al : Int32) (kk : Int32) : Met l yM_user (.code yM_user cM_user 9 (some .int) :: aw) ({ frames := 1, cells := 0, slots := 0, locals := 21 }) (pW (dC, dI) sz [(mo, .inr (4, [.int th, .int mr, .ref nw, .ref kp, .int 0, .int (-1), .ref mk, .ref co, .int 0, .int 0, .ref se])), (nw, .inl (cN, 25240, .inl now0))] [(cN, .int)] [.ref mo, .int dd, .int al, .int kk]) (va_Qi (fun r (_ : Unit) => r = (-1)) (fun _ t => wW (dC, dI) (va_A [(mo, .inr (4, [.int th, .int mr, .ref nw, .ref kp, .int 0, .int (-1), .ref mk, .ref co, .int 0, .int 0, .ref se])), (nw, .inl (cN, 25240, .inl now0))] sz) [(mo, .inr (4, [.int 0, .int mr, .ref nw, .ref kp, .int 0, .int (-1), .ref mk, .ref co, .int 0, .int 0, .ref se]))] [] t) (va_A [(mo, .inr (4, [.int th, .int mr, .ref nw, .ref kp, .int 0, .int (-1), .ref mk, .ref co, .int 0, .int 0, .ref se])), (nw, .inl (cN, 25240, .inl now0))] sz)) 0 0 (va_A [(mo, .inr (4, [.int th, .int mr, .ref nw, .ref kp, .int 0, .int (-1), .ref mk, .ref co, .int 0, .int 0, .ref se])), (nw, .inl (cN, 25240, .inl now0))] sz) := by
  refine Met.ofW (cc := cM_user) (maxL := 9) (ret := (some .int)) (by decide) rfl ?_
  intro p e s m args below meth c s₁ B hml hv
  obtain ⟨rfl, hv⟩ := hv
  have hx := B.exec
  have hb := B.bytes
  have hr := B.returns
  have hts : ∀ w ∈ aw, w.before _ s = true := fun w h => atoms_spec (ws := (.code yM_user cM_user 9 (some .int) :: aw)) B.pre w (List.mem_cons_of_mem _ h)
  have hown : s.vm.findClass RM = some m.cls := findClass_of_methodNamed B.named
  have hlocks := B.notSynchronized
  obtain ⟨hsz, hP, hK, hD0⟩ := hv
  subst hsz
  have hD := hD0.self (sz := s.heap.size)
  generalize hAe : va_A [(mo, .inr (4, [.int th, .int mr, .ref nw, .ref kp, .int 0, .int (-1), .ref mk, .ref co, .int 0, .int 0, .ref se])), (nw, .inl (cN, 25240, .inl now0))] s.heap.size = A at hD ⊢
  have hA : ∀ q : Nat, s.heap.size ≤ q → A q := fun q h => by rw [← hAe]; exact Or.inr h
  obtain ⟨H, hH⟩ : ∃ H, H = s.heap := ⟨_, rfl⟩
  have hS : va_S A s.heap H [] := by rw [hH]; exact va_S.rf
  rw [← hH] at hP ⊢
  have hP : va_P (dC, dI) kCl [(mo, .inr (4, [.int th, .int mr, .ref nw, .ref kp, .int 0, .int (-1), .ref mk, .ref co, .int 0, .int 0, .ref se])), (nw, .inl (cN, 25240, .inl now0))] H := hP
  have hl := lv_entry ([.ref mo, .int dd, .int al, .int kk]) (n := 9) (Nat.le_of_ble_eq_true rfl)
  rw [lg_entry_eq]
  generalize (lg_sl ([.ref mo, .int dd, .int al, .int kk]) ++ List.replicate (9 - (lg_sl ([.ref mo, .int dd, .int al, .int kk])).length) Slot.unset).toArray = ls at hl ⊢
  have hl : lv_has ls 9 [(0, .ref mo), (1, .int dd), (2, .int al), (3, .int kk)] := hl
  refine lv_aload_n (pc := 0) hx hb dM_user_0 rfl (lv_at hl 0 rfl) ?_
  refine lv_iconst (pc := 1) (v := 0) hx hb dM_user_1 (by decide) ?_
  refine va_put (D := (dC, dI)) (cl := kCl) (ci := 4) (v := .int 0) (ty := .int) (C := RM) (T := TM) (N := 11) (pc := 2) hx hb hts inM tyM tyM_ok nmM hown hK hP hD hS 0 rfl rfl 0 (by decide) (hts _ wd_152) (fun _ h9 => h9) rfl (by decide +kernel) rfl rfl (Nat.le_of_ble_eq_true rfl) dM_user_2 (fun H locs hP hD hS => ?_)
  have hP : va_P (dC, dI) kCl [(mo, .inr (4, [.int 0, .int mr, .ref nw, .ref kp, .int 0, .int (-1), .ref mk, .ref co, .int 0, .int 0, .ref se])), (nw, .inl (cN, 25240, .inl now0))] H := hP
  have hD : va_D A [(mo, .inr (4, [.int 0, .int mr, .ref nw, .ref kp, .int 0, .int (-1), .ref mk, .ref co, .int 0, .int 0, .ref se])), (nw, .inl (cN, 25240, .inl now0))] := hD
  refine lv_aload_n (pc := 5) hx hb dM_user_5 rfl (lv_at hl 0 rfl) ?_
  refine lv_iload_n (pc := 6) hx hb dM_user_6 rfl (lv_at hl 1 rfl) ?_
  refine vp_callSi (pc := 7) (W.runV (As := [.int dd]) (rest := []) ⟨hx, hb, hml, hown, hts⟩ (m_isDrawing l dC dI mo nw kp mk co se 0 mr cN dd) (cwV 1 hts (gV wd_160 wd_161 wd_162 wd_157 wd_159) rfl rfl rfl (by decide +kernel) ⟨Nat.le_of_ble_eq_true rfl, Nat.le_of_ble_eq_true rfl⟩) ⟨pR_blind, va_recv (q := (RM, TM, 11)) (q0 := 0) (ci := 4) hK hP rfl rfl, pR_pre (hP.sub (ws' := [(mo, .inr (4, [.int 0, .int mr, .ref nw, .ref kp, .int 0, .int (-1), .ref mk, .ref co, .int 0, .int 0, .ref se])), (nw, .inl (cN, 25240, .inl now0))]) [0, 1] rfl) (hK.sub (tys' := [(cN, .int)]) [0] rfl)⟩ rfl rfl hl.1 rfl (lv_room (Nat.le_of_ble_eq_true rfl)) dM_user_7 ⟨Nat.le_of_ble_eq_true rfl, Nat.le_of_ble_eq_true rfl⟩) (fun r1 hr2 => ?_)
  obtain rfl : r1 = 0 := hr2
  refine lv_if_eq (pc := 10) (tgt := 17) hx hb dM_user_10 rfl (fun h3 => ?_) (fun h3 => absurd h3 (by decide))
  refine lv_iconst (pc := 17) (v := (-1)) hx hb dM_user_17 (by decide) ?_
  have hP9 := hP.sub (ws' := [(mo, .inr (4, [.int 0, .int mr, .ref nw, .ref kp, .int 0, .int (-1), .ref mk, .ref co, .int 0, .int 0, .ref se]))]) [0] rfl
  have hD9 := hD.sub (ws' := [(mo, .inr (4, [.int 0, .int mr, .ref nw, .ref kp, .int 0, .int (-1), .ref mk, .ref co, .int 0, .int 0, .ref se]))]) [0] (by decide) rfl
  have hK9 := hK.sub (tys' := []) [] rfl
  exact W.iret (pc := 18) hx hb hr (fun t ht hW => ⟨⟨_, (), rfl, rfl, by rw [ht]; exact hP9, va_K.moved hW.alike hK9, hD9⟩, hS.F ht⟩) hS.2.2 dM_user_18
set_option maxHeartbeats 4000000 in
set_option maxRecDepth 100000 in
theorem m_baseline (l : Launch) (dC : Nat → ClassId) (dI : Nat → Nat → Nat) (sz : Nat) (mo : Nat) (nw : Nat) (kp : Nat) (mk : Nat) (co : Nat) (se : Nat) (th : Int32) (mr : Int32) (cN : ClassId) (nn : Int32) (dd : Int32) : Met l yM_baseline (.code yM_baseline cM_baseline 8 (some .int) :: aw) ({ frames := 1, cells := 0, slots := 0, locals := 23 }) (pW (dC, dI) sz [(mo, .inr (4, [.int th, .int mr, .ref nw, .ref kp, .int 0, .int (-1), .ref mk, .ref co, .int 0, .int 0, .ref se])), (nw, .inl (cN, 25240, .inl now0))] [(cN, .int)] [.ref mo, .int nn, .int dd]) (va_Qi (fun r (_ : Unit) => r = (-1)) (fun _ t => wW (dC, dI) (va_A [(mo, .inr (4, [.int th, .int mr, .ref nw, .ref kp, .int 0, .int (-1), .ref mk, .ref co, .int 0, .int 0, .ref se])), (nw, .inl (cN, 25240, .inl now0))] sz) [(mo, .inr (4, [.int 0, .int 7, .ref nw, .ref kp, .int 0, .int (-1), .ref mk, .ref co, .int 0, .int 0, .ref se]))] [] t) (va_A [(mo, .inr (4, [.int th, .int mr, .ref nw, .ref kp, .int 0, .int (-1), .ref mk, .ref co, .int 0, .int 0, .ref se])), (nw, .inl (cN, 25240, .inl now0))] sz)) 0 0 (va_A [(mo, .inr (4, [.int th, .int mr, .ref nw, .ref kp, .int 0, .int (-1), .ref mk, .ref co, .int 0, .int 0, .ref se])), (nw, .inl (cN, 25240, .inl now0))] sz) := by
  refine Met.ofW (cc := cM_baseline) (maxL := 8) (ret := (some .int)) (by decide) rfl ?_
  intro p e s m args below meth c s₁ B hml hv
  obtain ⟨rfl, hv⟩ := hv
  have hx := B.exec
  have hb := B.bytes
  have hr := B.returns
  have hts : ∀ w ∈ aw, w.before _ s = true := fun w h => atoms_spec (ws := (.code yM_baseline cM_baseline 8 (some .int) :: aw)) B.pre w (List.mem_cons_of_mem _ h)
  have hown : s.vm.findClass RM = some m.cls := findClass_of_methodNamed B.named
  have hlocks := B.notSynchronized
  obtain ⟨hsz, hP, hK, hD0⟩ := hv
  subst hsz
  have hD := hD0.self (sz := s.heap.size)
  generalize hAe : va_A [(mo, .inr (4, [.int th, .int mr, .ref nw, .ref kp, .int 0, .int (-1), .ref mk, .ref co, .int 0, .int 0, .ref se])), (nw, .inl (cN, 25240, .inl now0))] s.heap.size = A at hD ⊢
  have hA : ∀ q : Nat, s.heap.size ≤ q → A q := fun q h => by rw [← hAe]; exact Or.inr h
  obtain ⟨H, hH⟩ : ∃ H, H = s.heap := ⟨_, rfl⟩
  have hS : va_S A s.heap H [] := by rw [hH]; exact va_S.rf
  rw [← hH] at hP ⊢
  have hP : va_P (dC, dI) kCl [(mo, .inr (4, [.int th, .int mr, .ref nw, .ref kp, .int 0, .int (-1), .ref mk, .ref co, .int 0, .int 0, .ref se])), (nw, .inl (cN, 25240, .inl now0))] H := hP
  have hl := lv_entry ([.ref mo, .int nn, .int dd]) (n := 8) (Nat.le_of_ble_eq_true rfl)
  rw [lg_entry_eq]
  generalize (lg_sl ([.ref mo, .int nn, .int dd]) ++ List.replicate (8 - (lg_sl ([.ref mo, .int nn, .int dd])).length) Slot.unset).toArray = ls at hl ⊢
  have hl : lv_has ls 8 [(0, .ref mo), (1, .int nn), (2, .int dd)] := hl
  refine lv_iload_n (pc := 0) hx hb dM_baseline_0 rfl (lv_at hl 1 rfl) ?_
  refine lv_if_lt (pc := 1) (tgt := 14) hx hb dM_baseline_1 rfl (fun h1 => ?_) (fun h1 => ?_)
  · refine lv_iconst (pc := 14) (v := 0) hx hb dM_baseline_14 (by decide) ?_
    refine lv_istore_n (pc := 15) hx hb dM_baseline_15 rfl hl (by decide) rfl (fun ls hl => ?_)
    have hl : lv_has ls 8 [(3, .int 0), (0, .ref mo), (1, .int nn), (2, .int dd)] := hl
    refine lv_iload_n (pc := 16) hx hb dM_baseline_16 rfl (lv_at hl 0 rfl) ?_
    refine lv_if_eq (pc := 17) (tgt := 28) hx hb dM_baseline_17 rfl (fun h2 => ?_) (fun h2 => absurd h2 (by decide))
    refine lv_iconst (pc := 28) (v := 1) hx hb dM_baseline_28 (by decide) ?_
    refine lv_goto (pc := 29) (tgt := 33) hx hb dM_baseline_29 rfl ?_
    refine lv_bipush (pc := 33) (v := 7) hx hb dM_baseline_33 (by decide) ?_
    refine lv_iconst (pc := 35) (v := 0) hx hb dM_baseline_35 (by decide) ?_
    refine vp_callSi (pc := 36) (W.runS (As := [.int 1, .int 7, .int 0]) (rest := []) ⟨hx, hb, hml, hown, hts⟩ (m_least l dC dI 1 7 0) (cwS 3 hts (gS wd_170 wd_171 wd_157 wd_169) rfl rfl rfl (by decide +kernel) ⟨Nat.le_of_ble_eq_true rfl, Nat.le_of_ble_eq_true rfl⟩) ⟨pR_blind, pR_pre (hP.sub (ws' := []) [] rfl) (hK.sub (tys' := []) [] rfl)⟩ rfl rfl hl.1 rfl (lv_room (Nat.le_of_ble_eq_true rfl)) dM_baseline_36 ⟨Nat.le_of_ble_eq_true rfl, Nat.le_of_ble_eq_true rfl⟩) (fun r3 hr4 => ?_)
    obtain rfl : r3 = 7 := Eq.trans (hr4) (by decide)
    refine lv_istore (pc := 39) hx hb dM_baseline_39 hl (by decide) rfl (fun ls hl => ?_)
    have hl : lv_has ls 8 [(4, .int 7), (3, .int 0), (0, .ref mo), (1, .int nn), (2, .int dd)] := hl
    refine lv_iload_n (pc := 41) hx hb dM_baseline_41 rfl (lv_at hl 1 rfl) ?_
    refine lv_if_eq (pc := 42) (tgt := 70) hx hb dM_baseline_42 rfl (fun h5 => ?_) (fun h5 => absurd h5 (by decide))
    refine lv_iconst (pc := 70) (v := 0) hx hb dM_baseline_70 (by decide) ?_
    refine lv_iconst (pc := 71) (v := 2) hx hb dM_baseline_71 (by decide) ?_
    refine lv_iload (pc := 72) hx hb dM_baseline_72 (lv_at hl 0 rfl) ?_
    refine vp_callSi (pc := 74) (W.runS (As := [.int 0, .int 2, .int 7]) (rest := []) ⟨hx, hb, hml, hown, hts⟩ (m_least l dC dI 0 2 7) (cwS 3 hts (gS wd_170 wd_171 wd_157 wd_169) rfl rfl rfl (by decide +kernel) ⟨Nat.le_of_ble_eq_true rfl, Nat.le_of_ble_eq_true rfl⟩) ⟨pR_blind, pR_pre (hP.sub (ws' := []) [] rfl) (hK.sub (tys' := []) [] rfl)⟩ rfl rfl hl.1 rfl (lv_room (Nat.le_of_ble_eq_true rfl)) dM_baseline_74 ⟨Nat.le_of_ble_eq_true rfl, Nat.le_of_ble_eq_true rfl⟩) (fun r6 hr7 => ?_)
    obtain rfl : r6 = 7 := Eq.trans (hr7) (by decide)
    refine lv_istore (pc := 77) hx hb dM_baseline_77 hl (by decide) rfl (fun ls hl => ?_)
    have hl : lv_has ls 8 [(4, .int 7), (3, .int 0), (0, .ref mo), (1, .int nn), (2, .int dd)] := hl
    refine lv_iconst (pc := 79) (v := 0) hx hb dM_baseline_79 (by decide) ?_
    refine lv_istore (pc := 80) hx hb dM_baseline_80 hl (by decide) rfl (fun ls hl => ?_)
    have hl : lv_has ls 8 [(5, .int 0), (4, .int 7), (3, .int 0), (0, .ref mo), (1, .int nn), (2, .int dd)] := hl
    refine lv_aload_n (pc := 82) hx hb dM_baseline_82 rfl (lv_at hl 3 rfl) ?_
    refine lv_iload_n (pc := 83) hx hb dM_baseline_83 rfl (lv_at hl 5 rfl) ?_
    refine vp_callSi (pc := 84) (W.runV (As := [.int dd]) (rest := []) ⟨hx, hb, hml, hown, hts⟩ (m_isDrawing l dC dI mo nw kp mk co se th mr cN dd) (cwV 1 hts (gV wd_160 wd_161 wd_162 wd_157 wd_159) rfl rfl rfl (by decide +kernel) ⟨Nat.le_of_ble_eq_true rfl, Nat.le_of_ble_eq_true rfl⟩) ⟨pR_blind, va_recv (q := (RM, TM, 11)) (q0 := 0) (ci := 4) hK hP rfl rfl, pR_pre (hP.sub (ws' := [(mo, .inr (4, [.int th, .int mr, .ref nw, .ref kp, .int 0, .int (-1), .ref mk, .ref co, .int 0, .int 0, .ref se])), (nw, .inl (cN, 25240, .inl now0))]) [0, 1] rfl) (hK.sub (tys' := [(cN, .int)]) [0] rfl)⟩ rfl rfl hl.1 rfl (lv_room (Nat.le_of_ble_eq_true rfl)) dM_baseline_84 ⟨Nat.le_of_ble_eq_true rfl, Nat.le_of_ble_eq_true rfl⟩) (fun r8 hr9 => ?_)
    obtain rfl : r8 = 0 := hr9
    refine lv_if_eq (pc := 87) (tgt := 189) hx hb dM_baseline_87 rfl (fun h10 => ?_) (fun h10 => absurd h10 (by decide))
    refine lv_aload_n (pc := 189) hx hb dM_baseline_189 rfl (lv_at hl 3 rfl) ?_
    refine lv_iload (pc := 190) hx hb dM_baseline_190 (lv_at hl 1 rfl) ?_
    refine lv_iconst (pc := 192) (v := 1) hx hb dM_baseline_192 (by decide) ?_
    refine lv_iload (pc := 193) hx hb dM_baseline_193 (lv_at hl 0 rfl) ?_
    refine vp_callSi (pc := 195) (W.runS (As := [.int 0]) (rest := [.int 1, .int 7, .ref mo]) ⟨hx, hb, hml, hown, hts⟩ (m_parts l dC dI) (cwS 1 hts (gS wd_201 wd_202 wd_157 wd_200) rfl rfl rfl (by decide +kernel) ⟨Nat.le_of_ble_eq_true rfl, Nat.le_of_ble_eq_true rfl⟩) ⟨pR_blind, pR_pre (hP.sub (ws' := []) [] rfl) (hK.sub (tys' := []) [] rfl)⟩ rfl rfl hl.1 rfl (lv_room (Nat.le_of_ble_eq_true rfl)) dM_baseline_195 ⟨Nat.le_of_ble_eq_true rfl, Nat.le_of_ble_eq_true rfl⟩) (fun r11 hr12 => ?_)
    obtain rfl : r11 = 0 := hr12
    refine lv_iadd (pc := 198) hx hb dM_baseline_198 ?_
    refine lv_topi (fun z13 hz14 => ?_)
    obtain rfl : z13 = 1 := hz14.trans (by decide)
    have hPc := hP.sub (ws' := [(mo, .inr (4, [.int th, .int mr, .ref nw, .ref kp, .int 0, .int (-1), .ref mk, .ref co, .int 0, .int 0, .ref se])), (nw, .inl (cN, 25240, .inl now0))]) [0, 1] rfl
    have hDc := hD.sub (ws' := [(mo, .inr (4, [.int th, .int mr, .ref nw, .ref kp, .int 0, .int (-1), .ref mk, .ref co, .int 0, .int 0, .ref se])), (nw, .inl (cN, 25240, .inl now0))]) [0, 1] (by decide) rfl
    have hKc := hK.sub (tys' := [(cN, .int)]) [0] rfl
    have hFc := va_free (wc := [(mo, .inr (4, [.int th, .int mr, .ref nw, .ref kp, .int 0, .int (-1), .ref mk, .ref co, .int 0, .int 0, .ref se])), (nw, .inl (cN, 25240, .inl now0))]) hD hS hA [0, 1] rfl
    refine va_calli (pc := 199) (va_runV (As := [.int 7, .int 1]) (rest := []) ⟨hx, hb, hml, hown, hts⟩ (m_may l dC dI H.size mo nw kp mk co se th mr cN 7 1 (by decide) (by decide)) (cwV 2 hts (gV wd_181 wd_182 wd_183 wd_157 wd_180) rfl rfl rfl (by decide +kernel) ⟨Nat.le_of_ble_eq_true rfl, Nat.le_of_ble_eq_true rfl⟩) ⟨pW_blind, va_recv (q := (RM, TM, 11)) (q0 := 0) (ci := 4) hK hP rfl rfl, pW_pre hPc hKc hDc⟩ rfl rfl hl.1 rfl (lv_room (Nat.le_of_ble_eq_true rfl)) dM_baseline_199 ⟨Nat.le_of_ble_eq_true rfl, Nat.le_of_ble_eq_true rfl⟩) hS (fun q _ h => hFc q h) hFc (fun r15 u t H1 locs ht hvm hr16 hB hz1 hk1 hS => ?_)
    obtain ⟨hP1, hK1, hD1⟩ := hB
    rw [ht] at hP1
    have hK1 := va_K.moved hvm.symm hK1
    obtain ⟨hP, hD⟩ := va_join (wr := []) (w1 := [(mo, .inr (4, [.int 0, .int 7, .ref nw, .ref kp, .int 0, .int (-1), .ref mk, .ref co, .int 0, .int 0, .ref se])), (nw, .inl (cN, 25240, .inl now0))]) hP hD [0, 1] [] rfl rfl (by decide) (by decide) hk1 hFc hP1 hD1
    generalize H1 = H at hP hS ⊢
    have hP : va_P (dC, dI) kCl [(mo, .inr (4, [.int 0, .int 7, .ref nw, .ref kp, .int 0, .int (-1), .ref mk, .ref co, .int 0, .int 0, .ref se])), (nw, .inl (cN, 25240, .inl now0))] H := hP
    have hD : va_D A [(mo, .inr (4, [.int 0, .int 7, .ref nw, .ref kp, .int 0, .int (-1), .ref mk, .ref co, .int 0, .int 0, .ref se])), (nw, .inl (cN, 25240, .inl now0))] := hD
    refine W.widen (k := 0) (n := 0) (Nat.le_of_ble_eq_true rfl) (Nat.le_of_ble_eq_true rfl) ?_
    obtain rfl : r15 = 0 := hr16
    refine lv_if_ne (pc := 202) (tgt := 218) hx hb dM_baseline_202 rfl (fun h18 => absurd h18 (by decide)) (fun h18 => ?_)
    refine lv_aload_n (pc := 205) hx hb dM_baseline_205 rfl (lv_at hl 3 rfl) ?_
    refine va_get (D := (dC, dI)) (cl := kCl) (C := RM) (T := TM) (N := 11) (pc := 206) hx hb hts inM hown hK hP 0 rfl rfl 0 (by decide) (hts _ wd_152) (fun _ h9 => h9) rfl dM_baseline_206 ?_
    refine lv_if_le (pc := 209) (tgt := 216) hx hb dM_baseline_209 rfl (fun h19 => ?_) (fun h19 => absurd h19 (by decide))
    refine lv_iconst (pc := 216) (v := (-1)) hx hb dM_baseline_216 (by decide) ?_
    have hP9 := hP.sub (ws' := [(mo, .inr (4, [.int 0, .int 7, .ref nw, .ref kp, .int 0, .int (-1), .ref mk, .ref co, .int 0, .int 0, .ref se]))]) [0] rfl
    have hD9 := hD.sub (ws' := [(mo, .inr (4, [.int 0, .int 7, .ref nw, .ref kp, .int 0, .int (-1), .ref mk, .ref co, .int 0, .int 0, .ref se]))]) [0] (by decide) rfl
    have hK9 := hK.sub (tys' := []) [] rfl
    exact W.iret (pc := 217) hx hb hr (fun t ht hW => ⟨⟨_, (), rfl, rfl, by rw [ht]; exact hP9, va_K.moved hW.alike hK9, hD9⟩, hS.F ht⟩) hS.2.2 dM_baseline_217
  · refine lv_iload_n (pc := 4) hx hb dM_baseline_4 rfl (lv_at hl 1 rfl) ?_
    refine lv_bipush (pc := 5) (v := 10) hx hb dM_baseline_5 (by decide) ?_
    refine lv_icmp_ge (pc := 7) (tgt := 14) hx hb dM_baseline_7 rfl (fun h20 => ?_) (fun h20 => ?_)
    · refine lv_iconst (pc := 14) (v := 0) hx hb dM_baseline_14 (by decide) ?_
      refine lv_istore_n (pc := 15) hx hb dM_baseline_15 rfl hl (by decide) rfl (fun ls hl => ?_)
      have hl : lv_has ls 8 [(3, .int 0), (0, .ref mo), (1, .int nn), (2, .int dd)] := hl
      refine lv_iload_n (pc := 16) hx hb dM_baseline_16 rfl (lv_at hl 0 rfl) ?_
      refine lv_if_eq (pc := 17) (tgt := 28) hx hb dM_baseline_17 rfl (fun h21 => ?_) (fun h21 => absurd h21 (by decide))
      refine lv_iconst (pc := 28) (v := 1) hx hb dM_baseline_28 (by decide) ?_
      refine lv_goto (pc := 29) (tgt := 33) hx hb dM_baseline_29 rfl ?_
      refine lv_bipush (pc := 33) (v := 7) hx hb dM_baseline_33 (by decide) ?_
      refine lv_iconst (pc := 35) (v := 0) hx hb dM_baseline_35 (by decide) ?_
      refine vp_callSi (pc := 36) (W.runS (As := [.int 1, .int 7, .int 0]) (rest := []) ⟨hx, hb, hml, hown, hts⟩ (m_least l dC dI 1 7 0) (cwS 3 hts (gS wd_170 wd_171 wd_157 wd_169) rfl rfl rfl (by decide +kernel) ⟨Nat.le_of_ble_eq_true rfl, Nat.le_of_ble_eq_true rfl⟩) ⟨pR_blind, pR_pre (hP.sub (ws' := []) [] rfl) (hK.sub (tys' := []) [] rfl)⟩ rfl rfl hl.1 rfl (lv_room (Nat.le_of_ble_eq_true rfl)) dM_baseline_36 ⟨Nat.le_of_ble_eq_true rfl, Nat.le_of_ble_eq_true rfl⟩) (fun r22 hr23 => ?_)
      obtain rfl : r22 = 7 := Eq.trans (hr23) (by decide)
      refine lv_istore (pc := 39) hx hb dM_baseline_39 hl (by decide) rfl (fun ls hl => ?_)
      have hl : lv_has ls 8 [(4, .int 7), (3, .int 0), (0, .ref mo), (1, .int nn), (2, .int dd)] := hl
      refine lv_iload_n (pc := 41) hx hb dM_baseline_41 rfl (lv_at hl 1 rfl) ?_
      refine lv_if_eq (pc := 42) (tgt := 70) hx hb dM_baseline_42 rfl (fun h24 => ?_) (fun h24 => absurd h24 (by decide))
      refine lv_iconst (pc := 70) (v := 0) hx hb dM_baseline_70 (by decide) ?_
      refine lv_iconst (pc := 71) (v := 2) hx hb dM_baseline_71 (by decide) ?_
      refine lv_iload (pc := 72) hx hb dM_baseline_72 (lv_at hl 0 rfl) ?_
      refine vp_callSi (pc := 74) (W.runS (As := [.int 0, .int 2, .int 7]) (rest := []) ⟨hx, hb, hml, hown, hts⟩ (m_least l dC dI 0 2 7) (cwS 3 hts (gS wd_170 wd_171 wd_157 wd_169) rfl rfl rfl (by decide +kernel) ⟨Nat.le_of_ble_eq_true rfl, Nat.le_of_ble_eq_true rfl⟩) ⟨pR_blind, pR_pre (hP.sub (ws' := []) [] rfl) (hK.sub (tys' := []) [] rfl)⟩ rfl rfl hl.1 rfl (lv_room (Nat.le_of_ble_eq_true rfl)) dM_baseline_74 ⟨Nat.le_of_ble_eq_true rfl, Nat.le_of_ble_eq_true rfl⟩) (fun r25 hr26 => ?_)
      obtain rfl : r25 = 7 := Eq.trans (hr26) (by decide)
      refine lv_istore (pc := 77) hx hb dM_baseline_77 hl (by decide) rfl (fun ls hl => ?_)
      have hl : lv_has ls 8 [(4, .int 7), (3, .int 0), (0, .ref mo), (1, .int nn), (2, .int dd)] := hl
      refine lv_iconst (pc := 79) (v := 0) hx hb dM_baseline_79 (by decide) ?_
      refine lv_istore (pc := 80) hx hb dM_baseline_80 hl (by decide) rfl (fun ls hl => ?_)
      have hl : lv_has ls 8 [(5, .int 0), (4, .int 7), (3, .int 0), (0, .ref mo), (1, .int nn), (2, .int dd)] := hl
      refine lv_aload_n (pc := 82) hx hb dM_baseline_82 rfl (lv_at hl 3 rfl) ?_
      refine lv_iload_n (pc := 83) hx hb dM_baseline_83 rfl (lv_at hl 5 rfl) ?_
      refine vp_callSi (pc := 84) (W.runV (As := [.int dd]) (rest := []) ⟨hx, hb, hml, hown, hts⟩ (m_isDrawing l dC dI mo nw kp mk co se th mr cN dd) (cwV 1 hts (gV wd_160 wd_161 wd_162 wd_157 wd_159) rfl rfl rfl (by decide +kernel) ⟨Nat.le_of_ble_eq_true rfl, Nat.le_of_ble_eq_true rfl⟩) ⟨pR_blind, va_recv (q := (RM, TM, 11)) (q0 := 0) (ci := 4) hK hP rfl rfl, pR_pre (hP.sub (ws' := [(mo, .inr (4, [.int th, .int mr, .ref nw, .ref kp, .int 0, .int (-1), .ref mk, .ref co, .int 0, .int 0, .ref se])), (nw, .inl (cN, 25240, .inl now0))]) [0, 1] rfl) (hK.sub (tys' := [(cN, .int)]) [0] rfl)⟩ rfl rfl hl.1 rfl (lv_room (Nat.le_of_ble_eq_true rfl)) dM_baseline_84 ⟨Nat.le_of_ble_eq_true rfl, Nat.le_of_ble_eq_true rfl⟩) (fun r27 hr28 => ?_)
      obtain rfl : r27 = 0 := hr28
      refine lv_if_eq (pc := 87) (tgt := 189) hx hb dM_baseline_87 rfl (fun h29 => ?_) (fun h29 => absurd h29 (by decide))
      refine lv_aload_n (pc := 189) hx hb dM_baseline_189 rfl (lv_at hl 3 rfl) ?_
      refine lv_iload (pc := 190) hx hb dM_baseline_190 (lv_at hl 1 rfl) ?_
      refine lv_iconst (pc := 192) (v := 1) hx hb dM_baseline_192 (by decide) ?_
      refine lv_iload (pc := 193) hx hb dM_baseline_193 (lv_at hl 0 rfl) ?_
      refine vp_callSi (pc := 195) (W.runS (As := [.int 0]) (rest := [.int 1, .int 7, .ref mo]) ⟨hx, hb, hml, hown, hts⟩ (m_parts l dC dI) (cwS 1 hts (gS wd_201 wd_202 wd_157 wd_200) rfl rfl rfl (by decide +kernel) ⟨Nat.le_of_ble_eq_true rfl, Nat.le_of_ble_eq_true rfl⟩) ⟨pR_blind, pR_pre (hP.sub (ws' := []) [] rfl) (hK.sub (tys' := []) [] rfl)⟩ rfl rfl hl.1 rfl (lv_room (Nat.le_of_ble_eq_true rfl)) dM_baseline_195 ⟨Nat.le_of_ble_eq_true rfl, Nat.le_of_ble_eq_true rfl⟩) (fun r30 hr31 => ?_)
      obtain rfl : r30 = 0 := hr31
      refine lv_iadd (pc := 198) hx hb dM_baseline_198 ?_
      refine lv_topi (fun z32 hz33 => ?_)
      obtain rfl : z32 = 1 := hz33.trans (by decide)
      have hPc := hP.sub (ws' := [(mo, .inr (4, [.int th, .int mr, .ref nw, .ref kp, .int 0, .int (-1), .ref mk, .ref co, .int 0, .int 0, .ref se])), (nw, .inl (cN, 25240, .inl now0))]) [0, 1] rfl
      have hDc := hD.sub (ws' := [(mo, .inr (4, [.int th, .int mr, .ref nw, .ref kp, .int 0, .int (-1), .ref mk, .ref co, .int 0, .int 0, .ref se])), (nw, .inl (cN, 25240, .inl now0))]) [0, 1] (by decide) rfl
      have hKc := hK.sub (tys' := [(cN, .int)]) [0] rfl
      have hFc := va_free (wc := [(mo, .inr (4, [.int th, .int mr, .ref nw, .ref kp, .int 0, .int (-1), .ref mk, .ref co, .int 0, .int 0, .ref se])), (nw, .inl (cN, 25240, .inl now0))]) hD hS hA [0, 1] rfl
      refine va_calli (pc := 199) (va_runV (As := [.int 7, .int 1]) (rest := []) ⟨hx, hb, hml, hown, hts⟩ (m_may l dC dI H.size mo nw kp mk co se th mr cN 7 1 (by decide) (by decide)) (cwV 2 hts (gV wd_181 wd_182 wd_183 wd_157 wd_180) rfl rfl rfl (by decide +kernel) ⟨Nat.le_of_ble_eq_true rfl, Nat.le_of_ble_eq_true rfl⟩) ⟨pW_blind, va_recv (q := (RM, TM, 11)) (q0 := 0) (ci := 4) hK hP rfl rfl, pW_pre hPc hKc hDc⟩ rfl rfl hl.1 rfl (lv_room (Nat.le_of_ble_eq_true rfl)) dM_baseline_199 ⟨Nat.le_of_ble_eq_true rfl, Nat.le_of_ble_eq_true rfl⟩) hS (fun q _ h => hFc q h) hFc (fun r34 u t H1 locs ht hvm hr35 hB hz1 hk1 hS => ?_)
      obtain ⟨hP1, hK1, hD1⟩ := hB
      rw [ht] at hP1
      have hK1 := va_K.moved hvm.symm hK1
      obtain ⟨hP, hD⟩ := va_join (wr := []) (w1 := [(mo, .inr (4, [.int 0, .int 7, .ref nw, .ref kp, .int 0, .int (-1), .ref mk, .ref co, .int 0, .int 0, .ref se])), (nw, .inl (cN, 25240, .inl now0))]) hP hD [0, 1] [] rfl rfl (by decide) (by decide) hk1 hFc hP1 hD1
      generalize H1 = H at hP hS ⊢
      have hP : va_P (dC, dI) kCl [(mo, .inr (4, [.int 0, .int 7, .ref nw, .ref kp, .int 0, .int (-1), .ref mk, .ref co, .int 0, .int 0, .ref se])), (nw, .inl (cN, 25240, .inl now0))] H := hP
      have hD : va_D A [(mo, .inr (4, [.int 0, .int 7, .ref nw, .ref kp, .int 0, .int (-1), .ref mk, .ref co, .int 0, .int 0, .ref se])), (nw, .inl (cN, 25240, .inl now0))] := hD
      refine W.widen (k := 0) (n := 0) (Nat.le_of_ble_eq_true rfl) (Nat.le_of_ble_eq_true rfl) ?_
      obtain rfl : r34 = 0 := hr35
      refine lv_if_ne (pc := 202) (tgt := 218) hx hb dM_baseline_202 rfl (fun h37 => absurd h37 (by decide)) (fun h37 => ?_)
      refine lv_aload_n (pc := 205) hx hb dM_baseline_205 rfl (lv_at hl 3 rfl) ?_
      refine va_get (D := (dC, dI)) (cl := kCl) (C := RM) (T := TM) (N := 11) (pc := 206) hx hb hts inM hown hK hP 0 rfl rfl 0 (by decide) (hts _ wd_152) (fun _ h9 => h9) rfl dM_baseline_206 ?_
      refine lv_if_le (pc := 209) (tgt := 216) hx hb dM_baseline_209 rfl (fun h38 => ?_) (fun h38 => absurd h38 (by decide))
      refine lv_iconst (pc := 216) (v := (-1)) hx hb dM_baseline_216 (by decide) ?_
      have hP9 := hP.sub (ws' := [(mo, .inr (4, [.int 0, .int 7, .ref nw, .ref kp, .int 0, .int (-1), .ref mk, .ref co, .int 0, .int 0, .ref se]))]) [0] rfl
      have hD9 := hD.sub (ws' := [(mo, .inr (4, [.int 0, .int 7, .ref nw, .ref kp, .int 0, .int (-1), .ref mk, .ref co, .int 0, .int 0, .ref se]))]) [0] (by decide) rfl
      have hK9 := hK.sub (tys' := []) [] rfl
      exact W.iret (pc := 217) hx hb hr (fun t ht hW => ⟨⟨_, (), rfl, rfl, by rw [ht]; exact hP9, va_K.moved hW.alike hK9, hD9⟩, hS.F ht⟩) hS.2.2 dM_baseline_217
    · refine lv_iconst (pc := 10) (v := 1) hx hb dM_baseline_10 (by decide) ?_
      refine lv_goto (pc := 11) (tgt := 15) hx hb dM_baseline_11 rfl ?_
      refine lv_istore_n (pc := 15) hx hb dM_baseline_15 rfl hl (by decide) rfl (fun ls hl => ?_)
      have hl : lv_has ls 8 [(3, .int 1), (0, .ref mo), (1, .int nn), (2, .int dd)] := hl
      refine lv_iload_n (pc := 16) hx hb dM_baseline_16 rfl (lv_at hl 0 rfl) ?_
      refine lv_if_eq (pc := 17) (tgt := 28) hx hb dM_baseline_17 rfl (fun h39 => absurd h39 (by decide)) (fun h39 => ?_)
      refine lv_aload_n (pc := 20) hx hb dM_baseline_20 rfl (lv_at hl 1 rfl) ?_
      refine lv_iload_n (pc := 21) hx hb dM_baseline_21 rfl (lv_at hl 3 rfl) ?_
      refine vp_callSi (pc := 22) (W.runV (As := [.int dd]) (rest := []) ⟨hx, hb, hml, hown, hts⟩ (m_isDrawing l dC dI mo nw kp mk co se th mr cN dd) (cwV 1 hts (gV wd_160 wd_161 wd_162 wd_157 wd_159) rfl rfl rfl (by decide +kernel) ⟨Nat.le_of_ble_eq_true rfl, Nat.le_of_ble_eq_true rfl⟩) ⟨pR_blind, va_recv (q := (RM, TM, 11)) (q0 := 0) (ci := 4) hK hP rfl rfl, pR_pre (hP.sub (ws' := [(mo, .inr (4, [.int th, .int mr, .ref nw, .ref kp, .int 0, .int (-1), .ref mk, .ref co, .int 0, .int 0, .ref se])), (nw, .inl (cN, 25240, .inl now0))]) [0, 1] rfl) (hK.sub (tys' := [(cN, .int)]) [0] rfl)⟩ rfl rfl hl.1 rfl (lv_room (Nat.le_of_ble_eq_true rfl)) dM_baseline_22 ⟨Nat.le_of_ble_eq_true rfl, Nat.le_of_ble_eq_true rfl⟩) (fun r40 hr41 => ?_)
      obtain rfl : r40 = 0 := hr41
      refine lv_if_ne (pc := 25) (tgt := 32) hx hb dM_baseline_25 rfl (fun h42 => absurd h42 (by decide)) (fun h42 => ?_)
      refine lv_iconst (pc := 28) (v := 1) hx hb dM_baseline_28 (by decide) ?_
      refine lv_goto (pc := 29) (tgt := 33) hx hb dM_baseline_29 rfl ?_
      refine lv_bipush (pc := 33) (v := 7) hx hb dM_baseline_33 (by decide) ?_
      refine lv_iconst (pc := 35) (v := 0) hx hb dM_baseline_35 (by decide) ?_
      refine vp_callSi (pc := 36) (W.runS (As := [.int 1, .int 7, .int 0]) (rest := []) ⟨hx, hb, hml, hown, hts⟩ (m_least l dC dI 1 7 0) (cwS 3 hts (gS wd_170 wd_171 wd_157 wd_169) rfl rfl rfl (by decide +kernel) ⟨Nat.le_of_ble_eq_true rfl, Nat.le_of_ble_eq_true rfl⟩) ⟨pR_blind, pR_pre (hP.sub (ws' := []) [] rfl) (hK.sub (tys' := []) [] rfl)⟩ rfl rfl hl.1 rfl (lv_room (Nat.le_of_ble_eq_true rfl)) dM_baseline_36 ⟨Nat.le_of_ble_eq_true rfl, Nat.le_of_ble_eq_true rfl⟩) (fun r43 hr44 => ?_)
      obtain rfl : r43 = 7 := Eq.trans (hr44) (by decide)
      refine lv_istore (pc := 39) hx hb dM_baseline_39 hl (by decide) rfl (fun ls hl => ?_)
      have hl : lv_has ls 8 [(4, .int 7), (3, .int 1), (0, .ref mo), (1, .int nn), (2, .int dd)] := hl
      refine lv_iload_n (pc := 41) hx hb dM_baseline_41 rfl (lv_at hl 1 rfl) ?_
      refine lv_if_eq (pc := 42) (tgt := 70) hx hb dM_baseline_42 rfl (fun h45 => absurd h45 (by decide)) (fun h45 => ?_)
      refine lv_aload_n (pc := 45) hx hb dM_baseline_45 rfl (lv_at hl 2 rfl) ?_
      refine va_get (D := (dC, dI)) (cl := kCl) (C := RM) (T := TM) (N := 11) (pc := 46) hx hb hts inM hown hK hP 0 rfl rfl 2 (by decide) (hts _ wd_158) (fun _ h9 => h9) rfl dM_baseline_46 ?_
      refine lv_aload_n (pc := 49) hx hb dM_baseline_49 rfl (lv_at hl 2 rfl) ?_
      refine lv_iload_n (pc := 50) hx hb dM_baseline_50 rfl (lv_at hl 1 rfl) ?_
      refine lv_if_eq (pc := 51) (tgt := 58) hx hb dM_baseline_51 rfl (fun h46 => absurd h46 (by decide)) (fun h46 => ?_)
      refine lv_iload_n (pc := 54) hx hb dM_baseline_54 rfl (lv_at hl 3 rfl) ?_
      refine lv_goto (pc := 55) (tgt := 59) hx hb dM_baseline_55 rfl ?_
      refine vp_callSi (pc := 59) (W.runV (As := [.int nn]) (rest := [.ref nw]) ⟨hx, hb, hml, hown, hts⟩ (m_baselineAt l dC dI mo nw kp mk co se th mr nn) (cwV 1 hts (gV wd_197 wd_198 wd_199 wd_157 wd_196) rfl rfl rfl (by decide +kernel) ⟨Nat.le_of_ble_eq_true rfl, Nat.le_of_ble_eq_true rfl⟩) ⟨pR_blind, va_recv (q := (RM, TM, 11)) (q0 := 0) (ci := 4) hK hP rfl rfl, pR_pre (hP.sub (ws' := [(mo, .inr (4, [.int th, .int mr, .ref nw, .ref kp, .int 0, .int (-1), .ref mk, .ref co, .int 0, .int 0, .ref se]))]) [0] rfl) (hK.sub (tys' := []) [] rfl)⟩ rfl rfl hl.1 rfl (lv_room (Nat.le_of_ble_eq_true rfl)) dM_baseline_59 ⟨Nat.le_of_ble_eq_true rfl, Nat.le_of_ble_eq_true rfl⟩) (fun r47 hr48 => ?_)
      obtain rfl : r47 = (24980 + 26 * nn) := hr48
      refine va_iald (D := (dC, dI)) (cl := kCl) (pc := 62) hx hb hK hP 1 0 rfl rfl ((bl_ix h1 h20).1) dM_baseline_62 ?_
      refine W.eq (g2 := F0 m 63 ls [.int (now0 ((24980 + 26 * nn) : Int32).toNatClampNeg)]) rfl ?_
      refine lv_topi (fun z49 hz50 => ?_)
      obtain rfl : z49 = 0 := hz50.trans ((bl_ix h1 h20).2)
      refine lv_if_le (pc := 63) (tgt := 70) hx hb dM_baseline_63 rfl (fun h51 => ?_) (fun h51 => absurd h51 (by decide))
      refine lv_iconst (pc := 70) (v := 0) hx hb dM_baseline_70 (by decide) ?_
      refine lv_iconst (pc := 71) (v := 2) hx hb dM_baseline_71 (by decide) ?_
      refine lv_iload (pc := 72) hx hb dM_baseline_72 (lv_at hl 0 rfl) ?_
      refine vp_callSi (pc := 74) (W.runS (As := [.int 0, .int 2, .int 7]) (rest := []) ⟨hx, hb, hml, hown, hts⟩ (m_least l dC dI 0 2 7) (cwS 3 hts (gS wd_170 wd_171 wd_157 wd_169) rfl rfl rfl (by decide +kernel) ⟨Nat.le_of_ble_eq_true rfl, Nat.le_of_ble_eq_true rfl⟩) ⟨pR_blind, pR_pre (hP.sub (ws' := []) [] rfl) (hK.sub (tys' := []) [] rfl)⟩ rfl rfl hl.1 rfl (lv_room (Nat.le_of_ble_eq_true rfl)) dM_baseline_74 ⟨Nat.le_of_ble_eq_true rfl, Nat.le_of_ble_eq_true rfl⟩) (fun r52 hr53 => ?_)
      obtain rfl : r52 = 7 := Eq.trans (hr53) (by decide)
      refine lv_istore (pc := 77) hx hb dM_baseline_77 hl (by decide) rfl (fun ls hl => ?_)
      have hl : lv_has ls 8 [(4, .int 7), (3, .int 1), (0, .ref mo), (1, .int nn), (2, .int dd)] := hl
      refine lv_iconst (pc := 79) (v := 0) hx hb dM_baseline_79 (by decide) ?_
      refine lv_istore (pc := 80) hx hb dM_baseline_80 hl (by decide) rfl (fun ls hl => ?_)
      have hl : lv_has ls 8 [(5, .int 0), (4, .int 7), (3, .int 1), (0, .ref mo), (1, .int nn), (2, .int dd)] := hl
      refine lv_aload_n (pc := 82) hx hb dM_baseline_82 rfl (lv_at hl 3 rfl) ?_
      refine lv_iload_n (pc := 83) hx hb dM_baseline_83 rfl (lv_at hl 5 rfl) ?_
      refine vp_callSi (pc := 84) (W.runV (As := [.int dd]) (rest := []) ⟨hx, hb, hml, hown, hts⟩ (m_isDrawing l dC dI mo nw kp mk co se th mr cN dd) (cwV 1 hts (gV wd_160 wd_161 wd_162 wd_157 wd_159) rfl rfl rfl (by decide +kernel) ⟨Nat.le_of_ble_eq_true rfl, Nat.le_of_ble_eq_true rfl⟩) ⟨pR_blind, va_recv (q := (RM, TM, 11)) (q0 := 0) (ci := 4) hK hP rfl rfl, pR_pre (hP.sub (ws' := [(mo, .inr (4, [.int th, .int mr, .ref nw, .ref kp, .int 0, .int (-1), .ref mk, .ref co, .int 0, .int 0, .ref se])), (nw, .inl (cN, 25240, .inl now0))]) [0, 1] rfl) (hK.sub (tys' := [(cN, .int)]) [0] rfl)⟩ rfl rfl hl.1 rfl (lv_room (Nat.le_of_ble_eq_true rfl)) dM_baseline_84 ⟨Nat.le_of_ble_eq_true rfl, Nat.le_of_ble_eq_true rfl⟩) (fun r54 hr55 => ?_)
      obtain rfl : r54 = 0 := hr55
      refine lv_if_eq (pc := 87) (tgt := 189) hx hb dM_baseline_87 rfl (fun h56 => ?_) (fun h56 => absurd h56 (by decide))
      refine lv_aload_n (pc := 189) hx hb dM_baseline_189 rfl (lv_at hl 3 rfl) ?_
      refine lv_iload (pc := 190) hx hb dM_baseline_190 (lv_at hl 1 rfl) ?_
      refine lv_iconst (pc := 192) (v := 1) hx hb dM_baseline_192 (by decide) ?_
      refine lv_iload (pc := 193) hx hb dM_baseline_193 (lv_at hl 0 rfl) ?_
      refine vp_callSi (pc := 195) (W.runS (As := [.int 0]) (rest := [.int 1, .int 7, .ref mo]) ⟨hx, hb, hml, hown, hts⟩ (m_parts l dC dI) (cwS 1 hts (gS wd_201 wd_202 wd_157 wd_200) rfl rfl rfl (by decide +kernel) ⟨Nat.le_of_ble_eq_true rfl, Nat.le_of_ble_eq_true rfl⟩) ⟨pR_blind, pR_pre (hP.sub (ws' := []) [] rfl) (hK.sub (tys' := []) [] rfl)⟩ rfl rfl hl.1 rfl (lv_room (Nat.le_of_ble_eq_true rfl)) dM_baseline_195 ⟨Nat.le_of_ble_eq_true rfl, Nat.le_of_ble_eq_true rfl⟩) (fun r57 hr58 => ?_)
      obtain rfl : r57 = 0 := hr58
      refine lv_iadd (pc := 198) hx hb dM_baseline_198 ?_
      refine lv_topi (fun z59 hz60 => ?_)
      obtain rfl : z59 = 1 := hz60.trans (by decide)
      have hPc := hP.sub (ws' := [(mo, .inr (4, [.int th, .int mr, .ref nw, .ref kp, .int 0, .int (-1), .ref mk, .ref co, .int 0, .int 0, .ref se])), (nw, .inl (cN, 25240, .inl now0))]) [0, 1] rfl
      have hDc := hD.sub (ws' := [(mo, .inr (4, [.int th, .int mr, .ref nw, .ref kp, .int 0, .int (-1), .ref mk, .ref co, .int 0, .int 0, .ref se])), (nw, .inl (cN, 25240, .inl now0))]) [0, 1] (by decide) rfl
      have hKc := hK.sub (tys' := [(cN, .int)]) [0] rfl
      have hFc := va_free (wc := [(mo, .inr (4, [.int th, .int mr, .ref nw, .ref kp, .int 0, .int (-1), .ref mk, .ref co, .int 0, .int 0, .ref se])), (nw, .inl (cN, 25240, .inl now0))]) hD hS hA [0, 1] rfl
      refine va_calli (pc := 199) (va_runV (As := [.int 7, .int 1]) (rest := []) ⟨hx, hb, hml, hown, hts⟩ (m_may l dC dI H.size mo nw kp mk co se th mr cN 7 1 (by decide) (by decide)) (cwV 2 hts (gV wd_181 wd_182 wd_183 wd_157 wd_180) rfl rfl rfl (by decide +kernel) ⟨Nat.le_of_ble_eq_true rfl, Nat.le_of_ble_eq_true rfl⟩) ⟨pW_blind, va_recv (q := (RM, TM, 11)) (q0 := 0) (ci := 4) hK hP rfl rfl, pW_pre hPc hKc hDc⟩ rfl rfl hl.1 rfl (lv_room (Nat.le_of_ble_eq_true rfl)) dM_baseline_199 ⟨Nat.le_of_ble_eq_true rfl, Nat.le_of_ble_eq_true rfl⟩) hS (fun q _ h => hFc q h) hFc (fun r61 u t H1 locs ht hvm hr62 hB hz1 hk1 hS => ?_)
      obtain ⟨hP1, hK1, hD1⟩ := hB
      rw [ht] at hP1
      have hK1 := va_K.moved hvm.symm hK1
      obtain ⟨hP, hD⟩ := va_join (wr := []) (w1 := [(mo, .inr (4, [.int 0, .int 7, .ref nw, .ref kp, .int 0, .int (-1), .ref mk, .ref co, .int 0, .int 0, .ref se])), (nw, .inl (cN, 25240, .inl now0))]) hP hD [0, 1] [] rfl rfl (by decide) (by decide) hk1 hFc hP1 hD1
      generalize H1 = H at hP hS ⊢
      have hP : va_P (dC, dI) kCl [(mo, .inr (4, [.int 0, .int 7, .ref nw, .ref kp, .int 0, .int (-1), .ref mk, .ref co, .int 0, .int 0, .ref se])), (nw, .inl (cN, 25240, .inl now0))] H := hP
      have hD : va_D A [(mo, .inr (4, [.int 0, .int 7, .ref nw, .ref kp, .int 0, .int (-1), .ref mk, .ref co, .int 0, .int 0, .ref se])), (nw, .inl (cN, 25240, .inl now0))] := hD
      refine W.widen (k := 0) (n := 0) (Nat.le_of_ble_eq_true rfl) (Nat.le_of_ble_eq_true rfl) ?_
      obtain rfl : r61 = 0 := hr62
      refine lv_if_ne (pc := 202) (tgt := 218) hx hb dM_baseline_202 rfl (fun h64 => absurd h64 (by decide)) (fun h64 => ?_)
      refine lv_aload_n (pc := 205) hx hb dM_baseline_205 rfl (lv_at hl 3 rfl) ?_
      refine va_get (D := (dC, dI)) (cl := kCl) (C := RM) (T := TM) (N := 11) (pc := 206) hx hb hts inM hown hK hP 0 rfl rfl 0 (by decide) (hts _ wd_152) (fun _ h9 => h9) rfl dM_baseline_206 ?_
      refine lv_if_le (pc := 209) (tgt := 216) hx hb dM_baseline_209 rfl (fun h65 => ?_) (fun h65 => absurd h65 (by decide))
      refine lv_iconst (pc := 216) (v := (-1)) hx hb dM_baseline_216 (by decide) ?_
      have hP9 := hP.sub (ws' := [(mo, .inr (4, [.int 0, .int 7, .ref nw, .ref kp, .int 0, .int (-1), .ref mk, .ref co, .int 0, .int 0, .ref se]))]) [0] rfl
      have hD9 := hD.sub (ws' := [(mo, .inr (4, [.int 0, .int 7, .ref nw, .ref kp, .int 0, .int (-1), .ref mk, .ref co, .int 0, .int 0, .ref se]))]) [0] (by decide) rfl
      have hK9 := hK.sub (tys' := []) [] rfl
      exact W.iret (pc := 217) hx hb hr (fun t ht hW => ⟨⟨_, (), rfl, rfl, by rw [ht]; exact hP9, va_K.moved hW.alike hK9, hD9⟩, hS.F ht⟩) hS.2.2 dM_baseline_217
set_option maxHeartbeats 4000000 in
set_option maxRecDepth 100000 in
theorem m_failAfter (l : Launch) (dC : Nat → ClassId) (dI : Nat → Nat → Nat) (sz : Nat) (mo : Nat) (nw : Nat) (kp : Nat) (mk : Nat) (co : Nat) (se : Nat) (th : Int32) (mr : Int32) (nn : Int32) : Met l yM_failAfter (.code yM_failAfter cM_failAfter 2 (some .boolean) :: aw) ({ frames := 0, cells := 0, slots := 0, locals := 0 }) (pW (dC, dI) sz [(mo, .inr (4, [.int th, .int mr, .ref nw, .ref kp, .int 0, .int (-1), .ref mk, .ref co, .int 0, .int 0, .ref se]))] [] [.ref mo, .int nn]) (va_Qi (fun r (u9 : Int32) => (r = 1 ∧ u9 = nn ∧ (¬ nn < 0)) ∨ (r = 0 ∧ u9 = (-1) ∧ (nn < 0))) (fun u9 t => wW (dC, dI) (va_A [(mo, .inr (4, [.int th, .int mr, .ref nw, .ref kp, .int 0, .int (-1), .ref mk, .ref co, .int 0, .int 0, .ref se]))] sz) [(mo, .inr (4, [.int 0, .int mr, .ref nw, .ref kp, .int 0, .int u9, .ref mk, .ref co, .int 0, .int 0, .ref se]))] [] t) (va_A [(mo, .inr (4, [.int th, .int mr, .ref nw, .ref kp, .int 0, .int (-1), .ref mk, .ref co, .int 0, .int 0, .ref se]))] sz)) 0 0 (va_A [(mo, .inr (4, [.int th, .int mr, .ref nw, .ref kp, .int 0, .int (-1), .ref mk, .ref co, .int 0, .int 0, .ref se]))] sz) := by
  refine Met.ofW (cc := cM_failAfter) (maxL := 2) (ret := (some .boolean)) (by decide) rfl ?_
  intro p e s m args below meth c s₁ B hml hv
  obtain ⟨rfl, hv⟩ := hv
  have hx := B.exec
  have hb := B.bytes
  have hr := B.returns
  have hts : ∀ w ∈ aw, w.before _ s = true := fun w h => atoms_spec (ws := (.code yM_failAfter cM_failAfter 2 (some .boolean) :: aw)) B.pre w (List.mem_cons_of_mem _ h)
  have hown : s.vm.findClass RM = some m.cls := findClass_of_methodNamed B.named
  have hlocks := B.notSynchronized
  obtain ⟨hsz, hP, hK, hD0⟩ := hv
  subst hsz
  have hD := hD0.self (sz := s.heap.size)
  generalize hAe : va_A [(mo, .inr (4, [.int th, .int mr, .ref nw, .ref kp, .int 0, .int (-1), .ref mk, .ref co, .int 0, .int 0, .ref se]))] s.heap.size = A at hD ⊢
  have hA : ∀ q : Nat, s.heap.size ≤ q → A q := fun q h => by rw [← hAe]; exact Or.inr h
  obtain ⟨H, hH⟩ : ∃ H, H = s.heap := ⟨_, rfl⟩
  have hS : va_S A s.heap H [] := by rw [hH]; exact va_S.rf
  rw [← hH] at hP ⊢
  have hP : va_P (dC, dI) kCl [(mo, .inr (4, [.int th, .int mr, .ref nw, .ref kp, .int 0, .int (-1), .ref mk, .ref co, .int 0, .int 0, .ref se]))] H := hP
  have hl := lv_entry ([.ref mo, .int nn]) (n := 2) (Nat.le_of_ble_eq_true rfl)
  rw [lg_entry_eq]
  generalize (lg_sl ([.ref mo, .int nn]) ++ List.replicate (2 - (lg_sl ([.ref mo, .int nn])).length) Slot.unset).toArray = ls at hl ⊢
  have hl : lv_has ls 2 [(0, .ref mo), (1, .int nn)] := hl
  refine lv_aload_n (pc := 0) hx hb dM_failAfter_0 rfl (lv_at hl 0 rfl) ?_
  refine lv_iconst (pc := 1) (v := 0) hx hb dM_failAfter_1 (by decide) ?_
  refine va_put (D := (dC, dI)) (cl := kCl) (ci := 4) (v := .int 0) (ty := .int) (C := RM) (T := TM) (N := 11) (pc := 2) hx hb hts inM tyM tyM_ok nmM hown hK hP hD hS 0 rfl rfl 0 (by decide) (hts _ wd_152) (fun _ h9 => h9) rfl (by decide +kernel) rfl rfl (Nat.le_of_ble_eq_true rfl) dM_failAfter_2 (fun H locs hP hD hS => ?_)
  have hP : va_P (dC, dI) kCl [(mo, .inr (4, [.int 0, .int mr, .ref nw, .ref kp, .int 0, .int (-1), .ref mk, .ref co, .int 0, .int 0, .ref se]))] H := hP
  have hD : va_D A [(mo, .inr (4, [.int 0, .int mr, .ref nw, .ref kp, .int 0, .int (-1), .ref mk, .ref co, .int 0, .int 0, .ref se]))] := hD
  refine lv_iload_n (pc := 5) hx hb dM_failAfter_5 rfl (lv_at hl 1 rfl) ?_
  refine lv_if_lt (pc := 6) (tgt := 16) hx hb dM_failAfter_6 rfl (fun h1 => ?_) (fun h1 => ?_)
  · refine lv_iconst (pc := 16) (v := 0) hx hb dM_failAfter_16 (by decide) ?_
    have hP9 := hP.sub (ws' := [(mo, .inr (4, [.int 0, .int mr, .ref nw, .ref kp, .int 0, .int (-1), .ref mk, .ref co, .int 0, .int 0, .ref se]))]) [0] rfl
    have hD9 := hD.sub (ws' := [(mo, .inr (4, [.int 0, .int mr, .ref nw, .ref kp, .int 0, .int (-1), .ref mk, .ref co, .int 0, .int 0, .ref se]))]) [0] (by decide) rfl
    have hK9 := hK.sub (tys' := []) [] rfl
    exact W.zret (pc := 17) hx hb hr rfl (fun t ht hW => ⟨⟨_, (-1), rfl, (Or.inr ⟨rfl, rfl, by first | assumption | exact ⟨by assumption, by assumption⟩ | exact Or.inl (by assumption) | exact Or.inr (by assumption) | exact Or.inr (Or.inl (by assumption)) | exact Or.inr (Or.inr (by assumption)) | simp_all⟩), by rw [ht]; exact hP9, va_K.moved hW.alike hK9, hD9⟩, hS.F ht⟩) hS.2.2 dM_failAfter_17
  · refine lv_aload_n (pc := 9) hx hb dM_failAfter_9 rfl (lv_at hl 0 rfl) ?_
    refine va_get (D := (dC, dI)) (cl := kCl) (C := RM) (T := TM) (N := 11) (pc := 10) hx hb hts inM hown hK hP 0 rfl rfl 4 (by decide) (hts _ wd_163) (fun _ h9 => h9) rfl dM_failAfter_10 ?_
    refine lv_if_eq (pc := 13) (tgt := 18) hx hb dM_failAfter_13 rfl (fun h2 => ?_) (fun h2 => absurd h2 (by decide))
    refine lv_aload_n (pc := 18) hx hb dM_failAfter_18 rfl (lv_at hl 0 rfl) ?_
    refine lv_iload_n (pc := 19) hx hb dM_failAfter_19 rfl (lv_at hl 1 rfl) ?_
    refine va_put (D := (dC, dI)) (cl := kCl) (ci := 4) (v := .int nn) (ty := .int) (C := RM) (T := TM) (N := 11) (pc := 20) hx hb hts inM tyM tyM_ok nmM hown hK hP hD hS 0 rfl rfl 5 (by decide) (hts _ wd_203) (fun _ h9 => h9) rfl (by decide +kernel) rfl rfl (Nat.le_of_ble_eq_true rfl) dM_failAfter_20 (fun H locs hP hD hS => ?_)
    have hP : va_P (dC, dI) kCl [(mo, .inr (4, [.int 0, .int mr, .ref nw, .ref kp, .int 0, .int nn, .ref mk, .ref co, .int 0, .int 0, .ref se]))] H := hP
    have hD : va_D A [(mo, .inr (4, [.int 0, .int mr, .ref nw, .ref kp, .int 0, .int nn, .ref mk, .ref co, .int 0, .int 0, .ref se]))] := hD
    refine lv_iconst (pc := 23) (v := 1) hx hb dM_failAfter_23 (by decide) ?_
    have hP9 := hP.sub (ws' := [(mo, .inr (4, [.int 0, .int mr, .ref nw, .ref kp, .int 0, .int nn, .ref mk, .ref co, .int 0, .int 0, .ref se]))]) [0] rfl
    have hD9 := hD.sub (ws' := [(mo, .inr (4, [.int 0, .int mr, .ref nw, .ref kp, .int 0, .int nn, .ref mk, .ref co, .int 0, .int 0, .ref se]))]) [0] (by decide) rfl
    have hK9 := hK.sub (tys' := []) [] rfl
    exact W.zret (pc := 24) hx hb hr rfl (fun t ht hW => ⟨⟨_, nn, rfl, (Or.inl ⟨rfl, rfl, by first | assumption | exact ⟨by assumption, by assumption⟩ | exact Or.inl (by assumption) | exact Or.inr (by assumption) | exact Or.inr (Or.inl (by assumption)) | exact Or.inr (Or.inr (by assumption)) | simp_all⟩), by rw [ht]; exact hP9, va_K.moved hW.alike hK9, hD9⟩, hS.F ht⟩) hS.2.2 dM_failAfter_24
