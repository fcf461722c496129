abbrev cM_thrown : ByteArray := prog_9_method_2_code
abbrev yM_thrown : MethodName := ⟨"DrawingVaultModel", "thrown", "()I"⟩
theorem dM_thrown_0 : decode cM_thrown 0 = .ok (.aload_n 0, 1) := by decide +kernel
theorem dM_thrown_1 : decode cM_thrown 1 = .ok (.getfield 33, 3) := by decide +kernel
theorem dM_thrown_4 : decode cM_thrown 4 = .ok (.ireturn, 1) := by decide +kernel
abbrev cM_isPerson : ByteArray := prog_9_method_4_code
abbrev yM_isPerson : MethodName := ⟨"DrawingVaultModel", "isPerson", "(I)Z"⟩
theorem dM_isPerson_0 : decode cM_isPerson 0 = .ok (.iload_n 1, 1) := by decide +kernel
theorem dM_isPerson_1 : decode cM_isPerson 1 = .ok (.ifCond .lt 13, 3) := by decide +kernel
theorem dM_isPerson_4 : decode cM_isPerson 4 = .ok (.iload_n 1, 1) := by decide +kernel
theorem dM_isPerson_5 : decode cM_isPerson 5 = .ok (.bipush 16, 2) := by decide +kernel
theorem dM_isPerson_7 : decode cM_isPerson 7 = .ok (.if_icmp .ge 7, 3) := by decide +kernel
theorem dM_isPerson_10 : decode cM_isPerson 10 = .ok (.iconst 1, 1) := by decide +kernel
theorem dM_isPerson_11 : decode cM_isPerson 11 = .ok (.goto 4, 3) := by decide +kernel
theorem dM_isPerson_14 : decode cM_isPerson 14 = .ok (.iconst 0, 1) := by decide +kernel
theorem dM_isPerson_15 : decode cM_isPerson 15 = .ok (.ireturn, 1) := by decide +kernel
abbrev cM_rights : ByteArray := prog_9_method_5_code
abbrev yM_rights : MethodName := ⟨"DrawingVaultModel", "rights", "(I)I"⟩
theorem dM_rights_0 : decode cM_rights 0 = .ok (.aload_n 0, 1) := by decide +kernel
theorem dM_rights_1 : decode cM_rights 1 = .ok (.iload_n 1, 1) := by decide +kernel
theorem dM_rights_2 : decode cM_rights 2 = .ok (.invokevirtual 36, 3) := by decide +kernel
theorem dM_rights_5 : decode cM_rights 5 = .ok (.ifCond .eq 12, 3) := by decide +kernel
theorem dM_rights_8 : decode cM_rights 8 = .ok (.aload_n 0, 1) := by decide +kernel
theorem dM_rights_9 : decode cM_rights 9 = .ok (.getfield 7, 3) := by decide +kernel
theorem dM_rights_12 : decode cM_rights 12 = .ok (.iload_n 1, 1) := by decide +kernel
theorem dM_rights_13 : decode cM_rights 13 = .ok (.iaload, 1) := by decide +kernel
theorem dM_rights_14 : decode cM_rights 14 = .ok (.goto 4, 3) := by decide +kernel
theorem dM_rights_17 : decode cM_rights 17 = .ok (.iconst 0, 1) := by decide +kernel
theorem dM_rights_18 : decode cM_rights 18 = .ok (.ireturn, 1) := by decide +kernel
abbrev cM_isDrawing : ByteArray := prog_9_method_6_code
abbrev yM_isDrawing : MethodName := ⟨"DrawingVaultModel", "isDrawing", "(I)Z"⟩
theorem dM_isDrawing_0 : decode cM_isDrawing 0 = .ok (.iload_n 1, 1) := by decide +kernel
theorem dM_isDrawing_1 : decode cM_isDrawing 1 = .ok (.ifCond .lt 18, 3) := by decide +kernel
theorem dM_isDrawing_4 : decode cM_isDrawing 4 = .ok (.iload_n 1, 1) := by decide +kernel
theorem dM_isDrawing_5 : decode cM_isDrawing 5 = .ok (.aload_n 0, 1) := by decide +kernel
theorem dM_isDrawing_6 : decode cM_isDrawing 6 = .ok (.getfield 7, 3) := by decide +kernel
theorem dM_isDrawing_9 : decode cM_isDrawing 9 = .ok (.bipush 16, 2) := by decide +kernel
theorem dM_isDrawing_11 : decode cM_isDrawing 11 = .ok (.iaload, 1) := by decide +kernel
theorem dM_isDrawing_12 : decode cM_isDrawing 12 = .ok (.if_icmp .ge 7, 3) := by decide +kernel
theorem dM_isDrawing_15 : decode cM_isDrawing 15 = .ok (.iconst 1, 1) := by decide +kernel
theorem dM_isDrawing_16 : decode cM_isDrawing 16 = .ok (.goto 4, 3) := by decide +kernel
theorem dM_isDrawing_19 : decode cM_isDrawing 19 = .ok (.iconst 0, 1) := by decide +kernel
theorem dM_isDrawing_20 : decode cM_isDrawing 20 = .ok (.ireturn, 1) := by decide +kernel
abbrev cM_drawingAt : ByteArray := prog_9_method_7_code
abbrev yM_drawingAt : MethodName := ⟨"DrawingVaultModel", "drawingAt", "(I)I"⟩
theorem dM_drawingAt_0 : decode cM_drawingAt 0 = .ok (.bipush 20, 2) := by decide +kernel
theorem dM_drawingAt_2 : decode cM_drawingAt 2 = .ok (.bipush 80, 2) := by decide +kernel
theorem dM_drawingAt_4 : decode cM_drawingAt 4 = .ok (.iload_n 1, 1) := by decide +kernel
theorem dM_drawingAt_5 : decode cM_drawingAt 5 = .ok (.imul, 1) := by decide +kernel
theorem dM_drawingAt_6 : decode cM_drawingAt 6 = .ok (.iadd, 1) := by decide +kernel
theorem dM_drawingAt_7 : decode cM_drawingAt 7 = .ok (.ireturn, 1) := by decide +kernel
abbrev cM_made : ByteArray := prog_9_method_8_code
abbrev yM_made : MethodName := ⟨"DrawingVaultModel", "made", "(I)I"⟩
theorem dM_made_0 : decode cM_made 0 = .ok (.aload_n 0, 1) := by decide +kernel
theorem dM_made_1 : decode cM_made 1 = .ok (.getfield 7, 3) := by decide +kernel
theorem dM_made_4 : decode cM_made 4 = .ok (.aload_n 0, 1) := by decide +kernel
theorem dM_made_5 : decode cM_made 5 = .ok (.iload_n 1, 1) := by decide +kernel
theorem dM_made_6 : decode cM_made 6 = .ok (.invokevirtual 40, 3) := by decide +kernel
theorem dM_made_9 : decode cM_made 9 = .ok (.iconst 0, 1) := by decide +kernel
theorem dM_made_10 : decode cM_made 10 = .ok (.iadd, 1) := by decide +kernel
theorem dM_made_11 : decode cM_made 11 = .ok (.iaload, 1) := by decide +kernel
theorem dM_made_12 : decode cM_made 12 = .ok (.ireturn, 1) := by decide +kernel
abbrev cM_isRevision : ByteArray := prog_9_method_9_code
abbrev yM_isRevision : MethodName := ⟨"DrawingVaultModel", "isRevision", "(II)Z"⟩
theorem dM_isRevision_0 : decode cM_isRevision 0 = .ok (.aload_n 0, 1) := by decide +kernel
theorem dM_isRevision_1 : decode cM_isRevision 1 = .ok (.iload_n 1, 1) := by decide +kernel
theorem dM_isRevision_2 : decode cM_isRevision 2 = .ok (.invokevirtual 44, 3) := by decide +kernel
theorem dM_isRevision_5 : decode cM_isRevision 5 = .ok (.ifCond .eq 20, 3) := by decide +kernel
theorem dM_isRevision_8 : decode cM_isRevision 8 = .ok (.iload_n 2, 1) := by decide +kernel
theorem dM_isRevision_9 : decode cM_isRevision 9 = .ok (.ifCond .lt 16, 3) := by decide +kernel
theorem dM_isRevision_12 : decode cM_isRevision 12 = .ok (.iload_n 2, 1) := by decide +kernel
theorem dM_isRevision_13 : decode cM_isRevision 13 = .ok (.aload_n 0, 1) := by decide +kernel
theorem dM_isRevision_14 : decode cM_isRevision 14 = .ok (.iload_n 1, 1) := by decide +kernel
theorem dM_isRevision_15 : decode cM_isRevision 15 = .ok (.invokevirtual 47, 3) := by decide +kernel
theorem dM_isRevision_18 : decode cM_isRevision 18 = .ok (.if_icmp .ge 7, 3) := by decide +kernel
theorem dM_isRevision_21 : decode cM_isRevision 21 = .ok (.iconst 1, 1) := by decide +kernel
theorem dM_isRevision_22 : decode cM_isRevision 22 = .ok (.goto 4, 3) := by decide +kernel
theorem dM_isRevision_25 : decode cM_isRevision 25 = .ok (.iconst 0, 1) := by decide +kernel
theorem dM_isRevision_26 : decode cM_isRevision 26 = .ok (.ireturn, 1) := by decide +kernel
abbrev cM_revisionAt : ByteArray := prog_9_method_10_code
abbrev yM_revisionAt : MethodName := ⟨"DrawingVaultModel", "revisionAt", "(II)I"⟩
theorem dM_revisionAt_0 : decode cM_revisionAt 0 = .ok (.sipush 1940, 3) := by decide +kernel
theorem dM_revisionAt_3 : decode cM_revisionAt 3 = .ok (.bipush 80, 2) := by decide +kernel
theorem dM_revisionAt_5 : decode cM_revisionAt 5 = .ok (.bipush 12, 2) := by decide +kernel
theorem dM_revisionAt_7 : decode cM_revisionAt 7 = .ok (.iload_n 1, 1) := by decide +kernel
theorem dM_revisionAt_8 : decode cM_revisionAt 8 = .ok (.imul, 1) := by decide +kernel
theorem dM_revisionAt_9 : decode cM_revisionAt 9 = .ok (.iload_n 2, 1) := by decide +kernel
theorem dM_revisionAt_10 : decode cM_revisionAt 10 = .ok (.iadd, 1) := by decide +kernel
theorem dM_revisionAt_11 : decode cM_revisionAt 11 = .ok (.imul, 1) := by decide +kernel
theorem dM_revisionAt_12 : decode cM_revisionAt 12 = .ok (.iadd, 1) := by decide +kernel
theorem dM_revisionAt_13 : decode cM_revisionAt 13 = .ok (.ireturn, 1) := by decide +kernel
abbrev cM_stateOf : ByteArray := prog_9_method_11_code
abbrev yM_stateOf : MethodName := ⟨"DrawingVaultModel", "stateOf", "(II)I"⟩
theorem dM_stateOf_0 : decode cM_stateOf 0 = .ok (.aload_n 0, 1) := by decide +kernel
theorem dM_stateOf_1 : decode cM_stateOf 1 = .ok (.getfield 7, 3) := by decide +kernel
theorem dM_stateOf_4 : decode cM_stateOf 4 = .ok (.aload_n 0, 1) := by decide +kernel
theorem dM_stateOf_5 : decode cM_stateOf 5 = .ok (.iload_n 1, 1) := by decide +kernel
theorem dM_stateOf_6 : decode cM_stateOf 6 = .ok (.iload_n 2, 1) := by decide +kernel
theorem dM_stateOf_7 : decode cM_stateOf 7 = .ok (.invokevirtual 50, 3) := by decide +kernel
theorem dM_stateOf_10 : decode cM_stateOf 10 = .ok (.iconst 0, 1) := by decide +kernel
theorem dM_stateOf_11 : decode cM_stateOf 11 = .ok (.iadd, 1) := by decide +kernel
theorem dM_stateOf_12 : decode cM_stateOf 12 = .ok (.iaload, 1) := by decide +kernel
theorem dM_stateOf_13 : decode cM_stateOf 13 = .ok (.ireturn, 1) := by decide +kernel
abbrev cM_with : ByteArray := prog_9_method_12_code
abbrev yM_with : MethodName := ⟨"DrawingVaultModel", "with", "(I)I"⟩
theorem dM_with_0 : decode cM_with 0 = .ok (.aload_n 0, 1) := by decide +kernel
theorem dM_with_1 : decode cM_with 1 = .ok (.getfield 7, 3) := by decide +kernel
theorem dM_with_4 : decode cM_with 4 = .ok (.aload_n 0, 1) := by decide +kernel
theorem dM_with_5 : decode cM_with 5 = .ok (.iload_n 1, 1) := by decide +kernel
theorem dM_with_6 : decode cM_with 6 = .ok (.invokevirtual 40, 3) := by decide +kernel
theorem dM_with_9 : decode cM_with 9 = .ok (.iconst 1, 1) := by decide +kernel
theorem dM_with_10 : decode cM_with 10 = .ok (.iadd, 1) := by decide +kernel
theorem dM_with_11 : decode cM_with 11 = .ok (.iaload, 1) := by decide +kernel
theorem dM_with_12 : decode cM_with 12 = .ok (.iconst 1, 1) := by decide +kernel
theorem dM_with_13 : decode cM_with 13 = .ok (.isub, 1) := by decide +kernel
theorem dM_with_14 : decode cM_with 14 = .ok (.ireturn, 1) := by decide +kernel
abbrev cM_released : ByteArray := prog_9_method_13_code
abbrev yM_released : MethodName := ⟨"DrawingVaultModel", "released", "(I)I"⟩
theorem dM_released_0 : decode cM_released 0 = .ok (.iconst (-1), 1) := by decide +kernel
theorem dM_released_1 : decode cM_released 1 = .ok (.istore_n 2, 1) := by decide +kernel
theorem dM_released_2 : decode cM_released 2 = .ok (.iconst 0, 1) := by decide +kernel
theorem dM_released_3 : decode cM_released 3 = .ok (.istore_n 3, 1) := by decide +kernel
theorem dM_released_4 : decode cM_released 4 = .ok (.iload_n 3, 1) := by decide +kernel
theorem dM_released_5 : decode cM_released 5 = .ok (.aload_n 0, 1) := by decide +kernel
theorem dM_released_6 : decode cM_released 6 = .ok (.iload_n 1, 1) := by decide +kernel
theorem dM_released_7 : decode cM_released 7 = .ok (.invokevirtual 47, 3) := by decide +kernel
theorem dM_released_10 : decode cM_released 10 = .ok (.if_icmp .ge 25, 3) := by decide +kernel
theorem dM_released_13 : decode cM_released 13 = .ok (.aload_n 0, 1) := by decide +kernel
theorem dM_released_14 : decode cM_released 14 = .ok (.iload_n 1, 1) := by decide +kernel
theorem dM_released_15 : decode cM_released 15 = .ok (.iload_n 3, 1) := by decide +kernel
theorem dM_released_16 : decode cM_released 16 = .ok (.invokevirtual 54, 3) := by decide +kernel
theorem dM_released_19 : decode cM_released 19 = .ok (.iconst 2, 1) := by decide +kernel
theorem dM_released_20 : decode cM_released 20 = .ok (.if_icmp .ne 7, 3) := by decide +kernel
theorem dM_released_23 : decode cM_released 23 = .ok (.iload_n 3, 1) := by decide +kernel
theorem dM_released_24 : decode cM_released 24 = .ok (.goto 4, 3) := by decide +kernel
theorem dM_released_27 : decode cM_released 27 = .ok (.iload_n 2, 1) := by decide +kernel
theorem dM_released_28 : decode cM_released 28 = .ok (.istore_n 2, 1) := by decide +kernel
theorem dM_released_29 : decode cM_released 29 = .ok (.iinc 3 1, 3) := by decide +kernel
theorem dM_released_32 : decode cM_released 32 = .ok (.goto (-28), 3) := by decide +kernel
theorem dM_released_35 : decode cM_released 35 = .ok (.iload_n 2, 1) := by decide +kernel
theorem dM_released_36 : decode cM_released 36 = .ok (.ireturn, 1) := by decide +kernel
abbrev cM_refDrawing : ByteArray := prog_9_method_14_code
abbrev yM_refDrawing : MethodName := ⟨"DrawingVaultModel", "refDrawing", "(II)I"⟩
theorem dM_refDrawing_0 : decode cM_refDrawing 0 = .ok (.aload_n 0, 1) := by decide +kernel
theorem dM_refDrawing_1 : decode cM_refDrawing 1 = .ok (.getfield 7, 3) := by decide +kernel
theorem dM_refDrawing_4 : decode cM_refDrawing 4 = .ok (.iload_n 1, 1) := by decide +kernel
theorem dM_refDrawing_5 : decode cM_refDrawing 5 = .ok (.iconst 4, 1) := by decide +kernel
theorem dM_refDrawing_6 : decode cM_refDrawing 6 = .ok (.iadd, 1) := by decide +kernel
theorem dM_refDrawing_7 : decode cM_refDrawing 7 = .ok (.iconst 2, 1) := by decide +kernel
theorem dM_refDrawing_8 : decode cM_refDrawing 8 = .ok (.iload_n 2, 1) := by decide +kernel
theorem dM_refDrawing_9 : decode cM_refDrawing 9 = .ok (.imul, 1) := by decide +kernel
theorem dM_refDrawing_10 : decode cM_refDrawing 10 = .ok (.iadd, 1) := by decide +kernel
theorem dM_refDrawing_11 : decode cM_refDrawing 11 = .ok (.iaload, 1) := by decide +kernel
theorem dM_refDrawing_12 : decode cM_refDrawing 12 = .ok (.ireturn, 1) := by decide +kernel
abbrev cM_refRevision : ByteArray := prog_9_method_15_code
abbrev yM_refRevision : MethodName := ⟨"DrawingVaultModel", "refRevision", "(II)I"⟩
theorem dM_refRevision_0 : decode cM_refRevision 0 = .ok (.aload_n 0, 1) := by decide +kernel
theorem dM_refRevision_1 : decode cM_refRevision 1 = .ok (.getfield 7, 3) := by decide +kernel
theorem dM_refRevision_4 : decode cM_refRevision 4 = .ok (.iload_n 1, 1) := by decide +kernel
theorem dM_refRevision_5 : decode cM_refRevision 5 = .ok (.iconst 4, 1) := by decide +kernel
theorem dM_refRevision_6 : decode cM_refRevision 6 = .ok (.iadd, 1) := by decide +kernel
theorem dM_refRevision_7 : decode cM_refRevision 7 = .ok (.iconst 2, 1) := by decide +kernel
theorem dM_refRevision_8 : decode cM_refRevision 8 = .ok (.iload_n 2, 1) := by decide +kernel
theorem dM_refRevision_9 : decode cM_refRevision 9 = .ok (.imul, 1) := by decide +kernel
theorem dM_refRevision_10 : decode cM_refRevision 10 = .ok (.iadd, 1) := by decide +kernel
theorem dM_refRevision_11 : decode cM_refRevision 11 = .ok (.iconst 1, 1) := by decide +kernel
theorem dM_refRevision_12 : decode cM_refRevision 12 = .ok (.iadd, 1) := by decide +kernel
theorem dM_refRevision_13 : decode cM_refRevision 13 = .ok (.iaload, 1) := by decide +kernel
theorem dM_refRevision_14 : decode cM_refRevision 14 = .ok (.ireturn, 1) := by decide +kernel
abbrev cM_resolved : ByteArray := prog_9_method_16_code
abbrev yM_resolved : MethodName := ⟨"DrawingVaultModel", "resolved", "(II)I"⟩
theorem dM_resolved_0 : decode cM_resolved 0 = .ok (.aload_n 0, 1) := by decide +kernel
theorem dM_resolved_1 : decode cM_resolved 1 = .ok (.iload_n 1, 1) := by decide +kernel
theorem dM_resolved_2 : decode cM_resolved 2 = .ok (.iload_n 2, 1) := by decide +kernel
theorem dM_resolved_3 : decode cM_resolved 3 = .ok (.invokevirtual 57, 3) := by decide +kernel
theorem dM_resolved_6 : decode cM_resolved 6 = .ok (.istore_n 3, 1) := by decide +kernel
theorem dM_resolved_7 : decode cM_resolved 7 = .ok (.iload_n 3, 1) := by decide +kernel
theorem dM_resolved_8 : decode cM_resolved 8 = .ok (.iconst (-1), 1) := by decide +kernel
theorem dM_resolved_9 : decode cM_resolved 9 = .ok (.if_icmp .ne 16, 3) := by decide +kernel
theorem dM_resolved_12 : decode cM_resolved 12 = .ok (.aload_n 0, 1) := by decide +kernel
theorem dM_resolved_13 : decode cM_resolved 13 = .ok (.aload_n 0, 1) := by decide +kernel
theorem dM_resolved_14 : decode cM_resolved 14 = .ok (.iload_n 1, 1) := by decide +kernel
theorem dM_resolved_15 : decode cM_resolved 15 = .ok (.iload_n 2, 1) := by decide +kernel
theorem dM_resolved_16 : decode cM_resolved 16 = .ok (.invokevirtual 60, 3) := by decide +kernel
theorem dM_resolved_19 : decode cM_resolved 19 = .ok (.invokevirtual 63, 3) := by decide +kernel
theorem dM_resolved_22 : decode cM_resolved 22 = .ok (.goto 4, 3) := by decide +kernel
theorem dM_resolved_25 : decode cM_resolved 25 = .ok (.iload_n 3, 1) := by decide +kernel
theorem dM_resolved_26 : decode cM_resolved 26 = .ok (.ireturn, 1) := by decide +kernel
abbrev cM_isReleased : ByteArray := prog_9_method_17_code
abbrev yM_isReleased : MethodName := ⟨"DrawingVaultModel", "isReleased", "(II)Z"⟩
theorem dM_isReleased_0 : decode cM_isReleased 0 = .ok (.aload_n 0, 1) := by decide +kernel
theorem dM_isReleased_1 : decode cM_isReleased 1 = .ok (.iload_n 1, 1) := by decide +kernel
theorem dM_isReleased_2 : decode cM_isReleased 2 = .ok (.iload_n 2, 1) := by decide +kernel
theorem dM_isReleased_3 : decode cM_isReleased 3 = .ok (.invokevirtual 66, 3) := by decide +kernel
theorem dM_isReleased_6 : decode cM_isReleased 6 = .ok (.istore_n 3, 1) := by decide +kernel
theorem dM_isReleased_7 : decode cM_isReleased 7 = .ok (.iload_n 3, 1) := by decide +kernel
theorem dM_isReleased_8 : decode cM_isReleased 8 = .ok (.ifCond .lt 22, 3) := by decide +kernel
theorem dM_isReleased_11 : decode cM_isReleased 11 = .ok (.aload_n 0, 1) := by decide +kernel
theorem dM_isReleased_12 : decode cM_isReleased 12 = .ok (.aload_n 0, 1) := by decide +kernel
theorem dM_isReleased_13 : decode cM_isReleased 13 = .ok (.iload_n 1, 1) := by decide +kernel
theorem dM_isReleased_14 : decode cM_isReleased 14 = .ok (.iload_n 2, 1) := by decide +kernel
theorem dM_isReleased_15 : decode cM_isReleased 15 = .ok (.invokevirtual 60, 3) := by decide +kernel
theorem dM_isReleased_18 : decode cM_isReleased 18 = .ok (.iload_n 3, 1) := by decide +kernel
theorem dM_isReleased_19 : decode cM_isReleased 19 = .ok (.invokevirtual 54, 3) := by decide +kernel
theorem dM_isReleased_22 : decode cM_isReleased 22 = .ok (.iconst 2, 1) := by decide +kernel
theorem dM_isReleased_23 : decode cM_isReleased 23 = .ok (.if_icmp .ne 7, 3) := by decide +kernel
theorem dM_isReleased_26 : decode cM_isReleased 26 = .ok (.iconst 1, 1) := by decide +kernel
theorem dM_isReleased_27 : decode cM_isReleased 27 = .ok (.goto 4, 3) := by decide +kernel
theorem dM_isReleased_30 : decode cM_isReleased 30 = .ok (.iconst 0, 1) := by decide +kernel
theorem dM_isReleased_31 : decode cM_isReleased 31 = .ok (.ireturn, 1) := by decide +kernel
abbrev cM_allRevisions : ByteArray := prog_9_method_18_code
abbrev yM_allRevisions : MethodName := ⟨"DrawingVaultModel", "allRevisions", "()I"⟩
theorem dM_allRevisions_0 : decode cM_allRevisions 0 = .ok (.iconst 0, 1) := by decide +kernel
theorem dM_allRevisions_1 : decode cM_allRevisions 1 = .ok (.istore_n 1, 1) := by decide +kernel
theorem dM_allRevisions_2 : decode cM_allRevisions 2 = .ok (.iconst 0, 1) := by decide +kernel
theorem dM_allRevisions_3 : decode cM_allRevisions 3 = .ok (.istore_n 2, 1) := by decide +kernel
theorem dM_allRevisions_4 : decode cM_allRevisions 4 = .ok (.iload_n 2, 1) := by decide +kernel
theorem dM_allRevisions_5 : decode cM_allRevisions 5 = .ok (.aload_n 0, 1) := by decide +kernel
theorem dM_allRevisions_6 : decode cM_allRevisions 6 = .ok (.getfield 7, 3) := by decide +kernel
theorem dM_allRevisions_9 : decode cM_allRevisions 9 = .ok (.bipush 16, 2) := by decide +kernel
theorem dM_allRevisions_11 : decode cM_allRevisions 11 = .ok (.iaload, 1) := by decide +kernel
theorem dM_allRevisions_12 : decode cM_allRevisions 12 = .ok (.if_icmp .ge 17, 3) := by decide +kernel
theorem dM_allRevisions_15 : decode cM_allRevisions 15 = .ok (.iload_n 1, 1) := by decide +kernel
theorem dM_allRevisions_16 : decode cM_allRevisions 16 = .ok (.aload_n 0, 1) := by decide +kernel
theorem dM_allRevisions_17 : decode cM_allRevisions 17 = .ok (.iload_n 2, 1) := by decide +kernel
theorem dM_allRevisions_18 : decode cM_allRevisions 18 = .ok (.invokevirtual 47, 3) := by decide +kernel
theorem dM_allRevisions_21 : decode cM_allRevisions 21 = .ok (.iadd, 1) := by decide +kernel
theorem dM_allRevisions_22 : decode cM_allRevisions 22 = .ok (.istore_n 1, 1) := by decide +kernel
theorem dM_allRevisions_23 : decode cM_allRevisions 23 = .ok (.iinc 2 1, 3) := by decide +kernel
theorem dM_allRevisions_26 : decode cM_allRevisions 26 = .ok (.goto (-22), 3) := by decide +kernel
theorem dM_allRevisions_29 : decode cM_allRevisions 29 = .ok (.iload_n 1, 1) := by decide +kernel
theorem dM_allRevisions_30 : decode cM_allRevisions 30 = .ok (.ireturn, 1) := by decide +kernel
abbrev cM_parts : ByteArray := prog_9_method_19_code
abbrev yM_parts : MethodName := ⟨"DrawingVaultModel", "parts", "(I)I"⟩
theorem dM_parts_0 : decode cM_parts 0 = .ok (.iload_n 0, 1) := by decide +kernel
theorem dM_parts_1 : decode cM_parts 1 = .ok (.bipush 7, 2) := by decide +kernel
theorem dM_parts_3 : decode cM_parts 3 = .ok (.iadd, 1) := by decide +kernel
theorem dM_parts_4 : decode cM_parts 4 = .ok (.bipush 8, 2) := by decide +kernel
theorem dM_parts_6 : decode cM_parts 6 = .ok (.idiv, 1) := by decide +kernel
theorem dM_parts_7 : decode cM_parts 7 = .ok (.ireturn, 1) := by decide +kernel
abbrev cM_pieceLength : ByteArray := prog_9_method_20_code
abbrev yM_pieceLength : MethodName := ⟨"DrawingVaultModel", "pieceLength", "(II)I"⟩
theorem dM_pieceLength_0 : decode cM_pieceLength 0 = .ok (.aload_n 0, 1) := by decide +kernel
theorem dM_pieceLength_1 : decode cM_pieceLength 1 = .ok (.getfield 7, 3) := by decide +kernel
theorem dM_pieceLength_4 : decode cM_pieceLength 4 = .ok (.iload_n 1, 1) := by decide +kernel
theorem dM_pieceLength_5 : decode cM_pieceLength 5 = .ok (.iconst 2, 1) := by decide +kernel
theorem dM_pieceLength_6 : decode cM_pieceLength 6 = .ok (.iadd, 1) := by decide +kernel
theorem dM_pieceLength_7 : decode cM_pieceLength 7 = .ok (.iaload, 1) := by decide +kernel
theorem dM_pieceLength_8 : decode cM_pieceLength 8 = .ok (.bipush 8, 2) := by decide +kernel
theorem dM_pieceLength_10 : decode cM_pieceLength 10 = .ok (.iload_n 2, 1) := by decide +kernel
theorem dM_pieceLength_11 : decode cM_pieceLength 11 = .ok (.imul, 1) := by decide +kernel
theorem dM_pieceLength_12 : decode cM_pieceLength 12 = .ok (.isub, 1) := by decide +kernel
theorem dM_pieceLength_13 : decode cM_pieceLength 13 = .ok (.istore_n 3, 1) := by decide +kernel
theorem dM_pieceLength_14 : decode cM_pieceLength 14 = .ok (.iload_n 3, 1) := by decide +kernel
theorem dM_pieceLength_15 : decode cM_pieceLength 15 = .ok (.bipush 8, 2) := by decide +kernel
theorem dM_pieceLength_17 : decode cM_pieceLength 17 = .ok (.if_icmp .le 8, 3) := by decide +kernel
theorem dM_pieceLength_20 : decode cM_pieceLength 20 = .ok (.bipush 8, 2) := by decide +kernel
theorem dM_pieceLength_22 : decode cM_pieceLength 22 = .ok (.goto 12, 3) := by decide +kernel
theorem dM_pieceLength_25 : decode cM_pieceLength 25 = .ok (.iload_n 3, 1) := by decide +kernel
theorem dM_pieceLength_26 : decode cM_pieceLength 26 = .ok (.ifCond .ge 7, 3) := by decide +kernel
theorem dM_pieceLength_29 : decode cM_pieceLength 29 = .ok (.iconst 0, 1) := by decide +kernel
theorem dM_pieceLength_30 : decode cM_pieceLength 30 = .ok (.goto 4, 3) := by decide +kernel
theorem dM_pieceLength_33 : decode cM_pieceLength 33 = .ok (.iload_n 3, 1) := by decide +kernel
theorem dM_pieceLength_34 : decode cM_pieceLength 34 = .ok (.ireturn, 1) := by decide +kernel
theorem wd_45 : (.fieldLink "DrawingVaultModel" 33 "DrawingVaultModel" "thrown" "I" : Cond) ∈ aw := aw_in (tb_4 (List.mem_of_getElem? (i := 30) rfl)) rfl
theorem wd_46 : (.code ⟨"DrawingVaultModel", "isPerson", "(I)Z"⟩ prog_9_method_4_code 2 (Option.some .boolean) : Cond) ∈ aw := aw_in (tb_4 (List.mem_of_getElem? (i := 76) rfl)) rfl
theorem wd_47 : (.methodLink "DrawingVaultModel" 36 ⟨"DrawingVaultModel", "isPerson", "(I)Z"⟩ : Cond) ∈ aw := aw_in (tb_4 (List.mem_of_getElem? (i := 73) rfl)) rfl
theorem wd_48 : (.instanceMethod ⟨"DrawingVaultModel", "isPerson", "(I)Z"⟩ : Cond) ∈ aw := aw_in (tb_4 (List.mem_of_getElem? (i := 75) rfl)) rfl
theorem wd_49 : (.selects "DrawingVaultModel" ⟨"DrawingVaultModel", "isPerson", "(I)Z"⟩ ⟨"DrawingVaultModel", "isPerson", "(I)Z"⟩ : Cond) ∈ aw := aw_in (tb_s (q := (⟨"DrawingVaultModel", "isPerson", "(I)Z"⟩, _)) (List.mem_append_right _ (List.mem_append_right _ (List.mem_append_left _ (List.mem_of_getElem? (i := 4) rfl))))) rfl
theorem wd_50 : (.initialized "DrawingVaultModel" : Cond) ∈ aw := aw_in (tb_1 (List.mem_of_getElem? (i := 6) rfl)) rfl
theorem wd_51 : (.fieldLink "DrawingVaultModel" 7 "DrawingVaultModel" "now" "[I" : Cond) ∈ aw := aw_in (tb_4 (List.mem_of_getElem? (i := 32) rfl)) rfl
theorem wd_52 : (.code ⟨"DrawingVaultModel", "drawingAt", "(I)I"⟩ prog_9_method_7_code 2 (Option.some .int) : Cond) ∈ aw := aw_in (tb_4 (List.mem_of_getElem? (i := 100) rfl)) rfl
theorem wd_53 : (.methodLink "DrawingVaultModel" 40 ⟨"DrawingVaultModel", "drawingAt", "(I)I"⟩ : Cond) ∈ aw := aw_in (tb_4 (List.mem_of_getElem? (i := 97) rfl)) rfl
theorem wd_54 : (.instanceMethod ⟨"DrawingVaultModel", "drawingAt", "(I)I"⟩ : Cond) ∈ aw := aw_in (tb_4 (List.mem_of_getElem? (i := 99) rfl)) rfl
theorem wd_55 : (.selects "DrawingVaultModel" ⟨"DrawingVaultModel", "drawingAt", "(I)I"⟩ ⟨"DrawingVaultModel", "drawingAt", "(I)I"⟩ : Cond) ∈ aw := aw_in (tb_s (q := (⟨"DrawingVaultModel", "drawingAt", "(I)I"⟩, _)) (List.mem_append_right _ (List.mem_append_right _ (List.mem_append_left _ (List.mem_of_getElem? (i := 10) rfl))))) rfl
theorem wd_56 : (.code ⟨"DrawingVaultModel", "isDrawing", "(I)Z"⟩ prog_9_method_6_code 2 (Option.some .boolean) : Cond) ∈ aw := aw_in (tb_4 (List.mem_of_getElem? (i := 112) rfl)) rfl
theorem wd_57 : (.methodLink "DrawingVaultModel" 44 ⟨"DrawingVaultModel", "isDrawing", "(I)Z"⟩ : Cond) ∈ aw := aw_in (tb_4 (List.mem_of_getElem? (i := 109) rfl)) rfl
theorem wd_58 : (.instanceMethod ⟨"DrawingVaultModel", "isDrawing", "(I)Z"⟩ : Cond) ∈ aw := aw_in (tb_4 (List.mem_of_getElem? (i := 111) rfl)) rfl
theorem wd_59 : (.selects "DrawingVaultModel" ⟨"DrawingVaultModel", "isDrawing", "(I)Z"⟩ ⟨"DrawingVaultModel", "isDrawing", "(I)Z"⟩ : Cond) ∈ aw := aw_in (tb_s (q := (⟨"DrawingVaultModel", "isDrawing", "(I)Z"⟩, _)) (List.mem_append_right _ (List.mem_append_right _ (List.mem_append_left _ (List.mem_of_getElem? (i := 13) rfl))))) rfl
theorem wd_60 : (.code ⟨"DrawingVaultModel", "made", "(I)I"⟩ prog_9_method_8_code 2 (Option.some .int) : Cond) ∈ aw := aw_in (tb_4 (List.mem_of_getElem? (i := 96) rfl)) rfl
theorem wd_61 : (.methodLink "DrawingVaultModel" 47 ⟨"DrawingVaultModel", "made", "(I)I"⟩ : Cond) ∈ aw := aw_in (tb_4 (List.mem_of_getElem? (i := 93) rfl)) rfl
theorem wd_62 : (.instanceMethod ⟨"DrawingVaultModel", "made", "(I)I"⟩ : Cond) ∈ aw := aw_in (tb_4 (List.mem_of_getElem? (i := 95) rfl)) rfl
theorem wd_63 : (.selects "DrawingVaultModel" ⟨"DrawingVaultModel", "made", "(I)I"⟩ ⟨"DrawingVaultModel", "made", "(I)I"⟩ : Cond) ∈ aw := aw_in (tb_s (q := (⟨"DrawingVaultModel", "made", "(I)I"⟩, _)) (List.mem_append_right _ (List.mem_append_right _ (List.mem_append_left _ (List.mem_of_getElem? (i := 9) rfl))))) rfl
theorem wd_64 : (.code ⟨"DrawingVaultModel", "revisionAt", "(II)I"⟩ prog_9_method_10_code 3 (Option.some .int) : Cond) ∈ aw := aw_in (tb_4 (List.mem_of_getElem? (i := 124) rfl)) rfl
theorem wd_65 : (.methodLink "DrawingVaultModel" 50 ⟨"DrawingVaultModel", "revisionAt", "(II)I"⟩ : Cond) ∈ aw := aw_in (tb_4 (List.mem_of_getElem? (i := 121) rfl)) rfl
theorem wd_66 : (.instanceMethod ⟨"DrawingVaultModel", "revisionAt", "(II)I"⟩ : Cond) ∈ aw := aw_in (tb_4 (List.mem_of_getElem? (i := 123) rfl)) rfl
theorem wd_67 : (.selects "DrawingVaultModel" ⟨"DrawingVaultModel", "revisionAt", "(II)I"⟩ ⟨"DrawingVaultModel", "revisionAt", "(II)I"⟩ : Cond) ∈ aw := aw_in (tb_s (q := (⟨"DrawingVaultModel", "revisionAt", "(II)I"⟩, _)) (List.mem_append_right _ (List.mem_append_right _ (List.mem_append_right _ (List.mem_append_left _ (List.mem_of_getElem? (i := 0) rfl)))))) rfl
theorem wd_68 : (.code ⟨"DrawingVaultModel", "stateOf", "(II)I"⟩ prog_9_method_11_code 3 (Option.some .int) : Cond) ∈ aw := aw_in (tb_5 (List.mem_of_getElem? (i := 2) rfl)) rfl
theorem wd_69 : (.methodLink "DrawingVaultModel" 54 ⟨"DrawingVaultModel", "stateOf", "(II)I"⟩ : Cond) ∈ aw := aw_in (tb_4 (List.mem_of_getElem? (i := 239) rfl)) rfl
theorem wd_70 : (.instanceMethod ⟨"DrawingVaultModel", "stateOf", "(II)I"⟩ : Cond) ∈ aw := aw_in (tb_5 (List.mem_of_getElem? (i := 1) rfl)) rfl
theorem wd_71 : (.selects "DrawingVaultModel" ⟨"DrawingVaultModel", "stateOf", "(II)I"⟩ ⟨"DrawingVaultModel", "stateOf", "(II)I"⟩ : Cond) ∈ aw := aw_in (tb_s (q := (⟨"DrawingVaultModel", "stateOf", "(II)I"⟩, _)) (List.mem_append_right _ (List.mem_append_right _ (List.mem_append_right _ (List.mem_append_right _ (List.mem_of_getElem? (i := 3) rfl)))))) rfl
theorem wd_72 : (.code ⟨"DrawingVaultModel", "refRevision", "(II)I"⟩ prog_9_method_15_code 3 (Option.some .int) : Cond) ∈ aw := aw_in (tb_4 (List.mem_of_getElem? (i := 226) rfl)) rfl
theorem wd_73 : (.methodLink "DrawingVaultModel" 57 ⟨"DrawingVaultModel", "refRevision", "(II)I"⟩ : Cond) ∈ aw := aw_in (tb_4 (List.mem_of_getElem? (i := 223) rfl)) rfl
theorem wd_74 : (.instanceMethod ⟨"DrawingVaultModel", "refRevision", "(II)I"⟩ : Cond) ∈ aw := aw_in (tb_4 (List.mem_of_getElem? (i := 225) rfl)) rfl
theorem wd_75 : (.selects "DrawingVaultModel" ⟨"DrawingVaultModel", "refRevision", "(II)I"⟩ ⟨"DrawingVaultModel", "refRevision", "(II)I"⟩ : Cond) ∈ aw := aw_in (tb_s (q := (⟨"DrawingVaultModel", "refRevision", "(II)I"⟩, _)) (List.mem_append_right _ (List.mem_append_right _ (List.mem_append_right _ (List.mem_append_right _ (List.mem_of_getElem? (i := 0) rfl)))))) rfl
theorem wd_76 : (.code ⟨"DrawingVaultModel", "refDrawing", "(II)I"⟩ prog_9_method_14_code 3 (Option.some .int) : Cond) ∈ aw := aw_in (tb_4 (List.mem_of_getElem? (i := 218) rfl)) rfl
theorem wd_77 : (.methodLink "DrawingVaultModel" 60 ⟨"DrawingVaultModel", "refDrawing", "(II)I"⟩ : Cond) ∈ aw := aw_in (tb_4 (List.mem_of_getElem? (i := 215) rfl)) rfl
theorem wd_78 : (.instanceMethod ⟨"DrawingVaultModel", "refDrawing", "(II)I"⟩ : Cond) ∈ aw := aw_in (tb_4 (List.mem_of_getElem? (i := 217) rfl)) rfl
theorem wd_79 : (.selects "DrawingVaultModel" ⟨"DrawingVaultModel", "refDrawing", "(II)I"⟩ ⟨"DrawingVaultModel", "refDrawing", "(II)I"⟩ : Cond) ∈ aw := aw_in (tb_s (q := (⟨"DrawingVaultModel", "refDrawing", "(II)I"⟩, _)) (List.mem_append_right _ (List.mem_append_right _ (List.mem_append_right _ (List.mem_append_left _ (List.mem_of_getElem? (i := 14) rfl)))))) rfl
theorem wd_80 : (.code ⟨"DrawingVaultModel", "released", "(I)I"⟩ prog_9_method_13_code 4 (Option.some .int) : Cond) ∈ aw := aw_in (tb_5 (List.mem_of_getElem? (i := 22) rfl)) rfl
theorem wd_81 : (.methodLink "DrawingVaultModel" 63 ⟨"DrawingVaultModel", "released", "(I)I"⟩ : Cond) ∈ aw := aw_in (tb_5 (List.mem_of_getElem? (i := 19) rfl)) rfl
theorem wd_82 : (.instanceMethod ⟨"DrawingVaultModel", "released", "(I)I"⟩ : Cond) ∈ aw := aw_in (tb_5 (List.mem_of_getElem? (i := 21) rfl)) rfl
theorem wd_83 : (.selects "DrawingVaultModel" ⟨"DrawingVaultModel", "released", "(I)I"⟩ ⟨"DrawingVaultModel", "released", "(I)I"⟩ : Cond) ∈ aw := aw_in (tb_s (q := (⟨"DrawingVaultModel", "released", "(I)I"⟩, _)) (List.mem_append_right _ (List.mem_append_right _ (List.mem_append_right _ (List.mem_append_right _ (List.mem_of_getElem? (i := 7) rfl)))))) rfl
theorem wd_84 : (.code ⟨"DrawingVaultModel", "resolved", "(II)I"⟩ prog_9_method_16_code 4 (Option.some .int) : Cond) ∈ aw := aw_in (tb_5 (List.mem_of_getElem? (i := 18) rfl)) rfl
theorem wd_85 : (.methodLink "DrawingVaultModel" 66 ⟨"DrawingVaultModel", "resolved", "(II)I"⟩ : Cond) ∈ aw := aw_in (tb_5 (List.mem_of_getElem? (i := 15) rfl)) rfl
theorem wd_86 : (.instanceMethod ⟨"DrawingVaultModel", "resolved", "(II)I"⟩ : Cond) ∈ aw := aw_in (tb_5 (List.mem_of_getElem? (i := 17) rfl)) rfl
theorem wd_87 : (.selects "DrawingVaultModel" ⟨"DrawingVaultModel", "resolved", "(II)I"⟩ ⟨"DrawingVaultModel", "resolved", "(II)I"⟩ : Cond) ∈ aw := aw_in (tb_s (q := (⟨"DrawingVaultModel", "resolved", "(II)I"⟩, _)) (List.mem_append_right _ (List.mem_append_right _ (List.mem_append_right _ (List.mem_append_right _ (List.mem_of_getElem? (i := 6) rfl)))))) rfl

def M_thrown (σ : hT) : Int32 := (xI σ 500 0 0)
set_option maxHeartbeats 4000000 in
set_option maxRecDepth 100000 in
theorem t_M_thrown (l : Launch) (dC : Nat → ClassId) (dI : Nat → Nat → Nat) (ad : Nat → Nat → Nat) (ca : Nat → Nat → ClassId) (dom : List (Nat × Nat)) (σ : hT) (hm0 : (4, 0) ∈ dom) (hN : dom.Nodup) (hC : clo dom σ.2.2) (ρ : Int32) (hf : M_thrown σ = ρ) : Met l yM_thrown (.code yM_thrown cM_thrown 1 (some .int) :: aw) ({ frames := 0, cells := 0, slots := 0, locals := 0 }) (hR (dC, dI) ad ca dom σ [.ref (ad 4 0)]) (vp_Si (fun r => r = ρ)) 0 0 (fun _ => False) := by
  refine Met.ofW (cc := cM_thrown) (maxL := 1) (ret := (some .int)) (by decide) rfl ?_
  intro p e s m args below meth c s₁ B hml hv
  obtain ⟨rfl, hv⟩ := hv
  have hx := B.exec
  have hb := B.bytes
  have hr := B.returns
  have hts : ∀ w ∈ aw, w.before _ s = true := fun w h => atoms_spec (ws := (.code yM_thrown cM_thrown 1 (some .int) :: aw)) B.pre w (List.mem_cons_of_mem _ h)
  have hown : s.vm.findClass RM = some m.cls := findClass_of_methodNamed B.named
  have hlocks := B.notSynchronized
  obtain ⟨hP, hK, hG⟩ := hv
  obtain ⟨H, hH⟩ : ∃ H, H = s.heap := ⟨_, rfl⟩
  rw [← hH] at hP ⊢
  unfold M_thrown at hf
  have hl := lv_entry ([.ref (ad 4 0)]) (n := 1) (Nat.le_of_ble_eq_true rfl)
  rw [lg_entry_eq]
  generalize (lg_sl ([.ref (ad 4 0)]) ++ List.replicate (1 - (lg_sl ([.ref (ad 4 0)])).length) Slot.unset).toArray = ls at hl ⊢
  have hl : lv_has ls 1 [(0, .ref (ad 4 0))] := hl
  refine lv_aload_n (pc := 0) hx hb dM_thrown_0 rfl (lv_at hl 0 rfl) ?_
  obtain ⟨q1, hq1, eq1⟩ := at_4 (ad := ad) (ca := ca) (σ := σ) hm0
  refine va_get (D := (dC, dI)) (cl := kCl) (C := RM) (T := TM) (N := 11) (pc := 1) hx hb hts inM hown hK.1 hP q1 eq1 rfl 0 (by decide) (hts _ wd_45) (fun _ h9 => h9) rfl dM_thrown_1 ?_
  exact W.iret (pc := 4) hx hb hr (fun t ht hW => ⟨_, rfl, hf, ht.trans hH⟩) (fun q h => nomatch h) dM_thrown_4
def M_isPerson (a1 : Int32) : Int32 := if a1 < 0 then 0 else if 16 ≤ a1 then 0 else 1
set_option maxHeartbeats 4000000 in
set_option maxRecDepth 100000 in
theorem t_M_isPerson (l : Launch) (dC : Nat → ClassId) (dI : Nat → Nat → Nat) (ad : Nat → Nat → Nat) (ca : Nat → Nat → ClassId) (dom : List (Nat × Nat)) (a1 : Int32) (hm0 : (4, 0) ∈ dom) (σ : hT) (hN : dom.Nodup) (hC : clo dom σ.2.2) (ρ : Int32) (hf : M_isPerson a1 = ρ) : Met l yM_isPerson (.code yM_isPerson cM_isPerson 2 (some .boolean) :: aw) ({ frames := 0, cells := 0, slots := 0, locals := 0 }) (hR (dC, dI) ad ca dom σ [.ref (ad 4 0), .int a1]) (vp_Si (fun r => r = ρ)) 0 0 (fun _ => False) := by
  refine Met.ofW (cc := cM_isPerson) (maxL := 2) (ret := (some .boolean)) (by decide) rfl ?_
  intro p e s m args below meth c s₁ B hml hv
  obtain ⟨rfl, hv⟩ := hv
  have hx := B.exec
  have hb := B.bytes
  have hr := B.returns
  have hts : ∀ w ∈ aw, w.before _ s = true := fun w h => atoms_spec (ws := (.code yM_isPerson cM_isPerson 2 (some .boolean) :: aw)) B.pre w (List.mem_cons_of_mem _ h)
  have hown : s.vm.findClass RM = some m.cls := findClass_of_methodNamed B.named
  have hlocks := B.notSynchronized
  obtain ⟨hP, hK, hG⟩ := hv
  obtain ⟨H, hH⟩ : ∃ H, H = s.heap := ⟨_, rfl⟩
  rw [← hH] at hP ⊢
  unfold M_isPerson at hf
  have hl := lv_entry ([.ref (ad 4 0), .int a1]) (n := 2) (Nat.le_of_ble_eq_true rfl)
  rw [lg_entry_eq]
  generalize (lg_sl ([.ref (ad 4 0), .int a1]) ++ List.replicate (2 - (lg_sl ([.ref (ad 4 0), .int a1])).length) Slot.unset).toArray = ls at hl ⊢
  have hl : lv_has ls 2 [(0, .ref (ad 4 0)), (1, .int a1)] := hl
  refine lv_iload_n (pc := 0) hx hb dM_isPerson_0 rfl (lv_at hl 1 rfl) ?_
  refine lv_if_lt (pc := 1) (tgt := 14) hx hb dM_isPerson_1 rfl (fun h1 => ?_) (fun h1 => ?_)
  · replace hf := ite_t h1 hf
    refine lv_iconst (pc := 14) (v := 0) hx hb dM_isPerson_14 (by decide) ?_
    exact W.zret (pc := 15) hx hb hr (rfl) (fun t ht hW => ⟨_, rfl, hf, ht.trans hH⟩) (fun q h => nomatch h) dM_isPerson_15
  · replace hf := ite_f h1 hf
    refine lv_iload_n (pc := 4) hx hb dM_isPerson_4 rfl (lv_at hl 1 rfl) ?_
    refine lv_bipush (pc := 5) (v := 16) hx hb dM_isPerson_5 (by decide) ?_
    refine lv_icmp_ge (pc := 7) (tgt := 14) hx hb dM_isPerson_7 rfl (fun h2 => ?_) (fun h2 => ?_)
    · replace hf := ite_t h2 hf
      refine lv_iconst (pc := 14) (v := 0) hx hb dM_isPerson_14 (by decide) ?_
      exact W.zret (pc := 15) hx hb hr (rfl) (fun t ht hW => ⟨_, rfl, hf, ht.trans hH⟩) (fun q h => nomatch h) dM_isPerson_15
    · replace hf := ite_f h2 hf
      refine lv_iconst (pc := 10) (v := 1) hx hb dM_isPerson_10 (by decide) ?_
      refine lv_goto (pc := 11) (tgt := 15) hx hb dM_isPerson_11 rfl ?_
      exact W.zret (pc := 15) hx hb hr (rfl) (fun t ht hW => ⟨_, rfl, hf, ht.trans hH⟩) (fun q h => nomatch h) dM_isPerson_15
def M_rights (σ : hT) (a1 : Int32) : Option (Int32) := if (M_isPerson a1) = 0 then some 0 else if in9 a1 25240 then some (xI σ 15 0 (a1).toNatClampNeg) else none
set_option maxHeartbeats 4000000 in
set_option maxRecDepth 100000 in
theorem t_M_rights (l : Launch) (dC : Nat → ClassId) (dI : Nat → Nat → Nat) (ad : Nat → Nat → Nat) (ca : Nat → Nat → ClassId) (dom : List (Nat × Nat)) (σ : hT) (a1 : Int32) (hm0 : (4, 0) ∈ dom) (hN : dom.Nodup) (hC : clo dom σ.2.2) (ρ : Int32) (hf : M_rights σ a1 = some ρ) : Met l yM_rights (.code yM_rights cM_rights 2 (some .int) :: aw) ({ frames := 1, cells := 0, slots := 0, locals := 21 }) (hR (dC, dI) ad ca dom σ [.ref (ad 4 0), .int a1]) (vp_Si (fun r => r = ρ)) 0 0 (fun _ => False) := by
  refine Met.ofW (cc := cM_rights) (maxL := 2) (ret := (some .int)) (by decide) rfl ?_
  intro p e s m args below meth c s₁ B hml hv
  obtain ⟨rfl, hv⟩ := hv
  have hx := B.exec
  have hb := B.bytes
  have hr := B.returns
  have hts : ∀ w ∈ aw, w.before _ s = true := fun w h => atoms_spec (ws := (.code yM_rights cM_rights 2 (some .int) :: aw)) B.pre w (List.mem_cons_of_mem _ h)
  have hown : s.vm.findClass RM = some m.cls := findClass_of_methodNamed B.named
  have hlocks := B.notSynchronized
  obtain ⟨hP, hK, hG⟩ := hv
  obtain ⟨H, hH⟩ : ∃ H, H = s.heap := ⟨_, rfl⟩
  rw [← hH] at hP ⊢
  unfold M_rights at hf
  have hl := lv_entry ([.ref (ad 4 0), .int a1]) (n := 2) (Nat.le_of_ble_eq_true rfl)
  rw [lg_entry_eq]
  generalize (lg_sl ([.ref (ad 4 0), .int a1]) ++ List.replicate (2 - (lg_sl ([.ref (ad 4 0), .int a1])).length) Slot.unset).toArray = ls at hl ⊢
  have hl : lv_has ls 2 [(0, .ref (ad 4 0)), (1, .int a1)] := hl
  refine lv_aload_n (pc := 0) hx hb dM_rights_0 rfl (lv_at hl 0 rfl) ?_
  refine lv_iload_n (pc := 1) hx hb dM_rights_1 rfl (lv_at hl 1 rfl) ?_
  obtain ⟨q1, hq1, eq1⟩ := at_4 (ad := ad) (ca := ca) (σ := σ) hm0
  refine vp_callSi (pc := 2) (W.runV (As := [.int a1]) (rest := []) ⟨hx, hb, hml, hown, hts⟩ (t_M_isPerson l dC dI ad ca dom a1 hm0 σ hN hC (M_isPerson a1) rfl) (cwV 1 hts (gV wd_47 wd_48 wd_49 wd_50 wd_46) rfl rfl rfl (by decide +kernel) ⟨Nat.le_of_ble_eq_true rfl, Nat.le_of_ble_eq_true rfl⟩) ⟨hR_blind, va_recv (q := (RM, TM, 11)) (q0 := q1) (ci := 4) hK.1 hP rfl eq1, hR_pre hP hK hG⟩ rfl rfl hl.1 rfl (lv_room (Nat.le_of_ble_eq_true rfl)) dM_rights_2 ⟨Nat.le_of_ble_eq_true rfl, Nat.le_of_ble_eq_true rfl⟩) (fun r9 hr9 => ?_)
  refine W.eq (g2 := F0 m 5 ls [.int (M_isPerson a1)]) (by rw [hr9]) ?_
  refine lv_if_eq (pc := 5) (tgt := 17) hx hb dM_rights_5 rfl (fun h2 => ?_) (fun h2 => ?_)
  · replace hf := ite_t h2 hf
    refine lv_iconst (pc := 17) (v := 0) hx hb dM_rights_17 (by decide) ?_
    exact W.iret (pc := 18) hx hb hr (fun t ht hW => ⟨_, rfl, (Option.some.inj hf), ht.trans hH⟩) (fun q h => nomatch h) dM_rights_18
  · replace hf := ite_f h2 hf
    refine lv_aload_n (pc := 8) hx hb dM_rights_8 rfl (lv_at hl 0 rfl) ?_
    obtain ⟨q3, hq3, eq3⟩ := at_4 (ad := ad) (ca := ca) (σ := σ) hm0
    refine va_get (D := (dC, dI)) (cl := kCl) (C := RM) (T := TM) (N := 11) (pc := 9) hx hb hts inM hown hK.1 hP q3 eq3 rfl 2 (by decide) (hts _ wd_51) (fun _ h9 => h9) rfl dM_rights_9 ?_
    refine lv_iload_n (pc := 12) hx hb dM_rights_12 rfl (lv_at hl 1 rfl) ?_
    obtain ⟨hv4, hf⟩ := ite_s hf
    obtain ⟨q5, hq5, eq5⟩ := at_15 (ad := ad) (ca := ca) (σ := σ) (cm_4_2 hC hm0)
    refine va_iald (D := (dC, dI)) (cl := kCl) (pc := 13) hx hb (hK.2 15 0 .int (cm_4_2 hC hm0) rfl) hP q5 0 eq5 rfl (hv4) dM_rights_13 ?_
    refine W.eq (g2 := F0 m 14 ls [.int (xI σ 15 0 (a1).toNatClampNeg)]) rfl ?_
    refine lv_goto (pc := 14) (tgt := 18) hx hb dM_rights_14 rfl ?_
    exact W.iret (pc := 18) hx hb hr (fun t ht hW => ⟨_, rfl, (Option.some.inj hf), ht.trans hH⟩) (fun q h => nomatch h) dM_rights_18
def M_isDrawing (σ : hT) (a1 : Int32) : Option (Int32) := if a1 < 0 then some 0 else if (xI σ 15 0 16) ≤ a1 then some 0 else some 1
set_option maxHeartbeats 4000000 in
set_option maxRecDepth 100000 in
theorem t_M_isDrawing (l : Launch) (dC : Nat → ClassId) (dI : Nat → Nat → Nat) (ad : Nat → Nat → Nat) (ca : Nat → Nat → ClassId) (dom : List (Nat × Nat)) (σ : hT) (a1 : Int32) (hm0 : (4, 0) ∈ dom) (hN : dom.Nodup) (hC : clo dom σ.2.2) (ρ : Int32) (hf : M_isDrawing σ a1 = some ρ) : Met l yM_isDrawing (.code yM_isDrawing cM_isDrawing 2 (some .boolean) :: aw) ({ frames := 0, cells := 0, slots := 0, locals := 0 }) (hR (dC, dI) ad ca dom σ [.ref (ad 4 0), .int a1]) (vp_Si (fun r => r = ρ)) 0 0 (fun _ => False) := by
  refine Met.ofW (cc := cM_isDrawing) (maxL := 2) (ret := (some .boolean)) (by decide) rfl ?_
  intro p e s m args below meth c s₁ B hml hv
  obtain ⟨rfl, hv⟩ := hv
  have hx := B.exec
  have hb := B.bytes
  have hr := B.returns
  have hts : ∀ w ∈ aw, w.before _ s = true := fun w h => atoms_spec (ws := (.code yM_isDrawing cM_isDrawing 2 (some .boolean) :: aw)) B.pre w (List.mem_cons_of_mem _ h)
  have hown : s.vm.findClass RM = some m.cls := findClass_of_methodNamed B.named
  have hlocks := B.notSynchronized
  obtain ⟨hP, hK, hG⟩ := hv
  obtain ⟨H, hH⟩ : ∃ H, H = s.heap := ⟨_, rfl⟩
  rw [← hH] at hP ⊢
  unfold M_isDrawing at hf
  have hl := lv_entry ([.ref (ad 4 0), .int a1]) (n := 2) (Nat.le_of_ble_eq_true rfl)
  rw [lg_entry_eq]
  generalize (lg_sl ([.ref (ad 4 0), .int a1]) ++ List.replicate (2 - (lg_sl ([.ref (ad 4 0), .int a1])).length) Slot.unset).toArray = ls at hl ⊢
  have hl : lv_has ls 2 [(0, .ref (ad 4 0)), (1, .int a1)] := hl
  refine lv_iload_n (pc := 0) hx hb dM_isDrawing_0 rfl (lv_at hl 1 rfl) ?_
  refine lv_if_lt (pc := 1) (tgt := 19) hx hb dM_isDrawing_1 rfl (fun h1 => ?_) (fun h1 => ?_)
  · replace hf := ite_t h1 hf
    refine lv_iconst (pc := 19) (v := 0) hx hb dM_isDrawing_19 (by decide) ?_
    exact W.zret (pc := 20) hx hb hr (rfl) (fun t ht hW => ⟨_, rfl, (Option.some.inj hf), ht.trans hH⟩) (fun q h => nomatch h) dM_isDrawing_20
  · replace hf := ite_f h1 hf
    refine lv_iload_n (pc := 4) hx hb dM_isDrawing_4 rfl (lv_at hl 1 rfl) ?_
    refine lv_aload_n (pc := 5) hx hb dM_isDrawing_5 rfl (lv_at hl 0 rfl) ?_
    obtain ⟨q2, hq2, eq2⟩ := at_4 (ad := ad) (ca := ca) (σ := σ) hm0
    refine va_get (D := (dC, dI)) (cl := kCl) (C := RM) (T := TM) (N := 11) (pc := 6) hx hb hts inM hown hK.1 hP q2 eq2 rfl 2 (by decide) (hts _ wd_51) (fun _ h9 => h9) rfl dM_isDrawing_6 ?_
    refine lv_bipush (pc := 9) (v := 16) hx hb dM_isDrawing_9 (by decide) ?_
    obtain ⟨q3, hq3, eq3⟩ := at_15 (ad := ad) (ca := ca) (σ := σ) (cm_4_2 hC hm0)
    refine va_iald (D := (dC, dI)) (cl := kCl) (pc := 11) hx hb (hK.2 15 0 .int (cm_4_2 hC hm0) rfl) hP q3 0 eq3 rfl (vp_in_lit 16 25240 (by decide)) dM_isDrawing_11 ?_
    refine W.eq (g2 := F0 m 12 ls [.int (xI σ 15 0 16), .int a1]) rfl ?_
    refine lv_icmp_ge (pc := 12) (tgt := 19) hx hb dM_isDrawing_12 rfl (fun h4 => ?_) (fun h4 => ?_)
    · replace hf := ite_t h4 hf
      refine lv_iconst (pc := 19) (v := 0) hx hb dM_isDrawing_19 (by decide) ?_
      exact W.zret (pc := 20) hx hb hr (rfl) (fun t ht hW => ⟨_, rfl, (Option.some.inj hf), ht.trans hH⟩) (fun q h => nomatch h) dM_isDrawing_20
    · replace hf := ite_f h4 hf
      refine lv_iconst (pc := 15) (v := 1) hx hb dM_isDrawing_15 (by decide) ?_
      refine lv_goto (pc := 16) (tgt := 20) hx hb dM_isDrawing_16 rfl ?_
      exact W.zret (pc := 20) hx hb hr (rfl) (fun t ht hW => ⟨_, rfl, (Option.some.inj hf), ht.trans hH⟩) (fun q h => nomatch h) dM_isDrawing_20
def M_drawingAt (a1 : Int32) : Int32 := (20 + (80 * a1))
set_option maxHeartbeats 4000000 in
set_option maxRecDepth 100000 in
theorem t_M_drawingAt (l : Launch) (dC : Nat → ClassId) (dI : Nat → Nat → Nat) (ad : Nat → Nat → Nat) (ca : Nat → Nat → ClassId) (dom : List (Nat × Nat)) (a1 : Int32) (hm0 : (4, 0) ∈ dom) (σ : hT) (hN : dom.Nodup) (hC : clo dom σ.2.2) (ρ : Int32) (hf : M_drawingAt a1 = ρ) : Met l yM_drawingAt (.code yM_drawingAt cM_drawingAt 2 (some .int) :: aw) ({ frames := 0, cells := 0, slots := 0, locals := 0 }) (hR (dC, dI) ad ca dom σ [.ref (ad 4 0), .int a1]) (vp_Si (fun r => r = ρ)) 0 0 (fun _ => False) := by
  refine Met.ofW (cc := cM_drawingAt) (maxL := 2) (ret := (some .int)) (by decide) rfl ?_
  intro p e s m args below meth c s₁ B hml hv
  obtain ⟨rfl, hv⟩ := hv
  have hx := B.exec
  have hb := B.bytes
  have hr := B.returns
  have hts : ∀ w ∈ aw, w.before _ s = true := fun w h => atoms_spec (ws := (.code yM_drawingAt cM_drawingAt 2 (some .int) :: aw)) B.pre w (List.mem_cons_of_mem _ h)
  have hown : s.vm.findClass RM = some m.cls := findClass_of_methodNamed B.named
  have hlocks := B.notSynchronized
  obtain ⟨hP, hK, hG⟩ := hv
  obtain ⟨H, hH⟩ : ∃ H, H = s.heap := ⟨_, rfl⟩
  rw [← hH] at hP ⊢
  unfold M_drawingAt at hf
  have hl := lv_entry ([.ref (ad 4 0), .int a1]) (n := 2) (Nat.le_of_ble_eq_true rfl)
  rw [lg_entry_eq]
  generalize (lg_sl ([.ref (ad 4 0), .int a1]) ++ List.replicate (2 - (lg_sl ([.ref (ad 4 0), .int a1])).length) Slot.unset).toArray = ls at hl ⊢
  have hl : lv_has ls 2 [(0, .ref (ad 4 0)), (1, .int a1)] := hl
  refine lv_bipush (pc := 0) (v := 20) hx hb dM_drawingAt_0 (by decide) ?_
  refine lv_bipush (pc := 2) (v := 80) hx hb dM_drawingAt_2 (by decide) ?_
  refine lv_iload_n (pc := 4) hx hb dM_drawingAt_4 rfl (lv_at hl 1 rfl) ?_
  refine lv_imul (pc := 5) hx hb dM_drawingAt_5 ?_
  refine lv_iadd (pc := 6) hx hb dM_drawingAt_6 ?_
  exact W.iret (pc := 7) hx hb hr (fun t ht hW => ⟨_, rfl, hf, ht.trans hH⟩) (fun q h => nomatch h) dM_drawingAt_7
def M_made (σ : hT) (a1 : Int32) : Option (Int32) := if in9 ((M_drawingAt a1) + 0) 25240 then some (xI σ 15 0 (((M_drawingAt a1) + 0)).toNatClampNeg) else none
set_option maxHeartbeats 4000000 in
set_option maxRecDepth 100000 in
theorem t_M_made (l : Launch) (dC : Nat → ClassId) (dI : Nat → Nat → Nat) (ad : Nat → Nat → Nat) (ca : Nat → Nat → ClassId) (dom : List (Nat × Nat)) (σ : hT) (a1 : Int32) (hm0 : (4, 0) ∈ dom) (hN : dom.Nodup) (hC : clo dom σ.2.2) (ρ : Int32) (hf : M_made σ a1 = some ρ) : Met l yM_made (.code yM_made cM_made 2 (some .int) :: aw) ({ frames := 1, cells := 0, slots := 0, locals := 21 }) (hR (dC, dI) ad ca dom σ [.ref (ad 4 0), .int a1]) (vp_Si (fun r => r = ρ)) 0 0 (fun _ => False) := by
  refine Met.ofW (cc := cM_made) (maxL := 2) (ret := (some .int)) (by decide) rfl ?_
  intro p e s m args below meth c s₁ B hml hv
  obtain ⟨rfl, hv⟩ := hv
  have hx := B.exec
  have hb := B.bytes
  have hr := B.returns
  have hts : ∀ w ∈ aw, w.before _ s = true := fun w h => atoms_spec (ws := (.code yM_made cM_made 2 (some .int) :: aw)) B.pre w (List.mem_cons_of_mem _ h)
  have hown : s.vm.findClass RM = some m.cls := findClass_of_methodNamed B.named
  have hlocks := B.notSynchronized
  obtain ⟨hP, hK, hG⟩ := hv
  obtain ⟨H, hH⟩ : ∃ H, H = s.heap := ⟨_, rfl⟩
  rw [← hH] at hP ⊢
  unfold M_made at hf
  have hl := lv_entry ([.ref (ad 4 0), .int a1]) (n := 2) (Nat.le_of_ble_eq_true rfl)
  rw [lg_entry_eq]
  generalize (lg_sl ([.ref (ad 4 0), .int a1]) ++ List.replicate (2 - (lg_sl ([.ref (ad 4 0), .int a1])).length) Slot.unset).toArray = ls at hl ⊢
  have hl : lv_has ls 2 [(0, .ref (ad 4 0)), (1, .int a1)] := hl
  refine lv_aload_n (pc := 0) hx hb dM_made_0 rfl (lv_at hl 0 rfl) ?_
  obtain ⟨q1, hq1, eq1⟩ := at_4 (ad := ad) (ca := ca) (σ := σ) hm0
  refine va_get (D := (dC, dI)) (cl := kCl) (C := RM) (T := TM) (N := 11) (pc := 1) hx hb hts inM hown hK.1 hP q1 eq1 rfl 2 (by decide) (hts _ wd_51) (fun _ h9 => h9) rfl dM_made_1 ?_
  refine lv_aload_n (pc := 4) hx hb dM_made_4 rfl (lv_at hl 0 rfl) ?_
  refine lv_iload_n (pc := 5) hx hb dM_made_5 rfl (lv_at hl 1 rfl) ?_
  obtain ⟨q2, hq2, eq2⟩ := at_4 (ad := ad) (ca := ca) (σ := σ) hm0
  refine vp_callSi (pc := 6) (W.runV (As := [.int a1]) (rest := [.ref (ad 15 0)]) ⟨hx, hb, hml, hown, hts⟩ (t_M_drawingAt l dC dI ad ca dom a1 hm0 σ hN hC (M_drawingAt a1) rfl) (cwV 1 hts (gV wd_53 wd_54 wd_55 wd_50 wd_52) rfl rfl rfl (by decide +kernel) ⟨Nat.le_of_ble_eq_true rfl, Nat.le_of_ble_eq_true rfl⟩) ⟨hR_blind, va_recv (q := (RM, TM, 11)) (q0 := q2) (ci := 4) hK.1 hP rfl eq2, hR_pre hP hK hG⟩ rfl rfl hl.1 rfl (lv_room (Nat.le_of_ble_eq_true rfl)) dM_made_6 ⟨Nat.le_of_ble_eq_true rfl, Nat.le_of_ble_eq_true rfl⟩) (fun r9 hr9 => ?_)
  refine W.eq (g2 := F0 m 9 ls [.int (M_drawingAt a1), .ref (ad 15 0)]) (by rw [hr9]) ?_
  refine lv_iconst (pc := 9) (v := 0) hx hb dM_made_9 (by decide) ?_
  refine lv_iadd (pc := 10) hx hb dM_made_10 ?_
  obtain ⟨hv3, hf⟩ := ite_s hf
  obtain ⟨q4, hq4, eq4⟩ := at_15 (ad := ad) (ca := ca) (σ := σ) (cm_4_2 hC hm0)
  refine va_iald (D := (dC, dI)) (cl := kCl) (pc := 11) hx hb (hK.2 15 0 .int (cm_4_2 hC hm0) rfl) hP q4 0 eq4 rfl (hv3) dM_made_11 ?_
  refine W.eq (g2 := F0 m 12 ls [.int (xI σ 15 0 (((M_drawingAt a1) + 0)).toNatClampNeg)]) rfl ?_
  exact W.iret (pc := 12) hx hb hr (fun t ht hW => ⟨_, rfl, (Option.some.inj hf), ht.trans hH⟩) (fun q h => nomatch h) dM_made_12
def M_isRevision (σ : hT) (a1 : Int32) (a2 : Int32) : Option (Int32) := Option.bind (M_isDrawing σ a1) fun y2 => if y2 = 0 then some 0 else if a2 < 0 then some 0 else Option.bind (M_made σ a1) fun y6 => if y6 ≤ a2 then some 0 else some 1
set_option maxHeartbeats 4000000 in
set_option maxRecDepth 100000 in
theorem t_M_isRevision (l : Launch) (dC : Nat → ClassId) (dI : Nat → Nat → Nat) (ad : Nat → Nat → Nat) (ca : Nat → Nat → ClassId) (dom : List (Nat × Nat)) (σ : hT) (a1 : Int32) (a2 : Int32) (hm0 : (4, 0) ∈ dom) (hN : dom.Nodup) (hC : clo dom σ.2.2) (ρ : Int32) (hf : M_isRevision σ a1 a2 = some ρ) : Met l yM_isRevision (.code yM_isRevision cM_isRevision 3 (some .boolean) :: aw) ({ frames := 2, cells := 0, slots := 0, locals := 42 }) (hR (dC, dI) ad ca dom σ [.ref (ad 4 0), .int a1, .int a2]) (vp_Si (fun r => r = ρ)) 0 0 (fun _ => False) := by
  refine Met.ofW (cc := cM_isRevision) (maxL := 3) (ret := (some .boolean)) (by decide) rfl ?_
  intro p e s m args below meth c s₁ B hml hv
  obtain ⟨rfl, hv⟩ := hv
  have hx := B.exec
  have hb := B.bytes
  have hr := B.returns
  have hts : ∀ w ∈ aw, w.before _ s = true := fun w h => atoms_spec (ws := (.code yM_isRevision cM_isRevision 3 (some .boolean) :: aw)) B.pre w (List.mem_cons_of_mem _ h)
  have hown : s.vm.findClass RM = some m.cls := findClass_of_methodNamed B.named
  have hlocks := B.notSynchronized
  obtain ⟨hP, hK, hG⟩ := hv
  obtain ⟨H, hH⟩ : ∃ H, H = s.heap := ⟨_, rfl⟩
  rw [← hH] at hP ⊢
  unfold M_isRevision at hf
  have hl := lv_entry ([.ref (ad 4 0), .int a1, .int a2]) (n := 3) (Nat.le_of_ble_eq_true rfl)
  rw [lg_entry_eq]
  generalize (lg_sl ([.ref (ad 4 0), .int a1, .int a2]) ++ List.replicate (3 - (lg_sl ([.ref (ad 4 0), .int a1, .int a2])).length) Slot.unset).toArray = ls at hl ⊢
  have hl : lv_has ls 3 [(0, .ref (ad 4 0)), (1, .int a1), (2, .int a2)] := hl
  refine lv_aload_n (pc := 0) hx hb dM_isRevision_0 rfl (lv_at hl 0 rfl) ?_
  refine lv_iload_n (pc := 1) hx hb dM_isRevision_1 rfl (lv_at hl 1 rfl) ?_
  obtain ⟨q1, hq1, eq1⟩ := at_4 (ad := ad) (ca := ca) (σ := σ) hm0
  obtain ⟨y2, hy2, hf⟩ := ob hf
  refine vp_callSi (pc := 2) (W.runV (As := [.int a1]) (rest := []) ⟨hx, hb, hml, hown, hts⟩ (t_M_isDrawing l dC dI ad ca dom σ a1 hm0 hN hC y2 hy2) (cwV 1 hts (gV wd_57 wd_58 wd_59 wd_50 wd_56) rfl rfl rfl (by decide +kernel) ⟨Nat.le_of_ble_eq_true rfl, Nat.le_of_ble_eq_true rfl⟩) ⟨hR_blind, va_recv (q := (RM, TM, 11)) (q0 := q1) (ci := 4) hK.1 hP rfl eq1, hR_pre hP hK hG⟩ rfl rfl hl.1 rfl (lv_room (Nat.le_of_ble_eq_true rfl)) dM_isRevision_2 ⟨Nat.le_of_ble_eq_true rfl, Nat.le_of_ble_eq_true rfl⟩) (fun r9 hr9 => ?_)
  refine W.eq (g2 := F0 m 5 ls [.int y2]) (by rw [hr9]) ?_
  refine lv_if_eq (pc := 5) (tgt := 25) hx hb dM_isRevision_5 rfl (fun h3 => ?_) (fun h3 => ?_)
  · replace hf := ite_t h3 hf
    refine lv_iconst (pc := 25) (v := 0) hx hb dM_isRevision_25 (by decide) ?_
    exact W.zret (pc := 26) hx hb hr (rfl) (fun t ht hW => ⟨_, rfl, (Option.some.inj hf), ht.trans hH⟩) (fun q h => nomatch h) dM_isRevision_26
  · replace hf := ite_f h3 hf
    refine lv_iload_n (pc := 8) hx hb dM_isRevision_8 rfl (lv_at hl 2 rfl) ?_
    refine lv_if_lt (pc := 9) (tgt := 25) hx hb dM_isRevision_9 rfl (fun h4 => ?_) (fun h4 => ?_)
    · replace hf := ite_t h4 hf
      refine lv_iconst (pc := 25) (v := 0) hx hb dM_isRevision_25 (by decide) ?_
      exact W.zret (pc := 26) hx hb hr (rfl) (fun t ht hW => ⟨_, rfl, (Option.some.inj hf), ht.trans hH⟩) (fun q h => nomatch h) dM_isRevision_26
    · replace hf := ite_f h4 hf
      refine lv_iload_n (pc := 12) hx hb dM_isRevision_12 rfl (lv_at hl 2 rfl) ?_
      refine lv_aload_n (pc := 13) hx hb dM_isRevision_13 rfl (lv_at hl 0 rfl) ?_
      refine lv_iload_n (pc := 14) hx hb dM_isRevision_14 rfl (lv_at hl 1 rfl) ?_
      obtain ⟨q5, hq5, eq5⟩ := at_4 (ad := ad) (ca := ca) (σ := σ) hm0
      obtain ⟨y6, hy6, hf⟩ := ob hf
      refine vp_callSi (pc := 15) (W.runV (As := [.int a1]) (rest := [.int a2]) ⟨hx, hb, hml, hown, hts⟩ (t_M_made l dC dI ad ca dom σ a1 hm0 hN hC y6 hy6) (cwV 1 hts (gV wd_61 wd_62 wd_63 wd_50 wd_60) rfl rfl rfl (by decide +kernel) ⟨Nat.le_of_ble_eq_true rfl, Nat.le_of_ble_eq_true rfl⟩) ⟨hR_blind, va_recv (q := (RM, TM, 11)) (q0 := q5) (ci := 4) hK.1 hP rfl eq5, hR_pre hP hK hG⟩ rfl rfl hl.1 rfl (lv_room (Nat.le_of_ble_eq_true rfl)) dM_isRevision_15 ⟨Nat.le_of_ble_eq_true rfl, Nat.le_of_ble_eq_true rfl⟩) (fun r9 hr9 => ?_)
      refine W.eq (g2 := F0 m 18 ls [.int y6, .int a2]) (by rw [hr9]) ?_
      refine lv_icmp_ge (pc := 18) (tgt := 25) hx hb dM_isRevision_18 rfl (fun h7 => ?_) (fun h7 => ?_)
      · replace hf := ite_t h7 hf
        refine lv_iconst (pc := 25) (v := 0) hx hb dM_isRevision_25 (by decide) ?_
        exact W.zret (pc := 26) hx hb hr (rfl) (fun t ht hW => ⟨_, rfl, (Option.some.inj hf), ht.trans hH⟩) (fun q h => nomatch h) dM_isRevision_26
      · replace hf := ite_f h7 hf
        refine lv_iconst (pc := 21) (v := 1) hx hb dM_isRevision_21 (by decide) ?_
        refine lv_goto (pc := 22) (tgt := 26) hx hb dM_isRevision_22 rfl ?_
        exact W.zret (pc := 26) hx hb hr (rfl) (fun t ht hW => ⟨_, rfl, (Option.some.inj hf), ht.trans hH⟩) (fun q h => nomatch h) dM_isRevision_26
def M_revisionAt (a1 : Int32) (a2 : Int32) : Int32 := (1940 + (80 * ((12 * a1) + a2)))
set_option maxHeartbeats 4000000 in
set_option maxRecDepth 100000 in
theorem t_M_revisionAt (l : Launch) (dC : Nat → ClassId) (dI : Nat → Nat → Nat) (ad : Nat → Nat → Nat) (ca : Nat → Nat → ClassId) (dom : List (Nat × Nat)) (a1 : Int32) (a2 : Int32) (hm0 : (4, 0) ∈ dom) (σ : hT) (hN : dom.Nodup) (hC : clo dom σ.2.2) (ρ : Int32) (hf : M_revisionAt a1 a2 = ρ) : Met l yM_revisionAt (.code yM_revisionAt cM_revisionAt 3 (some .int) :: aw) ({ frames := 0, cells := 0, slots := 0, locals := 0 }) (hR (dC, dI) ad ca dom σ [.ref (ad 4 0), .int a1, .int a2]) (vp_Si (fun r => r = ρ)) 0 0 (fun _ => False) := by
  refine Met.ofW (cc := cM_revisionAt) (maxL := 3) (ret := (some .int)) (by decide) rfl ?_
  intro p e s m args below meth c s₁ B hml hv
  obtain ⟨rfl, hv⟩ := hv
  have hx := B.exec
  have hb := B.bytes
  have hr := B.returns
  have hts : ∀ w ∈ aw, w.before _ s = true := fun w h => atoms_spec (ws := (.code yM_revisionAt cM_revisionAt 3 (some .int) :: aw)) B.pre w (List.mem_cons_of_mem _ h)
  have hown : s.vm.findClass RM = some m.cls := findClass_of_methodNamed B.named
  have hlocks := B.notSynchronized
  obtain ⟨hP, hK, hG⟩ := hv
  obtain ⟨H, hH⟩ : ∃ H, H = s.heap := ⟨_, rfl⟩
  rw [← hH] at hP ⊢
  unfold M_revisionAt at hf
  have hl := lv_entry ([.ref (ad 4 0), .int a1, .int a2]) (n := 3) (Nat.le_of_ble_eq_true rfl)
  rw [lg_entry_eq]
  generalize (lg_sl ([.ref (ad 4 0), .int a1, .int a2]) ++ List.replicate (3 - (lg_sl ([.ref (ad 4 0), .int a1, .int a2])).length) Slot.unset).toArray = ls at hl ⊢
  have hl : lv_has ls 3 [(0, .ref (ad 4 0)), (1, .int a1), (2, .int a2)] := hl
  refine lv_sipush (pc := 0) (v := 1940) hx hb dM_revisionAt_0 (by decide) ?_
  refine lv_bipush (pc := 3) (v := 80) hx hb dM_revisionAt_3 (by decide) ?_
  refine lv_bipush (pc := 5) (v := 12) hx hb dM_revisionAt_5 (by decide) ?_
  refine lv_iload_n (pc := 7) hx hb dM_revisionAt_7 rfl (lv_at hl 1 rfl) ?_
  refine lv_imul (pc := 8) hx hb dM_revisionAt_8 ?_
  refine lv_iload_n (pc := 9) hx hb dM_revisionAt_9 rfl (lv_at hl 2 rfl) ?_
  refine lv_iadd (pc := 10) hx hb dM_revisionAt_10 ?_
  refine lv_imul (pc := 11) hx hb dM_revisionAt_11 ?_
  refine lv_iadd (pc := 12) hx hb dM_revisionAt_12 ?_
  exact W.iret (pc := 13) hx hb hr (fun t ht hW => ⟨_, rfl, hf, ht.trans hH⟩) (fun q h => nomatch h) dM_revisionAt_13
def M_stateOf (σ : hT) (a1 : Int32) (a2 : Int32) : Option (Int32) := if in9 ((M_revisionAt a1 a2) + 0) 25240 then some (xI σ 15 0 (((M_revisionAt a1 a2) + 0)).toNatClampNeg) else none
set_option maxHeartbeats 4000000 in
set_option maxRecDepth 100000 in
theorem t_M_stateOf (l : Launch) (dC : Nat → ClassId) (dI : Nat → Nat → Nat) (ad : Nat → Nat → Nat) (ca : Nat → Nat → ClassId) (dom : List (Nat × Nat)) (σ : hT) (a1 : Int32) (a2 : Int32) (hm0 : (4, 0) ∈ dom) (hN : dom.Nodup) (hC : clo dom σ.2.2) (ρ : Int32) (hf : M_stateOf σ a1 a2 = some ρ) : Met l yM_stateOf (.code yM_stateOf cM_stateOf 3 (some .int) :: aw) ({ frames := 1, cells := 0, slots := 0, locals := 22 }) (hR (dC, dI) ad ca dom σ [.ref (ad 4 0), .int a1, .int a2]) (vp_Si (fun r => r = ρ)) 0 0 (fun _ => False) := by
  refine Met.ofW (cc := cM_stateOf) (maxL := 3) (ret := (some .int)) (by decide) rfl ?_
  intro p e s m args below meth c s₁ B hml hv
  obtain ⟨rfl, hv⟩ := hv
  have hx := B.exec
  have hb := B.bytes
  have hr := B.returns
  have hts : ∀ w ∈ aw, w.before _ s = true := fun w h => atoms_spec (ws := (.code yM_stateOf cM_stateOf 3 (some .int) :: aw)) B.pre w (List.mem_cons_of_mem _ h)
  have hown : s.vm.findClass RM = some m.cls := findClass_of_methodNamed B.named
  have hlocks := B.notSynchronized
  obtain ⟨hP, hK, hG⟩ := hv
  obtain ⟨H, hH⟩ : ∃ H, H = s.heap := ⟨_, rfl⟩
  rw [← hH] at hP ⊢
  unfold M_stateOf at hf
  have hl := lv_entry ([.ref (ad 4 0), .int a1, .int a2]) (n := 3) (Nat.le_of_ble_eq_true rfl)
  rw [lg_entry_eq]
  generalize (lg_sl ([.ref (ad 4 0), .int a1, .int a2]) ++ List.replicate (3 - (lg_sl ([.ref (ad 4 0), .int a1, .int a2])).length) Slot.unset).toArray = ls at hl ⊢
  have hl : lv_has ls 3 [(0, .ref (ad 4 0)), (1, .int a1), (2, .int a2)] := hl
  refine lv_aload_n (pc := 0) hx hb dM_stateOf_0 rfl (lv_at hl 0 rfl) ?_
  obtain ⟨q1, hq1, eq1⟩ := at_4 (ad := ad) (ca := ca) (σ := σ) hm0
  refine va_get (D := (dC, dI)) (cl := kCl) (C := RM) (T := TM) (N := 11) (pc := 1) hx hb hts inM hown hK.1 hP q1 eq1 rfl 2 (by decide) (hts _ wd_51) (fun _ h9 => h9) rfl dM_stateOf_1 ?_
  refine lv_aload_n (pc := 4) hx hb dM_stateOf_4 rfl (lv_at hl 0 rfl) ?_
  refine lv_iload_n (pc := 5) hx hb dM_stateOf_5 rfl (lv_at hl 1 rfl) ?_
  refine lv_iload_n (pc := 6) hx hb dM_stateOf_6 rfl (lv_at hl 2 rfl) ?_
  obtain ⟨q2, hq2, eq2⟩ := at_4 (ad := ad) (ca := ca) (σ := σ) hm0
  refine vp_callSi (pc := 7) (W.runV (As := [.int a1, .int a2]) (rest := [.ref (ad 15 0)]) ⟨hx, hb, hml, hown, hts⟩ (t_M_revisionAt l dC dI ad ca dom a1 a2 hm0 σ hN hC (M_revisionAt a1 a2) rfl) (cwV 2 hts (gV wd_65 wd_66 wd_67 wd_50 wd_64) rfl rfl rfl (by decide +kernel) ⟨Nat.le_of_ble_eq_true rfl, Nat.le_of_ble_eq_true rfl⟩) ⟨hR_blind, va_recv (q := (RM, TM, 11)) (q0 := q2) (ci := 4) hK.1 hP rfl eq2, hR_pre hP hK hG⟩ rfl rfl hl.1 rfl (lv_room (Nat.le_of_ble_eq_true rfl)) dM_stateOf_7 ⟨Nat.le_of_ble_eq_true rfl, Nat.le_of_ble_eq_true rfl⟩) (fun r9 hr9 => ?_)
  refine W.eq (g2 := F0 m 10 ls [.int (M_revisionAt a1 a2), .ref (ad 15 0)]) (by rw [hr9]) ?_
  refine lv_iconst (pc := 10) (v := 0) hx hb dM_stateOf_10 (by decide) ?_
  refine lv_iadd (pc := 11) hx hb dM_stateOf_11 ?_
  obtain ⟨hv3, hf⟩ := ite_s hf
  obtain ⟨q4, hq4, eq4⟩ := at_15 (ad := ad) (ca := ca) (σ := σ) (cm_4_2 hC hm0)
  refine va_iald (D := (dC, dI)) (cl := kCl) (pc := 12) hx hb (hK.2 15 0 .int (cm_4_2 hC hm0) rfl) hP q4 0 eq4 rfl (hv3) dM_stateOf_12 ?_
  refine W.eq (g2 := F0 m 13 ls [.int (xI σ 15 0 (((M_revisionAt a1 a2) + 0)).toNatClampNeg)]) rfl ?_
  exact W.iret (pc := 13) hx hb hr (fun t ht hW => ⟨_, rfl, (Option.some.inj hf), ht.trans hH⟩) (fun q h => nomatch h) dM_stateOf_13
def M_with (σ : hT) (a1 : Int32) : Option (Int32) := if in9 ((M_drawingAt a1) + 1) 25240 then some ((xI σ 15 0 (((M_drawingAt a1) + 1)).toNatClampNeg) - 1) else none
set_option maxHeartbeats 4000000 in
set_option maxRecDepth 100000 in
theorem t_M_with (l : Launch) (dC : Nat → ClassId) (dI : Nat → Nat → Nat) (ad : Nat → Nat → Nat) (ca : Nat → Nat → ClassId) (dom : List (Nat × Nat)) (σ : hT) (a1 : Int32) (hm0 : (4, 0) ∈ dom) (hN : dom.Nodup) (hC : clo dom σ.2.2) (ρ : Int32) (hf : M_with σ a1 = some ρ) : Met l yM_with (.code yM_with cM_with 2 (some .int) :: aw) ({ frames := 1, cells := 0, slots := 0, locals := 21 }) (hR (dC, dI) ad ca dom σ [.ref (ad 4 0), .int a1]) (vp_Si (fun r => r = ρ)) 0 0 (fun _ => False) := by
  refine Met.ofW (cc := cM_with) (maxL := 2) (ret := (some .int)) (by decide) rfl ?_
  intro p e s m args below meth c s₁ B hml hv
  obtain ⟨rfl, hv⟩ := hv
  have hx := B.exec
  have hb := B.bytes
  have hr := B.returns
  have hts : ∀ w ∈ aw, w.before _ s = true := fun w h => atoms_spec (ws := (.code yM_with cM_with 2 (some .int) :: aw)) B.pre w (List.mem_cons_of_mem _ h)
  have hown : s.vm.findClass RM = some m.cls := findClass_of_methodNamed B.named
  have hlocks := B.notSynchronized
  obtain ⟨hP, hK, hG⟩ := hv
  obtain ⟨H, hH⟩ : ∃ H, H = s.heap := ⟨_, rfl⟩
  rw [← hH] at hP ⊢
  unfold M_with at hf
  have hl := lv_entry ([.ref (ad 4 0), .int a1]) (n := 2) (Nat.le_of_ble_eq_true rfl)
  rw [lg_entry_eq]
  generalize (lg_sl ([.ref (ad 4 0), .int a1]) ++ List.replicate (2 - (lg_sl ([.ref (ad 4 0), .int a1])).length) Slot.unset).toArray = ls at hl ⊢
  have hl : lv_has ls 2 [(0, .ref (ad 4 0)), (1, .int a1)] := hl
  refine lv_aload_n (pc := 0) hx hb dM_with_0 rfl (lv_at hl 0 rfl) ?_
  obtain ⟨q1, hq1, eq1⟩ := at_4 (ad := ad) (ca := ca) (σ := σ) hm0
  refine va_get (D := (dC, dI)) (cl := kCl) (C := RM) (T := TM) (N := 11) (pc := 1) hx hb hts inM hown hK.1 hP q1 eq1 rfl 2 (by decide) (hts _ wd_51) (fun _ h9 => h9) rfl dM_with_1 ?_
  refine lv_aload_n (pc := 4) hx hb dM_with_4 rfl (lv_at hl 0 rfl) ?_
  refine lv_iload_n (pc := 5) hx hb dM_with_5 rfl (lv_at hl 1 rfl) ?_
  obtain ⟨q2, hq2, eq2⟩ := at_4 (ad := ad) (ca := ca) (σ := σ) hm0
  refine vp_callSi (pc := 6) (W.runV (As := [.int a1]) (rest := [.ref (ad 15 0)]) ⟨hx, hb, hml, hown, hts⟩ (t_M_drawingAt l dC dI ad ca dom a1 hm0 σ hN hC (M_drawingAt a1) rfl) (cwV 1 hts (gV wd_53 wd_54 wd_55 wd_50 wd_52) rfl rfl rfl (by decide +kernel) ⟨Nat.le_of_ble_eq_true rfl, Nat.le_of_ble_eq_true rfl⟩) ⟨hR_blind, va_recv (q := (RM, TM, 11)) (q0 := q2) (ci := 4) hK.1 hP rfl eq2, hR_pre hP hK hG⟩ rfl rfl hl.1 rfl (lv_room (Nat.le_of_ble_eq_true rfl)) dM_with_6 ⟨Nat.le_of_ble_eq_true rfl, Nat.le_of_ble_eq_true rfl⟩) (fun r9 hr9 => ?_)
  refine W.eq (g2 := F0 m 9 ls [.int (M_drawingAt a1), .ref (ad 15 0)]) (by rw [hr9]) ?_
  refine lv_iconst (pc := 9) (v := 1) hx hb dM_with_9 (by decide) ?_
  refine lv_iadd (pc := 10) hx hb dM_with_10 ?_
  obtain ⟨hv3, hf⟩ := ite_s hf
  obtain ⟨q4, hq4, eq4⟩ := at_15 (ad := ad) (ca := ca) (σ := σ) (cm_4_2 hC hm0)
  refine va_iald (D := (dC, dI)) (cl := kCl) (pc := 11) hx hb (hK.2 15 0 .int (cm_4_2 hC hm0) rfl) hP q4 0 eq4 rfl (hv3) dM_with_11 ?_
  refine W.eq (g2 := F0 m 12 ls [.int (xI σ 15 0 (((M_drawingAt a1) + 1)).toNatClampNeg)]) rfl ?_
  refine lv_iconst (pc := 12) (v := 1) hx hb dM_with_12 (by decide) ?_
  refine lv_isub (pc := 13) hx hb dM_with_13 ?_
  exact W.iret (pc := 14) hx hb hr (fun t ht hW => ⟨_, rfl, (Option.some.inj hf), ht.trans hH⟩) (fun q h => nomatch h) dM_with_14
def M_released_L4 (n : Nat) (σ : hT) (kx4 : Int32 → Int32 → Int32 → Option (Int32)) : Nat → Int32 → Int32 → Int32 → Option (Int32)
  | 0, _, _, _ => none
  | k + 1, p1, p2, p3 => Option.bind (M_made σ p3) fun y7 => if y7 ≤ p1 then kx4 p1 p2 p3 else Option.bind (M_stateOf σ p3 p1) fun y10 => if y10 = 2 then M_released_L4 n σ kx4 k (p1 + 1) p1 p3 else M_released_L4 n σ kx4 k (p1 + 1) p2 p3
def M_released (n : Nat) (σ : hT) (a1 : Int32) : Option (Int32) := lt9 (α := Int32 → Int32 → Int32 → Option (Int32)) (fun (p1 : Int32) (p2 : Int32) (p3 : Int32) => some p2) fun kx4 => M_released_L4 n σ kx4 n 0 (-1) a1
set_option maxHeartbeats 4000000 in
set_option maxRecDepth 100000 in
theorem t_M_released (l : Launch) (dC : Nat → ClassId) (dI : Nat → Nat → Nat) (ad : Nat → Nat → Nat) (ca : Nat → Nat → ClassId) (dom : List (Nat × Nat)) (n : Nat) (σ : hT) (a1 : Int32) (hm0 : (4, 0) ∈ dom) (hN : dom.Nodup) (hC : clo dom σ.2.2) (ρ : Int32) (hf : M_released n σ a1 = some ρ) : Met l yM_released (.code yM_released cM_released 4 (some .int) :: aw) ({ frames := 2, cells := 0, slots := 0, locals := 44 }) (hR (dC, dI) ad ca dom σ [.ref (ad 4 0), .int a1]) (vp_Si (fun r => r = ρ)) 0 0 (fun _ => False) := by
  refine Met.ofW (cc := cM_released) (maxL := 4) (ret := (some .int)) (by decide) rfl ?_
  intro p e s m args below meth c s₁ B hml hv
  obtain ⟨rfl, hv⟩ := hv
  have hx := B.exec
  have hb := B.bytes
  have hr := B.returns
  have hts : ∀ w ∈ aw, w.before _ s = true := fun w h => atoms_spec (ws := (.code yM_released cM_released 4 (some .int) :: aw)) B.pre w (List.mem_cons_of_mem _ h)
  have hown : s.vm.findClass RM = some m.cls := findClass_of_methodNamed B.named
  have hlocks := B.notSynchronized
  obtain ⟨hP, hK, hG⟩ := hv
  obtain ⟨H, hH⟩ : ∃ H, H = s.heap := ⟨_, rfl⟩
  rw [← hH] at hP ⊢
  unfold M_released at hf
  have hl := lv_entry ([.ref (ad 4 0), .int a1]) (n := 4) (Nat.le_of_ble_eq_true rfl)
  rw [lg_entry_eq]
  generalize (lg_sl ([.ref (ad 4 0), .int a1]) ++ List.replicate (4 - (lg_sl ([.ref (ad 4 0), .int a1])).length) Slot.unset).toArray = ls at hl ⊢
  have hl : lv_has ls 4 [(0, .ref (ad 4 0)), (1, .int a1)] := hl
  refine lv_iconst (pc := 0) (v := (-1)) hx hb dM_released_0 (by decide) ?_
  refine lv_istore_n (pc := 1) hx hb dM_released_1 rfl hl (by decide) rfl (fun ls hl => ?_)
  have hl : lv_has ls 4 [(2, .int (-1)), (0, .ref (ad 4 0)), (1, .int a1)] := hl
  refine lv_iconst (pc := 2) (v := 0) hx hb dM_released_2 (by decide) ?_
  refine lv_istore_n (pc := 3) hx hb dM_released_3 rfl hl (by decide) rfl (fun ls hl => ?_)
  have hl : lv_has ls 4 [(3, .int 0), (2, .int (-1)), (0, .ref (ad 4 0)), (1, .int a1)] := hl
  obtain ⟨kx4, hkx4, hf⟩ := lt_9 hf
  refine lpF (τ := (Int32) × (Int32) × (Int32) × (Array Slot)) (fun pc z => W p l e _ s m _ below meth c H ([]) 0 0 _ (F0 m pc z.2.2.2 [])) 4 35 (fun z => lv_has z.2.2.2 4 [(3, .int z.1), (2, .int z.2.1), (0, .ref (ad 4 0)), (1, .int z.2.2.1)]) (fun k z => M_released_L4 n σ kx4 k z.1 z.2.1 z.2.2.1) (fun z => kx4 z.1 z.2.1 z.2.2.1) _ (fun z => rfl) ?_ ?_ n (0, (-1), a1, ls) hl hf
  · rintro k ⟨p1, p2, p3, ls⟩ hl hf ih5 hXkx4
    dsimp only at hl hf ih5 hXkx4 ⊢
    unfold M_released_L4 at hf
    have hl : lv_has ls 4 [(3, .int p1), (2, .int p2), (0, .ref (ad 4 0)), (1, .int p3)] := hl
    refine lv_iload_n (pc := 4) hx hb dM_released_4 rfl (lv_at hl 0 rfl) ?_
    refine lv_aload_n (pc := 5) hx hb dM_released_5 rfl (lv_at hl 2 rfl) ?_
    refine lv_iload_n (pc := 6) hx hb dM_released_6 rfl (lv_at hl 3 rfl) ?_
    obtain ⟨q6, hq6, eq6⟩ := at_4 (ad := ad) (ca := ca) (σ := σ) hm0
    obtain ⟨y7, hy7, hf⟩ := ob hf
    refine vp_callSi (pc := 7) (W.runV (As := [.int p3]) (rest := [.int p1]) ⟨hx, hb, hml, hown, hts⟩ (t_M_made l dC dI ad ca dom σ p3 hm0 hN hC y7 hy7) (cwV 1 hts (gV wd_61 wd_62 wd_63 wd_50 wd_60) rfl rfl rfl (by decide +kernel) ⟨Nat.le_of_ble_eq_true rfl, Nat.le_of_ble_eq_true rfl⟩) ⟨hR_blind, va_recv (q := (RM, TM, 11)) (q0 := q6) (ci := 4) hK.1 hP rfl eq6, hR_pre hP hK hG⟩ rfl rfl hl.1 rfl (lv_room (Nat.le_of_ble_eq_true rfl)) dM_released_7 ⟨Nat.le_of_ble_eq_true rfl, Nat.le_of_ble_eq_true rfl⟩) (fun r9 hr9 => ?_)
    refine W.eq (g2 := F0 m 10 ls [.int y7, .int p1]) (by rw [hr9]) ?_
    refine lv_icmp_ge (pc := 10) (tgt := 35) hx hb dM_released_10 rfl (fun h8 => ?_) (fun h8 => ?_)
    · replace hf := ite_t h8 hf
      have hl := lv_sub hl (l' := [(3, .int p1), (2, .int p2), (0, .ref (ad 4 0)), (1, .int p3)]) [0, 1, 2, 3] rfl
      exact hXkx4 (p1, p2, p3, ls) hl hf
    · replace hf := ite_f h8 hf
      refine lv_aload_n (pc := 13) hx hb dM_released_13 rfl (lv_at hl 2 rfl) ?_
      refine lv_iload_n (pc := 14) hx hb dM_released_14 rfl (lv_at hl 3 rfl) ?_
      refine lv_iload_n (pc := 15) hx hb dM_released_15 rfl (lv_at hl 0 rfl) ?_
      obtain ⟨q9, hq9, eq9⟩ := at_4 (ad := ad) (ca := ca) (σ := σ) hm0
      obtain ⟨y10, hy10, hf⟩ := ob hf
      refine vp_callSi (pc := 16) (W.runV (As := [.int p3, .int p1]) (rest := []) ⟨hx, hb, hml, hown, hts⟩ (t_M_stateOf l dC dI ad ca dom σ p3 p1 hm0 hN hC y10 hy10) (cwV 2 hts (gV wd_69 wd_70 wd_71 wd_50 wd_68) rfl rfl rfl (by decide +kernel) ⟨Nat.le_of_ble_eq_true rfl, Nat.le_of_ble_eq_true rfl⟩) ⟨hR_blind, va_recv (q := (RM, TM, 11)) (q0 := q9) (ci := 4) hK.1 hP rfl eq9, hR_pre hP hK hG⟩ rfl rfl hl.1 rfl (lv_room (Nat.le_of_ble_eq_true rfl)) dM_released_16 ⟨Nat.le_of_ble_eq_true rfl, Nat.le_of_ble_eq_true rfl⟩) (fun r9 hr9 => ?_)
      refine W.eq (g2 := F0 m 19 ls [.int y10]) (by rw [hr9]) ?_
      refine lv_iconst (pc := 19) (v := 2) hx hb dM_released_19 (by decide) ?_
      refine lv_icmp_ne (pc := 20) (tgt := 27) hx hb dM_released_20 rfl (fun h11 => ?_) (fun h11 => ?_)
      · replace hf := ite_f h11 hf
        refine lv_iload_n (pc := 27) hx hb dM_released_27 rfl (lv_at hl 1 rfl) ?_
        refine lv_istore_n (pc := 28) hx hb dM_released_28 rfl hl (by decide) rfl (fun ls hl => ?_)
        have hl : lv_has ls 4 [(2, .int p2), (3, .int p1), (0, .ref (ad 4 0)), (1, .int p3)] := hl
        refine lv_iinc (pc := 29) (v := (p1 + 1)) hx hb dM_released_29 hl (k := 1) rfl (by rfl) (by decide) rfl (fun ls hl => ?_)
        have hl : lv_has ls 4 [(3, .int (p1 + 1)), (2, .int p2), (0, .ref (ad 4 0)), (1, .int p3)] := hl
        refine lv_goto (pc := 32) (tgt := 4) hx hb dM_released_32 rfl ?_
        have hl := lv_sub hl (l' := [(3, .int (p1 + 1)), (2, .int p2), (0, .ref (ad 4 0)), (1, .int p3)]) [0, 1, 2, 3] rfl
        exact ih5 ((p1 + 1), p2, p3, ls) hl hf
      · replace hf := ite_t h11 hf
        refine lv_iload_n (pc := 23) hx hb dM_released_23 rfl (lv_at hl 0 rfl) ?_
        refine lv_goto (pc := 24) (tgt := 28) hx hb dM_released_24 rfl ?_
        refine lv_istore_n (pc := 28) hx hb dM_released_28 rfl hl (by decide) rfl (fun ls hl => ?_)
        have hl : lv_has ls 4 [(2, .int p1), (3, .int p1), (0, .ref (ad 4 0)), (1, .int p3)] := hl
        refine lv_iinc (pc := 29) (v := (p1 + 1)) hx hb dM_released_29 hl (k := 1) rfl (by rfl) (by decide) rfl (fun ls hl => ?_)
        have hl : lv_has ls 4 [(3, .int (p1 + 1)), (2, .int p1), (0, .ref (ad 4 0)), (1, .int p3)] := hl
        refine lv_goto (pc := 32) (tgt := 4) hx hb dM_released_32 rfl ?_
        have hl := lv_sub hl (l' := [(3, .int (p1 + 1)), (2, .int p1), (0, .ref (ad 4 0)), (1, .int p3)]) [0, 1, 2, 3] rfl
        exact ih5 ((p1 + 1), p1, p3, ls) hl hf
  · rintro ⟨p1, p2, p3, ls⟩ hl hf
    dsimp only at hl hf ⊢
    rw [hkx4] at hf
    have hl : lv_has ls 4 [(3, .int p1), (2, .int p2), (0, .ref (ad 4 0)), (1, .int p3)] := hl
    refine lv_iload_n (pc := 35) hx hb dM_released_35 rfl (lv_at hl 1 rfl) ?_
    exact W.iret (pc := 36) hx hb hr (fun t ht hW => ⟨_, rfl, (Option.some.inj hf), ht.trans hH⟩) (fun q h => nomatch h) dM_released_36
def M_refDrawing (σ : hT) (a1 : Int32) (a2 : Int32) : Option (Int32) := if in9 ((a1 + 4) + (2 * a2)) 25240 then some (xI σ 15 0 (((a1 + 4) + (2 * a2))).toNatClampNeg) else none
set_option maxHeartbeats 4000000 in
set_option maxRecDepth 100000 in
theorem t_M_refDrawing (l : Launch) (dC : Nat → ClassId) (dI : Nat → Nat → Nat) (ad : Nat → Nat → Nat) (ca : Nat → Nat → ClassId) (dom : List (Nat × Nat)) (σ : hT) (a1 : Int32) (a2 : Int32) (hm0 : (4, 0) ∈ dom) (hN : dom.Nodup) (hC : clo dom σ.2.2) (ρ : Int32) (hf : M_refDrawing σ a1 a2 = some ρ) : Met l yM_refDrawing (.code yM_refDrawing cM_refDrawing 3 (some .int) :: aw) ({ frames := 0, cells := 0, slots := 0, locals := 0 }) (hR (dC, dI) ad ca dom σ [.ref (ad 4 0), .int a1, .int a2]) (vp_Si (fun r => r = ρ)) 0 0 (fun _ => False) := by
  refine Met.ofW (cc := cM_refDrawing) (maxL := 3) (ret := (some .int)) (by decide) rfl ?_
  intro p e s m args below meth c s₁ B hml hv
  obtain ⟨rfl, hv⟩ := hv
  have hx := B.exec
  have hb := B.bytes
  have hr := B.returns
  have hts : ∀ w ∈ aw, w.before _ s = true := fun w h => atoms_spec (ws := (.code yM_refDrawing cM_refDrawing 3 (some .int) :: aw)) B.pre w (List.mem_cons_of_mem _ h)
  have hown : s.vm.findClass RM = some m.cls := findClass_of_methodNamed B.named
  have hlocks := B.notSynchronized
  obtain ⟨hP, hK, hG⟩ := hv
  obtain ⟨H, hH⟩ : ∃ H, H = s.heap := ⟨_, rfl⟩
  rw [← hH] at hP ⊢
  unfold M_refDrawing at hf
  have hl := lv_entry ([.ref (ad 4 0), .int a1, .int a2]) (n := 3) (Nat.le_of_ble_eq_true rfl)
  rw [lg_entry_eq]
  generalize (lg_sl ([.ref (ad 4 0), .int a1, .int a2]) ++ List.replicate (3 - (lg_sl ([.ref (ad 4 0), .int a1, .int a2])).length) Slot.unset).toArray = ls at hl ⊢
  have hl : lv_has ls 3 [(0, .ref (ad 4 0)), (1, .int a1), (2, .int a2)] := hl
  refine lv_aload_n (pc := 0) hx hb dM_refDrawing_0 rfl (lv_at hl 0 rfl) ?_
  obtain ⟨q1, hq1, eq1⟩ := at_4 (ad := ad) (ca := ca) (σ := σ) hm0
  refine va_get (D := (dC, dI)) (cl := kCl) (C := RM) (T := TM) (N := 11) (pc := 1) hx hb hts inM hown hK.1 hP q1 eq1 rfl 2 (by decide) (hts _ wd_51) (fun _ h9 => h9) rfl dM_refDrawing_1 ?_
  refine lv_iload_n (pc := 4) hx hb dM_refDrawing_4 rfl (lv_at hl 1 rfl) ?_
  refine lv_iconst (pc := 5) (v := 4) hx hb dM_refDrawing_5 (by decide) ?_
  refine lv_iadd (pc := 6) hx hb dM_refDrawing_6 ?_
  refine lv_iconst (pc := 7) (v := 2) hx hb dM_refDrawing_7 (by decide) ?_
  refine lv_iload_n (pc := 8) hx hb dM_refDrawing_8 rfl (lv_at hl 2 rfl) ?_
  refine lv_imul (pc := 9) hx hb dM_refDrawing_9 ?_
  refine lv_iadd (pc := 10) hx hb dM_refDrawing_10 ?_
  obtain ⟨hv2, hf⟩ := ite_s hf
  obtain ⟨q3, hq3, eq3⟩ := at_15 (ad := ad) (ca := ca) (σ := σ) (cm_4_2 hC hm0)
  refine va_iald (D := (dC, dI)) (cl := kCl) (pc := 11) hx hb (hK.2 15 0 .int (cm_4_2 hC hm0) rfl) hP q3 0 eq3 rfl (hv2) dM_refDrawing_11 ?_
  refine W.eq (g2 := F0 m 12 ls [.int (xI σ 15 0 (((a1 + 4) + (2 * a2))).toNatClampNeg)]) rfl ?_
  exact W.iret (pc := 12) hx hb hr (fun t ht hW => ⟨_, rfl, (Option.some.inj hf), ht.trans hH⟩) (fun q h => nomatch h) dM_refDrawing_12
def M_refRevision (σ : hT) (a1 : Int32) (a2 : Int32) : Option (Int32) := if in9 (((a1 + 4) + (2 * a2)) + 1) 25240 then some (xI σ 15 0 ((((a1 + 4) + (2 * a2)) + 1)).toNatClampNeg) else none
set_option maxHeartbeats 4000000 in
set_option maxRecDepth 100000 in
theorem t_M_refRevision (l : Launch) (dC : Nat → ClassId) (dI : Nat → Nat → Nat) (ad : Nat → Nat → Nat) (ca : Nat → Nat → ClassId) (dom : List (Nat × Nat)) (σ : hT) (a1 : Int32) (a2 : Int32) (hm0 : (4, 0) ∈ dom) (hN : dom.Nodup) (hC : clo dom σ.2.2) (ρ : Int32) (hf : M_refRevision σ a1 a2 = some ρ) : Met l yM_refRevision (.code yM_refRevision cM_refRevision 3 (some .int) :: aw) ({ frames := 0, cells := 0, slots := 0, locals := 0 }) (hR (dC, dI) ad ca dom σ [.ref (ad 4 0), .int a1, .int a2]) (vp_Si (fun r => r = ρ)) 0 0 (fun _ => False) := by
  refine Met.ofW (cc := cM_refRevision) (maxL := 3) (ret := (some .int)) (by decide) rfl ?_
  intro p e s m args below meth c s₁ B hml hv
  obtain ⟨rfl, hv⟩ := hv
  have hx := B.exec
  have hb := B.bytes
  have hr := B.returns
  have hts : ∀ w ∈ aw, w.before _ s = true := fun w h => atoms_spec (ws := (.code yM_refRevision cM_refRevision 3 (some .int) :: aw)) B.pre w (List.mem_cons_of_mem _ h)
  have hown : s.vm.findClass RM = some m.cls := findClass_of_methodNamed B.named
  have hlocks := B.notSynchronized
  obtain ⟨hP, hK, hG⟩ := hv
  obtain ⟨H, hH⟩ : ∃ H, H = s.heap := ⟨_, rfl⟩
  rw [← hH] at hP ⊢
  unfold M_refRevision at hf
  have hl := lv_entry ([.ref (ad 4 0), .int a1, .int a2]) (n := 3) (Nat.le_of_ble_eq_true rfl)
  rw [lg_entry_eq]
  generalize (lg_sl ([.ref (ad 4 0), .int a1, .int a2]) ++ List.replicate (3 - (lg_sl ([.ref (ad 4 0), .int a1, .int a2])).length) Slot.unset).toArray = ls at hl ⊢
  have hl : lv_has ls 3 [(0, .ref (ad 4 0)), (1, .int a1), (2, .int a2)] := hl
  refine lv_aload_n (pc := 0) hx hb dM_refRevision_0 rfl (lv_at hl 0 rfl) ?_
  obtain ⟨q1, hq1, eq1⟩ := at_4 (ad := ad) (ca := ca) (σ := σ) hm0
  refine va_get (D := (dC, dI)) (cl := kCl) (C := RM) (T := TM) (N := 11) (pc := 1) hx hb hts inM hown hK.1 hP q1 eq1 rfl 2 (by decide) (hts _ wd_51) (fun _ h9 => h9) rfl dM_refRevision_1 ?_
  refine lv_iload_n (pc := 4) hx hb dM_refRevision_4 rfl (lv_at hl 1 rfl) ?_
  refine lv_iconst (pc := 5) (v := 4) hx hb dM_refRevision_5 (by decide) ?_
  refine lv_iadd (pc := 6) hx hb dM_refRevision_6 ?_
  refine lv_iconst (pc := 7) (v := 2) hx hb dM_refRevision_7 (by decide) ?_
  refine lv_iload_n (pc := 8) hx hb dM_refRevision_8 rfl (lv_at hl 2 rfl) ?_
  refine lv_imul (pc := 9) hx hb dM_refRevision_9 ?_
  refine lv_iadd (pc := 10) hx hb dM_refRevision_10 ?_
  refine lv_iconst (pc := 11) (v := 1) hx hb dM_refRevision_11 (by decide) ?_
  refine lv_iadd (pc := 12) hx hb dM_refRevision_12 ?_
  obtain ⟨hv2, hf⟩ := ite_s hf
  obtain ⟨q3, hq3, eq3⟩ := at_15 (ad := ad) (ca := ca) (σ := σ) (cm_4_2 hC hm0)
  refine va_iald (D := (dC, dI)) (cl := kCl) (pc := 13) hx hb (hK.2 15 0 .int (cm_4_2 hC hm0) rfl) hP q3 0 eq3 rfl (hv2) dM_refRevision_13 ?_
  refine W.eq (g2 := F0 m 14 ls [.int (xI σ 15 0 ((((a1 + 4) + (2 * a2)) + 1)).toNatClampNeg)]) rfl ?_
  exact W.iret (pc := 14) hx hb hr (fun t ht hW => ⟨_, rfl, (Option.some.inj hf), ht.trans hH⟩) (fun q h => nomatch h) dM_refRevision_14
def M_resolved (n : Nat) (σ : hT) (a1 : Int32) (a2 : Int32) : Option (Int32) := Option.bind (M_refRevision σ a1 a2) fun y2 => if y2 = (-1) then Option.bind (M_refDrawing σ a1 a2) fun y5 => Option.bind (M_released n σ y5) fun y7 => some y7 else some y2
set_option maxHeartbeats 4000000 in
set_option maxRecDepth 100000 in
theorem t_M_resolved (l : Launch) (dC : Nat → ClassId) (dI : Nat → Nat → Nat) (ad : Nat → Nat → Nat) (ca : Nat → Nat → ClassId) (dom : List (Nat × Nat)) (n : Nat) (σ : hT) (a1 : Int32) (a2 : Int32) (hm0 : (4, 0) ∈ dom) (hN : dom.Nodup) (hC : clo dom σ.2.2) (ρ : Int32) (hf : M_resolved n σ a1 a2 = some ρ) : Met l yM_resolved (.code yM_resolved cM_resolved 4 (some .int) :: aw) ({ frames := 3, cells := 0, slots := 0, locals := 67 }) (hR (dC, dI) ad ca dom σ [.ref (ad 4 0), .int a1, .int a2]) (vp_Si (fun r => r = ρ)) 0 0 (fun _ => False) := by
  refine Met.ofW (cc := cM_resolved) (maxL := 4) (ret := (some .int)) (by decide) rfl ?_
  intro p e s m args below meth c s₁ B hml hv
  obtain ⟨rfl, hv⟩ := hv
  have hx := B.exec
  have hb := B.bytes
  have hr := B.returns
  have hts : ∀ w ∈ aw, w.before _ s = true := fun w h => atoms_spec (ws := (.code yM_resolved cM_resolved 4 (some .int) :: aw)) B.pre w (List.mem_cons_of_mem _ h)
  have hown : s.vm.findClass RM = some m.cls := findClass_of_methodNamed B.named
  have hlocks := B.notSynchronized
  obtain ⟨hP, hK, hG⟩ := hv
  obtain ⟨H, hH⟩ : ∃ H, H = s.heap := ⟨_, rfl⟩
  rw [← hH] at hP ⊢
  unfold M_resolved at hf
  have hl := lv_entry ([.ref (ad 4 0), .int a1, .int a2]) (n := 4) (Nat.le_of_ble_eq_true rfl)
  rw [lg_entry_eq]
  generalize (lg_sl ([.ref (ad 4 0), .int a1, .int a2]) ++ List.replicate (4 - (lg_sl ([.ref (ad 4 0), .int a1, .int a2])).length) Slot.unset).toArray = ls at hl ⊢
  have hl : lv_has ls 4 [(0, .ref (ad 4 0)), (1, .int a1), (2, .int a2)] := hl
  refine lv_aload_n (pc := 0) hx hb dM_resolved_0 rfl (lv_at hl 0 rfl) ?_
  refine lv_iload_n (pc := 1) hx hb dM_resolved_1 rfl (lv_at hl 1 rfl) ?_
  refine lv_iload_n (pc := 2) hx hb dM_resolved_2 rfl (lv_at hl 2 rfl) ?_
  obtain ⟨q1, hq1, eq1⟩ := at_4 (ad := ad) (ca := ca) (σ := σ) hm0
  obtain ⟨y2, hy2, hf⟩ := ob hf
  refine vp_callSi (pc := 3) (W.runV (As := [.int a1, .int a2]) (rest := []) ⟨hx, hb, hml, hown, hts⟩ (t_M_refRevision l dC dI ad ca dom σ a1 a2 hm0 hN hC y2 hy2) (cwV 2 hts (gV wd_73 wd_74 wd_75 wd_50 wd_72) rfl rfl rfl (by decide +kernel) ⟨Nat.le_of_ble_eq_true rfl, Nat.le_of_ble_eq_true rfl⟩) ⟨hR_blind, va_recv (q := (RM, TM, 11)) (q0 := q1) (ci := 4) hK.1 hP rfl eq1, hR_pre hP hK hG⟩ rfl rfl hl.1 rfl (lv_room (Nat.le_of_ble_eq_true rfl)) dM_resolved_3 ⟨Nat.le_of_ble_eq_true rfl, Nat.le_of_ble_eq_true rfl⟩) (fun r9 hr9 => ?_)
  refine W.eq (g2 := F0 m 6 ls [.int y2]) (by rw [hr9]) ?_
  refine lv_istore_n (pc := 6) hx hb dM_resolved_6 rfl hl (by decide) rfl (fun ls hl => ?_)
  have hl : lv_has ls 4 [(3, .int y2), (0, .ref (ad 4 0)), (1, .int a1), (2, .int a2)] := hl
  refine lv_iload_n (pc := 7) hx hb dM_resolved_7 rfl (lv_at hl 0 rfl) ?_
  refine lv_iconst (pc := 8) (v := (-1)) hx hb dM_resolved_8 (by decide) ?_
  refine lv_icmp_ne (pc := 9) (tgt := 25) hx hb dM_resolved_9 rfl (fun h3 => ?_) (fun h3 => ?_)
  · replace hf := ite_f h3 hf
    refine lv_iload_n (pc := 25) hx hb dM_resolved_25 rfl (lv_at hl 0 rfl) ?_
    exact W.iret (pc := 26) hx hb hr (fun t ht hW => ⟨_, rfl, (Option.some.inj hf), ht.trans hH⟩) (fun q h => nomatch h) dM_resolved_26
  · replace hf := ite_t h3 hf
    refine lv_aload_n (pc := 12) hx hb dM_resolved_12 rfl (lv_at hl 1 rfl) ?_
    refine lv_aload_n (pc := 13) hx hb dM_resolved_13 rfl (lv_at hl 1 rfl) ?_
    refine lv_iload_n (pc := 14) hx hb dM_resolved_14 rfl (lv_at hl 2 rfl) ?_
    refine lv_iload_n (pc := 15) hx hb dM_resolved_15 rfl (lv_at hl 3 rfl) ?_
    obtain ⟨q4, hq4, eq4⟩ := at_4 (ad := ad) (ca := ca) (σ := σ) hm0
    obtain ⟨y5, hy5, hf⟩ := ob hf
    refine vp_callSi (pc := 16) (W.runV (As := [.int a1, .int a2]) (rest := [.ref (ad 4 0)]) ⟨hx, hb, hml, hown, hts⟩ (t_M_refDrawing l dC dI ad ca dom σ a1 a2 hm0 hN hC y5 hy5) (cwV 2 hts (gV wd_77 wd_78 wd_79 wd_50 wd_76) rfl rfl rfl (by decide +kernel) ⟨Nat.le_of_ble_eq_true rfl, Nat.le_of_ble_eq_true rfl⟩) ⟨hR_blind, va_recv (q := (RM, TM, 11)) (q0 := q4) (ci := 4) hK.1 hP rfl eq4, hR_pre hP hK hG⟩ rfl rfl hl.1 rfl (lv_room (Nat.le_of_ble_eq_true rfl)) dM_resolved_16 ⟨Nat.le_of_ble_eq_true rfl, Nat.le_of_ble_eq_true rfl⟩) (fun r9 hr9 => ?_)
    refine W.eq (g2 := F0 m 19 ls [.int y5, .ref (ad 4 0)]) (by rw [hr9]) ?_
    obtain ⟨q6, hq6, eq6⟩ := at_4 (ad := ad) (ca := ca) (σ := σ) hm0
    obtain ⟨y7, hy7, hf⟩ := ob hf
    refine vp_callSi (pc := 19) (W.runV (As := [.int y5]) (rest := []) ⟨hx, hb, hml, hown, hts⟩ (t_M_released l dC dI ad ca dom n σ y5 hm0 hN hC y7 hy7) (cwV 1 hts (gV wd_81 wd_82 wd_83 wd_50 wd_80) rfl rfl rfl (by decide +kernel) ⟨Nat.le_of_ble_eq_true rfl, Nat.le_of_ble_eq_true rfl⟩) ⟨hR_blind, va_recv (q := (RM, TM, 11)) (q0 := q6) (ci := 4) hK.1 hP rfl eq6, hR_pre hP hK hG⟩ rfl rfl hl.1 rfl (lv_room (Nat.le_of_ble_eq_true rfl)) dM_resolved_19 ⟨Nat.le_of_ble_eq_true rfl, Nat.le_of_ble_eq_true rfl⟩) (fun r9 hr9 => ?_)
    refine W.eq (g2 := F0 m 22 ls [.int y7]) (by rw [hr9]) ?_
    refine lv_goto (pc := 22) (tgt := 26) hx hb dM_resolved_22 rfl ?_
    exact W.iret (pc := 26) hx hb hr (fun t ht hW => ⟨_, rfl, (Option.some.inj hf), ht.trans hH⟩) (fun q h => nomatch h) dM_resolved_26
def M_isReleased (n : Nat) (σ : hT) (a1 : Int32) (a2 : Int32) : Option (Int32) := Option.bind (M_resolved n σ a1 a2) fun y2 => if y2 < 0 then some 0 else Option.bind (M_refDrawing σ a1 a2) fun y5 => Option.bind (M_stateOf σ y5 y2) fun y7 => if y7 = 2 then some 1 else some 0
set_option maxHeartbeats 4000000 in
set_option maxRecDepth 100000 in
theorem t_M_isReleased (l : Launch) (dC : Nat → ClassId) (dI : Nat → Nat → Nat) (ad : Nat → Nat → Nat) (ca : Nat → Nat → ClassId) (dom : List (Nat × Nat)) (n : Nat) (σ : hT) (a1 : Int32) (a2 : Int32) (hm0 : (4, 0) ∈ dom) (hN : dom.Nodup) (hC : clo dom σ.2.2) (ρ : Int32) (hf : M_isReleased n σ a1 a2 = some ρ) : Met l yM_isReleased (.code yM_isReleased cM_isReleased 4 (some .boolean) :: aw) ({ frames := 4, cells := 0, slots := 0, locals := 90 }) (hR (dC, dI) ad ca dom σ [.ref (ad 4 0), .int a1, .int a2]) (vp_Si (fun r => r = ρ)) 0 0 (fun _ => False) := by
  refine Met.ofW (cc := cM_isReleased) (maxL := 4) (ret := (some .boolean)) (by decide) rfl ?_
  intro p e s m args below meth c s₁ B hml hv
  obtain ⟨rfl, hv⟩ := hv
  have hx := B.exec
  have hb := B.bytes
  have hr := B.returns
  have hts : ∀ w ∈ aw, w.before _ s = true := fun w h => atoms_spec (ws := (.code yM_isReleased cM_isReleased 4 (some .boolean) :: aw)) B.pre w (List.mem_cons_of_mem _ h)
  have hown : s.vm.findClass RM = some m.cls := findClass_of_methodNamed B.named
  have hlocks := B.notSynchronized
  obtain ⟨hP, hK, hG⟩ := hv
  obtain ⟨H, hH⟩ : ∃ H, H = s.heap := ⟨_, rfl⟩
  rw [← hH] at hP ⊢
  unfold M_isReleased at hf
  have hl := lv_entry ([.ref (ad 4 0), .int a1, .int a2]) (n := 4) (Nat.le_of_ble_eq_true rfl)
  rw [lg_entry_eq]
  generalize (lg_sl ([.ref (ad 4 0), .int a1, .int a2]) ++ List.replicate (4 - (lg_sl ([.ref (ad 4 0), .int a1, .int a2])).length) Slot.unset).toArray = ls at hl ⊢
  have hl : lv_has ls 4 [(0, .ref (ad 4 0)), (1, .int a1), (2, .int a2)] := hl
  refine lv_aload_n (pc := 0) hx hb dM_isReleased_0 rfl (lv_at hl 0 rfl) ?_
  refine lv_iload_n (pc := 1) hx hb dM_isReleased_1 rfl (lv_at hl 1 rfl) ?_
  refine lv_iload_n (pc := 2) hx hb dM_isReleased_2 rfl (lv_at hl 2 rfl) ?_
  obtain ⟨q1, hq1, eq1⟩ := at_4 (ad := ad) (ca := ca) (σ := σ) hm0
  obtain ⟨y2, hy2, hf⟩ := ob hf
  refine vp_callSi (pc := 3) (W.runV (As := [.int a1, .int a2]) (rest := []) ⟨hx, hb, hml, hown, hts⟩ (t_M_resolved l dC dI ad ca dom n σ a1 a2 hm0 hN hC y2 hy2) (cwV 2 hts (gV wd_85 wd_86 wd_87 wd_50 wd_84) rfl rfl rfl (by decide +kernel) ⟨Nat.le_of_ble_eq_true rfl, Nat.le_of_ble_eq_true rfl⟩) ⟨hR_blind, va_recv (q := (RM, TM, 11)) (q0 := q1) (ci := 4) hK.1 hP rfl eq1, hR_pre hP hK hG⟩ rfl rfl hl.1 rfl (lv_room (Nat.le_of_ble_eq_true rfl)) dM_isReleased_3 ⟨Nat.le_of_ble_eq_true rfl, Nat.le_of_ble_eq_true rfl⟩) (fun r9 hr9 => ?_)
  refine W.eq (g2 := F0 m 6 ls [.int y2]) (by rw [hr9]) ?_
  refine lv_istore_n (pc := 6) hx hb dM_isReleased_6 rfl hl (by decide) rfl (fun ls hl => ?_)
  have hl : lv_has ls 4 [(3, .int y2), (0, .ref (ad 4 0)), (1, .int a1), (2, .int a2)] := hl
  refine lv_iload_n (pc := 7) hx hb dM_isReleased_7 rfl (lv_at hl 0 rfl) ?_
  refine lv_if_lt (pc := 8) (tgt := 30) hx hb dM_isReleased_8 rfl (fun h3 => ?_) (fun h3 => ?_)
  · replace hf := ite_t h3 hf
    refine lv_iconst (pc := 30) (v := 0) hx hb dM_isReleased_30 (by decide) ?_
    exact W.zret (pc := 31) hx hb hr (rfl) (fun t ht hW => ⟨_, rfl, (Option.some.inj hf), ht.trans hH⟩) (fun q h => nomatch h) dM_isReleased_31
  · replace hf := ite_f h3 hf
    refine lv_aload_n (pc := 11) hx hb dM_isReleased_11 rfl (lv_at hl 1 rfl) ?_
    refine lv_aload_n (pc := 12) hx hb dM_isReleased_12 rfl (lv_at hl 1 rfl) ?_
    refine lv_iload_n (pc := 13) hx hb dM_isReleased_13 rfl (lv_at hl 2 rfl) ?_
    refine lv_iload_n (pc := 14) hx hb dM_isReleased_14 rfl (lv_at hl 3 rfl) ?_
    obtain ⟨q4, hq4, eq4⟩ := at_4 (ad := ad) (ca := ca) (σ := σ) hm0
    obtain ⟨y5, hy5, hf⟩ := ob hf
    refine vp_callSi (pc := 15) (W.runV (As := [.int a1, .int a2]) (rest := [.ref (ad 4 0)]) ⟨hx, hb, hml, hown, hts⟩ (t_M_refDrawing l dC dI ad ca dom σ a1 a2 hm0 hN hC y5 hy5) (cwV 2 hts (gV wd_77 wd_78 wd_79 wd_50 wd_76) rfl rfl rfl (by decide +kernel) ⟨Nat.le_of_ble_eq_true rfl, Nat.le_of_ble_eq_true rfl⟩) ⟨hR_blind, va_recv (q := (RM, TM, 11)) (q0 := q4) (ci := 4) hK.1 hP rfl eq4, hR_pre hP hK hG⟩ rfl rfl hl.1 rfl (lv_room (Nat.le_of_ble_eq_true rfl)) dM_isReleased_15 ⟨Nat.le_of_ble_eq_true rfl, Nat.le_of_ble_eq_true rfl⟩) (fun r9 hr9 => ?_)
    refine W.eq (g2 := F0 m 18 ls [.int y5, .ref (ad 4 0)]) (by rw [hr9]) ?_
    refine lv_iload_n (pc := 18) hx hb dM_isReleased_18 rfl (lv_at hl 0 rfl) ?_
    obtain ⟨q6, hq6, eq6⟩ := at_4 (ad := ad) (ca := ca) (σ := σ) hm0
    obtain ⟨y7, hy7, hf⟩ := ob hf
    refine vp_callSi (pc := 19) (W.runV (As := [.int y5, .int y2]) (rest := []) ⟨hx, hb, hml, hown, hts⟩ (t_M_stateOf l dC dI ad ca dom σ y5 y2 hm0 hN hC y7 hy7) (cwV 2 hts (gV wd_69 wd_70 wd_71 wd_50 wd_68) rfl rfl rfl (by decide +kernel) ⟨Nat.le_of_ble_eq_true rfl, Nat.le_of_ble_eq_true rfl⟩) ⟨hR_blind, va_recv (q := (RM, TM, 11)) (q0 := q6) (ci := 4) hK.1 hP rfl eq6, hR_pre hP hK hG⟩ rfl rfl hl.1 rfl (lv_room (Nat.le_of_ble_eq_true rfl)) dM_isReleased_19 ⟨Nat.le_of_ble_eq_true rfl, Nat.le_of_ble_eq_true rfl⟩) (fun r9 hr9 => ?_)
    refine W.eq (g2 := F0 m 22 ls [.int y7]) (by rw [hr9]) ?_
    refine lv_iconst (pc := 22) (v := 2) hx hb dM_isReleased_22 (by decide) ?_
    refine lv_icmp_ne (pc := 23) (tgt := 30) hx hb dM_isReleased_23 rfl (fun h8 => ?_) (fun h8 => ?_)
    · replace hf := ite_f h8 hf
      refine lv_iconst (pc := 30) (v := 0) hx hb dM_isReleased_30 (by decide) ?_
      exact W.zret (pc := 31) hx hb hr (rfl) (fun t ht hW => ⟨_, rfl, (Option.some.inj hf), ht.trans hH⟩) (fun q h => nomatch h) dM_isReleased_31
    · replace hf := ite_t h8 hf
      refine lv_iconst (pc := 26) (v := 1) hx hb dM_isReleased_26 (by decide) ?_
      refine lv_goto (pc := 27) (tgt := 31) hx hb dM_isReleased_27 rfl ?_
      exact W.zret (pc := 31) hx hb hr (rfl) (fun t ht hW => ⟨_, rfl, (Option.some.inj hf), ht.trans hH⟩) (fun q h => nomatch h) dM_isReleased_31
def M_allRevisions_L4 (n : Nat) (σ : hT) (kx3 : Int32 → Int32 → Option (Int32)) : Nat → Int32 → Int32 → Option (Int32)
  | 0, _, _ => none
  | k + 1, p1, p2 => if (xI σ 15 0 16) ≤ p1 then kx3 p1 p2 else Option.bind (M_made σ p1) fun y9 => M_allRevisions_L4 n σ kx3 k (p1 + 1) (p2 + y9)
def M_allRevisions (n : Nat) (σ : hT) : Option (Int32) := lt9 (α := Int32 → Int32 → Option (Int32)) (fun (p1 : Int32) (p2 : Int32) => some p2) fun kx3 => M_allRevisions_L4 n σ kx3 n 0 0
set_option maxHeartbeats 4000000 in
set_option maxRecDepth 100000 in
theorem t_M_allRevisions (l : Launch) (dC : Nat → ClassId) (dI : Nat → Nat → Nat) (ad : Nat → Nat → Nat) (ca : Nat → Nat → ClassId) (dom : List (Nat × Nat)) (n : Nat) (σ : hT) (hm0 : (4, 0) ∈ dom) (hN : dom.Nodup) (hC : clo dom σ.2.2) (ρ : Int32) (hf : M_allRevisions n σ = some ρ) : Met l yM_allRevisions (.code yM_allRevisions cM_allRevisions 3 (some .int) :: aw) ({ frames := 2, cells := 0, slots := 0, locals := 42 }) (hR (dC, dI) ad ca dom σ [.ref (ad 4 0)]) (vp_Si (fun r => r = ρ)) 0 0 (fun _ => False) := by
  refine Met.ofW (cc := cM_allRevisions) (maxL := 3) (ret := (some .int)) (by decide) rfl ?_
  intro p e s m args below meth c s₁ B hml hv
  obtain ⟨rfl, hv⟩ := hv
  have hx := B.exec
  have hb := B.bytes
  have hr := B.returns
  have hts : ∀ w ∈ aw, w.before _ s = true := fun w h => atoms_spec (ws := (.code yM_allRevisions cM_allRevisions 3 (some .int) :: aw)) B.pre w (List.mem_cons_of_mem _ h)
  have hown : s.vm.findClass RM = some m.cls := findClass_of_methodNamed B.named
  have hlocks := B.notSynchronized
  obtain ⟨hP, hK, hG⟩ := hv
  obtain ⟨H, hH⟩ : ∃ H, H = s.heap := ⟨_, rfl⟩
  rw [← hH] at hP ⊢
  unfold M_allRevisions at hf
  have hl := lv_entry ([.ref (ad 4 0)]) (n := 3) (Nat.le_of_ble_eq_true rfl)
  rw [lg_entry_eq]
  generalize (lg_sl ([.ref (ad 4 0)]) ++ List.replicate (3 - (lg_sl ([.ref (ad 4 0)])).length) Slot.unset).toArray = ls at hl ⊢
  have hl : lv_has ls 3 [(0, .ref (ad 4 0))] := hl
  refine lv_iconst (pc := 0) (v := 0) hx hb dM_allRevisions_0 (by decide) ?_
  refine lv_istore_n (pc := 1) hx hb dM_allRevisions_1 rfl hl (by decide) rfl (fun ls hl => ?_)
  have hl : lv_has ls 3 [(1, .int 0), (0, .ref (ad 4 0))] := hl
  refine lv_iconst (pc := 2) (v := 0) hx hb dM_allRevisions_2 (by decide) ?_
  refine lv_istore_n (pc := 3) hx hb dM_allRevisions_3 rfl hl (by decide) rfl (fun ls hl => ?_)
  have hl : lv_has ls 3 [(2, .int 0), (1, .int 0), (0, .ref (ad 4 0))] := hl
  obtain ⟨kx3, hkx3, hf⟩ := lt_9 hf
  refine lpF (τ := (Int32) × (Int32) × (Array Slot)) (fun pc z => W p l e _ s m _ below meth c H ([]) 0 0 _ (F0 m pc z.2.2 [])) 4 29 (fun z => lv_has z.2.2 3 [(2, .int z.1), (1, .int z.2.1), (0, .ref (ad 4 0))]) (fun k z => M_allRevisions_L4 n σ kx3 k z.1 z.2.1) (fun z => kx3 z.1 z.2.1) _ (fun z => rfl) ?_ ?_ n (0, 0, ls) hl hf
  · rintro k ⟨p1, p2, ls⟩ hl hf ih4 hXkx3
    dsimp only at hl hf ih4 hXkx3 ⊢
    unfold M_allRevisions_L4 at hf
    have hl : lv_has ls 3 [(2, .int p1), (1, .int p2), (0, .ref (ad 4 0))] := hl
    refine lv_iload_n (pc := 4) hx hb dM_allRevisions_4 rfl (lv_at hl 0 rfl) ?_
    refine lv_aload_n (pc := 5) hx hb dM_allRevisions_5 rfl (lv_at hl 2 rfl) ?_
    obtain ⟨q5, hq5, eq5⟩ := at_4 (ad := ad) (ca := ca) (σ := σ) hm0
    refine va_get (D := (dC, dI)) (cl := kCl) (C := RM) (T := TM) (N := 11) (pc := 6) hx hb hts inM hown hK.1 hP q5 eq5 rfl 2 (by decide) (hts _ wd_51) (fun _ h9 => h9) rfl dM_allRevisions_6 ?_
    refine lv_bipush (pc := 9) (v := 16) hx hb dM_allRevisions_9 (by decide) ?_
    obtain ⟨q6, hq6, eq6⟩ := at_15 (ad := ad) (ca := ca) (σ := σ) (cm_4_2 hC hm0)
    refine va_iald (D := (dC, dI)) (cl := kCl) (pc := 11) hx hb (hK.2 15 0 .int (cm_4_2 hC hm0) rfl) hP q6 0 eq6 rfl (vp_in_lit 16 25240 (by decide)) dM_allRevisions_11 ?_
    refine W.eq (g2 := F0 m 12 ls [.int (xI σ 15 0 16), .int p1]) rfl ?_
    refine lv_icmp_ge (pc := 12) (tgt := 29) hx hb dM_allRevisions_12 rfl (fun h7 => ?_) (fun h7 => ?_)
    · replace hf := ite_t h7 hf
      have hl := lv_sub hl (l' := [(2, .int p1), (1, .int p2), (0, .ref (ad 4 0))]) [0, 1, 2] rfl
      exact hXkx3 (p1, p2, ls) hl hf
    · replace hf := ite_f h7 hf
      refine lv_iload_n (pc := 15) hx hb dM_allRevisions_15 rfl (lv_at hl 1 rfl) ?_
      refine lv_aload_n (pc := 16) hx hb dM_allRevisions_16 rfl (lv_at hl 2 rfl) ?_
      refine lv_iload_n (pc := 17) hx hb dM_allRevisions_17 rfl (lv_at hl 0 rfl) ?_
      obtain ⟨q8, hq8, eq8⟩ := at_4 (ad := ad) (ca := ca) (σ := σ) hm0
      obtain ⟨y9, hy9, hf⟩ := ob hf
      refine vp_callSi (pc := 18) (W.runV (As := [.int p1]) (rest := [.int p2]) ⟨hx, hb, hml, hown, hts⟩ (t_M_made l dC dI ad ca dom σ p1 hm0 hN hC y9 hy9) (cwV 1 hts (gV wd_61 wd_62 wd_63 wd_50 wd_60) rfl rfl rfl (by decide +kernel) ⟨Nat.le_of_ble_eq_true rfl, Nat.le_of_ble_eq_true rfl⟩) ⟨hR_blind, va_recv (q := (RM, TM, 11)) (q0 := q8) (ci := 4) hK.1 hP rfl eq8, hR_pre hP hK hG⟩ rfl rfl hl.1 rfl (lv_room (Nat.le_of_ble_eq_true rfl)) dM_allRevisions_18 ⟨Nat.le_of_ble_eq_true rfl, Nat.le_of_ble_eq_true rfl⟩) (fun r9 hr9 => ?_)
      refine W.eq (g2 := F0 m 21 ls [.int y9, .int p2]) (by rw [hr9]) ?_
      refine lv_iadd (pc := 21) hx hb dM_allRevisions_21 ?_
      refine lv_istore_n (pc := 22) hx hb dM_allRevisions_22 rfl hl (by decide) rfl (fun ls hl => ?_)
      have hl : lv_has ls 3 [(1, .int (p2 + y9)), (2, .int p1), (0, .ref (ad 4 0))] := hl
      refine lv_iinc (pc := 23) (v := (p1 + 1)) hx hb dM_allRevisions_23 hl (k := 1) rfl (by rfl) (by decide) rfl (fun ls hl => ?_)
      have hl : lv_has ls 3 [(2, .int (p1 + 1)), (1, .int (p2 + y9)), (0, .ref (ad 4 0))] := hl
      refine lv_goto (pc := 26) (tgt := 4) hx hb dM_allRevisions_26 rfl ?_
      have hl := lv_sub hl (l' := [(2, .int (p1 + 1)), (1, .int (p2 + y9)), (0, .ref (ad 4 0))]) [0, 1, 2] rfl
      exact ih4 ((p1 + 1), (p2 + y9), ls) hl hf
  · rintro ⟨p1, p2, ls⟩ hl hf
    dsimp only at hl hf ⊢
    rw [hkx3] at hf
    have hl : lv_has ls 3 [(2, .int p1), (1, .int p2), (0, .ref (ad 4 0))] := hl
    refine lv_iload_n (pc := 29) hx hb dM_allRevisions_29 rfl (lv_at hl 1 rfl) ?_
    exact W.iret (pc := 30) hx hb hr (fun t ht hW => ⟨_, rfl, (Option.some.inj hf), ht.trans hH⟩) (fun q h => nomatch h) dM_allRevisions_30
def M_parts (a0 : Int32) : Int32 := ((a0 + 7) / 8)
set_option maxHeartbeats 4000000 in
set_option maxRecDepth 100000 in
theorem t_M_parts (l : Launch) (dC : Nat → ClassId) (dI : Nat → Nat → Nat) (ad : Nat → Nat → Nat) (ca : Nat → Nat → ClassId) (dom : List (Nat × Nat)) (a0 : Int32) (σ : hT) (hN : dom.Nodup) (hC : clo dom σ.2.2) (ρ : Int32) (hf : M_parts a0 = ρ) : Met l yM_parts (.code yM_parts cM_parts 1 (some .int) :: aw) ({ frames := 0, cells := 0, slots := 0, locals := 0 }) (hR (dC, dI) ad ca dom σ [.int a0]) (vp_Si (fun r => r = ρ)) 0 0 (fun _ => False) := by
  refine Met.ofW (cc := cM_parts) (maxL := 1) (ret := (some .int)) (by decide) rfl ?_
  intro p e s m args below meth c s₁ B hml hv
  obtain ⟨rfl, hv⟩ := hv
  have hx := B.exec
  have hb := B.bytes
  have hr := B.returns
  have hts : ∀ w ∈ aw, w.before _ s = true := fun w h => atoms_spec (ws := (.code yM_parts cM_parts 1 (some .int) :: aw)) B.pre w (List.mem_cons_of_mem _ h)
  have hown : s.vm.findClass RM = some m.cls := findClass_of_methodNamed B.named
  have hlocks := B.notSynchronized
  obtain ⟨hP, hK, hG⟩ := hv
  obtain ⟨H, hH⟩ : ∃ H, H = s.heap := ⟨_, rfl⟩
  rw [← hH] at hP ⊢
  unfold M_parts at hf
  have hl := lv_entry ([.int a0]) (n := 1) (Nat.le_of_ble_eq_true rfl)
  rw [lg_entry_eq]
  generalize (lg_sl ([.int a0]) ++ List.replicate (1 - (lg_sl ([.int a0])).length) Slot.unset).toArray = ls at hl ⊢
  have hl : lv_has ls 1 [(0, .int a0)] := hl
  refine lv_iload_n (pc := 0) hx hb dM_parts_0 rfl (lv_at hl 0 rfl) ?_
  refine lv_bipush (pc := 1) (v := 7) hx hb dM_parts_1 (by decide) ?_
  refine lv_iadd (pc := 3) hx hb dM_parts_3 ?_
  refine lv_bipush (pc := 4) (v := 8) hx hb dM_parts_4 (by decide) ?_
  refine lv_idiv (pc := 6) hx hb dM_parts_6 (by decide) ?_
  exact W.iret (pc := 7) hx hb hr (fun t ht hW => ⟨_, rfl, hf, ht.trans hH⟩) (fun q h => nomatch h) dM_parts_7
def M_pieceLength (σ : hT) (a1 : Int32) (a2 : Int32) : Option (Int32) := if in9 (a1 + 2) 25240 then if ((xI σ 15 0 ((a1 + 2)).toNatClampNeg) - (8 * a2)) ≤ 8 then if 0 ≤ ((xI σ 15 0 ((a1 + 2)).toNatClampNeg) - (8 * a2)) then some ((xI σ 15 0 ((a1 + 2)).toNatClampNeg) - (8 * a2)) else some 0 else some 8 else none
set_option maxHeartbeats 4000000 in
set_option maxRecDepth 100000 in
theorem t_M_pieceLength (l : Launch) (dC : Nat → ClassId) (dI : Nat → Nat → Nat) (ad : Nat → Nat → Nat) (ca : Nat → Nat → ClassId) (dom : List (Nat × Nat)) (σ : hT) (a1 : Int32) (a2 : Int32) (hm0 : (4, 0) ∈ dom) (hN : dom.Nodup) (hC : clo dom σ.2.2) (ρ : Int32) (hf : M_pieceLength σ a1 a2 = some ρ) : Met l yM_pieceLength (.code yM_pieceLength cM_pieceLength 4 (some .int) :: aw) ({ frames := 0, cells := 0, slots := 0, locals := 0 }) (hR (dC, dI) ad ca dom σ [.ref (ad 4 0), .int a1, .int a2]) (vp_Si (fun r => r = ρ)) 0 0 (fun _ => False) := by
  refine Met.ofW (cc := cM_pieceLength) (maxL := 4) (ret := (some .int)) (by decide) rfl ?_
  intro p e s m args below meth c s₁ B hml hv
  obtain ⟨rfl, hv⟩ := hv
  have hx := B.exec
  have hb := B.bytes
  have hr := B.returns
  have hts : ∀ w ∈ aw, w.before _ s = true := fun w h => atoms_spec (ws := (.code yM_pieceLength cM_pieceLength 4 (some .int) :: aw)) B.pre w (List.mem_cons_of_mem _ h)
  have hown : s.vm.findClass RM = some m.cls := findClass_of_methodNamed B.named
  have hlocks := B.notSynchronized
  obtain ⟨hP, hK, hG⟩ := hv
  obtain ⟨H, hH⟩ : ∃ H, H = s.heap := ⟨_, rfl⟩
  rw [← hH] at hP ⊢
  unfold M_pieceLength at hf
  have hl := lv_entry ([.ref (ad 4 0), .int a1, .int a2]) (n := 4) (Nat.le_of_ble_eq_true rfl)
  rw [lg_entry_eq]
  generalize (lg_sl ([.ref (ad 4 0), .int a1, .int a2]) ++ List.replicate (4 - (lg_sl ([.ref (ad 4 0), .int a1, .int a2])).length) Slot.unset).toArray = ls at hl ⊢
  have hl : lv_has ls 4 [(0, .ref (ad 4 0)), (1, .int a1), (2, .int a2)] := hl
  refine lv_aload_n (pc := 0) hx hb dM_pieceLength_0 rfl (lv_at hl 0 rfl) ?_
  obtain ⟨q1, hq1, eq1⟩ := at_4 (ad := ad) (ca := ca) (σ := σ) hm0
  refine va_get (D := (dC, dI)) (cl := kCl) (C := RM) (T := TM) (N := 11) (pc := 1) hx hb hts inM hown hK.1 hP q1 eq1 rfl 2 (by decide) (hts _ wd_51) (fun _ h9 => h9) rfl dM_pieceLength_1 ?_
  refine lv_iload_n (pc := 4) hx hb dM_pieceLength_4 rfl (lv_at hl 1 rfl) ?_
  refine lv_iconst (pc := 5) (v := 2) hx hb dM_pieceLength_5 (by decide) ?_
  refine lv_iadd (pc := 6) hx hb dM_pieceLength_6 ?_
  obtain ⟨hv2, hf⟩ := ite_s hf
  obtain ⟨q3, hq3, eq3⟩ := at_15 (ad := ad) (ca := ca) (σ := σ) (cm_4_2 hC hm0)
  refine va_iald (D := (dC, dI)) (cl := kCl) (pc := 7) hx hb (hK.2 15 0 .int (cm_4_2 hC hm0) rfl) hP q3 0 eq3 rfl (hv2) dM_pieceLength_7 ?_
  refine W.eq (g2 := F0 m 8 ls [.int (xI σ 15 0 ((a1 + 2)).toNatClampNeg)]) rfl ?_
  refine lv_bipush (pc := 8) (v := 8) hx hb dM_pieceLength_8 (by decide) ?_
  refine lv_iload_n (pc := 10) hx hb dM_pieceLength_10 rfl (lv_at hl 2 rfl) ?_
  refine lv_imul (pc := 11) hx hb dM_pieceLength_11 ?_
  refine lv_isub (pc := 12) hx hb dM_pieceLength_12 ?_
  refine lv_istore_n (pc := 13) hx hb dM_pieceLength_13 rfl hl (by decide) rfl (fun ls hl => ?_)
  have hl : lv_has ls 4 [(3, .int ((xI σ 15 0 ((a1 + 2)).toNatClampNeg) - (8 * a2))), (0, .ref (ad 4 0)), (1, .int a1), (2, .int a2)] := hl
  refine lv_iload_n (pc := 14) hx hb dM_pieceLength_14 rfl (lv_at hl 0 rfl) ?_
  refine lv_bipush (pc := 15) (v := 8) hx hb dM_pieceLength_15 (by decide) ?_
  refine lv_icmp_le (pc := 17) (tgt := 25) hx hb dM_pieceLength_17 rfl (fun h4 => ?_) (fun h4 => ?_)
  · replace hf := ite_t h4 hf
    refine lv_iload_n (pc := 25) hx hb dM_pieceLength_25 rfl (lv_at hl 0 rfl) ?_
    refine lv_if_ge (pc := 26) (tgt := 33) hx hb dM_pieceLength_26 rfl (fun h5 => ?_) (fun h5 => ?_)
    · replace hf := ite_t h5 hf
      refine lv_iload_n (pc := 33) hx hb dM_pieceLength_33 rfl (lv_at hl 0 rfl) ?_
      exact W.iret (pc := 34) hx hb hr (fun t ht hW => ⟨_, rfl, (Option.some.inj hf), ht.trans hH⟩) (fun q h => nomatch h) dM_pieceLength_34
    · replace hf := ite_f h5 hf
      refine lv_iconst (pc := 29) (v := 0) hx hb dM_pieceLength_29 (by decide) ?_
      refine lv_goto (pc := 30) (tgt := 34) hx hb dM_pieceLength_30 rfl ?_
      exact W.iret (pc := 34) hx hb hr (fun t ht hW => ⟨_, rfl, (Option.some.inj hf), ht.trans hH⟩) (fun q h => nomatch h) dM_pieceLength_34
  · replace hf := ite_f h4 hf
    refine lv_bipush (pc := 20) (v := 8) hx hb dM_pieceLength_20 (by decide) ?_
    refine lv_goto (pc := 22) (tgt := 34) hx hb dM_pieceLength_22 rfl ?_
    exact W.iret (pc := 34) hx hb hr (fun t ht hW => ⟨_, rfl, (Option.some.inj hf), ht.trans hH⟩) (fun q h => nomatch h) dM_pieceLength_34
