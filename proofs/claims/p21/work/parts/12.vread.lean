abbrev cV_isPerson : ByteArray := prog_1_method_42_code
abbrev yV_isPerson : MethodName := ⟨"DrawingVault", "isPerson", "(I)Z"⟩
theorem dV_isPerson_0 : decode cV_isPerson 0 = .ok (.iload_n 0, 1) := by decide +kernel
theorem dV_isPerson_1 : decode cV_isPerson 1 = .ok (.ifCond .lt 13, 3) := by decide +kernel
theorem dV_isPerson_4 : decode cV_isPerson 4 = .ok (.iload_n 0, 1) := by decide +kernel
theorem dV_isPerson_5 : decode cV_isPerson 5 = .ok (.bipush 16, 2) := by decide +kernel
theorem dV_isPerson_7 : decode cV_isPerson 7 = .ok (.if_icmp .ge 7, 3) := by decide +kernel
theorem dV_isPerson_10 : decode cV_isPerson 10 = .ok (.iconst 1, 1) := by decide +kernel
theorem dV_isPerson_11 : decode cV_isPerson 11 = .ok (.goto 4, 3) := by decide +kernel
theorem dV_isPerson_14 : decode cV_isPerson 14 = .ok (.iconst 0, 1) := by decide +kernel
theorem dV_isPerson_15 : decode cV_isPerson 15 = .ok (.ireturn, 1) := by decide +kernel
abbrev cV_hasRight : ByteArray := prog_1_method_43_code
abbrev yV_hasRight : MethodName := ⟨"DrawingVault", "hasRight", "(II)Z"⟩
theorem dV_hasRight_0 : decode cV_hasRight 0 = .ok (.iload_n 1, 1) := by decide +kernel
theorem dV_hasRight_1 : decode cV_hasRight 1 = .ok (.invokestatic 47, 3) := by decide +kernel
theorem dV_hasRight_4 : decode cV_hasRight 4 = .ok (.ifCond .eq 18, 3) := by decide +kernel
theorem dV_hasRight_7 : decode cV_hasRight 7 = .ok (.aload_n 0, 1) := by decide +kernel
theorem dV_hasRight_8 : decode cV_hasRight 8 = .ok (.getfield 9, 3) := by decide +kernel
theorem dV_hasRight_11 : decode cV_hasRight 11 = .ok (.iload_n 1, 1) := by decide +kernel
theorem dV_hasRight_12 : decode cV_hasRight 12 = .ok (.iaload, 1) := by decide +kernel
theorem dV_hasRight_13 : decode cV_hasRight 13 = .ok (.iload_n 2, 1) := by decide +kernel
theorem dV_hasRight_14 : decode cV_hasRight 14 = .ok (.iand, 1) := by decide +kernel
theorem dV_hasRight_15 : decode cV_hasRight 15 = .ok (.ifCond .eq 7, 3) := by decide +kernel
theorem dV_hasRight_18 : decode cV_hasRight 18 = .ok (.iconst 1, 1) := by decide +kernel
theorem dV_hasRight_19 : decode cV_hasRight 19 = .ok (.goto 4, 3) := by decide +kernel
theorem dV_hasRight_22 : decode cV_hasRight 22 = .ok (.iconst 0, 1) := by decide +kernel
theorem dV_hasRight_23 : decode cV_hasRight 23 = .ok (.ireturn, 1) := by decide +kernel
abbrev cV_drawingAt : ByteArray := prog_1_method_44_code
abbrev yV_drawingAt : MethodName := ⟨"DrawingVault", "drawingAt", "(I)LDrawingVault$Drawing;"⟩
theorem dV_drawingAt_0 : decode cV_drawingAt 0 = .ok (.iload_n 1, 1) := by decide +kernel
theorem dV_drawingAt_1 : decode cV_drawingAt 1 = .ok (.ifCond .lt 20, 3) := by decide +kernel
theorem dV_drawingAt_4 : decode cV_drawingAt 4 = .ok (.iload_n 1, 1) := by decide +kernel
theorem dV_drawingAt_5 : decode cV_drawingAt 5 = .ok (.aload_n 0, 1) := by decide +kernel
theorem dV_drawingAt_6 : decode cV_drawingAt 6 = .ok (.getfield 67, 3) := by decide +kernel
theorem dV_drawingAt_9 : decode cV_drawingAt 9 = .ok (.if_icmp .ge 12, 3) := by decide +kernel
theorem dV_drawingAt_12 : decode cV_drawingAt 12 = .ok (.aload_n 0, 1) := by decide +kernel
theorem dV_drawingAt_13 : decode cV_drawingAt 13 = .ok (.getfield 15, 3) := by decide +kernel
theorem dV_drawingAt_16 : decode cV_drawingAt 16 = .ok (.iload_n 1, 1) := by decide +kernel
theorem dV_drawingAt_17 : decode cV_drawingAt 17 = .ok (.aaload, 1) := by decide +kernel
theorem dV_drawingAt_18 : decode cV_drawingAt 18 = .ok (.goto 4, 3) := by decide +kernel
theorem dV_drawingAt_21 : decode cV_drawingAt 21 = .ok (.aconst_null, 1) := by decide +kernel
theorem dV_drawingAt_22 : decode cV_drawingAt 22 = .ok (.areturn, 1) := by decide +kernel
abbrev cV_revisionAt : ByteArray := prog_1_method_45_code
abbrev yV_revisionAt : MethodName := ⟨"DrawingVault", "revisionAt", "(II)LDrawingVault$Revision;"⟩
theorem dV_revisionAt_0 : decode cV_revisionAt 0 = .ok (.aload_n 0, 1) := by decide +kernel
theorem dV_revisionAt_1 : decode cV_revisionAt 1 = .ok (.iload_n 1, 1) := by decide +kernel
theorem dV_revisionAt_2 : decode cV_revisionAt 2 = .ok (.invokevirtual 74, 3) := by decide +kernel
theorem dV_revisionAt_5 : decode cV_revisionAt 5 = .ok (.astore_n 3, 1) := by decide +kernel
theorem dV_revisionAt_6 : decode cV_revisionAt 6 = .ok (.aload_n 3, 1) := by decide +kernel
theorem dV_revisionAt_7 : decode cV_revisionAt 7 = .ok (.ifnull 20, 3) := by decide +kernel
theorem dV_revisionAt_10 : decode cV_revisionAt 10 = .ok (.aload_n 3, 1) := by decide +kernel
theorem dV_revisionAt_11 : decode cV_revisionAt 11 = .ok (.iload_n 2, 1) := by decide +kernel
theorem dV_revisionAt_12 : decode cV_revisionAt 12 = .ok (.invokevirtual 328, 3) := by decide +kernel
theorem dV_revisionAt_15 : decode cV_revisionAt 15 = .ok (.ifCond .eq 12, 3) := by decide +kernel
theorem dV_revisionAt_18 : decode cV_revisionAt 18 = .ok (.aload_n 3, 1) := by decide +kernel
theorem dV_revisionAt_19 : decode cV_revisionAt 19 = .ok (.getfield 331, 3) := by decide +kernel
theorem dV_revisionAt_22 : decode cV_revisionAt 22 = .ok (.iload_n 2, 1) := by decide +kernel
theorem dV_revisionAt_23 : decode cV_revisionAt 23 = .ok (.aaload, 1) := by decide +kernel
theorem dV_revisionAt_24 : decode cV_revisionAt 24 = .ok (.goto 4, 3) := by decide +kernel
theorem dV_revisionAt_27 : decode cV_revisionAt 27 = .ok (.aconst_null, 1) := by decide +kernel
theorem dV_revisionAt_28 : decode cV_revisionAt 28 = .ok (.areturn, 1) := by decide +kernel
abbrev cV_baselineAt : ByteArray := prog_1_method_46_code
abbrev yV_baselineAt : MethodName := ⟨"DrawingVault", "baselineAt", "(I)LDrawingVault$Baseline;"⟩
theorem dV_baselineAt_0 : decode cV_baselineAt 0 = .ok (.iload_n 1, 1) := by decide +kernel
theorem dV_baselineAt_1 : decode cV_baselineAt 1 = .ok (.ifCond .lt 18, 3) := by decide +kernel
theorem dV_baselineAt_4 : decode cV_baselineAt 4 = .ok (.iload_n 1, 1) := by decide +kernel
theorem dV_baselineAt_5 : decode cV_baselineAt 5 = .ok (.bipush 10, 2) := by decide +kernel
theorem dV_baselineAt_7 : decode cV_baselineAt 7 = .ok (.if_icmp .ge 12, 3) := by decide +kernel
theorem dV_baselineAt_10 : decode cV_baselineAt 10 = .ok (.aload_n 0, 1) := by decide +kernel
theorem dV_baselineAt_11 : decode cV_baselineAt 11 = .ok (.getfield 21, 3) := by decide +kernel
theorem dV_baselineAt_14 : decode cV_baselineAt 14 = .ok (.iload_n 1, 1) := by decide +kernel
theorem dV_baselineAt_15 : decode cV_baselineAt 15 = .ok (.aaload, 1) := by decide +kernel
theorem dV_baselineAt_16 : decode cV_baselineAt 16 = .ok (.goto 4, 3) := by decide +kernel
theorem dV_baselineAt_19 : decode cV_baselineAt 19 = .ok (.aconst_null, 1) := by decide +kernel
theorem dV_baselineAt_20 : decode cV_baselineAt 20 = .ok (.areturn, 1) := by decide +kernel
abbrev cV_isReleased : ByteArray := prog_1_method_47_code
abbrev yV_isReleased : MethodName := ⟨"DrawingVault", "isReleased", "(II)Z"⟩
theorem dV_isReleased_0 : decode cV_isReleased 0 = .ok (.aload_n 0, 1) := by decide +kernel
theorem dV_isReleased_1 : decode cV_isReleased 1 = .ok (.iload_n 1, 1) := by decide +kernel
theorem dV_isReleased_2 : decode cV_isReleased 2 = .ok (.iload_n 2, 1) := by decide +kernel
theorem dV_isReleased_3 : decode cV_isReleased 3 = .ok (.invokevirtual 163, 3) := by decide +kernel
theorem dV_isReleased_6 : decode cV_isReleased 6 = .ok (.astore_n 3, 1) := by decide +kernel
theorem dV_isReleased_7 : decode cV_isReleased 7 = .ok (.aload_n 3, 1) := by decide +kernel
theorem dV_isReleased_8 : decode cV_isReleased 8 = .ok (.ifnull 15, 3) := by decide +kernel
theorem dV_isReleased_11 : decode cV_isReleased 11 = .ok (.aload_n 3, 1) := by decide +kernel
theorem dV_isReleased_12 : decode cV_isReleased 12 = .ok (.getfield 170, 3) := by decide +kernel
theorem dV_isReleased_15 : decode cV_isReleased 15 = .ok (.iconst 2, 1) := by decide +kernel
theorem dV_isReleased_16 : decode cV_isReleased 16 = .ok (.if_icmp .ne 7, 3) := by decide +kernel
theorem dV_isReleased_19 : decode cV_isReleased 19 = .ok (.iconst 1, 1) := by decide +kernel
theorem dV_isReleased_20 : decode cV_isReleased 20 = .ok (.goto 4, 3) := by decide +kernel
theorem dV_isReleased_23 : decode cV_isReleased 23 = .ok (.iconst 0, 1) := by decide +kernel
theorem dV_isReleased_24 : decode cV_isReleased 24 = .ok (.ireturn, 1) := by decide +kernel
abbrev cV_resolved : ByteArray := prog_1_method_48_code
abbrev yV_resolved : MethodName := ⟨"DrawingVault", "resolved", "(II)I"⟩
theorem dV_resolved_0 : decode cV_resolved 0 = .ok (.aload_n 0, 1) := by decide +kernel
theorem dV_resolved_1 : decode cV_resolved 1 = .ok (.iload_n 1, 1) := by decide +kernel
theorem dV_resolved_2 : decode cV_resolved 2 = .ok (.invokevirtual 74, 3) := by decide +kernel
theorem dV_resolved_5 : decode cV_resolved 5 = .ok (.astore_n 3, 1) := by decide +kernel
theorem dV_resolved_6 : decode cV_resolved 6 = .ok (.aload_n 3, 1) := by decide +kernel
theorem dV_resolved_7 : decode cV_resolved 7 = .ok (.ifnonnull 5, 3) := by decide +kernel
theorem dV_resolved_10 : decode cV_resolved 10 = .ok (.iconst (-1), 1) := by decide +kernel
theorem dV_resolved_11 : decode cV_resolved 11 = .ok (.ireturn, 1) := by decide +kernel
theorem dV_resolved_12 : decode cV_resolved 12 = .ok (.aload_n 3, 1) := by decide +kernel
theorem dV_resolved_13 : decode cV_resolved 13 = .ok (.iload_n 2, 1) := by decide +kernel
theorem dV_resolved_14 : decode cV_resolved 14 = .ok (.invokevirtual 328, 3) := by decide +kernel
theorem dV_resolved_17 : decode cV_resolved 17 = .ok (.ifCond .eq 7, 3) := by decide +kernel
theorem dV_resolved_20 : decode cV_resolved 20 = .ok (.iload_n 2, 1) := by decide +kernel
theorem dV_resolved_21 : decode cV_resolved 21 = .ok (.goto 7, 3) := by decide +kernel
theorem dV_resolved_24 : decode cV_resolved 24 = .ok (.aload_n 3, 1) := by decide +kernel
theorem dV_resolved_25 : decode cV_resolved 25 = .ok (.invokevirtual 200, 3) := by decide +kernel
theorem dV_resolved_28 : decode cV_resolved 28 = .ok (.ireturn, 1) := by decide +kernel
abbrev cV_allResolveToReleased : ByteArray := prog_1_method_49_code
abbrev yV_allResolveToReleased : MethodName := ⟨"DrawingVault", "allResolveToReleased", "(LDrawingVault$Content;)Z"⟩
theorem dV_allResolveToReleased_0 : decode cV_allResolveToReleased 0 = .ok (.iconst 0, 1) := by decide +kernel
theorem dV_allResolveToReleased_1 : decode cV_allResolveToReleased 1 = .ok (.istore_n 2, 1) := by decide +kernel
theorem dV_allResolveToReleased_2 : decode cV_allResolveToReleased 2 = .ok (.iload_n 2, 1) := by decide +kernel
theorem dV_allResolveToReleased_3 : decode cV_allResolveToReleased 3 = .ok (.aload_n 1, 1) := by decide +kernel
theorem dV_allResolveToReleased_4 : decode cV_allResolveToReleased 4 = .ok (.getfield 184, 3) := by decide +kernel
theorem dV_allResolveToReleased_7 : decode cV_allResolveToReleased 7 = .ok (.if_icmp .ge 37, 3) := by decide +kernel
theorem dV_allResolveToReleased_10 : decode cV_allResolveToReleased 10 = .ok (.aload_n 1, 1) := by decide +kernel
theorem dV_allResolveToReleased_11 : decode cV_allResolveToReleased 11 = .ok (.getfield 191, 3) := by decide +kernel
theorem dV_allResolveToReleased_14 : decode cV_allResolveToReleased 14 = .ok (.iload_n 2, 1) := by decide +kernel
theorem dV_allResolveToReleased_15 : decode cV_allResolveToReleased 15 = .ok (.iaload, 1) := by decide +kernel
theorem dV_allResolveToReleased_16 : decode cV_allResolveToReleased 16 = .ok (.istore_n 3, 1) := by decide +kernel
theorem dV_allResolveToReleased_17 : decode cV_allResolveToReleased 17 = .ok (.aload_n 0, 1) := by decide +kernel
theorem dV_allResolveToReleased_18 : decode cV_allResolveToReleased 18 = .ok (.iload_n 3, 1) := by decide +kernel
theorem dV_allResolveToReleased_19 : decode cV_allResolveToReleased 19 = .ok (.aload_n 0, 1) := by decide +kernel
theorem dV_allResolveToReleased_20 : decode cV_allResolveToReleased 20 = .ok (.iload_n 3, 1) := by decide +kernel
theorem dV_allResolveToReleased_21 : decode cV_allResolveToReleased 21 = .ok (.aload_n 1, 1) := by decide +kernel
theorem dV_allResolveToReleased_22 : decode cV_allResolveToReleased 22 = .ok (.getfield 194, 3) := by decide +kernel
theorem dV_allResolveToReleased_25 : decode cV_allResolveToReleased 25 = .ok (.iload_n 2, 1) := by decide +kernel
theorem dV_allResolveToReleased_26 : decode cV_allResolveToReleased 26 = .ok (.iaload, 1) := by decide +kernel
theorem dV_allResolveToReleased_27 : decode cV_allResolveToReleased 27 = .ok (.invokevirtual 197, 3) := by decide +kernel
theorem dV_allResolveToReleased_30 : decode cV_allResolveToReleased 30 = .ok (.invokevirtual 325, 3) := by decide +kernel
theorem dV_allResolveToReleased_33 : decode cV_allResolveToReleased 33 = .ok (.ifCond .ne 5, 3) := by decide +kernel
theorem dV_allResolveToReleased_36 : decode cV_allResolveToReleased 36 = .ok (.iconst 0, 1) := by decide +kernel
theorem dV_allResolveToReleased_37 : decode cV_allResolveToReleased 37 = .ok (.ireturn, 1) := by decide +kernel
theorem dV_allResolveToReleased_38 : decode cV_allResolveToReleased 38 = .ok (.iinc 2 1, 3) := by decide +kernel
theorem dV_allResolveToReleased_41 : decode cV_allResolveToReleased 41 = .ok (.goto (-39), 3) := by decide +kernel
theorem dV_allResolveToReleased_44 : decode cV_allResolveToReleased 44 = .ok (.iconst 1, 1) := by decide +kernel
theorem dV_allResolveToReleased_45 : decode cV_allResolveToReleased 45 = .ok (.ireturn, 1) := by decide +kernel
abbrev cV_fixedOnesAreThere : ByteArray := prog_1_method_50_code
abbrev yV_fixedOnesAreThere : MethodName := ⟨"DrawingVault", "fixedOnesAreThere", "(LDrawingVault$Content;)Z"⟩
theorem dV_fixedOnesAreThere_0 : decode cV_fixedOnesAreThere 0 = .ok (.iconst 0, 1) := by decide +kernel
theorem dV_fixedOnesAreThere_1 : decode cV_fixedOnesAreThere 1 = .ok (.istore_n 2, 1) := by decide +kernel
theorem dV_fixedOnesAreThere_2 : decode cV_fixedOnesAreThere 2 = .ok (.iload_n 2, 1) := by decide +kernel
theorem dV_fixedOnesAreThere_3 : decode cV_fixedOnesAreThere 3 = .ok (.aload_n 1, 1) := by decide +kernel
theorem dV_fixedOnesAreThere_4 : decode cV_fixedOnesAreThere 4 = .ok (.getfield 184, 3) := by decide +kernel
theorem dV_fixedOnesAreThere_7 : decode cV_fixedOnesAreThere 7 = .ok (.if_icmp .ge 37, 3) := by decide +kernel
theorem dV_fixedOnesAreThere_10 : decode cV_fixedOnesAreThere 10 = .ok (.aload_n 1, 1) := by decide +kernel
theorem dV_fixedOnesAreThere_11 : decode cV_fixedOnesAreThere 11 = .ok (.getfield 194, 3) := by decide +kernel
theorem dV_fixedOnesAreThere_14 : decode cV_fixedOnesAreThere 14 = .ok (.iload_n 2, 1) := by decide +kernel
theorem dV_fixedOnesAreThere_15 : decode cV_fixedOnesAreThere 15 = .ok (.iaload, 1) := by decide +kernel
theorem dV_fixedOnesAreThere_16 : decode cV_fixedOnesAreThere 16 = .ok (.istore_n 3, 1) := by decide +kernel
theorem dV_fixedOnesAreThere_17 : decode cV_fixedOnesAreThere 17 = .ok (.iload_n 3, 1) := by decide +kernel
theorem dV_fixedOnesAreThere_18 : decode cV_fixedOnesAreThere 18 = .ok (.iconst (-1), 1) := by decide +kernel
theorem dV_fixedOnesAreThere_19 : decode cV_fixedOnesAreThere 19 = .ok (.if_icmp .eq 19, 3) := by decide +kernel
theorem dV_fixedOnesAreThere_22 : decode cV_fixedOnesAreThere 22 = .ok (.aload_n 0, 1) := by decide +kernel
theorem dV_fixedOnesAreThere_23 : decode cV_fixedOnesAreThere 23 = .ok (.aload_n 1, 1) := by decide +kernel
theorem dV_fixedOnesAreThere_24 : decode cV_fixedOnesAreThere 24 = .ok (.getfield 191, 3) := by decide +kernel
theorem dV_fixedOnesAreThere_27 : decode cV_fixedOnesAreThere 27 = .ok (.iload_n 2, 1) := by decide +kernel
theorem dV_fixedOnesAreThere_28 : decode cV_fixedOnesAreThere 28 = .ok (.iaload, 1) := by decide +kernel
theorem dV_fixedOnesAreThere_29 : decode cV_fixedOnesAreThere 29 = .ok (.iload_n 3, 1) := by decide +kernel
theorem dV_fixedOnesAreThere_30 : decode cV_fixedOnesAreThere 30 = .ok (.invokevirtual 163, 3) := by decide +kernel
theorem dV_fixedOnesAreThere_33 : decode cV_fixedOnesAreThere 33 = .ok (.ifnonnull 5, 3) := by decide +kernel
theorem dV_fixedOnesAreThere_36 : decode cV_fixedOnesAreThere 36 = .ok (.iconst 0, 1) := by decide +kernel
theorem dV_fixedOnesAreThere_37 : decode cV_fixedOnesAreThere 37 = .ok (.ireturn, 1) := by decide +kernel
theorem dV_fixedOnesAreThere_38 : decode cV_fixedOnesAreThere 38 = .ok (.iinc 2 1, 3) := by decide +kernel
theorem dV_fixedOnesAreThere_41 : decode cV_fixedOnesAreThere 41 = .ok (.goto (-39), 3) := by decide +kernel
theorem dV_fixedOnesAreThere_44 : decode cV_fixedOnesAreThere 44 = .ok (.iconst 1, 1) := by decide +kernel
theorem dV_fixedOnesAreThere_45 : decode cV_fixedOnesAreThere 45 = .ok (.ireturn, 1) := by decide +kernel
abbrev cV_isInABaseline : ByteArray := prog_1_method_51_code
abbrev yV_isInABaseline : MethodName := ⟨"DrawingVault", "isInABaseline", "(II)Z"⟩
theorem dV_isInABaseline_0 : decode cV_isInABaseline 0 = .ok (.iconst 0, 1) := by decide +kernel
theorem dV_isInABaseline_1 : decode cV_isInABaseline 1 = .ok (.istore_n 3, 1) := by decide +kernel
theorem dV_isInABaseline_2 : decode cV_isInABaseline 2 = .ok (.iload_n 3, 1) := by decide +kernel
theorem dV_isInABaseline_3 : decode cV_isInABaseline 3 = .ok (.bipush 10, 2) := by decide +kernel
theorem dV_isInABaseline_5 : decode cV_isInABaseline 5 = .ok (.if_icmp .ge 35, 3) := by decide +kernel
theorem dV_isInABaseline_8 : decode cV_isInABaseline 8 = .ok (.aload_n 0, 1) := by decide +kernel
theorem dV_isInABaseline_9 : decode cV_isInABaseline 9 = .ok (.getfield 21, 3) := by decide +kernel
theorem dV_isInABaseline_12 : decode cV_isInABaseline 12 = .ok (.iload_n 3, 1) := by decide +kernel
theorem dV_isInABaseline_13 : decode cV_isInABaseline 13 = .ok (.aaload, 1) := by decide +kernel
theorem dV_isInABaseline_14 : decode cV_isInABaseline 14 = .ok (.ifnull 20, 3) := by decide +kernel
theorem dV_isInABaseline_17 : decode cV_isInABaseline 17 = .ok (.aload_n 0, 1) := by decide +kernel
theorem dV_isInABaseline_18 : decode cV_isInABaseline 18 = .ok (.getfield 21, 3) := by decide +kernel
theorem dV_isInABaseline_21 : decode cV_isInABaseline 21 = .ok (.iload_n 3, 1) := by decide +kernel
theorem dV_isInABaseline_22 : decode cV_isInABaseline 22 = .ok (.aaload, 1) := by decide +kernel
theorem dV_isInABaseline_23 : decode cV_isInABaseline 23 = .ok (.getfield 216, 3) := by decide +kernel
theorem dV_isInABaseline_26 : decode cV_isInABaseline 26 = .ok (.iload_n 1, 1) := by decide +kernel
theorem dV_isInABaseline_27 : decode cV_isInABaseline 27 = .ok (.iaload, 1) := by decide +kernel
theorem dV_isInABaseline_28 : decode cV_isInABaseline 28 = .ok (.iload_n 2, 1) := by decide +kernel
theorem dV_isInABaseline_29 : decode cV_isInABaseline 29 = .ok (.if_icmp .ne 5, 3) := by decide +kernel
theorem dV_isInABaseline_32 : decode cV_isInABaseline 32 = .ok (.iconst 1, 1) := by decide +kernel
theorem dV_isInABaseline_33 : decode cV_isInABaseline 33 = .ok (.ireturn, 1) := by decide +kernel
theorem dV_isInABaseline_34 : decode cV_isInABaseline 34 = .ok (.iinc 3 1, 3) := by decide +kernel
theorem dV_isInABaseline_37 : decode cV_isInABaseline 37 = .ok (.goto (-35), 3) := by decide +kernel
theorem dV_isInABaseline_40 : decode cV_isInABaseline 40 = .ok (.iconst 0, 1) := by decide +kernel
theorem dV_isInABaseline_41 : decode cV_isInABaseline 41 = .ok (.ireturn, 1) := by decide +kernel
abbrev cV_isFixedByAReleasedOne : ByteArray := prog_1_method_52_code
abbrev yV_isFixedByAReleasedOne : MethodName := ⟨"DrawingVault", "isFixedByAReleasedOne", "(II)Z"⟩
theorem dV_isFixedByAReleasedOne_0 : decode cV_isFixedByAReleasedOne 0 = .ok (.iconst 0, 1) := by decide +kernel
theorem dV_isFixedByAReleasedOne_1 : decode cV_isFixedByAReleasedOne 1 = .ok (.istore_n 3, 1) := by decide +kernel
theorem dV_isFixedByAReleasedOne_2 : decode cV_isFixedByAReleasedOne 2 = .ok (.iload_n 3, 1) := by decide +kernel
theorem dV_isFixedByAReleasedOne_3 : decode cV_isFixedByAReleasedOne 3 = .ok (.aload_n 0, 1) := by decide +kernel
theorem dV_isFixedByAReleasedOne_4 : decode cV_isFixedByAReleasedOne 4 = .ok (.getfield 67, 3) := by decide +kernel
theorem dV_isFixedByAReleasedOne_7 : decode cV_isFixedByAReleasedOne 7 = .ok (.if_icmp .ge 70, 3) := by decide +kernel
theorem dV_isFixedByAReleasedOne_10 : decode cV_isFixedByAReleasedOne 10 = .ok (.iconst 0, 1) := by decide +kernel
theorem dV_isFixedByAReleasedOne_11 : decode cV_isFixedByAReleasedOne 11 = .ok (.istore 4, 2) := by decide +kernel
theorem dV_isFixedByAReleasedOne_13 : decode cV_isFixedByAReleasedOne 13 = .ok (.iload 4, 2) := by decide +kernel
theorem dV_isFixedByAReleasedOne_15 : decode cV_isFixedByAReleasedOne 15 = .ok (.aload_n 0, 1) := by decide +kernel
theorem dV_isFixedByAReleasedOne_16 : decode cV_isFixedByAReleasedOne 16 = .ok (.getfield 15, 3) := by decide +kernel
theorem dV_isFixedByAReleasedOne_19 : decode cV_isFixedByAReleasedOne 19 = .ok (.iload_n 3, 1) := by decide +kernel
theorem dV_isFixedByAReleasedOne_20 : decode cV_isFixedByAReleasedOne 20 = .ok (.aaload, 1) := by decide +kernel
theorem dV_isFixedByAReleasedOne_21 : decode cV_isFixedByAReleasedOne 21 = .ok (.getfield 294, 3) := by decide +kernel
theorem dV_isFixedByAReleasedOne_24 : decode cV_isFixedByAReleasedOne 24 = .ok (.if_icmp .ge 47, 3) := by decide +kernel
theorem dV_isFixedByAReleasedOne_27 : decode cV_isFixedByAReleasedOne 27 = .ok (.aload_n 0, 1) := by decide +kernel
theorem dV_isFixedByAReleasedOne_28 : decode cV_isFixedByAReleasedOne 28 = .ok (.getfield 15, 3) := by decide +kernel
theorem dV_isFixedByAReleasedOne_31 : decode cV_isFixedByAReleasedOne 31 = .ok (.iload_n 3, 1) := by decide +kernel
theorem dV_isFixedByAReleasedOne_32 : decode cV_isFixedByAReleasedOne 32 = .ok (.aaload, 1) := by decide +kernel
theorem dV_isFixedByAReleasedOne_33 : decode cV_isFixedByAReleasedOne 33 = .ok (.getfield 331, 3) := by decide +kernel
theorem dV_isFixedByAReleasedOne_36 : decode cV_isFixedByAReleasedOne 36 = .ok (.iload 4, 2) := by decide +kernel
theorem dV_isFixedByAReleasedOne_38 : decode cV_isFixedByAReleasedOne 38 = .ok (.aaload, 1) := by decide +kernel
theorem dV_isFixedByAReleasedOne_39 : decode cV_isFixedByAReleasedOne 39 = .ok (.astore 5, 2) := by decide +kernel
theorem dV_isFixedByAReleasedOne_41 : decode cV_isFixedByAReleasedOne 41 = .ok (.aload 5, 2) := by decide +kernel
theorem dV_isFixedByAReleasedOne_43 : decode cV_isFixedByAReleasedOne 43 = .ok (.getfield 170, 3) := by decide +kernel
theorem dV_isFixedByAReleasedOne_46 : decode cV_isFixedByAReleasedOne 46 = .ok (.iconst 2, 1) := by decide +kernel
theorem dV_isFixedByAReleasedOne_47 : decode cV_isFixedByAReleasedOne 47 = .ok (.if_icmp .ne 18, 3) := by decide +kernel
theorem dV_isFixedByAReleasedOne_50 : decode cV_isFixedByAReleasedOne 50 = .ok (.aload 5, 2) := by decide +kernel
theorem dV_isFixedByAReleasedOne_52 : decode cV_isFixedByAReleasedOne 52 = .ok (.getfield 178, 3) := by decide +kernel
theorem dV_isFixedByAReleasedOne_55 : decode cV_isFixedByAReleasedOne 55 = .ok (.iload_n 1, 1) := by decide +kernel
theorem dV_isFixedByAReleasedOne_56 : decode cV_isFixedByAReleasedOne 56 = .ok (.iload_n 2, 1) := by decide +kernel
theorem dV_isFixedByAReleasedOne_57 : decode cV_isFixedByAReleasedOne 57 = .ok (.invokevirtual 335, 3) := by decide +kernel
theorem dV_isFixedByAReleasedOne_60 : decode cV_isFixedByAReleasedOne 60 = .ok (.ifCond .eq 5, 3) := by decide +kernel
theorem dV_isFixedByAReleasedOne_63 : decode cV_isFixedByAReleasedOne 63 = .ok (.iconst 1, 1) := by decide +kernel
theorem dV_isFixedByAReleasedOne_64 : decode cV_isFixedByAReleasedOne 64 = .ok (.ireturn, 1) := by decide +kernel
theorem dV_isFixedByAReleasedOne_65 : decode cV_isFixedByAReleasedOne 65 = .ok (.iinc 4 1, 3) := by decide +kernel
theorem dV_isFixedByAReleasedOne_68 : decode cV_isFixedByAReleasedOne 68 = .ok (.goto (-55), 3) := by decide +kernel
theorem dV_isFixedByAReleasedOne_71 : decode cV_isFixedByAReleasedOne 71 = .ok (.iinc 3 1, 3) := by decide +kernel
theorem dV_isFixedByAReleasedOne_74 : decode cV_isFixedByAReleasedOne 74 = .ok (.goto (-72), 3) := by decide +kernel
theorem dV_isFixedByAReleasedOne_77 : decode cV_isFixedByAReleasedOne 77 = .ok (.iconst 0, 1) := by decide +kernel
theorem dV_isFixedByAReleasedOne_78 : decode cV_isFixedByAReleasedOne 78 = .ok (.ireturn, 1) := by decide +kernel
abbrev cV_usersOfAny : ByteArray := prog_1_method_54_code
abbrev yV_usersOfAny : MethodName := ⟨"DrawingVault", "usersOfAny", "(I)I"⟩
theorem dV_usersOfAny_0 : decode cV_usersOfAny 0 = .ok (.iconst 0, 1) := by decide +kernel
theorem dV_usersOfAny_1 : decode cV_usersOfAny 1 = .ok (.istore_n 2, 1) := by decide +kernel
theorem dV_usersOfAny_2 : decode cV_usersOfAny 2 = .ok (.iconst 0, 1) := by decide +kernel
theorem dV_usersOfAny_3 : decode cV_usersOfAny 3 = .ok (.istore_n 3, 1) := by decide +kernel
theorem dV_usersOfAny_4 : decode cV_usersOfAny 4 = .ok (.iload_n 3, 1) := by decide +kernel
theorem dV_usersOfAny_5 : decode cV_usersOfAny 5 = .ok (.aload_n 0, 1) := by decide +kernel
theorem dV_usersOfAny_6 : decode cV_usersOfAny 6 = .ok (.getfield 67, 3) := by decide +kernel
theorem dV_usersOfAny_9 : decode cV_usersOfAny 9 = .ok (.if_icmp .ge 30, 3) := by decide +kernel
theorem dV_usersOfAny_12 : decode cV_usersOfAny 12 = .ok (.aload_n 0, 1) := by decide +kernel
theorem dV_usersOfAny_13 : decode cV_usersOfAny 13 = .ok (.getfield 15, 3) := by decide +kernel
theorem dV_usersOfAny_16 : decode cV_usersOfAny 16 = .ok (.iload_n 3, 1) := by decide +kernel
theorem dV_usersOfAny_17 : decode cV_usersOfAny 17 = .ok (.aaload, 1) := by decide +kernel
theorem dV_usersOfAny_18 : decode cV_usersOfAny 18 = .ok (.invokevirtual 341, 3) := by decide +kernel
theorem dV_usersOfAny_21 : decode cV_usersOfAny 21 = .ok (.iload_n 1, 1) := by decide +kernel
theorem dV_usersOfAny_22 : decode cV_usersOfAny 22 = .ok (.iand, 1) := by decide +kernel
theorem dV_usersOfAny_23 : decode cV_usersOfAny 23 = .ok (.ifCond .eq 10, 3) := by decide +kernel
theorem dV_usersOfAny_26 : decode cV_usersOfAny 26 = .ok (.iload_n 2, 1) := by decide +kernel
theorem dV_usersOfAny_27 : decode cV_usersOfAny 27 = .ok (.iload_n 3, 1) := by decide +kernel
theorem dV_usersOfAny_28 : decode cV_usersOfAny 28 = .ok (.invokestatic 223, 3) := by decide +kernel
theorem dV_usersOfAny_31 : decode cV_usersOfAny 31 = .ok (.ior, 1) := by decide +kernel
theorem dV_usersOfAny_32 : decode cV_usersOfAny 32 = .ok (.istore_n 2, 1) := by decide +kernel
theorem dV_usersOfAny_33 : decode cV_usersOfAny 33 = .ok (.iinc 3 1, 3) := by decide +kernel
theorem dV_usersOfAny_36 : decode cV_usersOfAny 36 = .ok (.goto (-32), 3) := by decide +kernel
theorem dV_usersOfAny_39 : decode cV_usersOfAny 39 = .ok (.iload_n 2, 1) := by decide +kernel
theorem dV_usersOfAny_40 : decode cV_usersOfAny 40 = .ok (.ireturn, 1) := by decide +kernel
abbrev cV_usersOf : ByteArray := prog_1_method_53_code
abbrev yV_usersOf : MethodName := ⟨"DrawingVault", "usersOf", "(IZ)I"⟩
theorem dV_usersOf_0 : decode cV_usersOf 0 = .ok (.iload_n 1, 1) := by decide +kernel
theorem dV_usersOf_1 : decode cV_usersOf 1 = .ok (.invokestatic 223, 3) := by decide +kernel
theorem dV_usersOf_4 : decode cV_usersOf 4 = .ok (.istore_n 3, 1) := by decide +kernel
theorem dV_usersOf_5 : decode cV_usersOf 5 = .ok (.iconst 0, 1) := by decide +kernel
theorem dV_usersOf_6 : decode cV_usersOf 6 = .ok (.istore 4, 2) := by decide +kernel
theorem dV_usersOf_8 : decode cV_usersOf 8 = .ok (.iconst 0, 1) := by decide +kernel
theorem dV_usersOf_9 : decode cV_usersOf 9 = .ok (.istore 5, 2) := by decide +kernel
theorem dV_usersOf_11 : decode cV_usersOf 11 = .ok (.iload 5, 2) := by decide +kernel
theorem dV_usersOf_13 : decode cV_usersOf 13 = .ok (.bipush 24, 2) := by decide +kernel
theorem dV_usersOf_15 : decode cV_usersOf 15 = .ok (.if_icmp .ge 39, 3) := by decide +kernel
theorem dV_usersOf_18 : decode cV_usersOf 18 = .ok (.aload_n 0, 1) := by decide +kernel
theorem dV_usersOf_19 : decode cV_usersOf 19 = .ok (.iload_n 3, 1) := by decide +kernel
theorem dV_usersOf_20 : decode cV_usersOf 20 = .ok (.invokevirtual 338, 3) := by decide +kernel
theorem dV_usersOf_23 : decode cV_usersOf 23 = .ok (.istore 6, 2) := by decide +kernel
theorem dV_usersOf_25 : decode cV_usersOf 25 = .ok (.iload_n 2, 1) := by decide +kernel
theorem dV_usersOf_26 : decode cV_usersOf 26 = .ok (.ifCond .eq 10, 3) := by decide +kernel
theorem dV_usersOf_29 : decode cV_usersOf 29 = .ok (.iload 6, 2) := by decide +kernel
theorem dV_usersOf_31 : decode cV_usersOf 31 = .ok (.iload 4, 2) := by decide +kernel
theorem dV_usersOf_33 : decode cV_usersOf 33 = .ok (.if_icmp .ne 6, 3) := by decide +kernel
theorem dV_usersOf_36 : decode cV_usersOf 36 = .ok (.iload 6, 2) := by decide +kernel
theorem dV_usersOf_38 : decode cV_usersOf 38 = .ok (.ireturn, 1) := by decide +kernel
theorem dV_usersOf_39 : decode cV_usersOf 39 = .ok (.iload 6, 2) := by decide +kernel
theorem dV_usersOf_41 : decode cV_usersOf 41 = .ok (.istore 4, 2) := by decide +kernel
theorem dV_usersOf_43 : decode cV_usersOf 43 = .ok (.iload_n 3, 1) := by decide +kernel
theorem dV_usersOf_44 : decode cV_usersOf 44 = .ok (.iload 6, 2) := by decide +kernel
theorem dV_usersOf_46 : decode cV_usersOf 46 = .ok (.ior, 1) := by decide +kernel
theorem dV_usersOf_47 : decode cV_usersOf 47 = .ok (.istore_n 3, 1) := by decide +kernel
theorem dV_usersOf_48 : decode cV_usersOf 48 = .ok (.iinc 5 1, 3) := by decide +kernel
theorem dV_usersOf_51 : decode cV_usersOf 51 = .ok (.goto (-40), 3) := by decide +kernel
theorem dV_usersOf_54 : decode cV_usersOf 54 = .ok (.iload 4, 2) := by decide +kernel
theorem dV_usersOf_56 : decode cV_usersOf 56 = .ok (.ireturn, 1) := by decide +kernel
abbrev cV_drawingsOut : ByteArray := prog_1_method_57_code
abbrev yV_drawingsOut : MethodName := ⟨"DrawingVault", "drawingsOut", "()I"⟩
theorem dV_drawingsOut_0 : decode cV_drawingsOut 0 = .ok (.iconst 0, 1) := by decide +kernel
theorem dV_drawingsOut_1 : decode cV_drawingsOut 1 = .ok (.istore_n 1, 1) := by decide +kernel
theorem dV_drawingsOut_2 : decode cV_drawingsOut 2 = .ok (.iconst 0, 1) := by decide +kernel
theorem dV_drawingsOut_3 : decode cV_drawingsOut 3 = .ok (.istore_n 2, 1) := by decide +kernel
theorem dV_drawingsOut_4 : decode cV_drawingsOut 4 = .ok (.iload_n 2, 1) := by decide +kernel
theorem dV_drawingsOut_5 : decode cV_drawingsOut 5 = .ok (.aload_n 0, 1) := by decide +kernel
theorem dV_drawingsOut_6 : decode cV_drawingsOut 6 = .ok (.getfield 67, 3) := by decide +kernel
theorem dV_drawingsOut_9 : decode cV_drawingsOut 9 = .ok (.if_icmp .ge 25, 3) := by decide +kernel
theorem dV_drawingsOut_12 : decode cV_drawingsOut 12 = .ok (.aload_n 0, 1) := by decide +kernel
theorem dV_drawingsOut_13 : decode cV_drawingsOut 13 = .ok (.getfield 15, 3) := by decide +kernel
theorem dV_drawingsOut_16 : decode cV_drawingsOut 16 = .ok (.iload_n 2, 1) := by decide +kernel
theorem dV_drawingsOut_17 : decode cV_drawingsOut 17 = .ok (.aaload, 1) := by decide +kernel
theorem dV_drawingsOut_18 : decode cV_drawingsOut 18 = .ok (.getfield 203, 3) := by decide +kernel
theorem dV_drawingsOut_21 : decode cV_drawingsOut 21 = .ok (.iconst (-1), 1) := by decide +kernel
theorem dV_drawingsOut_22 : decode cV_drawingsOut 22 = .ok (.if_icmp .eq 6, 3) := by decide +kernel
theorem dV_drawingsOut_25 : decode cV_drawingsOut 25 = .ok (.iinc 1 1, 3) := by decide +kernel
theorem dV_drawingsOut_28 : decode cV_drawingsOut 28 = .ok (.iinc 2 1, 3) := by decide +kernel
theorem dV_drawingsOut_31 : decode cV_drawingsOut 31 = .ok (.goto (-27), 3) := by decide +kernel
theorem dV_drawingsOut_34 : decode cV_drawingsOut 34 = .ok (.iload_n 1, 1) := by decide +kernel
theorem dV_drawingsOut_35 : decode cV_drawingsOut 35 = .ok (.ireturn, 1) := by decide +kernel
abbrev cV_baselinesMade : ByteArray := prog_1_method_58_code
abbrev yV_baselinesMade : MethodName := ⟨"DrawingVault", "baselinesMade", "()I"⟩
theorem dV_baselinesMade_0 : decode cV_baselinesMade 0 = .ok (.iconst 0, 1) := by decide +kernel
theorem dV_baselinesMade_1 : decode cV_baselinesMade 1 = .ok (.istore_n 1, 1) := by decide +kernel
theorem dV_baselinesMade_2 : decode cV_baselinesMade 2 = .ok (.iconst 0, 1) := by decide +kernel
theorem dV_baselinesMade_3 : decode cV_baselinesMade 3 = .ok (.istore_n 2, 1) := by decide +kernel
theorem dV_baselinesMade_4 : decode cV_baselinesMade 4 = .ok (.iload_n 2, 1) := by decide +kernel
theorem dV_baselinesMade_5 : decode cV_baselinesMade 5 = .ok (.bipush 10, 2) := by decide +kernel
theorem dV_baselinesMade_7 : decode cV_baselinesMade 7 = .ok (.if_icmp .ge 21, 3) := by decide +kernel
theorem dV_baselinesMade_10 : decode cV_baselinesMade 10 = .ok (.aload_n 0, 1) := by decide +kernel
theorem dV_baselinesMade_11 : decode cV_baselinesMade 11 = .ok (.getfield 21, 3) := by decide +kernel
theorem dV_baselinesMade_14 : decode cV_baselinesMade 14 = .ok (.iload_n 2, 1) := by decide +kernel
theorem dV_baselinesMade_15 : decode cV_baselinesMade 15 = .ok (.aaload, 1) := by decide +kernel
theorem dV_baselinesMade_16 : decode cV_baselinesMade 16 = .ok (.ifnull 6, 3) := by decide +kernel
theorem dV_baselinesMade_19 : decode cV_baselinesMade 19 = .ok (.iinc 1 1, 3) := by decide +kernel
theorem dV_baselinesMade_22 : decode cV_baselinesMade 22 = .ok (.iinc 2 1, 3) := by decide +kernel
theorem dV_baselinesMade_25 : decode cV_baselinesMade 25 = .ok (.goto (-21), 3) := by decide +kernel
theorem dV_baselinesMade_28 : decode cV_baselinesMade 28 = .ok (.iload_n 1, 1) := by decide +kernel
theorem dV_baselinesMade_29 : decode cV_baselinesMade 29 = .ok (.ireturn, 1) := by decide +kernel
theorem wd_310 : (.code ⟨"DrawingVault", "isPerson", "(I)Z"⟩ prog_1_method_42_code 1 (Option.some .boolean) : Cond) ∈ aw := aw_in (tb_2 (List.mem_of_getElem? (i := 72) rfl)) rfl
theorem wd_311 : (.methodLink "DrawingVault" 47 ⟨"DrawingVault", "isPerson", "(I)Z"⟩ : Cond) ∈ aw := aw_in (tb_2 (List.mem_of_getElem? (i := 70) rfl)) rfl
theorem wd_312 : (.static ⟨"DrawingVault", "isPerson", "(I)Z"⟩ : Cond) ∈ aw := aw_in (tb_2 (List.mem_of_getElem? (i := 71) rfl)) rfl
theorem wd_313 : (.fieldLink "DrawingVault" 9 "DrawingVault" "rightsOf" "[I" : Cond) ∈ aw := aw_in (tb_1 (List.mem_of_getElem? (i := 99) rfl)) rfl
theorem wd_314 : (.fieldLink "DrawingVault" 67 "DrawingVault" "drawingCount" "I" : Cond) ∈ aw := aw_in (tb_1 (List.mem_of_getElem? (i := 101) rfl)) rfl
theorem wd_315 : (.fieldLink "DrawingVault" 15 "DrawingVault" "drawings" "[LDrawingVault$Drawing;" : Cond) ∈ aw := aw_in (tb_1 (List.mem_of_getElem? (i := 100) rfl)) rfl
theorem wd_316 : (.code ⟨"DrawingVault", "drawingAt", "(I)LDrawingVault$Drawing;"⟩ prog_1_method_44_code 2 (Option.some (.object "DrawingVault$Drawing")) : Cond) ∈ aw := aw_in (tb_1 (List.mem_of_getElem? (i := 138) rfl)) rfl
theorem wd_317 : (.methodLink "DrawingVault" 74 ⟨"DrawingVault", "drawingAt", "(I)LDrawingVault$Drawing;"⟩ : Cond) ∈ aw := aw_in (tb_1 (List.mem_of_getElem? (i := 135) rfl)) rfl
theorem wd_318 : (.instanceMethod ⟨"DrawingVault", "drawingAt", "(I)LDrawingVault$Drawing;"⟩ : Cond) ∈ aw := aw_in (tb_1 (List.mem_of_getElem? (i := 137) rfl)) rfl
theorem wd_319 : (.selects "DrawingVault" ⟨"DrawingVault", "drawingAt", "(I)LDrawingVault$Drawing;"⟩ ⟨"DrawingVault", "drawingAt", "(I)LDrawingVault$Drawing;"⟩ : Cond) ∈ aw := aw_in (tb_s (q := (⟨"DrawingVault", "drawingAt", "(I)LDrawingVault$Drawing;"⟩, _)) (List.mem_append_left _ (List.mem_of_getElem? (i := 0) rfl))) rfl
theorem wd_320 : (.methodLink "DrawingVault" 328 ⟨"DrawingVault$Drawing", "hasRevision", "(I)Z"⟩ : Cond) ∈ aw := aw_in (tb_3 (List.mem_of_getElem? (i := 85) rfl)) rfl
theorem wd_321 : (.fieldLink "DrawingVault" 331 "DrawingVault$Drawing" "revisions" "[LDrawingVault$Revision;" : Cond) ∈ aw := aw_in (tb_2 (List.mem_of_getElem? (i := 159) rfl)) rfl
theorem wd_322 : (.fieldLink "DrawingVault" 21 "DrawingVault" "baselines" "[LDrawingVault$Baseline;" : Cond) ∈ aw := aw_in (tb_1 (List.mem_of_getElem? (i := 103) rfl)) rfl
theorem wd_323 : (.code ⟨"DrawingVault", "revisionAt", "(II)LDrawingVault$Revision;"⟩ prog_1_method_45_code 4 (Option.some (.object "DrawingVault$Revision")) : Cond) ∈ aw := aw_in (tb_3 (List.mem_of_getElem? (i := 84) rfl)) rfl
theorem wd_324 : (.methodLink "DrawingVault" 163 ⟨"DrawingVault", "revisionAt", "(II)LDrawingVault$Revision;"⟩ : Cond) ∈ aw := aw_in (tb_3 (List.mem_of_getElem? (i := 81) rfl)) rfl
theorem wd_325 : (.instanceMethod ⟨"DrawingVault", "revisionAt", "(II)LDrawingVault$Revision;"⟩ : Cond) ∈ aw := aw_in (tb_3 (List.mem_of_getElem? (i := 83) rfl)) rfl
theorem wd_326 : (.selects "DrawingVault" ⟨"DrawingVault", "revisionAt", "(II)LDrawingVault$Revision;"⟩ ⟨"DrawingVault", "revisionAt", "(II)LDrawingVault$Revision;"⟩ : Cond) ∈ aw := aw_in (tb_s (q := (⟨"DrawingVault", "revisionAt", "(II)LDrawingVault$Revision;"⟩, _)) (List.mem_append_right _ (List.mem_append_left _ (List.mem_of_getElem? (i := 5) rfl)))) rfl
theorem wd_327 : (.fieldLink "DrawingVault" 170 "DrawingVault$Revision" "state" "I" : Cond) ∈ aw := aw_in (tb_2 (List.mem_of_getElem? (i := 197) rfl)) rfl
theorem wd_328 : (.code ⟨"DrawingVault$Drawing", "latestReleased", "()I"⟩ prog_5_method_4_code 2 (Option.some .int) : Cond) ∈ aw := aw_in (tb_3 (List.mem_of_getElem? (i := 130) rfl)) rfl
theorem wd_329 : (.methodLink "DrawingVault" 200 ⟨"DrawingVault$Drawing", "latestReleased", "()I"⟩ : Cond) ∈ aw := aw_in (tb_3 (List.mem_of_getElem? (i := 127) rfl)) rfl
theorem wd_330 : (.instanceMethod ⟨"DrawingVault$Drawing", "latestReleased", "()I"⟩ : Cond) ∈ aw := aw_in (tb_3 (List.mem_of_getElem? (i := 128) rfl)) rfl
theorem wd_331 : (.selects "DrawingVault$Drawing" ⟨"DrawingVault$Drawing", "latestReleased", "()I"⟩ ⟨"DrawingVault$Drawing", "latestReleased", "()I"⟩ : Cond) ∈ aw := aw_in (tb_3 (List.mem_of_getElem? (i := 129) rfl)) rfl
theorem wd_332 : (.fieldLink "DrawingVault" 184 "DrawingVault$Content" "references" "I" : Cond) ∈ aw := aw_in (tb_2 (List.mem_of_getElem? (i := 146) rfl)) rfl
theorem wd_333 : (.fieldLink "DrawingVault" 191 "DrawingVault$Content" "targets" "[I" : Cond) ∈ aw := aw_in (tb_2 (List.mem_of_getElem? (i := 142) rfl)) rfl
theorem wd_334 : (.fieldLink "DrawingVault" 194 "DrawingVault$Content" "fixed" "[I" : Cond) ∈ aw := aw_in (tb_2 (List.mem_of_getElem? (i := 144) rfl)) rfl
theorem wd_335 : (.code ⟨"DrawingVault", "resolved", "(II)I"⟩ prog_1_method_48_code 4 (Option.some .int) : Cond) ∈ aw := aw_in (tb_3 (List.mem_of_getElem? (i := 126) rfl)) rfl
theorem wd_336 : (.methodLink "DrawingVault" 197 ⟨"DrawingVault", "resolved", "(II)I"⟩ : Cond) ∈ aw := aw_in (tb_3 (List.mem_of_getElem? (i := 123) rfl)) rfl
theorem wd_337 : (.instanceMethod ⟨"DrawingVault", "resolved", "(II)I"⟩ : Cond) ∈ aw := aw_in (tb_3 (List.mem_of_getElem? (i := 125) rfl)) rfl
theorem wd_338 : (.selects "DrawingVault" ⟨"DrawingVault", "resolved", "(II)I"⟩ ⟨"DrawingVault", "resolved", "(II)I"⟩ : Cond) ∈ aw := aw_in (tb_s (q := (⟨"DrawingVault", "resolved", "(II)I"⟩, _)) (List.mem_append_right _ (List.mem_append_left _ (List.mem_of_getElem? (i := 10) rfl)))) rfl
theorem wd_339 : (.code ⟨"DrawingVault", "isReleased", "(II)Z"⟩ prog_1_method_47_code 4 (Option.some .boolean) : Cond) ∈ aw := aw_in (tb_3 (List.mem_of_getElem? (i := 134) rfl)) rfl
theorem wd_340 : (.methodLink "DrawingVault" 325 ⟨"DrawingVault", "isReleased", "(II)Z"⟩ : Cond) ∈ aw := aw_in (tb_3 (List.mem_of_getElem? (i := 131) rfl)) rfl
theorem wd_341 : (.instanceMethod ⟨"DrawingVault", "isReleased", "(II)Z"⟩ : Cond) ∈ aw := aw_in (tb_3 (List.mem_of_getElem? (i := 133) rfl)) rfl
theorem wd_342 : (.selects "DrawingVault" ⟨"DrawingVault", "isReleased", "(II)Z"⟩ ⟨"DrawingVault", "isReleased", "(II)Z"⟩ : Cond) ∈ aw := aw_in (tb_s (q := (⟨"DrawingVault", "isReleased", "(II)Z"⟩, _)) (List.mem_append_right _ (List.mem_append_left _ (List.mem_of_getElem? (i := 11) rfl)))) rfl
theorem wd_343 : (.fieldLink "DrawingVault" 216 "DrawingVault$Baseline" "revisionOf" "[I" : Cond) ∈ aw := aw_in (tb_1 (List.mem_of_getElem? (i := 38) rfl)) rfl
theorem wd_344 : (.fieldLink "DrawingVault" 294 "DrawingVault$Drawing" "revisionCount" "I" : Cond) ∈ aw := aw_in (tb_2 (List.mem_of_getElem? (i := 161) rfl)) rfl
theorem wd_345 : (.fieldLink "DrawingVault" 178 "DrawingVault$Revision" "content" "LDrawingVault$Content;" : Cond) ∈ aw := aw_in (tb_2 (List.mem_of_getElem? (i := 192) rfl)) rfl
theorem wd_346 : (.code ⟨"DrawingVault$Content", "names", "(II)Z"⟩ prog_4_method_14_code 4 (Option.some .boolean) : Cond) ∈ aw := aw_in (tb_3 (List.mem_of_getElem? (i := 157) rfl)) rfl
theorem wd_347 : (.methodLink "DrawingVault" 335 ⟨"DrawingVault$Content", "names", "(II)Z"⟩ : Cond) ∈ aw := aw_in (tb_3 (List.mem_of_getElem? (i := 154) rfl)) rfl
theorem wd_348 : (.instanceMethod ⟨"DrawingVault$Content", "names", "(II)Z"⟩ : Cond) ∈ aw := aw_in (tb_3 (List.mem_of_getElem? (i := 155) rfl)) rfl
theorem wd_349 : (.selects "DrawingVault$Content" ⟨"DrawingVault$Content", "names", "(II)Z"⟩ ⟨"DrawingVault$Content", "names", "(II)Z"⟩ : Cond) ∈ aw := aw_in (tb_3 (List.mem_of_getElem? (i := 156) rfl)) rfl
theorem wd_350 : (.code ⟨"DrawingVault$Drawing", "targetBits", "()I"⟩ prog_5_method_5_code 1 (Option.some .int) : Cond) ∈ aw := aw_in (tb_1 (List.mem_of_getElem? (i := 153) rfl)) rfl
theorem wd_351 : (.methodLink "DrawingVault" 341 ⟨"DrawingVault$Drawing", "targetBits", "()I"⟩ : Cond) ∈ aw := aw_in (tb_1 (List.mem_of_getElem? (i := 150) rfl)) rfl
theorem wd_352 : (.instanceMethod ⟨"DrawingVault$Drawing", "targetBits", "()I"⟩ : Cond) ∈ aw := aw_in (tb_1 (List.mem_of_getElem? (i := 151) rfl)) rfl
theorem wd_353 : (.selects "DrawingVault$Drawing" ⟨"DrawingVault$Drawing", "targetBits", "()I"⟩ ⟨"DrawingVault$Drawing", "targetBits", "()I"⟩ : Cond) ∈ aw := aw_in (tb_1 (List.mem_of_getElem? (i := 152) rfl)) rfl
theorem wd_354 : (.methodLink "DrawingVault" 223 ⟨"DrawingVault", "bit", "(I)I"⟩ : Cond) ∈ aw := aw_in (tb_1 (List.mem_of_getElem? (i := 143) rfl)) rfl
theorem wd_355 : (.code ⟨"DrawingVault", "usersOfAny", "(I)I"⟩ prog_1_method_54_code 4 (Option.some .int) : Cond) ∈ aw := aw_in (tb_1 (List.mem_of_getElem? (i := 149) rfl)) rfl
theorem wd_356 : (.methodLink "DrawingVault" 338 ⟨"DrawingVault", "usersOfAny", "(I)I"⟩ : Cond) ∈ aw := aw_in (tb_1 (List.mem_of_getElem? (i := 146) rfl)) rfl
theorem wd_357 : (.instanceMethod ⟨"DrawingVault", "usersOfAny", "(I)I"⟩ : Cond) ∈ aw := aw_in (tb_1 (List.mem_of_getElem? (i := 148) rfl)) rfl
theorem wd_358 : (.selects "DrawingVault" ⟨"DrawingVault", "usersOfAny", "(I)I"⟩ ⟨"DrawingVault", "usersOfAny", "(I)I"⟩ : Cond) ∈ aw := aw_in (tb_s (q := (⟨"DrawingVault", "usersOfAny", "(I)I"⟩, _)) (List.mem_append_left _ (List.mem_of_getElem? (i := 2) rfl))) rfl
theorem wd_359 : (.fieldLink "DrawingVault" 203 "DrawingVault$Drawing" "holder" "I" : Cond) ∈ aw := aw_in (tb_2 (List.mem_of_getElem? (i := 163) rfl)) rfl

def V_isPerson (a0 : Int32) : Int32 := if a0 < 0 then 0 else if 16 ≤ a0 then 0 else 1
set_option maxHeartbeats 4000000 in
set_option maxRecDepth 100000 in
theorem t_V_isPerson (l : Launch) (dC : Nat → ClassId) (dI : Nat → Nat → Nat) (ad : Nat → Nat → Nat) (ca : Nat → Nat → ClassId) (dom : List (Nat × Nat)) (a0 : Int32) (σ : hT) (hN : dom.Nodup) (hC : clo dom σ.2.2) (ρ : Int32) (hf : V_isPerson a0 = ρ) : Met l yV_isPerson (.code yV_isPerson cV_isPerson 1 (some .boolean) :: aw) ({ frames := 0, cells := 0, slots := 0, locals := 0 }) (hR (dC, dI) ad ca dom σ [.int a0]) (vp_Si (fun r => r = ρ)) 0 0 (fun _ => False) := by
  refine Met.ofW (cc := cV_isPerson) (maxL := 1) (ret := (some .boolean)) (by decide) rfl ?_
  intro p e s m args below meth c s₁ B hml hv
  obtain ⟨rfl, hv⟩ := hv
  have hx := B.exec
  have hb := B.bytes
  have hr := B.returns
  have hts : ∀ w ∈ aw, w.before _ s = true := fun w h => atoms_spec (ws := (.code yV_isPerson cV_isPerson 1 (some .boolean) :: aw)) B.pre w (List.mem_cons_of_mem _ h)
  have hown : s.vm.findClass RV = some m.cls := findClass_of_methodNamed B.named
  have hlocks := B.notSynchronized
  obtain ⟨hP, hK, hG⟩ := hv
  obtain ⟨H, hH⟩ : ∃ H, H = s.heap := ⟨_, rfl⟩
  rw [← hH] at hP ⊢
  unfold V_isPerson at hf
  have hl := lv_entry ([.int a0]) (n := 1) (Nat.le_of_ble_eq_true rfl)
  rw [lg_entry_eq]
  generalize (lg_sl ([.int a0]) ++ List.replicate (1 - (lg_sl ([.int a0])).length) Slot.unset).toArray = ls at hl ⊢
  have hl : lv_has ls 1 [(0, .int a0)] := hl
  refine lv_iload_n (pc := 0) hx hb dV_isPerson_0 rfl (lv_at hl 0 rfl) ?_
  refine lv_if_lt (pc := 1) (tgt := 14) hx hb dV_isPerson_1 rfl (fun h1 => ?_) (fun h1 => ?_)
  · replace hf := ite_t h1 hf
    refine lv_iconst (pc := 14) (v := 0) hx hb dV_isPerson_14 (by decide) ?_
    exact W.zret (pc := 15) hx hb hr (rfl) (fun t ht hW => ⟨_, rfl, hf, ht.trans hH⟩) (fun q h => nomatch h) dV_isPerson_15
  · replace hf := ite_f h1 hf
    refine lv_iload_n (pc := 4) hx hb dV_isPerson_4 rfl (lv_at hl 0 rfl) ?_
    refine lv_bipush (pc := 5) (v := 16) hx hb dV_isPerson_5 (by decide) ?_
    refine lv_icmp_ge (pc := 7) (tgt := 14) hx hb dV_isPerson_7 rfl (fun h2 => ?_) (fun h2 => ?_)
    · replace hf := ite_t h2 hf
      refine lv_iconst (pc := 14) (v := 0) hx hb dV_isPerson_14 (by decide) ?_
      exact W.zret (pc := 15) hx hb hr (rfl) (fun t ht hW => ⟨_, rfl, hf, ht.trans hH⟩) (fun q h => nomatch h) dV_isPerson_15
    · replace hf := ite_f h2 hf
      refine lv_iconst (pc := 10) (v := 1) hx hb dV_isPerson_10 (by decide) ?_
      refine lv_goto (pc := 11) (tgt := 15) hx hb dV_isPerson_11 rfl ?_
      exact W.zret (pc := 15) hx hb hr (rfl) (fun t ht hW => ⟨_, rfl, hf, ht.trans hH⟩) (fun q h => nomatch h) dV_isPerson_15
def V_hasRight (σ : hT) (a1 : Int32) (a2 : Int32) : Option (Int32) := if (V_isPerson a1) = 0 then some 0 else if in9 a1 16 then if ((xI σ 8 0 (a1).toNatClampNeg) &&& a2) = 0 then some 0 else some 1 else none
set_option maxHeartbeats 4000000 in
set_option maxRecDepth 100000 in
theorem t_V_hasRight (l : Launch) (dC : Nat → ClassId) (dI : Nat → Nat → Nat) (ad : Nat → Nat → Nat) (ca : Nat → Nat → ClassId) (dom : List (Nat × Nat)) (σ : hT) (a1 : Int32) (a2 : Int32) (hm0 : (0, 0) ∈ dom) (hN : dom.Nodup) (hC : clo dom σ.2.2) (ρ : Int32) (hf : V_hasRight σ a1 a2 = some ρ) : Met l yV_hasRight (.code yV_hasRight cV_hasRight 3 (some .boolean) :: aw) ({ frames := 1, cells := 0, slots := 0, locals := 20 }) (hR (dC, dI) ad ca dom σ [.ref (ad 0 0), .int a1, .int a2]) (vp_Si (fun r => r = ρ)) 0 0 (fun _ => False) := by
  refine Met.ofW (cc := cV_hasRight) (maxL := 3) (ret := (some .boolean)) (by decide) rfl ?_
  intro p e s m args below meth c s₁ B hml hv
  obtain ⟨rfl, hv⟩ := hv
  have hx := B.exec
  have hb := B.bytes
  have hr := B.returns
  have hts : ∀ w ∈ aw, w.before _ s = true := fun w h => atoms_spec (ws := (.code yV_hasRight cV_hasRight 3 (some .boolean) :: aw)) B.pre w (List.mem_cons_of_mem _ h)
  have hown : s.vm.findClass RV = some m.cls := findClass_of_methodNamed B.named
  have hlocks := B.notSynchronized
  obtain ⟨hP, hK, hG⟩ := hv
  obtain ⟨H, hH⟩ : ∃ H, H = s.heap := ⟨_, rfl⟩
  rw [← hH] at hP ⊢
  unfold V_hasRight at hf
  have hl := lv_entry ([.ref (ad 0 0), .int a1, .int a2]) (n := 3) (Nat.le_of_ble_eq_true rfl)
  rw [lg_entry_eq]
  generalize (lg_sl ([.ref (ad 0 0), .int a1, .int a2]) ++ List.replicate (3 - (lg_sl ([.ref (ad 0 0), .int a1, .int a2])).length) Slot.unset).toArray = ls at hl ⊢
  have hl : lv_has ls 3 [(0, .ref (ad 0 0)), (1, .int a1), (2, .int a2)] := hl
  refine lv_iload_n (pc := 0) hx hb dV_hasRight_0 rfl (lv_at hl 1 rfl) ?_
  refine vp_callSi (pc := 1) (W.runS (As := [.int a1]) (rest := []) ⟨hx, hb, hml, hown, hts⟩ (t_V_isPerson l dC dI ad ca dom a1 σ hN hC (V_isPerson a1) rfl) (cwS 1 hts (gS wd_311 wd_312 wd_254 wd_310) rfl rfl rfl (by decide +kernel) ⟨Nat.le_of_ble_eq_true rfl, Nat.le_of_ble_eq_true rfl⟩) ⟨hR_blind, hR_pre hP hK hG⟩ rfl rfl hl.1 rfl (lv_room (Nat.le_of_ble_eq_true rfl)) dV_hasRight_1 ⟨Nat.le_of_ble_eq_true rfl, Nat.le_of_ble_eq_true rfl⟩) (fun r9 hr9 => ?_)
  refine W.eq (g2 := F0 m 4 ls [.int (V_isPerson a1)]) (by rw [hr9]) ?_
  refine lv_if_eq (pc := 4) (tgt := 22) hx hb dV_hasRight_4 rfl (fun h1 => ?_) (fun h1 => ?_)
  · replace hf := ite_t h1 hf
    refine lv_iconst (pc := 22) (v := 0) hx hb dV_hasRight_22 (by decide) ?_
    exact W.zret (pc := 23) hx hb hr (rfl) (fun t ht hW => ⟨_, rfl, (Option.some.inj hf), ht.trans hH⟩) (fun q h => nomatch h) dV_hasRight_23
  · replace hf := ite_f h1 hf
    refine lv_aload_n (pc := 7) hx hb dV_hasRight_7 rfl (lv_at hl 0 rfl) ?_
    obtain ⟨q2, hq2, eq2⟩ := at_0 (ad := ad) (ca := ca) (σ := σ) hm0
    refine va_get (D := (dC, dI)) (cl := kCl) (C := RV) (T := TV) (N := 9) (pc := 8) hx hb hts inV hown hK.1 hP q2 eq2 rfl 0 (by decide) (hts _ wd_313) (fun _ h9 => h9) rfl dV_hasRight_8 ?_
    refine lv_iload_n (pc := 11) hx hb dV_hasRight_11 rfl (lv_at hl 1 rfl) ?_
    obtain ⟨hv3, hf⟩ := ite_s hf
    obtain ⟨q4, hq4, eq4⟩ := at_8 (ad := ad) (ca := ca) (σ := σ) (cm_0_0 hC hm0)
    refine va_iald (D := (dC, dI)) (cl := kCl) (pc := 12) hx hb (hK.2 8 0 .int (cm_0_0 hC hm0) rfl) hP q4 0 eq4 rfl (hv3) dV_hasRight_12 ?_
    refine W.eq (g2 := F0 m 13 ls [.int (xI σ 8 0 (a1).toNatClampNeg)]) rfl ?_
    refine lv_iload_n (pc := 13) hx hb dV_hasRight_13 rfl (lv_at hl 2 rfl) ?_
    refine lv_iand (pc := 14) hx hb dV_hasRight_14 ?_
    refine lv_if_eq (pc := 15) (tgt := 22) hx hb dV_hasRight_15 rfl (fun h5 => ?_) (fun h5 => ?_)
    · replace hf := ite_t h5 hf
      refine lv_iconst (pc := 22) (v := 0) hx hb dV_hasRight_22 (by decide) ?_
      exact W.zret (pc := 23) hx hb hr (rfl) (fun t ht hW => ⟨_, rfl, (Option.some.inj hf), ht.trans hH⟩) (fun q h => nomatch h) dV_hasRight_23
    · replace hf := ite_f h5 hf
      refine lv_iconst (pc := 18) (v := 1) hx hb dV_hasRight_18 (by decide) ?_
      refine lv_goto (pc := 19) (tgt := 23) hx hb dV_hasRight_19 rfl ?_
      exact W.zret (pc := 23) hx hb hr (rfl) (fun t ht hW => ⟨_, rfl, (Option.some.inj hf), ht.trans hH⟩) (fun q h => nomatch h) dV_hasRight_23
def V_drawingAt (σ : hT) (a1 : Int32) : Option (Option Nat) := if a1 < 0 then some none else if (xI σ 102 0 0) ≤ a1 then some none else if in9 a1 24 then hq (xR σ 9 0 (a1).toNatClampNeg) (some none) fun j8 => some (some j8) else none
set_option maxHeartbeats 4000000 in
set_option maxRecDepth 100000 in
theorem t_V_drawingAt (l : Launch) (dC : Nat → ClassId) (dI : Nat → Nat → Nat) (ad : Nat → Nat → Nat) (ca : Nat → Nat → ClassId) (dom : List (Nat × Nat)) (σ : hT) (a1 : Int32) (hm0 : (0, 0) ∈ dom) (hN : dom.Nodup) (hC : clo dom σ.2.2) (ρ : Option Nat) (hf : V_drawingAt σ a1 = some ρ) : Met l yV_drawingAt (.code yV_drawingAt cV_drawingAt 2 (some (.object "DrawingVault$Drawing")) :: aw) ({ frames := 0, cells := 0, slots := 0, locals := 0 }) (hR (dC, dI) ad ca dom σ [.ref (ad 0 0), .int a1]) (va_Se (ad 6) (fun r => r = ρ ∧ ∀ j, ρ = some j → (6, j) ∈ dom)) 0 0 (fun _ => False) := by
  refine Met.ofW (cc := cV_drawingAt) (maxL := 2) (ret := (some (.object "DrawingVault$Drawing"))) (by decide) rfl ?_
  intro p e s m args below meth c s₁ B hml hv
  obtain ⟨rfl, hv⟩ := hv
  have hx := B.exec
  have hb := B.bytes
  have hr := B.returns
  have hts : ∀ w ∈ aw, w.before _ s = true := fun w h => atoms_spec (ws := (.code yV_drawingAt cV_drawingAt 2 (some (.object "DrawingVault$Drawing")) :: aw)) B.pre w (List.mem_cons_of_mem _ h)
  have hown : s.vm.findClass RV = some m.cls := findClass_of_methodNamed B.named
  have hlocks := B.notSynchronized
  obtain ⟨hP, hK, hG⟩ := hv
  obtain ⟨H, hH⟩ : ∃ H, H = s.heap := ⟨_, rfl⟩
  rw [← hH] at hP ⊢
  unfold V_drawingAt at hf
  have hl := lv_entry ([.ref (ad 0 0), .int a1]) (n := 2) (Nat.le_of_ble_eq_true rfl)
  rw [lg_entry_eq]
  generalize (lg_sl ([.ref (ad 0 0), .int a1]) ++ List.replicate (2 - (lg_sl ([.ref (ad 0 0), .int a1])).length) Slot.unset).toArray = ls at hl ⊢
  have hl : lv_has ls 2 [(0, .ref (ad 0 0)), (1, .int a1)] := hl
  refine lv_iload_n (pc := 0) hx hb dV_drawingAt_0 rfl (lv_at hl 1 rfl) ?_
  refine lv_if_lt (pc := 1) (tgt := 21) hx hb dV_drawingAt_1 rfl (fun h1 => ?_) (fun h1 => ?_)
  · replace hf := ite_t h1 hf
    refine lv_null (pc := 21) hx hb dV_drawingAt_21 ?_
    exact W.aret (pc := 22) hx hb hr (Or.inl ⟨_, rfl⟩) (Or.inl rfl) (fun t ht hW => ⟨none, rfl, ⟨(Option.some.inj hf), fun _ z => nomatch ((Option.some.inj hf)).trans z⟩, ht.trans hH⟩) (fun q h => nomatch h) dV_drawingAt_22
  · replace hf := ite_f h1 hf
    refine lv_iload_n (pc := 4) hx hb dV_drawingAt_4 rfl (lv_at hl 1 rfl) ?_
    refine lv_aload_n (pc := 5) hx hb dV_drawingAt_5 rfl (lv_at hl 0 rfl) ?_
    obtain ⟨q2, hq2, eq2⟩ := at_0 (ad := ad) (ca := ca) (σ := σ) hm0
    refine va_get (D := (dC, dI)) (cl := kCl) (C := RV) (T := TV) (N := 9) (pc := 6) hx hb hts inV hown hK.1 hP q2 eq2 rfl 2 (by decide) (hts _ wd_314) (fun _ h9 => h9) rfl dV_drawingAt_6 ?_
    refine lv_icmp_ge (pc := 9) (tgt := 21) hx hb dV_drawingAt_9 rfl (fun h3 => ?_) (fun h3 => ?_)
    · replace hf := ite_t h3 hf
      refine lv_null (pc := 21) hx hb dV_drawingAt_21 ?_
      exact W.aret (pc := 22) hx hb hr (Or.inl ⟨_, rfl⟩) (Or.inl rfl) (fun t ht hW => ⟨none, rfl, ⟨(Option.some.inj hf), fun _ z => nomatch ((Option.some.inj hf)).trans z⟩, ht.trans hH⟩) (fun q h => nomatch h) dV_drawingAt_22
    · replace hf := ite_f h3 hf
      refine lv_aload_n (pc := 12) hx hb dV_drawingAt_12 rfl (lv_at hl 0 rfl) ?_
      obtain ⟨q4, hq4, eq4⟩ := at_0 (ad := ad) (ca := ca) (σ := σ) hm0
      refine va_get (D := (dC, dI)) (cl := kCl) (C := RV) (T := TV) (N := 9) (pc := 13) hx hb hts inV hown hK.1 hP q4 eq4 rfl 1 (by decide) (hts _ wd_315) (fun _ h9 => h9) rfl dV_drawingAt_13 ?_
      refine lv_iload_n (pc := 16) hx hb dV_drawingAt_16 rfl (lv_at hl 1 rfl) ?_
      obtain ⟨hv5, hf⟩ := ite_s hf
      obtain ⟨q6, hq6, eq6⟩ := at_9 (ad := ad) (ca := ca) (σ := σ) (cm_0_1 hC hm0)
      refine va_aldq (D := (dC, dI)) (cl := kCl) (pc := 17) hx hb (hK.2 9 0 (.object "DrawingVault$Drawing") (cm_0_1 hC hm0) rfl) hP q6 0 eq6 rfl (hv5) dV_drawingAt_17 ?_
      refine W.eq (g2 := F0 m 18 ls [va_re (ad 6) (xR σ 9 0 (a1).toNatClampNeg)]) rfl ?_
      rcases hE7 : xR σ 9 0 (a1).toNatClampNeg with _ | j8
      · replace hf := hq_n hE7 hf
        refine W.eq (g2 := F0 m 18 ls [.null]) rfl ?_
        refine lv_goto (pc := 18) (tgt := 22) hx hb dV_drawingAt_18 rfl ?_
        exact W.aret (pc := 22) hx hb hr (Or.inl ⟨_, rfl⟩) (Or.inl rfl) (fun t ht hW => ⟨none, rfl, ⟨(Option.some.inj hf), fun _ z => nomatch ((Option.some.inj hf)).trans z⟩, ht.trans hH⟩) (fun q h => nomatch h) dV_drawingAt_22
      · replace hf := hq_s hE7 hf
        have hm9 : (6, j8) ∈ dom := (cr_9 hC (cm_0_1 hC hm0) hE7)
        refine W.eq (g2 := F0 m 18 ls [.ref (ad 6 j8)]) rfl ?_
        refine lv_goto (pc := 18) (tgt := 22) hx hb dV_drawingAt_18 rfl ?_
        exact W.aret (pc := 22) hx hb hr (Or.inl ⟨_, rfl⟩) (Or.inr ⟨_, rfl⟩) (fun t ht hW => ⟨(some j8), rfl, ⟨(Option.some.inj hf), fun _ z => Option.some.inj (((Option.some.inj hf)).trans z) ▸ hm9⟩, ht.trans hH⟩) (fun q h => nomatch h) dV_drawingAt_22
def V_revisionAt (σ : hT) (a1 : Int32) (a2 : Int32) : Option (Option Nat) := Option.bind (V_drawingAt σ a1) fun y2 => hq y2 (some none) fun j5 => if (D_hasRevision σ j5 a2) = 0 then some none else if in9 a2 12 then hq (xR σ 23 j5 (a2).toNatClampNeg) (some none) fun j13 => some (some j13) else none
set_option maxHeartbeats 4000000 in
set_option maxRecDepth 100000 in
theorem t_V_revisionAt (l : Launch) (dC : Nat → ClassId) (dI : Nat → Nat → Nat) (ad : Nat → Nat → Nat) (ca : Nat → Nat → ClassId) (dom : List (Nat × Nat)) (σ : hT) (a1 : Int32) (a2 : Int32) (hm0 : (0, 0) ∈ dom) (hN : dom.Nodup) (hC : clo dom σ.2.2) (ρ : Option Nat) (hf : V_revisionAt σ a1 a2 = some ρ) : Met l yV_revisionAt (.code yV_revisionAt cV_revisionAt 4 (some (.object "DrawingVault$Revision")) :: aw) ({ frames := 1, cells := 0, slots := 0, locals := 21 }) (hR (dC, dI) ad ca dom σ [.ref (ad 0 0), .int a1, .int a2]) (va_Se (ad 7) (fun r => r = ρ ∧ ∀ j, ρ = some j → (7, j) ∈ dom)) 0 0 (fun _ => False) := by
  refine Met.ofW (cc := cV_revisionAt) (maxL := 4) (ret := (some (.object "DrawingVault$Revision"))) (by decide) rfl ?_
  intro p e s m args below meth c s₁ B hml hv
  obtain ⟨rfl, hv⟩ := hv
  have hx := B.exec
  have hb := B.bytes
  have hr := B.returns
  have hts : ∀ w ∈ aw, w.before _ s = true := fun w h => atoms_spec (ws := (.code yV_revisionAt cV_revisionAt 4 (some (.object "DrawingVault$Revision")) :: aw)) B.pre w (List.mem_cons_of_mem _ h)
  have hown : s.vm.findClass RV = some m.cls := findClass_of_methodNamed B.named
  have hlocks := B.notSynchronized
  obtain ⟨hP, hK, hG⟩ := hv
  obtain ⟨H, hH⟩ : ∃ H, H = s.heap := ⟨_, rfl⟩
  rw [← hH] at hP ⊢
  unfold V_revisionAt at hf
  have hl := lv_entry ([.ref (ad 0 0), .int a1, .int a2]) (n := 4) (Nat.le_of_ble_eq_true rfl)
  rw [lg_entry_eq]
  generalize (lg_sl ([.ref (ad 0 0), .int a1, .int a2]) ++ List.replicate (4 - (lg_sl ([.ref (ad 0 0), .int a1, .int a2])).length) Slot.unset).toArray = ls at hl ⊢
  have hl : lv_has ls 4 [(0, .ref (ad 0 0)), (1, .int a1), (2, .int a2)] := hl
  refine lv_aload_n (pc := 0) hx hb dV_revisionAt_0 rfl (lv_at hl 0 rfl) ?_
  refine lv_iload_n (pc := 1) hx hb dV_revisionAt_1 rfl (lv_at hl 1 rfl) ?_
  obtain ⟨q1, hq1, eq1⟩ := at_0 (ad := ad) (ca := ca) (σ := σ) hm0
  obtain ⟨y2, hy2, hf⟩ := ob hf
  refine va_cse (pc := 2) (W.runV (As := [.int a1]) (rest := []) ⟨hx, hb, hml, hown, hts⟩ (t_V_drawingAt l dC dI ad ca dom σ a1 hm0 hN hC y2 hy2) (cwV 1 hts (gV wd_317 wd_318 wd_319 wd_254 wd_316) rfl rfl rfl (by decide +kernel) ⟨Nat.le_of_ble_eq_true rfl, Nat.le_of_ble_eq_true rfl⟩) ⟨hR_blind, va_recv (q := (RV, TV, 9)) (q0 := q1) (ci := 0) hK.1 hP rfl eq1, hR_pre hP hK hG⟩ rfl rfl hl.1 rfl (lv_room (Nat.le_of_ble_eq_true rfl)) dV_revisionAt_2 ⟨Nat.le_of_ble_eq_true rfl, Nat.le_of_ble_eq_true rfl⟩) (fun r9 hr9 => ?_)
  obtain ⟨hr9, hmy3⟩ := hr9
  refine W.eq (g2 := F0 m 5 ls [va_re (ad 6) y2]) (by rw [hr9]) ?_
  rcases hE4 : y2 with _ | j5
  · replace hf := hq_n hE4 hf
    refine W.eq (g2 := F0 m 5 ls [.null]) rfl ?_
    refine lv_astore_nN (pc := 5) hx hb dV_revisionAt_5 rfl hl (by decide) rfl (fun ls hl => ?_)
    have hl : lv_has ls 4 [(3, .null), (0, .ref (ad 0 0)), (1, .int a1), (2, .int a2)] := hl
    refine lv_aload_nN (pc := 6) hx hb dV_revisionAt_6 rfl (lv_at hl 0 rfl) ?_
    refine lv_ifnullN (pc := 7) (tgt := 27) hx hb dV_revisionAt_7 rfl ?_
    refine lv_null (pc := 27) hx hb dV_revisionAt_27 ?_
    exact W.aret (pc := 28) hx hb hr (Or.inl ⟨_, rfl⟩) (Or.inl rfl) (fun t ht hW => ⟨none, rfl, ⟨(Option.some.inj hf), fun _ z => nomatch ((Option.some.inj hf)).trans z⟩, ht.trans hH⟩) (fun q h => nomatch h) dV_revisionAt_28
  · replace hf := hq_s hE4 hf
    have hm6 : (6, j5) ∈ dom := (hmy3 _ hE4)
    refine W.eq (g2 := F0 m 5 ls [.ref (ad 6 j5)]) rfl ?_
    refine lv_astore_n (pc := 5) hx hb dV_revisionAt_5 rfl hl (by decide) rfl (fun ls hl => ?_)
    have hl : lv_has ls 4 [(3, .ref (ad 6 j5)), (0, .ref (ad 0 0)), (1, .int a1), (2, .int a2)] := hl
    refine lv_aload_n (pc := 6) hx hb dV_revisionAt_6 rfl (lv_at hl 0 rfl) ?_
    refine lv_ifnull (pc := 7) hx hb dV_revisionAt_7 ?_
    refine lv_aload_n (pc := 10) hx hb dV_revisionAt_10 rfl (lv_at hl 0 rfl) ?_
    refine lv_iload_n (pc := 11) hx hb dV_revisionAt_11 rfl (lv_at hl 3 rfl) ?_
    obtain ⟨q7, hq7, eq7⟩ := at_6 (ad := ad) (ca := ca) (σ := σ) hm6
    refine vp_callSi (pc := 12) (W.runV (As := [.int a2]) (rest := []) ⟨hx, hb, hml, hown, hts⟩ (t_D_hasRevision l dC dI ad ca dom σ j5 a2 hm6 hN hC (D_hasRevision σ j5 a2) rfl) (cwV 1 hts (gV wd_320 wd_297 wd_298 wd_292 wd_295) rfl rfl rfl (by decide +kernel) ⟨Nat.le_of_ble_eq_true rfl, Nat.le_of_ble_eq_true rfl⟩) ⟨hR_blind, va_recv (q := (RD, TD, 5)) (q0 := q7) (ci := 6) hK.1 hP rfl eq7, hR_pre hP hK hG⟩ rfl rfl hl.1 rfl (lv_room (Nat.le_of_ble_eq_true rfl)) dV_revisionAt_12 ⟨Nat.le_of_ble_eq_true rfl, Nat.le_of_ble_eq_true rfl⟩) (fun r9 hr9 => ?_)
    refine W.eq (g2 := F0 m 15 ls [.int (D_hasRevision σ j5 a2)]) (by rw [hr9]) ?_
    refine lv_if_eq (pc := 15) (tgt := 27) hx hb dV_revisionAt_15 rfl (fun h8 => ?_) (fun h8 => ?_)
    · replace hf := ite_t h8 hf
      refine lv_null (pc := 27) hx hb dV_revisionAt_27 ?_
      exact W.aret (pc := 28) hx hb hr (Or.inl ⟨_, rfl⟩) (Or.inl rfl) (fun t ht hW => ⟨none, rfl, ⟨(Option.some.inj hf), fun _ z => nomatch ((Option.some.inj hf)).trans z⟩, ht.trans hH⟩) (fun q h => nomatch h) dV_revisionAt_28
    · replace hf := ite_f h8 hf
      refine lv_aload_n (pc := 18) hx hb dV_revisionAt_18 rfl (lv_at hl 0 rfl) ?_
      obtain ⟨q9, hq9, eq9⟩ := at_6 (ad := ad) (ca := ca) (σ := σ) hm6
      refine va_get (D := (dC, dI)) (cl := kCl) (C := RD) (T := TD) (N := 5) (pc := 19) hx hb hts inD hown hK.1 hP q9 eq9 rfl 0 (by decide) (hts _ wd_321) (fun _ h9 => h9) rfl dV_revisionAt_19 ?_
      refine lv_iload_n (pc := 22) hx hb dV_revisionAt_22 rfl (lv_at hl 3 rfl) ?_
      obtain ⟨hv10, hf⟩ := ite_s hf
      obtain ⟨q11, hq11, eq11⟩ := at_23 (ad := ad) (ca := ca) (σ := σ) (cm_6_0 hC hm6)
      refine va_aldq (D := (dC, dI)) (cl := kCl) (pc := 23) hx hb (hK.2 23 j5 (.object "DrawingVault$Revision") (cm_6_0 hC hm6) rfl) hP q11 0 eq11 rfl (hv10) dV_revisionAt_23 ?_
      refine W.eq (g2 := F0 m 24 ls [va_re (ad 7) (xR σ 23 j5 (a2).toNatClampNeg)]) rfl ?_
      rcases hE12 : xR σ 23 j5 (a2).toNatClampNeg with _ | j13
      · replace hf := hq_n hE12 hf
        refine W.eq (g2 := F0 m 24 ls [.null]) rfl ?_
        refine lv_goto (pc := 24) (tgt := 28) hx hb dV_revisionAt_24 rfl ?_
        exact W.aret (pc := 28) hx hb hr (Or.inl ⟨_, rfl⟩) (Or.inl rfl) (fun t ht hW => ⟨none, rfl, ⟨(Option.some.inj hf), fun _ z => nomatch ((Option.some.inj hf)).trans z⟩, ht.trans hH⟩) (fun q h => nomatch h) dV_revisionAt_28
      · replace hf := hq_s hE12 hf
        have hm14 : (7, j13) ∈ dom := (cr_23 hC (cm_6_0 hC hm6) hE12)
        refine W.eq (g2 := F0 m 24 ls [.ref (ad 7 j13)]) rfl ?_
        refine lv_goto (pc := 24) (tgt := 28) hx hb dV_revisionAt_24 rfl ?_
        exact W.aret (pc := 28) hx hb hr (Or.inl ⟨_, rfl⟩) (Or.inr ⟨_, rfl⟩) (fun t ht hW => ⟨(some j13), rfl, ⟨(Option.some.inj hf), fun _ z => Option.some.inj (((Option.some.inj hf)).trans z) ▸ hm14⟩, ht.trans hH⟩) (fun q h => nomatch h) dV_revisionAt_28
def V_baselineAt (σ : hT) (a1 : Int32) : Option (Option Nat) := if a1 < 0 then some none else if 10 ≤ a1 then some none else if in9 a1 10 then hq (xR σ 10 0 (a1).toNatClampNeg) (some none) fun j7 => some (some j7) else none
set_option maxHeartbeats 4000000 in
set_option maxRecDepth 100000 in
theorem t_V_baselineAt (l : Launch) (dC : Nat → ClassId) (dI : Nat → Nat → Nat) (ad : Nat → Nat → Nat) (ca : Nat → Nat → ClassId) (dom : List (Nat × Nat)) (σ : hT) (a1 : Int32) (hm0 : (0, 0) ∈ dom) (hN : dom.Nodup) (hC : clo dom σ.2.2) (ρ : Option Nat) (hf : V_baselineAt σ a1 = some ρ) : Met l yV_baselineAt (.code yV_baselineAt cV_baselineAt 2 (some (.object "DrawingVault$Baseline")) :: aw) ({ frames := 0, cells := 0, slots := 0, locals := 0 }) (hR (dC, dI) ad ca dom σ [.ref (ad 0 0), .int a1]) (va_Se (ad 1) (fun r => r = ρ ∧ ∀ j, ρ = some j → (1, j) ∈ dom)) 0 0 (fun _ => False) := by
  refine Met.ofW (cc := cV_baselineAt) (maxL := 2) (ret := (some (.object "DrawingVault$Baseline"))) (by decide) rfl ?_
  intro p e s m args below meth c s₁ B hml hv
  obtain ⟨rfl, hv⟩ := hv
  have hx := B.exec
  have hb := B.bytes
  have hr := B.returns
  have hts : ∀ w ∈ aw, w.before _ s = true := fun w h => atoms_spec (ws := (.code yV_baselineAt cV_baselineAt 2 (some (.object "DrawingVault$Baseline")) :: aw)) B.pre w (List.mem_cons_of_mem _ h)
  have hown : s.vm.findClass RV = some m.cls := findClass_of_methodNamed B.named
  have hlocks := B.notSynchronized
  obtain ⟨hP, hK, hG⟩ := hv
  obtain ⟨H, hH⟩ : ∃ H, H = s.heap := ⟨_, rfl⟩
  rw [← hH] at hP ⊢
  unfold V_baselineAt at hf
  have hl := lv_entry ([.ref (ad 0 0), .int a1]) (n := 2) (Nat.le_of_ble_eq_true rfl)
  rw [lg_entry_eq]
  generalize (lg_sl ([.ref (ad 0 0), .int a1]) ++ List.replicate (2 - (lg_sl ([.ref (ad 0 0), .int a1])).length) Slot.unset).toArray = ls at hl ⊢
  have hl : lv_has ls 2 [(0, .ref (ad 0 0)), (1, .int a1)] := hl
  refine lv_iload_n (pc := 0) hx hb dV_baselineAt_0 rfl (lv_at hl 1 rfl) ?_
  refine lv_if_lt (pc := 1) (tgt := 19) hx hb dV_baselineAt_1 rfl (fun h1 => ?_) (fun h1 => ?_)
  · replace hf := ite_t h1 hf
    refine lv_null (pc := 19) hx hb dV_baselineAt_19 ?_
    exact W.aret (pc := 20) hx hb hr (Or.inl ⟨_, rfl⟩) (Or.inl rfl) (fun t ht hW => ⟨none, rfl, ⟨(Option.some.inj hf), fun _ z => nomatch ((Option.some.inj hf)).trans z⟩, ht.trans hH⟩) (fun q h => nomatch h) dV_baselineAt_20
  · replace hf := ite_f h1 hf
    refine lv_iload_n (pc := 4) hx hb dV_baselineAt_4 rfl (lv_at hl 1 rfl) ?_
    refine lv_bipush (pc := 5) (v := 10) hx hb dV_baselineAt_5 (by decide) ?_
    refine lv_icmp_ge (pc := 7) (tgt := 19) hx hb dV_baselineAt_7 rfl (fun h2 => ?_) (fun h2 => ?_)
    · replace hf := ite_t h2 hf
      refine lv_null (pc := 19) hx hb dV_baselineAt_19 ?_
      exact W.aret (pc := 20) hx hb hr (Or.inl ⟨_, rfl⟩) (Or.inl rfl) (fun t ht hW => ⟨none, rfl, ⟨(Option.some.inj hf), fun _ z => nomatch ((Option.some.inj hf)).trans z⟩, ht.trans hH⟩) (fun q h => nomatch h) dV_baselineAt_20
    · replace hf := ite_f h2 hf
      refine lv_aload_n (pc := 10) hx hb dV_baselineAt_10 rfl (lv_at hl 0 rfl) ?_
      obtain ⟨q3, hq3, eq3⟩ := at_0 (ad := ad) (ca := ca) (σ := σ) hm0
      refine va_get (D := (dC, dI)) (cl := kCl) (C := RV) (T := TV) (N := 9) (pc := 11) hx hb hts inV hown hK.1 hP q3 eq3 rfl 4 (by decide) (hts _ wd_322) (fun _ h9 => h9) rfl dV_baselineAt_11 ?_
      refine lv_iload_n (pc := 14) hx hb dV_baselineAt_14 rfl (lv_at hl 1 rfl) ?_
      obtain ⟨hv4, hf⟩ := ite_s hf
      obtain ⟨q5, hq5, eq5⟩ := at_10 (ad := ad) (ca := ca) (σ := σ) (cm_0_4 hC hm0)
      refine va_aldq (D := (dC, dI)) (cl := kCl) (pc := 15) hx hb (hK.2 10 0 (.object "DrawingVault$Baseline") (cm_0_4 hC hm0) rfl) hP q5 0 eq5 rfl (hv4) dV_baselineAt_15 ?_
      refine W.eq (g2 := F0 m 16 ls [va_re (ad 1) (xR σ 10 0 (a1).toNatClampNeg)]) rfl ?_
      rcases hE6 : xR σ 10 0 (a1).toNatClampNeg with _ | j7
      · replace hf := hq_n hE6 hf
        refine W.eq (g2 := F0 m 16 ls [.null]) rfl ?_
        refine lv_goto (pc := 16) (tgt := 20) hx hb dV_baselineAt_16 rfl ?_
        exact W.aret (pc := 20) hx hb hr (Or.inl ⟨_, rfl⟩) (Or.inl rfl) (fun t ht hW => ⟨none, rfl, ⟨(Option.some.inj hf), fun _ z => nomatch ((Option.some.inj hf)).trans z⟩, ht.trans hH⟩) (fun q h => nomatch h) dV_baselineAt_20
      · replace hf := hq_s hE6 hf
        have hm8 : (1, j7) ∈ dom := (cr_10 hC (cm_0_4 hC hm0) hE6)
        refine W.eq (g2 := F0 m 16 ls [.ref (ad 1 j7)]) rfl ?_
        refine lv_goto (pc := 16) (tgt := 20) hx hb dV_baselineAt_16 rfl ?_
        exact W.aret (pc := 20) hx hb hr (Or.inl ⟨_, rfl⟩) (Or.inr ⟨_, rfl⟩) (fun t ht hW => ⟨(some j7), rfl, ⟨(Option.some.inj hf), fun _ z => Option.some.inj (((Option.some.inj hf)).trans z) ▸ hm8⟩, ht.trans hH⟩) (fun q h => nomatch h) dV_baselineAt_20
def V_isReleased (σ : hT) (a1 : Int32) (a2 : Int32) : Option (Int32) := Option.bind (V_revisionAt σ a1 a2) fun y2 => hq y2 (some 0) fun j5 => if (xI σ 802 j5 0) = 2 then some 1 else some 0
set_option maxHeartbeats 4000000 in
set_option maxRecDepth 100000 in
theorem t_V_isReleased (l : Launch) (dC : Nat → ClassId) (dI : Nat → Nat → Nat) (ad : Nat → Nat → Nat) (ca : Nat → Nat → ClassId) (dom : List (Nat × Nat)) (σ : hT) (a1 : Int32) (a2 : Int32) (hm0 : (0, 0) ∈ dom) (hN : dom.Nodup) (hC : clo dom σ.2.2) (ρ : Int32) (hf : V_isReleased σ a1 a2 = some ρ) : Met l yV_isReleased (.code yV_isReleased cV_isReleased 4 (some .boolean) :: aw) ({ frames := 2, cells := 0, slots := 0, locals := 44 }) (hR (dC, dI) ad ca dom σ [.ref (ad 0 0), .int a1, .int a2]) (vp_Si (fun r => r = ρ)) 0 0 (fun _ => False) := by
  refine Met.ofW (cc := cV_isReleased) (maxL := 4) (ret := (some .boolean)) (by decide) rfl ?_
  intro p e s m args below meth c s₁ B hml hv
  obtain ⟨rfl, hv⟩ := hv
  have hx := B.exec
  have hb := B.bytes
  have hr := B.returns
  have hts : ∀ w ∈ aw, w.before _ s = true := fun w h => atoms_spec (ws := (.code yV_isReleased cV_isReleased 4 (some .boolean) :: aw)) B.pre w (List.mem_cons_of_mem _ h)
  have hown : s.vm.findClass RV = some m.cls := findClass_of_methodNamed B.named
  have hlocks := B.notSynchronized
  obtain ⟨hP, hK, hG⟩ := hv
  obtain ⟨H, hH⟩ : ∃ H, H = s.heap := ⟨_, rfl⟩
  rw [← hH] at hP ⊢
  unfold V_isReleased at hf
  have hl := lv_entry ([.ref (ad 0 0), .int a1, .int a2]) (n := 4) (Nat.le_of_ble_eq_true rfl)
  rw [lg_entry_eq]
  generalize (lg_sl ([.ref (ad 0 0), .int a1, .int a2]) ++ List.replicate (4 - (lg_sl ([.ref (ad 0 0), .int a1, .int a2])).length) Slot.unset).toArray = ls at hl ⊢
  have hl : lv_has ls 4 [(0, .ref (ad 0 0)), (1, .int a1), (2, .int a2)] := hl
  refine lv_aload_n (pc := 0) hx hb dV_isReleased_0 rfl (lv_at hl 0 rfl) ?_
  refine lv_iload_n (pc := 1) hx hb dV_isReleased_1 rfl (lv_at hl 1 rfl) ?_
  refine lv_iload_n (pc := 2) hx hb dV_isReleased_2 rfl (lv_at hl 2 rfl) ?_
  obtain ⟨q1, hq1, eq1⟩ := at_0 (ad := ad) (ca := ca) (σ := σ) hm0
  obtain ⟨y2, hy2, hf⟩ := ob hf
  refine va_cse (pc := 3) (W.runV (As := [.int a1, .int a2]) (rest := []) ⟨hx, hb, hml, hown, hts⟩ (t_V_revisionAt l dC dI ad ca dom σ a1 a2 hm0 hN hC y2 hy2) (cwV 2 hts (gV wd_324 wd_325 wd_326 wd_254 wd_323) rfl rfl rfl (by decide +kernel) ⟨Nat.le_of_ble_eq_true rfl, Nat.le_of_ble_eq_true rfl⟩) ⟨hR_blind, va_recv (q := (RV, TV, 9)) (q0 := q1) (ci := 0) hK.1 hP rfl eq1, hR_pre hP hK hG⟩ rfl rfl hl.1 rfl (lv_room (Nat.le_of_ble_eq_true rfl)) dV_isReleased_3 ⟨Nat.le_of_ble_eq_true rfl, Nat.le_of_ble_eq_true rfl⟩) (fun r9 hr9 => ?_)
  obtain ⟨hr9, hmy3⟩ := hr9
  refine W.eq (g2 := F0 m 6 ls [va_re (ad 7) y2]) (by rw [hr9]) ?_
  rcases hE4 : y2 with _ | j5
  · replace hf := hq_n hE4 hf
    refine W.eq (g2 := F0 m 6 ls [.null]) rfl ?_
    refine lv_astore_nN (pc := 6) hx hb dV_isReleased_6 rfl hl (by decide) rfl (fun ls hl => ?_)
    have hl : lv_has ls 4 [(3, .null), (0, .ref (ad 0 0)), (1, .int a1), (2, .int a2)] := hl
    refine lv_aload_nN (pc := 7) hx hb dV_isReleased_7 rfl (lv_at hl 0 rfl) ?_
    refine lv_ifnullN (pc := 8) (tgt := 23) hx hb dV_isReleased_8 rfl ?_
    refine lv_iconst (pc := 23) (v := 0) hx hb dV_isReleased_23 (by decide) ?_
    exact W.zret (pc := 24) hx hb hr (rfl) (fun t ht hW => ⟨_, rfl, (Option.some.inj hf), ht.trans hH⟩) (fun q h => nomatch h) dV_isReleased_24
  · replace hf := hq_s hE4 hf
    have hm6 : (7, j5) ∈ dom := (hmy3 _ hE4)
    refine W.eq (g2 := F0 m 6 ls [.ref (ad 7 j5)]) rfl ?_
    refine lv_astore_n (pc := 6) hx hb dV_isReleased_6 rfl hl (by decide) rfl (fun ls hl => ?_)
    have hl : lv_has ls 4 [(3, .ref (ad 7 j5)), (0, .ref (ad 0 0)), (1, .int a1), (2, .int a2)] := hl
    refine lv_aload_n (pc := 7) hx hb dV_isReleased_7 rfl (lv_at hl 0 rfl) ?_
    refine lv_ifnull (pc := 8) hx hb dV_isReleased_8 ?_
    refine lv_aload_n (pc := 11) hx hb dV_isReleased_11 rfl (lv_at hl 0 rfl) ?_
    obtain ⟨q7, hq7, eq7⟩ := at_7 (ad := ad) (ca := ca) (σ := σ) hm6
    refine va_get (D := (dC, dI)) (cl := kCl) (C := RS) (T := TS) (N := 3) (pc := 12) hx hb hts inS hown hK.1 hP q7 eq7 rfl 2 (by decide) (hts _ wd_327) (fun _ h9 => h9) rfl dV_isReleased_12 ?_
    refine lv_iconst (pc := 15) (v := 2) hx hb dV_isReleased_15 (by decide) ?_
    refine lv_icmp_ne (pc := 16) (tgt := 23) hx hb dV_isReleased_16 rfl (fun h8 => ?_) (fun h8 => ?_)
    · replace hf := ite_f h8 hf
      refine lv_iconst (pc := 23) (v := 0) hx hb dV_isReleased_23 (by decide) ?_
      exact W.zret (pc := 24) hx hb hr (rfl) (fun t ht hW => ⟨_, rfl, (Option.some.inj hf), ht.trans hH⟩) (fun q h => nomatch h) dV_isReleased_24
    · replace hf := ite_t h8 hf
      refine lv_iconst (pc := 19) (v := 1) hx hb dV_isReleased_19 (by decide) ?_
      refine lv_goto (pc := 20) (tgt := 24) hx hb dV_isReleased_20 rfl ?_
      exact W.zret (pc := 24) hx hb hr (rfl) (fun t ht hW => ⟨_, rfl, (Option.some.inj hf), ht.trans hH⟩) (fun q h => nomatch h) dV_isReleased_24
def V_resolved (n : Nat) (σ : hT) (a1 : Int32) (a2 : Int32) : Option (Int32) := Option.bind (V_drawingAt σ a1) fun y2 => hq y2 (some (-1)) fun j5 => if (D_hasRevision σ j5 a2) = 0 then Option.bind (D_latestReleased n σ j5) fun y10 => some y10 else some a2
set_option maxHeartbeats 4000000 in
set_option maxRecDepth 100000 in
theorem t_V_resolved (l : Launch) (dC : Nat → ClassId) (dI : Nat → Nat → Nat) (ad : Nat → Nat → Nat) (ca : Nat → Nat → ClassId) (dom : List (Nat × Nat)) (n : Nat) (σ : hT) (a1 : Int32) (a2 : Int32) (hm0 : (0, 0) ∈ dom) (hN : dom.Nodup) (hC : clo dom σ.2.2) (ρ : Int32) (hf : V_resolved n σ a1 a2 = some ρ) : Met l yV_resolved (.code yV_resolved cV_resolved 4 (some .int) :: aw) ({ frames := 2, cells := 0, slots := 0, locals := 41 }) (hR (dC, dI) ad ca dom σ [.ref (ad 0 0), .int a1, .int a2]) (vp_Si (fun r => r = ρ)) 0 0 (fun _ => False) := by
  refine Met.ofW (cc := cV_resolved) (maxL := 4) (ret := (some .int)) (by decide) rfl ?_
  intro p e s m args below meth c s₁ B hml hv
  obtain ⟨rfl, hv⟩ := hv
  have hx := B.exec
  have hb := B.bytes
  have hr := B.returns
  have hts : ∀ w ∈ aw, w.before _ s = true := fun w h => atoms_spec (ws := (.code yV_resolved cV_resolved 4 (some .int) :: aw)) B.pre w (List.mem_cons_of_mem _ h)
  have hown : s.vm.findClass RV = some m.cls := findClass_of_methodNamed B.named
  have hlocks := B.notSynchronized
  obtain ⟨hP, hK, hG⟩ := hv
  obtain ⟨H, hH⟩ : ∃ H, H = s.heap := ⟨_, rfl⟩
  rw [← hH] at hP ⊢
  unfold V_resolved at hf
  have hl := lv_entry ([.ref (ad 0 0), .int a1, .int a2]) (n := 4) (Nat.le_of_ble_eq_true rfl)
  rw [lg_entry_eq]
  generalize (lg_sl ([.ref (ad 0 0), .int a1, .int a2]) ++ List.replicate (4 - (lg_sl ([.ref (ad 0 0), .int a1, .int a2])).length) Slot.unset).toArray = ls at hl ⊢
  have hl : lv_has ls 4 [(0, .ref (ad 0 0)), (1, .int a1), (2, .int a2)] := hl
  refine lv_aload_n (pc := 0) hx hb dV_resolved_0 rfl (lv_at hl 0 rfl) ?_
  refine lv_iload_n (pc := 1) hx hb dV_resolved_1 rfl (lv_at hl 1 rfl) ?_
  obtain ⟨q1, hq1, eq1⟩ := at_0 (ad := ad) (ca := ca) (σ := σ) hm0
  obtain ⟨y2, hy2, hf⟩ := ob hf
  refine va_cse (pc := 2) (W.runV (As := [.int a1]) (rest := []) ⟨hx, hb, hml, hown, hts⟩ (t_V_drawingAt l dC dI ad ca dom σ a1 hm0 hN hC y2 hy2) (cwV 1 hts (gV wd_317 wd_318 wd_319 wd_254 wd_316) rfl rfl rfl (by decide +kernel) ⟨Nat.le_of_ble_eq_true rfl, Nat.le_of_ble_eq_true rfl⟩) ⟨hR_blind, va_recv (q := (RV, TV, 9)) (q0 := q1) (ci := 0) hK.1 hP rfl eq1, hR_pre hP hK hG⟩ rfl rfl hl.1 rfl (lv_room (Nat.le_of_ble_eq_true rfl)) dV_resolved_2 ⟨Nat.le_of_ble_eq_true rfl, Nat.le_of_ble_eq_true rfl⟩) (fun r9 hr9 => ?_)
  obtain ⟨hr9, hmy3⟩ := hr9
  refine W.eq (g2 := F0 m 5 ls [va_re (ad 6) y2]) (by rw [hr9]) ?_
  rcases hE4 : y2 with _ | j5
  · replace hf := hq_n hE4 hf
    refine W.eq (g2 := F0 m 5 ls [.null]) rfl ?_
    refine lv_astore_nN (pc := 5) hx hb dV_resolved_5 rfl hl (by decide) rfl (fun ls hl => ?_)
    have hl : lv_has ls 4 [(3, .null), (0, .ref (ad 0 0)), (1, .int a1), (2, .int a2)] := hl
    refine lv_aload_nN (pc := 6) hx hb dV_resolved_6 rfl (lv_at hl 0 rfl) ?_
    refine lv_ifnonnullN (pc := 7) hx hb dV_resolved_7 ?_
    refine lv_iconst (pc := 10) (v := (-1)) hx hb dV_resolved_10 (by decide) ?_
    exact W.iret (pc := 11) hx hb hr (fun t ht hW => ⟨_, rfl, (Option.some.inj hf), ht.trans hH⟩) (fun q h => nomatch h) dV_resolved_11
  · replace hf := hq_s hE4 hf
    have hm6 : (6, j5) ∈ dom := (hmy3 _ hE4)
    refine W.eq (g2 := F0 m 5 ls [.ref (ad 6 j5)]) rfl ?_
    refine lv_astore_n (pc := 5) hx hb dV_resolved_5 rfl hl (by decide) rfl (fun ls hl => ?_)
    have hl : lv_has ls 4 [(3, .ref (ad 6 j5)), (0, .ref (ad 0 0)), (1, .int a1), (2, .int a2)] := hl
    refine lv_aload_n (pc := 6) hx hb dV_resolved_6 rfl (lv_at hl 0 rfl) ?_
    refine lv_ifnonnull (pc := 7) (tgt := 12) hx hb dV_resolved_7 rfl ?_
    refine lv_aload_n (pc := 12) hx hb dV_resolved_12 rfl (lv_at hl 0 rfl) ?_
    refine lv_iload_n (pc := 13) hx hb dV_resolved_13 rfl (lv_at hl 3 rfl) ?_
    obtain ⟨q7, hq7, eq7⟩ := at_6 (ad := ad) (ca := ca) (σ := σ) hm6
    refine vp_callSi (pc := 14) (W.runV (As := [.int a2]) (rest := []) ⟨hx, hb, hml, hown, hts⟩ (t_D_hasRevision l dC dI ad ca dom σ j5 a2 hm6 hN hC (D_hasRevision σ j5 a2) rfl) (cwV 1 hts (gV wd_320 wd_297 wd_298 wd_292 wd_295) rfl rfl rfl (by decide +kernel) ⟨Nat.le_of_ble_eq_true rfl, Nat.le_of_ble_eq_true rfl⟩) ⟨hR_blind, va_recv (q := (RD, TD, 5)) (q0 := q7) (ci := 6) hK.1 hP rfl eq7, hR_pre hP hK hG⟩ rfl rfl hl.1 rfl (lv_room (Nat.le_of_ble_eq_true rfl)) dV_resolved_14 ⟨Nat.le_of_ble_eq_true rfl, Nat.le_of_ble_eq_true rfl⟩) (fun r9 hr9 => ?_)
    refine W.eq (g2 := F0 m 17 ls [.int (D_hasRevision σ j5 a2)]) (by rw [hr9]) ?_
    refine lv_if_eq (pc := 17) (tgt := 24) hx hb dV_resolved_17 rfl (fun h8 => ?_) (fun h8 => ?_)
    · replace hf := ite_t h8 hf
      refine lv_aload_n (pc := 24) hx hb dV_resolved_24 rfl (lv_at hl 0 rfl) ?_
      obtain ⟨q9, hq9, eq9⟩ := at_6 (ad := ad) (ca := ca) (σ := σ) hm6
      obtain ⟨y10, hy10, hf⟩ := ob hf
      refine vp_callSi (pc := 25) (W.runV (As := []) (rest := []) ⟨hx, hb, hml, hown, hts⟩ (t_D_latestReleased l dC dI ad ca dom n σ j5 hm6 hN hC y10 hy10) (cwV 0 hts (gV wd_329 wd_330 wd_331 wd_292 wd_328) rfl rfl rfl (by decide +kernel) ⟨Nat.le_of_ble_eq_true rfl, Nat.le_of_ble_eq_true rfl⟩) ⟨hR_blind, va_recv (q := (RD, TD, 5)) (q0 := q9) (ci := 6) hK.1 hP rfl eq9, hR_pre hP hK hG⟩ rfl rfl hl.1 rfl (lv_room (Nat.le_of_ble_eq_true rfl)) dV_resolved_25 ⟨Nat.le_of_ble_eq_true rfl, Nat.le_of_ble_eq_true rfl⟩) (fun r9 hr9 => ?_)
      refine W.eq (g2 := F0 m 28 ls [.int y10]) (by rw [hr9]) ?_
      exact W.iret (pc := 28) hx hb hr (fun t ht hW => ⟨_, rfl, (Option.some.inj hf), ht.trans hH⟩) (fun q h => nomatch h) dV_resolved_28
    · replace hf := ite_f h8 hf
      refine lv_iload_n (pc := 20) hx hb dV_resolved_20 rfl (lv_at hl 3 rfl) ?_
      refine lv_goto (pc := 21) (tgt := 28) hx hb dV_resolved_21 rfl ?_
      exact W.iret (pc := 28) hx hb hr (fun t ht hW => ⟨_, rfl, (Option.some.inj hf), ht.trans hH⟩) (fun q h => nomatch h) dV_resolved_28
def V_allResolveToReleased_L2 (n : Nat) (σ : hT) (kx4 : Int32 → Nat → Option (Int32)) : Nat → Int32 → Nat → Option (Int32)
  | 0, _, _ => none
  | k + 1, p1, j2 => if (xI σ 604 j2 0) ≤ p1 then kx4 p1 j2 else if in9 p1 6 then if in9 p1 6 then Option.bind (V_resolved n σ (xI σ 21 j2 (p1).toNatClampNeg) (xI σ 22 j2 (p1).toNatClampNeg)) fun y15 => Option.bind (V_isReleased σ (xI σ 21 j2 (p1).toNatClampNeg) y15) fun y17 => if y17 = 0 then some 0 else V_allResolveToReleased_L2 n σ kx4 k (p1 + 1) j2 else none else none
def V_allResolveToReleased (n : Nat) (σ : hT) (j1 : Nat) : Option (Int32) := lt9 (α := Int32 → Nat → Option (Int32)) (fun (p1 : Int32) (j2 : Nat) => some 1) fun kx4 => V_allResolveToReleased_L2 n σ kx4 n 0 j1
set_option maxHeartbeats 4000000 in
set_option maxRecDepth 100000 in
theorem t_V_allResolveToReleased (l : Launch) (dC : Nat → ClassId) (dI : Nat → Nat → Nat) (ad : Nat → Nat → Nat) (ca : Nat → Nat → ClassId) (dom : List (Nat × Nat)) (n : Nat) (σ : hT) (j1 : Nat) (hm0 : (0, 0) ∈ dom) (hm1 : (5, j1) ∈ dom) (hN : dom.Nodup) (hC : clo dom σ.2.2) (ρ : Int32) (hf : V_allResolveToReleased n σ j1 = some ρ) : Met l yV_allResolveToReleased (.code yV_allResolveToReleased cV_allResolveToReleased 4 (some .boolean) :: aw) ({ frames := 3, cells := 0, slots := 0, locals := 67 }) (hR (dC, dI) ad ca dom σ [.ref (ad 0 0), .ref (ad 5 j1)]) (vp_Si (fun r => r = ρ)) 0 0 (fun _ => False) := by
  refine Met.ofW (cc := cV_allResolveToReleased) (maxL := 4) (ret := (some .boolean)) (by decide) rfl ?_
  intro p e s m args below meth c s₁ B hml hv
  obtain ⟨rfl, hv⟩ := hv
  have hx := B.exec
  have hb := B.bytes
  have hr := B.returns
  have hts : ∀ w ∈ aw, w.before _ s = true := fun w h => atoms_spec (ws := (.code yV_allResolveToReleased cV_allResolveToReleased 4 (some .boolean) :: aw)) B.pre w (List.mem_cons_of_mem _ h)
  have hown : s.vm.findClass RV = some m.cls := findClass_of_methodNamed B.named
  have hlocks := B.notSynchronized
  obtain ⟨hP, hK, hG⟩ := hv
  obtain ⟨H, hH⟩ : ∃ H, H = s.heap := ⟨_, rfl⟩
  rw [← hH] at hP ⊢
  unfold V_allResolveToReleased at hf
  have hl := lv_entry ([.ref (ad 0 0), .ref (ad 5 j1)]) (n := 4) (Nat.le_of_ble_eq_true rfl)
  rw [lg_entry_eq]
  generalize (lg_sl ([.ref (ad 0 0), .ref (ad 5 j1)]) ++ List.replicate (4 - (lg_sl ([.ref (ad 0 0), .ref (ad 5 j1)])).length) Slot.unset).toArray = ls at hl ⊢
  have hl : lv_has ls 4 [(0, .ref (ad 0 0)), (1, .ref (ad 5 j1))] := hl
  refine lv_iconst (pc := 0) (v := 0) hx hb dV_allResolveToReleased_0 (by decide) ?_
  refine lv_istore_n (pc := 1) hx hb dV_allResolveToReleased_1 rfl hl (by decide) rfl (fun ls hl => ?_)
  have hl : lv_has ls 4 [(2, .int 0), (0, .ref (ad 0 0)), (1, .ref (ad 5 j1))] := hl
  obtain ⟨kx4, hkx4, hf⟩ := lt_9 hf
  refine lpF (τ := (Int32) × (Nat) × (Array Slot)) (fun pc z => W p l e _ s m _ below meth c H ([]) 0 0 _ (F0 m pc z.2.2 [])) 2 44 (fun z => lv_has z.2.2 4 [(2, .int z.1), (0, .ref (ad 0 0)), (1, .ref (ad 5 z.2.1))] ∧ (5, z.2.1) ∈ dom) (fun k z => V_allResolveToReleased_L2 n σ kx4 k z.1 z.2.1) (fun z => kx4 z.1 z.2.1) _ (fun z => rfl) ?_ ?_ n (0, j1, ls) ⟨hl, hm1⟩ hf
  · rintro k ⟨p1, j2, ls⟩ ⟨hl, hm3⟩ hf ih5 hXkx4
    dsimp only at hl hm3 hf ih5 hXkx4 ⊢
    unfold V_allResolveToReleased_L2 at hf
    have hl : lv_has ls 4 [(2, .int p1), (0, .ref (ad 0 0)), (1, .ref (ad 5 j2))] := hl
    refine lv_iload_n (pc := 2) hx hb dV_allResolveToReleased_2 rfl (lv_at hl 0 rfl) ?_
    refine lv_aload_n (pc := 3) hx hb dV_allResolveToReleased_3 rfl (lv_at hl 2 rfl) ?_
    obtain ⟨q6, hq6, eq6⟩ := at_5 (ad := ad) (ca := ca) (σ := σ) hm3
    refine va_get (D := (dC, dI)) (cl := kCl) (C := RC) (T := TC) (N := 5) (pc := 4) hx hb hts inC hown hK.1 hP q6 eq6 rfl 4 (by decide) (hts _ wd_332) (fun _ h9 => h9) rfl dV_allResolveToReleased_4 ?_
    refine lv_icmp_ge (pc := 7) (tgt := 44) hx hb dV_allResolveToReleased_7 rfl (fun h7 => ?_) (fun h7 => ?_)
    · replace hf := ite_t h7 hf
      have hl := lv_sub hl (l' := [(2, .int p1), (0, .ref (ad 0 0)), (1, .ref (ad 5 j2))]) [0, 1, 2] rfl
      exact hXkx4 (p1, j2, ls) ⟨hl, hm3⟩ hf
    · replace hf := ite_f h7 hf
      refine lv_aload_n (pc := 10) hx hb dV_allResolveToReleased_10 rfl (lv_at hl 2 rfl) ?_
      obtain ⟨q8, hq8, eq8⟩ := at_5 (ad := ad) (ca := ca) (σ := σ) hm3
      refine va_get (D := (dC, dI)) (cl := kCl) (C := RC) (T := TC) (N := 5) (pc := 11) hx hb hts inC hown hK.1 hP q8 eq8 rfl 2 (by decide) (hts _ wd_333) (fun _ h9 => h9) rfl dV_allResolveToReleased_11 ?_
      refine lv_iload_n (pc := 14) hx hb dV_allResolveToReleased_14 rfl (lv_at hl 0 rfl) ?_
      obtain ⟨hv9, hf⟩ := ite_s hf
      obtain ⟨q10, hq10, eq10⟩ := at_21 (ad := ad) (ca := ca) (σ := σ) (cm_5_2 hC hm3)
      refine va_iald (D := (dC, dI)) (cl := kCl) (pc := 15) hx hb (hK.2 21 j2 .int (cm_5_2 hC hm3) rfl) hP q10 0 eq10 rfl (hv9) dV_allResolveToReleased_15 ?_
      refine W.eq (g2 := F0 m 16 ls [.int (xI σ 21 j2 (p1).toNatClampNeg)]) rfl ?_
      refine lv_istore_n (pc := 16) hx hb dV_allResolveToReleased_16 rfl hl (by decide) rfl (fun ls hl => ?_)
      have hl : lv_has ls 4 [(3, .int (xI σ 21 j2 (p1).toNatClampNeg)), (2, .int p1), (0, .ref (ad 0 0)), (1, .ref (ad 5 j2))] := hl
      refine lv_aload_n (pc := 17) hx hb dV_allResolveToReleased_17 rfl (lv_at hl 2 rfl) ?_
      refine lv_iload_n (pc := 18) hx hb dV_allResolveToReleased_18 rfl (lv_at hl 0 rfl) ?_
      refine lv_aload_n (pc := 19) hx hb dV_allResolveToReleased_19 rfl (lv_at hl 2 rfl) ?_
      refine lv_iload_n (pc := 20) hx hb dV_allResolveToReleased_20 rfl (lv_at hl 0 rfl) ?_
      refine lv_aload_n (pc := 21) hx hb dV_allResolveToReleased_21 rfl (lv_at hl 3 rfl) ?_
      obtain ⟨q11, hq11, eq11⟩ := at_5 (ad := ad) (ca := ca) (σ := σ) hm3
      refine va_get (D := (dC, dI)) (cl := kCl) (C := RC) (T := TC) (N := 5) (pc := 22) hx hb hts inC hown hK.1 hP q11 eq11 rfl 3 (by decide) (hts _ wd_334) (fun _ h9 => h9) rfl dV_allResolveToReleased_22 ?_
      refine lv_iload_n (pc := 25) hx hb dV_allResolveToReleased_25 rfl (lv_at hl 1 rfl) ?_
      obtain ⟨hv12, hf⟩ := ite_s hf
      obtain ⟨q13, hq13, eq13⟩ := at_22 (ad := ad) (ca := ca) (σ := σ) (cm_5_3 hC hm3)
      refine va_iald (D := (dC, dI)) (cl := kCl) (pc := 26) hx hb (hK.2 22 j2 .int (cm_5_3 hC hm3) rfl) hP q13 0 eq13 rfl (hv12) dV_allResolveToReleased_26 ?_
      refine W.eq (g2 := F0 m 27 ls [.int (xI σ 22 j2 (p1).toNatClampNeg), .int (xI σ 21 j2 (p1).toNatClampNeg), .ref (ad 0 0), .int (xI σ 21 j2 (p1).toNatClampNeg), .ref (ad 0 0)]) rfl ?_
      obtain ⟨q14, hq14, eq14⟩ := at_0 (ad := ad) (ca := ca) (σ := σ) hm0
      obtain ⟨y15, hy15, hf⟩ := ob hf
      refine vp_callSi (pc := 27) (W.runV (As := [.int (xI σ 21 j2 (p1).toNatClampNeg), .int (xI σ 22 j2 (p1).toNatClampNeg)]) (rest := [.int (xI σ 21 j2 (p1).toNatClampNeg), .ref (ad 0 0)]) ⟨hx, hb, hml, hown, hts⟩ (t_V_resolved l dC dI ad ca dom n σ (xI σ 21 j2 (p1).toNatClampNeg) (xI σ 22 j2 (p1).toNatClampNeg) hm0 hN hC y15 hy15) (cwV 2 hts (gV wd_336 wd_337 wd_338 wd_254 wd_335) rfl rfl rfl (by decide +kernel) ⟨Nat.le_of_ble_eq_true rfl, Nat.le_of_ble_eq_true rfl⟩) ⟨hR_blind, va_recv (q := (RV, TV, 9)) (q0 := q14) (ci := 0) hK.1 hP rfl eq14, hR_pre hP hK hG⟩ rfl rfl hl.1 rfl (lv_room (Nat.le_of_ble_eq_true rfl)) dV_allResolveToReleased_27 ⟨Nat.le_of_ble_eq_true rfl, Nat.le_of_ble_eq_true rfl⟩) (fun r9 hr9 => ?_)
      refine W.eq (g2 := F0 m 30 ls [.int y15, .int (xI σ 21 j2 (p1).toNatClampNeg), .ref (ad 0 0)]) (by rw [hr9]) ?_
      obtain ⟨q16, hq16, eq16⟩ := at_0 (ad := ad) (ca := ca) (σ := σ) hm0
      obtain ⟨y17, hy17, hf⟩ := ob hf
      refine vp_callSi (pc := 30) (W.runV (As := [.int (xI σ 21 j2 (p1).toNatClampNeg), .int y15]) (rest := []) ⟨hx, hb, hml, hown, hts⟩ (t_V_isReleased l dC dI ad ca dom σ (xI σ 21 j2 (p1).toNatClampNeg) y15 hm0 hN hC y17 hy17) (cwV 2 hts (gV wd_340 wd_341 wd_342 wd_254 wd_339) rfl rfl rfl (by decide +kernel) ⟨Nat.le_of_ble_eq_true rfl, Nat.le_of_ble_eq_true rfl⟩) ⟨hR_blind, va_recv (q := (RV, TV, 9)) (q0 := q16) (ci := 0) hK.1 hP rfl eq16, hR_pre hP hK hG⟩ rfl rfl hl.1 rfl (lv_room (Nat.le_of_ble_eq_true rfl)) dV_allResolveToReleased_30 ⟨Nat.le_of_ble_eq_true rfl, Nat.le_of_ble_eq_true rfl⟩) (fun r9 hr9 => ?_)
      refine W.eq (g2 := F0 m 33 ls [.int y17]) (by rw [hr9]) ?_
      refine lv_if_ne (pc := 33) (tgt := 38) hx hb dV_allResolveToReleased_33 rfl (fun h18 => ?_) (fun h18 => ?_)
      · replace hf := ite_f h18 hf
        refine lv_iinc (pc := 38) (v := (p1 + 1)) hx hb dV_allResolveToReleased_38 hl (k := 1) rfl (by rfl) (by decide) rfl (fun ls hl => ?_)
        have hl : lv_has ls 4 [(2, .int (p1 + 1)), (3, .int (xI σ 21 j2 (p1).toNatClampNeg)), (0, .ref (ad 0 0)), (1, .ref (ad 5 j2))] := hl
        refine lv_goto (pc := 41) (tgt := 2) hx hb dV_allResolveToReleased_41 rfl ?_
        have hl := lv_sub hl (l' := [(2, .int (p1 + 1)), (0, .ref (ad 0 0)), (1, .ref (ad 5 j2))]) [0, 2, 3] rfl
        exact ih5 ((p1 + 1), j2, ls) ⟨hl, hm3⟩ hf
      · replace hf := ite_t h18 hf
        refine lv_iconst (pc := 36) (v := 0) hx hb dV_allResolveToReleased_36 (by decide) ?_
        exact W.zret (pc := 37) hx hb hr (rfl) (fun t ht hW => ⟨_, rfl, (Option.some.inj hf), ht.trans hH⟩) (fun q h => nomatch h) dV_allResolveToReleased_37
  · rintro ⟨p1, j2, ls⟩ ⟨hl, hm3⟩ hf
    dsimp only at hl hm3 hf ⊢
    rw [hkx4] at hf
    have hl : lv_has ls 4 [(2, .int p1), (0, .ref (ad 0 0)), (1, .ref (ad 5 j2))] := hl
    refine lv_iconst (pc := 44) (v := 1) hx hb dV_allResolveToReleased_44 (by decide) ?_
    exact W.zret (pc := 45) hx hb hr (rfl) (fun t ht hW => ⟨_, rfl, (Option.some.inj hf), ht.trans hH⟩) (fun q h => nomatch h) dV_allResolveToReleased_45
def V_fixedOnesAreThere_L2 (n : Nat) (σ : hT) (kx4 : Int32 → Nat → Option (Int32)) : Nat → Int32 → Nat → Option (Int32)
  | 0, _, _ => none
  | k + 1, p1, j2 => if (xI σ 604 j2 0) ≤ p1 then kx4 p1 j2 else if in9 p1 6 then if (xI σ 22 j2 (p1).toNatClampNeg) = (-1) then V_fixedOnesAreThere_L2 n σ kx4 k (p1 + 1) j2 else if in9 p1 6 then Option.bind (V_revisionAt σ (xI σ 21 j2 (p1).toNatClampNeg) (xI σ 22 j2 (p1).toNatClampNeg)) fun y16 => hq y16 (some 0) fun j19 => V_fixedOnesAreThere_L2 n σ kx4 k (p1 + 1) j2 else none else none
def V_fixedOnesAreThere (n : Nat) (σ : hT) (j1 : Nat) : Option (Int32) := lt9 (α := Int32 → Nat → Option (Int32)) (fun (p1 : Int32) (j2 : Nat) => some 1) fun kx4 => V_fixedOnesAreThere_L2 n σ kx4 n 0 j1
set_option maxHeartbeats 4000000 in
set_option maxRecDepth 100000 in
theorem t_V_fixedOnesAreThere (l : Launch) (dC : Nat → ClassId) (dI : Nat → Nat → Nat) (ad : Nat → Nat → Nat) (ca : Nat → Nat → ClassId) (dom : List (Nat × Nat)) (n : Nat) (σ : hT) (j1 : Nat) (hm0 : (0, 0) ∈ dom) (hm1 : (5, j1) ∈ dom) (hN : dom.Nodup) (hC : clo dom σ.2.2) (ρ : Int32) (hf : V_fixedOnesAreThere n σ j1 = some ρ) : Met l yV_fixedOnesAreThere (.code yV_fixedOnesAreThere cV_fixedOnesAreThere 4 (some .boolean) :: aw) ({ frames := 2, cells := 0, slots := 0, locals := 44 }) (hR (dC, dI) ad ca dom σ [.ref (ad 0 0), .ref (ad 5 j1)]) (vp_Si (fun r => r = ρ)) 0 0 (fun _ => False) := by
  refine Met.ofW (cc := cV_fixedOnesAreThere) (maxL := 4) (ret := (some .boolean)) (by decide) rfl ?_
  intro p e s m args below meth c s₁ B hml hv
  obtain ⟨rfl, hv⟩ := hv
  have hx := B.exec
  have hb := B.bytes
  have hr := B.returns
  have hts : ∀ w ∈ aw, w.before _ s = true := fun w h => atoms_spec (ws := (.code yV_fixedOnesAreThere cV_fixedOnesAreThere 4 (some .boolean) :: aw)) B.pre w (List.mem_cons_of_mem _ h)
  have hown : s.vm.findClass RV = some m.cls := findClass_of_methodNamed B.named
  have hlocks := B.notSynchronized
  obtain ⟨hP, hK, hG⟩ := hv
  obtain ⟨H, hH⟩ : ∃ H, H = s.heap := ⟨_, rfl⟩
  rw [← hH] at hP ⊢
  unfold V_fixedOnesAreThere at hf
  have hl := lv_entry ([.ref (ad 0 0), .ref (ad 5 j1)]) (n := 4) (Nat.le_of_ble_eq_true rfl)
  rw [lg_entry_eq]
  generalize (lg_sl ([.ref (ad 0 0), .ref (ad 5 j1)]) ++ List.replicate (4 - (lg_sl ([.ref (ad 0 0), .ref (ad 5 j1)])).length) Slot.unset).toArray = ls at hl ⊢
  have hl : lv_has ls 4 [(0, .ref (ad 0 0)), (1, .ref (ad 5 j1))] := hl
  refine lv_iconst (pc := 0) (v := 0) hx hb dV_fixedOnesAreThere_0 (by decide) ?_
  refine lv_istore_n (pc := 1) hx hb dV_fixedOnesAreThere_1 rfl hl (by decide) rfl (fun ls hl => ?_)
  have hl : lv_has ls 4 [(2, .int 0), (0, .ref (ad 0 0)), (1, .ref (ad 5 j1))] := hl
  obtain ⟨kx4, hkx4, hf⟩ := lt_9 hf
  refine lpF (τ := (Int32) × (Nat) × (Array Slot)) (fun pc z => W p l e _ s m _ below meth c H ([]) 0 0 _ (F0 m pc z.2.2 [])) 2 44 (fun z => lv_has z.2.2 4 [(2, .int z.1), (0, .ref (ad 0 0)), (1, .ref (ad 5 z.2.1))] ∧ (5, z.2.1) ∈ dom) (fun k z => V_fixedOnesAreThere_L2 n σ kx4 k z.1 z.2.1) (fun z => kx4 z.1 z.2.1) _ (fun z => rfl) ?_ ?_ n (0, j1, ls) ⟨hl, hm1⟩ hf
  · rintro k ⟨p1, j2, ls⟩ ⟨hl, hm3⟩ hf ih5 hXkx4
    dsimp only at hl hm3 hf ih5 hXkx4 ⊢
    unfold V_fixedOnesAreThere_L2 at hf
    have hl : lv_has ls 4 [(2, .int p1), (0, .ref (ad 0 0)), (1, .ref (ad 5 j2))] := hl
    refine lv_iload_n (pc := 2) hx hb dV_fixedOnesAreThere_2 rfl (lv_at hl 0 rfl) ?_
    refine lv_aload_n (pc := 3) hx hb dV_fixedOnesAreThere_3 rfl (lv_at hl 2 rfl) ?_
    obtain ⟨q6, hq6, eq6⟩ := at_5 (ad := ad) (ca := ca) (σ := σ) hm3
    refine va_get (D := (dC, dI)) (cl := kCl) (C := RC) (T := TC) (N := 5) (pc := 4) hx hb hts inC hown hK.1 hP q6 eq6 rfl 4 (by decide) (hts _ wd_332) (fun _ h9 => h9) rfl dV_fixedOnesAreThere_4 ?_
    refine lv_icmp_ge (pc := 7) (tgt := 44) hx hb dV_fixedOnesAreThere_7 rfl (fun h7 => ?_) (fun h7 => ?_)
    · replace hf := ite_t h7 hf
      have hl := lv_sub hl (l' := [(2, .int p1), (0, .ref (ad 0 0)), (1, .ref (ad 5 j2))]) [0, 1, 2] rfl
      exact hXkx4 (p1, j2, ls) ⟨hl, hm3⟩ hf
    · replace hf := ite_f h7 hf
      refine lv_aload_n (pc := 10) hx hb dV_fixedOnesAreThere_10 rfl (lv_at hl 2 rfl) ?_
      obtain ⟨q8, hq8, eq8⟩ := at_5 (ad := ad) (ca := ca) (σ := σ) hm3
      refine va_get (D := (dC, dI)) (cl := kCl) (C := RC) (T := TC) (N := 5) (pc := 11) hx hb hts inC hown hK.1 hP q8 eq8 rfl 3 (by decide) (hts _ wd_334) (fun _ h9 => h9) rfl dV_fixedOnesAreThere_11 ?_
      refine lv_iload_n (pc := 14) hx hb dV_fixedOnesAreThere_14 rfl (lv_at hl 0 rfl) ?_
      obtain ⟨hv9, hf⟩ := ite_s hf
      obtain ⟨q10, hq10, eq10⟩ := at_22 (ad := ad) (ca := ca) (σ := σ) (cm_5_3 hC hm3)
      refine va_iald (D := (dC, dI)) (cl := kCl) (pc := 15) hx hb (hK.2 22 j2 .int (cm_5_3 hC hm3) rfl) hP q10 0 eq10 rfl (hv9) dV_fixedOnesAreThere_15 ?_
      refine W.eq (g2 := F0 m 16 ls [.int (xI σ 22 j2 (p1).toNatClampNeg)]) rfl ?_
      refine lv_istore_n (pc := 16) hx hb dV_fixedOnesAreThere_16 rfl hl (by decide) rfl (fun ls hl => ?_)
      have hl : lv_has ls 4 [(3, .int (xI σ 22 j2 (p1).toNatClampNeg)), (2, .int p1), (0, .ref (ad 0 0)), (1, .ref (ad 5 j2))] := hl
      refine lv_iload_n (pc := 17) hx hb dV_fixedOnesAreThere_17 rfl (lv_at hl 0 rfl) ?_
      refine lv_iconst (pc := 18) (v := (-1)) hx hb dV_fixedOnesAreThere_18 (by decide) ?_
      refine lv_icmp_eq (pc := 19) (tgt := 38) hx hb dV_fixedOnesAreThere_19 rfl (fun h11 => ?_) (fun h11 => ?_)
      · replace hf := ite_t h11 hf
        refine lv_iinc (pc := 38) (v := (p1 + 1)) hx hb dV_fixedOnesAreThere_38 hl (k := 1) rfl (by rfl) (by decide) rfl (fun ls hl => ?_)
        have hl : lv_has ls 4 [(2, .int (p1 + 1)), (3, .int (xI σ 22 j2 (p1).toNatClampNeg)), (0, .ref (ad 0 0)), (1, .ref (ad 5 j2))] := hl
        refine lv_goto (pc := 41) (tgt := 2) hx hb dV_fixedOnesAreThere_41 rfl ?_
        have hl := lv_sub hl (l' := [(2, .int (p1 + 1)), (0, .ref (ad 0 0)), (1, .ref (ad 5 j2))]) [0, 2, 3] rfl
        exact ih5 ((p1 + 1), j2, ls) ⟨hl, hm3⟩ hf
      · replace hf := ite_f h11 hf
        refine lv_aload_n (pc := 22) hx hb dV_fixedOnesAreThere_22 rfl (lv_at hl 2 rfl) ?_
        refine lv_aload_n (pc := 23) hx hb dV_fixedOnesAreThere_23 rfl (lv_at hl 3 rfl) ?_
        obtain ⟨q12, hq12, eq12⟩ := at_5 (ad := ad) (ca := ca) (σ := σ) hm3
        refine va_get (D := (dC, dI)) (cl := kCl) (C := RC) (T := TC) (N := 5) (pc := 24) hx hb hts inC hown hK.1 hP q12 eq12 rfl 2 (by decide) (hts _ wd_333) (fun _ h9 => h9) rfl dV_fixedOnesAreThere_24 ?_
        refine lv_iload_n (pc := 27) hx hb dV_fixedOnesAreThere_27 rfl (lv_at hl 1 rfl) ?_
        obtain ⟨hv13, hf⟩ := ite_s hf
        obtain ⟨q14, hq14, eq14⟩ := at_21 (ad := ad) (ca := ca) (σ := σ) (cm_5_2 hC hm3)
        refine va_iald (D := (dC, dI)) (cl := kCl) (pc := 28) hx hb (hK.2 21 j2 .int (cm_5_2 hC hm3) rfl) hP q14 0 eq14 rfl (hv13) dV_fixedOnesAreThere_28 ?_
        refine W.eq (g2 := F0 m 29 ls [.int (xI σ 21 j2 (p1).toNatClampNeg), .ref (ad 0 0)]) rfl ?_
        refine lv_iload_n (pc := 29) hx hb dV_fixedOnesAreThere_29 rfl (lv_at hl 0 rfl) ?_
        obtain ⟨q15, hq15, eq15⟩ := at_0 (ad := ad) (ca := ca) (σ := σ) hm0
        obtain ⟨y16, hy16, hf⟩ := ob hf
        refine va_cse (pc := 30) (W.runV (As := [.int (xI σ 21 j2 (p1).toNatClampNeg), .int (xI σ 22 j2 (p1).toNatClampNeg)]) (rest := []) ⟨hx, hb, hml, hown, hts⟩ (t_V_revisionAt l dC dI ad ca dom σ (xI σ 21 j2 (p1).toNatClampNeg) (xI σ 22 j2 (p1).toNatClampNeg) hm0 hN hC y16 hy16) (cwV 2 hts (gV wd_324 wd_325 wd_326 wd_254 wd_323) rfl rfl rfl (by decide +kernel) ⟨Nat.le_of_ble_eq_true rfl, Nat.le_of_ble_eq_true rfl⟩) ⟨hR_blind, va_recv (q := (RV, TV, 9)) (q0 := q15) (ci := 0) hK.1 hP rfl eq15, hR_pre hP hK hG⟩ rfl rfl hl.1 rfl (lv_room (Nat.le_of_ble_eq_true rfl)) dV_fixedOnesAreThere_30 ⟨Nat.le_of_ble_eq_true rfl, Nat.le_of_ble_eq_true rfl⟩) (fun r9 hr9 => ?_)
        obtain ⟨hr9, hmy17⟩ := hr9
        refine W.eq (g2 := F0 m 33 ls [va_re (ad 7) y16]) (by rw [hr9]) ?_
        rcases hE18 : y16 with _ | j19
        · replace hf := hq_n hE18 hf
          refine W.eq (g2 := F0 m 33 ls [.null]) rfl ?_
          refine lv_ifnonnullN (pc := 33) hx hb dV_fixedOnesAreThere_33 ?_
          refine lv_iconst (pc := 36) (v := 0) hx hb dV_fixedOnesAreThere_36 (by decide) ?_
          exact W.zret (pc := 37) hx hb hr (rfl) (fun t ht hW => ⟨_, rfl, (Option.some.inj hf), ht.trans hH⟩) (fun q h => nomatch h) dV_fixedOnesAreThere_37
        · replace hf := hq_s hE18 hf
          have hm20 : (7, j19) ∈ dom := (hmy17 _ hE18)
          refine W.eq (g2 := F0 m 33 ls [.ref (ad 7 j19)]) rfl ?_
          refine lv_ifnonnull (pc := 33) (tgt := 38) hx hb dV_fixedOnesAreThere_33 rfl ?_
          refine lv_iinc (pc := 38) (v := (p1 + 1)) hx hb dV_fixedOnesAreThere_38 hl (k := 1) rfl (by rfl) (by decide) rfl (fun ls hl => ?_)
          have hl : lv_has ls 4 [(2, .int (p1 + 1)), (3, .int (xI σ 22 j2 (p1).toNatClampNeg)), (0, .ref (ad 0 0)), (1, .ref (ad 5 j2))] := hl
          refine lv_goto (pc := 41) (tgt := 2) hx hb dV_fixedOnesAreThere_41 rfl ?_
          have hl := lv_sub hl (l' := [(2, .int (p1 + 1)), (0, .ref (ad 0 0)), (1, .ref (ad 5 j2))]) [0, 2, 3] rfl
          exact ih5 ((p1 + 1), j2, ls) ⟨hl, hm3⟩ hf
  · rintro ⟨p1, j2, ls⟩ ⟨hl, hm3⟩ hf
    dsimp only at hl hm3 hf ⊢
    rw [hkx4] at hf
    have hl : lv_has ls 4 [(2, .int p1), (0, .ref (ad 0 0)), (1, .ref (ad 5 j2))] := hl
    refine lv_iconst (pc := 44) (v := 1) hx hb dV_fixedOnesAreThere_44 (by decide) ?_
    exact W.zret (pc := 45) hx hb hr (rfl) (fun t ht hW => ⟨_, rfl, (Option.some.inj hf), ht.trans hH⟩) (fun q h => nomatch h) dV_fixedOnesAreThere_45
def V_isInABaseline_L2 (n : Nat) (σ : hT) (kx4 : Int32 → Int32 → Int32 → Option (Int32)) : Nat → Int32 → Int32 → Int32 → Option (Int32)
  | 0, _, _, _ => none
  | k + 1, p1, p2, p3 => if 10 ≤ p1 then kx4 p1 p2 p3 else if in9 p1 10 then hq (xR σ 10 0 (p1).toNatClampNeg) (V_isInABaseline_L2 n σ kx4 k (p1 + 1) p2 p3) fun j11 => if in9 p1 10 then hq (xR σ 10 0 (p1).toNatClampNeg) (none) fun j17 => if in9 p2 24 then if (xI σ 11 j17 (p2).toNatClampNeg) = p3 then some 1 else V_isInABaseline_L2 n σ kx4 k (p1 + 1) p2 p3 else none else none else none
def V_isInABaseline (n : Nat) (σ : hT) (a1 : Int32) (a2 : Int32) : Option (Int32) := lt9 (α := Int32 → Int32 → Int32 → Option (Int32)) (fun (p1 : Int32) (p2 : Int32) (p3 : Int32) => some 0) fun kx4 => V_isInABaseline_L2 n σ kx4 n 0 a1 a2
set_option maxHeartbeats 4000000 in
set_option maxRecDepth 100000 in
theorem t_V_isInABaseline (l : Launch) (dC : Nat → ClassId) (dI : Nat → Nat → Nat) (ad : Nat → Nat → Nat) (ca : Nat → Nat → ClassId) (dom : List (Nat × Nat)) (n : Nat) (σ : hT) (a1 : Int32) (a2 : Int32) (hm0 : (0, 0) ∈ dom) (hN : dom.Nodup) (hC : clo dom σ.2.2) (ρ : Int32) (hf : V_isInABaseline n σ a1 a2 = some ρ) : Met l yV_isInABaseline (.code yV_isInABaseline cV_isInABaseline 4 (some .boolean) :: aw) ({ frames := 0, cells := 0, slots := 0, locals := 0 }) (hR (dC, dI) ad ca dom σ [.ref (ad 0 0), .int a1, .int a2]) (vp_Si (fun r => r = ρ)) 0 0 (fun _ => False) := by
  refine Met.ofW (cc := cV_isInABaseline) (maxL := 4) (ret := (some .boolean)) (by decide) rfl ?_
  intro p e s m args below meth c s₁ B hml hv
  obtain ⟨rfl, hv⟩ := hv
  have hx := B.exec
  have hb := B.bytes
  have hr := B.returns
  have hts : ∀ w ∈ aw, w.before _ s = true := fun w h => atoms_spec (ws := (.code yV_isInABaseline cV_isInABaseline 4 (some .boolean) :: aw)) B.pre w (List.mem_cons_of_mem _ h)
  have hown : s.vm.findClass RV = some m.cls := findClass_of_methodNamed B.named
  have hlocks := B.notSynchronized
  obtain ⟨hP, hK, hG⟩ := hv
  obtain ⟨H, hH⟩ : ∃ H, H = s.heap := ⟨_, rfl⟩
  rw [← hH] at hP ⊢
  unfold V_isInABaseline at hf
  have hl := lv_entry ([.ref (ad 0 0), .int a1, .int a2]) (n := 4) (Nat.le_of_ble_eq_true rfl)
  rw [lg_entry_eq]
  generalize (lg_sl ([.ref (ad 0 0), .int a1, .int a2]) ++ List.replicate (4 - (lg_sl ([.ref (ad 0 0), .int a1, .int a2])).length) Slot.unset).toArray = ls at hl ⊢
  have hl : lv_has ls 4 [(0, .ref (ad 0 0)), (1, .int a1), (2, .int a2)] := hl
  refine lv_iconst (pc := 0) (v := 0) hx hb dV_isInABaseline_0 (by decide) ?_
  refine lv_istore_n (pc := 1) hx hb dV_isInABaseline_1 rfl hl (by decide) rfl (fun ls hl => ?_)
  have hl : lv_has ls 4 [(3, .int 0), (0, .ref (ad 0 0)), (1, .int a1), (2, .int a2)] := hl
  obtain ⟨kx4, hkx4, hf⟩ := lt_9 hf
  refine lpF (τ := (Int32) × (Int32) × (Int32) × (Array Slot)) (fun pc z => W p l e _ s m _ below meth c H ([]) 0 0 _ (F0 m pc z.2.2.2 [])) 2 40 (fun z => lv_has z.2.2.2 4 [(3, .int z.1), (0, .ref (ad 0 0)), (1, .int z.2.1), (2, .int z.2.2.1)]) (fun k z => V_isInABaseline_L2 n σ kx4 k z.1 z.2.1 z.2.2.1) (fun z => kx4 z.1 z.2.1 z.2.2.1) _ (fun z => rfl) ?_ ?_ n (0, a1, a2, ls) hl hf
  · rintro k ⟨p1, p2, p3, ls⟩ hl hf ih5 hXkx4
    dsimp only at hl hf ih5 hXkx4 ⊢
    unfold V_isInABaseline_L2 at hf
    have hl : lv_has ls 4 [(3, .int p1), (0, .ref (ad 0 0)), (1, .int p2), (2, .int p3)] := hl
    refine lv_iload_n (pc := 2) hx hb dV_isInABaseline_2 rfl (lv_at hl 0 rfl) ?_
    refine lv_bipush (pc := 3) (v := 10) hx hb dV_isInABaseline_3 (by decide) ?_
    refine lv_icmp_ge (pc := 5) (tgt := 40) hx hb dV_isInABaseline_5 rfl (fun h6 => ?_) (fun h6 => ?_)
    · replace hf := ite_t h6 hf
      have hl := lv_sub hl (l' := [(3, .int p1), (0, .ref (ad 0 0)), (1, .int p2), (2, .int p3)]) [0, 1, 2, 3] rfl
      exact hXkx4 (p1, p2, p3, ls) hl hf
    · replace hf := ite_f h6 hf
      refine lv_aload_n (pc := 8) hx hb dV_isInABaseline_8 rfl (lv_at hl 1 rfl) ?_
      obtain ⟨q7, hq7, eq7⟩ := at_0 (ad := ad) (ca := ca) (σ := σ) hm0
      refine va_get (D := (dC, dI)) (cl := kCl) (C := RV) (T := TV) (N := 9) (pc := 9) hx hb hts inV hown hK.1 hP q7 eq7 rfl 4 (by decide) (hts _ wd_322) (fun _ h9 => h9) rfl dV_isInABaseline_9 ?_
      refine lv_iload_n (pc := 12) hx hb dV_isInABaseline_12 rfl (lv_at hl 0 rfl) ?_
      obtain ⟨hv8, hf⟩ := ite_s hf
      obtain ⟨q9, hq9, eq9⟩ := at_10 (ad := ad) (ca := ca) (σ := σ) (cm_0_4 hC hm0)
      refine va_aldq (D := (dC, dI)) (cl := kCl) (pc := 13) hx hb (hK.2 10 0 (.object "DrawingVault$Baseline") (cm_0_4 hC hm0) rfl) hP q9 0 eq9 rfl (hv8) dV_isInABaseline_13 ?_
      refine W.eq (g2 := F0 m 14 ls [va_re (ad 1) (xR σ 10 0 (p1).toNatClampNeg)]) rfl ?_
      rcases hE10 : xR σ 10 0 (p1).toNatClampNeg with _ | j11
      · replace hf := hq_n hE10 hf
        refine W.eq (g2 := F0 m 14 ls [.null]) rfl ?_
        refine lv_ifnullN (pc := 14) (tgt := 34) hx hb dV_isInABaseline_14 rfl ?_
        refine lv_iinc (pc := 34) (v := (p1 + 1)) hx hb dV_isInABaseline_34 hl (k := 0) rfl (by rfl) (by decide) rfl (fun ls hl => ?_)
        have hl : lv_has ls 4 [(3, .int (p1 + 1)), (0, .ref (ad 0 0)), (1, .int p2), (2, .int p3)] := hl
        refine lv_goto (pc := 37) (tgt := 2) hx hb dV_isInABaseline_37 rfl ?_
        have hl := lv_sub hl (l' := [(3, .int (p1 + 1)), (0, .ref (ad 0 0)), (1, .int p2), (2, .int p3)]) [0, 1, 2, 3] rfl
        exact ih5 ((p1 + 1), p2, p3, ls) hl hf
      · replace hf := hq_s hE10 hf
        have hm12 : (1, j11) ∈ dom := (cr_10 hC (cm_0_4 hC hm0) hE10)
        refine W.eq (g2 := F0 m 14 ls [.ref (ad 1 j11)]) rfl ?_
        refine lv_ifnull (pc := 14) hx hb dV_isInABaseline_14 ?_
        refine lv_aload_n (pc := 17) hx hb dV_isInABaseline_17 rfl (lv_at hl 1 rfl) ?_
        obtain ⟨q13, hq13, eq13⟩ := at_0 (ad := ad) (ca := ca) (σ := σ) hm0
        refine va_get (D := (dC, dI)) (cl := kCl) (C := RV) (T := TV) (N := 9) (pc := 18) hx hb hts inV hown hK.1 hP q13 eq13 rfl 4 (by decide) (hts _ wd_322) (fun _ h9 => h9) rfl dV_isInABaseline_18 ?_
        refine lv_iload_n (pc := 21) hx hb dV_isInABaseline_21 rfl (lv_at hl 0 rfl) ?_
        obtain ⟨hv14, hf⟩ := ite_s hf
        obtain ⟨q15, hq15, eq15⟩ := at_10 (ad := ad) (ca := ca) (σ := σ) (cm_0_4 hC hm0)
        refine va_aldq (D := (dC, dI)) (cl := kCl) (pc := 22) hx hb (hK.2 10 0 (.object "DrawingVault$Baseline") (cm_0_4 hC hm0) rfl) hP q15 0 eq15 rfl (hv14) dV_isInABaseline_22 ?_
        refine W.eq (g2 := F0 m 23 ls [va_re (ad 1) (xR σ 10 0 (p1).toNatClampNeg)]) rfl ?_
        rcases hE16 : xR σ 10 0 (p1).toNatClampNeg with _ | j17
        · replace hf := hq_n hE16 hf
          refine W.eq (g2 := F0 m 23 ls [.null]) rfl ?_
          exact nomatch hf
        · replace hf := hq_s hE16 hf
          have hm18 : (1, j17) ∈ dom := (cr_10 hC (cm_0_4 hC hm0) hE16)
          refine W.eq (g2 := F0 m 23 ls [.ref (ad 1 j17)]) rfl ?_
          obtain ⟨q19, hq19, eq19⟩ := at_1 (ad := ad) (ca := ca) (σ := σ) hm18
          refine va_get (D := (dC, dI)) (cl := kCl) (C := RB) (T := TB) (N := 3) (pc := 23) hx hb hts inB hown hK.1 hP q19 eq19 rfl 0 (by decide) (hts _ wd_343) (fun _ h9 => h9) rfl dV_isInABaseline_23 ?_
          refine lv_iload_n (pc := 26) hx hb dV_isInABaseline_26 rfl (lv_at hl 2 rfl) ?_
          obtain ⟨hv20, hf⟩ := ite_s hf
          obtain ⟨q21, hq21, eq21⟩ := at_11 (ad := ad) (ca := ca) (σ := σ) (cm_1_0 hC hm18)
          refine va_iald (D := (dC, dI)) (cl := kCl) (pc := 27) hx hb (hK.2 11 j17 .int (cm_1_0 hC hm18) rfl) hP q21 0 eq21 rfl (hv20) dV_isInABaseline_27 ?_
          refine W.eq (g2 := F0 m 28 ls [.int (xI σ 11 j17 (p2).toNatClampNeg)]) rfl ?_
          refine lv_iload_n (pc := 28) hx hb dV_isInABaseline_28 rfl (lv_at hl 3 rfl) ?_
          refine lv_icmp_ne (pc := 29) (tgt := 34) hx hb dV_isInABaseline_29 rfl (fun h22 => ?_) (fun h22 => ?_)
          · replace hf := ite_f h22 hf
            refine lv_iinc (pc := 34) (v := (p1 + 1)) hx hb dV_isInABaseline_34 hl (k := 0) rfl (by rfl) (by decide) rfl (fun ls hl => ?_)
            have hl : lv_has ls 4 [(3, .int (p1 + 1)), (0, .ref (ad 0 0)), (1, .int p2), (2, .int p3)] := hl
            refine lv_goto (pc := 37) (tgt := 2) hx hb dV_isInABaseline_37 rfl ?_
            have hl := lv_sub hl (l' := [(3, .int (p1 + 1)), (0, .ref (ad 0 0)), (1, .int p2), (2, .int p3)]) [0, 1, 2, 3] rfl
            exact ih5 ((p1 + 1), p2, p3, ls) hl hf
          · replace hf := ite_t h22 hf
            refine lv_iconst (pc := 32) (v := 1) hx hb dV_isInABaseline_32 (by decide) ?_
            exact W.zret (pc := 33) hx hb hr (rfl) (fun t ht hW => ⟨_, rfl, (Option.some.inj hf), ht.trans hH⟩) (fun q h => nomatch h) dV_isInABaseline_33
  · rintro ⟨p1, p2, p3, ls⟩ hl hf
    dsimp only at hl hf ⊢
    rw [hkx4] at hf
    have hl : lv_has ls 4 [(3, .int p1), (0, .ref (ad 0 0)), (1, .int p2), (2, .int p3)] := hl
    refine lv_iconst (pc := 40) (v := 0) hx hb dV_isInABaseline_40 (by decide) ?_
    exact W.zret (pc := 41) hx hb hr (rfl) (fun t ht hW => ⟨_, rfl, (Option.some.inj hf), ht.trans hH⟩) (fun q h => nomatch h) dV_isInABaseline_41
def V_isFixedByAReleasedOne_L13 (n : Nat) (σ : hT) (kx12 : Int32 → Int32 → Int32 → Int32 → Option (Int32)) : Nat → Int32 → Int32 → Int32 → Int32 → Option (Int32)
  | 0, _, _, _, _ => none
  | k + 1, p8, p9, p10, p11 => if in9 p9 24 then hq (xR σ 9 0 (p9).toNatClampNeg) (none) fun j18 => if (xI σ 701 j18 0) ≤ p8 then kx12 p8 p9 p10 p11 else if in9 p9 24 then hq (xR σ 9 0 (p9).toNatClampNeg) (none) fun j26 => if in9 p8 12 then hq (xR σ 23 j26 (p8).toNatClampNeg) (none) fun j32 => if (xI σ 802 j32 0) = 2 then Option.bind (C_names n σ (3 * j32 + 2) p10 p11) fun y38 => if y38 = 0 then V_isFixedByAReleasedOne_L13 n σ kx12 k (p8 + 1) p9 p10 p11 else some 1 else V_isFixedByAReleasedOne_L13 n σ kx12 k (p8 + 1) p9 p10 p11 else none else none else none
def V_isFixedByAReleasedOne_L2 (n : Nat) (σ : hT) (kx4 : Int32 → Int32 → Int32 → Option (Int32)) : Nat → Int32 → Int32 → Int32 → Option (Int32)
  | 0, _, _, _ => none
  | k + 1, p1, p2, p3 => if (xI σ 102 0 0) ≤ p1 then kx4 p1 p2 p3 else lt9 (α := Int32 → Int32 → Int32 → Int32 → Option (Int32)) (fun (p8 : Int32) (p9 : Int32) (p10 : Int32) (p11 : Int32) => V_isFixedByAReleasedOne_L2 n σ kx4 k (p9 + 1) p10 p11) fun kx12 => V_isFixedByAReleasedOne_L13 n σ kx12 n 0 p1 p2 p3
def V_isFixedByAReleasedOne (n : Nat) (σ : hT) (a1 : Int32) (a2 : Int32) : Option (Int32) := lt9 (α := Int32 → Int32 → Int32 → Option (Int32)) (fun (p1 : Int32) (p2 : Int32) (p3 : Int32) => some 0) fun kx4 => V_isFixedByAReleasedOne_L2 n σ kx4 n 0 a1 a2
set_option maxHeartbeats 4000000 in
set_option maxRecDepth 100000 in
theorem t_V_isFixedByAReleasedOne (l : Launch) (dC : Nat → ClassId) (dI : Nat → Nat → Nat) (ad : Nat → Nat → Nat) (ca : Nat → Nat → ClassId) (dom : List (Nat × Nat)) (n : Nat) (σ : hT) (a1 : Int32) (a2 : Int32) (hm0 : (0, 0) ∈ dom) (hN : dom.Nodup) (hC : clo dom σ.2.2) (ρ : Int32) (hf : V_isFixedByAReleasedOne n σ a1 a2 = some ρ) : Met l yV_isFixedByAReleasedOne (.code yV_isFixedByAReleasedOne cV_isFixedByAReleasedOne 6 (some .boolean) :: aw) ({ frames := 1, cells := 0, slots := 0, locals := 23 }) (hR (dC, dI) ad ca dom σ [.ref (ad 0 0), .int a1, .int a2]) (vp_Si (fun r => r = ρ)) 0 0 (fun _ => False) := by
  refine Met.ofW (cc := cV_isFixedByAReleasedOne) (maxL := 6) (ret := (some .boolean)) (by decide) rfl ?_
  intro p e s m args below meth c s₁ B hml hv
  obtain ⟨rfl, hv⟩ := hv
  have hx := B.exec
  have hb := B.bytes
  have hr := B.returns
  have hts : ∀ w ∈ aw, w.before _ s = true := fun w h => atoms_spec (ws := (.code yV_isFixedByAReleasedOne cV_isFixedByAReleasedOne 6 (some .boolean) :: aw)) B.pre w (List.mem_cons_of_mem _ h)
  have hown : s.vm.findClass RV = some m.cls := findClass_of_methodNamed B.named
  have hlocks := B.notSynchronized
  obtain ⟨hP, hK, hG⟩ := hv
  obtain ⟨H, hH⟩ : ∃ H, H = s.heap := ⟨_, rfl⟩
  rw [← hH] at hP ⊢
  unfold V_isFixedByAReleasedOne at hf
  have hl := lv_entry ([.ref (ad 0 0), .int a1, .int a2]) (n := 6) (Nat.le_of_ble_eq_true rfl)
  rw [lg_entry_eq]
  generalize (lg_sl ([.ref (ad 0 0), .int a1, .int a2]) ++ List.replicate (6 - (lg_sl ([.ref (ad 0 0), .int a1, .int a2])).length) Slot.unset).toArray = ls at hl ⊢
  have hl : lv_has ls 6 [(0, .ref (ad 0 0)), (1, .int a1), (2, .int a2)] := hl
  refine lv_iconst (pc := 0) (v := 0) hx hb dV_isFixedByAReleasedOne_0 (by decide) ?_
  refine lv_istore_n (pc := 1) hx hb dV_isFixedByAReleasedOne_1 rfl hl (by decide) rfl (fun ls hl => ?_)
  have hl : lv_has ls 6 [(3, .int 0), (0, .ref (ad 0 0)), (1, .int a1), (2, .int a2)] := hl
  obtain ⟨kx4, hkx4, hf⟩ := lt_9 hf
  refine lpF (τ := (Int32) × (Int32) × (Int32) × (Array Slot)) (fun pc z => W p l e _ s m _ below meth c H ([]) 0 0 _ (F0 m pc z.2.2.2 [])) 2 77 (fun z => lv_has z.2.2.2 6 [(3, .int z.1), (0, .ref (ad 0 0)), (1, .int z.2.1), (2, .int z.2.2.1)]) (fun k z => V_isFixedByAReleasedOne_L2 n σ kx4 k z.1 z.2.1 z.2.2.1) (fun z => kx4 z.1 z.2.1 z.2.2.1) _ (fun z => rfl) ?_ ?_ n (0, a1, a2, ls) hl hf
  · rintro k ⟨p1, p2, p3, ls⟩ hl hf ih5 hXkx4
    dsimp only at hl hf ih5 hXkx4 ⊢
    unfold V_isFixedByAReleasedOne_L2 at hf
    have hl : lv_has ls 6 [(3, .int p1), (0, .ref (ad 0 0)), (1, .int p2), (2, .int p3)] := hl
    refine lv_iload_n (pc := 2) hx hb dV_isFixedByAReleasedOne_2 rfl (lv_at hl 0 rfl) ?_
    refine lv_aload_n (pc := 3) hx hb dV_isFixedByAReleasedOne_3 rfl (lv_at hl 1 rfl) ?_
    obtain ⟨q6, hq6, eq6⟩ := at_0 (ad := ad) (ca := ca) (σ := σ) hm0
    refine va_get (D := (dC, dI)) (cl := kCl) (C := RV) (T := TV) (N := 9) (pc := 4) hx hb hts inV hown hK.1 hP q6 eq6 rfl 2 (by decide) (hts _ wd_314) (fun _ h9 => h9) rfl dV_isFixedByAReleasedOne_4 ?_
    refine lv_icmp_ge (pc := 7) (tgt := 77) hx hb dV_isFixedByAReleasedOne_7 rfl (fun h7 => ?_) (fun h7 => ?_)
    · replace hf := ite_t h7 hf
      have hl := lv_sub hl (l' := [(3, .int p1), (0, .ref (ad 0 0)), (1, .int p2), (2, .int p3)]) [0, 1, 2, 3] rfl
      exact hXkx4 (p1, p2, p3, ls) hl hf
    · replace hf := ite_f h7 hf
      refine lv_iconst (pc := 10) (v := 0) hx hb dV_isFixedByAReleasedOne_10 (by decide) ?_
      refine lv_istore (pc := 11) hx hb dV_isFixedByAReleasedOne_11 hl (by decide) rfl (fun ls hl => ?_)
      have hl : lv_has ls 6 [(4, .int 0), (3, .int p1), (0, .ref (ad 0 0)), (1, .int p2), (2, .int p3)] := hl
      obtain ⟨kx12, hkx12, hf⟩ := lt_9 hf
      refine lpF (τ := (Int32) × (Int32) × (Int32) × (Int32) × (Array Slot)) (fun pc z => W p l e _ s m _ below meth c H ([]) 0 0 _ (F0 m pc z.2.2.2.2 [])) 13 71 (fun z => lv_has z.2.2.2.2 6 [(4, .int z.1), (3, .int z.2.1), (0, .ref (ad 0 0)), (1, .int z.2.2.1), (2, .int z.2.2.2.1)]) (fun k z => V_isFixedByAReleasedOne_L13 n σ kx12 k z.1 z.2.1 z.2.2.1 z.2.2.2.1) (fun z => kx12 z.1 z.2.1 z.2.2.1 z.2.2.2.1) _ (fun z => rfl) ?_ ?_ n (0, p1, p2, p3, ls) hl hf
      · rintro k ⟨p8, p9, p10, p11, ls⟩ hl hf ih13 hXkx12
        dsimp only at hl hf ih13 hXkx12 ⊢
        unfold V_isFixedByAReleasedOne_L13 at hf
        have hl : lv_has ls 6 [(4, .int p8), (3, .int p9), (0, .ref (ad 0 0)), (1, .int p10), (2, .int p11)] := hl
        refine lv_iload (pc := 13) hx hb dV_isFixedByAReleasedOne_13 (lv_at hl 0 rfl) ?_
        refine lv_aload_n (pc := 15) hx hb dV_isFixedByAReleasedOne_15 rfl (lv_at hl 2 rfl) ?_
        obtain ⟨q14, hq14, eq14⟩ := at_0 (ad := ad) (ca := ca) (σ := σ) hm0
        refine va_get (D := (dC, dI)) (cl := kCl) (C := RV) (T := TV) (N := 9) (pc := 16) hx hb hts inV hown hK.1 hP q14 eq14 rfl 1 (by decide) (hts _ wd_315) (fun _ h9 => h9) rfl dV_isFixedByAReleasedOne_16 ?_
        refine lv_iload_n (pc := 19) hx hb dV_isFixedByAReleasedOne_19 rfl (lv_at hl 1 rfl) ?_
        obtain ⟨hv15, hf⟩ := ite_s hf
        obtain ⟨q16, hq16, eq16⟩ := at_9 (ad := ad) (ca := ca) (σ := σ) (cm_0_1 hC hm0)
        refine va_aldq (D := (dC, dI)) (cl := kCl) (pc := 20) hx hb (hK.2 9 0 (.object "DrawingVault$Drawing") (cm_0_1 hC hm0) rfl) hP q16 0 eq16 rfl (hv15) dV_isFixedByAReleasedOne_20 ?_
        refine W.eq (g2 := F0 m 21 ls [va_re (ad 6) (xR σ 9 0 (p9).toNatClampNeg), .int p8]) rfl ?_
        rcases hE17 : xR σ 9 0 (p9).toNatClampNeg with _ | j18
        · replace hf := hq_n hE17 hf
          refine W.eq (g2 := F0 m 21 ls [.null, .int p8]) rfl ?_
          exact nomatch hf
        · replace hf := hq_s hE17 hf
          have hm19 : (6, j18) ∈ dom := (cr_9 hC (cm_0_1 hC hm0) hE17)
          refine W.eq (g2 := F0 m 21 ls [.ref (ad 6 j18), .int p8]) rfl ?_
          obtain ⟨q20, hq20, eq20⟩ := at_6 (ad := ad) (ca := ca) (σ := σ) hm19
          refine va_get (D := (dC, dI)) (cl := kCl) (C := RD) (T := TD) (N := 5) (pc := 21) hx hb hts inD hown hK.1 hP q20 eq20 rfl 1 (by decide) (hts _ wd_344) (fun _ h9 => h9) rfl dV_isFixedByAReleasedOne_21 ?_
          refine lv_icmp_ge (pc := 24) (tgt := 71) hx hb dV_isFixedByAReleasedOne_24 rfl (fun h21 => ?_) (fun h21 => ?_)
          · replace hf := ite_t h21 hf
            have hl := lv_sub hl (l' := [(4, .int p8), (3, .int p9), (0, .ref (ad 0 0)), (1, .int p10), (2, .int p11)]) [0, 1, 2, 3, 4] rfl
            exact hXkx12 (p8, p9, p10, p11, ls) hl hf
          · replace hf := ite_f h21 hf
            refine lv_aload_n (pc := 27) hx hb dV_isFixedByAReleasedOne_27 rfl (lv_at hl 2 rfl) ?_
            obtain ⟨q22, hq22, eq22⟩ := at_0 (ad := ad) (ca := ca) (σ := σ) hm0
            refine va_get (D := (dC, dI)) (cl := kCl) (C := RV) (T := TV) (N := 9) (pc := 28) hx hb hts inV hown hK.1 hP q22 eq22 rfl 1 (by decide) (hts _ wd_315) (fun _ h9 => h9) rfl dV_isFixedByAReleasedOne_28 ?_
            refine lv_iload_n (pc := 31) hx hb dV_isFixedByAReleasedOne_31 rfl (lv_at hl 1 rfl) ?_
            obtain ⟨hv23, hf⟩ := ite_s hf
            obtain ⟨q24, hq24, eq24⟩ := at_9 (ad := ad) (ca := ca) (σ := σ) (cm_0_1 hC hm0)
            refine va_aldq (D := (dC, dI)) (cl := kCl) (pc := 32) hx hb (hK.2 9 0 (.object "DrawingVault$Drawing") (cm_0_1 hC hm0) rfl) hP q24 0 eq24 rfl (hv23) dV_isFixedByAReleasedOne_32 ?_
            refine W.eq (g2 := F0 m 33 ls [va_re (ad 6) (xR σ 9 0 (p9).toNatClampNeg)]) rfl ?_
            rcases hE25 : xR σ 9 0 (p9).toNatClampNeg with _ | j26
            · replace hf := hq_n hE25 hf
              refine W.eq (g2 := F0 m 33 ls [.null]) rfl ?_
              exact nomatch hf
            · replace hf := hq_s hE25 hf
              have hm27 : (6, j26) ∈ dom := (cr_9 hC (cm_0_1 hC hm0) hE25)
              refine W.eq (g2 := F0 m 33 ls [.ref (ad 6 j26)]) rfl ?_
              obtain ⟨q28, hq28, eq28⟩ := at_6 (ad := ad) (ca := ca) (σ := σ) hm27
              refine va_get (D := (dC, dI)) (cl := kCl) (C := RD) (T := TD) (N := 5) (pc := 33) hx hb hts inD hown hK.1 hP q28 eq28 rfl 0 (by decide) (hts _ wd_321) (fun _ h9 => h9) rfl dV_isFixedByAReleasedOne_33 ?_
              refine lv_iload (pc := 36) hx hb dV_isFixedByAReleasedOne_36 (lv_at hl 0 rfl) ?_
              obtain ⟨hv29, hf⟩ := ite_s hf
              obtain ⟨q30, hq30, eq30⟩ := at_23 (ad := ad) (ca := ca) (σ := σ) (cm_6_0 hC hm27)
              refine va_aldq (D := (dC, dI)) (cl := kCl) (pc := 38) hx hb (hK.2 23 j26 (.object "DrawingVault$Revision") (cm_6_0 hC hm27) rfl) hP q30 0 eq30 rfl (hv29) dV_isFixedByAReleasedOne_38 ?_
              refine W.eq (g2 := F0 m 39 ls [va_re (ad 7) (xR σ 23 j26 (p8).toNatClampNeg)]) rfl ?_
              rcases hE31 : xR σ 23 j26 (p8).toNatClampNeg with _ | j32
              · replace hf := hq_n hE31 hf
                refine W.eq (g2 := F0 m 39 ls [.null]) rfl ?_
                refine lv_astoreN (pc := 39) hx hb dV_isFixedByAReleasedOne_39 hl (by decide) rfl (fun ls hl => ?_)
                have hl : lv_has ls 6 [(5, .null), (4, .int p8), (3, .int p9), (0, .ref (ad 0 0)), (1, .int p10), (2, .int p11)] := hl
                refine lv_aloadN (pc := 41) hx hb dV_isFixedByAReleasedOne_41 (lv_at hl 0 rfl) ?_
                exact nomatch hf
              · replace hf := hq_s hE31 hf
                have hm33 : (7, j32) ∈ dom := (cr_23 hC (cm_6_0 hC hm27) hE31)
                refine W.eq (g2 := F0 m 39 ls [.ref (ad 7 j32)]) rfl ?_
                refine lv_astore (pc := 39) hx hb dV_isFixedByAReleasedOne_39 hl (by decide) rfl (fun ls hl => ?_)
                have hl : lv_has ls 6 [(5, .ref (ad 7 j32)), (4, .int p8), (3, .int p9), (0, .ref (ad 0 0)), (1, .int p10), (2, .int p11)] := hl
                refine lv_aload (pc := 41) hx hb dV_isFixedByAReleasedOne_41 (lv_at hl 0 rfl) ?_
                obtain ⟨q34, hq34, eq34⟩ := at_7 (ad := ad) (ca := ca) (σ := σ) hm33
                refine va_get (D := (dC, dI)) (cl := kCl) (C := RS) (T := TS) (N := 3) (pc := 43) hx hb hts inS hown hK.1 hP q34 eq34 rfl 2 (by decide) (hts _ wd_327) (fun _ h9 => h9) rfl dV_isFixedByAReleasedOne_43 ?_
                refine lv_iconst (pc := 46) (v := 2) hx hb dV_isFixedByAReleasedOne_46 (by decide) ?_
                refine lv_icmp_ne (pc := 47) (tgt := 65) hx hb dV_isFixedByAReleasedOne_47 rfl (fun h35 => ?_) (fun h35 => ?_)
                · replace hf := ite_f h35 hf
                  refine lv_iinc (pc := 65) (v := (p8 + 1)) hx hb dV_isFixedByAReleasedOne_65 hl (k := 1) rfl (by rfl) (by decide) rfl (fun ls hl => ?_)
                  have hl : lv_has ls 6 [(4, .int (p8 + 1)), (5, .ref (ad 7 j32)), (3, .int p9), (0, .ref (ad 0 0)), (1, .int p10), (2, .int p11)] := hl
                  refine lv_goto (pc := 68) (tgt := 13) hx hb dV_isFixedByAReleasedOne_68 rfl ?_
                  have hl := lv_sub hl (l' := [(4, .int (p8 + 1)), (3, .int p9), (0, .ref (ad 0 0)), (1, .int p10), (2, .int p11)]) [0, 2, 3, 4, 5] rfl
                  exact ih13 ((p8 + 1), p9, p10, p11, ls) hl hf
                · replace hf := ite_t h35 hf
                  refine lv_aload (pc := 50) hx hb dV_isFixedByAReleasedOne_50 (lv_at hl 0 rfl) ?_
                  obtain ⟨q36, hq36, eq36⟩ := at_7 (ad := ad) (ca := ca) (σ := σ) hm33
                  refine va_get (D := (dC, dI)) (cl := kCl) (C := RS) (T := TS) (N := 3) (pc := 52) hx hb hts inS hown hK.1 hP q36 eq36 rfl 0 (by decide) (hts _ wd_345) (fun _ h9 => h9) rfl dV_isFixedByAReleasedOne_52 ?_
                  refine lv_iload_n (pc := 55) hx hb dV_isFixedByAReleasedOne_55 rfl (lv_at hl 4 rfl) ?_
                  refine lv_iload_n (pc := 56) hx hb dV_isFixedByAReleasedOne_56 rfl (lv_at hl 5 rfl) ?_
                  obtain ⟨q37, hq37, eq37⟩ := at_5 (ad := ad) (ca := ca) (σ := σ) (cm_7_0 hC hm33)
                  obtain ⟨y38, hy38, hf⟩ := ob hf
                  refine vp_callSi (pc := 57) (W.runV (As := [.int p10, .int p11]) (rest := []) ⟨hx, hb, hml, hown, hts⟩ (t_C_names l dC dI ad ca dom n σ (3 * j32 + 2) p10 p11 (cm_7_0 hC hm33) hN hC y38 hy38) (cwV 2 hts (gV wd_347 wd_348 wd_349 wd_228 wd_346) rfl rfl rfl (by decide +kernel) ⟨Nat.le_of_ble_eq_true rfl, Nat.le_of_ble_eq_true rfl⟩) ⟨hR_blind, va_recv (q := (RC, TC, 5)) (q0 := q37) (ci := 5) hK.1 hP rfl eq37, hR_pre hP hK hG⟩ rfl rfl hl.1 rfl (lv_room (Nat.le_of_ble_eq_true rfl)) dV_isFixedByAReleasedOne_57 ⟨Nat.le_of_ble_eq_true rfl, Nat.le_of_ble_eq_true rfl⟩) (fun r9 hr9 => ?_)
                  refine W.eq (g2 := F0 m 60 ls [.int y38]) (by rw [hr9]) ?_
                  refine lv_if_eq (pc := 60) (tgt := 65) hx hb dV_isFixedByAReleasedOne_60 rfl (fun h39 => ?_) (fun h39 => ?_)
                  · replace hf := ite_t h39 hf
                    refine lv_iinc (pc := 65) (v := (p8 + 1)) hx hb dV_isFixedByAReleasedOne_65 hl (k := 1) rfl (by rfl) (by decide) rfl (fun ls hl => ?_)
                    have hl : lv_has ls 6 [(4, .int (p8 + 1)), (5, .ref (ad 7 j32)), (3, .int p9), (0, .ref (ad 0 0)), (1, .int p10), (2, .int p11)] := hl
                    refine lv_goto (pc := 68) (tgt := 13) hx hb dV_isFixedByAReleasedOne_68 rfl ?_
                    have hl := lv_sub hl (l' := [(4, .int (p8 + 1)), (3, .int p9), (0, .ref (ad 0 0)), (1, .int p10), (2, .int p11)]) [0, 2, 3, 4, 5] rfl
                    exact ih13 ((p8 + 1), p9, p10, p11, ls) hl hf
                  · replace hf := ite_f h39 hf
                    refine lv_iconst (pc := 63) (v := 1) hx hb dV_isFixedByAReleasedOne_63 (by decide) ?_
                    exact W.zret (pc := 64) hx hb hr (rfl) (fun t ht hW => ⟨_, rfl, (Option.some.inj hf), ht.trans hH⟩) (fun q h => nomatch h) dV_isFixedByAReleasedOne_64
      · rintro ⟨p8, p9, p10, p11, ls⟩ hl hf
        dsimp only at hl hf ⊢
        rw [hkx12] at hf
        have hl : lv_has ls 6 [(4, .int p8), (3, .int p9), (0, .ref (ad 0 0)), (1, .int p10), (2, .int p11)] := hl
        refine lv_iinc (pc := 71) (v := (p9 + 1)) hx hb dV_isFixedByAReleasedOne_71 hl (k := 1) rfl (by rfl) (by decide) rfl (fun ls hl => ?_)
        have hl : lv_has ls 6 [(3, .int (p9 + 1)), (4, .int p8), (0, .ref (ad 0 0)), (1, .int p10), (2, .int p11)] := hl
        refine lv_goto (pc := 74) (tgt := 2) hx hb dV_isFixedByAReleasedOne_74 rfl ?_
        have hl := lv_sub hl (l' := [(3, .int (p9 + 1)), (0, .ref (ad 0 0)), (1, .int p10), (2, .int p11)]) [0, 2, 3, 4] rfl
        exact ih5 ((p9 + 1), p10, p11, ls) hl hf
  · rintro ⟨p1, p2, p3, ls⟩ hl hf
    dsimp only at hl hf ⊢
    rw [hkx4] at hf
    have hl : lv_has ls 6 [(3, .int p1), (0, .ref (ad 0 0)), (1, .int p2), (2, .int p3)] := hl
    refine lv_iconst (pc := 77) (v := 0) hx hb dV_isFixedByAReleasedOne_77 (by decide) ?_
    exact W.zret (pc := 78) hx hb hr (rfl) (fun t ht hW => ⟨_, rfl, (Option.some.inj hf), ht.trans hH⟩) (fun q h => nomatch h) dV_isFixedByAReleasedOne_78
def V_usersOfAny_L4 (n : Nat) (σ : hT) (kx4 : Int32 → Int32 → Int32 → Option (Int32)) : Nat → Int32 → Int32 → Int32 → Option (Int32)
  | 0, _, _, _ => none
  | k + 1, p1, p2, p3 => if (xI σ 102 0 0) ≤ p1 then kx4 p1 p2 p3 else if in9 p1 24 then hq (xR σ 9 0 (p1).toNatClampNeg) (none) fun j12 => Option.bind (D_targetBits n σ j12) fun y15 => if (y15 &&& p3) = 0 then V_usersOfAny_L4 n σ kx4 k (p1 + 1) p2 p3 else V_usersOfAny_L4 n σ kx4 k (p1 + 1) (p2 ||| (V_bit p1)) p3 else none
def V_usersOfAny (n : Nat) (σ : hT) (a1 : Int32) : Option (Int32) := lt9 (α := Int32 → Int32 → Int32 → Option (Int32)) (fun (p1 : Int32) (p2 : Int32) (p3 : Int32) => some p2) fun kx4 => V_usersOfAny_L4 n σ kx4 n 0 0 a1
set_option maxHeartbeats 4000000 in
set_option maxRecDepth 100000 in
theorem t_V_usersOfAny (l : Launch) (dC : Nat → ClassId) (dI : Nat → Nat → Nat) (ad : Nat → Nat → Nat) (ca : Nat → Nat → ClassId) (dom : List (Nat × Nat)) (n : Nat) (σ : hT) (a1 : Int32) (hm0 : (0, 0) ∈ dom) (hN : dom.Nodup) (hC : clo dom σ.2.2) (ρ : Int32) (hf : V_usersOfAny n σ a1 = some ρ) : Met l yV_usersOfAny (.code yV_usersOfAny cV_usersOfAny 4 (some .int) :: aw) ({ frames := 3, cells := 0, slots := 0, locals := 62 }) (hR (dC, dI) ad ca dom σ [.ref (ad 0 0), .int a1]) (vp_Si (fun r => r = ρ)) 0 0 (fun _ => False) := by
  refine Met.ofW (cc := cV_usersOfAny) (maxL := 4) (ret := (some .int)) (by decide) rfl ?_
  intro p e s m args below meth c s₁ B hml hv
  obtain ⟨rfl, hv⟩ := hv
  have hx := B.exec
  have hb := B.bytes
  have hr := B.returns
  have hts : ∀ w ∈ aw, w.before _ s = true := fun w h => atoms_spec (ws := (.code yV_usersOfAny cV_usersOfAny 4 (some .int) :: aw)) B.pre w (List.mem_cons_of_mem _ h)
  have hown : s.vm.findClass RV = some m.cls := findClass_of_methodNamed B.named
  have hlocks := B.notSynchronized
  obtain ⟨hP, hK, hG⟩ := hv
  obtain ⟨H, hH⟩ : ∃ H, H = s.heap := ⟨_, rfl⟩
  rw [← hH] at hP ⊢
  unfold V_usersOfAny at hf
  have hl := lv_entry ([.ref (ad 0 0), .int a1]) (n := 4) (Nat.le_of_ble_eq_true rfl)
  rw [lg_entry_eq]
  generalize (lg_sl ([.ref (ad 0 0), .int a1]) ++ List.replicate (4 - (lg_sl ([.ref (ad 0 0), .int a1])).length) Slot.unset).toArray = ls at hl ⊢
  have hl : lv_has ls 4 [(0, .ref (ad 0 0)), (1, .int a1)] := hl
  refine lv_iconst (pc := 0) (v := 0) hx hb dV_usersOfAny_0 (by decide) ?_
  refine lv_istore_n (pc := 1) hx hb dV_usersOfAny_1 rfl hl (by decide) rfl (fun ls hl => ?_)
  have hl : lv_has ls 4 [(2, .int 0), (0, .ref (ad 0 0)), (1, .int a1)] := hl
  refine lv_iconst (pc := 2) (v := 0) hx hb dV_usersOfAny_2 (by decide) ?_
  refine lv_istore_n (pc := 3) hx hb dV_usersOfAny_3 rfl hl (by decide) rfl (fun ls hl => ?_)
  have hl : lv_has ls 4 [(3, .int 0), (2, .int 0), (0, .ref (ad 0 0)), (1, .int a1)] := hl
  obtain ⟨kx4, hkx4, hf⟩ := lt_9 hf
  refine lpF (τ := (Int32) × (Int32) × (Int32) × (Array Slot)) (fun pc z => W p l e _ s m _ below meth c H ([]) 0 0 _ (F0 m pc z.2.2.2 [])) 4 39 (fun z => lv_has z.2.2.2 4 [(3, .int z.1), (2, .int z.2.1), (0, .ref (ad 0 0)), (1, .int z.2.2.1)]) (fun k z => V_usersOfAny_L4 n σ kx4 k z.1 z.2.1 z.2.2.1) (fun z => kx4 z.1 z.2.1 z.2.2.1) _ (fun z => rfl) ?_ ?_ n (0, 0, a1, ls) hl hf
  · rintro k ⟨p1, p2, p3, ls⟩ hl hf ih5 hXkx4
    dsimp only at hl hf ih5 hXkx4 ⊢
    unfold V_usersOfAny_L4 at hf
    have hl : lv_has ls 4 [(3, .int p1), (2, .int p2), (0, .ref (ad 0 0)), (1, .int p3)] := hl
    refine lv_iload_n (pc := 4) hx hb dV_usersOfAny_4 rfl (lv_at hl 0 rfl) ?_
    refine lv_aload_n (pc := 5) hx hb dV_usersOfAny_5 rfl (lv_at hl 2 rfl) ?_
    obtain ⟨q6, hq6, eq6⟩ := at_0 (ad := ad) (ca := ca) (σ := σ) hm0
    refine va_get (D := (dC, dI)) (cl := kCl) (C := RV) (T := TV) (N := 9) (pc := 6) hx hb hts inV hown hK.1 hP q6 eq6 rfl 2 (by decide) (hts _ wd_314) (fun _ h9 => h9) rfl dV_usersOfAny_6 ?_
    refine lv_icmp_ge (pc := 9) (tgt := 39) hx hb dV_usersOfAny_9 rfl (fun h7 => ?_) (fun h7 => ?_)
    · replace hf := ite_t h7 hf
      have hl := lv_sub hl (l' := [(3, .int p1), (2, .int p2), (0, .ref (ad 0 0)), (1, .int p3)]) [0, 1, 2, 3] rfl
      exact hXkx4 (p1, p2, p3, ls) hl hf
    · replace hf := ite_f h7 hf
      refine lv_aload_n (pc := 12) hx hb dV_usersOfAny_12 rfl (lv_at hl 2 rfl) ?_
      obtain ⟨q8, hq8, eq8⟩ := at_0 (ad := ad) (ca := ca) (σ := σ) hm0
      refine va_get (D := (dC, dI)) (cl := kCl) (C := RV) (T := TV) (N := 9) (pc := 13) hx hb hts inV hown hK.1 hP q8 eq8 rfl 1 (by decide) (hts _ wd_315) (fun _ h9 => h9) rfl dV_usersOfAny_13 ?_
      refine lv_iload_n (pc := 16) hx hb dV_usersOfAny_16 rfl (lv_at hl 0 rfl) ?_
      obtain ⟨hv9, hf⟩ := ite_s hf
      obtain ⟨q10, hq10, eq10⟩ := at_9 (ad := ad) (ca := ca) (σ := σ) (cm_0_1 hC hm0)
      refine va_aldq (D := (dC, dI)) (cl := kCl) (pc := 17) hx hb (hK.2 9 0 (.object "DrawingVault$Drawing") (cm_0_1 hC hm0) rfl) hP q10 0 eq10 rfl (hv9) dV_usersOfAny_17 ?_
      refine W.eq (g2 := F0 m 18 ls [va_re (ad 6) (xR σ 9 0 (p1).toNatClampNeg)]) rfl ?_
      rcases hE11 : xR σ 9 0 (p1).toNatClampNeg with _ | j12
      · replace hf := hq_n hE11 hf
        refine W.eq (g2 := F0 m 18 ls [.null]) rfl ?_
        exact nomatch hf
      · replace hf := hq_s hE11 hf
        have hm13 : (6, j12) ∈ dom := (cr_9 hC (cm_0_1 hC hm0) hE11)
        refine W.eq (g2 := F0 m 18 ls [.ref (ad 6 j12)]) rfl ?_
        obtain ⟨q14, hq14, eq14⟩ := at_6 (ad := ad) (ca := ca) (σ := σ) hm13
        obtain ⟨y15, hy15, hf⟩ := ob hf
        refine vp_callSi (pc := 18) (W.runV (As := []) (rest := []) ⟨hx, hb, hml, hown, hts⟩ (t_D_targetBits l dC dI ad ca dom n σ j12 hm13 hN hC y15 hy15) (cwV 0 hts (gV wd_351 wd_352 wd_353 wd_292 wd_350) rfl rfl rfl (by decide +kernel) ⟨Nat.le_of_ble_eq_true rfl, Nat.le_of_ble_eq_true rfl⟩) ⟨hR_blind, va_recv (q := (RD, TD, 5)) (q0 := q14) (ci := 6) hK.1 hP rfl eq14, hR_pre hP hK hG⟩ rfl rfl hl.1 rfl (lv_room (Nat.le_of_ble_eq_true rfl)) dV_usersOfAny_18 ⟨Nat.le_of_ble_eq_true rfl, Nat.le_of_ble_eq_true rfl⟩) (fun r9 hr9 => ?_)
        refine W.eq (g2 := F0 m 21 ls [.int y15]) (by rw [hr9]) ?_
        refine lv_iload_n (pc := 21) hx hb dV_usersOfAny_21 rfl (lv_at hl 3 rfl) ?_
        refine lv_iand (pc := 22) hx hb dV_usersOfAny_22 ?_
        refine lv_if_eq (pc := 23) (tgt := 33) hx hb dV_usersOfAny_23 rfl (fun h16 => ?_) (fun h16 => ?_)
        · replace hf := ite_t h16 hf
          refine lv_iinc (pc := 33) (v := (p1 + 1)) hx hb dV_usersOfAny_33 hl (k := 0) rfl (by rfl) (by decide) rfl (fun ls hl => ?_)
          have hl : lv_has ls 4 [(3, .int (p1 + 1)), (2, .int p2), (0, .ref (ad 0 0)), (1, .int p3)] := hl
          refine lv_goto (pc := 36) (tgt := 4) hx hb dV_usersOfAny_36 rfl ?_
          have hl := lv_sub hl (l' := [(3, .int (p1 + 1)), (2, .int p2), (0, .ref (ad 0 0)), (1, .int p3)]) [0, 1, 2, 3] rfl
          exact ih5 ((p1 + 1), p2, p3, ls) hl hf
        · replace hf := ite_f h16 hf
          refine lv_iload_n (pc := 26) hx hb dV_usersOfAny_26 rfl (lv_at hl 1 rfl) ?_
          refine lv_iload_n (pc := 27) hx hb dV_usersOfAny_27 rfl (lv_at hl 0 rfl) ?_
          refine vp_callSi (pc := 28) (W.runS (As := [.int p1]) (rest := [.int p2]) ⟨hx, hb, hml, hown, hts⟩ (t_V_bit l dC dI ad ca dom p1 σ hN hC (V_bit p1) rfl) (cwS 1 hts (gS wd_354 wd_255 wd_254 wd_253) rfl rfl rfl (by decide +kernel) ⟨Nat.le_of_ble_eq_true rfl, Nat.le_of_ble_eq_true rfl⟩) ⟨hR_blind, hR_pre hP hK hG⟩ rfl rfl hl.1 rfl (lv_room (Nat.le_of_ble_eq_true rfl)) dV_usersOfAny_28 ⟨Nat.le_of_ble_eq_true rfl, Nat.le_of_ble_eq_true rfl⟩) (fun r9 hr9 => ?_)
          refine W.eq (g2 := F0 m 31 ls [.int (V_bit p1), .int p2]) (by rw [hr9]) ?_
          refine lv_ior (pc := 31) hx hb dV_usersOfAny_31 ?_
          refine lv_istore_n (pc := 32) hx hb dV_usersOfAny_32 rfl hl (by decide) rfl (fun ls hl => ?_)
          have hl : lv_has ls 4 [(2, .int (p2 ||| (V_bit p1))), (3, .int p1), (0, .ref (ad 0 0)), (1, .int p3)] := hl
          refine lv_iinc (pc := 33) (v := (p1 + 1)) hx hb dV_usersOfAny_33 hl (k := 1) rfl (by rfl) (by decide) rfl (fun ls hl => ?_)
          have hl : lv_has ls 4 [(3, .int (p1 + 1)), (2, .int (p2 ||| (V_bit p1))), (0, .ref (ad 0 0)), (1, .int p3)] := hl
          refine lv_goto (pc := 36) (tgt := 4) hx hb dV_usersOfAny_36 rfl ?_
          have hl := lv_sub hl (l' := [(3, .int (p1 + 1)), (2, .int (p2 ||| (V_bit p1))), (0, .ref (ad 0 0)), (1, .int p3)]) [0, 1, 2, 3] rfl
          exact ih5 ((p1 + 1), (p2 ||| (V_bit p1)), p3, ls) hl hf
  · rintro ⟨p1, p2, p3, ls⟩ hl hf
    dsimp only at hl hf ⊢
    rw [hkx4] at hf
    have hl : lv_has ls 4 [(3, .int p1), (2, .int p2), (0, .ref (ad 0 0)), (1, .int p3)] := hl
    refine lv_iload_n (pc := 39) hx hb dV_usersOfAny_39 rfl (lv_at hl 1 rfl) ?_
    exact W.iret (pc := 40) hx hb hr (fun t ht hW => ⟨_, rfl, (Option.some.inj hf), ht.trans hH⟩) (fun q h => nomatch h) dV_usersOfAny_40
def V_usersOf_L11 (n : Nat) (σ : hT) (kx6 : Int32 → Int32 → Int32 → Int32 → Int32 → Option (Int32)) : Nat → Int32 → Int32 → Int32 → Int32 → Int32 → Option (Int32)
  | 0, _, _, _, _, _ => none
  | k + 1, p1, p2, p3, p4, p5 => if 24 ≤ p1 then kx6 p1 p2 p3 p4 p5 else Option.bind (V_usersOfAny n σ p3) fun y10 => if p5 = 0 then some y10 else if y10 = p2 then some y10 else V_usersOf_L11 n σ kx6 k (p1 + 1) y10 (p3 ||| y10) p4 p5
def V_usersOf (n : Nat) (σ : hT) (a1 : Int32) (a2 : Int32) : Option (Int32) := lt9 (α := Int32 → Int32 → Int32 → Int32 → Int32 → Option (Int32)) (fun (p1 : Int32) (p2 : Int32) (p3 : Int32) (p4 : Int32) (p5 : Int32) => some p2) fun kx6 => V_usersOf_L11 n σ kx6 n 0 0 (V_bit a1) a1 a2
set_option maxHeartbeats 4000000 in
set_option maxRecDepth 100000 in
theorem t_V_usersOf (l : Launch) (dC : Nat → ClassId) (dI : Nat → Nat → Nat) (ad : Nat → Nat → Nat) (ca : Nat → Nat → ClassId) (dom : List (Nat × Nat)) (n : Nat) (σ : hT) (a1 : Int32) (a2 : Int32) (hm0 : (0, 0) ∈ dom) (hN : dom.Nodup) (hC : clo dom σ.2.2) (ρ : Int32) (hf : V_usersOf n σ a1 a2 = some ρ) : Met l yV_usersOf (.code yV_usersOf cV_usersOf 7 (some .int) :: aw) ({ frames := 4, cells := 0, slots := 0, locals := 85 }) (hR (dC, dI) ad ca dom σ [.ref (ad 0 0), .int a1, .int a2]) (vp_Si (fun r => r = ρ)) 0 0 (fun _ => False) := by
  refine Met.ofW (cc := cV_usersOf) (maxL := 7) (ret := (some .int)) (by decide) rfl ?_
  intro p e s m args below meth c s₁ B hml hv
  obtain ⟨rfl, hv⟩ := hv
  have hx := B.exec
  have hb := B.bytes
  have hr := B.returns
  have hts : ∀ w ∈ aw, w.before _ s = true := fun w h => atoms_spec (ws := (.code yV_usersOf cV_usersOf 7 (some .int) :: aw)) B.pre w (List.mem_cons_of_mem _ h)
  have hown : s.vm.findClass RV = some m.cls := findClass_of_methodNamed B.named
  have hlocks := B.notSynchronized
  obtain ⟨hP, hK, hG⟩ := hv
  obtain ⟨H, hH⟩ : ∃ H, H = s.heap := ⟨_, rfl⟩
  rw [← hH] at hP ⊢
  unfold V_usersOf at hf
  have hl := lv_entry ([.ref (ad 0 0), .int a1, .int a2]) (n := 7) (Nat.le_of_ble_eq_true rfl)
  rw [lg_entry_eq]
  generalize (lg_sl ([.ref (ad 0 0), .int a1, .int a2]) ++ List.replicate (7 - (lg_sl ([.ref (ad 0 0), .int a1, .int a2])).length) Slot.unset).toArray = ls at hl ⊢
  have hl : lv_has ls 7 [(0, .ref (ad 0 0)), (1, .int a1), (2, .int a2)] := hl
  refine lv_iload_n (pc := 0) hx hb dV_usersOf_0 rfl (lv_at hl 1 rfl) ?_
  refine vp_callSi (pc := 1) (W.runS (As := [.int a1]) (rest := []) ⟨hx, hb, hml, hown, hts⟩ (t_V_bit l dC dI ad ca dom a1 σ hN hC (V_bit a1) rfl) (cwS 1 hts (gS wd_354 wd_255 wd_254 wd_253) rfl rfl rfl (by decide +kernel) ⟨Nat.le_of_ble_eq_true rfl, Nat.le_of_ble_eq_true rfl⟩) ⟨hR_blind, hR_pre hP hK hG⟩ rfl rfl hl.1 rfl (lv_room (Nat.le_of_ble_eq_true rfl)) dV_usersOf_1 ⟨Nat.le_of_ble_eq_true rfl, Nat.le_of_ble_eq_true rfl⟩) (fun r9 hr9 => ?_)
  refine W.eq (g2 := F0 m 4 ls [.int (V_bit a1)]) (by rw [hr9]) ?_
  refine lv_istore_n (pc := 4) hx hb dV_usersOf_4 rfl hl (by decide) rfl (fun ls hl => ?_)
  have hl : lv_has ls 7 [(3, .int (V_bit a1)), (0, .ref (ad 0 0)), (1, .int a1), (2, .int a2)] := hl
  refine lv_iconst (pc := 5) (v := 0) hx hb dV_usersOf_5 (by decide) ?_
  refine lv_istore (pc := 6) hx hb dV_usersOf_6 hl (by decide) rfl (fun ls hl => ?_)
  have hl : lv_has ls 7 [(4, .int 0), (3, .int (V_bit a1)), (0, .ref (ad 0 0)), (1, .int a1), (2, .int a2)] := hl
  refine lv_iconst (pc := 8) (v := 0) hx hb dV_usersOf_8 (by decide) ?_
  refine lv_istore (pc := 9) hx hb dV_usersOf_9 hl (by decide) rfl (fun ls hl => ?_)
  have hl : lv_has ls 7 [(5, .int 0), (4, .int 0), (3, .int (V_bit a1)), (0, .ref (ad 0 0)), (1, .int a1), (2, .int a2)] := hl
  obtain ⟨kx6, hkx6, hf⟩ := lt_9 hf
  refine lpF (τ := (Int32) × (Int32) × (Int32) × (Int32) × (Int32) × (Array Slot)) (fun pc z => W p l e _ s m _ below meth c H ([]) 0 0 _ (F0 m pc z.2.2.2.2.2 [])) 11 54 (fun z => lv_has z.2.2.2.2.2 7 [(5, .int z.1), (4, .int z.2.1), (3, .int z.2.2.1), (0, .ref (ad 0 0)), (1, .int z.2.2.2.1), (2, .int z.2.2.2.2.1)]) (fun k z => V_usersOf_L11 n σ kx6 k z.1 z.2.1 z.2.2.1 z.2.2.2.1 z.2.2.2.2.1) (fun z => kx6 z.1 z.2.1 z.2.2.1 z.2.2.2.1 z.2.2.2.2.1) _ (fun z => rfl) ?_ ?_ n (0, 0, (V_bit a1), a1, a2, ls) hl hf
  · rintro k ⟨p1, p2, p3, p4, p5, ls⟩ hl hf ih7 hXkx6
    dsimp only at hl hf ih7 hXkx6 ⊢
    unfold V_usersOf_L11 at hf
    have hl : lv_has ls 7 [(5, .int p1), (4, .int p2), (3, .int p3), (0, .ref (ad 0 0)), (1, .int p4), (2, .int p5)] := hl
    refine lv_iload (pc := 11) hx hb dV_usersOf_11 (lv_at hl 0 rfl) ?_
    refine lv_bipush (pc := 13) (v := 24) hx hb dV_usersOf_13 (by decide) ?_
    refine lv_icmp_ge (pc := 15) (tgt := 54) hx hb dV_usersOf_15 rfl (fun h8 => ?_) (fun h8 => ?_)
    · replace hf := ite_t h8 hf
      have hl := lv_sub hl (l' := [(5, .int p1), (4, .int p2), (3, .int p3), (0, .ref (ad 0 0)), (1, .int p4), (2, .int p5)]) [0, 1, 2, 3, 4, 5] rfl
      exact hXkx6 (p1, p2, p3, p4, p5, ls) hl hf
    · replace hf := ite_f h8 hf
      refine lv_aload_n (pc := 18) hx hb dV_usersOf_18 rfl (lv_at hl 3 rfl) ?_
      refine lv_iload_n (pc := 19) hx hb dV_usersOf_19 rfl (lv_at hl 2 rfl) ?_
      obtain ⟨q9, hq9, eq9⟩ := at_0 (ad := ad) (ca := ca) (σ := σ) hm0
      obtain ⟨y10, hy10, hf⟩ := ob hf
      refine vp_callSi (pc := 20) (W.runV (As := [.int p3]) (rest := []) ⟨hx, hb, hml, hown, hts⟩ (t_V_usersOfAny l dC dI ad ca dom n σ p3 hm0 hN hC y10 hy10) (cwV 1 hts (gV wd_356 wd_357 wd_358 wd_254 wd_355) rfl rfl rfl (by decide +kernel) ⟨Nat.le_of_ble_eq_true rfl, Nat.le_of_ble_eq_true rfl⟩) ⟨hR_blind, va_recv (q := (RV, TV, 9)) (q0 := q9) (ci := 0) hK.1 hP rfl eq9, hR_pre hP hK hG⟩ rfl rfl hl.1 rfl (lv_room (Nat.le_of_ble_eq_true rfl)) dV_usersOf_20 ⟨Nat.le_of_ble_eq_true rfl, Nat.le_of_ble_eq_true rfl⟩) (fun r9 hr9 => ?_)
      refine W.eq (g2 := F0 m 23 ls [.int y10]) (by rw [hr9]) ?_
      refine lv_istore (pc := 23) hx hb dV_usersOf_23 hl (by decide) rfl (fun ls hl => ?_)
      have hl : lv_has ls 7 [(6, .int y10), (5, .int p1), (4, .int p2), (3, .int p3), (0, .ref (ad 0 0)), (1, .int p4), (2, .int p5)] := hl
      refine lv_iload_n (pc := 25) hx hb dV_usersOf_25 rfl (lv_at hl 6 rfl) ?_
      refine lv_if_eq (pc := 26) (tgt := 36) hx hb dV_usersOf_26 rfl (fun h11 => ?_) (fun h11 => ?_)
      · replace hf := ite_t h11 hf
        refine lv_iload (pc := 36) hx hb dV_usersOf_36 (lv_at hl 0 rfl) ?_
        exact W.iret (pc := 38) hx hb hr (fun t ht hW => ⟨_, rfl, (Option.some.inj hf), ht.trans hH⟩) (fun q h => nomatch h) dV_usersOf_38
      · replace hf := ite_f h11 hf
        refine lv_iload (pc := 29) hx hb dV_usersOf_29 (lv_at hl 0 rfl) ?_
        refine lv_iload (pc := 31) hx hb dV_usersOf_31 (lv_at hl 2 rfl) ?_
        refine lv_icmp_ne (pc := 33) (tgt := 39) hx hb dV_usersOf_33 rfl (fun h12 => ?_) (fun h12 => ?_)
        · replace hf := ite_f h12 hf
          refine lv_iload (pc := 39) hx hb dV_usersOf_39 (lv_at hl 0 rfl) ?_
          refine lv_istore (pc := 41) hx hb dV_usersOf_41 hl (by decide) rfl (fun ls hl => ?_)
          have hl : lv_has ls 7 [(4, .int y10), (6, .int y10), (5, .int p1), (3, .int p3), (0, .ref (ad 0 0)), (1, .int p4), (2, .int p5)] := hl
          refine lv_iload_n (pc := 43) hx hb dV_usersOf_43 rfl (lv_at hl 3 rfl) ?_
          refine lv_iload (pc := 44) hx hb dV_usersOf_44 (lv_at hl 1 rfl) ?_
          refine lv_ior (pc := 46) hx hb dV_usersOf_46 ?_
          refine lv_istore_n (pc := 47) hx hb dV_usersOf_47 rfl hl (by decide) rfl (fun ls hl => ?_)
          have hl : lv_has ls 7 [(3, .int (p3 ||| y10)), (4, .int y10), (6, .int y10), (5, .int p1), (0, .ref (ad 0 0)), (1, .int p4), (2, .int p5)] := hl
          refine lv_iinc (pc := 48) (v := (p1 + 1)) hx hb dV_usersOf_48 hl (k := 3) rfl (by rfl) (by decide) rfl (fun ls hl => ?_)
          have hl : lv_has ls 7 [(5, .int (p1 + 1)), (3, .int (p3 ||| y10)), (4, .int y10), (6, .int y10), (0, .ref (ad 0 0)), (1, .int p4), (2, .int p5)] := hl
          refine lv_goto (pc := 51) (tgt := 11) hx hb dV_usersOf_51 rfl ?_
          have hl := lv_sub hl (l' := [(5, .int (p1 + 1)), (4, .int y10), (3, .int (p3 ||| y10)), (0, .ref (ad 0 0)), (1, .int p4), (2, .int p5)]) [0, 2, 1, 4, 5, 6] rfl
          exact ih7 ((p1 + 1), y10, (p3 ||| y10), p4, p5, ls) hl hf
        · replace hf := ite_t h12 hf
          refine lv_iload (pc := 36) hx hb dV_usersOf_36 (lv_at hl 0 rfl) ?_
          exact W.iret (pc := 38) hx hb hr (fun t ht hW => ⟨_, rfl, (Option.some.inj hf), ht.trans hH⟩) (fun q h => nomatch h) dV_usersOf_38
  · rintro ⟨p1, p2, p3, p4, p5, ls⟩ hl hf
    dsimp only at hl hf ⊢
    rw [hkx6] at hf
    have hl : lv_has ls 7 [(5, .int p1), (4, .int p2), (3, .int p3), (0, .ref (ad 0 0)), (1, .int p4), (2, .int p5)] := hl
    refine lv_iload (pc := 54) hx hb dV_usersOf_54 (lv_at hl 1 rfl) ?_
    exact W.iret (pc := 56) hx hb hr (fun t ht hW => ⟨_, rfl, (Option.some.inj hf), ht.trans hH⟩) (fun q h => nomatch h) dV_usersOf_56
def V_drawingsOut_L4 (n : Nat) (σ : hT) (kx3 : Int32 → Int32 → Option (Int32)) : Nat → Int32 → Int32 → Option (Int32)
  | 0, _, _ => none
  | k + 1, p1, p2 => if (xI σ 102 0 0) ≤ p1 then kx3 p1 p2 else if in9 p1 24 then hq (xR σ 9 0 (p1).toNatClampNeg) (none) fun j11 => if (xI σ 702 j11 0) = (-1) then V_drawingsOut_L4 n σ kx3 k (p1 + 1) p2 else V_drawingsOut_L4 n σ kx3 k (p1 + 1) (p2 + 1) else none
def V_drawingsOut (n : Nat) (σ : hT) : Option (Int32) := lt9 (α := Int32 → Int32 → Option (Int32)) (fun (p1 : Int32) (p2 : Int32) => some p2) fun kx3 => V_drawingsOut_L4 n σ kx3 n 0 0
set_option maxHeartbeats 4000000 in
set_option maxRecDepth 100000 in
theorem t_V_drawingsOut (l : Launch) (dC : Nat → ClassId) (dI : Nat → Nat → Nat) (ad : Nat → Nat → Nat) (ca : Nat → Nat → ClassId) (dom : List (Nat × Nat)) (n : Nat) (σ : hT) (hm0 : (0, 0) ∈ dom) (hN : dom.Nodup) (hC : clo dom σ.2.2) (ρ : Int32) (hf : V_drawingsOut n σ = some ρ) : Met l yV_drawingsOut (.code yV_drawingsOut cV_drawingsOut 3 (some .int) :: aw) ({ frames := 0, cells := 0, slots := 0, locals := 0 }) (hR (dC, dI) ad ca dom σ [.ref (ad 0 0)]) (vp_Si (fun r => r = ρ)) 0 0 (fun _ => False) := by
  refine Met.ofW (cc := cV_drawingsOut) (maxL := 3) (ret := (some .int)) (by decide) rfl ?_
  intro p e s m args below meth c s₁ B hml hv
  obtain ⟨rfl, hv⟩ := hv
  have hx := B.exec
  have hb := B.bytes
  have hr := B.returns
  have hts : ∀ w ∈ aw, w.before _ s = true := fun w h => atoms_spec (ws := (.code yV_drawingsOut cV_drawingsOut 3 (some .int) :: aw)) B.pre w (List.mem_cons_of_mem _ h)
  have hown : s.vm.findClass RV = some m.cls := findClass_of_methodNamed B.named
  have hlocks := B.notSynchronized
  obtain ⟨hP, hK, hG⟩ := hv
  obtain ⟨H, hH⟩ : ∃ H, H = s.heap := ⟨_, rfl⟩
  rw [← hH] at hP ⊢
  unfold V_drawingsOut at hf
  have hl := lv_entry ([.ref (ad 0 0)]) (n := 3) (Nat.le_of_ble_eq_true rfl)
  rw [lg_entry_eq]
  generalize (lg_sl ([.ref (ad 0 0)]) ++ List.replicate (3 - (lg_sl ([.ref (ad 0 0)])).length) Slot.unset).toArray = ls at hl ⊢
  have hl : lv_has ls 3 [(0, .ref (ad 0 0))] := hl
  refine lv_iconst (pc := 0) (v := 0) hx hb dV_drawingsOut_0 (by decide) ?_
  refine lv_istore_n (pc := 1) hx hb dV_drawingsOut_1 rfl hl (by decide) rfl (fun ls hl => ?_)
  have hl : lv_has ls 3 [(1, .int 0), (0, .ref (ad 0 0))] := hl
  refine lv_iconst (pc := 2) (v := 0) hx hb dV_drawingsOut_2 (by decide) ?_
  refine lv_istore_n (pc := 3) hx hb dV_drawingsOut_3 rfl hl (by decide) rfl (fun ls hl => ?_)
  have hl : lv_has ls 3 [(2, .int 0), (1, .int 0), (0, .ref (ad 0 0))] := hl
  obtain ⟨kx3, hkx3, hf⟩ := lt_9 hf
  refine lpF (τ := (Int32) × (Int32) × (Array Slot)) (fun pc z => W p l e _ s m _ below meth c H ([]) 0 0 _ (F0 m pc z.2.2 [])) 4 34 (fun z => lv_has z.2.2 3 [(2, .int z.1), (1, .int z.2.1), (0, .ref (ad 0 0))]) (fun k z => V_drawingsOut_L4 n σ kx3 k z.1 z.2.1) (fun z => kx3 z.1 z.2.1) _ (fun z => rfl) ?_ ?_ n (0, 0, ls) hl hf
  · rintro k ⟨p1, p2, ls⟩ hl hf ih4 hXkx3
    dsimp only at hl hf ih4 hXkx3 ⊢
    unfold V_drawingsOut_L4 at hf
    have hl : lv_has ls 3 [(2, .int p1), (1, .int p2), (0, .ref (ad 0 0))] := hl
    refine lv_iload_n (pc := 4) hx hb dV_drawingsOut_4 rfl (lv_at hl 0 rfl) ?_
    refine lv_aload_n (pc := 5) hx hb dV_drawingsOut_5 rfl (lv_at hl 2 rfl) ?_
    obtain ⟨q5, hq5, eq5⟩ := at_0 (ad := ad) (ca := ca) (σ := σ) hm0
    refine va_get (D := (dC, dI)) (cl := kCl) (C := RV) (T := TV) (N := 9) (pc := 6) hx hb hts inV hown hK.1 hP q5 eq5 rfl 2 (by decide) (hts _ wd_314) (fun _ h9 => h9) rfl dV_drawingsOut_6 ?_
    refine lv_icmp_ge (pc := 9) (tgt := 34) hx hb dV_drawingsOut_9 rfl (fun h6 => ?_) (fun h6 => ?_)
    · replace hf := ite_t h6 hf
      have hl := lv_sub hl (l' := [(2, .int p1), (1, .int p2), (0, .ref (ad 0 0))]) [0, 1, 2] rfl
      exact hXkx3 (p1, p2, ls) hl hf
    · replace hf := ite_f h6 hf
      refine lv_aload_n (pc := 12) hx hb dV_drawingsOut_12 rfl (lv_at hl 2 rfl) ?_
      obtain ⟨q7, hq7, eq7⟩ := at_0 (ad := ad) (ca := ca) (σ := σ) hm0
      refine va_get (D := (dC, dI)) (cl := kCl) (C := RV) (T := TV) (N := 9) (pc := 13) hx hb hts inV hown hK.1 hP q7 eq7 rfl 1 (by decide) (hts _ wd_315) (fun _ h9 => h9) rfl dV_drawingsOut_13 ?_
      refine lv_iload_n (pc := 16) hx hb dV_drawingsOut_16 rfl (lv_at hl 0 rfl) ?_
      obtain ⟨hv8, hf⟩ := ite_s hf
      obtain ⟨q9, hq9, eq9⟩ := at_9 (ad := ad) (ca := ca) (σ := σ) (cm_0_1 hC hm0)
      refine va_aldq (D := (dC, dI)) (cl := kCl) (pc := 17) hx hb (hK.2 9 0 (.object "DrawingVault$Drawing") (cm_0_1 hC hm0) rfl) hP q9 0 eq9 rfl (hv8) dV_drawingsOut_17 ?_
      refine W.eq (g2 := F0 m 18 ls [va_re (ad 6) (xR σ 9 0 (p1).toNatClampNeg)]) rfl ?_
      rcases hE10 : xR σ 9 0 (p1).toNatClampNeg with _ | j11
      · replace hf := hq_n hE10 hf
        refine W.eq (g2 := F0 m 18 ls [.null]) rfl ?_
        exact nomatch hf
      · replace hf := hq_s hE10 hf
        have hm12 : (6, j11) ∈ dom := (cr_9 hC (cm_0_1 hC hm0) hE10)
        refine W.eq (g2 := F0 m 18 ls [.ref (ad 6 j11)]) rfl ?_
        obtain ⟨q13, hq13, eq13⟩ := at_6 (ad := ad) (ca := ca) (σ := σ) hm12
        refine va_get (D := (dC, dI)) (cl := kCl) (C := RD) (T := TD) (N := 5) (pc := 18) hx hb hts inD hown hK.1 hP q13 eq13 rfl 2 (by decide) (hts _ wd_359) (fun _ h9 => h9) rfl dV_drawingsOut_18 ?_
        refine lv_iconst (pc := 21) (v := (-1)) hx hb dV_drawingsOut_21 (by decide) ?_
        refine lv_icmp_eq (pc := 22) (tgt := 28) hx hb dV_drawingsOut_22 rfl (fun h14 => ?_) (fun h14 => ?_)
        · replace hf := ite_t h14 hf
          refine lv_iinc (pc := 28) (v := (p1 + 1)) hx hb dV_drawingsOut_28 hl (k := 0) rfl (by rfl) (by decide) rfl (fun ls hl => ?_)
          have hl : lv_has ls 3 [(2, .int (p1 + 1)), (1, .int p2), (0, .ref (ad 0 0))] := hl
          refine lv_goto (pc := 31) (tgt := 4) hx hb dV_drawingsOut_31 rfl ?_
          have hl := lv_sub hl (l' := [(2, .int (p1 + 1)), (1, .int p2), (0, .ref (ad 0 0))]) [0, 1, 2] rfl
          exact ih4 ((p1 + 1), p2, ls) hl hf
        · replace hf := ite_f h14 hf
          refine lv_iinc (pc := 25) (v := (p2 + 1)) hx hb dV_drawingsOut_25 hl (k := 1) rfl (by rfl) (by decide) rfl (fun ls hl => ?_)
          have hl : lv_has ls 3 [(1, .int (p2 + 1)), (2, .int p1), (0, .ref (ad 0 0))] := hl
          refine lv_iinc (pc := 28) (v := (p1 + 1)) hx hb dV_drawingsOut_28 hl (k := 1) rfl (by rfl) (by decide) rfl (fun ls hl => ?_)
          have hl : lv_has ls 3 [(2, .int (p1 + 1)), (1, .int (p2 + 1)), (0, .ref (ad 0 0))] := hl
          refine lv_goto (pc := 31) (tgt := 4) hx hb dV_drawingsOut_31 rfl ?_
          have hl := lv_sub hl (l' := [(2, .int (p1 + 1)), (1, .int (p2 + 1)), (0, .ref (ad 0 0))]) [0, 1, 2] rfl
          exact ih4 ((p1 + 1), (p2 + 1), ls) hl hf
  · rintro ⟨p1, p2, ls⟩ hl hf
    dsimp only at hl hf ⊢
    rw [hkx3] at hf
    have hl : lv_has ls 3 [(2, .int p1), (1, .int p2), (0, .ref (ad 0 0))] := hl
    refine lv_iload_n (pc := 34) hx hb dV_drawingsOut_34 rfl (lv_at hl 1 rfl) ?_
    exact W.iret (pc := 35) hx hb hr (fun t ht hW => ⟨_, rfl, (Option.some.inj hf), ht.trans hH⟩) (fun q h => nomatch h) dV_drawingsOut_35
def V_baselinesMade_L4 (n : Nat) (σ : hT) (kx3 : Int32 → Int32 → Option (Int32)) : Nat → Int32 → Int32 → Option (Int32)
  | 0, _, _ => none
  | k + 1, p1, p2 => if 10 ≤ p1 then kx3 p1 p2 else if in9 p1 10 then hq (xR σ 10 0 (p1).toNatClampNeg) (V_baselinesMade_L4 n σ kx3 k (p1 + 1) p2) fun j10 => V_baselinesMade_L4 n σ kx3 k (p1 + 1) (p2 + 1) else none
def V_baselinesMade (n : Nat) (σ : hT) : Option (Int32) := lt9 (α := Int32 → Int32 → Option (Int32)) (fun (p1 : Int32) (p2 : Int32) => some p2) fun kx3 => V_baselinesMade_L4 n σ kx3 n 0 0
set_option maxHeartbeats 4000000 in
set_option maxRecDepth 100000 in
theorem t_V_baselinesMade (l : Launch) (dC : Nat → ClassId) (dI : Nat → Nat → Nat) (ad : Nat → Nat → Nat) (ca : Nat → Nat → ClassId) (dom : List (Nat × Nat)) (n : Nat) (σ : hT) (hm0 : (0, 0) ∈ dom) (hN : dom.Nodup) (hC : clo dom σ.2.2) (ρ : Int32) (hf : V_baselinesMade n σ = some ρ) : Met l yV_baselinesMade (.code yV_baselinesMade cV_baselinesMade 3 (some .int) :: aw) ({ frames := 0, cells := 0, slots := 0, locals := 0 }) (hR (dC, dI) ad ca dom σ [.ref (ad 0 0)]) (vp_Si (fun r => r = ρ)) 0 0 (fun _ => False) := by
  refine Met.ofW (cc := cV_baselinesMade) (maxL := 3) (ret := (some .int)) (by decide) rfl ?_
  intro p e s m args below meth c s₁ B hml hv
  obtain ⟨rfl, hv⟩ := hv
  have hx := B.exec
  have hb := B.bytes
  have hr := B.returns
  have hts : ∀ w ∈ aw, w.before _ s = true := fun w h => atoms_spec (ws := (.code yV_baselinesMade cV_baselinesMade 3 (some .int) :: aw)) B.pre w (List.mem_cons_of_mem _ h)
  have hown : s.vm.findClass RV = some m.cls := findClass_of_methodNamed B.named
  have hlocks := B.notSynchronized
  obtain ⟨hP, hK, hG⟩ := hv
  obtain ⟨H, hH⟩ : ∃ H, H = s.heap := ⟨_, rfl⟩
  rw [← hH] at hP ⊢
  unfold V_baselinesMade at hf
  have hl := lv_entry ([.ref (ad 0 0)]) (n := 3) (Nat.le_of_ble_eq_true rfl)
  rw [lg_entry_eq]
  generalize (lg_sl ([.ref (ad 0 0)]) ++ List.replicate (3 - (lg_sl ([.ref (ad 0 0)])).length) Slot.unset).toArray = ls at hl ⊢
  have hl : lv_has ls 3 [(0, .ref (ad 0 0))] := hl
  refine lv_iconst (pc := 0) (v := 0) hx hb dV_baselinesMade_0 (by decide) ?_
  refine lv_istore_n (pc := 1) hx hb dV_baselinesMade_1 rfl hl (by decide) rfl (fun ls hl => ?_)
  have hl : lv_has ls 3 [(1, .int 0), (0, .ref (ad 0 0))] := hl
  refine lv_iconst (pc := 2) (v := 0) hx hb dV_baselinesMade_2 (by decide) ?_
  refine lv_istore_n (pc := 3) hx hb dV_baselinesMade_3 rfl hl (by decide) rfl (fun ls hl => ?_)
  have hl : lv_has ls 3 [(2, .int 0), (1, .int 0), (0, .ref (ad 0 0))] := hl
  obtain ⟨kx3, hkx3, hf⟩ := lt_9 hf
  refine lpF (τ := (Int32) × (Int32) × (Array Slot)) (fun pc z => W p l e _ s m _ below meth c H ([]) 0 0 _ (F0 m pc z.2.2 [])) 4 28 (fun z => lv_has z.2.2 3 [(2, .int z.1), (1, .int z.2.1), (0, .ref (ad 0 0))]) (fun k z => V_baselinesMade_L4 n σ kx3 k z.1 z.2.1) (fun z => kx3 z.1 z.2.1) _ (fun z => rfl) ?_ ?_ n (0, 0, ls) hl hf
  · rintro k ⟨p1, p2, ls⟩ hl hf ih4 hXkx3
    dsimp only at hl hf ih4 hXkx3 ⊢
    unfold V_baselinesMade_L4 at hf
    have hl : lv_has ls 3 [(2, .int p1), (1, .int p2), (0, .ref (ad 0 0))] := hl
    refine lv_iload_n (pc := 4) hx hb dV_baselinesMade_4 rfl (lv_at hl 0 rfl) ?_
    refine lv_bipush (pc := 5) (v := 10) hx hb dV_baselinesMade_5 (by decide) ?_
    refine lv_icmp_ge (pc := 7) (tgt := 28) hx hb dV_baselinesMade_7 rfl (fun h5 => ?_) (fun h5 => ?_)
    · replace hf := ite_t h5 hf
      have hl := lv_sub hl (l' := [(2, .int p1), (1, .int p2), (0, .ref (ad 0 0))]) [0, 1, 2] rfl
      exact hXkx3 (p1, p2, ls) hl hf
    · replace hf := ite_f h5 hf
      refine lv_aload_n (pc := 10) hx hb dV_baselinesMade_10 rfl (lv_at hl 2 rfl) ?_
      obtain ⟨q6, hq6, eq6⟩ := at_0 (ad := ad) (ca := ca) (σ := σ) hm0
      refine va_get (D := (dC, dI)) (cl := kCl) (C := RV) (T := TV) (N := 9) (pc := 11) hx hb hts inV hown hK.1 hP q6 eq6 rfl 4 (by decide) (hts _ wd_322) (fun _ h9 => h9) rfl dV_baselinesMade_11 ?_
      refine lv_iload_n (pc := 14) hx hb dV_baselinesMade_14 rfl (lv_at hl 0 rfl) ?_
      obtain ⟨hv7, hf⟩ := ite_s hf
      obtain ⟨q8, hq8, eq8⟩ := at_10 (ad := ad) (ca := ca) (σ := σ) (cm_0_4 hC hm0)
      refine va_aldq (D := (dC, dI)) (cl := kCl) (pc := 15) hx hb (hK.2 10 0 (.object "DrawingVault$Baseline") (cm_0_4 hC hm0) rfl) hP q8 0 eq8 rfl (hv7) dV_baselinesMade_15 ?_
      refine W.eq (g2 := F0 m 16 ls [va_re (ad 1) (xR σ 10 0 (p1).toNatClampNeg)]) rfl ?_
      rcases hE9 : xR σ 10 0 (p1).toNatClampNeg with _ | j10
      · replace hf := hq_n hE9 hf
        refine W.eq (g2 := F0 m 16 ls [.null]) rfl ?_
        refine lv_ifnullN (pc := 16) (tgt := 22) hx hb dV_baselinesMade_16 rfl ?_
        refine lv_iinc (pc := 22) (v := (p1 + 1)) hx hb dV_baselinesMade_22 hl (k := 0) rfl (by rfl) (by decide) rfl (fun ls hl => ?_)
        have hl : lv_has ls 3 [(2, .int (p1 + 1)), (1, .int p2), (0, .ref (ad 0 0))] := hl
        refine lv_goto (pc := 25) (tgt := 4) hx hb dV_baselinesMade_25 rfl ?_
        have hl := lv_sub hl (l' := [(2, .int (p1 + 1)), (1, .int p2), (0, .ref (ad 0 0))]) [0, 1, 2] rfl
        exact ih4 ((p1 + 1), p2, ls) hl hf
      · replace hf := hq_s hE9 hf
        have hm11 : (1, j10) ∈ dom := (cr_10 hC (cm_0_4 hC hm0) hE9)
        refine W.eq (g2 := F0 m 16 ls [.ref (ad 1 j10)]) rfl ?_
        refine lv_ifnull (pc := 16) hx hb dV_baselinesMade_16 ?_
        refine lv_iinc (pc := 19) (v := (p2 + 1)) hx hb dV_baselinesMade_19 hl (k := 1) rfl (by rfl) (by decide) rfl (fun ls hl => ?_)
        have hl : lv_has ls 3 [(1, .int (p2 + 1)), (2, .int p1), (0, .ref (ad 0 0))] := hl
        refine lv_iinc (pc := 22) (v := (p1 + 1)) hx hb dV_baselinesMade_22 hl (k := 1) rfl (by rfl) (by decide) rfl (fun ls hl => ?_)
        have hl : lv_has ls 3 [(2, .int (p1 + 1)), (1, .int (p2 + 1)), (0, .ref (ad 0 0))] := hl
        refine lv_goto (pc := 25) (tgt := 4) hx hb dV_baselinesMade_25 rfl ?_
        have hl := lv_sub hl (l' := [(2, .int (p1 + 1)), (1, .int (p2 + 1)), (0, .ref (ad 0 0))]) [0, 1, 2] rfl
        exact ih4 ((p1 + 1), (p2 + 1), ls) hl hf
  · rintro ⟨p1, p2, ls⟩ hl hf
    dsimp only at hl hf ⊢
    rw [hkx3] at hf
    have hl : lv_has ls 3 [(2, .int p1), (1, .int p2), (0, .ref (ad 0 0))] := hl
    refine lv_iload_n (pc := 28) hx hb dV_baselinesMade_28 rfl (lv_at hl 1 rfl) ?_
    exact W.iret (pc := 29) hx hb hr (fun t ht hW => ⟨_, rfl, (Option.some.inj hf), ht.trans hH⟩) (fun q h => nomatch h) dV_baselinesMade_29
