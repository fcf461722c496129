abbrev cK_clear : ByteArray := prog_3_method_2_code
abbrev yK_clear : MethodName := ⟨"DrawingVault$ChunkSet", "clear", "()V"⟩
theorem dK_clear_0 : decode cK_clear 0 = .ok (.aload_n 0, 1) := by decide +kernel
theorem dK_clear_1 : decode cK_clear 1 = .ok (.iconst 0, 1) := by decide +kernel
theorem dK_clear_2 : decode cK_clear 2 = .ok (.putfield 19, 3) := by decide +kernel
theorem dK_clear_5 : decode cK_clear 5 = .ok (.return_, 1) := by decide +kernel
abbrev cK_addOne : ByteArray := prog_3_method_5_code
abbrev yK_addOne : MethodName := ⟨"DrawingVault$ChunkSet", "addOne", "(JI)V"⟩
theorem dK_addOne_0 : decode cK_addOne 0 = .ok (.iconst 0, 1) := by decide +kernel
theorem dK_addOne_1 : decode cK_addOne 1 = .ok (.istore 4, 2) := by decide +kernel
theorem dK_addOne_3 : decode cK_addOne 3 = .ok (.iload 4, 2) := by decide +kernel
theorem dK_addOne_5 : decode cK_addOne 5 = .ok (.aload_n 0, 1) := by decide +kernel
theorem dK_addOne_6 : decode cK_addOne 6 = .ok (.getfield 19, 3) := by decide +kernel
theorem dK_addOne_9 : decode cK_addOne 9 = .ok (.if_icmp .ge 33, 3) := by decide +kernel
theorem dK_addOne_12 : decode cK_addOne 12 = .ok (.aload_n 0, 1) := by decide +kernel
theorem dK_addOne_13 : decode cK_addOne 13 = .ok (.getfield 9, 3) := by decide +kernel
theorem dK_addOne_16 : decode cK_addOne 16 = .ok (.iload 4, 2) := by decide +kernel
theorem dK_addOne_18 : decode cK_addOne 18 = .ok (.laload, 1) := by decide +kernel
theorem dK_addOne_19 : decode cK_addOne 19 = .ok (.lload_n 1, 1) := by decide +kernel
theorem dK_addOne_20 : decode cK_addOne 20 = .ok (.lcmp, 1) := by decide +kernel
theorem dK_addOne_21 : decode cK_addOne 21 = .ok (.ifCond .ne 15, 3) := by decide +kernel
theorem dK_addOne_24 : decode cK_addOne 24 = .ok (.aload_n 0, 1) := by decide +kernel
theorem dK_addOne_25 : decode cK_addOne 25 = .ok (.getfield 15, 3) := by decide +kernel
theorem dK_addOne_28 : decode cK_addOne 28 = .ok (.iload 4, 2) := by decide +kernel
theorem dK_addOne_30 : decode cK_addOne 30 = .ok (.baload, 1) := by decide +kernel
theorem dK_addOne_31 : decode cK_addOne 31 = .ok (.iload_n 3, 1) := by decide +kernel
theorem dK_addOne_32 : decode cK_addOne 32 = .ok (.if_icmp .ne 4, 3) := by decide +kernel
theorem dK_addOne_35 : decode cK_addOne 35 = .ok (.return_, 1) := by decide +kernel
theorem dK_addOne_36 : decode cK_addOne 36 = .ok (.iinc 4 1, 3) := by decide +kernel
theorem dK_addOne_39 : decode cK_addOne 39 = .ok (.goto (-36), 3) := by decide +kernel
theorem dK_addOne_42 : decode cK_addOne 42 = .ok (.aload_n 0, 1) := by decide +kernel
theorem dK_addOne_43 : decode cK_addOne 43 = .ok (.getfield 19, 3) := by decide +kernel
theorem dK_addOne_46 : decode cK_addOne 46 = .ok (.sipush 992, 3) := by decide +kernel
theorem dK_addOne_49 : decode cK_addOne 49 = .ok (.if_icmp .ge 34, 3) := by decide +kernel
theorem dK_addOne_52 : decode cK_addOne 52 = .ok (.aload_n 0, 1) := by decide +kernel
theorem dK_addOne_53 : decode cK_addOne 53 = .ok (.getfield 9, 3) := by decide +kernel
theorem dK_addOne_56 : decode cK_addOne 56 = .ok (.aload_n 0, 1) := by decide +kernel
theorem dK_addOne_57 : decode cK_addOne 57 = .ok (.getfield 19, 3) := by decide +kernel
theorem dK_addOne_60 : decode cK_addOne 60 = .ok (.lload_n 1, 1) := by decide +kernel
theorem dK_addOne_61 : decode cK_addOne 61 = .ok (.lastore, 1) := by decide +kernel
theorem dK_addOne_62 : decode cK_addOne 62 = .ok (.aload_n 0, 1) := by decide +kernel
theorem dK_addOne_63 : decode cK_addOne 63 = .ok (.getfield 15, 3) := by decide +kernel
theorem dK_addOne_66 : decode cK_addOne 66 = .ok (.aload_n 0, 1) := by decide +kernel
theorem dK_addOne_67 : decode cK_addOne 67 = .ok (.getfield 19, 3) := by decide +kernel
theorem dK_addOne_70 : decode cK_addOne 70 = .ok (.iload_n 3, 1) := by decide +kernel
theorem dK_addOne_71 : decode cK_addOne 71 = .ok (.i2b, 1) := by decide +kernel
theorem dK_addOne_72 : decode cK_addOne 72 = .ok (.bastore, 1) := by decide +kernel
theorem dK_addOne_73 : decode cK_addOne 73 = .ok (.aload_n 0, 1) := by decide +kernel
theorem dK_addOne_74 : decode cK_addOne 74 = .ok (.dup, 1) := by decide +kernel
theorem dK_addOne_75 : decode cK_addOne 75 = .ok (.getfield 19, 3) := by decide +kernel
theorem dK_addOne_78 : decode cK_addOne 78 = .ok (.iconst 1, 1) := by decide +kernel
theorem dK_addOne_79 : decode cK_addOne 79 = .ok (.iadd, 1) := by decide +kernel
theorem dK_addOne_80 : decode cK_addOne 80 = .ok (.putfield 19, 3) := by decide +kernel
theorem dK_addOne_83 : decode cK_addOne 83 = .ok (.return_, 1) := by decide +kernel
abbrev cK_addAll : ByteArray := prog_3_method_4_code
abbrev yK_addAll : MethodName := ⟨"DrawingVault$ChunkSet", "addAll", "(LDrawingVault$Content;)V"⟩
theorem dK_addAll_0 : decode cK_addAll 0 = .ok (.aload_n 1, 1) := by decide +kernel
theorem dK_addAll_1 : decode cK_addAll 1 = .ok (.invokevirtual 30, 3) := by decide +kernel
theorem dK_addAll_4 : decode cK_addAll 4 = .ok (.istore_n 2, 1) := by decide +kernel
theorem dK_addAll_5 : decode cK_addAll 5 = .ok (.iconst 0, 1) := by decide +kernel
theorem dK_addAll_6 : decode cK_addAll 6 = .ok (.istore_n 3, 1) := by decide +kernel
theorem dK_addAll_7 : decode cK_addAll 7 = .ok (.iload_n 3, 1) := by decide +kernel
theorem dK_addAll_8 : decode cK_addAll 8 = .ok (.iload_n 2, 1) := by decide +kernel
theorem dK_addAll_9 : decode cK_addAll 9 = .ok (.if_icmp .ge 24, 3) := by decide +kernel
theorem dK_addAll_12 : decode cK_addAll 12 = .ok (.aload_n 0, 1) := by decide +kernel
theorem dK_addAll_13 : decode cK_addAll 13 = .ok (.aload_n 1, 1) := by decide +kernel
theorem dK_addAll_14 : decode cK_addAll 14 = .ok (.getfield 36, 3) := by decide +kernel
theorem dK_addAll_17 : decode cK_addAll 17 = .ok (.iload_n 3, 1) := by decide +kernel
theorem dK_addAll_18 : decode cK_addAll 18 = .ok (.laload, 1) := by decide +kernel
theorem dK_addAll_19 : decode cK_addAll 19 = .ok (.aload_n 1, 1) := by decide +kernel
theorem dK_addAll_20 : decode cK_addAll 20 = .ok (.iload_n 3, 1) := by decide +kernel
theorem dK_addAll_21 : decode cK_addAll 21 = .ok (.invokevirtual 37, 3) := by decide +kernel
theorem dK_addAll_24 : decode cK_addAll 24 = .ok (.invokevirtual 41, 3) := by decide +kernel
theorem dK_addAll_27 : decode cK_addAll 27 = .ok (.iinc 3 1, 3) := by decide +kernel
theorem dK_addAll_30 : decode cK_addAll 30 = .ok (.goto (-23), 3) := by decide +kernel
theorem dK_addAll_33 : decode cK_addAll 33 = .ok (.return_, 1) := by decide +kernel
abbrev cK_sizeOf : ByteArray := prog_3_method_3_code
abbrev yK_sizeOf : MethodName := ⟨"DrawingVault$ChunkSet", "sizeOf", "(LDrawingVault$Content;)I"⟩
theorem dK_sizeOf_0 : decode cK_sizeOf 0 = .ok (.aload_n 0, 1) := by decide +kernel
theorem dK_sizeOf_1 : decode cK_sizeOf 1 = .ok (.invokevirtual 23, 3) := by decide +kernel
theorem dK_sizeOf_4 : decode cK_sizeOf 4 = .ok (.aload_n 0, 1) := by decide +kernel
theorem dK_sizeOf_5 : decode cK_sizeOf 5 = .ok (.aload_n 1, 1) := by decide +kernel
theorem dK_sizeOf_6 : decode cK_sizeOf 6 = .ok (.invokevirtual 26, 3) := by decide +kernel
theorem dK_sizeOf_9 : decode cK_sizeOf 9 = .ok (.aload_n 0, 1) := by decide +kernel
theorem dK_sizeOf_10 : decode cK_sizeOf 10 = .ok (.getfield 19, 3) := by decide +kernel
theorem dK_sizeOf_13 : decode cK_sizeOf 13 = .ok (.ireturn, 1) := by decide +kernel
abbrev cB_takes : ByteArray := prog_2_method_3_code
abbrev yB_takes : MethodName := ⟨"DrawingVault$Baseline", "takes", "(II)Z"⟩
theorem dB_takes_0 : decode cB_takes 0 = .ok (.aload_n 0, 1) := by decide +kernel
theorem dB_takes_1 : decode cB_takes 1 = .ok (.getfield 9, 3) := by decide +kernel
theorem dB_takes_4 : decode cB_takes 4 = .ok (.iload_n 1, 1) := by decide +kernel
theorem dB_takes_5 : decode cB_takes 5 = .ok (.iaload, 1) := by decide +kernel
theorem dB_takes_6 : decode cB_takes 6 = .ok (.iconst (-1), 1) := by decide +kernel
theorem dB_takes_7 : decode cB_takes 7 = .ok (.if_icmp .ne 30, 3) := by decide +kernel
theorem dB_takes_10 : decode cB_takes 10 = .ok (.aload_n 0, 1) := by decide +kernel
theorem dB_takes_11 : decode cB_takes 11 = .ok (.getfield 9, 3) := by decide +kernel
theorem dB_takes_14 : decode cB_takes 14 = .ok (.iload_n 1, 1) := by decide +kernel
theorem dB_takes_15 : decode cB_takes 15 = .ok (.iload_n 2, 1) := by decide +kernel
theorem dB_takes_16 : decode cB_takes 16 = .ok (.iastore, 1) := by decide +kernel
theorem dB_takes_17 : decode cB_takes 17 = .ok (.aload_n 0, 1) := by decide +kernel
theorem dB_takes_18 : decode cB_takes 18 = .ok (.getfield 15, 3) := by decide +kernel
theorem dB_takes_21 : decode cB_takes 21 = .ok (.aload_n 0, 1) := by decide +kernel
theorem dB_takes_22 : decode cB_takes 22 = .ok (.getfield 24, 3) := by decide +kernel
theorem dB_takes_25 : decode cB_takes 25 = .ok (.iload_n 1, 1) := by decide +kernel
theorem dB_takes_26 : decode cB_takes 26 = .ok (.iastore, 1) := by decide +kernel
theorem dB_takes_27 : decode cB_takes 27 = .ok (.aload_n 0, 1) := by decide +kernel
theorem dB_takes_28 : decode cB_takes 28 = .ok (.dup, 1) := by decide +kernel
theorem dB_takes_29 : decode cB_takes 29 = .ok (.getfield 24, 3) := by decide +kernel
theorem dB_takes_32 : decode cB_takes 32 = .ok (.iconst 1, 1) := by decide +kernel
theorem dB_takes_33 : decode cB_takes 33 = .ok (.iadd, 1) := by decide +kernel
theorem dB_takes_34 : decode cB_takes 34 = .ok (.putfield 24, 3) := by decide +kernel
theorem dB_takes_37 : decode cB_takes 37 = .ok (.aload_n 0, 1) := by decide +kernel
theorem dB_takes_38 : decode cB_takes 38 = .ok (.getfield 9, 3) := by decide +kernel
theorem dB_takes_41 : decode cB_takes 41 = .ok (.iload_n 1, 1) := by decide +kernel
theorem dB_takes_42 : decode cB_takes 42 = .ok (.iaload, 1) := by decide +kernel
theorem dB_takes_43 : decode cB_takes 43 = .ok (.iload_n 2, 1) := by decide +kernel
theorem dB_takes_44 : decode cB_takes 44 = .ok (.if_icmp .ne 7, 3) := by decide +kernel
theorem dB_takes_47 : decode cB_takes 47 = .ok (.iconst 1, 1) := by decide +kernel
theorem dB_takes_48 : decode cB_takes 48 = .ok (.goto 4, 3) := by decide +kernel
theorem dB_takes_51 : decode cB_takes 51 = .ok (.iconst 0, 1) := by decide +kernel
theorem dB_takes_52 : decode cB_takes 52 = .ok (.ireturn, 1) := by decide +kernel
abbrev cB_drawingByNumber : ByteArray := prog_2_method_4_code
abbrev yB_drawingByNumber : MethodName := ⟨"DrawingVault$Baseline", "drawingByNumber", "(I)I"⟩
theorem dB_drawingByNumber_0 : decode cB_drawingByNumber 0 = .ok (.iconst 0, 1) := by decide +kernel
theorem dB_drawingByNumber_1 : decode cB_drawingByNumber 1 = .ok (.istore_n 2, 1) := by decide +kernel
theorem dB_drawingByNumber_2 : decode cB_drawingByNumber 2 = .ok (.iconst 0, 1) := by decide +kernel
theorem dB_drawingByNumber_3 : decode cB_drawingByNumber 3 = .ok (.istore_n 3, 1) := by decide +kernel
theorem dB_drawingByNumber_4 : decode cB_drawingByNumber 4 = .ok (.iload_n 3, 1) := by decide +kernel
theorem dB_drawingByNumber_5 : decode cB_drawingByNumber 5 = .ok (.bipush 24, 2) := by decide +kernel
theorem dB_drawingByNumber_7 : decode cB_drawingByNumber 7 = .ok (.if_icmp .ge 29, 3) := by decide +kernel
theorem dB_drawingByNumber_10 : decode cB_drawingByNumber 10 = .ok (.aload_n 0, 1) := by decide +kernel
theorem dB_drawingByNumber_11 : decode cB_drawingByNumber 11 = .ok (.getfield 9, 3) := by decide +kernel
theorem dB_drawingByNumber_14 : decode cB_drawingByNumber 14 = .ok (.iload_n 3, 1) := by decide +kernel
theorem dB_drawingByNumber_15 : decode cB_drawingByNumber 15 = .ok (.iaload, 1) := by decide +kernel
theorem dB_drawingByNumber_16 : decode cB_drawingByNumber 16 = .ok (.iconst (-1), 1) := by decide +kernel
theorem dB_drawingByNumber_17 : decode cB_drawingByNumber 17 = .ok (.if_icmp .eq 13, 3) := by decide +kernel
theorem dB_drawingByNumber_20 : decode cB_drawingByNumber 20 = .ok (.iload_n 2, 1) := by decide +kernel
theorem dB_drawingByNumber_21 : decode cB_drawingByNumber 21 = .ok (.iload_n 1, 1) := by decide +kernel
theorem dB_drawingByNumber_22 : decode cB_drawingByNumber 22 = .ok (.if_icmp .ne 5, 3) := by decide +kernel
theorem dB_drawingByNumber_25 : decode cB_drawingByNumber 25 = .ok (.iload_n 3, 1) := by decide +kernel
theorem dB_drawingByNumber_26 : decode cB_drawingByNumber 26 = .ok (.ireturn, 1) := by decide +kernel
theorem dB_drawingByNumber_27 : decode cB_drawingByNumber 27 = .ok (.iinc 2 1, 3) := by decide +kernel
theorem dB_drawingByNumber_30 : decode cB_drawingByNumber 30 = .ok (.iinc 3 1, 3) := by decide +kernel
theorem dB_drawingByNumber_33 : decode cB_drawingByNumber 33 = .ok (.goto (-29), 3) := by decide +kernel
theorem dB_drawingByNumber_36 : decode cB_drawingByNumber 36 = .ok (.iconst (-1), 1) := by decide +kernel
theorem dB_drawingByNumber_37 : decode cB_drawingByNumber 37 = .ok (.ireturn, 1) := by decide +kernel
abbrev cB_pagesTaken : ByteArray := prog_2_method_5_code
abbrev yB_pagesTaken : MethodName := ⟨"DrawingVault$Baseline", "pagesTaken", "()I"⟩
theorem dB_pagesTaken_0 : decode cB_pagesTaken 0 = .ok (.iconst 1, 1) := by decide +kernel
theorem dB_pagesTaken_1 : decode cB_pagesTaken 1 = .ok (.aload_n 0, 1) := by decide +kernel
theorem dB_pagesTaken_2 : decode cB_pagesTaken 2 = .ok (.getfield 24, 3) := by decide +kernel
theorem dB_pagesTaken_5 : decode cB_pagesTaken 5 = .ok (.bipush 8, 2) := by decide +kernel
theorem dB_pagesTaken_7 : decode cB_pagesTaken 7 = .ok (.iadd, 1) := by decide +kernel
theorem dB_pagesTaken_8 : decode cB_pagesTaken 8 = .ok (.iconst 1, 1) := by decide +kernel
theorem dB_pagesTaken_9 : decode cB_pagesTaken 9 = .ok (.isub, 1) := by decide +kernel
theorem dB_pagesTaken_10 : decode cB_pagesTaken 10 = .ok (.bipush 8, 2) := by decide +kernel
theorem dB_pagesTaken_12 : decode cB_pagesTaken 12 = .ok (.idiv, 1) := by decide +kernel
theorem dB_pagesTaken_13 : decode cB_pagesTaken 13 = .ok (.iadd, 1) := by decide +kernel
theorem dB_pagesTaken_14 : decode cB_pagesTaken 14 = .ok (.ireturn, 1) := by decide +kernel
abbrev cD_hasRevision : ByteArray := prog_5_method_2_code
abbrev yD_hasRevision : MethodName := ⟨"DrawingVault$Drawing", "hasRevision", "(I)Z"⟩
theorem dD_hasRevision_0 : decode cD_hasRevision 0 = .ok (.iload_n 1, 1) := by decide +kernel
theorem dD_hasRevision_1 : decode cD_hasRevision 1 = .ok (.ifCond .lt 15, 3) := by decide +kernel
theorem dD_hasRevision_4 : decode cD_hasRevision 4 = .ok (.iload_n 1, 1) := by decide +kernel
theorem dD_hasRevision_5 : decode cD_hasRevision 5 = .ok (.aload_n 0, 1) := by decide +kernel
theorem dD_hasRevision_6 : decode cD_hasRevision 6 = .ok (.getfield 31, 3) := by decide +kernel
theorem dD_hasRevision_9 : decode cD_hasRevision 9 = .ok (.if_icmp .ge 7, 3) := by decide +kernel
theorem dD_hasRevision_12 : decode cD_hasRevision 12 = .ok (.iconst 1, 1) := by decide +kernel
theorem dD_hasRevision_13 : decode cD_hasRevision 13 = .ok (.goto 4, 3) := by decide +kernel
theorem dD_hasRevision_16 : decode cD_hasRevision 16 = .ok (.iconst 0, 1) := by decide +kernel
theorem dD_hasRevision_17 : decode cD_hasRevision 17 = .ok (.ireturn, 1) := by decide +kernel
abbrev cD_newest : ByteArray := prog_5_method_3_code
abbrev yD_newest : MethodName := ⟨"DrawingVault$Drawing", "newest", "()I"⟩
theorem dD_newest_0 : decode cD_newest 0 = .ok (.aload_n 0, 1) := by decide +kernel
theorem dD_newest_1 : decode cD_newest 1 = .ok (.getfield 31, 3) := by decide +kernel
theorem dD_newest_4 : decode cD_newest 4 = .ok (.iconst 1, 1) := by decide +kernel
theorem dD_newest_5 : decode cD_newest 5 = .ok (.isub, 1) := by decide +kernel
theorem dD_newest_6 : decode cD_newest 6 = .ok (.ireturn, 1) := by decide +kernel
abbrev cD_latestReleased : ByteArray := prog_5_method_4_code
abbrev yD_latestReleased : MethodName := ⟨"DrawingVault$Drawing", "latestReleased", "()I"⟩
theorem dD_latestReleased_0 : decode cD_latestReleased 0 = .ok (.aload_n 0, 1) := by decide +kernel
theorem dD_latestReleased_1 : decode cD_latestReleased 1 = .ok (.invokevirtual 34, 3) := by decide +kernel
theorem dD_latestReleased_4 : decode cD_latestReleased 4 = .ok (.istore_n 1, 1) := by decide +kernel
theorem dD_latestReleased_5 : decode cD_latestReleased 5 = .ok (.iload_n 1, 1) := by decide +kernel
theorem dD_latestReleased_6 : decode cD_latestReleased 6 = .ok (.ifCond .lt 24, 3) := by decide +kernel
theorem dD_latestReleased_9 : decode cD_latestReleased 9 = .ok (.aload_n 0, 1) := by decide +kernel
theorem dD_latestReleased_10 : decode cD_latestReleased 10 = .ok (.getfield 11, 3) := by decide +kernel
theorem dD_latestReleased_13 : decode cD_latestReleased 13 = .ok (.iload_n 1, 1) := by decide +kernel
theorem dD_latestReleased_14 : decode cD_latestReleased 14 = .ok (.aaload, 1) := by decide +kernel
theorem dD_latestReleased_15 : decode cD_latestReleased 15 = .ok (.getfield 38, 3) := by decide +kernel
theorem dD_latestReleased_18 : decode cD_latestReleased 18 = .ok (.iconst 2, 1) := by decide +kernel
theorem dD_latestReleased_19 : decode cD_latestReleased 19 = .ok (.if_icmp .ne 5, 3) := by decide +kernel
theorem dD_latestReleased_22 : decode cD_latestReleased 22 = .ok (.iload_n 1, 1) := by decide +kernel
theorem dD_latestReleased_23 : decode cD_latestReleased 23 = .ok (.ireturn, 1) := by decide +kernel
theorem dD_latestReleased_24 : decode cD_latestReleased 24 = .ok (.iinc 1 (-1), 3) := by decide +kernel
theorem dD_latestReleased_27 : decode cD_latestReleased 27 = .ok (.goto (-22), 3) := by decide +kernel
theorem dD_latestReleased_30 : decode cD_latestReleased 30 = .ok (.iconst (-1), 1) := by decide +kernel
theorem dD_latestReleased_31 : decode cD_latestReleased 31 = .ok (.ireturn, 1) := by decide +kernel
abbrev cD_targetBits : ByteArray := prog_5_method_5_code
abbrev yD_targetBits : MethodName := ⟨"DrawingVault$Drawing", "targetBits", "()I"⟩
theorem dD_targetBits_0 : decode cD_targetBits 0 = .ok (.aload_n 0, 1) := by decide +kernel
theorem dD_targetBits_1 : decode cD_targetBits 1 = .ok (.aload_n 0, 1) := by decide +kernel
theorem dD_targetBits_2 : decode cD_targetBits 2 = .ok (.invokevirtual 34, 3) := by decide +kernel
theorem dD_targetBits_5 : decode cD_targetBits 5 = .ok (.invokevirtual 41, 3) := by decide +kernel
theorem dD_targetBits_8 : decode cD_targetBits 8 = .ok (.ifCond .eq 21, 3) := by decide +kernel
theorem dD_targetBits_11 : decode cD_targetBits 11 = .ok (.aload_n 0, 1) := by decide +kernel
theorem dD_targetBits_12 : decode cD_targetBits 12 = .ok (.getfield 11, 3) := by decide +kernel
theorem dD_targetBits_15 : decode cD_targetBits 15 = .ok (.aload_n 0, 1) := by decide +kernel
theorem dD_targetBits_16 : decode cD_targetBits 16 = .ok (.invokevirtual 34, 3) := by decide +kernel
theorem dD_targetBits_19 : decode cD_targetBits 19 = .ok (.aaload, 1) := by decide +kernel
theorem dD_targetBits_20 : decode cD_targetBits 20 = .ok (.getfield 45, 3) := by decide +kernel
theorem dD_targetBits_23 : decode cD_targetBits 23 = .ok (.invokevirtual 48, 3) := by decide +kernel
theorem dD_targetBits_26 : decode cD_targetBits 26 = .ok (.goto 4, 3) := by decide +kernel
theorem dD_targetBits_29 : decode cD_targetBits 29 = .ok (.iconst 0, 1) := by decide +kernel
theorem dD_targetBits_30 : decode cD_targetBits 30 = .ok (.ireturn, 1) := by decide +kernel
abbrev cD_lendTo : ByteArray := prog_5_method_7_code
abbrev yD_lendTo : MethodName := ⟨"DrawingVault$Drawing", "lendTo", "(I)V"⟩
theorem dD_lendTo_0 : decode cD_lendTo 0 = .ok (.aload_n 0, 1) := by decide +kernel
theorem dD_lendTo_1 : decode cD_lendTo 1 = .ok (.iload_n 1, 1) := by decide +kernel
theorem dD_lendTo_2 : decode cD_lendTo 2 = .ok (.putfield 17, 3) := by decide +kernel
theorem dD_lendTo_5 : decode cD_lendTo 5 = .ok (.aload_n 0, 1) := by decide +kernel
theorem dD_lendTo_6 : decode cD_lendTo 6 = .ok (.getfield 24, 3) := by decide +kernel
theorem dD_lendTo_9 : decode cD_lendTo 9 = .ok (.aload_n 0, 1) := by decide +kernel
theorem dD_lendTo_10 : decode cD_lendTo 10 = .ok (.getfield 11, 3) := by decide +kernel
theorem dD_lendTo_13 : decode cD_lendTo 13 = .ok (.aload_n 0, 1) := by decide +kernel
theorem dD_lendTo_14 : decode cD_lendTo 14 = .ok (.invokevirtual 34, 3) := by decide +kernel
theorem dD_lendTo_17 : decode cD_lendTo 17 = .ok (.aaload, 1) := by decide +kernel
theorem dD_lendTo_18 : decode cD_lendTo 18 = .ok (.getfield 45, 3) := by decide +kernel
theorem dD_lendTo_21 : decode cD_lendTo 21 = .ok (.invokevirtual 54, 3) := by decide +kernel
theorem dD_lendTo_24 : decode cD_lendTo 24 = .ok (.return_, 1) := by decide +kernel
theorem wd_262 : (.fieldLink "DrawingVault$ChunkSet" 19 "DrawingVault$ChunkSet" "size" "I" : Cond) ∈ aw := aw_in (tb_1 (List.mem_of_getElem? (i := 59) rfl)) rfl
theorem wd_263 : (.fieldLink "DrawingVault$ChunkSet" 9 "DrawingVault$ChunkSet" "pieces" "[J" : Cond) ∈ aw := aw_in (tb_1 (List.mem_of_getElem? (i := 57) rfl)) rfl
theorem wd_264 : (.fieldLink "DrawingVault$ChunkSet" 15 "DrawingVault$ChunkSet" "lengths" "[B" : Cond) ∈ aw := aw_in (tb_1 (List.mem_of_getElem? (i := 58) rfl)) rfl
theorem wd_265 : (.code ⟨"DrawingVault$Content", "pieceCount", "()I"⟩ prog_4_method_8_code 1 (Option.some .int) : Cond) ∈ aw := aw_in (tb_1 (List.mem_of_getElem? (i := 217) rfl)) rfl
theorem wd_266 : (.methodLink "DrawingVault$ChunkSet" 30 ⟨"DrawingVault$Content", "pieceCount", "()I"⟩ : Cond) ∈ aw := aw_in (tb_1 (List.mem_of_getElem? (i := 214) rfl)) rfl
theorem wd_267 : (.instanceMethod ⟨"DrawingVault$Content", "pieceCount", "()I"⟩ : Cond) ∈ aw := aw_in (tb_1 (List.mem_of_getElem? (i := 215) rfl)) rfl
theorem wd_268 : (.selects "DrawingVault$Content" ⟨"DrawingVault$Content", "pieceCount", "()I"⟩ ⟨"DrawingVault$Content", "pieceCount", "()I"⟩ : Cond) ∈ aw := aw_in (tb_1 (List.mem_of_getElem? (i := 216) rfl)) rfl
theorem wd_269 : (.fieldLink "DrawingVault$ChunkSet" 36 "DrawingVault$Content" "pieces" "[J" : Cond) ∈ aw := aw_in (tb_2 (List.mem_of_getElem? (i := 138) rfl)) rfl
theorem wd_270 : (.methodLink "DrawingVault$ChunkSet" 37 ⟨"DrawingVault$Content", "pieceLength", "(I)I"⟩ : Cond) ∈ aw := aw_in (tb_1 (List.mem_of_getElem? (i := 218) rfl)) rfl
theorem wd_271 : (.code ⟨"DrawingVault$ChunkSet", "addOne", "(JI)V"⟩ prog_3_method_5_code 5 (Option.none : Option Jvm.ClassFile.FieldType) : Cond) ∈ aw := aw_in (tb_1 (List.mem_of_getElem? (i := 231) rfl)) rfl
theorem wd_272 : (.methodLink "DrawingVault$ChunkSet" 41 ⟨"DrawingVault$ChunkSet", "addOne", "(JI)V"⟩ : Cond) ∈ aw := aw_in (tb_1 (List.mem_of_getElem? (i := 228) rfl)) rfl
theorem wd_273 : (.instanceMethod ⟨"DrawingVault$ChunkSet", "addOne", "(JI)V"⟩ : Cond) ∈ aw := aw_in (tb_1 (List.mem_of_getElem? (i := 230) rfl)) rfl
theorem wd_274 : (.selects "DrawingVault$ChunkSet" ⟨"DrawingVault$ChunkSet", "addOne", "(JI)V"⟩ ⟨"DrawingVault$ChunkSet", "addOne", "(JI)V"⟩ : Cond) ∈ aw := aw_in (tb_s (q := (⟨"DrawingVault$ChunkSet", "addOne", "(JI)V"⟩, _)) (List.mem_append_left _ (List.mem_of_getElem? (i := 6) rfl))) rfl
theorem wd_275 : (.initialized "DrawingVault$ChunkSet" : Cond) ∈ aw := aw_in (tb_1 (List.mem_of_getElem? (i := 4) rfl)) rfl
theorem wd_276 : (.code ⟨"DrawingVault$ChunkSet", "clear", "()V"⟩ prog_3_method_2_code 1 (Option.none : Option Jvm.ClassFile.FieldType) : Cond) ∈ aw := aw_in (tb_1 (List.mem_of_getElem? (i := 209) rfl)) rfl
theorem wd_277 : (.methodLink "DrawingVault$ChunkSet" 23 ⟨"DrawingVault$ChunkSet", "clear", "()V"⟩ : Cond) ∈ aw := aw_in (tb_3 (List.mem_of_getElem? (i := 90) rfl)) rfl
theorem wd_278 : (.instanceMethod ⟨"DrawingVault$ChunkSet", "clear", "()V"⟩ : Cond) ∈ aw := aw_in (tb_1 (List.mem_of_getElem? (i := 207) rfl)) rfl
theorem wd_279 : (.selects "DrawingVault$ChunkSet" ⟨"DrawingVault$ChunkSet", "clear", "()V"⟩ ⟨"DrawingVault$ChunkSet", "clear", "()V"⟩ : Cond) ∈ aw := aw_in (tb_1 (List.mem_of_getElem? (i := 208) rfl)) rfl
theorem wd_280 : (.code ⟨"DrawingVault$ChunkSet", "addAll", "(LDrawingVault$Content;)V"⟩ prog_3_method_4_code 4 (Option.none : Option Jvm.ClassFile.FieldType) : Cond) ∈ aw := aw_in (tb_1 (List.mem_of_getElem? (i := 213) rfl)) rfl
theorem wd_281 : (.methodLink "DrawingVault$ChunkSet" 26 ⟨"DrawingVault$ChunkSet", "addAll", "(LDrawingVault$Content;)V"⟩ : Cond) ∈ aw := aw_in (tb_3 (List.mem_of_getElem? (i := 91) rfl)) rfl
theorem wd_282 : (.instanceMethod ⟨"DrawingVault$ChunkSet", "addAll", "(LDrawingVault$Content;)V"⟩ : Cond) ∈ aw := aw_in (tb_1 (List.mem_of_getElem? (i := 211) rfl)) rfl
theorem wd_283 : (.selects "DrawingVault$ChunkSet" ⟨"DrawingVault$ChunkSet", "addAll", "(LDrawingVault$Content;)V"⟩ ⟨"DrawingVault$ChunkSet", "addAll", "(LDrawingVault$Content;)V"⟩ : Cond) ∈ aw := aw_in (tb_1 (List.mem_of_getElem? (i := 212) rfl)) rfl
theorem wd_284 : (.fieldLink "DrawingVault$Baseline" 9 "DrawingVault$Baseline" "revisionOf" "[I" : Cond) ∈ aw := aw_in (tb_1 (List.mem_of_getElem? (i := 37) rfl)) rfl
theorem wd_285 : (.fieldLink "DrawingVault$Baseline" 15 "DrawingVault$Baseline" "order" "[I" : Cond) ∈ aw := aw_in (tb_1 (List.mem_of_getElem? (i := 39) rfl)) rfl
theorem wd_286 : (.fieldLink "DrawingVault$Baseline" 24 "DrawingVault$Baseline" "size" "I" : Cond) ∈ aw := aw_in (tb_1 (List.mem_of_getElem? (i := 41) rfl)) rfl
theorem wd_287 : (.fieldLink "DrawingVault$Drawing" 31 "DrawingVault$Drawing" "revisionCount" "I" : Cond) ∈ aw := aw_in (tb_2 (List.mem_of_getElem? (i := 160) rfl)) rfl
theorem wd_288 : (.code ⟨"DrawingVault$Drawing", "newest", "()I"⟩ prog_5_method_3_code 1 (Option.some .int) : Cond) ∈ aw := aw_in (tb_1 (List.mem_of_getElem? (i := 157) rfl)) rfl
theorem wd_289 : (.methodLink "DrawingVault$Drawing" 34 ⟨"DrawingVault$Drawing", "newest", "()I"⟩ : Cond) ∈ aw := aw_in (tb_1 (List.mem_of_getElem? (i := 154) rfl)) rfl
theorem wd_290 : (.instanceMethod ⟨"DrawingVault$Drawing", "newest", "()I"⟩ : Cond) ∈ aw := aw_in (tb_1 (List.mem_of_getElem? (i := 155) rfl)) rfl
theorem wd_291 : (.selects "DrawingVault$Drawing" ⟨"DrawingVault$Drawing", "newest", "()I"⟩ ⟨"DrawingVault$Drawing", "newest", "()I"⟩ : Cond) ∈ aw := aw_in (tb_1 (List.mem_of_getElem? (i := 156) rfl)) rfl
theorem wd_292 : (.initialized "DrawingVault$Drawing" : Cond) ∈ aw := aw_in (tb_1 (List.mem_of_getElem? (i := 13) rfl)) rfl
theorem wd_293 : (.fieldLink "DrawingVault$Drawing" 11 "DrawingVault$Drawing" "revisions" "[LDrawingVault$Revision;" : Cond) ∈ aw := aw_in (tb_2 (List.mem_of_getElem? (i := 158) rfl)) rfl
theorem wd_294 : (.fieldLink "DrawingVault$Drawing" 38 "DrawingVault$Revision" "state" "I" : Cond) ∈ aw := aw_in (tb_2 (List.mem_of_getElem? (i := 196) rfl)) rfl
theorem wd_295 : (.code ⟨"DrawingVault$Drawing", "hasRevision", "(I)Z"⟩ prog_5_method_2_code 2 (Option.some .boolean) : Cond) ∈ aw := aw_in (tb_1 (List.mem_of_getElem? (i := 161) rfl)) rfl
theorem wd_296 : (.methodLink "DrawingVault$Drawing" 41 ⟨"DrawingVault$Drawing", "hasRevision", "(I)Z"⟩ : Cond) ∈ aw := aw_in (tb_1 (List.mem_of_getElem? (i := 158) rfl)) rfl
theorem wd_297 : (.instanceMethod ⟨"DrawingVault$Drawing", "hasRevision", "(I)Z"⟩ : Cond) ∈ aw := aw_in (tb_1 (List.mem_of_getElem? (i := 159) rfl)) rfl
theorem wd_298 : (.selects "DrawingVault$Drawing" ⟨"DrawingVault$Drawing", "hasRevision", "(I)Z"⟩ ⟨"DrawingVault$Drawing", "hasRevision", "(I)Z"⟩ : Cond) ∈ aw := aw_in (tb_1 (List.mem_of_getElem? (i := 160) rfl)) rfl
theorem wd_299 : (.fieldLink "DrawingVault$Drawing" 45 "DrawingVault$Revision" "content" "LDrawingVault$Content;" : Cond) ∈ aw := aw_in (tb_2 (List.mem_of_getElem? (i := 191) rfl)) rfl
theorem wd_300 : (.code ⟨"DrawingVault$Content", "targetBits", "()I"⟩ prog_4_method_15_code 3 (Option.some .int) : Cond) ∈ aw := aw_in (tb_1 (List.mem_of_getElem? (i := 165) rfl)) rfl
theorem wd_301 : (.methodLink "DrawingVault$Drawing" 48 ⟨"DrawingVault$Content", "targetBits", "()I"⟩ : Cond) ∈ aw := aw_in (tb_1 (List.mem_of_getElem? (i := 162) rfl)) rfl
theorem wd_302 : (.instanceMethod ⟨"DrawingVault$Content", "targetBits", "()I"⟩ : Cond) ∈ aw := aw_in (tb_1 (List.mem_of_getElem? (i := 163) rfl)) rfl
theorem wd_303 : (.selects "DrawingVault$Content" ⟨"DrawingVault$Content", "targetBits", "()I"⟩ ⟨"DrawingVault$Content", "targetBits", "()I"⟩ : Cond) ∈ aw := aw_in (tb_1 (List.mem_of_getElem? (i := 164) rfl)) rfl
theorem wd_304 : (.fieldLink "DrawingVault$Drawing" 17 "DrawingVault$Drawing" "holder" "I" : Cond) ∈ aw := aw_in (tb_2 (List.mem_of_getElem? (i := 162) rfl)) rfl
theorem wd_305 : (.fieldLink "DrawingVault$Drawing" 24 "DrawingVault$Drawing" "copy" "LDrawingVault$Content;" : Cond) ∈ aw := aw_in (tb_2 (List.mem_of_getElem? (i := 164) rfl)) rfl
theorem wd_306 : (.code ⟨"DrawingVault$Content", "takeFrom", "(LDrawingVault$Content;)V"⟩ prog_4_method_2_code 2 (Option.none : Option Jvm.ClassFile.FieldType) : Cond) ∈ aw := aw_in (tb_1 (List.mem_of_getElem? (i := 182) rfl)) rfl
theorem wd_307 : (.methodLink "DrawingVault$Drawing" 54 ⟨"DrawingVault$Content", "takeFrom", "(LDrawingVault$Content;)V"⟩ : Cond) ∈ aw := aw_in (tb_2 (List.mem_of_getElem? (i := 205) rfl)) rfl
theorem wd_308 : (.instanceMethod ⟨"DrawingVault$Content", "takeFrom", "(LDrawingVault$Content;)V"⟩ : Cond) ∈ aw := aw_in (tb_1 (List.mem_of_getElem? (i := 180) rfl)) rfl
theorem wd_309 : (.selects "DrawingVault$Content" ⟨"DrawingVault$Content", "takeFrom", "(LDrawingVault$Content;)V"⟩ ⟨"DrawingVault$Content", "takeFrom", "(LDrawingVault$Content;)V"⟩ : Cond) ∈ aw := aw_in (tb_1 (List.mem_of_getElem? (i := 181) rfl)) rfl

def K_clear (σ : hT) : Option (Unit × hT) := lt9 (sI σ 302 0 0 0) fun σ1 => some ((), σ1)
set_option maxHeartbeats 4000000 in
set_option maxRecDepth 100000 in
theorem t_K_clear (l : Launch) (dC : Nat → ClassId) (dI : Nat → Nat → Nat) (ad : Nat → Nat → Nat) (ca : Nat → Nat → ClassId) (dom : List (Nat × Nat)) (sz : Nat) (σ : hT) (hm0 : (2, 0) ∈ dom) (hN : dom.Nodup) (hC : clo dom σ.2.2) (ρ : Unit) (σ' : hT) (hf : K_clear σ = some (ρ, σ')) : Met l yK_clear (.code yK_clear cK_clear 1 none :: aw) ({ frames := 0, cells := 0, slots := 0, locals := 0 }) (hW (dC, dI) sz ad ca dom σ [.ref (ad 2 0)]) (va_Qv (fun (_ : Unit) => True) (fun _ t => hB (dC, dI) (va_A (w9 ad ca dom σ) sz) ad ca dom σ' t) (va_A (w9 ad ca dom σ) sz)) 0 0 (va_A (w9 ad ca dom σ) sz) := by
  refine Met.ofW (cc := cK_clear) (maxL := 1) (ret := none) (by decide) rfl ?_
  intro p e s m args below meth c s₁ B hml hv
  obtain ⟨rfl, hv⟩ := hv
  have hx := B.exec
  have hb := B.bytes
  have hr := B.returns
  have hts : ∀ w ∈ aw, w.before _ s = true := fun w h => atoms_spec (ws := (.code yK_clear cK_clear 1 none :: aw)) B.pre w (List.mem_cons_of_mem _ h)
  have hown : s.vm.findClass RK = some m.cls := findClass_of_methodNamed B.named
  have hlocks := B.notSynchronized
  obtain ⟨hsz, hP, hK, hD0, hG⟩ := hv
  subst hsz
  have hD := hD0.self (sz := s.heap.size)
  generalize hAe : va_A (w9 ad ca dom σ) s.heap.size = A at hD ⊢
  have hA : ∀ q : Nat, s.heap.size ≤ q → A q := fun q h => by rw [← hAe]; exact Or.inr h
  obtain ⟨H, hH⟩ : ∃ H, H = s.heap := ⟨_, rfl⟩
  have hS : va_S A s.heap H [] := by rw [hH]; exact va_S.rf
  rw [← hH] at hP ⊢
  unfold K_clear at hf
  have hl := lv_entry ([.ref (ad 2 0)]) (n := 1) (Nat.le_of_ble_eq_true rfl)
  rw [lg_entry_eq]
  generalize (lg_sl ([.ref (ad 2 0)]) ++ List.replicate (1 - (lg_sl ([.ref (ad 2 0)])).length) Slot.unset).toArray = ls at hl ⊢
  have hl : lv_has ls 1 [(0, .ref (ad 2 0))] := hl
  refine lv_aload_n (pc := 0) hx hb dK_clear_0 rfl (lv_at hl 0 rfl) ?_
  refine lv_iconst (pc := 1) (v := 0) hx hb dK_clear_1 (by decide) ?_
  obtain ⟨q2, hq2, eq2⟩ := at_2 (ad := ad) (ca := ca) (σ := σ) hm0
  refine va_put (D := (dC, dI)) (cl := kCl) (ci := 2) (v := .int 0) (ty := .int) (C := RK) (T := TK) (N := 3) (pc := 2) hx hb hts inK tyK tyK_ok nmK hown hK.1 hP hD hS q2 eq2 rfl 2 (by decide) (hts _ wd_262) (fun _ h9 => h9) rfl (by decide +kernel) (rfl) (rfl) (Nat.le_of_ble_eq_true rfl) dK_clear_2 (fun H locs hP hD hS => ?_)
  obtain ⟨σ1, hσ1, hf⟩ := lt_9 hf
  obtain ⟨hP, hD⟩ := w9_rI 302 rfl hN hq2 hσ1 (pu_302) hP hD
  have hC : clo dom σ1.2.2 := by rw [hσ1]; exact hC
  obtain ⟨h8, h9⟩ := Prod.mk.inj (Option.some.inj hf)
  subst h9
  exact W.vret (pc := 5) hx hb hr (fun t ht hW => ⟨⟨(), rfl, trivial, by rw [ht]; exact hP, hD, hC⟩, hS.F ht⟩) hS.2.2 dK_clear_5
def K_addOne_L3 (n : Nat) (kx5 : hT → Int32 → Int64 → Int32 → Option (Unit × hT)) : Nat → hT → Int32 → Int64 → Int32 → Option (Unit × hT)
  | 0, _, _, _, _ => none
  | k + 1, σ1, p2, p3, p4 => if (xI σ1 302 0 0) ≤ p2 then kx5 (σ1) p2 p3 p4 else if in9 p2 992 then if (lg_cmp (xL σ1 13 0 (p2).toNatClampNeg) p3) = 0 then if in9 p2 992 then if (xI σ1 14 0 (p2).toNatClampNeg) = p4 then some ((), σ1) else K_addOne_L3 n kx5 k (σ1) (p2 + 1) p3 p4 else none else K_addOne_L3 n kx5 k (σ1) (p2 + 1) p3 p4 else none
def K_addOne (n : Nat) (σ : hT) (a1 : Int64) (a2 : Int32) : Option (Unit × hT) := lt9 (α := hT → Int32 → Int64 → Int32 → Option (Unit × hT)) (fun (σ1 : hT) (p2 : Int32) (p3 : Int64) (p4 : Int32) => if 992 ≤ (xI σ1 302 0 0) then some ((), σ1) else if in9 (xI σ1 302 0 0) 992 then lt9 (sL σ1 13 0 ((xI σ1 302 0 0)).toNatClampNeg p3) fun σ21 => if in9 (xI σ21 302 0 0) 992 then lt9 (sI σ21 14 0 ((xI σ21 302 0 0)).toNatClampNeg (nrB ((p4).toInt8.toInt32))) fun σ26 => lt9 (sI σ26 302 0 0 ((xI σ26 302 0 0) + 1)) fun σ30 => some ((), σ30) else none else none) fun kx5 => K_addOne_L3 n kx5 n (σ) 0 a1 a2
set_option maxHeartbeats 4000000 in
set_option maxRecDepth 100000 in
theorem t_K_addOne (l : Launch) (dC : Nat → ClassId) (dI : Nat → Nat → Nat) (ad : Nat → Nat → Nat) (ca : Nat → Nat → ClassId) (dom : List (Nat × Nat)) (sz : Nat) (n : Nat) (σ : hT) (a1 : Int64) (a2 : Int32) (hm0 : (2, 0) ∈ dom) (hN : dom.Nodup) (hC : clo dom σ.2.2) (ρ : Unit) (σ' : hT) (hf : K_addOne n σ a1 a2 = some (ρ, σ')) : Met l yK_addOne (.code yK_addOne cK_addOne 5 none :: aw) ({ frames := 0, cells := 0, slots := 0, locals := 0 }) (hW (dC, dI) sz ad ca dom σ [.ref (ad 2 0), .long a1, .int a2]) (va_Qv (fun (_ : Unit) => True) (fun _ t => hB (dC, dI) (va_A (w9 ad ca dom σ) sz) ad ca dom σ' t) (va_A (w9 ad ca dom σ) sz)) 0 0 (va_A (w9 ad ca dom σ) sz) := by
  refine Met.ofW (cc := cK_addOne) (maxL := 5) (ret := none) (by decide) rfl ?_
  intro p e s m args below meth c s₁ B hml hv
  obtain ⟨rfl, hv⟩ := hv
  have hx := B.exec
  have hb := B.bytes
  have hr := B.returns
  have hts : ∀ w ∈ aw, w.before _ s = true := fun w h => atoms_spec (ws := (.code yK_addOne cK_addOne 5 none :: aw)) B.pre w (List.mem_cons_of_mem _ h)
  have hown : s.vm.findClass RK = some m.cls := findClass_of_methodNamed B.named
  have hlocks := B.notSynchronized
  obtain ⟨hsz, hP, hK, hD0, hG⟩ := hv
  subst hsz
  have hD := hD0.self (sz := s.heap.size)
  generalize hAe : va_A (w9 ad ca dom σ) s.heap.size = A at hD ⊢
  have hA : ∀ q : Nat, s.heap.size ≤ q → A q := fun q h => by rw [← hAe]; exact Or.inr h
  obtain ⟨H, hH⟩ : ∃ H, H = s.heap := ⟨_, rfl⟩
  have hS : va_S A s.heap H [] := by rw [hH]; exact va_S.rf
  rw [← hH] at hP ⊢
  unfold K_addOne at hf
  have hl := lv_entry ([.ref (ad 2 0), .long a1, .int a2]) (n := 5) (Nat.le_of_ble_eq_true rfl)
  rw [lg_entry_eq]
  generalize (lg_sl ([.ref (ad 2 0), .long a1, .int a2]) ++ List.replicate (5 - (lg_sl ([.ref (ad 2 0), .long a1, .int a2])).length) Slot.unset).toArray = ls at hl ⊢
  have hl : lv_has ls 5 [(0, .ref (ad 2 0)), (1, .long a1), (3, .int a2)] := hl
  refine lv_iconst (pc := 0) (v := 0) hx hb dK_addOne_0 (by decide) ?_
  refine lv_istore (pc := 1) hx hb dK_addOne_1 hl (by decide) rfl (fun ls hl => ?_)
  have hl : lv_has ls 5 [(4, .int 0), (0, .ref (ad 2 0)), (1, .long a1), (3, .int a2)] := hl
  obtain ⟨kx5, hkx5, hf⟩ := lt_9 hf
  refine lpF (τ := (hT) × (Int32) × (Int64) × (Int32) × (Heap) × (List Loc) × (Array Slot)) (fun pc z => W p l e _ s m _ below meth c z.2.2.2.2.1 z.2.2.2.2.2.1 0 0 _ (F0 m pc z.2.2.2.2.2.2 [])) 3 42 (fun z => va_P (dC, dI) kCl (w9 ad ca dom z.1) z.2.2.2.2.1 ∧ va_D A (w9 ad ca dom z.1) ∧ va_S A s.heap z.2.2.2.2.1 z.2.2.2.2.2.1 ∧ clo dom z.1.2.2 ∧ lv_has z.2.2.2.2.2.2 5 [(4, .int z.2.1), (0, .ref (ad 2 0)), (1, .long z.2.2.1), (3, .int z.2.2.2.1)]) (fun k z => K_addOne_L3 n kx5 k z.1 z.2.1 z.2.2.1 z.2.2.2.1) (fun z => kx5 z.1 z.2.1 z.2.2.1 z.2.2.2.1) _ (fun z => rfl) ?_ ?_ n (σ, 0, a1, a2, H, _, ls) ⟨hP, hD, hS, hC, hl⟩ hf
  · rintro k ⟨σ1, p2, p3, p4, H, locs, ls⟩ ⟨hP, hD, hS, hC, hl⟩ hf ih6 hXkx5
    dsimp only at hP hD hS hC hl hf ih6 hXkx5 ⊢
    unfold K_addOne_L3 at hf
    have hl : lv_has ls 5 [(4, .int p2), (0, .ref (ad 2 0)), (1, .long p3), (3, .int p4)] := hl
    refine lv_iload (pc := 3) hx hb dK_addOne_3 (lv_at hl 0 rfl) ?_
    refine lv_aload_n (pc := 5) hx hb dK_addOne_5 rfl (lv_at hl 1 rfl) ?_
    obtain ⟨q7, hq7, eq7⟩ := at_2 (ad := ad) (ca := ca) (σ := σ1) hm0
    refine va_get (D := (dC, dI)) (cl := kCl) (C := RK) (T := TK) (N := 3) (pc := 6) hx hb hts inK hown hK.1 hP q7 eq7 rfl 2 (by decide) (hts _ wd_262) (fun _ h9 => h9) rfl dK_addOne_6 ?_
    refine lv_icmp_ge (pc := 9) (tgt := 42) hx hb dK_addOne_9 rfl (fun h8 => ?_) (fun h8 => ?_)
    · replace hf := ite_t h8 hf
      have hl := lv_sub hl (l' := [(4, .int p2), (0, .ref (ad 2 0)), (1, .long p3), (3, .int p4)]) [0, 1, 2, 3] rfl
      exact hXkx5 (σ1, p2, p3, p4, H, _, ls) ⟨hP, hD, hS, hC, hl⟩ hf
    · replace hf := ite_f h8 hf
      refine lv_aload_n (pc := 12) hx hb dK_addOne_12 rfl (lv_at hl 1 rfl) ?_
      obtain ⟨q9, hq9, eq9⟩ := at_2 (ad := ad) (ca := ca) (σ := σ1) hm0
      refine va_get (D := (dC, dI)) (cl := kCl) (C := RK) (T := TK) (N := 3) (pc := 13) hx hb hts inK hown hK.1 hP q9 eq9 rfl 0 (by decide) (hts _ wd_263) (fun _ h9 => h9) rfl dK_addOne_13 ?_
      refine lv_iload (pc := 16) hx hb dK_addOne_16 (lv_at hl 0 rfl) ?_
      obtain ⟨hv10, hf⟩ := ite_s hf
      obtain ⟨q11, hq11, eq11⟩ := at_13 (ad := ad) (ca := ca) (σ := σ1) (cm_2_0 hC hm0)
      refine va_lald (D := (dC, dI)) (cl := kCl) (pc := 18) hx hb (hK.2 13 0 .long (cm_2_0 hC hm0) rfl) hP q11 0 eq11 rfl (hv10) dK_addOne_18 ?_
      refine W.eq (g2 := F0 m 19 ls [.long (xL σ1 13 0 (p2).toNatClampNeg)]) rfl ?_
      refine lv_lload_n (pc := 19) hx hb dK_addOne_19 rfl (lv_at hl 2 rfl) ?_
      refine W.lcmp (pc := 20) hx hb dK_addOne_20 ?_
      refine lv_if_ne (pc := 21) (tgt := 36) hx hb dK_addOne_21 rfl (fun h12 => ?_) (fun h12 => ?_)
      · replace hf := ite_f h12 hf
        refine lv_iinc (pc := 36) (v := (p2 + 1)) hx hb dK_addOne_36 hl (k := 0) rfl (by rfl) (by decide) rfl (fun ls hl => ?_)
        have hl : lv_has ls 5 [(4, .int (p2 + 1)), (0, .ref (ad 2 0)), (1, .long p3), (3, .int p4)] := hl
        refine lv_goto (pc := 39) (tgt := 3) hx hb dK_addOne_39 rfl ?_
        have hl := lv_sub hl (l' := [(4, .int (p2 + 1)), (0, .ref (ad 2 0)), (1, .long p3), (3, .int p4)]) [0, 1, 2, 3] rfl
        exact ih6 (σ1, (p2 + 1), p3, p4, H, _, ls) ⟨hP, hD, hS, hC, hl⟩ hf
      · replace hf := ite_t h12 hf
        refine lv_aload_n (pc := 24) hx hb dK_addOne_24 rfl (lv_at hl 1 rfl) ?_
        obtain ⟨q13, hq13, eq13⟩ := at_2 (ad := ad) (ca := ca) (σ := σ1) hm0
        refine va_get (D := (dC, dI)) (cl := kCl) (C := RK) (T := TK) (N := 3) (pc := 25) hx hb hts inK hown hK.1 hP q13 eq13 rfl 1 (by decide) (hts _ wd_264) (fun _ h9 => h9) rfl dK_addOne_25 ?_
        refine lv_iload (pc := 28) hx hb dK_addOne_28 (lv_at hl 0 rfl) ?_
        obtain ⟨hv14, hf⟩ := ite_s hf
        obtain ⟨q15, hq15, eq15⟩ := at_14 (ad := ad) (ca := ca) (σ := σ1) (cm_2_1 hC hm0)
        refine va_bald (D := (dC, dI)) (cl := kCl) (pc := 30) hx hb (hK.2 14 0 .byte (cm_2_1 hC hm0) rfl) hP q15 0 eq15 rfl (hv14) dK_addOne_30 ?_
        refine W.eq (g2 := F0 m 31 ls [.int (xI σ1 14 0 (p2).toNatClampNeg)]) rfl ?_
        refine lv_iload_n (pc := 31) hx hb dK_addOne_31 rfl (lv_at hl 3 rfl) ?_
        refine lv_icmp_ne (pc := 32) (tgt := 36) hx hb dK_addOne_32 rfl (fun h16 => ?_) (fun h16 => ?_)
        · replace hf := ite_f h16 hf
          refine lv_iinc (pc := 36) (v := (p2 + 1)) hx hb dK_addOne_36 hl (k := 0) rfl (by rfl) (by decide) rfl (fun ls hl => ?_)
          have hl : lv_has ls 5 [(4, .int (p2 + 1)), (0, .ref (ad 2 0)), (1, .long p3), (3, .int p4)] := hl
          refine lv_goto (pc := 39) (tgt := 3) hx hb dK_addOne_39 rfl ?_
          have hl := lv_sub hl (l' := [(4, .int (p2 + 1)), (0, .ref (ad 2 0)), (1, .long p3), (3, .int p4)]) [0, 1, 2, 3] rfl
          exact ih6 (σ1, (p2 + 1), p3, p4, H, _, ls) ⟨hP, hD, hS, hC, hl⟩ hf
        · replace hf := ite_t h16 hf
          obtain ⟨h8, h9⟩ := Prod.mk.inj (Option.some.inj hf)
          subst h9
          exact W.vret (pc := 35) hx hb hr (fun t ht hW => ⟨⟨(), rfl, trivial, by rw [ht]; exact hP, hD, hC⟩, hS.F ht⟩) hS.2.2 dK_addOne_35
  · rintro ⟨σ1, p2, p3, p4, H, locs, ls⟩ ⟨hP, hD, hS, hC, hl⟩ hf
    dsimp only at hP hD hS hC hl hf ⊢
    rw [hkx5] at hf
    have hl : lv_has ls 5 [(4, .int p2), (0, .ref (ad 2 0)), (1, .long p3), (3, .int p4)] := hl
    refine lv_aload_n (pc := 42) hx hb dK_addOne_42 rfl (lv_at hl 1 rfl) ?_
    obtain ⟨q17, hq17, eq17⟩ := at_2 (ad := ad) (ca := ca) (σ := σ1) hm0
    refine va_get (D := (dC, dI)) (cl := kCl) (C := RK) (T := TK) (N := 3) (pc := 43) hx hb hts inK hown hK.1 hP q17 eq17 rfl 2 (by decide) (hts _ wd_262) (fun _ h9 => h9) rfl dK_addOne_43 ?_
    refine lv_sipush (pc := 46) (v := 992) hx hb dK_addOne_46 (by decide) ?_
    refine lv_icmp_ge (pc := 49) (tgt := 83) hx hb dK_addOne_49 rfl (fun h18 => ?_) (fun h18 => ?_)
    · replace hf := ite_t h18 hf
      obtain ⟨h8, h9⟩ := Prod.mk.inj (Option.some.inj hf)
      subst h9
      exact W.vret (pc := 83) hx hb hr (fun t ht hW => ⟨⟨(), rfl, trivial, by rw [ht]; exact hP, hD, hC⟩, hS.F ht⟩) hS.2.2 dK_addOne_83
    · replace hf := ite_f h18 hf
      refine lv_aload_n (pc := 52) hx hb dK_addOne_52 rfl (lv_at hl 1 rfl) ?_
      obtain ⟨q19, hq19, eq19⟩ := at_2 (ad := ad) (ca := ca) (σ := σ1) hm0
      refine va_get (D := (dC, dI)) (cl := kCl) (C := RK) (T := TK) (N := 3) (pc := 53) hx hb hts inK hown hK.1 hP q19 eq19 rfl 0 (by decide) (hts _ wd_263) (fun _ h9 => h9) rfl dK_addOne_53 ?_
      refine lv_aload_n (pc := 56) hx hb dK_addOne_56 rfl (lv_at hl 1 rfl) ?_
      obtain ⟨q20, hq20, eq20⟩ := at_2 (ad := ad) (ca := ca) (σ := σ1) hm0
      refine va_get (D := (dC, dI)) (cl := kCl) (C := RK) (T := TK) (N := 3) (pc := 57) hx hb hts inK hown hK.1 hP q20 eq20 rfl 2 (by decide) (hts _ wd_262) (fun _ h9 => h9) rfl dK_addOne_57 ?_
      refine lv_lload_n (pc := 60) hx hb dK_addOne_60 rfl (lv_at hl 2 rfl) ?_
      obtain ⟨hv22, hf⟩ := ite_s hf
      obtain ⟨q23, hq23, eq23⟩ := at_13 (ad := ad) (ca := ca) (σ := σ1) (cm_2_0 hC hm0)
      refine va_last (D := (dC, dI)) (cl := kCl) (pc := 61) hx hb (hK.2 13 0 .long (cm_2_0 hC hm0) rfl) hP hD hS q23 0 eq23 rfl (hv22) dK_addOne_61 (fun H locs hP hD hS => ?_)
      obtain ⟨σ21, hσ21, hf⟩ := lt_9 hf
      obtain ⟨hP, hD⟩ := w9_rL 13 rfl hN hq23 hσ21 (pr_13) hP hD
      have hC : clo dom σ21.2.2 := by rw [hσ21]; exact hC
      refine lv_aload_n (pc := 62) hx hb dK_addOne_62 rfl (lv_at hl 1 rfl) ?_
      obtain ⟨q24, hq24, eq24⟩ := at_2 (ad := ad) (ca := ca) (σ := σ21) hm0
      refine va_get (D := (dC, dI)) (cl := kCl) (C := RK) (T := TK) (N := 3) (pc := 63) hx hb hts inK hown hK.1 hP q24 eq24 rfl 1 (by decide) (hts _ wd_264) (fun _ h9 => h9) rfl dK_addOne_63 ?_
      refine lv_aload_n (pc := 66) hx hb dK_addOne_66 rfl (lv_at hl 1 rfl) ?_
      obtain ⟨q25, hq25, eq25⟩ := at_2 (ad := ad) (ca := ca) (σ := σ21) hm0
      refine va_get (D := (dC, dI)) (cl := kCl) (C := RK) (T := TK) (N := 3) (pc := 67) hx hb hts inK hown hK.1 hP q25 eq25 rfl 2 (by decide) (hts _ wd_262) (fun _ h9 => h9) rfl dK_addOne_67 ?_
      refine lv_iload_n (pc := 70) hx hb dK_addOne_70 rfl (lv_at hl 3 rfl) ?_
      refine lv_i2b (pc := 71) hx hb dK_addOne_71 rfl ?_
      obtain ⟨hv27, hf⟩ := ite_s hf
      obtain ⟨q28, hq28, eq28⟩ := at_14 (ad := ad) (ca := ca) (σ := σ21) (cm_2_1 hC hm0)
      refine va_bast (D := (dC, dI)) (cl := kCl) (pc := 72) hx hb (hK.2 14 0 .byte (cm_2_1 hC hm0) rfl) hP hD hS q28 0 eq28 rfl (hv27) dK_addOne_72 (fun H locs hP hD hS => ?_)
      rw [narB] at hP hD
      obtain ⟨σ26, hσ26, hf⟩ := lt_9 hf
      obtain ⟨hP, hD⟩ := w9_rI 14 rfl hN hq28 hσ26 (pr_14) hP hD
      have hC : clo dom σ26.2.2 := by rw [hσ26]; exact hC
      refine lv_aload_n (pc := 73) hx hb dK_addOne_73 rfl (lv_at hl 1 rfl) ?_
      refine lv_dup (pc := 74) hx hb dK_addOne_74 rfl ?_
      obtain ⟨q29, hq29, eq29⟩ := at_2 (ad := ad) (ca := ca) (σ := σ26) hm0
      refine va_get (D := (dC, dI)) (cl := kCl) (C := RK) (T := TK) (N := 3) (pc := 75) hx hb hts inK hown hK.1 hP q29 eq29 rfl 2 (by decide) (hts _ wd_262) (fun _ h9 => h9) rfl dK_addOne_75 ?_
      refine lv_iconst (pc := 78) (v := 1) hx hb dK_addOne_78 (by decide) ?_
      refine lv_iadd (pc := 79) hx hb dK_addOne_79 ?_
      obtain ⟨q31, hq31, eq31⟩ := at_2 (ad := ad) (ca := ca) (σ := σ26) hm0
      refine va_put (D := (dC, dI)) (cl := kCl) (ci := 2) (v := .int ((xI σ26 302 0 0) + 1)) (ty := .int) (C := RK) (T := TK) (N := 3) (pc := 80) hx hb hts inK tyK tyK_ok nmK hown hK.1 hP hD hS q31 eq31 rfl 2 (by decide) (hts _ wd_262) (fun _ h9 => h9) rfl (by decide +kernel) (rfl) (rfl) (Nat.le_of_ble_eq_true rfl) dK_addOne_80 (fun H locs hP hD hS => ?_)
      obtain ⟨σ30, hσ30, hf⟩ := lt_9 hf
      obtain ⟨hP, hD⟩ := w9_rI 302 rfl hN hq31 hσ30 (pu_302) hP hD
      have hC : clo dom σ30.2.2 := by rw [hσ30]; exact hC
      obtain ⟨h8, h9⟩ := Prod.mk.inj (Option.some.inj hf)
      subst h9
      exact W.vret (pc := 83) hx hb hr (fun t ht hW => ⟨⟨(), rfl, trivial, by rw [ht]; exact hP, hD, hC⟩, hS.F ht⟩) hS.2.2 dK_addOne_83
def K_addAll_L7 (n : Nat) (kx7 : hT → Int32 → Int32 → Nat → Option (Unit × hT)) : Nat → hT → Int32 → Int32 → Nat → Option (Unit × hT)
  | 0, _, _, _, _ => none
  | k + 1, σ2, p3, p4, j5 => if p4 ≤ p3 then kx7 (σ2) p3 p4 j5 else if in9 p3 8 then Option.bind (K_addOne n σ2 (xL σ2 20 j5 (p3).toNatClampNeg) (C_pieceLength σ2 j5 p3)) fun ⟨y15, σ16⟩ => K_addAll_L7 n kx7 k (σ16) (p3 + 1) p4 j5 else none
def K_addAll (n : Nat) (σ : hT) (j1 : Nat) : Option (Unit × hT) := lt9 (α := hT → Int32 → Int32 → Nat → Option (Unit × hT)) (fun (σ2 : hT) (p3 : Int32) (p4 : Int32) (j5 : Nat) => some ((), σ2)) fun kx7 => K_addAll_L7 n kx7 n (σ) 0 (C_pieceCount σ j1) j1
set_option maxHeartbeats 4000000 in
set_option maxRecDepth 100000 in
theorem t_K_addAll (l : Launch) (dC : Nat → ClassId) (dI : Nat → Nat → Nat) (ad : Nat → Nat → Nat) (ca : Nat → Nat → ClassId) (dom : List (Nat × Nat)) (sz : Nat) (n : Nat) (σ : hT) (j1 : Nat) (hm0 : (2, 0) ∈ dom) (hm1 : (5, j1) ∈ dom) (hN : dom.Nodup) (hC : clo dom σ.2.2) (ρ : Unit) (σ' : hT) (hf : K_addAll n σ j1 = some (ρ, σ')) : Met l yK_addAll (.code yK_addAll cK_addAll 4 none :: aw) ({ frames := 2, cells := 0, slots := 0, locals := 36 }) (hW (dC, dI) sz ad ca dom σ [.ref (ad 2 0), .ref (ad 5 j1)]) (va_Qv (fun (_ : Unit) => True) (fun _ t => hB (dC, dI) (va_A (w9 ad ca dom σ) sz) ad ca dom σ' t) (va_A (w9 ad ca dom σ) sz)) 0 0 (va_A (w9 ad ca dom σ) sz) := by
  refine Met.ofW (cc := cK_addAll) (maxL := 4) (ret := none) (by decide) rfl ?_
  intro p e s m args below meth c s₁ B hml hv
  obtain ⟨rfl, hv⟩ := hv
  have hx := B.exec
  have hb := B.bytes
  have hr := B.returns
  have hts : ∀ w ∈ aw, w.before _ s = true := fun w h => atoms_spec (ws := (.code yK_addAll cK_addAll 4 none :: aw)) B.pre w (List.mem_cons_of_mem _ h)
  have hown : s.vm.findClass RK = some m.cls := findClass_of_methodNamed B.named
  have hlocks := B.notSynchronized
  obtain ⟨hsz, hP, hK, hD0, hG⟩ := hv
  subst hsz
  have hD := hD0.self (sz := s.heap.size)
  generalize hAe : va_A (w9 ad ca dom σ) s.heap.size = A at hD ⊢
  have hA : ∀ q : Nat, s.heap.size ≤ q → A q := fun q h => by rw [← hAe]; exact Or.inr h
  obtain ⟨H, hH⟩ : ∃ H, H = s.heap := ⟨_, rfl⟩
  have hS : va_S A s.heap H [] := by rw [hH]; exact va_S.rf
  rw [← hH] at hP ⊢
  unfold K_addAll at hf
  have hl := lv_entry ([.ref (ad 2 0), .ref (ad 5 j1)]) (n := 4) (Nat.le_of_ble_eq_true rfl)
  rw [lg_entry_eq]
  generalize (lg_sl ([.ref (ad 2 0), .ref (ad 5 j1)]) ++ List.replicate (4 - (lg_sl ([.ref (ad 2 0), .ref (ad 5 j1)])).length) Slot.unset).toArray = ls at hl ⊢
  have hl : lv_has ls 4 [(0, .ref (ad 2 0)), (1, .ref (ad 5 j1))] := hl
  refine lv_aload_n (pc := 0) hx hb dK_addAll_0 rfl (lv_at hl 1 rfl) ?_
  obtain ⟨q1, hq1, eq1⟩ := at_5 (ad := ad) (ca := ca) (σ := σ) hm1
  refine vp_callSi (pc := 1) (W.runV (As := []) (rest := []) ⟨hx, hb, hml, hown, hts⟩ (t_C_pieceCount l dC dI ad ca dom σ j1 hm1 hN hC (C_pieceCount σ j1) rfl) (cwV 0 hts (gV wd_266 wd_267 wd_268 wd_228 wd_265) rfl rfl rfl (by decide +kernel) ⟨Nat.le_of_ble_eq_true rfl, Nat.le_of_ble_eq_true rfl⟩) ⟨hR_blind, va_recv (q := (RC, TC, 5)) (q0 := q1) (ci := 5) hK.1 hP rfl eq1, hR_pre hP hK hG⟩ rfl rfl hl.1 rfl (lv_room (Nat.le_of_ble_eq_true rfl)) dK_addAll_1 ⟨Nat.le_of_ble_eq_true rfl, Nat.le_of_ble_eq_true rfl⟩) (fun r9 hr9 => ?_)
  refine W.eq (g2 := F0 m 4 ls [.int (C_pieceCount σ j1)]) (by rw [hr9]) ?_
  refine lv_istore_n (pc := 4) hx hb dK_addAll_4 rfl hl (by decide) rfl (fun ls hl => ?_)
  have hl : lv_has ls 4 [(2, .int (C_pieceCount σ j1)), (0, .ref (ad 2 0)), (1, .ref (ad 5 j1))] := hl
  refine lv_iconst (pc := 5) (v := 0) hx hb dK_addAll_5 (by decide) ?_
  refine lv_istore_n (pc := 6) hx hb dK_addAll_6 rfl hl (by decide) rfl (fun ls hl => ?_)
  have hl : lv_has ls 4 [(3, .int 0), (2, .int (C_pieceCount σ j1)), (0, .ref (ad 2 0)), (1, .ref (ad 5 j1))] := hl
  obtain ⟨kx7, hkx7, hf⟩ := lt_9 hf
  refine lpF (τ := (hT) × (Int32) × (Int32) × (Nat) × (Heap) × (List Loc) × (Array Slot)) (fun pc z => W p l e _ s m _ below meth c z.2.2.2.2.1 z.2.2.2.2.2.1 0 0 _ (F0 m pc z.2.2.2.2.2.2 [])) 7 33 (fun z => va_P (dC, dI) kCl (w9 ad ca dom z.1) z.2.2.2.2.1 ∧ va_D A (w9 ad ca dom z.1) ∧ va_S A s.heap z.2.2.2.2.1 z.2.2.2.2.2.1 ∧ clo dom z.1.2.2 ∧ lv_has z.2.2.2.2.2.2 4 [(3, .int z.2.1), (2, .int z.2.2.1), (0, .ref (ad 2 0)), (1, .ref (ad 5 z.2.2.2.1))] ∧ (5, z.2.2.2.1) ∈ dom) (fun k z => K_addAll_L7 n kx7 k z.1 z.2.1 z.2.2.1 z.2.2.2.1) (fun z => kx7 z.1 z.2.1 z.2.2.1 z.2.2.2.1) _ (fun z => rfl) ?_ ?_ n (σ, 0, (C_pieceCount σ j1), j1, H, _, ls) ⟨hP, hD, hS, hC, hl, hm1⟩ hf
  · rintro k ⟨σ2, p3, p4, j5, H, locs, ls⟩ ⟨hP, hD, hS, hC, hl, hm6⟩ hf ih8 hXkx7
    dsimp only at hP hD hS hC hl hm6 hf ih8 hXkx7 ⊢
    unfold K_addAll_L7 at hf
    have hl : lv_has ls 4 [(3, .int p3), (2, .int p4), (0, .ref (ad 2 0)), (1, .ref (ad 5 j5))] := hl
    refine lv_iload_n (pc := 7) hx hb dK_addAll_7 rfl (lv_at hl 0 rfl) ?_
    refine lv_iload_n (pc := 8) hx hb dK_addAll_8 rfl (lv_at hl 1 rfl) ?_
    refine lv_icmp_ge (pc := 9) (tgt := 33) hx hb dK_addAll_9 rfl (fun h9 => ?_) (fun h9 => ?_)
    · replace hf := ite_t h9 hf
      have hl := lv_sub hl (l' := [(3, .int p3), (2, .int p4), (0, .ref (ad 2 0)), (1, .ref (ad 5 j5))]) [0, 1, 2, 3] rfl
      exact hXkx7 (σ2, p3, p4, j5, H, _, ls) ⟨hP, hD, hS, hC, hl, hm6⟩ hf
    · replace hf := ite_f h9 hf
      refine lv_aload_n (pc := 12) hx hb dK_addAll_12 rfl (lv_at hl 2 rfl) ?_
      refine lv_aload_n (pc := 13) hx hb dK_addAll_13 rfl (lv_at hl 3 rfl) ?_
      obtain ⟨q10, hq10, eq10⟩ := at_5 (ad := ad) (ca := ca) (σ := σ2) hm6
      refine va_get (D := (dC, dI)) (cl := kCl) (C := RC) (T := TC) (N := 5) (pc := 14) hx hb hts inC hown hK.1 hP q10 eq10 rfl 0 (by decide) (hts _ wd_269) (fun _ h9 => h9) rfl dK_addAll_14 ?_
      refine lv_iload_n (pc := 17) hx hb dK_addAll_17 rfl (lv_at hl 0 rfl) ?_
      obtain ⟨hv11, hf⟩ := ite_s hf
      obtain ⟨q12, hq12, eq12⟩ := at_20 (ad := ad) (ca := ca) (σ := σ2) (cm_5_0 hC hm6)
      refine va_lald (D := (dC, dI)) (cl := kCl) (pc := 18) hx hb (hK.2 20 j5 .long (cm_5_0 hC hm6) rfl) hP q12 0 eq12 rfl (hv11) dK_addAll_18 ?_
      refine W.eq (g2 := F0 m 19 ls [.long (xL σ2 20 j5 (p3).toNatClampNeg), .ref (ad 2 0)]) rfl ?_
      refine lv_aload_n (pc := 19) hx hb dK_addAll_19 rfl (lv_at hl 3 rfl) ?_
      refine lv_iload_n (pc := 20) hx hb dK_addAll_20 rfl (lv_at hl 0 rfl) ?_
      obtain ⟨q13, hq13, eq13⟩ := at_5 (ad := ad) (ca := ca) (σ := σ2) hm6
      refine vp_callSi (pc := 21) (W.runV (As := [.int p3]) (rest := [.long (xL σ2 20 j5 (p3).toNatClampNeg), .ref (ad 2 0)]) ⟨hx, hb, hml, hown, hts⟩ (t_C_pieceLength l dC dI ad ca dom σ2 j5 p3 hm6 hN hC (C_pieceLength σ2 j5 p3) rfl) (cwV 1 hts (gV wd_270 wd_244 wd_245 wd_228 wd_242) rfl rfl rfl (by decide +kernel) ⟨Nat.le_of_ble_eq_true rfl, Nat.le_of_ble_eq_true rfl⟩) ⟨hR_blind, va_recv (q := (RC, TC, 5)) (q0 := q13) (ci := 5) hK.1 hP rfl eq13, hR_pre hP hK hG⟩ rfl rfl hl.1 rfl (lv_room (Nat.le_of_ble_eq_true rfl)) dK_addAll_21 ⟨Nat.le_of_ble_eq_true rfl, Nat.le_of_ble_eq_true rfl⟩) (fun r9 hr9 => ?_)
      refine W.eq (g2 := F0 m 24 ls [.int (C_pieceLength σ2 j5 p3), .long (xL σ2 20 j5 (p3).toNatClampNeg), .ref (ad 2 0)]) (by rw [hr9]) ?_
      obtain ⟨q14, hq14, eq14⟩ := at_2 (ad := ad) (ca := ca) (σ := σ2) hm0
      obtain ⟨⟨y15, σ16⟩, hy15, hf⟩ := ob hf
      have hFc := w9_free hD hS hA
      refine va_callv (pc := 24) (va_runV (As := [.long (xL σ2 20 j5 (p3).toNatClampNeg), .int (C_pieceLength σ2 j5 p3)]) (rest := []) ⟨hx, hb, hml, hown, hts⟩ (t_K_addOne l dC dI ad ca dom H.size n σ2 (xL σ2 20 j5 (p3).toNatClampNeg) (C_pieceLength σ2 j5 p3) hm0 hN hC y15 σ16 hy15) (cwV 2 hts (gV wd_272 wd_273 wd_274 wd_275 wd_271) rfl rfl rfl (by decide +kernel) ⟨Nat.le_of_ble_eq_true rfl, Nat.le_of_ble_eq_true rfl⟩) ⟨hW_blind, va_recv (q := (RK, TK, 3)) (q0 := q14) (ci := 2) hK.1 hP rfl eq14, hW_pre hP hK hD hG⟩ rfl rfl hl.1 rfl (lv_room (Nat.le_of_ble_eq_true rfl)) dK_addAll_24 ⟨Nat.le_of_ble_eq_true rfl, Nat.le_of_ble_eq_true rfl⟩) hS (fun q _ h => hFc q h) hFc (fun u t H1 locs ht hvm hr9 hB hz1 hk1 hS => ?_)
      obtain ⟨hP, hD, hC⟩ := hB
      rw [ht] at hP
      replace hD := hD.weaken (fun _ _ _ h => hFc _ h)
      generalize H1 = H at hP hS ⊢
      refine lv_iinc (pc := 27) (v := (p3 + 1)) hx hb dK_addAll_27 hl (k := 0) rfl (by rfl) (by decide) rfl (fun ls hl => ?_)
      have hl : lv_has ls 4 [(3, .int (p3 + 1)), (2, .int p4), (0, .ref (ad 2 0)), (1, .ref (ad 5 j5))] := hl
      refine lv_goto (pc := 30) (tgt := 7) hx hb dK_addAll_30 rfl ?_
      have hl := lv_sub hl (l' := [(3, .int (p3 + 1)), (2, .int p4), (0, .ref (ad 2 0)), (1, .ref (ad 5 j5))]) [0, 1, 2, 3] rfl
      exact ih8 (σ16, (p3 + 1), p4, j5, H, _, ls) ⟨hP, hD, hS, hC, hl, hm6⟩ hf
  · rintro ⟨σ2, p3, p4, j5, H, locs, ls⟩ ⟨hP, hD, hS, hC, hl, hm6⟩ hf
    dsimp only at hP hD hS hC hl hm6 hf ⊢
    rw [hkx7] at hf
    have hl : lv_has ls 4 [(3, .int p3), (2, .int p4), (0, .ref (ad 2 0)), (1, .ref (ad 5 j5))] := hl
    obtain ⟨h8, h9⟩ := Prod.mk.inj (Option.some.inj hf)
    subst h9
    exact W.vret (pc := 33) hx hb hr (fun t ht hW => ⟨⟨(), rfl, trivial, by rw [ht]; exact hP, hD, hC⟩, hS.F ht⟩) hS.2.2 dK_addAll_33
def K_sizeOf (n : Nat) (σ : hT) (j1 : Nat) : Option (Int32 × hT) := Option.bind (K_clear σ) fun ⟨y2, σ3⟩ => Option.bind (K_addAll n σ3 j1) fun ⟨y5, σ6⟩ => some ((xI σ6 302 0 0), σ6)
set_option maxHeartbeats 4000000 in
set_option maxRecDepth 100000 in
theorem t_K_sizeOf (l : Launch) (dC : Nat → ClassId) (dI : Nat → Nat → Nat) (ad : Nat → Nat → Nat) (ca : Nat → Nat → ClassId) (dom : List (Nat × Nat)) (sz : Nat) (n : Nat) (σ : hT) (j1 : Nat) (hm0 : (2, 0) ∈ dom) (hm1 : (5, j1) ∈ dom) (hN : dom.Nodup) (hC : clo dom σ.2.2) (ρ : Int32) (σ' : hT) (hf : K_sizeOf n σ j1 = some (ρ, σ')) : Met l yK_sizeOf (.code yK_sizeOf cK_sizeOf 2 (some .int) :: aw) ({ frames := 3, cells := 0, slots := 0, locals := 59 }) (hW (dC, dI) sz ad ca dom σ [.ref (ad 2 0), .ref (ad 5 j1)]) (va_Qi (fun r (_ : Unit) => r = ρ) (fun _ t => hB (dC, dI) (va_A (w9 ad ca dom σ) sz) ad ca dom σ' t) (va_A (w9 ad ca dom σ) sz)) 0 0 (va_A (w9 ad ca dom σ) sz) := by
  refine Met.ofW (cc := cK_sizeOf) (maxL := 2) (ret := (some .int)) (by decide) rfl ?_
  intro p e s m args below meth c s₁ B hml hv
  obtain ⟨rfl, hv⟩ := hv
  have hx := B.exec
  have hb := B.bytes
  have hr := B.returns
  have hts : ∀ w ∈ aw, w.before _ s = true := fun w h => atoms_spec (ws := (.code yK_sizeOf cK_sizeOf 2 (some .int) :: aw)) B.pre w (List.mem_cons_of_mem _ h)
  have hown : s.vm.findClass RK = some m.cls := findClass_of_methodNamed B.named
  have hlocks := B.notSynchronized
  obtain ⟨hsz, hP, hK, hD0, hG⟩ := hv
  subst hsz
  have hD := hD0.self (sz := s.heap.size)
  generalize hAe : va_A (w9 ad ca dom σ) s.heap.size = A at hD ⊢
  have hA : ∀ q : Nat, s.heap.size ≤ q → A q := fun q h => by rw [← hAe]; exact Or.inr h
  obtain ⟨H, hH⟩ : ∃ H, H = s.heap := ⟨_, rfl⟩
  have hS : va_S A s.heap H [] := by rw [hH]; exact va_S.rf
  rw [← hH] at hP ⊢
  unfold K_sizeOf at hf
  have hl := lv_entry ([.ref (ad 2 0), .ref (ad 5 j1)]) (n := 2) (Nat.le_of_ble_eq_true rfl)
  rw [lg_entry_eq]
  generalize (lg_sl ([.ref (ad 2 0), .ref (ad 5 j1)]) ++ List.replicate (2 - (lg_sl ([.ref (ad 2 0), .ref (ad 5 j1)])).length) Slot.unset).toArray = ls at hl ⊢
  have hl : lv_has ls 2 [(0, .ref (ad 2 0)), (1, .ref (ad 5 j1))] := hl
  refine lv_aload_n (pc := 0) hx hb dK_sizeOf_0 rfl (lv_at hl 0 rfl) ?_
  obtain ⟨q1, hq1, eq1⟩ := at_2 (ad := ad) (ca := ca) (σ := σ) hm0
  obtain ⟨⟨y2, σ3⟩, hy2, hf⟩ := ob hf
  have hFc := w9_free hD hS hA
  refine va_callv (pc := 1) (va_runV (As := []) (rest := []) ⟨hx, hb, hml, hown, hts⟩ (t_K_clear l dC dI ad ca dom H.size σ hm0 hN hC y2 σ3 hy2) (cwV 0 hts (gV wd_277 wd_278 wd_279 wd_275 wd_276) rfl rfl rfl (by decide +kernel) ⟨Nat.le_of_ble_eq_true rfl, Nat.le_of_ble_eq_true rfl⟩) ⟨hW_blind, va_recv (q := (RK, TK, 3)) (q0 := q1) (ci := 2) hK.1 hP rfl eq1, hW_pre hP hK hD hG⟩ rfl rfl hl.1 rfl (lv_room (Nat.le_of_ble_eq_true rfl)) dK_sizeOf_1 ⟨Nat.le_of_ble_eq_true rfl, Nat.le_of_ble_eq_true rfl⟩) hS (fun q _ h => hFc q h) hFc (fun u t H1 locs ht hvm hr9 hB hz1 hk1 hS => ?_)
  obtain ⟨hP, hD, hC⟩ := hB
  rw [ht] at hP
  replace hD := hD.weaken (fun _ _ _ h => hFc _ h)
  generalize H1 = H at hP hS ⊢
  refine lv_aload_n (pc := 4) hx hb dK_sizeOf_4 rfl (lv_at hl 0 rfl) ?_
  refine lv_aload_n (pc := 5) hx hb dK_sizeOf_5 rfl (lv_at hl 1 rfl) ?_
  obtain ⟨q4, hq4, eq4⟩ := at_2 (ad := ad) (ca := ca) (σ := σ3) hm0
  obtain ⟨⟨y5, σ6⟩, hy5, hf⟩ := ob hf
  have hFc := w9_free hD hS hA
  refine va_callv (pc := 6) (va_runV (As := [.ref (ad 5 j1)]) (rest := []) ⟨hx, hb, hml, hown, hts⟩ (t_K_addAll l dC dI ad ca dom H.size n σ3 j1 hm0 hm1 hN hC y5 σ6 hy5) (cwV 1 hts (gV wd_281 wd_282 wd_283 wd_275 wd_280) rfl rfl rfl (by decide +kernel) ⟨Nat.le_of_ble_eq_true rfl, Nat.le_of_ble_eq_true rfl⟩) ⟨hW_blind, va_recv (q := (RK, TK, 3)) (q0 := q4) (ci := 2) hK.1 hP rfl eq4, hW_pre hP hK hD hG⟩ rfl rfl hl.1 rfl (lv_room (Nat.le_of_ble_eq_true rfl)) dK_sizeOf_6 ⟨Nat.le_of_ble_eq_true rfl, Nat.le_of_ble_eq_true rfl⟩) hS (fun q _ h => hFc q h) hFc (fun u t H1 locs ht hvm hr9 hB hz1 hk1 hS => ?_)
  obtain ⟨hP, hD, hC⟩ := hB
  rw [ht] at hP
  replace hD := hD.weaken (fun _ _ _ h => hFc _ h)
  generalize H1 = H at hP hS ⊢
  refine lv_aload_n (pc := 9) hx hb dK_sizeOf_9 rfl (lv_at hl 0 rfl) ?_
  obtain ⟨q7, hq7, eq7⟩ := at_2 (ad := ad) (ca := ca) (σ := σ6) hm0
  refine va_get (D := (dC, dI)) (cl := kCl) (C := RK) (T := TK) (N := 3) (pc := 10) hx hb hts inK hown hK.1 hP q7 eq7 rfl 2 (by decide) (hts _ wd_262) (fun _ h9 => h9) rfl dK_sizeOf_10 ?_
  obtain ⟨h8, h9⟩ := Prod.mk.inj (Option.some.inj hf)
  subst h9
  exact W.iret (pc := 13) hx hb hr (fun t ht hW => ⟨⟨_, (), rfl, h8, by rw [ht]; exact hP, hD, hC⟩, hS.F ht⟩) hS.2.2 dK_sizeOf_13
def B_takes (σ : hT) (j0 : Nat) (a1 : Int32) (a2 : Int32) : Option (Int32 × hT) := if in9 a1 24 then lt9 (α := hT → Option (Int32 × hT)) (fun (σ5 : hT) => if in9 a1 24 then if (xI σ5 11 j0 (a1).toNatClampNeg) = a2 then some (1, σ5) else some (0, σ5) else none) fun x4 => if (xI σ 11 j0 (a1).toNatClampNeg) = (-1) then if in9 a1 24 then lt9 (sI σ 11 j0 (a1).toNatClampNeg a2) fun σ8 => if in9 (xI σ8 202 j0 0) 24 then lt9 (sI σ8 12 j0 ((xI σ8 202 j0 0)).toNatClampNeg a1) fun σ13 => lt9 (sI σ13 202 j0 0 ((xI σ13 202 j0 0) + 1)) fun σ17 => x4 (σ17) else none else none else x4 (σ) else none
set_option maxHeartbeats 4000000 in
set_option maxRecDepth 100000 in
theorem t_B_takes (l : Launch) (dC : Nat → ClassId) (dI : Nat → Nat → Nat) (ad : Nat → Nat → Nat) (ca : Nat → Nat → ClassId) (dom : List (Nat × Nat)) (sz : Nat) (σ : hT) (j0 : Nat) (a1 : Int32) (a2 : Int32) (hm0 : (1, j0) ∈ dom) (hN : dom.Nodup) (hC : clo dom σ.2.2) (ρ : Int32) (σ' : hT) (hf : B_takes σ j0 a1 a2 = some (ρ, σ')) : Met l yB_takes (.code yB_takes cB_takes 3 (some .boolean) :: aw) ({ frames := 0, cells := 0, slots := 0, locals := 0 }) (hW (dC, dI) sz ad ca dom σ [.ref (ad 1 j0), .int a1, .int a2]) (va_Qi (fun r (_ : Unit) => r = ρ) (fun _ t => hB (dC, dI) (va_A (w9 ad ca dom σ) sz) ad ca dom σ' t) (va_A (w9 ad ca dom σ) sz)) 0 0 (va_A (w9 ad ca dom σ) sz) := by
  refine Met.ofW (cc := cB_takes) (maxL := 3) (ret := (some .boolean)) (by decide) rfl ?_
  intro p e s m args below meth c s₁ B hml hv
  obtain ⟨rfl, hv⟩ := hv
  have hx := B.exec
  have hb := B.bytes
  have hr := B.returns
  have hts : ∀ w ∈ aw, w.before _ s = true := fun w h => atoms_spec (ws := (.code yB_takes cB_takes 3 (some .boolean) :: aw)) B.pre w (List.mem_cons_of_mem _ h)
  have hown : s.vm.findClass RB = some m.cls := findClass_of_methodNamed B.named
  have hlocks := B.notSynchronized
  obtain ⟨hsz, hP, hK, hD0, hG⟩ := hv
  subst hsz
  have hD := hD0.self (sz := s.heap.size)
  generalize hAe : va_A (w9 ad ca dom σ) s.heap.size = A at hD ⊢
  have hA : ∀ q : Nat, s.heap.size ≤ q → A q := fun q h => by rw [← hAe]; exact Or.inr h
  obtain ⟨H, hH⟩ : ∃ H, H = s.heap := ⟨_, rfl⟩
  have hS : va_S A s.heap H [] := by rw [hH]; exact va_S.rf
  rw [← hH] at hP ⊢
  unfold B_takes at hf
  have hl := lv_entry ([.ref (ad 1 j0), .int a1, .int a2]) (n := 3) (Nat.le_of_ble_eq_true rfl)
  rw [lg_entry_eq]
  generalize (lg_sl ([.ref (ad 1 j0), .int a1, .int a2]) ++ List.replicate (3 - (lg_sl ([.ref (ad 1 j0), .int a1, .int a2])).length) Slot.unset).toArray = ls at hl ⊢
  have hl : lv_has ls 3 [(0, .ref (ad 1 j0)), (1, .int a1), (2, .int a2)] := hl
  refine lv_aload_n (pc := 0) hx hb dB_takes_0 rfl (lv_at hl 0 rfl) ?_
  obtain ⟨q1, hq1, eq1⟩ := at_1 (ad := ad) (ca := ca) (σ := σ) hm0
  refine va_get (D := (dC, dI)) (cl := kCl) (C := RB) (T := TB) (N := 3) (pc := 1) hx hb hts inB hown hK.1 hP q1 eq1 rfl 0 (by decide) (hts _ wd_284) (fun _ h9 => h9) rfl dB_takes_1 ?_
  refine lv_iload_n (pc := 4) hx hb dB_takes_4 rfl (lv_at hl 1 rfl) ?_
  obtain ⟨hv2, hf⟩ := ite_s hf
  obtain ⟨q3, hq3, eq3⟩ := at_11 (ad := ad) (ca := ca) (σ := σ) (cm_1_0 hC hm0)
  refine va_iald (D := (dC, dI)) (cl := kCl) (pc := 5) hx hb (hK.2 11 j0 .int (cm_1_0 hC hm0) rfl) hP q3 0 eq3 rfl (hv2) dB_takes_5 ?_
  refine W.eq (g2 := F0 m 6 ls [.int (xI σ 11 j0 (a1).toNatClampNeg)]) rfl ?_
  refine lv_iconst (pc := 6) (v := (-1)) hx hb dB_takes_6 (by decide) ?_
  obtain ⟨x4, hx4, hf⟩ := lt_9 hf
  refine jnF (τ := (hT) × (Heap) × (List Loc) × (Array Slot)) (fun pc st z => W p l e _ s m _ below meth c z.2.1 z.2.2.1 0 0 _ (F0 m pc z.2.2.2 st)) (pc0 := 7) (st0 := [.int (-1), .int (xI σ 11 j0 (a1).toNatClampNeg)]) (z0 := (σ, H, _, ls)) 37 (fun z => []) (fun z => va_P (dC, dI) kCl (w9 ad ca dom z.1) z.2.1 ∧ va_D A (w9 ad ca dom z.1) ∧ va_S A s.heap z.2.1 z.2.2.1 ∧ clo dom z.1.2.2 ∧ lv_has z.2.2.2 3 [(0, .ref (ad 1 j0)), (1, .int a1), (2, .int a2)]) (fun z => x4 z.1) (ρ, σ') ?_ ?_
  · intro hJx4
    dsimp only at hJx4 ⊢
    refine lv_icmp_ne (pc := 7) (tgt := 37) hx hb dB_takes_7 rfl (fun h6 => ?_) (fun h6 => ?_)
    · replace hf := ite_f h6 hf
      have hl := lv_sub hl (l' := [(0, .ref (ad 1 j0)), (1, .int a1), (2, .int a2)]) [0, 1, 2] rfl
      exact hJx4 (σ, H, _, ls) ⟨hP, hD, hS, hC, hl⟩ hf
    · replace hf := ite_t h6 hf
      refine lv_aload_n (pc := 10) hx hb dB_takes_10 rfl (lv_at hl 0 rfl) ?_
      obtain ⟨q7, hq7, eq7⟩ := at_1 (ad := ad) (ca := ca) (σ := σ) hm0
      refine va_get (D := (dC, dI)) (cl := kCl) (C := RB) (T := TB) (N := 3) (pc := 11) hx hb hts inB hown hK.1 hP q7 eq7 rfl 0 (by decide) (hts _ wd_284) (fun _ h9 => h9) rfl dB_takes_11 ?_
      refine lv_iload_n (pc := 14) hx hb dB_takes_14 rfl (lv_at hl 1 rfl) ?_
      refine lv_iload_n (pc := 15) hx hb dB_takes_15 rfl (lv_at hl 2 rfl) ?_
      obtain ⟨hv9, hf⟩ := ite_s hf
      obtain ⟨q10, hq10, eq10⟩ := at_11 (ad := ad) (ca := ca) (σ := σ) (cm_1_0 hC hm0)
      refine va_iast (D := (dC, dI)) (cl := kCl) (pc := 16) hx hb (hK.2 11 j0 .int (cm_1_0 hC hm0) rfl) hP hD hS q10 0 eq10 rfl (hv9) dB_takes_16 (fun H locs hP hD hS => ?_)
      obtain ⟨σ8, hσ8, hf⟩ := lt_9 hf
      obtain ⟨hP, hD⟩ := w9_rI 11 rfl hN hq10 hσ8 (pr_11) hP hD
      have hC : clo dom σ8.2.2 := by rw [hσ8]; exact hC
      refine lv_aload_n (pc := 17) hx hb dB_takes_17 rfl (lv_at hl 0 rfl) ?_
      obtain ⟨q11, hq11, eq11⟩ := at_1 (ad := ad) (ca := ca) (σ := σ8) hm0
      refine va_get (D := (dC, dI)) (cl := kCl) (C := RB) (T := TB) (N := 3) (pc := 18) hx hb hts inB hown hK.1 hP q11 eq11 rfl 1 (by decide) (hts _ wd_285) (fun _ h9 => h9) rfl dB_takes_18 ?_
      refine lv_aload_n (pc := 21) hx hb dB_takes_21 rfl (lv_at hl 0 rfl) ?_
      obtain ⟨q12, hq12, eq12⟩ := at_1 (ad := ad) (ca := ca) (σ := σ8) hm0
      refine va_get (D := (dC, dI)) (cl := kCl) (C := RB) (T := TB) (N := 3) (pc := 22) hx hb hts inB hown hK.1 hP q12 eq12 rfl 2 (by decide) (hts _ wd_286) (fun _ h9 => h9) rfl dB_takes_22 ?_
      refine lv_iload_n (pc := 25) hx hb dB_takes_25 rfl (lv_at hl 1 rfl) ?_
      obtain ⟨hv14, hf⟩ := ite_s hf
      obtain ⟨q15, hq15, eq15⟩ := at_12 (ad := ad) (ca := ca) (σ := σ8) (cm_1_1 hC hm0)
      refine va_iast (D := (dC, dI)) (cl := kCl) (pc := 26) hx hb (hK.2 12 j0 .int (cm_1_1 hC hm0) rfl) hP hD hS q15 0 eq15 rfl (hv14) dB_takes_26 (fun H locs hP hD hS => ?_)
      obtain ⟨σ13, hσ13, hf⟩ := lt_9 hf
      obtain ⟨hP, hD⟩ := w9_rI 12 rfl hN hq15 hσ13 (pr_12) hP hD
      have hC : clo dom σ13.2.2 := by rw [hσ13]; exact hC
      refine lv_aload_n (pc := 27) hx hb dB_takes_27 rfl (lv_at hl 0 rfl) ?_
      refine lv_dup (pc := 28) hx hb dB_takes_28 rfl ?_
      obtain ⟨q16, hq16, eq16⟩ := at_1 (ad := ad) (ca := ca) (σ := σ13) hm0
      refine va_get (D := (dC, dI)) (cl := kCl) (C := RB) (T := TB) (N := 3) (pc := 29) hx hb hts inB hown hK.1 hP q16 eq16 rfl 2 (by decide) (hts _ wd_286) (fun _ h9 => h9) rfl dB_takes_29 ?_
      refine lv_iconst (pc := 32) (v := 1) hx hb dB_takes_32 (by decide) ?_
      refine lv_iadd (pc := 33) hx hb dB_takes_33 ?_
      obtain ⟨q18, hq18, eq18⟩ := at_1 (ad := ad) (ca := ca) (σ := σ13) hm0
      refine va_put (D := (dC, dI)) (cl := kCl) (ci := 1) (v := .int ((xI σ13 202 j0 0) + 1)) (ty := .int) (C := RB) (T := TB) (N := 3) (pc := 34) hx hb hts inB tyB tyB_ok nmB hown hK.1 hP hD hS q18 eq18 rfl 2 (by decide) (hts _ wd_286) (fun _ h9 => h9) rfl (by decide +kernel) (rfl) (rfl) (Nat.le_of_ble_eq_true rfl) dB_takes_34 (fun H locs hP hD hS => ?_)
      obtain ⟨σ17, hσ17, hf⟩ := lt_9 hf
      obtain ⟨hP, hD⟩ := w9_rI 202 rfl hN hq18 hσ17 (pu_202) hP hD
      have hC : clo dom σ17.2.2 := by rw [hσ17]; exact hC
      have hl := lv_sub hl (l' := [(0, .ref (ad 1 j0)), (1, .int a1), (2, .int a2)]) [0, 1, 2] rfl
      exact hJx4 (σ17, H, _, ls) ⟨hP, hD, hS, hC, hl⟩ hf
  · rintro ⟨σ5, H, locs, ls⟩ ⟨hP, hD, hS, hC, hl⟩ hf
    dsimp only at hP hD hS hC hl hf ⊢
    rw [hx4] at hf
    have hl : lv_has ls 3 [(0, .ref (ad 1 j0)), (1, .int a1), (2, .int a2)] := hl
    refine lv_aload_n (pc := 37) hx hb dB_takes_37 rfl (lv_at hl 0 rfl) ?_
    obtain ⟨q19, hq19, eq19⟩ := at_1 (ad := ad) (ca := ca) (σ := σ5) hm0
    refine va_get (D := (dC, dI)) (cl := kCl) (C := RB) (T := TB) (N := 3) (pc := 38) hx hb hts inB hown hK.1 hP q19 eq19 rfl 0 (by decide) (hts _ wd_284) (fun _ h9 => h9) rfl dB_takes_38 ?_
    refine lv_iload_n (pc := 41) hx hb dB_takes_41 rfl (lv_at hl 1 rfl) ?_
    obtain ⟨hv20, hf⟩ := ite_s hf
    obtain ⟨q21, hq21, eq21⟩ := at_11 (ad := ad) (ca := ca) (σ := σ5) (cm_1_0 hC hm0)
    refine va_iald (D := (dC, dI)) (cl := kCl) (pc := 42) hx hb (hK.2 11 j0 .int (cm_1_0 hC hm0) rfl) hP q21 0 eq21 rfl (hv20) dB_takes_42 ?_
    refine W.eq (g2 := F0 m 43 ls [.int (xI σ5 11 j0 (a1).toNatClampNeg)]) rfl ?_
    refine lv_iload_n (pc := 43) hx hb dB_takes_43 rfl (lv_at hl 2 rfl) ?_
    refine lv_icmp_ne (pc := 44) (tgt := 51) hx hb dB_takes_44 rfl (fun h22 => ?_) (fun h22 => ?_)
    · replace hf := ite_f h22 hf
      refine lv_iconst (pc := 51) (v := 0) hx hb dB_takes_51 (by decide) ?_
      obtain ⟨h8, h9⟩ := Prod.mk.inj (Option.some.inj hf)
      subst h9
      exact W.zret (pc := 52) hx hb hr (rfl) (fun t ht hW => ⟨⟨_, (), rfl, h8, by rw [ht]; exact hP, hD, hC⟩, hS.F ht⟩) hS.2.2 dB_takes_52
    · replace hf := ite_t h22 hf
      refine lv_iconst (pc := 47) (v := 1) hx hb dB_takes_47 (by decide) ?_
      refine lv_goto (pc := 48) (tgt := 52) hx hb dB_takes_48 rfl ?_
      obtain ⟨h8, h9⟩ := Prod.mk.inj (Option.some.inj hf)
      subst h9
      exact W.zret (pc := 52) hx hb hr (rfl) (fun t ht hW => ⟨⟨_, (), rfl, h8, by rw [ht]; exact hP, hD, hC⟩, hS.F ht⟩) hS.2.2 dB_takes_52
def B_drawingByNumber_L4 (n : Nat) (σ : hT) (kx6 : Int32 → Int32 → Nat → Int32 → Option (Int32)) : Nat → Int32 → Int32 → Nat → Int32 → Option (Int32)
  | 0, _, _, _, _ => none
  | k + 1, p1, p2, j3, p5 => if 24 ≤ p1 then kx6 p1 p2 j3 p5 else if in9 p1 24 then if (xI σ 11 j3 (p1).toNatClampNeg) = (-1) then B_drawingByNumber_L4 n σ kx6 k (p1 + 1) p2 j3 p5 else if p2 = p5 then some p1 else B_drawingByNumber_L4 n σ kx6 k (p1 + 1) (p2 + 1) j3 p5 else none
def B_drawingByNumber (n : Nat) (σ : hT) (j0 : Nat) (a1 : Int32) : Option (Int32) := lt9 (α := Int32 → Int32 → Nat → Int32 → Option (Int32)) (fun (p1 : Int32) (p2 : Int32) (j3 : Nat) (p5 : Int32) => some (-1)) fun kx6 => B_drawingByNumber_L4 n σ kx6 n 0 0 j0 a1
set_option maxHeartbeats 4000000 in
set_option maxRecDepth 100000 in
theorem t_B_drawingByNumber (l : Launch) (dC : Nat → ClassId) (dI : Nat → Nat → Nat) (ad : Nat → Nat → Nat) (ca : Nat → Nat → ClassId) (dom : List (Nat × Nat)) (n : Nat) (σ : hT) (j0 : Nat) (a1 : Int32) (hm0 : (1, j0) ∈ dom) (hN : dom.Nodup) (hC : clo dom σ.2.2) (ρ : Int32) (hf : B_drawingByNumber n σ j0 a1 = some ρ) : Met l yB_drawingByNumber (.code yB_drawingByNumber cB_drawingByNumber 4 (some .int) :: aw) ({ frames := 0, cells := 0, slots := 0, locals := 0 }) (hR (dC, dI) ad ca dom σ [.ref (ad 1 j0), .int a1]) (vp_Si (fun r => r = ρ)) 0 0 (fun _ => False) := by
  refine Met.ofW (cc := cB_drawingByNumber) (maxL := 4) (ret := (some .int)) (by decide) rfl ?_
  intro p e s m args below meth c s₁ B hml hv
  obtain ⟨rfl, hv⟩ := hv
  have hx := B.exec
  have hb := B.bytes
  have hr := B.returns
  have hts : ∀ w ∈ aw, w.before _ s = true := fun w h => atoms_spec (ws := (.code yB_drawingByNumber cB_drawingByNumber 4 (some .int) :: aw)) B.pre w (List.mem_cons_of_mem _ h)
  have hown : s.vm.findClass RB = some m.cls := findClass_of_methodNamed B.named
  have hlocks := B.notSynchronized
  obtain ⟨hP, hK, hG⟩ := hv
  obtain ⟨H, hH⟩ : ∃ H, H = s.heap := ⟨_, rfl⟩
  rw [← hH] at hP ⊢
  unfold B_drawingByNumber at hf
  have hl := lv_entry ([.ref (ad 1 j0), .int a1]) (n := 4) (Nat.le_of_ble_eq_true rfl)
  rw [lg_entry_eq]
  generalize (lg_sl ([.ref (ad 1 j0), .int a1]) ++ List.replicate (4 - (lg_sl ([.ref (ad 1 j0), .int a1])).length) Slot.unset).toArray = ls at hl ⊢
  have hl : lv_has ls 4 [(0, .ref (ad 1 j0)), (1, .int a1)] := hl
  refine lv_iconst (pc := 0) (v := 0) hx hb dB_drawingByNumber_0 (by decide) ?_
  refine lv_istore_n (pc := 1) hx hb dB_drawingByNumber_1 rfl hl (by decide) rfl (fun ls hl => ?_)
  have hl : lv_has ls 4 [(2, .int 0), (0, .ref (ad 1 j0)), (1, .int a1)] := hl
  refine lv_iconst (pc := 2) (v := 0) hx hb dB_drawingByNumber_2 (by decide) ?_
  refine lv_istore_n (pc := 3) hx hb dB_drawingByNumber_3 rfl hl (by decide) rfl (fun ls hl => ?_)
  have hl : lv_has ls 4 [(3, .int 0), (2, .int 0), (0, .ref (ad 1 j0)), (1, .int a1)] := hl
  obtain ⟨kx6, hkx6, hf⟩ := lt_9 hf
  refine lpF (τ := (Int32) × (Int32) × (Nat) × (Int32) × (Array Slot)) (fun pc z => W p l e _ s m _ below meth c H ([]) 0 0 _ (F0 m pc z.2.2.2.2 [])) 4 36 (fun z => lv_has z.2.2.2.2 4 [(3, .int z.1), (2, .int z.2.1), (0, .ref (ad 1 z.2.2.1)), (1, .int z.2.2.2.1)] ∧ (1, z.2.2.1) ∈ dom) (fun k z => B_drawingByNumber_L4 n σ kx6 k z.1 z.2.1 z.2.2.1 z.2.2.2.1) (fun z => kx6 z.1 z.2.1 z.2.2.1 z.2.2.2.1) _ (fun z => rfl) ?_ ?_ n (0, 0, j0, a1, ls) ⟨hl, hm0⟩ hf
  · rintro k ⟨p1, p2, j3, p5, ls⟩ ⟨hl, hm4⟩ hf ih7 hXkx6
    dsimp only at hl hm4 hf ih7 hXkx6 ⊢
    unfold B_drawingByNumber_L4 at hf
    have hl : lv_has ls 4 [(3, .int p1), (2, .int p2), (0, .ref (ad 1 j3)), (1, .int p5)] := hl
    refine lv_iload_n (pc := 4) hx hb dB_drawingByNumber_4 rfl (lv_at hl 0 rfl) ?_
    refine lv_bipush (pc := 5) (v := 24) hx hb dB_drawingByNumber_5 (by decide) ?_
    refine lv_icmp_ge (pc := 7) (tgt := 36) hx hb dB_drawingByNumber_7 rfl (fun h8 => ?_) (fun h8 => ?_)
    · replace hf := ite_t h8 hf
      have hl := lv_sub hl (l' := [(3, .int p1), (2, .int p2), (0, .ref (ad 1 j3)), (1, .int p5)]) [0, 1, 2, 3] rfl
      exact hXkx6 (p1, p2, j3, p5, ls) ⟨hl, hm4⟩ hf
    · replace hf := ite_f h8 hf
      refine lv_aload_n (pc := 10) hx hb dB_drawingByNumber_10 rfl (lv_at hl 2 rfl) ?_
      obtain ⟨q9, hq9, eq9⟩ := at_1 (ad := ad) (ca := ca) (σ := σ) hm4
      refine va_get (D := (dC, dI)) (cl := kCl) (C := RB) (T := TB) (N := 3) (pc := 11) hx hb hts inB hown hK.1 hP q9 eq9 rfl 0 (by decide) (hts _ wd_284) (fun _ h9 => h9) rfl dB_drawingByNumber_11 ?_
      refine lv_iload_n (pc := 14) hx hb dB_drawingByNumber_14 rfl (lv_at hl 0 rfl) ?_
      obtain ⟨hv10, hf⟩ := ite_s hf
      obtain ⟨q11, hq11, eq11⟩ := at_11 (ad := ad) (ca := ca) (σ := σ) (cm_1_0 hC hm4)
      refine va_iald (D := (dC, dI)) (cl := kCl) (pc := 15) hx hb (hK.2 11 j3 .int (cm_1_0 hC hm4) rfl) hP q11 0 eq11 rfl (hv10) dB_drawingByNumber_15 ?_
      refine W.eq (g2 := F0 m 16 ls [.int (xI σ 11 j3 (p1).toNatClampNeg)]) rfl ?_
      refine lv_iconst (pc := 16) (v := (-1)) hx hb dB_drawingByNumber_16 (by decide) ?_
      refine lv_icmp_eq (pc := 17) (tgt := 30) hx hb dB_drawingByNumber_17 rfl (fun h12 => ?_) (fun h12 => ?_)
      · replace hf := ite_t h12 hf
        refine lv_iinc (pc := 30) (v := (p1 + 1)) hx hb dB_drawingByNumber_30 hl (k := 0) rfl (by rfl) (by decide) rfl (fun ls hl => ?_)
        have hl : lv_has ls 4 [(3, .int (p1 + 1)), (2, .int p2), (0, .ref (ad 1 j3)), (1, .int p5)] := hl
        refine lv_goto (pc := 33) (tgt := 4) hx hb dB_drawingByNumber_33 rfl ?_
        have hl := lv_sub hl (l' := [(3, .int (p1 + 1)), (2, .int p2), (0, .ref (ad 1 j3)), (1, .int p5)]) [0, 1, 2, 3] rfl
        exact ih7 ((p1 + 1), p2, j3, p5, ls) ⟨hl, hm4⟩ hf
      · replace hf := ite_f h12 hf
        refine lv_iload_n (pc := 20) hx hb dB_drawingByNumber_20 rfl (lv_at hl 1 rfl) ?_
        refine lv_iload_n (pc := 21) hx hb dB_drawingByNumber_21 rfl (lv_at hl 3 rfl) ?_
        refine lv_icmp_ne (pc := 22) (tgt := 27) hx hb dB_drawingByNumber_22 rfl (fun h13 => ?_) (fun h13 => ?_)
        · replace hf := ite_f h13 hf
          refine lv_iinc (pc := 27) (v := (p2 + 1)) hx hb dB_drawingByNumber_27 hl (k := 1) rfl (by rfl) (by decide) rfl (fun ls hl => ?_)
          have hl : lv_has ls 4 [(2, .int (p2 + 1)), (3, .int p1), (0, .ref (ad 1 j3)), (1, .int p5)] := hl
          refine lv_iinc (pc := 30) (v := (p1 + 1)) hx hb dB_drawingByNumber_30 hl (k := 1) rfl (by rfl) (by decide) rfl (fun ls hl => ?_)
          have hl : lv_has ls 4 [(3, .int (p1 + 1)), (2, .int (p2 + 1)), (0, .ref (ad 1 j3)), (1, .int p5)] := hl
          refine lv_goto (pc := 33) (tgt := 4) hx hb dB_drawingByNumber_33 rfl ?_
          have hl := lv_sub hl (l' := [(3, .int (p1 + 1)), (2, .int (p2 + 1)), (0, .ref (ad 1 j3)), (1, .int p5)]) [0, 1, 2, 3] rfl
          exact ih7 ((p1 + 1), (p2 + 1), j3, p5, ls) ⟨hl, hm4⟩ hf
        · replace hf := ite_t h13 hf
          refine lv_iload_n (pc := 25) hx hb dB_drawingByNumber_25 rfl (lv_at hl 0 rfl) ?_
          exact W.iret (pc := 26) hx hb hr (fun t ht hW => ⟨_, rfl, (Option.some.inj hf), ht.trans hH⟩) (fun q h => nomatch h) dB_drawingByNumber_26
  · rintro ⟨p1, p2, j3, p5, ls⟩ ⟨hl, hm4⟩ hf
    dsimp only at hl hm4 hf ⊢
    rw [hkx6] at hf
    have hl : lv_has ls 4 [(3, .int p1), (2, .int p2), (0, .ref (ad 1 j3)), (1, .int p5)] := hl
    refine lv_iconst (pc := 36) (v := (-1)) hx hb dB_drawingByNumber_36 (by decide) ?_
    exact W.iret (pc := 37) hx hb hr (fun t ht hW => ⟨_, rfl, (Option.some.inj hf), ht.trans hH⟩) (fun q h => nomatch h) dB_drawingByNumber_37
def B_pagesTaken (σ : hT) (j0 : Nat) : Int32 := (1 + ((((xI σ 202 j0 0) + 8) - 1) / 8))
set_option maxHeartbeats 4000000 in
set_option maxRecDepth 100000 in
theorem t_B_pagesTaken (l : Launch) (dC : Nat → ClassId) (dI : Nat → Nat → Nat) (ad : Nat → Nat → Nat) (ca : Nat → Nat → ClassId) (dom : List (Nat × Nat)) (σ : hT) (j0 : Nat) (hm0 : (1, j0) ∈ dom) (hN : dom.Nodup) (hC : clo dom σ.2.2) (ρ : Int32) (hf : B_pagesTaken σ j0 = ρ) : Met l yB_pagesTaken (.code yB_pagesTaken cB_pagesTaken 1 (some .int) :: aw) ({ frames := 0, cells := 0, slots := 0, locals := 0 }) (hR (dC, dI) ad ca dom σ [.ref (ad 1 j0)]) (vp_Si (fun r => r = ρ)) 0 0 (fun _ => False) := by
  refine Met.ofW (cc := cB_pagesTaken) (maxL := 1) (ret := (some .int)) (by decide) rfl ?_
  intro p e s m args below meth c s₁ B hml hv
  obtain ⟨rfl, hv⟩ := hv
  have hx := B.exec
  have hb := B.bytes
  have hr := B.returns
  have hts : ∀ w ∈ aw, w.before _ s = true := fun w h => atoms_spec (ws := (.code yB_pagesTaken cB_pagesTaken 1 (some .int) :: aw)) B.pre w (List.mem_cons_of_mem _ h)
  have hown : s.vm.findClass RB = some m.cls := findClass_of_methodNamed B.named
  have hlocks := B.notSynchronized
  obtain ⟨hP, hK, hG⟩ := hv
  obtain ⟨H, hH⟩ : ∃ H, H = s.heap := ⟨_, rfl⟩
  rw [← hH] at hP ⊢
  unfold B_pagesTaken at hf
  have hl := lv_entry ([.ref (ad 1 j0)]) (n := 1) (Nat.le_of_ble_eq_true rfl)
  rw [lg_entry_eq]
  generalize (lg_sl ([.ref (ad 1 j0)]) ++ List.replicate (1 - (lg_sl ([.ref (ad 1 j0)])).length) Slot.unset).toArray = ls at hl ⊢
  have hl : lv_has ls 1 [(0, .ref (ad 1 j0))] := hl
  refine lv_iconst (pc := 0) (v := 1) hx hb dB_pagesTaken_0 (by decide) ?_
  refine lv_aload_n (pc := 1) hx hb dB_pagesTaken_1 rfl (lv_at hl 0 rfl) ?_
  obtain ⟨q1, hq1, eq1⟩ := at_1 (ad := ad) (ca := ca) (σ := σ) hm0
  refine va_get (D := (dC, dI)) (cl := kCl) (C := RB) (T := TB) (N := 3) (pc := 2) hx hb hts inB hown hK.1 hP q1 eq1 rfl 2 (by decide) (hts _ wd_286) (fun _ h9 => h9) rfl dB_pagesTaken_2 ?_
  refine lv_bipush (pc := 5) (v := 8) hx hb dB_pagesTaken_5 (by decide) ?_
  refine lv_iadd (pc := 7) hx hb dB_pagesTaken_7 ?_
  refine lv_iconst (pc := 8) (v := 1) hx hb dB_pagesTaken_8 (by decide) ?_
  refine lv_isub (pc := 9) hx hb dB_pagesTaken_9 ?_
  refine lv_bipush (pc := 10) (v := 8) hx hb dB_pagesTaken_10 (by decide) ?_
  refine lv_idiv (pc := 12) hx hb dB_pagesTaken_12 (by decide) ?_
  refine lv_iadd (pc := 13) hx hb dB_pagesTaken_13 ?_
  exact W.iret (pc := 14) hx hb hr (fun t ht hW => ⟨_, rfl, hf, ht.trans hH⟩) (fun q h => nomatch h) dB_pagesTaken_14
def D_hasRevision (σ : hT) (j0 : Nat) (a1 : Int32) : Int32 := if a1 < 0 then 0 else if (xI σ 701 j0 0) ≤ a1 then 0 else 1
set_option maxHeartbeats 4000000 in
set_option maxRecDepth 100000 in
theorem t_D_hasRevision (l : Launch) (dC : Nat → ClassId) (dI : Nat → Nat → Nat) (ad : Nat → Nat → Nat) (ca : Nat → Nat → ClassId) (dom : List (Nat × Nat)) (σ : hT) (j0 : Nat) (a1 : Int32) (hm0 : (6, j0) ∈ dom) (hN : dom.Nodup) (hC : clo dom σ.2.2) (ρ : Int32) (hf : D_hasRevision σ j0 a1 = ρ) : Met l yD_hasRevision (.code yD_hasRevision cD_hasRevision 2 (some .boolean) :: aw) ({ frames := 0, cells := 0, slots := 0, locals := 0 }) (hR (dC, dI) ad ca dom σ [.ref (ad 6 j0), .int a1]) (vp_Si (fun r => r = ρ)) 0 0 (fun _ => False) := by
  refine Met.ofW (cc := cD_hasRevision) (maxL := 2) (ret := (some .boolean)) (by decide) rfl ?_
  intro p e s m args below meth c s₁ B hml hv
  obtain ⟨rfl, hv⟩ := hv
  have hx := B.exec
  have hb := B.bytes
  have hr := B.returns
  have hts : ∀ w ∈ aw, w.before _ s = true := fun w h => atoms_spec (ws := (.code yD_hasRevision cD_hasRevision 2 (some .boolean) :: aw)) B.pre w (List.mem_cons_of_mem _ h)
  have hown : s.vm.findClass RD = some m.cls := findClass_of_methodNamed B.named
  have hlocks := B.notSynchronized
  obtain ⟨hP, hK, hG⟩ := hv
  obtain ⟨H, hH⟩ : ∃ H, H = s.heap := ⟨_, rfl⟩
  rw [← hH] at hP ⊢
  unfold D_hasRevision at hf
  have hl := lv_entry ([.ref (ad 6 j0), .int a1]) (n := 2) (Nat.le_of_ble_eq_true rfl)
  rw [lg_entry_eq]
  generalize (lg_sl ([.ref (ad 6 j0), .int a1]) ++ List.replicate (2 - (lg_sl ([.ref (ad 6 j0), .int a1])).length) Slot.unset).toArray = ls at hl ⊢
  have hl : lv_has ls 2 [(0, .ref (ad 6 j0)), (1, .int a1)] := hl
  refine lv_iload_n (pc := 0) hx hb dD_hasRevision_0 rfl (lv_at hl 1 rfl) ?_
  refine lv_if_lt (pc := 1) (tgt := 16) hx hb dD_hasRevision_1 rfl (fun h1 => ?_) (fun h1 => ?_)
  · replace hf := ite_t h1 hf
    refine lv_iconst (pc := 16) (v := 0) hx hb dD_hasRevision_16 (by decide) ?_
    exact W.zret (pc := 17) hx hb hr (rfl) (fun t ht hW => ⟨_, rfl, hf, ht.trans hH⟩) (fun q h => nomatch h) dD_hasRevision_17
  · replace hf := ite_f h1 hf
    refine lv_iload_n (pc := 4) hx hb dD_hasRevision_4 rfl (lv_at hl 1 rfl) ?_
    refine lv_aload_n (pc := 5) hx hb dD_hasRevision_5 rfl (lv_at hl 0 rfl) ?_
    obtain ⟨q2, hq2, eq2⟩ := at_6 (ad := ad) (ca := ca) (σ := σ) hm0
    refine va_get (D := (dC, dI)) (cl := kCl) (C := RD) (T := TD) (N := 5) (pc := 6) hx hb hts inD hown hK.1 hP q2 eq2 rfl 1 (by decide) (hts _ wd_287) (fun _ h9 => h9) rfl dD_hasRevision_6 ?_
    refine lv_icmp_ge (pc := 9) (tgt := 16) hx hb dD_hasRevision_9 rfl (fun h3 => ?_) (fun h3 => ?_)
    · replace hf := ite_t h3 hf
      refine lv_iconst (pc := 16) (v := 0) hx hb dD_hasRevision_16 (by decide) ?_
      exact W.zret (pc := 17) hx hb hr (rfl) (fun t ht hW => ⟨_, rfl, hf, ht.trans hH⟩) (fun q h => nomatch h) dD_hasRevision_17
    · replace hf := ite_f h3 hf
      refine lv_iconst (pc := 12) (v := 1) hx hb dD_hasRevision_12 (by decide) ?_
      refine lv_goto (pc := 13) (tgt := 17) hx hb dD_hasRevision_13 rfl ?_
      exact W.zret (pc := 17) hx hb hr (rfl) (fun t ht hW => ⟨_, rfl, hf, ht.trans hH⟩) (fun q h => nomatch h) dD_hasRevision_17
def D_newest (σ : hT) (j0 : Nat) : Int32 := ((xI σ 701 j0 0) - 1)
set_option maxHeartbeats 4000000 in
set_option maxRecDepth 100000 in
theorem t_D_newest (l : Launch) (dC : Nat → ClassId) (dI : Nat → Nat → Nat) (ad : Nat → Nat → Nat) (ca : Nat → Nat → ClassId) (dom : List (Nat × Nat)) (σ : hT) (j0 : Nat) (hm0 : (6, j0) ∈ dom) (hN : dom.Nodup) (hC : clo dom σ.2.2) (ρ : Int32) (hf : D_newest σ j0 = ρ) : Met l yD_newest (.code yD_newest cD_newest 1 (some .int) :: aw) ({ frames := 0, cells := 0, slots := 0, locals := 0 }) (hR (dC, dI) ad ca dom σ [.ref (ad 6 j0)]) (vp_Si (fun r => r = ρ)) 0 0 (fun _ => False) := by
  refine Met.ofW (cc := cD_newest) (maxL := 1) (ret := (some .int)) (by decide) rfl ?_
  intro p e s m args below meth c s₁ B hml hv
  obtain ⟨rfl, hv⟩ := hv
  have hx := B.exec
  have hb := B.bytes
  have hr := B.returns
  have hts : ∀ w ∈ aw, w.before _ s = true := fun w h => atoms_spec (ws := (.code yD_newest cD_newest 1 (some .int) :: aw)) B.pre w (List.mem_cons_of_mem _ h)
  have hown : s.vm.findClass RD = some m.cls := findClass_of_methodNamed B.named
  have hlocks := B.notSynchronized
  obtain ⟨hP, hK, hG⟩ := hv
  obtain ⟨H, hH⟩ : ∃ H, H = s.heap := ⟨_, rfl⟩
  rw [← hH] at hP ⊢
  unfold D_newest at hf
  have hl := lv_entry ([.ref (ad 6 j0)]) (n := 1) (Nat.le_of_ble_eq_true rfl)
  rw [lg_entry_eq]
  generalize (lg_sl ([.ref (ad 6 j0)]) ++ List.replicate (1 - (lg_sl ([.ref (ad 6 j0)])).length) Slot.unset).toArray = ls at hl ⊢
  have hl : lv_has ls 1 [(0, .ref (ad 6 j0))] := hl
  refine lv_aload_n (pc := 0) hx hb dD_newest_0 rfl (lv_at hl 0 rfl) ?_
  obtain ⟨q1, hq1, eq1⟩ := at_6 (ad := ad) (ca := ca) (σ := σ) hm0
  refine va_get (D := (dC, dI)) (cl := kCl) (C := RD) (T := TD) (N := 5) (pc := 1) hx hb hts inD hown hK.1 hP q1 eq1 rfl 1 (by decide) (hts _ wd_287) (fun _ h9 => h9) rfl dD_newest_1 ?_
  refine lv_iconst (pc := 4) (v := 1) hx hb dD_newest_4 (by decide) ?_
  refine lv_isub (pc := 5) hx hb dD_newest_5 ?_
  exact W.iret (pc := 6) hx hb hr (fun t ht hW => ⟨_, rfl, hf, ht.trans hH⟩) (fun q h => nomatch h) dD_newest_6
def D_latestReleased_L5 (n : Nat) (σ : hT) (kx5 : Int32 → Nat → Option (Int32)) : Nat → Int32 → Nat → Option (Int32)
  | 0, _, _ => none
  | k + 1, p2, j3 => if p2 < 0 then kx5 p2 j3 else if in9 p2 12 then hq (xR σ 23 j3 (p2).toNatClampNeg) (none) fun j12 => if (xI σ 802 j12 0) = 2 then some p2 else D_latestReleased_L5 n σ kx5 k (p2 + (-1)) j3 else none
def D_latestReleased (n : Nat) (σ : hT) (j0 : Nat) : Option (Int32) := lt9 (α := Int32 → Nat → Option (Int32)) (fun (p2 : Int32) (j3 : Nat) => some (-1)) fun kx5 => D_latestReleased_L5 n σ kx5 n (D_newest σ j0) j0
set_option maxHeartbeats 4000000 in
set_option maxRecDepth 100000 in
theorem t_D_latestReleased (l : Launch) (dC : Nat → ClassId) (dI : Nat → Nat → Nat) (ad : Nat → Nat → Nat) (ca : Nat → Nat → ClassId) (dom : List (Nat × Nat)) (n : Nat) (σ : hT) (j0 : Nat) (hm0 : (6, j0) ∈ dom) (hN : dom.Nodup) (hC : clo dom σ.2.2) (ρ : Int32) (hf : D_latestReleased n σ j0 = some ρ) : Met l yD_latestReleased (.code yD_latestReleased cD_latestReleased 2 (some .int) :: aw) ({ frames := 1, cells := 0, slots := 0, locals := 20 }) (hR (dC, dI) ad ca dom σ [.ref (ad 6 j0)]) (vp_Si (fun r => r = ρ)) 0 0 (fun _ => False) := by
  refine Met.ofW (cc := cD_latestReleased) (maxL := 2) (ret := (some .int)) (by decide) rfl ?_
  intro p e s m args below meth c s₁ B hml hv
  obtain ⟨rfl, hv⟩ := hv
  have hx := B.exec
  have hb := B.bytes
  have hr := B.returns
  have hts : ∀ w ∈ aw, w.before _ s = true := fun w h => atoms_spec (ws := (.code yD_latestReleased cD_latestReleased 2 (some .int) :: aw)) B.pre w (List.mem_cons_of_mem _ h)
  have hown : s.vm.findClass RD = some m.cls := findClass_of_methodNamed B.named
  have hlocks := B.notSynchronized
  obtain ⟨hP, hK, hG⟩ := hv
  obtain ⟨H, hH⟩ : ∃ H, H = s.heap := ⟨_, rfl⟩
  rw [← hH] at hP ⊢
  unfold D_latestReleased at hf
  have hl := lv_entry ([.ref (ad 6 j0)]) (n := 2) (Nat.le_of_ble_eq_true rfl)
  rw [lg_entry_eq]
  generalize (lg_sl ([.ref (ad 6 j0)]) ++ List.replicate (2 - (lg_sl ([.ref (ad 6 j0)])).length) Slot.unset).toArray = ls at hl ⊢
  have hl : lv_has ls 2 [(0, .ref (ad 6 j0))] := hl
  refine lv_aload_n (pc := 0) hx hb dD_latestReleased_0 rfl (lv_at hl 0 rfl) ?_
  obtain ⟨q1, hq1, eq1⟩ := at_6 (ad := ad) (ca := ca) (σ := σ) hm0
  refine vp_callSi (pc := 1) (W.runV (As := []) (rest := []) ⟨hx, hb, hml, hown, hts⟩ (t_D_newest l dC dI ad ca dom σ j0 hm0 hN hC (D_newest σ j0) rfl) (cwV 0 hts (gV wd_289 wd_290 wd_291 wd_292 wd_288) rfl rfl rfl (by decide +kernel) ⟨Nat.le_of_ble_eq_true rfl, Nat.le_of_ble_eq_true rfl⟩) ⟨hR_blind, va_recv (q := (RD, TD, 5)) (q0 := q1) (ci := 6) hK.1 hP rfl eq1, hR_pre hP hK hG⟩ rfl rfl hl.1 rfl (lv_room (Nat.le_of_ble_eq_true rfl)) dD_latestReleased_1 ⟨Nat.le_of_ble_eq_true rfl, Nat.le_of_ble_eq_true rfl⟩) (fun r9 hr9 => ?_)
  refine W.eq (g2 := F0 m 4 ls [.int (D_newest σ j0)]) (by rw [hr9]) ?_
  refine lv_istore_n (pc := 4) hx hb dD_latestReleased_4 rfl hl (by decide) rfl (fun ls hl => ?_)
  have hl : lv_has ls 2 [(1, .int (D_newest σ j0)), (0, .ref (ad 6 j0))] := hl
  obtain ⟨kx5, hkx5, hf⟩ := lt_9 hf
  refine lpF (τ := (Int32) × (Nat) × (Array Slot)) (fun pc z => W p l e _ s m _ below meth c H ([]) 0 0 _ (F0 m pc z.2.2 [])) 5 30 (fun z => lv_has z.2.2 2 [(1, .int z.1), (0, .ref (ad 6 z.2.1))] ∧ (6, z.2.1) ∈ dom) (fun k z => D_latestReleased_L5 n σ kx5 k z.1 z.2.1) (fun z => kx5 z.1 z.2.1) _ (fun z => rfl) ?_ ?_ n ((D_newest σ j0), j0, ls) ⟨hl, hm0⟩ hf
  · rintro k ⟨p2, j3, ls⟩ ⟨hl, hm4⟩ hf ih6 hXkx5
    dsimp only at hl hm4 hf ih6 hXkx5 ⊢
    unfold D_latestReleased_L5 at hf
    have hl : lv_has ls 2 [(1, .int p2), (0, .ref (ad 6 j3))] := hl
    refine lv_iload_n (pc := 5) hx hb dD_latestReleased_5 rfl (lv_at hl 0 rfl) ?_
    refine lv_if_lt (pc := 6) (tgt := 30) hx hb dD_latestReleased_6 rfl (fun h7 => ?_) (fun h7 => ?_)
    · replace hf := ite_t h7 hf
      have hl := lv_sub hl (l' := [(1, .int p2), (0, .ref (ad 6 j3))]) [0, 1] rfl
      exact hXkx5 (p2, j3, ls) ⟨hl, hm4⟩ hf
    · replace hf := ite_f h7 hf
      refine lv_aload_n (pc := 9) hx hb dD_latestReleased_9 rfl (lv_at hl 1 rfl) ?_
      obtain ⟨q8, hq8, eq8⟩ := at_6 (ad := ad) (ca := ca) (σ := σ) hm4
      refine va_get (D := (dC, dI)) (cl := kCl) (C := RD) (T := TD) (N := 5) (pc := 10) hx hb hts inD hown hK.1 hP q8 eq8 rfl 0 (by decide) (hts _ wd_293) (fun _ h9 => h9) rfl dD_latestReleased_10 ?_
      refine lv_iload_n (pc := 13) hx hb dD_latestReleased_13 rfl (lv_at hl 0 rfl) ?_
      obtain ⟨hv9, hf⟩ := ite_s hf
      obtain ⟨q10, hq10, eq10⟩ := at_23 (ad := ad) (ca := ca) (σ := σ) (cm_6_0 hC hm4)
      refine va_aldq (D := (dC, dI)) (cl := kCl) (pc := 14) hx hb (hK.2 23 j3 (.object "DrawingVault$Revision") (cm_6_0 hC hm4) rfl) hP q10 0 eq10 rfl (hv9) dD_latestReleased_14 ?_
      refine W.eq (g2 := F0 m 15 ls [va_re (ad 7) (xR σ 23 j3 (p2).toNatClampNeg)]) rfl ?_
      rcases hE11 : xR σ 23 j3 (p2).toNatClampNeg with _ | j12
      · replace hf := hq_n hE11 hf
        refine W.eq (g2 := F0 m 15 ls [.null]) rfl ?_
        exact nomatch hf
      · replace hf := hq_s hE11 hf
        have hm13 : (7, j12) ∈ dom := (cr_23 hC (cm_6_0 hC hm4) hE11)
        refine W.eq (g2 := F0 m 15 ls [.ref (ad 7 j12)]) rfl ?_
        obtain ⟨q14, hq14, eq14⟩ := at_7 (ad := ad) (ca := ca) (σ := σ) hm13
        refine va_get (D := (dC, dI)) (cl := kCl) (C := RS) (T := TS) (N := 3) (pc := 15) hx hb hts inS hown hK.1 hP q14 eq14 rfl 2 (by decide) (hts _ wd_294) (fun _ h9 => h9) rfl dD_latestReleased_15 ?_
        refine lv_iconst (pc := 18) (v := 2) hx hb dD_latestReleased_18 (by decide) ?_
        refine lv_icmp_ne (pc := 19) (tgt := 24) hx hb dD_latestReleased_19 rfl (fun h15 => ?_) (fun h15 => ?_)
        · replace hf := ite_f h15 hf
          refine lv_iinc (pc := 24) (v := (p2 + (-1))) hx hb dD_latestReleased_24 hl (k := 0) rfl (by rfl) (by decide) rfl (fun ls hl => ?_)
          have hl : lv_has ls 2 [(1, .int (p2 + (-1))), (0, .ref (ad 6 j3))] := hl
          refine lv_goto (pc := 27) (tgt := 5) hx hb dD_latestReleased_27 rfl ?_
          have hl := lv_sub hl (l' := [(1, .int (p2 + (-1))), (0, .ref (ad 6 j3))]) [0, 1] rfl
          exact ih6 ((p2 + (-1)), j3, ls) ⟨hl, hm4⟩ hf
        · replace hf := ite_t h15 hf
          refine lv_iload_n (pc := 22) hx hb dD_latestReleased_22 rfl (lv_at hl 0 rfl) ?_
          exact W.iret (pc := 23) hx hb hr (fun t ht hW => ⟨_, rfl, (Option.some.inj hf), ht.trans hH⟩) (fun q h => nomatch h) dD_latestReleased_23
  · rintro ⟨p2, j3, ls⟩ ⟨hl, hm4⟩ hf
    dsimp only at hl hm4 hf ⊢
    rw [hkx5] at hf
    have hl : lv_has ls 2 [(1, .int p2), (0, .ref (ad 6 j3))] := hl
    refine lv_iconst (pc := 30) (v := (-1)) hx hb dD_latestReleased_30 (by decide) ?_
    exact W.iret (pc := 31) hx hb hr (fun t ht hW => ⟨_, rfl, (Option.some.inj hf), ht.trans hH⟩) (fun q h => nomatch h) dD_latestReleased_31
def D_targetBits (n : Nat) (σ : hT) (j0 : Nat) : Option (Int32) := if (D_hasRevision σ j0 (D_newest σ j0)) = 0 then some 0 else if in9 (D_newest σ j0) 12 then hq (xR σ 23 j0 ((D_newest σ j0)).toNatClampNeg) (none) fun j9 => Option.bind (C_targetBits n σ (3 * j9 + 2)) fun y13 => some y13 else none
set_option maxHeartbeats 4000000 in
set_option maxRecDepth 100000 in
theorem t_D_targetBits (l : Launch) (dC : Nat → ClassId) (dI : Nat → Nat → Nat) (ad : Nat → Nat → Nat) (ca : Nat → Nat → ClassId) (dom : List (Nat × Nat)) (n : Nat) (σ : hT) (j0 : Nat) (hm0 : (6, j0) ∈ dom) (hN : dom.Nodup) (hC : clo dom σ.2.2) (ρ : Int32) (hf : D_targetBits n σ j0 = some ρ) : Met l yD_targetBits (.code yD_targetBits cD_targetBits 1 (some .int) :: aw) ({ frames := 2, cells := 0, slots := 0, locals := 42 }) (hR (dC, dI) ad ca dom σ [.ref (ad 6 j0)]) (vp_Si (fun r => r = ρ)) 0 0 (fun _ => False) := by
  refine Met.ofW (cc := cD_targetBits) (maxL := 1) (ret := (some .int)) (by decide) rfl ?_
  intro p e s m args below meth c s₁ B hml hv
  obtain ⟨rfl, hv⟩ := hv
  have hx := B.exec
  have hb := B.bytes
  have hr := B.returns
  have hts : ∀ w ∈ aw, w.before _ s = true := fun w h => atoms_spec (ws := (.code yD_targetBits cD_targetBits 1 (some .int) :: aw)) B.pre w (List.mem_cons_of_mem _ h)
  have hown : s.vm.findClass RD = some m.cls := findClass_of_methodNamed B.named
  have hlocks := B.notSynchronized
  obtain ⟨hP, hK, hG⟩ := hv
  obtain ⟨H, hH⟩ : ∃ H, H = s.heap := ⟨_, rfl⟩
  rw [← hH] at hP ⊢
  unfold D_targetBits at hf
  have hl := lv_entry ([.ref (ad 6 j0)]) (n := 1) (Nat.le_of_ble_eq_true rfl)
  rw [lg_entry_eq]
  generalize (lg_sl ([.ref (ad 6 j0)]) ++ List.replicate (1 - (lg_sl ([.ref (ad 6 j0)])).length) Slot.unset).toArray = ls at hl ⊢
  have hl : lv_has ls 1 [(0, .ref (ad 6 j0))] := hl
  refine lv_aload_n (pc := 0) hx hb dD_targetBits_0 rfl (lv_at hl 0 rfl) ?_
  refine lv_aload_n (pc := 1) hx hb dD_targetBits_1 rfl (lv_at hl 0 rfl) ?_
  obtain ⟨q1, hq1, eq1⟩ := at_6 (ad := ad) (ca := ca) (σ := σ) hm0
  refine vp_callSi (pc := 2) (W.runV (As := []) (rest := [.ref (ad 6 j0)]) ⟨hx, hb, hml, hown, hts⟩ (t_D_newest l dC dI ad ca dom σ j0 hm0 hN hC (D_newest σ j0) rfl) (cwV 0 hts (gV wd_289 wd_290 wd_291 wd_292 wd_288) rfl rfl rfl (by decide +kernel) ⟨Nat.le_of_ble_eq_true rfl, Nat.le_of_ble_eq_true rfl⟩) ⟨hR_blind, va_recv (q := (RD, TD, 5)) (q0 := q1) (ci := 6) hK.1 hP rfl eq1, hR_pre hP hK hG⟩ rfl rfl hl.1 rfl (lv_room (Nat.le_of_ble_eq_true rfl)) dD_targetBits_2 ⟨Nat.le_of_ble_eq_true rfl, Nat.le_of_ble_eq_true rfl⟩) (fun r9 hr9 => ?_)
  refine W.eq (g2 := F0 m 5 ls [.int (D_newest σ j0), .ref (ad 6 j0)]) (by rw [hr9]) ?_
  obtain ⟨q2, hq2, eq2⟩ := at_6 (ad := ad) (ca := ca) (σ := σ) hm0
  refine vp_callSi (pc := 5) (W.runV (As := [.int (D_newest σ j0)]) (rest := []) ⟨hx, hb, hml, hown, hts⟩ (t_D_hasRevision l dC dI ad ca dom σ j0 (D_newest σ j0) hm0 hN hC (D_hasRevision σ j0 (D_newest σ j0)) rfl) (cwV 1 hts (gV wd_296 wd_297 wd_298 wd_292 wd_295) rfl rfl rfl (by decide +kernel) ⟨Nat.le_of_ble_eq_true rfl, Nat.le_of_ble_eq_true rfl⟩) ⟨hR_blind, va_recv (q := (RD, TD, 5)) (q0 := q2) (ci := 6) hK.1 hP rfl eq2, hR_pre hP hK hG⟩ rfl rfl hl.1 rfl (lv_room (Nat.le_of_ble_eq_true rfl)) dD_targetBits_5 ⟨Nat.le_of_ble_eq_true rfl, Nat.le_of_ble_eq_true rfl⟩) (fun r9 hr9 => ?_)
  refine W.eq (g2 := F0 m 8 ls [.int (D_hasRevision σ j0 (D_newest σ j0))]) (by rw [hr9]) ?_
  refine lv_if_eq (pc := 8) (tgt := 29) hx hb dD_targetBits_8 rfl (fun h3 => ?_) (fun h3 => ?_)
  · replace hf := ite_t h3 hf
    refine lv_iconst (pc := 29) (v := 0) hx hb dD_targetBits_29 (by decide) ?_
    exact W.iret (pc := 30) hx hb hr (fun t ht hW => ⟨_, rfl, (Option.some.inj hf), ht.trans hH⟩) (fun q h => nomatch h) dD_targetBits_30
  · replace hf := ite_f h3 hf
    refine lv_aload_n (pc := 11) hx hb dD_targetBits_11 rfl (lv_at hl 0 rfl) ?_
    obtain ⟨q4, hq4, eq4⟩ := at_6 (ad := ad) (ca := ca) (σ := σ) hm0
    refine va_get (D := (dC, dI)) (cl := kCl) (C := RD) (T := TD) (N := 5) (pc := 12) hx hb hts inD hown hK.1 hP q4 eq4 rfl 0 (by decide) (hts _ wd_293) (fun _ h9 => h9) rfl dD_targetBits_12 ?_
    refine lv_aload_n (pc := 15) hx hb dD_targetBits_15 rfl (lv_at hl 0 rfl) ?_
    obtain ⟨q5, hq5, eq5⟩ := at_6 (ad := ad) (ca := ca) (σ := σ) hm0
    refine vp_callSi (pc := 16) (W.runV (As := []) (rest := [.ref (ad 23 j0)]) ⟨hx, hb, hml, hown, hts⟩ (t_D_newest l dC dI ad ca dom σ j0 hm0 hN hC (D_newest σ j0) rfl) (cwV 0 hts (gV wd_289 wd_290 wd_291 wd_292 wd_288) rfl rfl rfl (by decide +kernel) ⟨Nat.le_of_ble_eq_true rfl, Nat.le_of_ble_eq_true rfl⟩) ⟨hR_blind, va_recv (q := (RD, TD, 5)) (q0 := q5) (ci := 6) hK.1 hP rfl eq5, hR_pre hP hK hG⟩ rfl rfl hl.1 rfl (lv_room (Nat.le_of_ble_eq_true rfl)) dD_targetBits_16 ⟨Nat.le_of_ble_eq_true rfl, Nat.le_of_ble_eq_true rfl⟩) (fun r9 hr9 => ?_)
    refine W.eq (g2 := F0 m 19 ls [.int (D_newest σ j0), .ref (ad 23 j0)]) (by rw [hr9]) ?_
    obtain ⟨hv6, hf⟩ := ite_s hf
    obtain ⟨q7, hq7, eq7⟩ := at_23 (ad := ad) (ca := ca) (σ := σ) (cm_6_0 hC hm0)
    refine va_aldq (D := (dC, dI)) (cl := kCl) (pc := 19) hx hb (hK.2 23 j0 (.object "DrawingVault$Revision") (cm_6_0 hC hm0) rfl) hP q7 0 eq7 rfl (hv6) dD_targetBits_19 ?_
    refine W.eq (g2 := F0 m 20 ls [va_re (ad 7) (xR σ 23 j0 ((D_newest σ j0)).toNatClampNeg)]) rfl ?_
    rcases hE8 : xR σ 23 j0 ((D_newest σ j0)).toNatClampNeg with _ | j9
    · replace hf := hq_n hE8 hf
      refine W.eq (g2 := F0 m 20 ls [.null]) rfl ?_
      exact nomatch hf
    · replace hf := hq_s hE8 hf
      have hm10 : (7, j9) ∈ dom := (cr_23 hC (cm_6_0 hC hm0) hE8)
      refine W.eq (g2 := F0 m 20 ls [.ref (ad 7 j9)]) rfl ?_
      obtain ⟨q11, hq11, eq11⟩ := at_7 (ad := ad) (ca := ca) (σ := σ) hm10
      refine va_get (D := (dC, dI)) (cl := kCl) (C := RS) (T := TS) (N := 3) (pc := 20) hx hb hts inS hown hK.1 hP q11 eq11 rfl 0 (by decide) (hts _ wd_299) (fun _ h9 => h9) rfl dD_targetBits_20 ?_
      obtain ⟨q12, hq12, eq12⟩ := at_5 (ad := ad) (ca := ca) (σ := σ) (cm_7_0 hC hm10)
      obtain ⟨y13, hy13, hf⟩ := ob hf
      refine vp_callSi (pc := 23) (W.runV (As := []) (rest := []) ⟨hx, hb, hml, hown, hts⟩ (t_C_targetBits l dC dI ad ca dom n σ (3 * j9 + 2) (cm_7_0 hC hm10) hN hC y13 hy13) (cwV 0 hts (gV wd_301 wd_302 wd_303 wd_228 wd_300) rfl rfl rfl (by decide +kernel) ⟨Nat.le_of_ble_eq_true rfl, Nat.le_of_ble_eq_true rfl⟩) ⟨hR_blind, va_recv (q := (RC, TC, 5)) (q0 := q12) (ci := 5) hK.1 hP rfl eq12, hR_pre hP hK hG⟩ rfl rfl hl.1 rfl (lv_room (Nat.le_of_ble_eq_true rfl)) dD_targetBits_23 ⟨Nat.le_of_ble_eq_true rfl, Nat.le_of_ble_eq_true rfl⟩) (fun r9 hr9 => ?_)
      refine W.eq (g2 := F0 m 26 ls [.int y13]) (by rw [hr9]) ?_
      refine lv_goto (pc := 26) (tgt := 30) hx hb dD_targetBits_26 rfl ?_
      exact W.iret (pc := 30) hx hb hr (fun t ht hW => ⟨_, rfl, (Option.some.inj hf), ht.trans hH⟩) (fun q h => nomatch h) dD_targetBits_30
def D_lendTo (σ : hT) (j0 : Nat) (a1 : Int32) : Option (Unit × hT) := lt9 (sI σ 702 j0 0 a1) fun σ1 => if in9 (D_newest σ1 j0) 12 then hq (xR σ1 23 j0 ((D_newest σ1 j0)).toNatClampNeg) (none) fun j9 => Option.bind (C_takeFrom σ1 (3 * j0) (3 * j9 + 2)) fun ⟨y13, σ14⟩ => some ((), σ14) else none
set_option maxHeartbeats 4000000 in
set_option maxRecDepth 100000 in
theorem t_D_lendTo (l : Launch) (dC : Nat → ClassId) (dI : Nat → Nat → Nat) (ad : Nat → Nat → Nat) (ca : Nat → Nat → ClassId) (dom : List (Nat × Nat)) (sz : Nat) (σ : hT) (j0 : Nat) (a1 : Int32) (hm0 : (6, j0) ∈ dom) (hN : dom.Nodup) (hC : clo dom σ.2.2) (ρ : Unit) (σ' : hT) (hf : D_lendTo σ j0 a1 = some (ρ, σ')) : Met l yD_lendTo (.code yD_lendTo cD_lendTo 2 none :: aw) ({ frames := 2, cells := 0, slots := 0, locals := 61 }) (hW (dC, dI) sz ad ca dom σ [.ref (ad 6 j0), .int a1]) (va_Qv (fun (_ : Unit) => True) (fun _ t => hB (dC, dI) (va_A (w9 ad ca dom σ) sz) ad ca dom σ' t) (va_A (w9 ad ca dom σ) sz)) 0 0 (va_A (w9 ad ca dom σ) sz) := by
  refine Met.ofW (cc := cD_lendTo) (maxL := 2) (ret := none) (by decide) rfl ?_
  intro p e s m args below meth c s₁ B hml hv
  obtain ⟨rfl, hv⟩ := hv
  have hx := B.exec
  have hb := B.bytes
  have hr := B.returns
  have hts : ∀ w ∈ aw, w.before _ s = true := fun w h => atoms_spec (ws := (.code yD_lendTo cD_lendTo 2 none :: aw)) B.pre w (List.mem_cons_of_mem _ h)
  have hown : s.vm.findClass RD = some m.cls := findClass_of_methodNamed B.named
  have hlocks := B.notSynchronized
  obtain ⟨hsz, hP, hK, hD0, hG⟩ := hv
  subst hsz
  have hD := hD0.self (sz := s.heap.size)
  generalize hAe : va_A (w9 ad ca dom σ) s.heap.size = A at hD ⊢
  have hA : ∀ q : Nat, s.heap.size ≤ q → A q := fun q h => by rw [← hAe]; exact Or.inr h
  obtain ⟨H, hH⟩ : ∃ H, H = s.heap := ⟨_, rfl⟩
  have hS : va_S A s.heap H [] := by rw [hH]; exact va_S.rf
  rw [← hH] at hP ⊢
  unfold D_lendTo at hf
  have hl := lv_entry ([.ref (ad 6 j0), .int a1]) (n := 2) (Nat.le_of_ble_eq_true rfl)
  rw [lg_entry_eq]
  generalize (lg_sl ([.ref (ad 6 j0), .int a1]) ++ List.replicate (2 - (lg_sl ([.ref (ad 6 j0), .int a1])).length) Slot.unset).toArray = ls at hl ⊢
  have hl : lv_has ls 2 [(0, .ref (ad 6 j0)), (1, .int a1)] := hl
  refine lv_aload_n (pc := 0) hx hb dD_lendTo_0 rfl (lv_at hl 0 rfl) ?_
  refine lv_iload_n (pc := 1) hx hb dD_lendTo_1 rfl (lv_at hl 1 rfl) ?_
  obtain ⟨q2, hq2, eq2⟩ := at_6 (ad := ad) (ca := ca) (σ := σ) hm0
  refine va_put (D := (dC, dI)) (cl := kCl) (ci := 6) (v := .int a1) (ty := .int) (C := RD) (T := TD) (N := 5) (pc := 2) hx hb hts inD tyD tyD_ok nmD hown hK.1 hP hD hS q2 eq2 rfl 2 (by decide) (hts _ wd_304) (fun _ h9 => h9) rfl (by decide +kernel) (rfl) (rfl) (Nat.le_of_ble_eq_true rfl) dD_lendTo_2 (fun H locs hP hD hS => ?_)
  obtain ⟨σ1, hσ1, hf⟩ := lt_9 hf
  obtain ⟨hP, hD⟩ := w9_rI 702 rfl hN hq2 hσ1 (pu_702) hP hD
  have hC : clo dom σ1.2.2 := by rw [hσ1]; exact hC
  refine lv_aload_n (pc := 5) hx hb dD_lendTo_5 rfl (lv_at hl 0 rfl) ?_
  obtain ⟨q3, hq3, eq3⟩ := at_6 (ad := ad) (ca := ca) (σ := σ1) hm0
  refine va_get (D := (dC, dI)) (cl := kCl) (C := RD) (T := TD) (N := 5) (pc := 6) hx hb hts inD hown hK.1 hP q3 eq3 rfl 3 (by decide) (hts _ wd_305) (fun _ h9 => h9) rfl dD_lendTo_6 ?_
  refine lv_aload_n (pc := 9) hx hb dD_lendTo_9 rfl (lv_at hl 0 rfl) ?_
  obtain ⟨q4, hq4, eq4⟩ := at_6 (ad := ad) (ca := ca) (σ := σ1) hm0
  refine va_get (D := (dC, dI)) (cl := kCl) (C := RD) (T := TD) (N := 5) (pc := 10) hx hb hts inD hown hK.1 hP q4 eq4 rfl 0 (by decide) (hts _ wd_293) (fun _ h9 => h9) rfl dD_lendTo_10 ?_
  refine lv_aload_n (pc := 13) hx hb dD_lendTo_13 rfl (lv_at hl 0 rfl) ?_
  obtain ⟨q5, hq5, eq5⟩ := at_6 (ad := ad) (ca := ca) (σ := σ1) hm0
  refine vp_callSi (pc := 14) (W.runV (As := []) (rest := [.ref (ad 23 j0), .ref (ad 5 (3 * j0))]) ⟨hx, hb, hml, hown, hts⟩ (t_D_newest l dC dI ad ca dom σ1 j0 hm0 hN hC (D_newest σ1 j0) rfl) (cwV 0 hts (gV wd_289 wd_290 wd_291 wd_292 wd_288) rfl rfl rfl (by decide +kernel) ⟨Nat.le_of_ble_eq_true rfl, Nat.le_of_ble_eq_true rfl⟩) ⟨hR_blind, va_recv (q := (RD, TD, 5)) (q0 := q5) (ci := 6) hK.1 hP rfl eq5, hR_pre hP hK hG⟩ rfl rfl hl.1 rfl (lv_room (Nat.le_of_ble_eq_true rfl)) dD_lendTo_14 ⟨Nat.le_of_ble_eq_true rfl, Nat.le_of_ble_eq_true rfl⟩) (fun r9 hr9 => ?_)
  refine W.eq (g2 := F0 m 17 ls [.int (D_newest σ1 j0), .ref (ad 23 j0), .ref (ad 5 (3 * j0))]) (by rw [hr9]) ?_
  obtain ⟨hv6, hf⟩ := ite_s hf
  obtain ⟨q7, hq7, eq7⟩ := at_23 (ad := ad) (ca := ca) (σ := σ1) (cm_6_0 hC hm0)
  refine va_aldq (D := (dC, dI)) (cl := kCl) (pc := 17) hx hb (hK.2 23 j0 (.object "DrawingVault$Revision") (cm_6_0 hC hm0) rfl) hP q7 0 eq7 rfl (hv6) dD_lendTo_17 ?_
  refine W.eq (g2 := F0 m 18 ls [va_re (ad 7) (xR σ1 23 j0 ((D_newest σ1 j0)).toNatClampNeg), .ref (ad 5 (3 * j0))]) rfl ?_
  rcases hE8 : xR σ1 23 j0 ((D_newest σ1 j0)).toNatClampNeg with _ | j9
  · replace hf := hq_n hE8 hf
    refine W.eq (g2 := F0 m 18 ls [.null, .ref (ad 5 (3 * j0))]) rfl ?_
    exact nomatch hf
  · replace hf := hq_s hE8 hf
    have hm10 : (7, j9) ∈ dom := (cr_23 hC (cm_6_0 hC hm0) hE8)
    refine W.eq (g2 := F0 m 18 ls [.ref (ad 7 j9), .ref (ad 5 (3 * j0))]) rfl ?_
    obtain ⟨q11, hq11, eq11⟩ := at_7 (ad := ad) (ca := ca) (σ := σ1) hm10
    refine va_get (D := (dC, dI)) (cl := kCl) (C := RS) (T := TS) (N := 3) (pc := 18) hx hb hts inS hown hK.1 hP q11 eq11 rfl 0 (by decide) (hts _ wd_299) (fun _ h9 => h9) rfl dD_lendTo_18 ?_
    obtain ⟨q12, hq12, eq12⟩ := at_5 (ad := ad) (ca := ca) (σ := σ1) (cm_6_3 hC hm0)
    obtain ⟨⟨y13, σ14⟩, hy13, hf⟩ := ob hf
    have hFc := w9_free hD hS hA
    refine va_callv (pc := 21) (va_runV (As := [.ref (ad 5 (3 * j9 + 2))]) (rest := []) ⟨hx, hb, hml, hown, hts⟩ (t_C_takeFrom l dC dI ad ca dom H.size σ1 (3 * j0) (3 * j9 + 2) (cm_6_3 hC hm0) (cm_7_0 hC hm10) hN hC y13 σ14 hy13) (cwV 1 hts (gV wd_307 wd_308 wd_309 wd_228 wd_306) rfl rfl rfl (by decide +kernel) ⟨Nat.le_of_ble_eq_true rfl, Nat.le_of_ble_eq_true rfl⟩) ⟨hW_blind, va_recv (q := (RC, TC, 5)) (q0 := q12) (ci := 5) hK.1 hP rfl eq12, hW_pre hP hK hD hG⟩ rfl rfl hl.1 rfl (lv_room (Nat.le_of_ble_eq_true rfl)) dD_lendTo_21 ⟨Nat.le_of_ble_eq_true rfl, Nat.le_of_ble_eq_true rfl⟩) hS (fun q _ h => hFc q h) hFc (fun u t H1 locs ht hvm hr9 hB hz1 hk1 hS => ?_)
    obtain ⟨hP, hD, hC⟩ := hB
    rw [ht] at hP
    replace hD := hD.weaken (fun _ _ _ h => hFc _ h)
    generalize H1 = H at hP hS ⊢
    obtain ⟨h8, h9⟩ := Prod.mk.inj (Option.some.inj hf)
    subst h9
    exact W.vret (pc := 24) hx hb hr (fun t ht hW => ⟨⟨(), rfl, trivial, by rw [ht]; exact hP, hD, hC⟩, hS.F ht⟩) hS.2.2 dD_lendTo_24
