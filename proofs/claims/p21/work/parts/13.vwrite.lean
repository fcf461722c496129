abbrev cV_chunksOfRevisions : ByteArray := prog_1_method_59_code
abbrev yV_chunksOfRevisions : MethodName := ⟨"DrawingVault", "chunksOfRevisions", "()I"⟩
theorem dV_chunksOfRevisions_0 : decode cV_chunksOfRevisions 0 = .ok (.aload_n 0, 1) := by decide +kernel
theorem dV_chunksOfRevisions_1 : decode cV_chunksOfRevisions 1 = .ok (.getfield 33, 3) := by decide +kernel
theorem dV_chunksOfRevisions_4 : decode cV_chunksOfRevisions 4 = .ok (.invokevirtual 345, 3) := by decide +kernel
theorem dV_chunksOfRevisions_7 : decode cV_chunksOfRevisions 7 = .ok (.iconst 0, 1) := by decide +kernel
theorem dV_chunksOfRevisions_8 : decode cV_chunksOfRevisions 8 = .ok (.istore_n 1, 1) := by decide +kernel
theorem dV_chunksOfRevisions_9 : decode cV_chunksOfRevisions 9 = .ok (.iload_n 1, 1) := by decide +kernel
theorem dV_chunksOfRevisions_10 : decode cV_chunksOfRevisions 10 = .ok (.aload_n 0, 1) := by decide +kernel
theorem dV_chunksOfRevisions_11 : decode cV_chunksOfRevisions 11 = .ok (.getfield 67, 3) := by decide +kernel
theorem dV_chunksOfRevisions_14 : decode cV_chunksOfRevisions 14 = .ok (.if_icmp .ge 51, 3) := by decide +kernel
theorem dV_chunksOfRevisions_17 : decode cV_chunksOfRevisions 17 = .ok (.iconst 0, 1) := by decide +kernel
theorem dV_chunksOfRevisions_18 : decode cV_chunksOfRevisions 18 = .ok (.istore_n 2, 1) := by decide +kernel
theorem dV_chunksOfRevisions_19 : decode cV_chunksOfRevisions 19 = .ok (.iload_n 2, 1) := by decide +kernel
theorem dV_chunksOfRevisions_20 : decode cV_chunksOfRevisions 20 = .ok (.aload_n 0, 1) := by decide +kernel
theorem dV_chunksOfRevisions_21 : decode cV_chunksOfRevisions 21 = .ok (.getfield 15, 3) := by decide +kernel
theorem dV_chunksOfRevisions_24 : decode cV_chunksOfRevisions 24 = .ok (.iload_n 1, 1) := by decide +kernel
theorem dV_chunksOfRevisions_25 : decode cV_chunksOfRevisions 25 = .ok (.aaload, 1) := by decide +kernel
theorem dV_chunksOfRevisions_26 : decode cV_chunksOfRevisions 26 = .ok (.getfield 294, 3) := by decide +kernel
theorem dV_chunksOfRevisions_29 : decode cV_chunksOfRevisions 29 = .ok (.if_icmp .ge 30, 3) := by decide +kernel
theorem dV_chunksOfRevisions_32 : decode cV_chunksOfRevisions 32 = .ok (.aload_n 0, 1) := by decide +kernel
theorem dV_chunksOfRevisions_33 : decode cV_chunksOfRevisions 33 = .ok (.getfield 33, 3) := by decide +kernel
theorem dV_chunksOfRevisions_36 : decode cV_chunksOfRevisions 36 = .ok (.aload_n 0, 1) := by decide +kernel
theorem dV_chunksOfRevisions_37 : decode cV_chunksOfRevisions 37 = .ok (.getfield 15, 3) := by decide +kernel
theorem dV_chunksOfRevisions_40 : decode cV_chunksOfRevisions 40 = .ok (.iload_n 1, 1) := by decide +kernel
theorem dV_chunksOfRevisions_41 : decode cV_chunksOfRevisions 41 = .ok (.aaload, 1) := by decide +kernel
theorem dV_chunksOfRevisions_42 : decode cV_chunksOfRevisions 42 = .ok (.getfield 331, 3) := by decide +kernel
theorem dV_chunksOfRevisions_45 : decode cV_chunksOfRevisions 45 = .ok (.iload_n 2, 1) := by decide +kernel
theorem dV_chunksOfRevisions_46 : decode cV_chunksOfRevisions 46 = .ok (.aaload, 1) := by decide +kernel
theorem dV_chunksOfRevisions_47 : decode cV_chunksOfRevisions 47 = .ok (.getfield 178, 3) := by decide +kernel
theorem dV_chunksOfRevisions_50 : decode cV_chunksOfRevisions 50 = .ok (.invokevirtual 346, 3) := by decide +kernel
theorem dV_chunksOfRevisions_53 : decode cV_chunksOfRevisions 53 = .ok (.iinc 2 1, 3) := by decide +kernel
theorem dV_chunksOfRevisions_56 : decode cV_chunksOfRevisions 56 = .ok (.goto (-37), 3) := by decide +kernel
theorem dV_chunksOfRevisions_59 : decode cV_chunksOfRevisions 59 = .ok (.iinc 1 1, 3) := by decide +kernel
theorem dV_chunksOfRevisions_62 : decode cV_chunksOfRevisions 62 = .ok (.goto (-53), 3) := by decide +kernel
theorem dV_chunksOfRevisions_65 : decode cV_chunksOfRevisions 65 = .ok (.aload_n 0, 1) := by decide +kernel
theorem dV_chunksOfRevisions_66 : decode cV_chunksOfRevisions 66 = .ok (.getfield 33, 3) := by decide +kernel
theorem dV_chunksOfRevisions_69 : decode cV_chunksOfRevisions 69 = .ok (.getfield 349, 3) := by decide +kernel
theorem dV_chunksOfRevisions_72 : decode cV_chunksOfRevisions 72 = .ok (.ireturn, 1) := by decide +kernel
abbrev cV_chunksKept : ByteArray := prog_1_method_60_code
abbrev yV_chunksKept : MethodName := ⟨"DrawingVault", "chunksKept", "()I"⟩
theorem dV_chunksKept_0 : decode cV_chunksKept 0 = .ok (.aload_n 0, 1) := by decide +kernel
theorem dV_chunksKept_1 : decode cV_chunksKept 1 = .ok (.invokevirtual 350, 3) := by decide +kernel
theorem dV_chunksKept_4 : decode cV_chunksKept 4 = .ok (.pop, 1) := by decide +kernel
theorem dV_chunksKept_5 : decode cV_chunksKept 5 = .ok (.iconst 0, 1) := by decide +kernel
theorem dV_chunksKept_6 : decode cV_chunksKept 6 = .ok (.istore_n 1, 1) := by decide +kernel
theorem dV_chunksKept_7 : decode cV_chunksKept 7 = .ok (.iload_n 1, 1) := by decide +kernel
theorem dV_chunksKept_8 : decode cV_chunksKept 8 = .ok (.aload_n 0, 1) := by decide +kernel
theorem dV_chunksKept_9 : decode cV_chunksKept 9 = .ok (.getfield 67, 3) := by decide +kernel
theorem dV_chunksKept_12 : decode cV_chunksKept 12 = .ok (.if_icmp .ge 25, 3) := by decide +kernel
theorem dV_chunksKept_15 : decode cV_chunksKept 15 = .ok (.aload_n 0, 1) := by decide +kernel
theorem dV_chunksKept_16 : decode cV_chunksKept 16 = .ok (.getfield 33, 3) := by decide +kernel
theorem dV_chunksKept_19 : decode cV_chunksKept 19 = .ok (.aload_n 0, 1) := by decide +kernel
theorem dV_chunksKept_20 : decode cV_chunksKept 20 = .ok (.getfield 15, 3) := by decide +kernel
theorem dV_chunksKept_23 : decode cV_chunksKept 23 = .ok (.iload_n 1, 1) := by decide +kernel
theorem dV_chunksKept_24 : decode cV_chunksKept 24 = .ok (.aaload, 1) := by decide +kernel
theorem dV_chunksKept_25 : decode cV_chunksKept 25 = .ok (.getfield 91, 3) := by decide +kernel
theorem dV_chunksKept_28 : decode cV_chunksKept 28 = .ok (.invokevirtual 346, 3) := by decide +kernel
theorem dV_chunksKept_31 : decode cV_chunksKept 31 = .ok (.iinc 1 1, 3) := by decide +kernel
theorem dV_chunksKept_34 : decode cV_chunksKept 34 = .ok (.goto (-27), 3) := by decide +kernel
theorem dV_chunksKept_37 : decode cV_chunksKept 37 = .ok (.aload_n 0, 1) := by decide +kernel
theorem dV_chunksKept_38 : decode cV_chunksKept 38 = .ok (.getfield 33, 3) := by decide +kernel
theorem dV_chunksKept_41 : decode cV_chunksKept 41 = .ok (.getfield 349, 3) := by decide +kernel
theorem dV_chunksKept_44 : decode cV_chunksKept 44 = .ok (.ireturn, 1) := by decide +kernel
abbrev cV_pagesOfTheSame : ByteArray := prog_1_method_61_code
abbrev yV_pagesOfTheSame : MethodName := ⟨"DrawingVault", "pagesOfTheSame", "()I"⟩
theorem dV_pagesOfTheSame_0 : decode cV_pagesOfTheSame 0 = .ok (.iconst 2, 1) := by decide +kernel
theorem dV_pagesOfTheSame_1 : decode cV_pagesOfTheSame 1 = .ok (.aload_n 0, 1) := by decide +kernel
theorem dV_pagesOfTheSame_2 : decode cV_pagesOfTheSame 2 = .ok (.getfield 67, 3) := by decide +kernel
theorem dV_pagesOfTheSame_5 : decode cV_pagesOfTheSame 5 = .ok (.imul, 1) := by decide +kernel
theorem dV_pagesOfTheSame_6 : decode cV_pagesOfTheSame 6 = .ok (.aload_n 0, 1) := by decide +kernel
theorem dV_pagesOfTheSame_7 : decode cV_pagesOfTheSame 7 = .ok (.getfield 71, 3) := by decide +kernel
theorem dV_pagesOfTheSame_10 : decode cV_pagesOfTheSame 10 = .ok (.iadd, 1) := by decide +kernel
theorem dV_pagesOfTheSame_11 : decode cV_pagesOfTheSame 11 = .ok (.aload_n 0, 1) := by decide +kernel
theorem dV_pagesOfTheSame_12 : decode cV_pagesOfTheSame 12 = .ok (.invokevirtual 247, 3) := by decide +kernel
theorem dV_pagesOfTheSame_15 : decode cV_pagesOfTheSame 15 = .ok (.iadd, 1) := by decide +kernel
theorem dV_pagesOfTheSame_16 : decode cV_pagesOfTheSame 16 = .ok (.aload_n 0, 1) := by decide +kernel
theorem dV_pagesOfTheSame_17 : decode cV_pagesOfTheSame 17 = .ok (.invokevirtual 350, 3) := by decide +kernel
theorem dV_pagesOfTheSame_20 : decode cV_pagesOfTheSame 20 = .ok (.iadd, 1) := by decide +kernel
theorem dV_pagesOfTheSame_21 : decode cV_pagesOfTheSame 21 = .ok (.istore_n 1, 1) := by decide +kernel
theorem dV_pagesOfTheSame_22 : decode cV_pagesOfTheSame 22 = .ok (.iconst 0, 1) := by decide +kernel
theorem dV_pagesOfTheSame_23 : decode cV_pagesOfTheSame 23 = .ok (.istore_n 2, 1) := by decide +kernel
theorem dV_pagesOfTheSame_24 : decode cV_pagesOfTheSame 24 = .ok (.iload_n 2, 1) := by decide +kernel
theorem dV_pagesOfTheSame_25 : decode cV_pagesOfTheSame 25 = .ok (.bipush 16, 2) := by decide +kernel
theorem dV_pagesOfTheSame_27 : decode cV_pagesOfTheSame 27 = .ok (.if_icmp .ge 26, 3) := by decide +kernel
theorem dV_pagesOfTheSame_30 : decode cV_pagesOfTheSame 30 = .ok (.iload_n 1, 1) := by decide +kernel
theorem dV_pagesOfTheSame_31 : decode cV_pagesOfTheSame 31 = .ok (.aload_n 0, 1) := by decide +kernel
theorem dV_pagesOfTheSame_32 : decode cV_pagesOfTheSame 32 = .ok (.getfield 9, 3) := by decide +kernel
theorem dV_pagesOfTheSame_35 : decode cV_pagesOfTheSame 35 = .ok (.iload_n 2, 1) := by decide +kernel
theorem dV_pagesOfTheSame_36 : decode cV_pagesOfTheSame 36 = .ok (.iaload, 1) := by decide +kernel
theorem dV_pagesOfTheSame_37 : decode cV_pagesOfTheSame 37 = .ok (.ifCond .eq 7, 3) := by decide +kernel
theorem dV_pagesOfTheSame_40 : decode cV_pagesOfTheSame 40 = .ok (.iconst 1, 1) := by decide +kernel
theorem dV_pagesOfTheSame_41 : decode cV_pagesOfTheSame 41 = .ok (.goto 4, 3) := by decide +kernel
theorem dV_pagesOfTheSame_44 : decode cV_pagesOfTheSame 44 = .ok (.iconst 0, 1) := by decide +kernel
theorem dV_pagesOfTheSame_45 : decode cV_pagesOfTheSame 45 = .ok (.iadd, 1) := by decide +kernel
theorem dV_pagesOfTheSame_46 : decode cV_pagesOfTheSame 46 = .ok (.istore_n 1, 1) := by decide +kernel
theorem dV_pagesOfTheSame_47 : decode cV_pagesOfTheSame 47 = .ok (.iinc 2 1, 3) := by decide +kernel
theorem dV_pagesOfTheSame_50 : decode cV_pagesOfTheSame 50 = .ok (.goto (-26), 3) := by decide +kernel
theorem dV_pagesOfTheSame_53 : decode cV_pagesOfTheSame 53 = .ok (.iconst 0, 1) := by decide +kernel
theorem dV_pagesOfTheSame_54 : decode cV_pagesOfTheSame 54 = .ok (.istore_n 2, 1) := by decide +kernel
theorem dV_pagesOfTheSame_55 : decode cV_pagesOfTheSame 55 = .ok (.iload_n 2, 1) := by decide +kernel
theorem dV_pagesOfTheSame_56 : decode cV_pagesOfTheSame 56 = .ok (.bipush 10, 2) := by decide +kernel
theorem dV_pagesOfTheSame_58 : decode cV_pagesOfTheSame 58 = .ok (.if_icmp .ge 34, 3) := by decide +kernel
theorem dV_pagesOfTheSame_61 : decode cV_pagesOfTheSame 61 = .ok (.iload_n 1, 1) := by decide +kernel
theorem dV_pagesOfTheSame_62 : decode cV_pagesOfTheSame 62 = .ok (.aload_n 0, 1) := by decide +kernel
theorem dV_pagesOfTheSame_63 : decode cV_pagesOfTheSame 63 = .ok (.getfield 21, 3) := by decide +kernel
theorem dV_pagesOfTheSame_66 : decode cV_pagesOfTheSame 66 = .ok (.iload_n 2, 1) := by decide +kernel
theorem dV_pagesOfTheSame_67 : decode cV_pagesOfTheSame 67 = .ok (.aaload, 1) := by decide +kernel
theorem dV_pagesOfTheSame_68 : decode cV_pagesOfTheSame 68 = .ok (.ifnull 15, 3) := by decide +kernel
theorem dV_pagesOfTheSame_71 : decode cV_pagesOfTheSame 71 = .ok (.aload_n 0, 1) := by decide +kernel
theorem dV_pagesOfTheSame_72 : decode cV_pagesOfTheSame 72 = .ok (.getfield 21, 3) := by decide +kernel
theorem dV_pagesOfTheSame_75 : decode cV_pagesOfTheSame 75 = .ok (.iload_n 2, 1) := by decide +kernel
theorem dV_pagesOfTheSame_76 : decode cV_pagesOfTheSame 76 = .ok (.aaload, 1) := by decide +kernel
theorem dV_pagesOfTheSame_77 : decode cV_pagesOfTheSame 77 = .ok (.invokevirtual 154, 3) := by decide +kernel
theorem dV_pagesOfTheSame_80 : decode cV_pagesOfTheSame 80 = .ok (.goto 4, 3) := by decide +kernel
theorem dV_pagesOfTheSame_83 : decode cV_pagesOfTheSame 83 = .ok (.iconst 0, 1) := by decide +kernel
theorem dV_pagesOfTheSame_84 : decode cV_pagesOfTheSame 84 = .ok (.iadd, 1) := by decide +kernel
theorem dV_pagesOfTheSame_85 : decode cV_pagesOfTheSame 85 = .ok (.istore_n 1, 1) := by decide +kernel
theorem dV_pagesOfTheSame_86 : decode cV_pagesOfTheSame 86 = .ok (.iinc 2 1, 3) := by decide +kernel
theorem dV_pagesOfTheSame_89 : decode cV_pagesOfTheSame 89 = .ok (.goto (-34), 3) := by decide +kernel
theorem dV_pagesOfTheSame_92 : decode cV_pagesOfTheSame 92 = .ok (.iload_n 1, 1) := by decide +kernel
theorem dV_pagesOfTheSame_93 : decode cV_pagesOfTheSame 93 = .ok (.ireturn, 1) := by decide +kernel
abbrev cV_allowed : ByteArray := prog_1_method_26_code
abbrev yV_allowed : MethodName := ⟨"DrawingVault", "allowed", "(I)Z"⟩
theorem dV_allowed_0 : decode cV_allowed 0 = .ok (.aload_n 0, 1) := by decide +kernel
theorem dV_allowed_1 : decode cV_allowed 1 = .ok (.iload_n 1, 1) := by decide +kernel
theorem dV_allowed_2 : decode cV_allowed 2 = .ok (.putfield 160, 3) := by decide +kernel
theorem dV_allowed_5 : decode cV_allowed 5 = .ok (.iload_n 1, 1) := by decide +kernel
theorem dV_allowed_6 : decode cV_allowed 6 = .ok (.ifCond .ne 7, 3) := by decide +kernel
theorem dV_allowed_9 : decode cV_allowed 9 = .ok (.iconst 1, 1) := by decide +kernel
theorem dV_allowed_10 : decode cV_allowed 10 = .ok (.goto 4, 3) := by decide +kernel
theorem dV_allowed_13 : decode cV_allowed 13 = .ok (.iconst 0, 1) := by decide +kernel
theorem dV_allowed_14 : decode cV_allowed 14 = .ok (.ireturn, 1) := by decide +kernel
abbrev cV_finish : ByteArray := prog_1_method_28_code
abbrev yV_finish : MethodName := ⟨"DrawingVault", "finish", "(I)V"⟩
theorem dV_finish_0 : decode cV_finish 0 = .ok (.aload_n 0, 1) := by decide +kernel
theorem dV_finish_1 : decode cV_finish 1 = .ok (.getfield 40, 3) := by decide +kernel
theorem dV_finish_4 : decode cV_finish 4 = .ok (.iload_n 1, 1) := by decide +kernel
theorem dV_finish_5 : decode cV_finish 5 = .ok (.invokevirtual 271, 3) := by decide +kernel
theorem dV_finish_8 : decode cV_finish 8 = .ok (.iconst 0, 1) := by decide +kernel
theorem dV_finish_9 : decode cV_finish 9 = .ok (.istore_n 2, 1) := by decide +kernel
theorem dV_finish_10 : decode cV_finish 10 = .ok (.iload_n 2, 1) := by decide +kernel
theorem dV_finish_11 : decode cV_finish 11 = .ok (.aload_n 0, 1) := by decide +kernel
theorem dV_finish_12 : decode cV_finish 12 = .ok (.getfield 67, 3) := by decide +kernel
theorem dV_finish_15 : decode cV_finish 15 = .ok (.if_icmp .ge 30, 3) := by decide +kernel
theorem dV_finish_18 : decode cV_finish 18 = .ok (.aload_n 0, 1) := by decide +kernel
theorem dV_finish_19 : decode cV_finish 19 = .ok (.getfield 15, 3) := by decide +kernel
theorem dV_finish_22 : decode cV_finish 22 = .ok (.iload_n 2, 1) := by decide +kernel
theorem dV_finish_23 : decode cV_finish 23 = .ok (.aaload, 1) := by decide +kernel
theorem dV_finish_24 : decode cV_finish 24 = .ok (.getfield 237, 3) := by decide +kernel
theorem dV_finish_27 : decode cV_finish 27 = .ok (.aload_n 0, 1) := by decide +kernel
theorem dV_finish_28 : decode cV_finish 28 = .ok (.getfield 15, 3) := by decide +kernel
theorem dV_finish_31 : decode cV_finish 31 = .ok (.iload_n 2, 1) := by decide +kernel
theorem dV_finish_32 : decode cV_finish 32 = .ok (.aaload, 1) := by decide +kernel
theorem dV_finish_33 : decode cV_finish 33 = .ok (.getfield 91, 3) := by decide +kernel
theorem dV_finish_36 : decode cV_finish 36 = .ok (.invokevirtual 240, 3) := by decide +kernel
theorem dV_finish_39 : decode cV_finish 39 = .ok (.iinc 2 1, 3) := by decide +kernel
theorem dV_finish_42 : decode cV_finish 42 = .ok (.goto (-32), 3) := by decide +kernel
theorem dV_finish_45 : decode cV_finish 45 = .ok (.aload_n 0, 1) := by decide +kernel
theorem dV_finish_46 : decode cV_finish 46 = .ok (.getfield 40, 3) := by decide +kernel
theorem dV_finish_49 : decode cV_finish 49 = .ok (.invokevirtual 274, 3) := by decide +kernel
theorem dV_finish_52 : decode cV_finish 52 = .ok (.ifCond .eq 14, 3) := by decide +kernel
theorem dV_finish_55 : decode cV_finish 55 = .ok (.aload_n 0, 1) := by decide +kernel
theorem dV_finish_56 : decode cV_finish 56 = .ok (.getfield 40, 3) := by decide +kernel
theorem dV_finish_59 : decode cV_finish 59 = .ok (.aload_n 0, 1) := by decide +kernel
theorem dV_finish_60 : decode cV_finish 60 = .ok (.invokevirtual 278, 3) := by decide +kernel
theorem dV_finish_63 : decode cV_finish 63 = .ok (.invokevirtual 281, 3) := by decide +kernel
theorem dV_finish_66 : decode cV_finish 66 = .ok (.return_, 1) := by decide +kernel
abbrev cV_drawingRefusal : ByteArray := prog_1_method_30_code
abbrev yV_drawingRefusal : MethodName := ⟨"DrawingVault", "drawingRefusal", "(I)I"⟩
theorem dV_drawingRefusal_0 : decode cV_drawingRefusal 0 = .ok (.aload_n 0, 1) := by decide +kernel
theorem dV_drawingRefusal_1 : decode cV_drawingRefusal 1 = .ok (.iload_n 1, 1) := by decide +kernel
theorem dV_drawingRefusal_2 : decode cV_drawingRefusal 2 = .ok (.iconst 1, 1) := by decide +kernel
theorem dV_drawingRefusal_3 : decode cV_drawingRefusal 3 = .ok (.invokevirtual 284, 3) := by decide +kernel
theorem dV_drawingRefusal_6 : decode cV_drawingRefusal 6 = .ok (.ifCond .ne 5, 3) := by decide +kernel
theorem dV_drawingRefusal_9 : decode cV_drawingRefusal 9 = .ok (.iconst 1, 1) := by decide +kernel
theorem dV_drawingRefusal_10 : decode cV_drawingRefusal 10 = .ok (.ireturn, 1) := by decide +kernel
theorem dV_drawingRefusal_11 : decode cV_drawingRefusal 11 = .ok (.aload_n 0, 1) := by decide +kernel
theorem dV_drawingRefusal_12 : decode cV_drawingRefusal 12 = .ok (.getfield 67, 3) := by decide +kernel
theorem dV_drawingRefusal_15 : decode cV_drawingRefusal 15 = .ok (.bipush 24, 2) := by decide +kernel
theorem dV_drawingRefusal_17 : decode cV_drawingRefusal 17 = .ok (.if_icmp .ge 12, 3) := by decide +kernel
theorem dV_drawingRefusal_20 : decode cV_drawingRefusal 20 = .ok (.aload_n 0, 1) := by decide +kernel
theorem dV_drawingRefusal_21 : decode cV_drawingRefusal 21 = .ok (.getfield 71, 3) := by decide +kernel
theorem dV_drawingRefusal_24 : decode cV_drawingRefusal 24 = .ok (.bipush 100, 2) := by decide +kernel
theorem dV_drawingRefusal_26 : decode cV_drawingRefusal 26 = .ok (.if_icmp .lt 7, 3) := by decide +kernel
theorem dV_drawingRefusal_29 : decode cV_drawingRefusal 29 = .ok (.iconst 1, 1) := by decide +kernel
theorem dV_drawingRefusal_30 : decode cV_drawingRefusal 30 = .ok (.goto 4, 3) := by decide +kernel
theorem dV_drawingRefusal_33 : decode cV_drawingRefusal 33 = .ok (.iconst 0, 1) := by decide +kernel
theorem dV_drawingRefusal_34 : decode cV_drawingRefusal 34 = .ok (.istore_n 2, 1) := by decide +kernel
theorem dV_drawingRefusal_35 : decode cV_drawingRefusal 35 = .ok (.iload_n 2, 1) := by decide +kernel
theorem dV_drawingRefusal_36 : decode cV_drawingRefusal 36 = .ok (.ifCond .eq 8, 3) := by decide +kernel
theorem dV_drawingRefusal_39 : decode cV_drawingRefusal 39 = .ok (.bipush 8, 2) := by decide +kernel
theorem dV_drawingRefusal_41 : decode cV_drawingRefusal 41 = .ok (.goto 4, 3) := by decide +kernel
theorem dV_drawingRefusal_44 : decode cV_drawingRefusal 44 = .ok (.iconst 0, 1) := by decide +kernel
theorem dV_drawingRefusal_45 : decode cV_drawingRefusal 45 = .ok (.ireturn, 1) := by decide +kernel
abbrev cV_outRefusal : ByteArray := prog_1_method_31_code
abbrev yV_outRefusal : MethodName := ⟨"DrawingVault", "outRefusal", "(LDrawingVault$Drawing;I)I"⟩
theorem dV_outRefusal_0 : decode cV_outRefusal 0 = .ok (.aload_n 0, 1) := by decide +kernel
theorem dV_outRefusal_1 : decode cV_outRefusal 1 = .ok (.iload_n 2, 1) := by decide +kernel
theorem dV_outRefusal_2 : decode cV_outRefusal 2 = .ok (.bipush 7, 2) := by decide +kernel
theorem dV_outRefusal_4 : decode cV_outRefusal 4 = .ok (.invokevirtual 284, 3) := by decide +kernel
theorem dV_outRefusal_7 : decode cV_outRefusal 7 = .ok (.ifCond .ne 5, 3) := by decide +kernel
theorem dV_outRefusal_10 : decode cV_outRefusal 10 = .ok (.iconst 1, 1) := by decide +kernel
theorem dV_outRefusal_11 : decode cV_outRefusal 11 = .ok (.ireturn, 1) := by decide +kernel
theorem dV_outRefusal_12 : decode cV_outRefusal 12 = .ok (.aload_n 1, 1) := by decide +kernel
theorem dV_outRefusal_13 : decode cV_outRefusal 13 = .ok (.ifnonnull 6, 3) := by decide +kernel
theorem dV_outRefusal_16 : decode cV_outRefusal 16 = .ok (.bipush 7, 2) := by decide +kernel
theorem dV_outRefusal_18 : decode cV_outRefusal 18 = .ok (.ireturn, 1) := by decide +kernel
theorem dV_outRefusal_19 : decode cV_outRefusal 19 = .ok (.aload_n 1, 1) := by decide +kernel
theorem dV_outRefusal_20 : decode cV_outRefusal 20 = .ok (.getfield 203, 3) := by decide +kernel
theorem dV_outRefusal_23 : decode cV_outRefusal 23 = .ok (.iconst (-1), 1) := by decide +kernel
theorem dV_outRefusal_24 : decode cV_outRefusal 24 = .ok (.if_icmp .ne 7, 3) := by decide +kernel
theorem dV_outRefusal_27 : decode cV_outRefusal 27 = .ok (.iconst 0, 1) := by decide +kernel
theorem dV_outRefusal_28 : decode cV_outRefusal 28 = .ok (.goto 4, 3) := by decide +kernel
theorem dV_outRefusal_31 : decode cV_outRefusal 31 = .ok (.iconst 2, 1) := by decide +kernel
theorem dV_outRefusal_32 : decode cV_outRefusal 32 = .ok (.ireturn, 1) := by decide +kernel
abbrev cV_copyRefusal : ByteArray := prog_1_method_32_code
abbrev yV_copyRefusal : MethodName := ⟨"DrawingVault", "copyRefusal", "(LDrawingVault$Drawing;I)I"⟩
theorem dV_copyRefusal_0 : decode cV_copyRefusal 0 = .ok (.aload_n 0, 1) := by decide +kernel
theorem dV_copyRefusal_1 : decode cV_copyRefusal 1 = .ok (.iload_n 2, 1) := by decide +kernel
theorem dV_copyRefusal_2 : decode cV_copyRefusal 2 = .ok (.bipush 7, 2) := by decide +kernel
theorem dV_copyRefusal_4 : decode cV_copyRefusal 4 = .ok (.invokevirtual 284, 3) := by decide +kernel
theorem dV_copyRefusal_7 : decode cV_copyRefusal 7 = .ok (.ifCond .ne 5, 3) := by decide +kernel
theorem dV_copyRefusal_10 : decode cV_copyRefusal 10 = .ok (.iconst 1, 1) := by decide +kernel
theorem dV_copyRefusal_11 : decode cV_copyRefusal 11 = .ok (.ireturn, 1) := by decide +kernel
theorem dV_copyRefusal_12 : decode cV_copyRefusal 12 = .ok (.aload_n 1, 1) := by decide +kernel
theorem dV_copyRefusal_13 : decode cV_copyRefusal 13 = .ok (.ifnonnull 6, 3) := by decide +kernel
theorem dV_copyRefusal_16 : decode cV_copyRefusal 16 = .ok (.bipush 7, 2) := by decide +kernel
theorem dV_copyRefusal_18 : decode cV_copyRefusal 18 = .ok (.ireturn, 1) := by decide +kernel
theorem dV_copyRefusal_19 : decode cV_copyRefusal 19 = .ok (.aload_n 1, 1) := by decide +kernel
theorem dV_copyRefusal_20 : decode cV_copyRefusal 20 = .ok (.getfield 203, 3) := by decide +kernel
theorem dV_copyRefusal_23 : decode cV_copyRefusal 23 = .ok (.iload_n 2, 1) := by decide +kernel
theorem dV_copyRefusal_24 : decode cV_copyRefusal 24 = .ok (.if_icmp .ne 7, 3) := by decide +kernel
theorem dV_copyRefusal_27 : decode cV_copyRefusal 27 = .ok (.iconst 0, 1) := by decide +kernel
theorem dV_copyRefusal_28 : decode cV_copyRefusal 28 = .ok (.goto 4, 3) := by decide +kernel
theorem dV_copyRefusal_31 : decode cV_copyRefusal 31 = .ok (.iconst 2, 1) := by decide +kernel
theorem dV_copyRefusal_32 : decode cV_copyRefusal 32 = .ok (.ireturn, 1) := by decide +kernel
abbrev cV_refRefusal : ByteArray := prog_1_method_33_code
abbrev yV_refRefusal : MethodName := ⟨"DrawingVault", "refRefusal", "(LDrawingVault$Content;III)I"⟩
theorem dV_refRefusal_0 : decode cV_refRefusal 0 = .ok (.iload_n 2, 1) := by decide +kernel
theorem dV_refRefusal_1 : decode cV_refRefusal 1 = .ok (.ifCond .lt 25, 3) := by decide +kernel
theorem dV_refRefusal_4 : decode cV_refRefusal 4 = .ok (.iload_n 2, 1) := by decide +kernel
theorem dV_refRefusal_5 : decode cV_refRefusal 5 = .ok (.aload_n 1, 1) := by decide +kernel
theorem dV_refRefusal_6 : decode cV_refRefusal 6 = .ok (.getfield 184, 3) := by decide +kernel
theorem dV_refRefusal_9 : decode cV_refRefusal 9 = .ok (.if_icmp .gt 17, 3) := by decide +kernel
theorem dV_refRefusal_12 : decode cV_refRefusal 12 = .ok (.aload_n 0, 1) := by decide +kernel
theorem dV_refRefusal_13 : decode cV_refRefusal 13 = .ok (.iload_n 3, 1) := by decide +kernel
theorem dV_refRefusal_14 : decode cV_refRefusal 14 = .ok (.invokevirtual 74, 3) := by decide +kernel
theorem dV_refRefusal_17 : decode cV_refRefusal 17 = .ok (.ifnull 9, 3) := by decide +kernel
theorem dV_refRefusal_20 : decode cV_refRefusal 20 = .ok (.iload 4, 2) := by decide +kernel
theorem dV_refRefusal_22 : decode cV_refRefusal 22 = .ok (.iconst (-1), 1) := by decide +kernel
theorem dV_refRefusal_23 : decode cV_refRefusal 23 = .ok (.if_icmp .ge 6, 3) := by decide +kernel
theorem dV_refRefusal_26 : decode cV_refRefusal 26 = .ok (.bipush 7, 2) := by decide +kernel
theorem dV_refRefusal_28 : decode cV_refRefusal 28 = .ok (.ireturn, 1) := by decide +kernel
theorem dV_refRefusal_29 : decode cV_refRefusal 29 = .ok (.iload_n 2, 1) := by decide +kernel
theorem dV_refRefusal_30 : decode cV_refRefusal 30 = .ok (.bipush 6, 2) := by decide +kernel
theorem dV_refRefusal_32 : decode cV_refRefusal 32 = .ok (.if_icmp .ge 7, 3) := by decide +kernel
theorem dV_refRefusal_35 : decode cV_refRefusal 35 = .ok (.iconst 0, 1) := by decide +kernel
theorem dV_refRefusal_36 : decode cV_refRefusal 36 = .ok (.goto 5, 3) := by decide +kernel
theorem dV_refRefusal_39 : decode cV_refRefusal 39 = .ok (.bipush 8, 2) := by decide +kernel
theorem dV_refRefusal_41 : decode cV_refRefusal 41 = .ok (.ireturn, 1) := by decide +kernel
abbrev cV_checkInRefusal : ByteArray := prog_1_method_34_code
abbrev yV_checkInRefusal : MethodName := ⟨"DrawingVault", "checkInRefusal", "(ILDrawingVault$Drawing;)I"⟩
theorem dV_checkInRefusal_0 : decode cV_checkInRefusal 0 = .ok (.aload_n 0, 1) := by decide +kernel
theorem dV_checkInRefusal_1 : decode cV_checkInRefusal 1 = .ok (.iload_n 1, 1) := by decide +kernel
theorem dV_checkInRefusal_2 : decode cV_checkInRefusal 2 = .ok (.iconst 1, 1) := by decide +kernel
theorem dV_checkInRefusal_3 : decode cV_checkInRefusal 3 = .ok (.invokevirtual 219, 3) := by decide +kernel
theorem dV_checkInRefusal_6 : decode cV_checkInRefusal 6 = .ok (.iload_n 1, 1) := by decide +kernel
theorem dV_checkInRefusal_7 : decode cV_checkInRefusal 7 = .ok (.invokestatic 223, 3) := by decide +kernel
theorem dV_checkInRefusal_10 : decode cV_checkInRefusal 10 = .ok (.ior, 1) := by decide +kernel
theorem dV_checkInRefusal_11 : decode cV_checkInRefusal 11 = .ok (.istore_n 3, 1) := by decide +kernel
theorem dV_checkInRefusal_12 : decode cV_checkInRefusal 12 = .ok (.aload_n 2, 1) := by decide +kernel
theorem dV_checkInRefusal_13 : decode cV_checkInRefusal 13 = .ok (.getfield 91, 3) := by decide +kernel
theorem dV_checkInRefusal_16 : decode cV_checkInRefusal 16 = .ok (.invokevirtual 287, 3) := by decide +kernel
theorem dV_checkInRefusal_19 : decode cV_checkInRefusal 19 = .ok (.iload_n 3, 1) := by decide +kernel
theorem dV_checkInRefusal_20 : decode cV_checkInRefusal 20 = .ok (.iand, 1) := by decide +kernel
theorem dV_checkInRefusal_21 : decode cV_checkInRefusal 21 = .ok (.ifCond .eq 6, 3) := by decide +kernel
theorem dV_checkInRefusal_24 : decode cV_checkInRefusal 24 = .ok (.bipush 6, 2) := by decide +kernel
theorem dV_checkInRefusal_26 : decode cV_checkInRefusal 26 = .ok (.ireturn, 1) := by decide +kernel
theorem dV_checkInRefusal_27 : decode cV_checkInRefusal 27 = .ok (.aload_n 0, 1) := by decide +kernel
theorem dV_checkInRefusal_28 : decode cV_checkInRefusal 28 = .ok (.aload_n 2, 1) := by decide +kernel
theorem dV_checkInRefusal_29 : decode cV_checkInRefusal 29 = .ok (.getfield 91, 3) := by decide +kernel
theorem dV_checkInRefusal_32 : decode cV_checkInRefusal 32 = .ok (.invokevirtual 290, 3) := by decide +kernel
theorem dV_checkInRefusal_35 : decode cV_checkInRefusal 35 = .ok (.ifCond .ne 6, 3) := by decide +kernel
theorem dV_checkInRefusal_38 : decode cV_checkInRefusal 38 = .ok (.bipush 7, 2) := by decide +kernel
theorem dV_checkInRefusal_40 : decode cV_checkInRefusal 40 = .ok (.ireturn, 1) := by decide +kernel
theorem dV_checkInRefusal_41 : decode cV_checkInRefusal 41 = .ok (.aload_n 2, 1) := by decide +kernel
theorem dV_checkInRefusal_42 : decode cV_checkInRefusal 42 = .ok (.getfield 294, 3) := by decide +kernel
theorem dV_checkInRefusal_45 : decode cV_checkInRefusal 45 = .ok (.bipush 12, 2) := by decide +kernel
theorem dV_checkInRefusal_47 : decode cV_checkInRefusal 47 = .ok (.if_icmp .ge 12, 3) := by decide +kernel
theorem dV_checkInRefusal_50 : decode cV_checkInRefusal 50 = .ok (.aload_n 0, 1) := by decide +kernel
theorem dV_checkInRefusal_51 : decode cV_checkInRefusal 51 = .ok (.getfield 71, 3) := by decide +kernel
theorem dV_checkInRefusal_54 : decode cV_checkInRefusal 54 = .ok (.bipush 100, 2) := by decide +kernel
theorem dV_checkInRefusal_56 : decode cV_checkInRefusal 56 = .ok (.if_icmp .lt 7, 3) := by decide +kernel
theorem dV_checkInRefusal_59 : decode cV_checkInRefusal 59 = .ok (.iconst 1, 1) := by decide +kernel
theorem dV_checkInRefusal_60 : decode cV_checkInRefusal 60 = .ok (.goto 4, 3) := by decide +kernel
theorem dV_checkInRefusal_63 : decode cV_checkInRefusal 63 = .ok (.iconst 0, 1) := by decide +kernel
theorem dV_checkInRefusal_64 : decode cV_checkInRefusal 64 = .ok (.istore 4, 2) := by decide +kernel
theorem dV_checkInRefusal_66 : decode cV_checkInRefusal 66 = .ok (.iload 4, 2) := by decide +kernel
theorem dV_checkInRefusal_68 : decode cV_checkInRefusal 68 = .ok (.ifCond .eq 8, 3) := by decide +kernel
theorem dV_checkInRefusal_71 : decode cV_checkInRefusal 71 = .ok (.bipush 8, 2) := by decide +kernel
theorem dV_checkInRefusal_73 : decode cV_checkInRefusal 73 = .ok (.goto 4, 3) := by decide +kernel
theorem dV_checkInRefusal_76 : decode cV_checkInRefusal 76 = .ok (.iconst 0, 1) := by decide +kernel
theorem dV_checkInRefusal_77 : decode cV_checkInRefusal 77 = .ok (.ireturn, 1) := by decide +kernel
abbrev cV_checkRefusal : ByteArray := prog_1_method_35_code
abbrev yV_checkRefusal : MethodName := ⟨"DrawingVault", "checkRefusal", "(III)I"⟩
theorem dV_checkRefusal_0 : decode cV_checkRefusal 0 = .ok (.aload_n 0, 1) := by decide +kernel
theorem dV_checkRefusal_1 : decode cV_checkRefusal 1 = .ok (.iload_n 1, 1) := by decide +kernel
theorem dV_checkRefusal_2 : decode cV_checkRefusal 2 = .ok (.invokevirtual 74, 3) := by decide +kernel
theorem dV_checkRefusal_5 : decode cV_checkRefusal 5 = .ok (.astore 4, 2) := by decide +kernel
theorem dV_checkRefusal_7 : decode cV_checkRefusal 7 = .ok (.aload_n 0, 1) := by decide +kernel
theorem dV_checkRefusal_8 : decode cV_checkRefusal 8 = .ok (.iload_n 1, 1) := by decide +kernel
theorem dV_checkRefusal_9 : decode cV_checkRefusal 9 = .ok (.iload_n 2, 1) := by decide +kernel
theorem dV_checkRefusal_10 : decode cV_checkRefusal 10 = .ok (.invokevirtual 163, 3) := by decide +kernel
theorem dV_checkRefusal_13 : decode cV_checkRefusal 13 = .ok (.astore 5, 2) := by decide +kernel
theorem dV_checkRefusal_15 : decode cV_checkRefusal 15 = .ok (.aload_n 0, 1) := by decide +kernel
theorem dV_checkRefusal_16 : decode cV_checkRefusal 16 = .ok (.iload_n 3, 1) := by decide +kernel
theorem dV_checkRefusal_17 : decode cV_checkRefusal 17 = .ok (.iconst 2, 1) := by decide +kernel
theorem dV_checkRefusal_18 : decode cV_checkRefusal 18 = .ok (.invokevirtual 284, 3) := by decide +kernel
theorem dV_checkRefusal_21 : decode cV_checkRefusal 21 = .ok (.ifCond .ne 5, 3) := by decide +kernel
theorem dV_checkRefusal_24 : decode cV_checkRefusal 24 = .ok (.iconst 1, 1) := by decide +kernel
theorem dV_checkRefusal_25 : decode cV_checkRefusal 25 = .ok (.ireturn, 1) := by decide +kernel
theorem dV_checkRefusal_26 : decode cV_checkRefusal 26 = .ok (.aload 4, 2) := by decide +kernel
theorem dV_checkRefusal_28 : decode cV_checkRefusal 28 = .ok (.ifnull 14, 3) := by decide +kernel
theorem dV_checkRefusal_31 : decode cV_checkRefusal 31 = .ok (.aload 4, 2) := by decide +kernel
theorem dV_checkRefusal_33 : decode cV_checkRefusal 33 = .ok (.getfield 203, 3) := by decide +kernel
theorem dV_checkRefusal_36 : decode cV_checkRefusal 36 = .ok (.iconst (-1), 1) := by decide +kernel
theorem dV_checkRefusal_37 : decode cV_checkRefusal 37 = .ok (.if_icmp .eq 5, 3) := by decide +kernel
theorem dV_checkRefusal_40 : decode cV_checkRefusal 40 = .ok (.iconst 2, 1) := by decide +kernel
theorem dV_checkRefusal_41 : decode cV_checkRefusal 41 = .ok (.ireturn, 1) := by decide +kernel
theorem dV_checkRefusal_42 : decode cV_checkRefusal 42 = .ok (.aload 4, 2) := by decide +kernel
theorem dV_checkRefusal_44 : decode cV_checkRefusal 44 = .ok (.ifnull 8, 3) := by decide +kernel
theorem dV_checkRefusal_47 : decode cV_checkRefusal 47 = .ok (.aload 5, 2) := by decide +kernel
theorem dV_checkRefusal_49 : decode cV_checkRefusal 49 = .ok (.ifnonnull 6, 3) := by decide +kernel
theorem dV_checkRefusal_52 : decode cV_checkRefusal 52 = .ok (.bipush 7, 2) := by decide +kernel
theorem dV_checkRefusal_54 : decode cV_checkRefusal 54 = .ok (.ireturn, 1) := by decide +kernel
theorem dV_checkRefusal_55 : decode cV_checkRefusal 55 = .ok (.aload 5, 2) := by decide +kernel
theorem dV_checkRefusal_57 : decode cV_checkRefusal 57 = .ok (.getfield 170, 3) := by decide +kernel
theorem dV_checkRefusal_60 : decode cV_checkRefusal 60 = .ok (.ifCond .ne 12, 3) := by decide +kernel
theorem dV_checkRefusal_63 : decode cV_checkRefusal 63 = .ok (.iload_n 2, 1) := by decide +kernel
theorem dV_checkRefusal_64 : decode cV_checkRefusal 64 = .ok (.aload 4, 2) := by decide +kernel
theorem dV_checkRefusal_66 : decode cV_checkRefusal 66 = .ok (.invokevirtual 132, 3) := by decide +kernel
theorem dV_checkRefusal_69 : decode cV_checkRefusal 69 = .ok (.if_icmp .eq 5, 3) := by decide +kernel
theorem dV_checkRefusal_72 : decode cV_checkRefusal 72 = .ok (.iconst 2, 1) := by decide +kernel
theorem dV_checkRefusal_73 : decode cV_checkRefusal 73 = .ok (.ireturn, 1) := by decide +kernel
theorem dV_checkRefusal_74 : decode cV_checkRefusal 74 = .ok (.aload 5, 2) := by decide +kernel
theorem dV_checkRefusal_76 : decode cV_checkRefusal 76 = .ok (.getfield 175, 3) := by decide +kernel
theorem dV_checkRefusal_79 : decode cV_checkRefusal 79 = .ok (.iload_n 3, 1) := by decide +kernel
theorem dV_checkRefusal_80 : decode cV_checkRefusal 80 = .ok (.if_icmp .ne 7, 3) := by decide +kernel
theorem dV_checkRefusal_83 : decode cV_checkRefusal 83 = .ok (.iconst 3, 1) := by decide +kernel
theorem dV_checkRefusal_84 : decode cV_checkRefusal 84 = .ok (.goto 4, 3) := by decide +kernel
theorem dV_checkRefusal_87 : decode cV_checkRefusal 87 = .ok (.iconst 0, 1) := by decide +kernel
theorem dV_checkRefusal_88 : decode cV_checkRefusal 88 = .ok (.ireturn, 1) := by decide +kernel
abbrev cV_releaseRefusal : ByteArray := prog_1_method_36_code
abbrev yV_releaseRefusal : MethodName := ⟨"DrawingVault", "releaseRefusal", "(III)I"⟩
theorem dV_releaseRefusal_0 : decode cV_releaseRefusal 0 = .ok (.aload_n 0, 1) := by decide +kernel
theorem dV_releaseRefusal_1 : decode cV_releaseRefusal 1 = .ok (.iload_n 1, 1) := by decide +kernel
theorem dV_releaseRefusal_2 : decode cV_releaseRefusal 2 = .ok (.iload_n 2, 1) := by decide +kernel
theorem dV_releaseRefusal_3 : decode cV_releaseRefusal 3 = .ok (.invokevirtual 163, 3) := by decide +kernel
theorem dV_releaseRefusal_6 : decode cV_releaseRefusal 6 = .ok (.astore 4, 2) := by decide +kernel
theorem dV_releaseRefusal_8 : decode cV_releaseRefusal 8 = .ok (.aload_n 0, 1) := by decide +kernel
theorem dV_releaseRefusal_9 : decode cV_releaseRefusal 9 = .ok (.iload_n 3, 1) := by decide +kernel
theorem dV_releaseRefusal_10 : decode cV_releaseRefusal 10 = .ok (.iconst 4, 1) := by decide +kernel
theorem dV_releaseRefusal_11 : decode cV_releaseRefusal 11 = .ok (.invokevirtual 284, 3) := by decide +kernel
theorem dV_releaseRefusal_14 : decode cV_releaseRefusal 14 = .ok (.ifCond .ne 5, 3) := by decide +kernel
theorem dV_releaseRefusal_17 : decode cV_releaseRefusal 17 = .ok (.iconst 1, 1) := by decide +kernel
theorem dV_releaseRefusal_18 : decode cV_releaseRefusal 18 = .ok (.ireturn, 1) := by decide +kernel
theorem dV_releaseRefusal_19 : decode cV_releaseRefusal 19 = .ok (.aload 4, 2) := by decide +kernel
theorem dV_releaseRefusal_21 : decode cV_releaseRefusal 21 = .ok (.ifnonnull 6, 3) := by decide +kernel
theorem dV_releaseRefusal_24 : decode cV_releaseRefusal 24 = .ok (.bipush 7, 2) := by decide +kernel
theorem dV_releaseRefusal_26 : decode cV_releaseRefusal 26 = .ok (.ireturn, 1) := by decide +kernel
theorem dV_releaseRefusal_27 : decode cV_releaseRefusal 27 = .ok (.aload 4, 2) := by decide +kernel
theorem dV_releaseRefusal_29 : decode cV_releaseRefusal 29 = .ok (.getfield 170, 3) := by decide +kernel
theorem dV_releaseRefusal_32 : decode cV_releaseRefusal 32 = .ok (.iconst 1, 1) := by decide +kernel
theorem dV_releaseRefusal_33 : decode cV_releaseRefusal 33 = .ok (.if_icmp .eq 5, 3) := by decide +kernel
theorem dV_releaseRefusal_36 : decode cV_releaseRefusal 36 = .ok (.iconst 2, 1) := by decide +kernel
theorem dV_releaseRefusal_37 : decode cV_releaseRefusal 37 = .ok (.ireturn, 1) := by decide +kernel
theorem dV_releaseRefusal_38 : decode cV_releaseRefusal 38 = .ok (.aload_n 0, 1) := by decide +kernel
theorem dV_releaseRefusal_39 : decode cV_releaseRefusal 39 = .ok (.aload 4, 2) := by decide +kernel
theorem dV_releaseRefusal_41 : decode cV_releaseRefusal 41 = .ok (.getfield 178, 3) := by decide +kernel
theorem dV_releaseRefusal_44 : decode cV_releaseRefusal 44 = .ok (.invokevirtual 295, 3) := by decide +kernel
theorem dV_releaseRefusal_47 : decode cV_releaseRefusal 47 = .ok (.ifCond .eq 7, 3) := by decide +kernel
theorem dV_releaseRefusal_50 : decode cV_releaseRefusal 50 = .ok (.iconst 0, 1) := by decide +kernel
theorem dV_releaseRefusal_51 : decode cV_releaseRefusal 51 = .ok (.goto 4, 3) := by decide +kernel
theorem dV_releaseRefusal_54 : decode cV_releaseRefusal 54 = .ok (.iconst 4, 1) := by decide +kernel
theorem dV_releaseRefusal_55 : decode cV_releaseRefusal 55 = .ok (.ireturn, 1) := by decide +kernel
abbrev cV_withdrawRefusal : ByteArray := prog_1_method_37_code
abbrev yV_withdrawRefusal : MethodName := ⟨"DrawingVault", "withdrawRefusal", "(III)I"⟩
theorem dV_withdrawRefusal_0 : decode cV_withdrawRefusal 0 = .ok (.aload_n 0, 1) := by decide +kernel
theorem dV_withdrawRefusal_1 : decode cV_withdrawRefusal 1 = .ok (.iload_n 1, 1) := by decide +kernel
theorem dV_withdrawRefusal_2 : decode cV_withdrawRefusal 2 = .ok (.iload_n 2, 1) := by decide +kernel
theorem dV_withdrawRefusal_3 : decode cV_withdrawRefusal 3 = .ok (.invokevirtual 163, 3) := by decide +kernel
theorem dV_withdrawRefusal_6 : decode cV_withdrawRefusal 6 = .ok (.astore 4, 2) := by decide +kernel
theorem dV_withdrawRefusal_8 : decode cV_withdrawRefusal 8 = .ok (.aload_n 0, 1) := by decide +kernel
theorem dV_withdrawRefusal_9 : decode cV_withdrawRefusal 9 = .ok (.iload_n 3, 1) := by decide +kernel
theorem dV_withdrawRefusal_10 : decode cV_withdrawRefusal 10 = .ok (.iconst 4, 1) := by decide +kernel
theorem dV_withdrawRefusal_11 : decode cV_withdrawRefusal 11 = .ok (.invokevirtual 284, 3) := by decide +kernel
theorem dV_withdrawRefusal_14 : decode cV_withdrawRefusal 14 = .ok (.ifCond .ne 5, 3) := by decide +kernel
theorem dV_withdrawRefusal_17 : decode cV_withdrawRefusal 17 = .ok (.iconst 1, 1) := by decide +kernel
theorem dV_withdrawRefusal_18 : decode cV_withdrawRefusal 18 = .ok (.ireturn, 1) := by decide +kernel
theorem dV_withdrawRefusal_19 : decode cV_withdrawRefusal 19 = .ok (.aload 4, 2) := by decide +kernel
theorem dV_withdrawRefusal_21 : decode cV_withdrawRefusal 21 = .ok (.ifnonnull 6, 3) := by decide +kernel
theorem dV_withdrawRefusal_24 : decode cV_withdrawRefusal 24 = .ok (.bipush 7, 2) := by decide +kernel
theorem dV_withdrawRefusal_26 : decode cV_withdrawRefusal 26 = .ok (.ireturn, 1) := by decide +kernel
theorem dV_withdrawRefusal_27 : decode cV_withdrawRefusal 27 = .ok (.aload 4, 2) := by decide +kernel
theorem dV_withdrawRefusal_29 : decode cV_withdrawRefusal 29 = .ok (.getfield 170, 3) := by decide +kernel
theorem dV_withdrawRefusal_32 : decode cV_withdrawRefusal 32 = .ok (.iconst 3, 1) := by decide +kernel
theorem dV_withdrawRefusal_33 : decode cV_withdrawRefusal 33 = .ok (.if_icmp .ne 5, 3) := by decide +kernel
theorem dV_withdrawRefusal_36 : decode cV_withdrawRefusal 36 = .ok (.iconst 2, 1) := by decide +kernel
theorem dV_withdrawRefusal_37 : decode cV_withdrawRefusal 37 = .ok (.ireturn, 1) := by decide +kernel
theorem dV_withdrawRefusal_38 : decode cV_withdrawRefusal 38 = .ok (.aload_n 0, 1) := by decide +kernel
theorem dV_withdrawRefusal_39 : decode cV_withdrawRefusal 39 = .ok (.iload_n 1, 1) := by decide +kernel
theorem dV_withdrawRefusal_40 : decode cV_withdrawRefusal 40 = .ok (.iload_n 2, 1) := by decide +kernel
theorem dV_withdrawRefusal_41 : decode cV_withdrawRefusal 41 = .ok (.invokevirtual 298, 3) := by decide +kernel
theorem dV_withdrawRefusal_44 : decode cV_withdrawRefusal 44 = .ok (.ifCond .ne 12, 3) := by decide +kernel
theorem dV_withdrawRefusal_47 : decode cV_withdrawRefusal 47 = .ok (.aload_n 0, 1) := by decide +kernel
theorem dV_withdrawRefusal_48 : decode cV_withdrawRefusal 48 = .ok (.iload_n 1, 1) := by decide +kernel
theorem dV_withdrawRefusal_49 : decode cV_withdrawRefusal 49 = .ok (.iload_n 2, 1) := by decide +kernel
theorem dV_withdrawRefusal_50 : decode cV_withdrawRefusal 50 = .ok (.invokevirtual 301, 3) := by decide +kernel
theorem dV_withdrawRefusal_53 : decode cV_withdrawRefusal 53 = .ok (.ifCond .eq 7, 3) := by decide +kernel
theorem dV_withdrawRefusal_56 : decode cV_withdrawRefusal 56 = .ok (.iconst 1, 1) := by decide +kernel
theorem dV_withdrawRefusal_57 : decode cV_withdrawRefusal 57 = .ok (.goto 4, 3) := by decide +kernel
theorem dV_withdrawRefusal_60 : decode cV_withdrawRefusal 60 = .ok (.iconst 0, 1) := by decide +kernel
theorem dV_withdrawRefusal_61 : decode cV_withdrawRefusal 61 = .ok (.istore 5, 2) := by decide +kernel
theorem dV_withdrawRefusal_63 : decode cV_withdrawRefusal 63 = .ok (.iload 5, 2) := by decide +kernel
theorem dV_withdrawRefusal_65 : decode cV_withdrawRefusal 65 = .ok (.ifCond .eq 7, 3) := by decide +kernel
theorem dV_withdrawRefusal_68 : decode cV_withdrawRefusal 68 = .ok (.iconst 5, 1) := by decide +kernel
theorem dV_withdrawRefusal_69 : decode cV_withdrawRefusal 69 = .ok (.goto 4, 3) := by decide +kernel
theorem dV_withdrawRefusal_72 : decode cV_withdrawRefusal 72 = .ok (.iconst 0, 1) := by decide +kernel
theorem dV_withdrawRefusal_73 : decode cV_withdrawRefusal 73 = .ok (.ireturn, 1) := by decide +kernel
abbrev cV_follow : ByteArray := prog_1_method_40_code
abbrev yV_follow : MethodName := ⟨"DrawingVault", "follow", "(LDrawingVault$Revision;)I"⟩
theorem dV_follow_0 : decode cV_follow 0 = .ok (.aload_n 1, 1) := by decide +kernel
theorem dV_follow_1 : decode cV_follow 1 = .ok (.ifnonnull 5, 3) := by decide +kernel
theorem dV_follow_4 : decode cV_follow 4 = .ok (.iconst 0, 1) := by decide +kernel
theorem dV_follow_5 : decode cV_follow 5 = .ok (.ireturn, 1) := by decide +kernel
theorem dV_follow_6 : decode cV_follow 6 = .ok (.iconst 0, 1) := by decide +kernel
theorem dV_follow_7 : decode cV_follow 7 = .ok (.istore_n 2, 1) := by decide +kernel
theorem dV_follow_8 : decode cV_follow 8 = .ok (.iconst 0, 1) := by decide +kernel
theorem dV_follow_9 : decode cV_follow 9 = .ok (.istore_n 3, 1) := by decide +kernel
theorem dV_follow_10 : decode cV_follow 10 = .ok (.iload_n 3, 1) := by decide +kernel
theorem dV_follow_11 : decode cV_follow 11 = .ok (.aload_n 1, 1) := by decide +kernel
theorem dV_follow_12 : decode cV_follow 12 = .ok (.getfield 178, 3) := by decide +kernel
theorem dV_follow_15 : decode cV_follow 15 = .ok (.getfield 184, 3) := by decide +kernel
theorem dV_follow_18 : decode cV_follow 18 = .ok (.if_icmp .ge 69, 3) := by decide +kernel
theorem dV_follow_21 : decode cV_follow 21 = .ok (.aload_n 1, 1) := by decide +kernel
theorem dV_follow_22 : decode cV_follow 22 = .ok (.getfield 178, 3) := by decide +kernel
theorem dV_follow_25 : decode cV_follow 25 = .ok (.getfield 191, 3) := by decide +kernel
theorem dV_follow_28 : decode cV_follow 28 = .ok (.iload_n 3, 1) := by decide +kernel
theorem dV_follow_29 : decode cV_follow 29 = .ok (.iaload, 1) := by decide +kernel
theorem dV_follow_30 : decode cV_follow 30 = .ok (.istore 4, 2) := by decide +kernel
theorem dV_follow_32 : decode cV_follow 32 = .ok (.aload_n 0, 1) := by decide +kernel
theorem dV_follow_33 : decode cV_follow 33 = .ok (.iload 4, 2) := by decide +kernel
theorem dV_follow_35 : decode cV_follow 35 = .ok (.aload_n 1, 1) := by decide +kernel
theorem dV_follow_36 : decode cV_follow 36 = .ok (.getfield 178, 3) := by decide +kernel
theorem dV_follow_39 : decode cV_follow 39 = .ok (.getfield 194, 3) := by decide +kernel
theorem dV_follow_42 : decode cV_follow 42 = .ok (.iload_n 3, 1) := by decide +kernel
theorem dV_follow_43 : decode cV_follow 43 = .ok (.iaload, 1) := by decide +kernel
theorem dV_follow_44 : decode cV_follow 44 = .ok (.invokevirtual 197, 3) := by decide +kernel
theorem dV_follow_47 : decode cV_follow 47 = .ok (.istore 5, 2) := by decide +kernel
theorem dV_follow_49 : decode cV_follow 49 = .ok (.aload_n 0, 1) := by decide +kernel
theorem dV_follow_50 : decode cV_follow 50 = .ok (.iload 4, 2) := by decide +kernel
theorem dV_follow_52 : decode cV_follow 52 = .ok (.iload 5, 2) := by decide +kernel
theorem dV_follow_54 : decode cV_follow 54 = .ok (.invokevirtual 325, 3) := by decide +kernel
theorem dV_follow_57 : decode cV_follow 57 = .ok (.ifCond .ne 8, 3) := by decide +kernel
theorem dV_follow_60 : decode cV_follow 60 = .ok (.iconst 4, 1) := by decide +kernel
theorem dV_follow_61 : decode cV_follow 61 = .ok (.istore_n 2, 1) := by decide +kernel
theorem dV_follow_62 : decode cV_follow 62 = .ok (.goto 19, 3) := by decide +kernel
theorem dV_follow_65 : decode cV_follow 65 = .ok (.aload_n 0, 1) := by decide +kernel
theorem dV_follow_66 : decode cV_follow 66 = .ok (.getfield 26, 3) := by decide +kernel
theorem dV_follow_69 : decode cV_follow 69 = .ok (.iload 4, 2) := by decide +kernel
theorem dV_follow_71 : decode cV_follow 71 = .ok (.iload 5, 2) := by decide +kernel
theorem dV_follow_73 : decode cV_follow 73 = .ok (.invokevirtual 310, 3) := by decide +kernel
theorem dV_follow_76 : decode cV_follow 76 = .ok (.ifCond .ne 5, 3) := by decide +kernel
theorem dV_follow_79 : decode cV_follow 79 = .ok (.iconst 2, 1) := by decide +kernel
theorem dV_follow_80 : decode cV_follow 80 = .ok (.ireturn, 1) := by decide +kernel
theorem dV_follow_81 : decode cV_follow 81 = .ok (.iinc 3 1, 3) := by decide +kernel
theorem dV_follow_84 : decode cV_follow 84 = .ok (.goto (-74), 3) := by decide +kernel
theorem dV_follow_87 : decode cV_follow 87 = .ok (.iload_n 2, 1) := by decide +kernel
theorem dV_follow_88 : decode cV_follow 88 = .ok (.ireturn, 1) := by decide +kernel
abbrev cV_fillDraft : ByteArray := prog_1_method_39_code
abbrev yV_fillDraft : MethodName := ⟨"DrawingVault", "fillDraft", "(II)I"⟩
theorem dV_fillDraft_0 : decode cV_fillDraft 0 = .ok (.iload_n 2, 1) := by decide +kernel
theorem dV_fillDraft_1 : decode cV_fillDraft 1 = .ok (.iconst (-1), 1) := by decide +kernel
theorem dV_fillDraft_2 : decode cV_fillDraft 2 = .ok (.if_icmp .ne 5, 3) := by decide +kernel
theorem dV_fillDraft_5 : decode cV_fillDraft 5 = .ok (.iconst 2, 1) := by decide +kernel
theorem dV_fillDraft_6 : decode cV_fillDraft 6 = .ok (.ireturn, 1) := by decide +kernel
theorem dV_fillDraft_7 : decode cV_fillDraft 7 = .ok (.aload_n 0, 1) := by decide +kernel
theorem dV_fillDraft_8 : decode cV_fillDraft 8 = .ok (.getfield 26, 3) := by decide +kernel
theorem dV_fillDraft_11 : decode cV_fillDraft 11 = .ok (.iload_n 1, 1) := by decide +kernel
theorem dV_fillDraft_12 : decode cV_fillDraft 12 = .ok (.iload_n 2, 1) := by decide +kernel
theorem dV_fillDraft_13 : decode cV_fillDraft 13 = .ok (.invokevirtual 310, 3) := by decide +kernel
theorem dV_fillDraft_16 : decode cV_fillDraft 16 = .ok (.pop, 1) := by decide +kernel
theorem dV_fillDraft_17 : decode cV_fillDraft 17 = .ok (.iconst 0, 1) := by decide +kernel
theorem dV_fillDraft_18 : decode cV_fillDraft 18 = .ok (.istore_n 3, 1) := by decide +kernel
theorem dV_fillDraft_19 : decode cV_fillDraft 19 = .ok (.iconst 0, 1) := by decide +kernel
theorem dV_fillDraft_20 : decode cV_fillDraft 20 = .ok (.istore 4, 2) := by decide +kernel
theorem dV_fillDraft_22 : decode cV_fillDraft 22 = .ok (.iload 4, 2) := by decide +kernel
theorem dV_fillDraft_24 : decode cV_fillDraft 24 = .ok (.aload_n 0, 1) := by decide +kernel
theorem dV_fillDraft_25 : decode cV_fillDraft 25 = .ok (.getfield 26, 3) := by decide +kernel
theorem dV_fillDraft_28 : decode cV_fillDraft 28 = .ok (.getfield 157, 3) := by decide +kernel
theorem dV_fillDraft_31 : decode cV_fillDraft 31 = .ok (.if_icmp .ge 65, 3) := by decide +kernel
theorem dV_fillDraft_34 : decode cV_fillDraft 34 = .ok (.iload 4, 2) := by decide +kernel
theorem dV_fillDraft_36 : decode cV_fillDraft 36 = .ok (.bipush 24, 2) := by decide +kernel
theorem dV_fillDraft_38 : decode cV_fillDraft 38 = .ok (.if_icmp .ge 58, 3) := by decide +kernel
theorem dV_fillDraft_41 : decode cV_fillDraft 41 = .ok (.aload_n 0, 1) := by decide +kernel
theorem dV_fillDraft_42 : decode cV_fillDraft 42 = .ok (.getfield 26, 3) := by decide +kernel
theorem dV_fillDraft_45 : decode cV_fillDraft 45 = .ok (.getfield 313, 3) := by decide +kernel
theorem dV_fillDraft_48 : decode cV_fillDraft 48 = .ok (.iload 4, 2) := by decide +kernel
theorem dV_fillDraft_50 : decode cV_fillDraft 50 = .ok (.iaload, 1) := by decide +kernel
theorem dV_fillDraft_51 : decode cV_fillDraft 51 = .ok (.istore 5, 2) := by decide +kernel
theorem dV_fillDraft_53 : decode cV_fillDraft 53 = .ok (.aload_n 0, 1) := by decide +kernel
theorem dV_fillDraft_54 : decode cV_fillDraft 54 = .ok (.aload_n 0, 1) := by decide +kernel
theorem dV_fillDraft_55 : decode cV_fillDraft 55 = .ok (.iload 5, 2) := by decide +kernel
theorem dV_fillDraft_57 : decode cV_fillDraft 57 = .ok (.aload_n 0, 1) := by decide +kernel
theorem dV_fillDraft_58 : decode cV_fillDraft 58 = .ok (.getfield 26, 3) := by decide +kernel
theorem dV_fillDraft_61 : decode cV_fillDraft 61 = .ok (.getfield 216, 3) := by decide +kernel
theorem dV_fillDraft_64 : decode cV_fillDraft 64 = .ok (.iload 5, 2) := by decide +kernel
theorem dV_fillDraft_66 : decode cV_fillDraft 66 = .ok (.iaload, 1) := by decide +kernel
theorem dV_fillDraft_67 : decode cV_fillDraft 67 = .ok (.invokevirtual 163, 3) := by decide +kernel
theorem dV_fillDraft_70 : decode cV_fillDraft 70 = .ok (.invokevirtual 316, 3) := by decide +kernel
theorem dV_fillDraft_73 : decode cV_fillDraft 73 = .ok (.istore 6, 2) := by decide +kernel
theorem dV_fillDraft_75 : decode cV_fillDraft 75 = .ok (.iload 6, 2) := by decide +kernel
theorem dV_fillDraft_77 : decode cV_fillDraft 77 = .ok (.iconst 2, 1) := by decide +kernel
theorem dV_fillDraft_78 : decode cV_fillDraft 78 = .ok (.if_icmp .ne 5, 3) := by decide +kernel
theorem dV_fillDraft_81 : decode cV_fillDraft 81 = .ok (.iconst 2, 1) := by decide +kernel
theorem dV_fillDraft_82 : decode cV_fillDraft 82 = .ok (.ireturn, 1) := by decide +kernel
theorem dV_fillDraft_83 : decode cV_fillDraft 83 = .ok (.iload_n 3, 1) := by decide +kernel
theorem dV_fillDraft_84 : decode cV_fillDraft 84 = .ok (.iload 6, 2) := by decide +kernel
theorem dV_fillDraft_86 : decode cV_fillDraft 86 = .ok (.invokestatic 320, 3) := by decide +kernel
theorem dV_fillDraft_89 : decode cV_fillDraft 89 = .ok (.istore_n 3, 1) := by decide +kernel
theorem dV_fillDraft_90 : decode cV_fillDraft 90 = .ok (.iinc 4 1, 3) := by decide +kernel
theorem dV_fillDraft_93 : decode cV_fillDraft 93 = .ok (.goto (-71), 3) := by decide +kernel
theorem dV_fillDraft_96 : decode cV_fillDraft 96 = .ok (.iload_n 3, 1) := by decide +kernel
theorem dV_fillDraft_97 : decode cV_fillDraft 97 = .ok (.ireturn, 1) := by decide +kernel
abbrev cV_why : ByteArray := prog_1_method_15_code
abbrev yV_why : MethodName := ⟨"DrawingVault", "why", "()I"⟩
theorem dV_why_0 : decode cV_why 0 = .ok (.aload_n 0, 1) := by decide +kernel
theorem dV_why_1 : decode cV_why 1 = .ok (.getfield 160, 3) := by decide +kernel
theorem dV_why_4 : decode cV_why 4 = .ok (.ireturn, 1) := by decide +kernel
abbrev cV_user : ByteArray := prog_1_method_20_code
abbrev yV_user : MethodName := ⟨"DrawingVault", "user", "(IZI)I"⟩
theorem dV_user_0 : decode cV_user 0 = .ok (.aload_n 0, 1) := by decide +kernel
theorem dV_user_1 : decode cV_user 1 = .ok (.iload_n 1, 1) := by decide +kernel
theorem dV_user_2 : decode cV_user 2 = .ok (.invokevirtual 74, 3) := by decide +kernel
theorem dV_user_5 : decode cV_user 5 = .ok (.ifnonnull 5, 3) := by decide +kernel
theorem dV_user_8 : decode cV_user 8 = .ok (.iconst (-1), 1) := by decide +kernel
theorem dV_user_9 : decode cV_user 9 = .ok (.ireturn, 1) := by decide +kernel
theorem dV_user_10 : decode cV_user 10 = .ok (.aload_n 0, 1) := by decide +kernel
theorem dV_user_11 : decode cV_user 11 = .ok (.iload_n 1, 1) := by decide +kernel
theorem dV_user_12 : decode cV_user 12 = .ok (.iload_n 2, 1) := by decide +kernel
theorem dV_user_13 : decode cV_user 13 = .ok (.invokevirtual 219, 3) := by decide +kernel
theorem dV_user_16 : decode cV_user 16 = .ok (.istore 4, 2) := by decide +kernel
theorem dV_user_18 : decode cV_user 18 = .ok (.iconst 0, 1) := by decide +kernel
theorem dV_user_19 : decode cV_user 19 = .ok (.istore 5, 2) := by decide +kernel
theorem dV_user_21 : decode cV_user 21 = .ok (.iconst 0, 1) := by decide +kernel
theorem dV_user_22 : decode cV_user 22 = .ok (.istore 6, 2) := by decide +kernel
theorem dV_user_24 : decode cV_user 24 = .ok (.iload 6, 2) := by decide +kernel
theorem dV_user_26 : decode cV_user 26 = .ok (.aload_n 0, 1) := by decide +kernel
theorem dV_user_27 : decode cV_user 27 = .ok (.getfield 67, 3) := by decide +kernel
theorem dV_user_30 : decode cV_user 30 = .ok (.if_icmp .ge 32, 3) := by decide +kernel
theorem dV_user_33 : decode cV_user 33 = .ok (.iload 4, 2) := by decide +kernel
theorem dV_user_35 : decode cV_user 35 = .ok (.iload 6, 2) := by decide +kernel
theorem dV_user_37 : decode cV_user 37 = .ok (.invokestatic 223, 3) := by decide +kernel
theorem dV_user_40 : decode cV_user 40 = .ok (.iand, 1) := by decide +kernel
theorem dV_user_41 : decode cV_user 41 = .ok (.ifCond .eq 15, 3) := by decide +kernel
theorem dV_user_44 : decode cV_user 44 = .ok (.iload 5, 2) := by decide +kernel
theorem dV_user_46 : decode cV_user 46 = .ok (.iload_n 3, 1) := by decide +kernel
theorem dV_user_47 : decode cV_user 47 = .ok (.if_icmp .ne 6, 3) := by decide +kernel
theorem dV_user_50 : decode cV_user 50 = .ok (.iload 6, 2) := by decide +kernel
theorem dV_user_52 : decode cV_user 52 = .ok (.ireturn, 1) := by decide +kernel
theorem dV_user_53 : decode cV_user 53 = .ok (.iinc 5 1, 3) := by decide +kernel
theorem dV_user_56 : decode cV_user 56 = .ok (.iinc 6 1, 3) := by decide +kernel
theorem dV_user_59 : decode cV_user 59 = .ok (.goto (-35), 3) := by decide +kernel
theorem dV_user_62 : decode cV_user 62 = .ok (.iconst (-1), 1) := by decide +kernel
theorem dV_user_63 : decode cV_user 63 = .ok (.ireturn, 1) := by decide +kernel
abbrev cV_failAfter : ByteArray := prog_1_method_22_code
abbrev yV_failAfter : MethodName := ⟨"DrawingVault", "failAfter", "(I)Z"⟩
theorem dV_failAfter_0 : decode cV_failAfter 0 = .ok (.iload_n 1, 1) := by decide +kernel
theorem dV_failAfter_1 : decode cV_failAfter 1 = .ok (.ifCond .lt 13, 3) := by decide +kernel
theorem dV_failAfter_4 : decode cV_failAfter 4 = .ok (.aload_n 0, 1) := by decide +kernel
theorem dV_failAfter_5 : decode cV_failAfter 5 = .ok (.getfield 40, 3) := by decide +kernel
theorem dV_failAfter_8 : decode cV_failAfter 8 = .ok (.getfield 230, 3) := by decide +kernel
theorem dV_failAfter_11 : decode cV_failAfter 11 = .ok (.ifCond .eq 5, 3) := by decide +kernel
theorem dV_failAfter_14 : decode cV_failAfter 14 = .ok (.iconst 0, 1) := by decide +kernel
theorem dV_failAfter_15 : decode cV_failAfter 15 = .ok (.ireturn, 1) := by decide +kernel
theorem dV_failAfter_16 : decode cV_failAfter 16 = .ok (.aload_n 0, 1) := by decide +kernel
theorem dV_failAfter_17 : decode cV_failAfter 17 = .ok (.getfield 40, 3) := by decide +kernel
theorem dV_failAfter_20 : decode cV_failAfter 20 = .ok (.iload_n 1, 1) := by decide +kernel
theorem dV_failAfter_21 : decode cV_failAfter 21 = .ok (.invokevirtual 234, 3) := by decide +kernel
theorem dV_failAfter_24 : decode cV_failAfter 24 = .ok (.iconst 1, 1) := by decide +kernel
theorem dV_failAfter_25 : decode cV_failAfter 25 = .ok (.ireturn, 1) := by decide +kernel
abbrev cV_start : ByteArray := prog_1_method_23_code
abbrev yV_start : MethodName := ⟨"DrawingVault", "start", "()I"⟩
theorem dV_start_0 : decode cV_start 0 = .ok (.iconst 0, 1) := by decide +kernel
theorem dV_start_1 : decode cV_start 1 = .ok (.istore_n 1, 1) := by decide +kernel
theorem dV_start_2 : decode cV_start 2 = .ok (.iload_n 1, 1) := by decide +kernel
theorem dV_start_3 : decode cV_start 3 = .ok (.aload_n 0, 1) := by decide +kernel
theorem dV_start_4 : decode cV_start 4 = .ok (.getfield 67, 3) := by decide +kernel
theorem dV_start_7 : decode cV_start 7 = .ok (.if_icmp .ge 30, 3) := by decide +kernel
theorem dV_start_10 : decode cV_start 10 = .ok (.aload_n 0, 1) := by decide +kernel
theorem dV_start_11 : decode cV_start 11 = .ok (.getfield 15, 3) := by decide +kernel
theorem dV_start_14 : decode cV_start 14 = .ok (.iload_n 1, 1) := by decide +kernel
theorem dV_start_15 : decode cV_start 15 = .ok (.aaload, 1) := by decide +kernel
theorem dV_start_16 : decode cV_start 16 = .ok (.getfield 91, 3) := by decide +kernel
theorem dV_start_19 : decode cV_start 19 = .ok (.aload_n 0, 1) := by decide +kernel
theorem dV_start_20 : decode cV_start 20 = .ok (.getfield 15, 3) := by decide +kernel
theorem dV_start_23 : decode cV_start 23 = .ok (.iload_n 1, 1) := by decide +kernel
theorem dV_start_24 : decode cV_start 24 = .ok (.aaload, 1) := by decide +kernel
theorem dV_start_25 : decode cV_start 25 = .ok (.getfield 237, 3) := by decide +kernel
theorem dV_start_28 : decode cV_start 28 = .ok (.invokevirtual 240, 3) := by decide +kernel
theorem dV_start_31 : decode cV_start 31 = .ok (.iinc 1 1, 3) := by decide +kernel
theorem dV_start_34 : decode cV_start 34 = .ok (.goto (-32), 3) := by decide +kernel
theorem dV_start_37 : decode cV_start 37 = .ok (.aload_n 0, 1) := by decide +kernel
theorem dV_start_38 : decode cV_start 38 = .ok (.getfield 40, 3) := by decide +kernel
theorem dV_start_41 : decode cV_start 41 = .ok (.invokevirtual 244, 3) := by decide +kernel
theorem dV_start_44 : decode cV_start 44 = .ok (.aload_n 0, 1) := by decide +kernel
theorem dV_start_45 : decode cV_start 45 = .ok (.invokevirtual 247, 3) := by decide +kernel
theorem dV_start_48 : decode cV_start 48 = .ok (.ireturn, 1) := by decide +kernel
abbrev cV_count : ByteArray := prog_1_method_24_code
abbrev yV_count : MethodName := ⟨"DrawingVault", "count", "(I)I"⟩
theorem dV_count_0 : decode cV_count 0 = .ok (.iload_n 1, 1) := by decide +kernel
theorem dV_count_1 : decode cV_count 1 = .ok (.tableswitch 107 0 7 #[47, 52, 57, 62, 70, 78, 86, 91], 47) := by decide +kernel
theorem dV_count_48 : decode cV_count 48 = .ok (.aload_n 0, 1) := by decide +kernel
theorem dV_count_49 : decode cV_count 49 = .ok (.getfield 67, 3) := by decide +kernel
theorem dV_count_52 : decode cV_count 52 = .ok (.ireturn, 1) := by decide +kernel
theorem dV_count_53 : decode cV_count 53 = .ok (.aload_n 0, 1) := by decide +kernel
theorem dV_count_54 : decode cV_count 54 = .ok (.getfield 71, 3) := by decide +kernel
theorem dV_count_57 : decode cV_count 57 = .ok (.ireturn, 1) := by decide +kernel
theorem dV_count_58 : decode cV_count 58 = .ok (.aload_n 0, 1) := by decide +kernel
theorem dV_count_59 : decode cV_count 59 = .ok (.invokevirtual 250, 3) := by decide +kernel
theorem dV_count_62 : decode cV_count 62 = .ok (.ireturn, 1) := by decide +kernel
theorem dV_count_63 : decode cV_count 63 = .ok (.aload_n 0, 1) := by decide +kernel
theorem dV_count_64 : decode cV_count 64 = .ok (.getfield 40, 3) := by decide +kernel
theorem dV_count_67 : decode cV_count 67 = .ok (.getfield 253, 3) := by decide +kernel
theorem dV_count_70 : decode cV_count 70 = .ok (.ireturn, 1) := by decide +kernel
theorem dV_count_71 : decode cV_count 71 = .ok (.aload_n 0, 1) := by decide +kernel
theorem dV_count_72 : decode cV_count 72 = .ok (.getfield 40, 3) := by decide +kernel
theorem dV_count_75 : decode cV_count 75 = .ok (.getfield 256, 3) := by decide +kernel
theorem dV_count_78 : decode cV_count 78 = .ok (.ireturn, 1) := by decide +kernel
theorem dV_count_79 : decode cV_count 79 = .ok (.aload_n 0, 1) := by decide +kernel
theorem dV_count_80 : decode cV_count 80 = .ok (.getfield 40, 3) := by decide +kernel
theorem dV_count_83 : decode cV_count 83 = .ok (.getfield 259, 3) := by decide +kernel
theorem dV_count_86 : decode cV_count 86 = .ok (.ireturn, 1) := by decide +kernel
theorem dV_count_87 : decode cV_count 87 = .ok (.aload_n 0, 1) := by decide +kernel
theorem dV_count_88 : decode cV_count 88 = .ok (.invokevirtual 262, 3) := by decide +kernel
theorem dV_count_91 : decode cV_count 91 = .ok (.ireturn, 1) := by decide +kernel
theorem dV_count_92 : decode cV_count 92 = .ok (.aload_n 0, 1) := by decide +kernel
theorem dV_count_93 : decode cV_count 93 = .ok (.getfield 40, 3) := by decide +kernel
theorem dV_count_96 : decode cV_count 96 = .ok (.getfield 230, 3) := by decide +kernel
theorem dV_count_99 : decode cV_count 99 = .ok (.ifCond .eq 7, 3) := by decide +kernel
theorem dV_count_102 : decode cV_count 102 = .ok (.iconst 1, 1) := by decide +kernel
theorem dV_count_103 : decode cV_count 103 = .ok (.goto 4, 3) := by decide +kernel
theorem dV_count_106 : decode cV_count 106 = .ok (.iconst 0, 1) := by decide +kernel
theorem dV_count_107 : decode cV_count 107 = .ok (.ireturn, 1) := by decide +kernel
theorem dV_count_108 : decode cV_count 108 = .ok (.iconst (-1), 1) := by decide +kernel
theorem dV_count_109 : decode cV_count 109 = .ok (.ireturn, 1) := by decide +kernel
theorem wd_360 : (.fieldLink "DrawingVault" 33 "DrawingVault" "chunks" "LDrawingVault$ChunkSet;" : Cond) ∈ aw := aw_in (tb_1 (List.mem_of_getElem? (i := 105) rfl)) rfl
theorem wd_361 : (.methodLink "DrawingVault" 345 ⟨"DrawingVault$ChunkSet", "clear", "()V"⟩ : Cond) ∈ aw := aw_in (tb_1 (List.mem_of_getElem? (i := 206) rfl)) rfl
theorem wd_362 : (.methodLink "DrawingVault" 346 ⟨"DrawingVault$ChunkSet", "addAll", "(LDrawingVault$Content;)V"⟩ : Cond) ∈ aw := aw_in (tb_1 (List.mem_of_getElem? (i := 210) rfl)) rfl
theorem wd_363 : (.fieldLink "DrawingVault" 349 "DrawingVault$ChunkSet" "size" "I" : Cond) ∈ aw := aw_in (tb_1 (List.mem_of_getElem? (i := 60) rfl)) rfl
theorem wd_364 : (.code ⟨"DrawingVault", "chunksOfRevisions", "()I"⟩ prog_1_method_59_code 3 (Option.some .int) : Cond) ∈ aw := aw_in (tb_1 (List.mem_of_getElem? (i := 205) rfl)) rfl
theorem wd_365 : (.methodLink "DrawingVault" 350 ⟨"DrawingVault", "chunksOfRevisions", "()I"⟩ : Cond) ∈ aw := aw_in (tb_1 (List.mem_of_getElem? (i := 202) rfl)) rfl
theorem wd_366 : (.instanceMethod ⟨"DrawingVault", "chunksOfRevisions", "()I"⟩ : Cond) ∈ aw := aw_in (tb_1 (List.mem_of_getElem? (i := 204) rfl)) rfl
theorem wd_367 : (.selects "DrawingVault" ⟨"DrawingVault", "chunksOfRevisions", "()I"⟩ ⟨"DrawingVault", "chunksOfRevisions", "()I"⟩ : Cond) ∈ aw := aw_in (tb_s (q := (⟨"DrawingVault", "chunksOfRevisions", "()I"⟩, _)) (List.mem_append_left _ (List.mem_of_getElem? (i := 5) rfl))) rfl
theorem wd_368 : (.fieldLink "DrawingVault" 91 "DrawingVault$Drawing" "copy" "LDrawingVault$Content;" : Cond) ∈ aw := aw_in (tb_2 (List.mem_of_getElem? (i := 165) rfl)) rfl
theorem wd_369 : (.fieldLink "DrawingVault" 71 "DrawingVault" "revisionCount" "I" : Cond) ∈ aw := aw_in (tb_1 (List.mem_of_getElem? (i := 102) rfl)) rfl
theorem wd_370 : (.code ⟨"DrawingVault", "drawingsOut", "()I"⟩ prog_1_method_57_code 3 (Option.some .int) : Cond) ∈ aw := aw_in (tb_1 (List.mem_of_getElem? (i := 193) rfl)) rfl
theorem wd_371 : (.methodLink "DrawingVault" 247 ⟨"DrawingVault", "drawingsOut", "()I"⟩ : Cond) ∈ aw := aw_in (tb_1 (List.mem_of_getElem? (i := 190) rfl)) rfl
theorem wd_372 : (.instanceMethod ⟨"DrawingVault", "drawingsOut", "()I"⟩ : Cond) ∈ aw := aw_in (tb_1 (List.mem_of_getElem? (i := 192) rfl)) rfl
theorem wd_373 : (.selects "DrawingVault" ⟨"DrawingVault", "drawingsOut", "()I"⟩ ⟨"DrawingVault", "drawingsOut", "()I"⟩ : Cond) ∈ aw := aw_in (tb_s (q := (⟨"DrawingVault", "drawingsOut", "()I"⟩, _)) (List.mem_append_left _ (List.mem_of_getElem? (i := 3) rfl))) rfl
theorem wd_374 : (.code ⟨"DrawingVault$Baseline", "pagesTaken", "()I"⟩ prog_2_method_5_code 1 (Option.some .int) : Cond) ∈ aw := aw_in (tb_2 (List.mem_of_getElem? (i := 104) rfl)) rfl
theorem wd_375 : (.methodLink "DrawingVault" 154 ⟨"DrawingVault$Baseline", "pagesTaken", "()I"⟩ : Cond) ∈ aw := aw_in (tb_2 (List.mem_of_getElem? (i := 101) rfl)) rfl
theorem wd_376 : (.instanceMethod ⟨"DrawingVault$Baseline", "pagesTaken", "()I"⟩ : Cond) ∈ aw := aw_in (tb_2 (List.mem_of_getElem? (i := 102) rfl)) rfl
theorem wd_377 : (.selects "DrawingVault$Baseline" ⟨"DrawingVault$Baseline", "pagesTaken", "()I"⟩ ⟨"DrawingVault$Baseline", "pagesTaken", "()I"⟩ : Cond) ∈ aw := aw_in (tb_2 (List.mem_of_getElem? (i := 103) rfl)) rfl
theorem wd_378 : (.initialized "DrawingVault$Baseline" : Cond) ∈ aw := aw_in (tb_1 (List.mem_of_getElem? (i := 2) rfl)) rfl
theorem wd_379 : (.fieldLink "DrawingVault" 160 "DrawingVault" "reason" "I" : Cond) ∈ aw := aw_in (tb_1 (List.mem_of_getElem? (i := 107) rfl)) rfl
theorem wd_380 : (.fieldLink "DrawingVault" 40 "DrawingVault" "pages" "LDrawingVault$Pages;" : Cond) ∈ aw := aw_in (tb_1 (List.mem_of_getElem? (i := 106) rfl)) rfl
theorem wd_381 : (.code ⟨"DrawingVault$Pages", "write", "(I)V"⟩ prog_6_method_5_code 2 (Option.none : Option Jvm.ClassFile.FieldType) : Cond) ∈ aw := aw_in (tb_2 (List.mem_of_getElem? (i := 92) rfl)) rfl
theorem wd_382 : (.methodLink "DrawingVault" 271 ⟨"DrawingVault$Pages", "write", "(I)V"⟩ : Cond) ∈ aw := aw_in (tb_2 (List.mem_of_getElem? (i := 89) rfl)) rfl
theorem wd_383 : (.instanceMethod ⟨"DrawingVault$Pages", "write", "(I)V"⟩ : Cond) ∈ aw := aw_in (tb_2 (List.mem_of_getElem? (i := 90) rfl)) rfl
theorem wd_384 : (.selects "DrawingVault$Pages" ⟨"DrawingVault$Pages", "write", "(I)V"⟩ ⟨"DrawingVault$Pages", "write", "(I)V"⟩ : Cond) ∈ aw := aw_in (tb_2 (List.mem_of_getElem? (i := 91) rfl)) rfl
theorem wd_385 : (.initialized "DrawingVault$Pages" : Cond) ∈ aw := aw_in (tb_1 (List.mem_of_getElem? (i := 5) rfl)) rfl
theorem wd_386 : (.fieldLink "DrawingVault" 237 "DrawingVault$Drawing" "written" "LDrawingVault$Content;" : Cond) ∈ aw := aw_in (tb_2 (List.mem_of_getElem? (i := 167) rfl)) rfl
theorem wd_387 : (.methodLink "DrawingVault" 240 ⟨"DrawingVault$Content", "takeFrom", "(LDrawingVault$Content;)V"⟩ : Cond) ∈ aw := aw_in (tb_1 (List.mem_of_getElem? (i := 179) rfl)) rfl
theorem wd_388 : (.code ⟨"DrawingVault$Pages", "areLow", "()Z"⟩ prog_6_method_6_code 1 (Option.some .boolean) : Cond) ∈ aw := aw_in (tb_2 (List.mem_of_getElem? (i := 96) rfl)) rfl
theorem wd_389 : (.methodLink "DrawingVault" 274 ⟨"DrawingVault$Pages", "areLow", "()Z"⟩ : Cond) ∈ aw := aw_in (tb_2 (List.mem_of_getElem? (i := 93) rfl)) rfl
theorem wd_390 : (.instanceMethod ⟨"DrawingVault$Pages", "areLow", "()Z"⟩ : Cond) ∈ aw := aw_in (tb_2 (List.mem_of_getElem? (i := 94) rfl)) rfl
theorem wd_391 : (.selects "DrawingVault$Pages" ⟨"DrawingVault$Pages", "areLow", "()Z"⟩ ⟨"DrawingVault$Pages", "areLow", "()Z"⟩ : Cond) ∈ aw := aw_in (tb_2 (List.mem_of_getElem? (i := 95) rfl)) rfl
theorem wd_392 : (.code ⟨"DrawingVault", "pagesOfTheSame", "()I"⟩ prog_1_method_61_code 3 (Option.some .int) : Cond) ∈ aw := aw_in (tb_2 (List.mem_of_getElem? (i := 100) rfl)) rfl
theorem wd_393 : (.methodLink "DrawingVault" 278 ⟨"DrawingVault", "pagesOfTheSame", "()I"⟩ : Cond) ∈ aw := aw_in (tb_2 (List.mem_of_getElem? (i := 97) rfl)) rfl
theorem wd_394 : (.instanceMethod ⟨"DrawingVault", "pagesOfTheSame", "()I"⟩ : Cond) ∈ aw := aw_in (tb_2 (List.mem_of_getElem? (i := 99) rfl)) rfl
theorem wd_395 : (.selects "DrawingVault" ⟨"DrawingVault", "pagesOfTheSame", "()I"⟩ ⟨"DrawingVault", "pagesOfTheSame", "()I"⟩ : Cond) ∈ aw := aw_in (tb_s (q := (⟨"DrawingVault", "pagesOfTheSame", "()I"⟩, _)) (List.mem_append_left _ (List.mem_of_getElem? (i := 13) rfl))) rfl
theorem wd_396 : (.code ⟨"DrawingVault$Pages", "copyForward", "(I)V"⟩ prog_6_method_7_code 2 (Option.none : Option Jvm.ClassFile.FieldType) : Cond) ∈ aw := aw_in (tb_2 (List.mem_of_getElem? (i := 108) rfl)) rfl
theorem wd_397 : (.methodLink "DrawingVault" 281 ⟨"DrawingVault$Pages", "copyForward", "(I)V"⟩ : Cond) ∈ aw := aw_in (tb_2 (List.mem_of_getElem? (i := 105) rfl)) rfl
theorem wd_398 : (.instanceMethod ⟨"DrawingVault$Pages", "copyForward", "(I)V"⟩ : Cond) ∈ aw := aw_in (tb_2 (List.mem_of_getElem? (i := 106) rfl)) rfl
theorem wd_399 : (.selects "DrawingVault$Pages" ⟨"DrawingVault$Pages", "copyForward", "(I)V"⟩ ⟨"DrawingVault$Pages", "copyForward", "(I)V"⟩ : Cond) ∈ aw := aw_in (tb_2 (List.mem_of_getElem? (i := 107) rfl)) rfl
theorem wd_400 : (.code ⟨"DrawingVault", "hasRight", "(II)Z"⟩ prog_1_method_43_code 3 (Option.some .boolean) : Cond) ∈ aw := aw_in (tb_2 (List.mem_of_getElem? (i := 123) rfl)) rfl
theorem wd_401 : (.methodLink "DrawingVault" 284 ⟨"DrawingVault", "hasRight", "(II)Z"⟩ : Cond) ∈ aw := aw_in (tb_2 (List.mem_of_getElem? (i := 120) rfl)) rfl
theorem wd_402 : (.instanceMethod ⟨"DrawingVault", "hasRight", "(II)Z"⟩ : Cond) ∈ aw := aw_in (tb_2 (List.mem_of_getElem? (i := 122) rfl)) rfl
theorem wd_403 : (.selects "DrawingVault" ⟨"DrawingVault", "hasRight", "(II)Z"⟩ ⟨"DrawingVault", "hasRight", "(II)Z"⟩ : Cond) ∈ aw := aw_in (tb_s (q := (⟨"DrawingVault", "hasRight", "(II)Z"⟩, _)) (List.mem_append_left _ (List.mem_of_getElem? (i := 15) rfl))) rfl
theorem wd_404 : (.code ⟨"DrawingVault", "usersOf", "(IZ)I"⟩ prog_1_method_53_code 7 (Option.some .int) : Cond) ∈ aw := aw_in (tb_1 (List.mem_of_getElem? (i := 142) rfl)) rfl
theorem wd_405 : (.methodLink "DrawingVault" 219 ⟨"DrawingVault", "usersOf", "(IZ)I"⟩ : Cond) ∈ aw := aw_in (tb_1 (List.mem_of_getElem? (i := 139) rfl)) rfl
theorem wd_406 : (.instanceMethod ⟨"DrawingVault", "usersOf", "(IZ)I"⟩ : Cond) ∈ aw := aw_in (tb_1 (List.mem_of_getElem? (i := 141) rfl)) rfl
theorem wd_407 : (.selects "DrawingVault" ⟨"DrawingVault", "usersOf", "(IZ)I"⟩ ⟨"DrawingVault", "usersOf", "(IZ)I"⟩ : Cond) ∈ aw := aw_in (tb_s (q := (⟨"DrawingVault", "usersOf", "(IZ)I"⟩, _)) (List.mem_append_left _ (List.mem_of_getElem? (i := 1) rfl))) rfl
theorem wd_408 : (.methodLink "DrawingVault" 287 ⟨"DrawingVault$Content", "targetBits", "()I"⟩ : Cond) ∈ aw := aw_in (tb_3 (List.mem_of_getElem? (i := 76) rfl)) rfl
theorem wd_409 : (.code ⟨"DrawingVault", "fixedOnesAreThere", "(LDrawingVault$Content;)Z"⟩ prog_1_method_50_code 4 (Option.some .boolean) : Cond) ∈ aw := aw_in (tb_3 (List.mem_of_getElem? (i := 80) rfl)) rfl
theorem wd_410 : (.methodLink "DrawingVault" 290 ⟨"DrawingVault", "fixedOnesAreThere", "(LDrawingVault$Content;)Z"⟩ : Cond) ∈ aw := aw_in (tb_3 (List.mem_of_getElem? (i := 77) rfl)) rfl
theorem wd_411 : (.instanceMethod ⟨"DrawingVault", "fixedOnesAreThere", "(LDrawingVault$Content;)Z"⟩ : Cond) ∈ aw := aw_in (tb_3 (List.mem_of_getElem? (i := 79) rfl)) rfl
theorem wd_412 : (.selects "DrawingVault" ⟨"DrawingVault", "fixedOnesAreThere", "(LDrawingVault$Content;)Z"⟩ ⟨"DrawingVault", "fixedOnesAreThere", "(LDrawingVault$Content;)Z"⟩ : Cond) ∈ aw := aw_in (tb_s (q := (⟨"DrawingVault", "fixedOnesAreThere", "(LDrawingVault$Content;)Z"⟩, _)) (List.mem_append_right _ (List.mem_append_left _ (List.mem_of_getElem? (i := 4) rfl)))) rfl
theorem wd_413 : (.methodLink "DrawingVault" 132 ⟨"DrawingVault$Drawing", "newest", "()I"⟩ : Cond) ∈ aw := aw_in (tb_3 (List.mem_of_getElem? (i := 92) rfl)) rfl
theorem wd_414 : (.fieldLink "DrawingVault" 175 "DrawingVault$Revision" "author" "I" : Cond) ∈ aw := aw_in (tb_2 (List.mem_of_getElem? (i := 194) rfl)) rfl
theorem wd_415 : (.code ⟨"DrawingVault", "allResolveToReleased", "(LDrawingVault$Content;)Z"⟩ prog_1_method_49_code 4 (Option.some .boolean) : Cond) ∈ aw := aw_in (tb_3 (List.mem_of_getElem? (i := 122) rfl)) rfl
theorem wd_416 : (.methodLink "DrawingVault" 295 ⟨"DrawingVault", "allResolveToReleased", "(LDrawingVault$Content;)Z"⟩ : Cond) ∈ aw := aw_in (tb_3 (List.mem_of_getElem? (i := 119) rfl)) rfl
theorem wd_417 : (.instanceMethod ⟨"DrawingVault", "allResolveToReleased", "(LDrawingVault$Content;)Z"⟩ : Cond) ∈ aw := aw_in (tb_3 (List.mem_of_getElem? (i := 121) rfl)) rfl
theorem wd_418 : (.selects "DrawingVault" ⟨"DrawingVault", "allResolveToReleased", "(LDrawingVault$Content;)Z"⟩ ⟨"DrawingVault", "allResolveToReleased", "(LDrawingVault$Content;)Z"⟩ : Cond) ∈ aw := aw_in (tb_s (q := (⟨"DrawingVault", "allResolveToReleased", "(LDrawingVault$Content;)Z"⟩, _)) (List.mem_append_right _ (List.mem_append_left _ (List.mem_of_getElem? (i := 9) rfl)))) rfl
theorem wd_419 : (.code ⟨"DrawingVault", "isInABaseline", "(II)Z"⟩ prog_1_method_51_code 4 (Option.some .boolean) : Cond) ∈ aw := aw_in (tb_3 (List.mem_of_getElem? (i := 149) rfl)) rfl
theorem wd_420 : (.methodLink "DrawingVault" 298 ⟨"DrawingVault", "isInABaseline", "(II)Z"⟩ : Cond) ∈ aw := aw_in (tb_3 (List.mem_of_getElem? (i := 146) rfl)) rfl
theorem wd_421 : (.instanceMethod ⟨"DrawingVault", "isInABaseline", "(II)Z"⟩ : Cond) ∈ aw := aw_in (tb_3 (List.mem_of_getElem? (i := 148) rfl)) rfl
theorem wd_422 : (.selects "DrawingVault" ⟨"DrawingVault", "isInABaseline", "(II)Z"⟩ ⟨"DrawingVault", "isInABaseline", "(II)Z"⟩ : Cond) ∈ aw := aw_in (tb_s (q := (⟨"DrawingVault", "isInABaseline", "(II)Z"⟩, _)) (List.mem_append_right _ (List.mem_append_left _ (List.mem_of_getElem? (i := 13) rfl)))) rfl
theorem wd_423 : (.code ⟨"DrawingVault", "isFixedByAReleasedOne", "(II)Z"⟩ prog_1_method_52_code 6 (Option.some .boolean) : Cond) ∈ aw := aw_in (tb_3 (List.mem_of_getElem? (i := 153) rfl)) rfl
theorem wd_424 : (.methodLink "DrawingVault" 301 ⟨"DrawingVault", "isFixedByAReleasedOne", "(II)Z"⟩ : Cond) ∈ aw := aw_in (tb_3 (List.mem_of_getElem? (i := 150) rfl)) rfl
theorem wd_425 : (.instanceMethod ⟨"DrawingVault", "isFixedByAReleasedOne", "(II)Z"⟩ : Cond) ∈ aw := aw_in (tb_3 (List.mem_of_getElem? (i := 152) rfl)) rfl
theorem wd_426 : (.selects "DrawingVault" ⟨"DrawingVault", "isFixedByAReleasedOne", "(II)Z"⟩ ⟨"DrawingVault", "isFixedByAReleasedOne", "(II)Z"⟩ : Cond) ∈ aw := aw_in (tb_s (q := (⟨"DrawingVault", "isFixedByAReleasedOne", "(II)Z"⟩, _)) (List.mem_append_right _ (List.mem_append_left _ (List.mem_of_getElem? (i := 14) rfl)))) rfl
theorem wd_427 : (.fieldLink "DrawingVault" 26 "DrawingVault" "draft" "LDrawingVault$Baseline;" : Cond) ∈ aw := aw_in (tb_1 (List.mem_of_getElem? (i := 104) rfl)) rfl
theorem wd_428 : (.code ⟨"DrawingVault$Baseline", "takes", "(II)Z"⟩ prog_2_method_3_code 3 (Option.some .boolean) : Cond) ∈ aw := aw_in (tb_3 (List.mem_of_getElem? (i := 184) rfl)) rfl
theorem wd_429 : (.methodLink "DrawingVault" 310 ⟨"DrawingVault$Baseline", "takes", "(II)Z"⟩ : Cond) ∈ aw := aw_in (tb_3 (List.mem_of_getElem? (i := 181) rfl)) rfl
theorem wd_430 : (.instanceMethod ⟨"DrawingVault$Baseline", "takes", "(II)Z"⟩ : Cond) ∈ aw := aw_in (tb_3 (List.mem_of_getElem? (i := 182) rfl)) rfl
theorem wd_431 : (.selects "DrawingVault$Baseline" ⟨"DrawingVault$Baseline", "takes", "(II)Z"⟩ ⟨"DrawingVault$Baseline", "takes", "(II)Z"⟩ : Cond) ∈ aw := aw_in (tb_3 (List.mem_of_getElem? (i := 183) rfl)) rfl
theorem wd_432 : (.fieldLink "DrawingVault" 157 "DrawingVault$Baseline" "size" "I" : Cond) ∈ aw := aw_in (tb_1 (List.mem_of_getElem? (i := 42) rfl)) rfl
theorem wd_433 : (.fieldLink "DrawingVault" 313 "DrawingVault$Baseline" "order" "[I" : Cond) ∈ aw := aw_in (tb_1 (List.mem_of_getElem? (i := 40) rfl)) rfl
theorem wd_434 : (.code ⟨"DrawingVault", "follow", "(LDrawingVault$Revision;)I"⟩ prog_1_method_40_code 6 (Option.some .int) : Cond) ∈ aw := aw_in (tb_3 (List.mem_of_getElem? (i := 188) rfl)) rfl
theorem wd_435 : (.methodLink "DrawingVault" 316 ⟨"DrawingVault", "follow", "(LDrawingVault$Revision;)I"⟩ : Cond) ∈ aw := aw_in (tb_3 (List.mem_of_getElem? (i := 185) rfl)) rfl
theorem wd_436 : (.instanceMethod ⟨"DrawingVault", "follow", "(LDrawingVault$Revision;)I"⟩ : Cond) ∈ aw := aw_in (tb_3 (List.mem_of_getElem? (i := 187) rfl)) rfl
theorem wd_437 : (.selects "DrawingVault" ⟨"DrawingVault", "follow", "(LDrawingVault$Revision;)I"⟩ ⟨"DrawingVault", "follow", "(LDrawingVault$Revision;)I"⟩ : Cond) ∈ aw := aw_in (tb_s (q := (⟨"DrawingVault", "follow", "(LDrawingVault$Revision;)I"⟩, _)) (List.mem_append_right _ (List.mem_append_right _ (List.mem_append_left _ (List.mem_of_getElem? (i := 2) rfl))))) rfl
theorem wd_438 : (.methodLink "DrawingVault" 320 ⟨"java/lang/Math", "max", "(II)I"⟩ : Cond) ∈ aw := aw_in (tb_3 (List.mem_of_getElem? (i := 189) rfl)) rfl
theorem wd_439 : (.fieldLink "DrawingVault" 230 "DrawingVault$Pages" "failed" "Z" : Cond) ∈ aw := aw_in (tb_1 (List.mem_of_getElem? (i := 83) rfl)) rfl
theorem wd_440 : (.code ⟨"DrawingVault$Pages", "failAhead", "(I)V"⟩ prog_6_method_2_code 2 (Option.none : Option Jvm.ClassFile.FieldType) : Cond) ∈ aw := aw_in (tb_1 (List.mem_of_getElem? (i := 174) rfl)) rfl
theorem wd_441 : (.methodLink "DrawingVault" 234 ⟨"DrawingVault$Pages", "failAhead", "(I)V"⟩ : Cond) ∈ aw := aw_in (tb_1 (List.mem_of_getElem? (i := 171) rfl)) rfl
theorem wd_442 : (.instanceMethod ⟨"DrawingVault$Pages", "failAhead", "(I)V"⟩ : Cond) ∈ aw := aw_in (tb_1 (List.mem_of_getElem? (i := 172) rfl)) rfl
theorem wd_443 : (.selects "DrawingVault$Pages" ⟨"DrawingVault$Pages", "failAhead", "(I)V"⟩ ⟨"DrawingVault$Pages", "failAhead", "(I)V"⟩ : Cond) ∈ aw := aw_in (tb_1 (List.mem_of_getElem? (i := 173) rfl)) rfl
theorem wd_444 : (.code ⟨"DrawingVault$Pages", "switchOn", "()V"⟩ prog_6_method_3_code 1 (Option.none : Option Jvm.ClassFile.FieldType) : Cond) ∈ aw := aw_in (tb_1 (List.mem_of_getElem? (i := 189) rfl)) rfl
theorem wd_445 : (.methodLink "DrawingVault" 244 ⟨"DrawingVault$Pages", "switchOn", "()V"⟩ : Cond) ∈ aw := aw_in (tb_1 (List.mem_of_getElem? (i := 186) rfl)) rfl
theorem wd_446 : (.instanceMethod ⟨"DrawingVault$Pages", "switchOn", "()V"⟩ : Cond) ∈ aw := aw_in (tb_1 (List.mem_of_getElem? (i := 187) rfl)) rfl
theorem wd_447 : (.selects "DrawingVault$Pages" ⟨"DrawingVault$Pages", "switchOn", "()V"⟩ ⟨"DrawingVault$Pages", "switchOn", "()V"⟩ : Cond) ∈ aw := aw_in (tb_1 (List.mem_of_getElem? (i := 188) rfl)) rfl
theorem wd_448 : (.code ⟨"DrawingVault", "chunksKept", "()I"⟩ prog_1_method_60_code 2 (Option.some .int) : Cond) ∈ aw := aw_in (tb_1 (List.mem_of_getElem? (i := 201) rfl)) rfl
theorem wd_449 : (.methodLink "DrawingVault" 250 ⟨"DrawingVault", "chunksKept", "()I"⟩ : Cond) ∈ aw := aw_in (tb_1 (List.mem_of_getElem? (i := 198) rfl)) rfl
theorem wd_450 : (.instanceMethod ⟨"DrawingVault", "chunksKept", "()I"⟩ : Cond) ∈ aw := aw_in (tb_1 (List.mem_of_getElem? (i := 200) rfl)) rfl
theorem wd_451 : (.selects "DrawingVault" ⟨"DrawingVault", "chunksKept", "()I"⟩ ⟨"DrawingVault", "chunksKept", "()I"⟩ : Cond) ∈ aw := aw_in (tb_s (q := (⟨"DrawingVault", "chunksKept", "()I"⟩, _)) (List.mem_append_left _ (List.mem_of_getElem? (i := 4) rfl))) rfl
theorem wd_452 : (.fieldLink "DrawingVault" 253 "DrawingVault$Pages" "free" "I" : Cond) ∈ aw := aw_in (tb_1 (List.mem_of_getElem? (i := 77) rfl)) rfl
theorem wd_453 : (.fieldLink "DrawingVault" 256 "DrawingVault$Pages" "commands" "I" : Cond) ∈ aw := aw_in (tb_1 (List.mem_of_getElem? (i := 79) rfl)) rfl
theorem wd_454 : (.fieldLink "DrawingVault" 259 "DrawingVault$Pages" "copiedForward" "I" : Cond) ∈ aw := aw_in (tb_1 (List.mem_of_getElem? (i := 81) rfl)) rfl
theorem wd_455 : (.code ⟨"DrawingVault", "baselinesMade", "()I"⟩ prog_1_method_58_code 3 (Option.some .int) : Cond) ∈ aw := aw_in (tb_1 (List.mem_of_getElem? (i := 235) rfl)) rfl
theorem wd_456 : (.methodLink "DrawingVault" 262 ⟨"DrawingVault", "baselinesMade", "()I"⟩ : Cond) ∈ aw := aw_in (tb_1 (List.mem_of_getElem? (i := 232) rfl)) rfl
theorem wd_457 : (.instanceMethod ⟨"DrawingVault", "baselinesMade", "()I"⟩ : Cond) ∈ aw := aw_in (tb_1 (List.mem_of_getElem? (i := 234) rfl)) rfl
theorem wd_458 : (.selects "DrawingVault" ⟨"DrawingVault", "baselinesMade", "()I"⟩ ⟨"DrawingVault", "baselinesMade", "()I"⟩ : Cond) ∈ aw := aw_in (tb_s (q := (⟨"DrawingVault", "baselinesMade", "()I"⟩, _)) (List.mem_append_left _ (List.mem_of_getElem? (i := 7) rfl))) rfl

def V_chunksOfRevisions_L19 (n : Nat) (kx14 : hT → Int32 → Int32 → Option (Int32 × hT)) : Nat → hT → Int32 → Int32 → Option (Int32 × hT)
  | 0, _, _, _ => none
  | k + 1, σ11, p12, p13 => if in9 p13 24 then hq (xR σ11 9 0 (p13).toNatClampNeg) (none) fun j20 => if (xI σ11 701 j20 0) ≤ p12 then kx14 (σ11) p12 p13 else if in9 p13 24 then hq (xR σ11 9 0 (p13).toNatClampNeg) (none) fun j29 => if in9 p12 12 then hq (xR σ11 23 j29 (p12).toNatClampNeg) (none) fun j35 => Option.bind (K_addAll n σ11 (3 * j35 + 2)) fun ⟨y39, σ40⟩ => V_chunksOfRevisions_L19 n kx14 k (σ40) (p12 + 1) p13 else none else none else none
def V_chunksOfRevisions_L9 (n : Nat) (kx7 : hT → Int32 → Option (Int32 × hT)) : Nat → hT → Int32 → Option (Int32 × hT)
  | 0, _, _ => none
  | k + 1, σ5, p6 => if (xI σ5 102 0 0) ≤ p6 then kx7 (σ5) p6 else lt9 (α := hT → Int32 → Int32 → Option (Int32 × hT)) (fun (σ11 : hT) (p12 : Int32) (p13 : Int32) => V_chunksOfRevisions_L9 n kx7 k (σ11) (p13 + 1)) fun kx14 => V_chunksOfRevisions_L19 n kx14 n (σ5) 0 p6
def V_chunksOfRevisions (n : Nat) (σ : hT) : Option (Int32 × hT) := Option.bind (K_clear σ) fun ⟨y3, σ4⟩ => lt9 (α := hT → Int32 → Option (Int32 × hT)) (fun (σ5 : hT) (p6 : Int32) => some ((xI σ5 302 0 0), σ5)) fun kx7 => V_chunksOfRevisions_L9 n kx7 n (σ4) 0
set_option maxHeartbeats 4000000 in
set_option maxRecDepth 100000 in
theorem t_V_chunksOfRevisions (l : Launch) (dC : Nat → ClassId) (dI : Nat → Nat → Nat) (ad : Nat → Nat → Nat) (ca : Nat → Nat → ClassId) (dom : List (Nat × Nat)) (sz : Nat) (n : Nat) (σ : hT) (hm0 : (0, 0) ∈ dom) (hN : dom.Nodup) (hC : clo dom σ.2.2) (ρ : Int32) (σ' : hT) (hf : V_chunksOfRevisions n σ = some (ρ, σ')) : Met l yV_chunksOfRevisions (.code yV_chunksOfRevisions cV_chunksOfRevisions 3 (some .int) :: aw) ({ frames := 3, cells := 0, slots := 0, locals := 59 }) (hW (dC, dI) sz ad ca dom σ [.ref (ad 0 0)]) (va_Qi (fun r (_ : Unit) => r = ρ) (fun _ t => hB (dC, dI) (va_A (w9 ad ca dom σ) sz) ad ca dom σ' t) (va_A (w9 ad ca dom σ) sz)) 0 0 (va_A (w9 ad ca dom σ) sz) := by
  refine Met.ofW (cc := cV_chunksOfRevisions) (maxL := 3) (ret := (some .int)) (by decide) rfl ?_
  intro p e s m args below meth c s₁ B hml hv
  obtain ⟨rfl, hv⟩ := hv
  have hx := B.exec
  have hb := B.bytes
  have hr := B.returns
  have hts : ∀ w ∈ aw, w.before _ s = true := fun w h => atoms_spec (ws := (.code yV_chunksOfRevisions cV_chunksOfRevisions 3 (some .int) :: aw)) B.pre w (List.mem_cons_of_mem _ h)
  have hown : s.vm.findClass RV = some m.cls := findClass_of_methodNamed B.named
  have hlocks := B.notSynchronized
  obtain ⟨hsz, hP, hK, hD0, hG⟩ := hv
  subst hsz
  have hD := hD0.self (sz := s.heap.size)
  generalize hAe : va_A (w9 ad ca dom σ) s.heap.size = A at hD ⊢
  have hA : ∀ q : Nat, s.heap.size ≤ q → A q := fun q h => by rw [← hAe]; exact Or.inr h
  obtain ⟨H, hH⟩ : ∃ H, H = s.heap := ⟨_, rfl⟩
  have hS : va_S A s.heap H [] := by rw [hH]; exact va_S.rf
  rw [← hH] at hP ⊢
  unfold V_chunksOfRevisions at hf
  have hl := lv_entry ([.ref (ad 0 0)]) (n := 3) (Nat.le_of_ble_eq_true rfl)
  rw [lg_entry_eq]
  generalize (lg_sl ([.ref (ad 0 0)]) ++ List.replicate (3 - (lg_sl ([.ref (ad 0 0)])).length) Slot.unset).toArray = ls at hl ⊢
  have hl : lv_has ls 3 [(0, .ref (ad 0 0))] := hl
  refine lv_aload_n (pc := 0) hx hb dV_chunksOfRevisions_0 rfl (lv_at hl 0 rfl) ?_
  obtain ⟨q1, hq1, eq1⟩ := at_0 (ad := ad) (ca := ca) (σ := σ) hm0
  refine va_get (D := (dC, dI)) (cl := kCl) (C := RV) (T := TV) (N := 9) (pc := 1) hx hb hts inV hown hK.1 hP q1 eq1 rfl 6 (by decide) (hts _ wd_360) (fun _ h9 => h9) rfl dV_chunksOfRevisions_1 ?_
  obtain ⟨q2, hq2, eq2⟩ := at_2 (ad := ad) (ca := ca) (σ := σ) (cm_0_6 hC hm0)
  obtain ⟨⟨y3, σ4⟩, hy3, hf⟩ := ob hf
  have hFc := w9_free hD hS hA
  refine va_callv (pc := 4) (va_runV (As := []) (rest := []) ⟨hx, hb, hml, hown, hts⟩ (t_K_clear l dC dI ad ca dom H.size σ (cm_0_6 hC hm0) hN hC y3 σ4 hy3) (cwV 0 hts (gV wd_361 wd_278 wd_279 wd_275 wd_276) rfl rfl rfl (by decide +kernel) ⟨Nat.le_of_ble_eq_true rfl, Nat.le_of_ble_eq_true rfl⟩) ⟨hW_blind, va_recv (q := (RK, TK, 3)) (q0 := q2) (ci := 2) hK.1 hP rfl eq2, hW_pre hP hK hD hG⟩ rfl rfl hl.1 rfl (lv_room (Nat.le_of_ble_eq_true rfl)) dV_chunksOfRevisions_4 ⟨Nat.le_of_ble_eq_true rfl, Nat.le_of_ble_eq_true rfl⟩) hS (fun q _ h => hFc q h) hFc (fun u t H1 locs ht hvm hr9 hB hz1 hk1 hS => ?_)
  obtain ⟨hP, hD, hC⟩ := hB
  rw [ht] at hP
  replace hD := hD.weaken (fun _ _ _ h => hFc _ h)
  generalize H1 = H at hP hS ⊢
  refine lv_iconst (pc := 7) (v := 0) hx hb dV_chunksOfRevisions_7 (by decide) ?_
  refine lv_istore_n (pc := 8) hx hb dV_chunksOfRevisions_8 rfl hl (by decide) rfl (fun ls hl => ?_)
  have hl : lv_has ls 3 [(1, .int 0), (0, .ref (ad 0 0))] := hl
  obtain ⟨kx7, hkx7, hf⟩ := lt_9 hf
  refine lpF (τ := (hT) × (Int32) × (Heap) × (List Loc) × (Array Slot)) (fun pc z => W p l e _ s m _ below meth c z.2.2.1 z.2.2.2.1 0 0 _ (F0 m pc z.2.2.2.2 [])) 9 65 (fun z => va_P (dC, dI) kCl (w9 ad ca dom z.1) z.2.2.1 ∧ va_D A (w9 ad ca dom z.1) ∧ va_S A s.heap z.2.2.1 z.2.2.2.1 ∧ clo dom z.1.2.2 ∧ lv_has z.2.2.2.2 3 [(1, .int z.2.1), (0, .ref (ad 0 0))]) (fun k z => V_chunksOfRevisions_L9 n kx7 k z.1 z.2.1) (fun z => kx7 z.1 z.2.1) _ (fun z => rfl) ?_ ?_ n (σ4, 0, H, _, ls) ⟨hP, hD, hS, hC, hl⟩ hf
  · rintro k ⟨σ5, p6, H, locs, ls⟩ ⟨hP, hD, hS, hC, hl⟩ hf ih8 hXkx7
    dsimp only at hP hD hS hC hl hf ih8 hXkx7 ⊢
    unfold V_chunksOfRevisions_L9 at hf
    have hl : lv_has ls 3 [(1, .int p6), (0, .ref (ad 0 0))] := hl
    refine lv_iload_n (pc := 9) hx hb dV_chunksOfRevisions_9 rfl (lv_at hl 0 rfl) ?_
    refine lv_aload_n (pc := 10) hx hb dV_chunksOfRevisions_10 rfl (lv_at hl 1 rfl) ?_
    obtain ⟨q9, hq9, eq9⟩ := at_0 (ad := ad) (ca := ca) (σ := σ5) hm0
    refine va_get (D := (dC, dI)) (cl := kCl) (C := RV) (T := TV) (N := 9) (pc := 11) hx hb hts inV hown hK.1 hP q9 eq9 rfl 2 (by decide) (hts _ wd_314) (fun _ h9 => h9) rfl dV_chunksOfRevisions_11 ?_
    refine lv_icmp_ge (pc := 14) (tgt := 65) hx hb dV_chunksOfRevisions_14 rfl (fun h10 => ?_) (fun h10 => ?_)
    · replace hf := ite_t h10 hf
      have hl := lv_sub hl (l' := [(1, .int p6), (0, .ref (ad 0 0))]) [0, 1] rfl
      exact hXkx7 (σ5, p6, H, _, ls) ⟨hP, hD, hS, hC, hl⟩ hf
    · replace hf := ite_f h10 hf
      refine lv_iconst (pc := 17) (v := 0) hx hb dV_chunksOfRevisions_17 (by decide) ?_
      refine lv_istore_n (pc := 18) hx hb dV_chunksOfRevisions_18 rfl hl (by decide) rfl (fun ls hl => ?_)
      have hl : lv_has ls 3 [(2, .int 0), (1, .int p6), (0, .ref (ad 0 0))] := hl
      obtain ⟨kx14, hkx14, hf⟩ := lt_9 hf
      refine lpF (τ := (hT) × (Int32) × (Int32) × (Heap) × (List Loc) × (Array Slot)) (fun pc z => W p l e _ s m _ below meth c z.2.2.2.1 z.2.2.2.2.1 0 0 _ (F0 m pc z.2.2.2.2.2 [])) 19 59 (fun z => va_P (dC, dI) kCl (w9 ad ca dom z.1) z.2.2.2.1 ∧ va_D A (w9 ad ca dom z.1) ∧ va_S A s.heap z.2.2.2.1 z.2.2.2.2.1 ∧ clo dom z.1.2.2 ∧ lv_has z.2.2.2.2.2 3 [(2, .int z.2.1), (1, .int z.2.2.1), (0, .ref (ad 0 0))]) (fun k z => V_chunksOfRevisions_L19 n kx14 k z.1 z.2.1 z.2.2.1) (fun z => kx14 z.1 z.2.1 z.2.2.1) _ (fun z => rfl) ?_ ?_ n (σ5, 0, p6, H, _, ls) ⟨hP, hD, hS, hC, hl⟩ hf
      · rintro k ⟨σ11, p12, p13, H, locs, ls⟩ ⟨hP, hD, hS, hC, hl⟩ hf ih15 hXkx14
        dsimp only at hP hD hS hC hl hf ih15 hXkx14 ⊢
        unfold V_chunksOfRevisions_L19 at hf
        have hl : lv_has ls 3 [(2, .int p12), (1, .int p13), (0, .ref (ad 0 0))] := hl
        refine lv_iload_n (pc := 19) hx hb dV_chunksOfRevisions_19 rfl (lv_at hl 0 rfl) ?_
        refine lv_aload_n (pc := 20) hx hb dV_chunksOfRevisions_20 rfl (lv_at hl 2 rfl) ?_
        obtain ⟨q16, hq16, eq16⟩ := at_0 (ad := ad) (ca := ca) (σ := σ11) hm0
        refine va_get (D := (dC, dI)) (cl := kCl) (C := RV) (T := TV) (N := 9) (pc := 21) hx hb hts inV hown hK.1 hP q16 eq16 rfl 1 (by decide) (hts _ wd_315) (fun _ h9 => h9) rfl dV_chunksOfRevisions_21 ?_
        refine lv_iload_n (pc := 24) hx hb dV_chunksOfRevisions_24 rfl (lv_at hl 1 rfl) ?_
        obtain ⟨hv17, hf⟩ := ite_s hf
        obtain ⟨q18, hq18, eq18⟩ := at_9 (ad := ad) (ca := ca) (σ := σ11) (cm_0_1 hC hm0)
        refine va_aldq (D := (dC, dI)) (cl := kCl) (pc := 25) hx hb (hK.2 9 0 (.object "DrawingVault$Drawing") (cm_0_1 hC hm0) rfl) hP q18 0 eq18 rfl (hv17) dV_chunksOfRevisions_25 ?_
        refine W.eq (g2 := F0 m 26 ls [va_re (ad 6) (xR σ11 9 0 (p13).toNatClampNeg), .int p12]) rfl ?_
        rcases hE19 : xR σ11 9 0 (p13).toNatClampNeg with _ | j20
        · replace hf := hq_n hE19 hf
          refine W.eq (g2 := F0 m 26 ls [.null, .int p12]) rfl ?_
          exact nomatch hf
        · replace hf := hq_s hE19 hf
          have hm21 : (6, j20) ∈ dom := (cr_9 hC (cm_0_1 hC hm0) hE19)
          refine W.eq (g2 := F0 m 26 ls [.ref (ad 6 j20), .int p12]) rfl ?_
          obtain ⟨q22, hq22, eq22⟩ := at_6 (ad := ad) (ca := ca) (σ := σ11) hm21
          refine va_get (D := (dC, dI)) (cl := kCl) (C := RD) (T := TD) (N := 5) (pc := 26) hx hb hts inD hown hK.1 hP q22 eq22 rfl 1 (by decide) (hts _ wd_344) (fun _ h9 => h9) rfl dV_chunksOfRevisions_26 ?_
          refine lv_icmp_ge (pc := 29) (tgt := 59) hx hb dV_chunksOfRevisions_29 rfl (fun h23 => ?_) (fun h23 => ?_)
          · replace hf := ite_t h23 hf
            have hl := lv_sub hl (l' := [(2, .int p12), (1, .int p13), (0, .ref (ad 0 0))]) [0, 1, 2] rfl
            exact hXkx14 (σ11, p12, p13, H, _, ls) ⟨hP, hD, hS, hC, hl⟩ hf
          · replace hf := ite_f h23 hf
            refine lv_aload_n (pc := 32) hx hb dV_chunksOfRevisions_32 rfl (lv_at hl 2 rfl) ?_
            obtain ⟨q24, hq24, eq24⟩ := at_0 (ad := ad) (ca := ca) (σ := σ11) hm0
            refine va_get (D := (dC, dI)) (cl := kCl) (C := RV) (T := TV) (N := 9) (pc := 33) hx hb hts inV hown hK.1 hP q24 eq24 rfl 6 (by decide) (hts _ wd_360) (fun _ h9 => h9) rfl dV_chunksOfRevisions_33 ?_
            refine lv_aload_n (pc := 36) hx hb dV_chunksOfRevisions_36 rfl (lv_at hl 2 rfl) ?_
            obtain ⟨q25, hq25, eq25⟩ := at_0 (ad := ad) (ca := ca) (σ := σ11) hm0
            refine va_get (D := (dC, dI)) (cl := kCl) (C := RV) (T := TV) (N := 9) (pc := 37) hx hb hts inV hown hK.1 hP q25 eq25 rfl 1 (by decide) (hts _ wd_315) (fun _ h9 => h9) rfl dV_chunksOfRevisions_37 ?_
            refine lv_iload_n (pc := 40) hx hb dV_chunksOfRevisions_40 rfl (lv_at hl 1 rfl) ?_
            obtain ⟨hv26, hf⟩ := ite_s hf
            obtain ⟨q27, hq27, eq27⟩ := at_9 (ad := ad) (ca := ca) (σ := σ11) (cm_0_1 hC hm0)
            refine va_aldq (D := (dC, dI)) (cl := kCl) (pc := 41) hx hb (hK.2 9 0 (.object "DrawingVault$Drawing") (cm_0_1 hC hm0) rfl) hP q27 0 eq27 rfl (hv26) dV_chunksOfRevisions_41 ?_
            refine W.eq (g2 := F0 m 42 ls [va_re (ad 6) (xR σ11 9 0 (p13).toNatClampNeg), .ref (ad 2 0)]) rfl ?_
            rcases hE28 : xR σ11 9 0 (p13).toNatClampNeg with _ | j29
            · replace hf := hq_n hE28 hf
              refine W.eq (g2 := F0 m 42 ls [.null, .ref (ad 2 0)]) rfl ?_
              exact nomatch hf
            · replace hf := hq_s hE28 hf
              have hm30 : (6, j29) ∈ dom := (cr_9 hC (cm_0_1 hC hm0) hE28)
              refine W.eq (g2 := F0 m 42 ls [.ref (ad 6 j29), .ref (ad 2 0)]) rfl ?_
              obtain ⟨q31, hq31, eq31⟩ := at_6 (ad := ad) (ca := ca) (σ := σ11) hm30
              refine va_get (D := (dC, dI)) (cl := kCl) (C := RD) (T := TD) (N := 5) (pc := 42) hx hb hts inD hown hK.1 hP q31 eq31 rfl 0 (by decide) (hts _ wd_321) (fun _ h9 => h9) rfl dV_chunksOfRevisions_42 ?_
              refine lv_iload_n (pc := 45) hx hb dV_chunksOfRevisions_45 rfl (lv_at hl 0 rfl) ?_
              obtain ⟨hv32, hf⟩ := ite_s hf
              obtain ⟨q33, hq33, eq33⟩ := at_23 (ad := ad) (ca := ca) (σ := σ11) (cm_6_0 hC hm30)
              refine va_aldq (D := (dC, dI)) (cl := kCl) (pc := 46) hx hb (hK.2 23 j29 (.object "DrawingVault$Revision") (cm_6_0 hC hm30) rfl) hP q33 0 eq33 rfl (hv32) dV_chunksOfRevisions_46 ?_
              refine W.eq (g2 := F0 m 47 ls [va_re (ad 7) (xR σ11 23 j29 (p12).toNatClampNeg), .ref (ad 2 0)]) rfl ?_
              rcases hE34 : xR σ11 23 j29 (p12).toNatClampNeg with _ | j35
              · replace hf := hq_n hE34 hf
                refine W.eq (g2 := F0 m 47 ls [.null, .ref (ad 2 0)]) rfl ?_
                exact nomatch hf
              · replace hf := hq_s hE34 hf
                have hm36 : (7, j35) ∈ dom := (cr_23 hC (cm_6_0 hC hm30) hE34)
                refine W.eq (g2 := F0 m 47 ls [.ref (ad 7 j35), .ref (ad 2 0)]) rfl ?_
                obtain ⟨q37, hq37, eq37⟩ := at_7 (ad := ad) (ca := ca) (σ := σ11) hm36
                refine va_get (D := (dC, dI)) (cl := kCl) (C := RS) (T := TS) (N := 3) (pc := 47) hx hb hts inS hown hK.1 hP q37 eq37 rfl 0 (by decide) (hts _ wd_345) (fun _ h9 => h9) rfl dV_chunksOfRevisions_47 ?_
                obtain ⟨q38, hq38, eq38⟩ := at_2 (ad := ad) (ca := ca) (σ := σ11) (cm_0_6 hC hm0)
                obtain ⟨⟨y39, σ40⟩, hy39, hf⟩ := ob hf
                have hFc := w9_free hD hS hA
                refine va_callv (pc := 50) (va_runV (As := [.ref (ad 5 (3 * j35 + 2))]) (rest := []) ⟨hx, hb, hml, hown, hts⟩ (t_K_addAll l dC dI ad ca dom H.size n σ11 (3 * j35 + 2) (cm_0_6 hC hm0) (cm_7_0 hC hm36) hN hC y39 σ40 hy39) (cwV 1 hts (gV wd_362 wd_282 wd_283 wd_275 wd_280) rfl rfl rfl (by decide +kernel) ⟨Nat.le_of_ble_eq_true rfl, Nat.le_of_ble_eq_true rfl⟩) ⟨hW_blind, va_recv (q := (RK, TK, 3)) (q0 := q38) (ci := 2) hK.1 hP rfl eq38, hW_pre hP hK hD hG⟩ rfl rfl hl.1 rfl (lv_room (Nat.le_of_ble_eq_true rfl)) dV_chunksOfRevisions_50 ⟨Nat.le_of_ble_eq_true rfl, Nat.le_of_ble_eq_true rfl⟩) hS (fun q _ h => hFc q h) hFc (fun u t H1 locs ht hvm hr9 hB hz1 hk1 hS => ?_)
                obtain ⟨hP, hD, hC⟩ := hB
                rw [ht] at hP
                replace hD := hD.weaken (fun _ _ _ h => hFc _ h)
                generalize H1 = H at hP hS ⊢
                refine lv_iinc (pc := 53) (v := (p12 + 1)) hx hb dV_chunksOfRevisions_53 hl (k := 0) rfl (by rfl) (by decide) rfl (fun ls hl => ?_)
                have hl : lv_has ls 3 [(2, .int (p12 + 1)), (1, .int p13), (0, .ref (ad 0 0))] := hl
                refine lv_goto (pc := 56) (tgt := 19) hx hb dV_chunksOfRevisions_56 rfl ?_
                have hl := lv_sub hl (l' := [(2, .int (p12 + 1)), (1, .int p13), (0, .ref (ad 0 0))]) [0, 1, 2] rfl
                exact ih15 (σ40, (p12 + 1), p13, H, _, ls) ⟨hP, hD, hS, hC, hl⟩ hf
      · rintro ⟨σ11, p12, p13, H, locs, ls⟩ ⟨hP, hD, hS, hC, hl⟩ hf
        dsimp only at hP hD hS hC hl hf ⊢
        rw [hkx14] at hf
        have hl : lv_has ls 3 [(2, .int p12), (1, .int p13), (0, .ref (ad 0 0))] := hl
        refine lv_iinc (pc := 59) (v := (p13 + 1)) hx hb dV_chunksOfRevisions_59 hl (k := 1) rfl (by rfl) (by decide) rfl (fun ls hl => ?_)
        have hl : lv_has ls 3 [(1, .int (p13 + 1)), (2, .int p12), (0, .ref (ad 0 0))] := hl
        refine lv_goto (pc := 62) (tgt := 9) hx hb dV_chunksOfRevisions_62 rfl ?_
        have hl := lv_sub hl (l' := [(1, .int (p13 + 1)), (0, .ref (ad 0 0))]) [0, 2] rfl
        exact ih8 (σ11, (p13 + 1), H, _, ls) ⟨hP, hD, hS, hC, hl⟩ hf
  · rintro ⟨σ5, p6, H, locs, ls⟩ ⟨hP, hD, hS, hC, hl⟩ hf
    dsimp only at hP hD hS hC hl hf ⊢
    rw [hkx7] at hf
    have hl : lv_has ls 3 [(1, .int p6), (0, .ref (ad 0 0))] := hl
    refine lv_aload_n (pc := 65) hx hb dV_chunksOfRevisions_65 rfl (lv_at hl 1 rfl) ?_
    obtain ⟨q41, hq41, eq41⟩ := at_0 (ad := ad) (ca := ca) (σ := σ5) hm0
    refine va_get (D := (dC, dI)) (cl := kCl) (C := RV) (T := TV) (N := 9) (pc := 66) hx hb hts inV hown hK.1 hP q41 eq41 rfl 6 (by decide) (hts _ wd_360) (fun _ h9 => h9) rfl dV_chunksOfRevisions_66 ?_
    obtain ⟨q42, hq42, eq42⟩ := at_2 (ad := ad) (ca := ca) (σ := σ5) (cm_0_6 hC hm0)
    refine va_get (D := (dC, dI)) (cl := kCl) (C := RK) (T := TK) (N := 3) (pc := 69) hx hb hts inK hown hK.1 hP q42 eq42 rfl 2 (by decide) (hts _ wd_363) (fun _ h9 => h9) rfl dV_chunksOfRevisions_69 ?_
    obtain ⟨h8, h9⟩ := Prod.mk.inj (Option.some.inj hf)
    subst h9
    exact W.iret (pc := 72) hx hb hr (fun t ht hW => ⟨⟨_, (), rfl, h8, by rw [ht]; exact hP, hD, hC⟩, hS.F ht⟩) hS.2.2 dV_chunksOfRevisions_72
def V_chunksKept_L7 (n : Nat) (kx6 : hT → Int32 → Option (Int32 × hT)) : Nat → hT → Int32 → Option (Int32 × hT)
  | 0, _, _ => none
  | k + 1, σ4, p5 => if (xI σ4 102 0 0) ≤ p5 then kx6 (σ4) p5 else if in9 p5 24 then hq (xR σ4 9 0 (p5).toNatClampNeg) (none) fun j15 => Option.bind (K_addAll n σ4 (3 * j15)) fun ⟨y19, σ20⟩ => V_chunksKept_L7 n kx6 k (σ20) (p5 + 1) else none
def V_chunksKept (n : Nat) (σ : hT) : Option (Int32 × hT) := Option.bind (V_chunksOfRevisions n σ) fun ⟨y2, σ3⟩ => lt9 (α := hT → Int32 → Option (Int32 × hT)) (fun (σ4 : hT) (p5 : Int32) => some ((xI σ4 302 0 0), σ4)) fun kx6 => V_chunksKept_L7 n kx6 n (σ3) 0
set_option maxHeartbeats 4000000 in
set_option maxRecDepth 100000 in
theorem t_V_chunksKept (l : Launch) (dC : Nat → ClassId) (dI : Nat → Nat → Nat) (ad : Nat → Nat → Nat) (ca : Nat → Nat → ClassId) (dom : List (Nat × Nat)) (sz : Nat) (n : Nat) (σ : hT) (hm0 : (0, 0) ∈ dom) (hN : dom.Nodup) (hC : clo dom σ.2.2) (ρ : Int32) (σ' : hT) (hf : V_chunksKept n σ = some (ρ, σ')) : Met l yV_chunksKept (.code yV_chunksKept cV_chunksKept 2 (some .int) :: aw) ({ frames := 4, cells := 0, slots := 0, locals := 81 }) (hW (dC, dI) sz ad ca dom σ [.ref (ad 0 0)]) (va_Qi (fun r (_ : Unit) => r = ρ) (fun _ t => hB (dC, dI) (va_A (w9 ad ca dom σ) sz) ad ca dom σ' t) (va_A (w9 ad ca dom σ) sz)) 0 0 (va_A (w9 ad ca dom σ) sz) := by
  refine Met.ofW (cc := cV_chunksKept) (maxL := 2) (ret := (some .int)) (by decide) rfl ?_
  intro p e s m args below meth c s₁ B hml hv
  obtain ⟨rfl, hv⟩ := hv
  have hx := B.exec
  have hb := B.bytes
  have hr := B.returns
  have hts : ∀ w ∈ aw, w.before _ s = true := fun w h => atoms_spec (ws := (.code yV_chunksKept cV_chunksKept 2 (some .int) :: aw)) B.pre w (List.mem_cons_of_mem _ h)
  have hown : s.vm.findClass RV = some m.cls := findClass_of_methodNamed B.named
  have hlocks := B.notSynchronized
  obtain ⟨hsz, hP, hK, hD0, hG⟩ := hv
  subst hsz
  have hD := hD0.self (sz := s.heap.size)
  generalize hAe : va_A (w9 ad ca dom σ) s.heap.size = A at hD ⊢
  have hA : ∀ q : Nat, s.heap.size ≤ q → A q := fun q h => by rw [← hAe]; exact Or.inr h
  obtain ⟨H, hH⟩ : ∃ H, H = s.heap := ⟨_, rfl⟩
  have hS : va_S A s.heap H [] := by rw [hH]; exact va_S.rf
  rw [← hH] at hP ⊢
  unfold V_chunksKept at hf
  have hl := lv_entry ([.ref (ad 0 0)]) (n := 2) (Nat.le_of_ble_eq_true rfl)
  rw [lg_entry_eq]
  generalize (lg_sl ([.ref (ad 0 0)]) ++ List.replicate (2 - (lg_sl ([.ref (ad 0 0)])).length) Slot.unset).toArray = ls at hl ⊢
  have hl : lv_has ls 2 [(0, .ref (ad 0 0))] := hl
  refine lv_aload_n (pc := 0) hx hb dV_chunksKept_0 rfl (lv_at hl 0 rfl) ?_
  obtain ⟨q1, hq1, eq1⟩ := at_0 (ad := ad) (ca := ca) (σ := σ) hm0
  obtain ⟨⟨y2, σ3⟩, hy2, hf⟩ := ob hf
  have hFc := w9_free hD hS hA
  refine va_calli (pc := 1) (va_runV (As := []) (rest := []) ⟨hx, hb, hml, hown, hts⟩ (t_V_chunksOfRevisions l dC dI ad ca dom H.size n σ hm0 hN hC y2 σ3 hy2) (cwV 0 hts (gV wd_365 wd_366 wd_367 wd_254 wd_364) rfl rfl rfl (by decide +kernel) ⟨Nat.le_of_ble_eq_true rfl, Nat.le_of_ble_eq_true rfl⟩) ⟨hW_blind, va_recv (q := (RV, TV, 9)) (q0 := q1) (ci := 0) hK.1 hP rfl eq1, hW_pre hP hK hD hG⟩ rfl rfl hl.1 rfl (lv_room (Nat.le_of_ble_eq_true rfl)) dV_chunksKept_1 ⟨Nat.le_of_ble_eq_true rfl, Nat.le_of_ble_eq_true rfl⟩) hS (fun q _ h => hFc q h) hFc (fun r9 u t H1 locs ht hvm hr9 hB hz1 hk1 hS => ?_)
  obtain ⟨hP, hD, hC⟩ := hB
  rw [ht] at hP
  replace hD := hD.weaken (fun _ _ _ h => hFc _ h)
  generalize H1 = H at hP hS ⊢
  refine W.eq (g2 := F0 m 4 ls [.int y2]) (by rw [hr9]) ?_
  refine lv_pop (pc := 4) hx hb dV_chunksKept_4 rfl ?_
  refine lv_iconst (pc := 5) (v := 0) hx hb dV_chunksKept_5 (by decide) ?_
  refine lv_istore_n (pc := 6) hx hb dV_chunksKept_6 rfl hl (by decide) rfl (fun ls hl => ?_)
  have hl : lv_has ls 2 [(1, .int 0), (0, .ref (ad 0 0))] := hl
  obtain ⟨kx6, hkx6, hf⟩ := lt_9 hf
  refine lpF (τ := (hT) × (Int32) × (Heap) × (List Loc) × (Array Slot)) (fun pc z => W p l e _ s m _ below meth c z.2.2.1 z.2.2.2.1 0 0 _ (F0 m pc z.2.2.2.2 [])) 7 37 (fun z => va_P (dC, dI) kCl (w9 ad ca dom z.1) z.2.2.1 ∧ va_D A (w9 ad ca dom z.1) ∧ va_S A s.heap z.2.2.1 z.2.2.2.1 ∧ clo dom z.1.2.2 ∧ lv_has z.2.2.2.2 2 [(1, .int z.2.1), (0, .ref (ad 0 0))]) (fun k z => V_chunksKept_L7 n kx6 k z.1 z.2.1) (fun z => kx6 z.1 z.2.1) _ (fun z => rfl) ?_ ?_ n (σ3, 0, H, _, ls) ⟨hP, hD, hS, hC, hl⟩ hf
  · rintro k ⟨σ4, p5, H, locs, ls⟩ ⟨hP, hD, hS, hC, hl⟩ hf ih7 hXkx6
    dsimp only at hP hD hS hC hl hf ih7 hXkx6 ⊢
    unfold V_chunksKept_L7 at hf
    have hl : lv_has ls 2 [(1, .int p5), (0, .ref (ad 0 0))] := hl
    refine lv_iload_n (pc := 7) hx hb dV_chunksKept_7 rfl (lv_at hl 0 rfl) ?_
    refine lv_aload_n (pc := 8) hx hb dV_chunksKept_8 rfl (lv_at hl 1 rfl) ?_
    obtain ⟨q8, hq8, eq8⟩ := at_0 (ad := ad) (ca := ca) (σ := σ4) hm0
    refine va_get (D := (dC, dI)) (cl := kCl) (C := RV) (T := TV) (N := 9) (pc := 9) hx hb hts inV hown hK.1 hP q8 eq8 rfl 2 (by decide) (hts _ wd_314) (fun _ h9 => h9) rfl dV_chunksKept_9 ?_
    refine lv_icmp_ge (pc := 12) (tgt := 37) hx hb dV_chunksKept_12 rfl (fun h9 => ?_) (fun h9 => ?_)
    · replace hf := ite_t h9 hf
      have hl := lv_sub hl (l' := [(1, .int p5), (0, .ref (ad 0 0))]) [0, 1] rfl
      exact hXkx6 (σ4, p5, H, _, ls) ⟨hP, hD, hS, hC, hl⟩ hf
    · replace hf := ite_f h9 hf
      refine lv_aload_n (pc := 15) hx hb dV_chunksKept_15 rfl (lv_at hl 1 rfl) ?_
      obtain ⟨q10, hq10, eq10⟩ := at_0 (ad := ad) (ca := ca) (σ := σ4) hm0
      refine va_get (D := (dC, dI)) (cl := kCl) (C := RV) (T := TV) (N := 9) (pc := 16) hx hb hts inV hown hK.1 hP q10 eq10 rfl 6 (by decide) (hts _ wd_360) (fun _ h9 => h9) rfl dV_chunksKept_16 ?_
      refine lv_aload_n (pc := 19) hx hb dV_chunksKept_19 rfl (lv_at hl 1 rfl) ?_
      obtain ⟨q11, hq11, eq11⟩ := at_0 (ad := ad) (ca := ca) (σ := σ4) hm0
      refine va_get (D := (dC, dI)) (cl := kCl) (C := RV) (T := TV) (N := 9) (pc := 20) hx hb hts inV hown hK.1 hP q11 eq11 rfl 1 (by decide) (hts _ wd_315) (fun _ h9 => h9) rfl dV_chunksKept_20 ?_
      refine lv_iload_n (pc := 23) hx hb dV_chunksKept_23 rfl (lv_at hl 0 rfl) ?_
      obtain ⟨hv12, hf⟩ := ite_s hf
      obtain ⟨q13, hq13, eq13⟩ := at_9 (ad := ad) (ca := ca) (σ := σ4) (cm_0_1 hC hm0)
      refine va_aldq (D := (dC, dI)) (cl := kCl) (pc := 24) hx hb (hK.2 9 0 (.object "DrawingVault$Drawing") (cm_0_1 hC hm0) rfl) hP q13 0 eq13 rfl (hv12) dV_chunksKept_24 ?_
      refine W.eq (g2 := F0 m 25 ls [va_re (ad 6) (xR σ4 9 0 (p5).toNatClampNeg), .ref (ad 2 0)]) rfl ?_
      rcases hE14 : xR σ4 9 0 (p5).toNatClampNeg with _ | j15
      · replace hf := hq_n hE14 hf
        refine W.eq (g2 := F0 m 25 ls [.null, .ref (ad 2 0)]) rfl ?_
        exact nomatch hf
      · replace hf := hq_s hE14 hf
        have hm16 : (6, j15) ∈ dom := (cr_9 hC (cm_0_1 hC hm0) hE14)
        refine W.eq (g2 := F0 m 25 ls [.ref (ad 6 j15), .ref (ad 2 0)]) rfl ?_
        obtain ⟨q17, hq17, eq17⟩ := at_6 (ad := ad) (ca := ca) (σ := σ4) hm16
        refine va_get (D := (dC, dI)) (cl := kCl) (C := RD) (T := TD) (N := 5) (pc := 25) hx hb hts inD hown hK.1 hP q17 eq17 rfl 3 (by decide) (hts _ wd_368) (fun _ h9 => h9) rfl dV_chunksKept_25 ?_
        obtain ⟨q18, hq18, eq18⟩ := at_2 (ad := ad) (ca := ca) (σ := σ4) (cm_0_6 hC hm0)
        obtain ⟨⟨y19, σ20⟩, hy19, hf⟩ := ob hf
        have hFc := w9_free hD hS hA
        refine va_callv (pc := 28) (va_runV (As := [.ref (ad 5 (3 * j15))]) (rest := []) ⟨hx, hb, hml, hown, hts⟩ (t_K_addAll l dC dI ad ca dom H.size n σ4 (3 * j15) (cm_0_6 hC hm0) (cm_6_3 hC hm16) hN hC y19 σ20 hy19) (cwV 1 hts (gV wd_362 wd_282 wd_283 wd_275 wd_280) rfl rfl rfl (by decide +kernel) ⟨Nat.le_of_ble_eq_true rfl, Nat.le_of_ble_eq_true rfl⟩) ⟨hW_blind, va_recv (q := (RK, TK, 3)) (q0 := q18) (ci := 2) hK.1 hP rfl eq18, hW_pre hP hK hD hG⟩ rfl rfl hl.1 rfl (lv_room (Nat.le_of_ble_eq_true rfl)) dV_chunksKept_28 ⟨Nat.le_of_ble_eq_true rfl, Nat.le_of_ble_eq_true rfl⟩) hS (fun q _ h => hFc q h) hFc (fun u t H1 locs ht hvm hr9 hB hz1 hk1 hS => ?_)
        obtain ⟨hP, hD, hC⟩ := hB
        rw [ht] at hP
        replace hD := hD.weaken (fun _ _ _ h => hFc _ h)
        generalize H1 = H at hP hS ⊢
        refine lv_iinc (pc := 31) (v := (p5 + 1)) hx hb dV_chunksKept_31 hl (k := 0) rfl (by rfl) (by decide) rfl (fun ls hl => ?_)
        have hl : lv_has ls 2 [(1, .int (p5 + 1)), (0, .ref (ad 0 0))] := hl
        refine lv_goto (pc := 34) (tgt := 7) hx hb dV_chunksKept_34 rfl ?_
        have hl := lv_sub hl (l' := [(1, .int (p5 + 1)), (0, .ref (ad 0 0))]) [0, 1] rfl
        exact ih7 (σ20, (p5 + 1), H, _, ls) ⟨hP, hD, hS, hC, hl⟩ hf
  · rintro ⟨σ4, p5, H, locs, ls⟩ ⟨hP, hD, hS, hC, hl⟩ hf
    dsimp only at hP hD hS hC hl hf ⊢
    rw [hkx6] at hf
    have hl : lv_has ls 2 [(1, .int p5), (0, .ref (ad 0 0))] := hl
    refine lv_aload_n (pc := 37) hx hb dV_chunksKept_37 rfl (lv_at hl 1 rfl) ?_
    obtain ⟨q21, hq21, eq21⟩ := at_0 (ad := ad) (ca := ca) (σ := σ4) hm0
    refine va_get (D := (dC, dI)) (cl := kCl) (C := RV) (T := TV) (N := 9) (pc := 38) hx hb hts inV hown hK.1 hP q21 eq21 rfl 6 (by decide) (hts _ wd_360) (fun _ h9 => h9) rfl dV_chunksKept_38 ?_
    obtain ⟨q22, hq22, eq22⟩ := at_2 (ad := ad) (ca := ca) (σ := σ4) (cm_0_6 hC hm0)
    refine va_get (D := (dC, dI)) (cl := kCl) (C := RK) (T := TK) (N := 3) (pc := 41) hx hb hts inK hown hK.1 hP q22 eq22 rfl 2 (by decide) (hts _ wd_363) (fun _ h9 => h9) rfl dV_chunksKept_41 ?_
    obtain ⟨h8, h9⟩ := Prod.mk.inj (Option.some.inj hf)
    subst h9
    exact W.iret (pc := 44) hx hb hr (fun t ht hW => ⟨⟨_, (), rfl, h8, by rw [ht]; exact hP, hD, hC⟩, hS.F ht⟩) hS.2.2 dV_chunksKept_44
def V_pagesOfTheSame_L55 (n : Nat) (kx21 : hT → Int32 → Int32 → Option (Int32 × hT)) : Nat → hT → Int32 → Int32 → Option (Int32 × hT)
  | 0, _, _, _ => none
  | k + 1, σ18, p19, p20 => if 10 ≤ p19 then kx21 (σ18) p19 p20 else if in9 p19 10 then hq (xR σ18 10 0 (p19).toNatClampNeg) (V_pagesOfTheSame_L55 n kx21 k (σ18) (p19 + 1) (p20 + 0)) fun j28 => if in9 p19 10 then hq (xR σ18 10 0 (p19).toNatClampNeg) (none) fun j34 => V_pagesOfTheSame_L55 n kx21 k (σ18) (p19 + 1) (p20 + (B_pagesTaken σ18 j34)) else none else none
def V_pagesOfTheSame_L24 (n : Nat) (kx11 : hT → Int32 → Int32 → Option (Int32 × hT)) : Nat → hT → Int32 → Int32 → Option (Int32 × hT)
  | 0, _, _, _ => none
  | k + 1, σ8, p9, p10 => if 16 ≤ p9 then kx11 (σ8) p9 p10 else if in9 p9 16 then if (xI σ8 8 0 (p9).toNatClampNeg) = 0 then V_pagesOfTheSame_L24 n kx11 k (σ8) (p9 + 1) (p10 + 0) else V_pagesOfTheSame_L24 n kx11 k (σ8) (p9 + 1) (p10 + 1) else none
def V_pagesOfTheSame (n : Nat) (σ : hT) : Option (Int32 × hT) := Option.bind (V_drawingsOut n σ) fun y4 => Option.bind (V_chunksOfRevisions n σ) fun ⟨y6, σ7⟩ => lt9 (α := hT → Int32 → Int32 → Option (Int32 × hT)) (fun (σ8 : hT) (p9 : Int32) (p10 : Int32) => lt9 (α := hT → Int32 → Int32 → Option (Int32 × hT)) (fun (σ18 : hT) (p19 : Int32) (p20 : Int32) => some (p20, σ18)) fun kx21 => V_pagesOfTheSame_L55 n kx21 n (σ8) 0 p10) fun kx11 => V_pagesOfTheSame_L24 n kx11 n (σ7) 0 ((((2 * (xI σ 102 0 0)) + (xI σ 103 0 0)) + y4) + y6)
set_option maxHeartbeats 4000000 in
set_option maxRecDepth 100000 in
theorem t_V_pagesOfTheSame (l : Launch) (dC : Nat → ClassId) (dI : Nat → Nat → Nat) (ad : Nat → Nat → Nat) (ca : Nat → Nat → ClassId) (dom : List (Nat × Nat)) (sz : Nat) (n : Nat) (σ : hT) (hm0 : (0, 0) ∈ dom) (hN : dom.Nodup) (hC : clo dom σ.2.2) (ρ : Int32) (σ' : hT) (hf : V_pagesOfTheSame n σ = some (ρ, σ')) : Met l yV_pagesOfTheSame (.code yV_pagesOfTheSame cV_pagesOfTheSame 3 (some .int) :: aw) ({ frames := 4, cells := 0, slots := 0, locals := 81 }) (hW (dC, dI) sz ad ca dom σ [.ref (ad 0 0)]) (va_Qi (fun r (_ : Unit) => r = ρ) (fun _ t => hB (dC, dI) (va_A (w9 ad ca dom σ) sz) ad ca dom σ' t) (va_A (w9 ad ca dom σ) sz)) 0 0 (va_A (w9 ad ca dom σ) sz) := by
  refine Met.ofW (cc := cV_pagesOfTheSame) (maxL := 3) (ret := (some .int)) (by decide) rfl ?_
  intro p e s m args below meth c s₁ B hml hv
  obtain ⟨rfl, hv⟩ := hv
  have hx := B.exec
  have hb := B.bytes
  have hr := B.returns
  have hts : ∀ w ∈ aw, w.before _ s = true := fun w h => atoms_spec (ws := (.code yV_pagesOfTheSame cV_pagesOfTheSame 3 (some .int) :: aw)) B.pre w (List.mem_cons_of_mem _ h)
  have hown : s.vm.findClass RV = some m.cls := findClass_of_methodNamed B.named
  have hlocks := B.notSynchronized
  obtain ⟨hsz, hP, hK, hD0, hG⟩ := hv
  subst hsz
  have hD := hD0.self (sz := s.heap.size)
  generalize hAe : va_A (w9 ad ca dom σ) s.heap.size = A at hD ⊢
  have hA : ∀ q : Nat, s.heap.size ≤ q → A q := fun q h => by rw [← hAe]; exact Or.inr h
  obtain ⟨H, hH⟩ : ∃ H, H = s.heap := ⟨_, rfl⟩
  have hS : va_S A s.heap H [] := by rw [hH]; exact va_S.rf
  rw [← hH] at hP ⊢
  unfold V_pagesOfTheSame at hf
  have hl := lv_entry ([.ref (ad 0 0)]) (n := 3) (Nat.le_of_ble_eq_true rfl)
  rw [lg_entry_eq]
  generalize (lg_sl ([.ref (ad 0 0)]) ++ List.replicate (3 - (lg_sl ([.ref (ad 0 0)])).length) Slot.unset).toArray = ls at hl ⊢
  have hl : lv_has ls 3 [(0, .ref (ad 0 0))] := hl
  refine lv_iconst (pc := 0) (v := 2) hx hb dV_pagesOfTheSame_0 (by decide) ?_
  refine lv_aload_n (pc := 1) hx hb dV_pagesOfTheSame_1 rfl (lv_at hl 0 rfl) ?_
  obtain ⟨q1, hq1, eq1⟩ := at_0 (ad := ad) (ca := ca) (σ := σ) hm0
  refine va_get (D := (dC, dI)) (cl := kCl) (C := RV) (T := TV) (N := 9) (pc := 2) hx hb hts inV hown hK.1 hP q1 eq1 rfl 2 (by decide) (hts _ wd_314) (fun _ h9 => h9) rfl dV_pagesOfTheSame_2 ?_
  refine lv_imul (pc := 5) hx hb dV_pagesOfTheSame_5 ?_
  refine lv_aload_n (pc := 6) hx hb dV_pagesOfTheSame_6 rfl (lv_at hl 0 rfl) ?_
  obtain ⟨q2, hq2, eq2⟩ := at_0 (ad := ad) (ca := ca) (σ := σ) hm0
  refine va_get (D := (dC, dI)) (cl := kCl) (C := RV) (T := TV) (N := 9) (pc := 7) hx hb hts inV hown hK.1 hP q2 eq2 rfl 3 (by decide) (hts _ wd_369) (fun _ h9 => h9) rfl dV_pagesOfTheSame_7 ?_
  refine lv_iadd (pc := 10) hx hb dV_pagesOfTheSame_10 ?_
  refine lv_aload_n (pc := 11) hx hb dV_pagesOfTheSame_11 rfl (lv_at hl 0 rfl) ?_
  obtain ⟨q3, hq3, eq3⟩ := at_0 (ad := ad) (ca := ca) (σ := σ) hm0
  obtain ⟨y4, hy4, hf⟩ := ob hf
  refine vp_callSi (pc := 12) (W.runV (As := []) (rest := [.int ((2 * (xI σ 102 0 0)) + (xI σ 103 0 0))]) ⟨hx, hb, hml, hown, hts⟩ (t_V_drawingsOut l dC dI ad ca dom n σ hm0 hN hC y4 hy4) (cwV 0 hts (gV wd_371 wd_372 wd_373 wd_254 wd_370) rfl rfl rfl (by decide +kernel) ⟨Nat.le_of_ble_eq_true rfl, Nat.le_of_ble_eq_true rfl⟩) ⟨hR_blind, va_recv (q := (RV, TV, 9)) (q0 := q3) (ci := 0) hK.1 hP rfl eq3, hR_pre hP hK hG⟩ rfl rfl hl.1 rfl (lv_room (Nat.le_of_ble_eq_true rfl)) dV_pagesOfTheSame_12 ⟨Nat.le_of_ble_eq_true rfl, Nat.le_of_ble_eq_true rfl⟩) (fun r9 hr9 => ?_)
  refine W.eq (g2 := F0 m 15 ls [.int y4, .int ((2 * (xI σ 102 0 0)) + (xI σ 103 0 0))]) (by rw [hr9]) ?_
  refine lv_iadd (pc := 15) hx hb dV_pagesOfTheSame_15 ?_
  refine lv_aload_n (pc := 16) hx hb dV_pagesOfTheSame_16 rfl (lv_at hl 0 rfl) ?_
  obtain ⟨q5, hq5, eq5⟩ := at_0 (ad := ad) (ca := ca) (σ := σ) hm0
  obtain ⟨⟨y6, σ7⟩, hy6, hf⟩ := ob hf
  have hFc := w9_free hD hS hA
  refine va_calli (pc := 17) (va_runV (As := []) (rest := [.int (((2 * (xI σ 102 0 0)) + (xI σ 103 0 0)) + y4)]) ⟨hx, hb, hml, hown, hts⟩ (t_V_chunksOfRevisions l dC dI ad ca dom H.size n σ hm0 hN hC y6 σ7 hy6) (cwV 0 hts (gV wd_365 wd_366 wd_367 wd_254 wd_364) rfl rfl rfl (by decide +kernel) ⟨Nat.le_of_ble_eq_true rfl, Nat.le_of_ble_eq_true rfl⟩) ⟨hW_blind, va_recv (q := (RV, TV, 9)) (q0 := q5) (ci := 0) hK.1 hP rfl eq5, hW_pre hP hK hD hG⟩ rfl rfl hl.1 rfl (lv_room (Nat.le_of_ble_eq_true rfl)) dV_pagesOfTheSame_17 ⟨Nat.le_of_ble_eq_true rfl, Nat.le_of_ble_eq_true rfl⟩) hS (fun q _ h => hFc q h) hFc (fun r9 u t H1 locs ht hvm hr9 hB hz1 hk1 hS => ?_)
  obtain ⟨hP, hD, hC⟩ := hB
  rw [ht] at hP
  replace hD := hD.weaken (fun _ _ _ h => hFc _ h)
  generalize H1 = H at hP hS ⊢
  refine W.eq (g2 := F0 m 20 ls [.int y6, .int (((2 * (xI σ 102 0 0)) + (xI σ 103 0 0)) + y4)]) (by rw [hr9]) ?_
  refine lv_iadd (pc := 20) hx hb dV_pagesOfTheSame_20 ?_
  refine lv_istore_n (pc := 21) hx hb dV_pagesOfTheSame_21 rfl hl (by decide) rfl (fun ls hl => ?_)
  have hl : lv_has ls 3 [(1, .int ((((2 * (xI σ 102 0 0)) + (xI σ 103 0 0)) + y4) + y6)), (0, .ref (ad 0 0))] := hl
  refine lv_iconst (pc := 22) (v := 0) hx hb dV_pagesOfTheSame_22 (by decide) ?_
  refine lv_istore_n (pc := 23) hx hb dV_pagesOfTheSame_23 rfl hl (by decide) rfl (fun ls hl => ?_)
  have hl : lv_has ls 3 [(2, .int 0), (1, .int ((((2 * (xI σ 102 0 0)) + (xI σ 103 0 0)) + y4) + y6)), (0, .ref (ad 0 0))] := hl
  obtain ⟨kx11, hkx11, hf⟩ := lt_9 hf
  refine lpF (τ := (hT) × (Int32) × (Int32) × (Heap) × (List Loc) × (Array Slot)) (fun pc z => W p l e _ s m _ below meth c z.2.2.2.1 z.2.2.2.2.1 0 0 _ (F0 m pc z.2.2.2.2.2 [])) 24 53 (fun z => va_P (dC, dI) kCl (w9 ad ca dom z.1) z.2.2.2.1 ∧ va_D A (w9 ad ca dom z.1) ∧ va_S A s.heap z.2.2.2.1 z.2.2.2.2.1 ∧ clo dom z.1.2.2 ∧ lv_has z.2.2.2.2.2 3 [(2, .int z.2.1), (1, .int z.2.2.1), (0, .ref (ad 0 0))]) (fun k z => V_pagesOfTheSame_L24 n kx11 k z.1 z.2.1 z.2.2.1) (fun z => kx11 z.1 z.2.1 z.2.2.1) _ (fun z => rfl) ?_ ?_ n (σ7, 0, ((((2 * (xI σ 102 0 0)) + (xI σ 103 0 0)) + y4) + y6), H, _, ls) ⟨hP, hD, hS, hC, hl⟩ hf
  · rintro k ⟨σ8, p9, p10, H, locs, ls⟩ ⟨hP, hD, hS, hC, hl⟩ hf ih12 hXkx11
    dsimp only at hP hD hS hC hl hf ih12 hXkx11 ⊢
    unfold V_pagesOfTheSame_L24 at hf
    have hl : lv_has ls 3 [(2, .int p9), (1, .int p10), (0, .ref (ad 0 0))] := hl
    refine lv_iload_n (pc := 24) hx hb dV_pagesOfTheSame_24 rfl (lv_at hl 0 rfl) ?_
    refine lv_bipush (pc := 25) (v := 16) hx hb dV_pagesOfTheSame_25 (by decide) ?_
    refine lv_icmp_ge (pc := 27) (tgt := 53) hx hb dV_pagesOfTheSame_27 rfl (fun h13 => ?_) (fun h13 => ?_)
    · replace hf := ite_t h13 hf
      have hl := lv_sub hl (l' := [(2, .int p9), (1, .int p10), (0, .ref (ad 0 0))]) [0, 1, 2] rfl
      exact hXkx11 (σ8, p9, p10, H, _, ls) ⟨hP, hD, hS, hC, hl⟩ hf
    · replace hf := ite_f h13 hf
      refine lv_iload_n (pc := 30) hx hb dV_pagesOfTheSame_30 rfl (lv_at hl 1 rfl) ?_
      refine lv_aload_n (pc := 31) hx hb dV_pagesOfTheSame_31 rfl (lv_at hl 2 rfl) ?_
      obtain ⟨q14, hq14, eq14⟩ := at_0 (ad := ad) (ca := ca) (σ := σ8) hm0
      refine va_get (D := (dC, dI)) (cl := kCl) (C := RV) (T := TV) (N := 9) (pc := 32) hx hb hts inV hown hK.1 hP q14 eq14 rfl 0 (by decide) (hts _ wd_313) (fun _ h9 => h9) rfl dV_pagesOfTheSame_32 ?_
      refine lv_iload_n (pc := 35) hx hb dV_pagesOfTheSame_35 rfl (lv_at hl 0 rfl) ?_
      obtain ⟨hv15, hf⟩ := ite_s hf
      obtain ⟨q16, hq16, eq16⟩ := at_8 (ad := ad) (ca := ca) (σ := σ8) (cm_0_0 hC hm0)
      refine va_iald (D := (dC, dI)) (cl := kCl) (pc := 36) hx hb (hK.2 8 0 .int (cm_0_0 hC hm0) rfl) hP q16 0 eq16 rfl (hv15) dV_pagesOfTheSame_36 ?_
      refine W.eq (g2 := F0 m 37 ls [.int (xI σ8 8 0 (p9).toNatClampNeg), .int p10]) rfl ?_
      refine lv_if_eq (pc := 37) (tgt := 44) hx hb dV_pagesOfTheSame_37 rfl (fun h17 => ?_) (fun h17 => ?_)
      · replace hf := ite_t h17 hf
        refine lv_iconst (pc := 44) (v := 0) hx hb dV_pagesOfTheSame_44 (by decide) ?_
        refine lv_iadd (pc := 45) hx hb dV_pagesOfTheSame_45 ?_
        refine lv_istore_n (pc := 46) hx hb dV_pagesOfTheSame_46 rfl hl (by decide) rfl (fun ls hl => ?_)
        have hl : lv_has ls 3 [(1, .int (p10 + 0)), (2, .int p9), (0, .ref (ad 0 0))] := hl
        refine lv_iinc (pc := 47) (v := (p9 + 1)) hx hb dV_pagesOfTheSame_47 hl (k := 1) rfl (by rfl) (by decide) rfl (fun ls hl => ?_)
        have hl : lv_has ls 3 [(2, .int (p9 + 1)), (1, .int (p10 + 0)), (0, .ref (ad 0 0))] := hl
        refine lv_goto (pc := 50) (tgt := 24) hx hb dV_pagesOfTheSame_50 rfl ?_
        have hl := lv_sub hl (l' := [(2, .int (p9 + 1)), (1, .int (p10 + 0)), (0, .ref (ad 0 0))]) [0, 1, 2] rfl
        exact ih12 (σ8, (p9 + 1), (p10 + 0), H, _, ls) ⟨hP, hD, hS, hC, hl⟩ hf
      · replace hf := ite_f h17 hf
        refine lv_iconst (pc := 40) (v := 1) hx hb dV_pagesOfTheSame_40 (by decide) ?_
        refine lv_goto (pc := 41) (tgt := 45) hx hb dV_pagesOfTheSame_41 rfl ?_
        refine lv_iadd (pc := 45) hx hb dV_pagesOfTheSame_45 ?_
        refine lv_istore_n (pc := 46) hx hb dV_pagesOfTheSame_46 rfl hl (by decide) rfl (fun ls hl => ?_)
        have hl : lv_has ls 3 [(1, .int (p10 + 1)), (2, .int p9), (0, .ref (ad 0 0))] := hl
        refine lv_iinc (pc := 47) (v := (p9 + 1)) hx hb dV_pagesOfTheSame_47 hl (k := 1) rfl (by rfl) (by decide) rfl (fun ls hl => ?_)
        have hl : lv_has ls 3 [(2, .int (p9 + 1)), (1, .int (p10 + 1)), (0, .ref (ad 0 0))] := hl
        refine lv_goto (pc := 50) (tgt := 24) hx hb dV_pagesOfTheSame_50 rfl ?_
        have hl := lv_sub hl (l' := [(2, .int (p9 + 1)), (1, .int (p10 + 1)), (0, .ref (ad 0 0))]) [0, 1, 2] rfl
        exact ih12 (σ8, (p9 + 1), (p10 + 1), H, _, ls) ⟨hP, hD, hS, hC, hl⟩ hf
  · rintro ⟨σ8, p9, p10, H, locs, ls⟩ ⟨hP, hD, hS, hC, hl⟩ hf
    dsimp only at hP hD hS hC hl hf ⊢
    rw [hkx11] at hf
    have hl : lv_has ls 3 [(2, .int p9), (1, .int p10), (0, .ref (ad 0 0))] := hl
    refine lv_iconst (pc := 53) (v := 0) hx hb dV_pagesOfTheSame_53 (by decide) ?_
    refine lv_istore_n (pc := 54) hx hb dV_pagesOfTheSame_54 rfl hl (by decide) rfl (fun ls hl => ?_)
    have hl : lv_has ls 3 [(2, .int 0), (1, .int p10), (0, .ref (ad 0 0))] := hl
    obtain ⟨kx21, hkx21, hf⟩ := lt_9 hf
    refine lpF (τ := (hT) × (Int32) × (Int32) × (Heap) × (List Loc) × (Array Slot)) (fun pc z => W p l e _ s m _ below meth c z.2.2.2.1 z.2.2.2.2.1 0 0 _ (F0 m pc z.2.2.2.2.2 [])) 55 92 (fun z => va_P (dC, dI) kCl (w9 ad ca dom z.1) z.2.2.2.1 ∧ va_D A (w9 ad ca dom z.1) ∧ va_S A s.heap z.2.2.2.1 z.2.2.2.2.1 ∧ clo dom z.1.2.2 ∧ lv_has z.2.2.2.2.2 3 [(2, .int z.2.1), (1, .int z.2.2.1), (0, .ref (ad 0 0))]) (fun k z => V_pagesOfTheSame_L55 n kx21 k z.1 z.2.1 z.2.2.1) (fun z => kx21 z.1 z.2.1 z.2.2.1) _ (fun z => rfl) ?_ ?_ n (σ8, 0, p10, H, _, ls) ⟨hP, hD, hS, hC, hl⟩ hf
    · rintro k ⟨σ18, p19, p20, H, locs, ls⟩ ⟨hP, hD, hS, hC, hl⟩ hf ih22 hXkx21
      dsimp only at hP hD hS hC hl hf ih22 hXkx21 ⊢
      unfold V_pagesOfTheSame_L55 at hf
      have hl : lv_has ls 3 [(2, .int p19), (1, .int p20), (0, .ref (ad 0 0))] := hl
      refine lv_iload_n (pc := 55) hx hb dV_pagesOfTheSame_55 rfl (lv_at hl 0 rfl) ?_
      refine lv_bipush (pc := 56) (v := 10) hx hb dV_pagesOfTheSame_56 (by decide) ?_
      refine lv_icmp_ge (pc := 58) (tgt := 92) hx hb dV_pagesOfTheSame_58 rfl (fun h23 => ?_) (fun h23 => ?_)
      · replace hf := ite_t h23 hf
        have hl := lv_sub hl (l' := [(2, .int p19), (1, .int p20), (0, .ref (ad 0 0))]) [0, 1, 2] rfl
        exact hXkx21 (σ18, p19, p20, H, _, ls) ⟨hP, hD, hS, hC, hl⟩ hf
      · replace hf := ite_f h23 hf
        refine lv_iload_n (pc := 61) hx hb dV_pagesOfTheSame_61 rfl (lv_at hl 1 rfl) ?_
        refine lv_aload_n (pc := 62) hx hb dV_pagesOfTheSame_62 rfl (lv_at hl 2 rfl) ?_
        obtain ⟨q24, hq24, eq24⟩ := at_0 (ad := ad) (ca := ca) (σ := σ18) hm0
        refine va_get (D := (dC, dI)) (cl := kCl) (C := RV) (T := TV) (N := 9) (pc := 63) hx hb hts inV hown hK.1 hP q24 eq24 rfl 4 (by decide) (hts _ wd_322) (fun _ h9 => h9) rfl dV_pagesOfTheSame_63 ?_
        refine lv_iload_n (pc := 66) hx hb dV_pagesOfTheSame_66 rfl (lv_at hl 0 rfl) ?_
        obtain ⟨hv25, hf⟩ := ite_s hf
        obtain ⟨q26, hq26, eq26⟩ := at_10 (ad := ad) (ca := ca) (σ := σ18) (cm_0_4 hC hm0)
        refine va_aldq (D := (dC, dI)) (cl := kCl) (pc := 67) hx hb (hK.2 10 0 (.object "DrawingVault$Baseline") (cm_0_4 hC hm0) rfl) hP q26 0 eq26 rfl (hv25) dV_pagesOfTheSame_67 ?_
        refine W.eq (g2 := F0 m 68 ls [va_re (ad 1) (xR σ18 10 0 (p19).toNatClampNeg), .int p20]) rfl ?_
        rcases hE27 : xR σ18 10 0 (p19).toNatClampNeg with _ | j28
        · replace hf := hq_n hE27 hf
          refine W.eq (g2 := F0 m 68 ls [.null, .int p20]) rfl ?_
          refine lv_ifnullN (pc := 68) (tgt := 83) hx hb dV_pagesOfTheSame_68 rfl ?_
          refine lv_iconst (pc := 83) (v := 0) hx hb dV_pagesOfTheSame_83 (by decide) ?_
          refine lv_iadd (pc := 84) hx hb dV_pagesOfTheSame_84 ?_
          refine lv_istore_n (pc := 85) hx hb dV_pagesOfTheSame_85 rfl hl (by decide) rfl (fun ls hl => ?_)
          have hl : lv_has ls 3 [(1, .int (p20 + 0)), (2, .int p19), (0, .ref (ad 0 0))] := hl
          refine lv_iinc (pc := 86) (v := (p19 + 1)) hx hb dV_pagesOfTheSame_86 hl (k := 1) rfl (by rfl) (by decide) rfl (fun ls hl => ?_)
          have hl : lv_has ls 3 [(2, .int (p19 + 1)), (1, .int (p20 + 0)), (0, .ref (ad 0 0))] := hl
          refine lv_goto (pc := 89) (tgt := 55) hx hb dV_pagesOfTheSame_89 rfl ?_
          have hl := lv_sub hl (l' := [(2, .int (p19 + 1)), (1, .int (p20 + 0)), (0, .ref (ad 0 0))]) [0, 1, 2] rfl
          exact ih22 (σ18, (p19 + 1), (p20 + 0), H, _, ls) ⟨hP, hD, hS, hC, hl⟩ hf
        · replace hf := hq_s hE27 hf
          have hm29 : (1, j28) ∈ dom := (cr_10 hC (cm_0_4 hC hm0) hE27)
          refine W.eq (g2 := F0 m 68 ls [.ref (ad 1 j28), .int p20]) rfl ?_
          refine lv_ifnull (pc := 68) hx hb dV_pagesOfTheSame_68 ?_
          refine lv_aload_n (pc := 71) hx hb dV_pagesOfTheSame_71 rfl (lv_at hl 2 rfl) ?_
          obtain ⟨q30, hq30, eq30⟩ := at_0 (ad := ad) (ca := ca) (σ := σ18) hm0
          refine va_get (D := (dC, dI)) (cl := kCl) (C := RV) (T := TV) (N := 9) (pc := 72) hx hb hts inV hown hK.1 hP q30 eq30 rfl 4 (by decide) (hts _ wd_322) (fun _ h9 => h9) rfl dV_pagesOfTheSame_72 ?_
          refine lv_iload_n (pc := 75) hx hb dV_pagesOfTheSame_75 rfl (lv_at hl 0 rfl) ?_
          obtain ⟨hv31, hf⟩ := ite_s hf
          obtain ⟨q32, hq32, eq32⟩ := at_10 (ad := ad) (ca := ca) (σ := σ18) (cm_0_4 hC hm0)
          refine va_aldq (D := (dC, dI)) (cl := kCl) (pc := 76) hx hb (hK.2 10 0 (.object "DrawingVault$Baseline") (cm_0_4 hC hm0) rfl) hP q32 0 eq32 rfl (hv31) dV_pagesOfTheSame_76 ?_
          refine W.eq (g2 := F0 m 77 ls [va_re (ad 1) (xR σ18 10 0 (p19).toNatClampNeg), .int p20]) rfl ?_
          rcases hE33 : xR σ18 10 0 (p19).toNatClampNeg with _ | j34
          · replace hf := hq_n hE33 hf
            refine W.eq (g2 := F0 m 77 ls [.null, .int p20]) rfl ?_
            exact nomatch hf
          · replace hf := hq_s hE33 hf
            have hm35 : (1, j34) ∈ dom := (cr_10 hC (cm_0_4 hC hm0) hE33)
            refine W.eq (g2 := F0 m 77 ls [.ref (ad 1 j34), .int p20]) rfl ?_
            obtain ⟨q36, hq36, eq36⟩ := at_1 (ad := ad) (ca := ca) (σ := σ18) hm35
            refine vp_callSi (pc := 77) (W.runV (As := []) (rest := [.int p20]) ⟨hx, hb, hml, hown, hts⟩ (t_B_pagesTaken l dC dI ad ca dom σ18 j34 hm35 hN hC (B_pagesTaken σ18 j34) rfl) (cwV 0 hts (gV wd_375 wd_376 wd_377 wd_378 wd_374) rfl rfl rfl (by decide +kernel) ⟨Nat.le_of_ble_eq_true rfl, Nat.le_of_ble_eq_true rfl⟩) ⟨hR_blind, va_recv (q := (RB, TB, 3)) (q0 := q36) (ci := 1) hK.1 hP rfl eq36, hR_pre hP hK hG⟩ rfl rfl hl.1 rfl (lv_room (Nat.le_of_ble_eq_true rfl)) dV_pagesOfTheSame_77 ⟨Nat.le_of_ble_eq_true rfl, Nat.le_of_ble_eq_true rfl⟩) (fun r9 hr9 => ?_)
            refine W.eq (g2 := F0 m 80 ls [.int (B_pagesTaken σ18 j34), .int p20]) (by rw [hr9]) ?_
            refine lv_goto (pc := 80) (tgt := 84) hx hb dV_pagesOfTheSame_80 rfl ?_
            refine lv_iadd (pc := 84) hx hb dV_pagesOfTheSame_84 ?_
            refine lv_istore_n (pc := 85) hx hb dV_pagesOfTheSame_85 rfl hl (by decide) rfl (fun ls hl => ?_)
            have hl : lv_has ls 3 [(1, .int (p20 + (B_pagesTaken σ18 j34))), (2, .int p19), (0, .ref (ad 0 0))] := hl
            refine lv_iinc (pc := 86) (v := (p19 + 1)) hx hb dV_pagesOfTheSame_86 hl (k := 1) rfl (by rfl) (by decide) rfl (fun ls hl => ?_)
            have hl : lv_has ls 3 [(2, .int (p19 + 1)), (1, .int (p20 + (B_pagesTaken σ18 j34))), (0, .ref (ad 0 0))] := hl
            refine lv_goto (pc := 89) (tgt := 55) hx hb dV_pagesOfTheSame_89 rfl ?_
            have hl := lv_sub hl (l' := [(2, .int (p19 + 1)), (1, .int (p20 + (B_pagesTaken σ18 j34))), (0, .ref (ad 0 0))]) [0, 1, 2] rfl
            exact ih22 (σ18, (p19 + 1), (p20 + (B_pagesTaken σ18 j34)), H, _, ls) ⟨hP, hD, hS, hC, hl⟩ hf
    · rintro ⟨σ18, p19, p20, H, locs, ls⟩ ⟨hP, hD, hS, hC, hl⟩ hf
      dsimp only at hP hD hS hC hl hf ⊢
      rw [hkx21] at hf
      have hl : lv_has ls 3 [(2, .int p19), (1, .int p20), (0, .ref (ad 0 0))] := hl
      refine lv_iload_n (pc := 92) hx hb dV_pagesOfTheSame_92 rfl (lv_at hl 1 rfl) ?_
      obtain ⟨h8, h9⟩ := Prod.mk.inj (Option.some.inj hf)
      subst h9
      exact W.iret (pc := 93) hx hb hr (fun t ht hW => ⟨⟨_, (), rfl, h8, by rw [ht]; exact hP, hD, hC⟩, hS.F ht⟩) hS.2.2 dV_pagesOfTheSame_93
def V_allowed (σ : hT) (a1 : Int32) : Option (Int32 × hT) := lt9 (sI σ 108 0 0 a1) fun σ1 => if a1 = 0 then some (1, σ1) else some (0, σ1)
set_option maxHeartbeats 4000000 in
set_option maxRecDepth 100000 in
theorem t_V_allowed (l : Launch) (dC : Nat → ClassId) (dI : Nat → Nat → Nat) (ad : Nat → Nat → Nat) (ca : Nat → Nat → ClassId) (dom : List (Nat × Nat)) (sz : Nat) (σ : hT) (a1 : Int32) (hm0 : (0, 0) ∈ dom) (hN : dom.Nodup) (hC : clo dom σ.2.2) (ρ : Int32) (σ' : hT) (hf : V_allowed σ a1 = some (ρ, σ')) : Met l yV_allowed (.code yV_allowed cV_allowed 2 (some .boolean) :: aw) ({ frames := 0, cells := 0, slots := 0, locals := 0 }) (hW (dC, dI) sz ad ca dom σ [.ref (ad 0 0), .int a1]) (va_Qi (fun r (_ : Unit) => r = ρ) (fun _ t => hB (dC, dI) (va_A (w9 ad ca dom σ) sz) ad ca dom σ' t) (va_A (w9 ad ca dom σ) sz)) 0 0 (va_A (w9 ad ca dom σ) sz) := by
  refine Met.ofW (cc := cV_allowed) (maxL := 2) (ret := (some .boolean)) (by decide) rfl ?_
  intro p e s m args below meth c s₁ B hml hv
  obtain ⟨rfl, hv⟩ := hv
  have hx := B.exec
  have hb := B.bytes
  have hr := B.returns
  have hts : ∀ w ∈ aw, w.before _ s = true := fun w h => atoms_spec (ws := (.code yV_allowed cV_allowed 2 (some .boolean) :: aw)) B.pre w (List.mem_cons_of_mem _ h)
  have hown : s.vm.findClass RV = some m.cls := findClass_of_methodNamed B.named
  have hlocks := B.notSynchronized
  obtain ⟨hsz, hP, hK, hD0, hG⟩ := hv
  subst hsz
  have hD := hD0.self (sz := s.heap.size)
  generalize hAe : va_A (w9 ad ca dom σ) s.heap.size = A at hD ⊢
  have hA : ∀ q : Nat, s.heap.size ≤ q → A q := fun q h => by rw [← hAe]; exact Or.inr h
  obtain ⟨H, hH⟩ : ∃ H, H = s.heap := ⟨_, rfl⟩
  have hS : va_S A s.heap H [] := by rw [hH]; exact va_S.rf
  rw [← hH] at hP ⊢
  unfold V_allowed at hf
  have hl := lv_entry ([.ref (ad 0 0), .int a1]) (n := 2) (Nat.le_of_ble_eq_true rfl)
  rw [lg_entry_eq]
  generalize (lg_sl ([.ref (ad 0 0), .int a1]) ++ List.replicate (2 - (lg_sl ([.ref (ad 0 0), .int a1])).length) Slot.unset).toArray = ls at hl ⊢
  have hl : lv_has ls 2 [(0, .ref (ad 0 0)), (1, .int a1)] := hl
  refine lv_aload_n (pc := 0) hx hb dV_allowed_0 rfl (lv_at hl 0 rfl) ?_
  refine lv_iload_n (pc := 1) hx hb dV_allowed_1 rfl (lv_at hl 1 rfl) ?_
  obtain ⟨q2, hq2, eq2⟩ := at_0 (ad := ad) (ca := ca) (σ := σ) hm0
  refine va_put (D := (dC, dI)) (cl := kCl) (ci := 0) (v := .int a1) (ty := .int) (C := RV) (T := TV) (N := 9) (pc := 2) hx hb hts inV tyV tyV_ok nmV hown hK.1 hP hD hS q2 eq2 rfl 8 (by decide) (hts _ wd_379) (fun _ h9 => h9) rfl (by decide +kernel) (rfl) (rfl) (Nat.le_of_ble_eq_true rfl) dV_allowed_2 (fun H locs hP hD hS => ?_)
  obtain ⟨σ1, hσ1, hf⟩ := lt_9 hf
  obtain ⟨hP, hD⟩ := w9_rI 108 rfl hN hq2 hσ1 (pu_108) hP hD
  have hC : clo dom σ1.2.2 := by rw [hσ1]; exact hC
  refine lv_iload_n (pc := 5) hx hb dV_allowed_5 rfl (lv_at hl 1 rfl) ?_
  refine lv_if_ne (pc := 6) (tgt := 13) hx hb dV_allowed_6 rfl (fun h3 => ?_) (fun h3 => ?_)
  · replace hf := ite_f h3 hf
    refine lv_iconst (pc := 13) (v := 0) hx hb dV_allowed_13 (by decide) ?_
    obtain ⟨h8, h9⟩ := Prod.mk.inj (Option.some.inj hf)
    subst h9
    exact W.zret (pc := 14) hx hb hr (rfl) (fun t ht hW => ⟨⟨_, (), rfl, h8, by rw [ht]; exact hP, hD, hC⟩, hS.F ht⟩) hS.2.2 dV_allowed_14
  · replace hf := ite_t h3 hf
    refine lv_iconst (pc := 9) (v := 1) hx hb dV_allowed_9 (by decide) ?_
    refine lv_goto (pc := 10) (tgt := 14) hx hb dV_allowed_10 rfl ?_
    obtain ⟨h8, h9⟩ := Prod.mk.inj (Option.some.inj hf)
    subst h9
    exact W.zret (pc := 14) hx hb hr (rfl) (fun t ht hW => ⟨⟨_, (), rfl, h8, by rw [ht]; exact hP, hD, hC⟩, hS.F ht⟩) hS.2.2 dV_allowed_14
def V_finish_L10 (n : Nat) (kx8 : hT → Int32 → Int32 → Option (Unit × hT)) : Nat → hT → Int32 → Int32 → Option (Unit × hT)
  | 0, _, _, _ => none
  | k + 1, σ5, p6, p7 => if (xI σ5 102 0 0) ≤ p6 then kx8 (σ5) p6 p7 else if in9 p6 24 then hq (xR σ5 9 0 (p6).toNatClampNeg) (none) fun j16 => if in9 p6 24 then hq (xR σ5 9 0 (p6).toNatClampNeg) (none) fun j23 => Option.bind (C_takeFrom σ5 (3 * j16 + 1) (3 * j23)) fun ⟨y27, σ28⟩ => V_finish_L10 n kx8 k (σ28) (p6 + 1) p7 else none else none
def V_finish (n : Nat) (σ : hT) (a1 : Int32) : Option (Unit × hT) := Option.bind (P_write σ a1) fun ⟨y3, σ4⟩ => lt9 (α := hT → Int32 → Int32 → Option (Unit × hT)) (fun (σ5 : hT) (p6 : Int32) (p7 : Int32) => if (P_areLow σ5) = 0 then some ((), σ5) else Option.bind (V_pagesOfTheSame n σ5) fun ⟨y34, σ35⟩ => Option.bind (P_copyForward σ35 y34) fun ⟨y37, σ38⟩ => some ((), σ38)) fun kx8 => V_finish_L10 n kx8 n (σ4) 0 a1
set_option maxHeartbeats 4000000 in
set_option maxRecDepth 100000 in
theorem t_V_finish (l : Launch) (dC : Nat → ClassId) (dI : Nat → Nat → Nat) (ad : Nat → Nat → Nat) (ca : Nat → Nat → ClassId) (dom : List (Nat × Nat)) (sz : Nat) (n : Nat) (σ : hT) (a1 : Int32) (hm0 : (0, 0) ∈ dom) (hN : dom.Nodup) (hC : clo dom σ.2.2) (ρ : Unit) (σ' : hT) (hf : V_finish n σ a1 = some (ρ, σ')) : Met l yV_finish (.code yV_finish cV_finish 3 none :: aw) ({ frames := 5, cells := 0, slots := 0, locals := 103 }) (hW (dC, dI) sz ad ca dom σ [.ref (ad 0 0), .int a1]) (va_Qv (fun (_ : Unit) => True) (fun _ t => hB (dC, dI) (va_A (w9 ad ca dom σ) sz) ad ca dom σ' t) (va_A (w9 ad ca dom σ) sz)) 0 0 (va_A (w9 ad ca dom σ) sz) := by
  refine Met.ofW (cc := cV_finish) (maxL := 3) (ret := none) (by decide) rfl ?_
  intro p e s m args below meth c s₁ B hml hv
  obtain ⟨rfl, hv⟩ := hv
  have hx := B.exec
  have hb := B.bytes
  have hr := B.returns
  have hts : ∀ w ∈ aw, w.before _ s = true := fun w h => atoms_spec (ws := (.code yV_finish cV_finish 3 none :: aw)) B.pre w (List.mem_cons_of_mem _ h)
  have hown : s.vm.findClass RV = some m.cls := findClass_of_methodNamed B.named
  have hlocks := B.notSynchronized
  obtain ⟨hsz, hP, hK, hD0, hG⟩ := hv
  subst hsz
  have hD := hD0.self (sz := s.heap.size)
  generalize hAe : va_A (w9 ad ca dom σ) s.heap.size = A at hD ⊢
  have hA : ∀ q : Nat, s.heap.size ≤ q → A q := fun q h => by rw [← hAe]; exact Or.inr h
  obtain ⟨H, hH⟩ : ∃ H, H = s.heap := ⟨_, rfl⟩
  have hS : va_S A s.heap H [] := by rw [hH]; exact va_S.rf
  rw [← hH] at hP ⊢
  unfold V_finish at hf
  have hl := lv_entry ([.ref (ad 0 0), .int a1]) (n := 3) (Nat.le_of_ble_eq_true rfl)
  rw [lg_entry_eq]
  generalize (lg_sl ([.ref (ad 0 0), .int a1]) ++ List.replicate (3 - (lg_sl ([.ref (ad 0 0), .int a1])).length) Slot.unset).toArray = ls at hl ⊢
  have hl : lv_has ls 3 [(0, .ref (ad 0 0)), (1, .int a1)] := hl
  refine lv_aload_n (pc := 0) hx hb dV_finish_0 rfl (lv_at hl 0 rfl) ?_
  obtain ⟨q1, hq1, eq1⟩ := at_0 (ad := ad) (ca := ca) (σ := σ) hm0
  refine va_get (D := (dC, dI)) (cl := kCl) (C := RV) (T := TV) (N := 9) (pc := 1) hx hb hts inV hown hK.1 hP q1 eq1 rfl 7 (by decide) (hts _ wd_380) (fun _ h9 => h9) rfl dV_finish_1 ?_
  refine lv_iload_n (pc := 4) hx hb dV_finish_4 rfl (lv_at hl 1 rfl) ?_
  obtain ⟨q2, hq2, eq2⟩ := at_3 (ad := ad) (ca := ca) (σ := σ) (cm_0_7 hC hm0)
  obtain ⟨⟨y3, σ4⟩, hy3, hf⟩ := ob hf
  have hFc := w9_free hD hS hA
  refine va_callv (pc := 5) (va_runV (As := [.int a1]) (rest := []) ⟨hx, hb, hml, hown, hts⟩ (t_P_write l dC dI ad ca dom H.size σ a1 (cm_0_7 hC hm0) hN hC y3 σ4 hy3) (cwV 1 hts (gV wd_382 wd_383 wd_384 wd_385 wd_381) rfl rfl rfl (by decide +kernel) ⟨Nat.le_of_ble_eq_true rfl, Nat.le_of_ble_eq_true rfl⟩) ⟨hW_blind, va_recv (q := (RP, TP, 6)) (q0 := q2) (ci := 3) hK.1 hP rfl eq2, hW_pre hP hK hD hG⟩ rfl rfl hl.1 rfl (lv_room (Nat.le_of_ble_eq_true rfl)) dV_finish_5 ⟨Nat.le_of_ble_eq_true rfl, Nat.le_of_ble_eq_true rfl⟩) hS (fun q _ h => hFc q h) hFc (fun u t H1 locs ht hvm hr9 hB hz1 hk1 hS => ?_)
  obtain ⟨hP, hD, hC⟩ := hB
  rw [ht] at hP
  replace hD := hD.weaken (fun _ _ _ h => hFc _ h)
  generalize H1 = H at hP hS ⊢
  refine lv_iconst (pc := 8) (v := 0) hx hb dV_finish_8 (by decide) ?_
  refine lv_istore_n (pc := 9) hx hb dV_finish_9 rfl hl (by decide) rfl (fun ls hl => ?_)
  have hl : lv_has ls 3 [(2, .int 0), (0, .ref (ad 0 0)), (1, .int a1)] := hl
  obtain ⟨kx8, hkx8, hf⟩ := lt_9 hf
  refine lpF (τ := (hT) × (Int32) × (Int32) × (Heap) × (List Loc) × (Array Slot)) (fun pc z => W p l e _ s m _ below meth c z.2.2.2.1 z.2.2.2.2.1 0 0 _ (F0 m pc z.2.2.2.2.2 [])) 10 45 (fun z => va_P (dC, dI) kCl (w9 ad ca dom z.1) z.2.2.2.1 ∧ va_D A (w9 ad ca dom z.1) ∧ va_S A s.heap z.2.2.2.1 z.2.2.2.2.1 ∧ clo dom z.1.2.2 ∧ lv_has z.2.2.2.2.2 3 [(2, .int z.2.1), (0, .ref (ad 0 0)), (1, .int z.2.2.1)]) (fun k z => V_finish_L10 n kx8 k z.1 z.2.1 z.2.2.1) (fun z => kx8 z.1 z.2.1 z.2.2.1) _ (fun z => rfl) ?_ ?_ n (σ4, 0, a1, H, _, ls) ⟨hP, hD, hS, hC, hl⟩ hf
  · rintro k ⟨σ5, p6, p7, H, locs, ls⟩ ⟨hP, hD, hS, hC, hl⟩ hf ih9 hXkx8
    dsimp only at hP hD hS hC hl hf ih9 hXkx8 ⊢
    unfold V_finish_L10 at hf
    have hl : lv_has ls 3 [(2, .int p6), (0, .ref (ad 0 0)), (1, .int p7)] := hl
    refine lv_iload_n (pc := 10) hx hb dV_finish_10 rfl (lv_at hl 0 rfl) ?_
    refine lv_aload_n (pc := 11) hx hb dV_finish_11 rfl (lv_at hl 1 rfl) ?_
    obtain ⟨q10, hq10, eq10⟩ := at_0 (ad := ad) (ca := ca) (σ := σ5) hm0
    refine va_get (D := (dC, dI)) (cl := kCl) (C := RV) (T := TV) (N := 9) (pc := 12) hx hb hts inV hown hK.1 hP q10 eq10 rfl 2 (by decide) (hts _ wd_314) (fun _ h9 => h9) rfl dV_finish_12 ?_
    refine lv_icmp_ge (pc := 15) (tgt := 45) hx hb dV_finish_15 rfl (fun h11 => ?_) (fun h11 => ?_)
    · replace hf := ite_t h11 hf
      have hl := lv_sub hl (l' := [(2, .int p6), (0, .ref (ad 0 0)), (1, .int p7)]) [0, 1, 2] rfl
      exact hXkx8 (σ5, p6, p7, H, _, ls) ⟨hP, hD, hS, hC, hl⟩ hf
    · replace hf := ite_f h11 hf
      refine lv_aload_n (pc := 18) hx hb dV_finish_18 rfl (lv_at hl 1 rfl) ?_
      obtain ⟨q12, hq12, eq12⟩ := at_0 (ad := ad) (ca := ca) (σ := σ5) hm0
      refine va_get (D := (dC, dI)) (cl := kCl) (C := RV) (T := TV) (N := 9) (pc := 19) hx hb hts inV hown hK.1 hP q12 eq12 rfl 1 (by decide) (hts _ wd_315) (fun _ h9 => h9) rfl dV_finish_19 ?_
      refine lv_iload_n (pc := 22) hx hb dV_finish_22 rfl (lv_at hl 0 rfl) ?_
      obtain ⟨hv13, hf⟩ := ite_s hf
      obtain ⟨q14, hq14, eq14⟩ := at_9 (ad := ad) (ca := ca) (σ := σ5) (cm_0_1 hC hm0)
      refine va_aldq (D := (dC, dI)) (cl := kCl) (pc := 23) hx hb (hK.2 9 0 (.object "DrawingVault$Drawing") (cm_0_1 hC hm0) rfl) hP q14 0 eq14 rfl (hv13) dV_finish_23 ?_
      refine W.eq (g2 := F0 m 24 ls [va_re (ad 6) (xR σ5 9 0 (p6).toNatClampNeg)]) rfl ?_
      rcases hE15 : xR σ5 9 0 (p6).toNatClampNeg with _ | j16
      · replace hf := hq_n hE15 hf
        refine W.eq (g2 := F0 m 24 ls [.null]) rfl ?_
        exact nomatch hf
      · replace hf := hq_s hE15 hf
        have hm17 : (6, j16) ∈ dom := (cr_9 hC (cm_0_1 hC hm0) hE15)
        refine W.eq (g2 := F0 m 24 ls [.ref (ad 6 j16)]) rfl ?_
        obtain ⟨q18, hq18, eq18⟩ := at_6 (ad := ad) (ca := ca) (σ := σ5) hm17
        refine va_get (D := (dC, dI)) (cl := kCl) (C := RD) (T := TD) (N := 5) (pc := 24) hx hb hts inD hown hK.1 hP q18 eq18 rfl 4 (by decide) (hts _ wd_386) (fun _ h9 => h9) rfl dV_finish_24 ?_
        refine lv_aload_n (pc := 27) hx hb dV_finish_27 rfl (lv_at hl 1 rfl) ?_
        obtain ⟨q19, hq19, eq19⟩ := at_0 (ad := ad) (ca := ca) (σ := σ5) hm0
        refine va_get (D := (dC, dI)) (cl := kCl) (C := RV) (T := TV) (N := 9) (pc := 28) hx hb hts inV hown hK.1 hP q19 eq19 rfl 1 (by decide) (hts _ wd_315) (fun _ h9 => h9) rfl dV_finish_28 ?_
        refine lv_iload_n (pc := 31) hx hb dV_finish_31 rfl (lv_at hl 0 rfl) ?_
        obtain ⟨hv20, hf⟩ := ite_s hf
        obtain ⟨q21, hq21, eq21⟩ := at_9 (ad := ad) (ca := ca) (σ := σ5) (cm_0_1 hC hm0)
        refine va_aldq (D := (dC, dI)) (cl := kCl) (pc := 32) hx hb (hK.2 9 0 (.object "DrawingVault$Drawing") (cm_0_1 hC hm0) rfl) hP q21 0 eq21 rfl (hv20) dV_finish_32 ?_
        refine W.eq (g2 := F0 m 33 ls [va_re (ad 6) (xR σ5 9 0 (p6).toNatClampNeg), .ref (ad 5 (3 * j16 + 1))]) rfl ?_
        rcases hE22 : xR σ5 9 0 (p6).toNatClampNeg with _ | j23
        · replace hf := hq_n hE22 hf
          refine W.eq (g2 := F0 m 33 ls [.null, .ref (ad 5 (3 * j16 + 1))]) rfl ?_
          exact nomatch hf
        · replace hf := hq_s hE22 hf
          have hm24 : (6, j23) ∈ dom := (cr_9 hC (cm_0_1 hC hm0) hE22)
          refine W.eq (g2 := F0 m 33 ls [.ref (ad 6 j23), .ref (ad 5 (3 * j16 + 1))]) rfl ?_
          obtain ⟨q25, hq25, eq25⟩ := at_6 (ad := ad) (ca := ca) (σ := σ5) hm24
          refine va_get (D := (dC, dI)) (cl := kCl) (C := RD) (T := TD) (N := 5) (pc := 33) hx hb hts inD hown hK.1 hP q25 eq25 rfl 3 (by decide) (hts _ wd_368) (fun _ h9 => h9) rfl dV_finish_33 ?_
          obtain ⟨q26, hq26, eq26⟩ := at_5 (ad := ad) (ca := ca) (σ := σ5) (cm_6_4 hC hm17)
          obtain ⟨⟨y27, σ28⟩, hy27, hf⟩ := ob hf
          have hFc := w9_free hD hS hA
          refine va_callv (pc := 36) (va_runV (As := [.ref (ad 5 (3 * j23))]) (rest := []) ⟨hx, hb, hml, hown, hts⟩ (t_C_takeFrom l dC dI ad ca dom H.size σ5 (3 * j16 + 1) (3 * j23) (cm_6_4 hC hm17) (cm_6_3 hC hm24) hN hC y27 σ28 hy27) (cwV 1 hts (gV wd_387 wd_308 wd_309 wd_228 wd_306) rfl rfl rfl (by decide +kernel) ⟨Nat.le_of_ble_eq_true rfl, Nat.le_of_ble_eq_true rfl⟩) ⟨hW_blind, va_recv (q := (RC, TC, 5)) (q0 := q26) (ci := 5) hK.1 hP rfl eq26, hW_pre hP hK hD hG⟩ rfl rfl hl.1 rfl (lv_room (Nat.le_of_ble_eq_true rfl)) dV_finish_36 ⟨Nat.le_of_ble_eq_true rfl, Nat.le_of_ble_eq_true rfl⟩) hS (fun q _ h => hFc q h) hFc (fun u t H1 locs ht hvm hr9 hB hz1 hk1 hS => ?_)
          obtain ⟨hP, hD, hC⟩ := hB
          rw [ht] at hP
          replace hD := hD.weaken (fun _ _ _ h => hFc _ h)
          generalize H1 = H at hP hS ⊢
          refine lv_iinc (pc := 39) (v := (p6 + 1)) hx hb dV_finish_39 hl (k := 0) rfl (by rfl) (by decide) rfl (fun ls hl => ?_)
          have hl : lv_has ls 3 [(2, .int (p6 + 1)), (0, .ref (ad 0 0)), (1, .int p7)] := hl
          refine lv_goto (pc := 42) (tgt := 10) hx hb dV_finish_42 rfl ?_
          have hl := lv_sub hl (l' := [(2, .int (p6 + 1)), (0, .ref (ad 0 0)), (1, .int p7)]) [0, 1, 2] rfl
          exact ih9 (σ28, (p6 + 1), p7, H, _, ls) ⟨hP, hD, hS, hC, hl⟩ hf
  · rintro ⟨σ5, p6, p7, H, locs, ls⟩ ⟨hP, hD, hS, hC, hl⟩ hf
    dsimp only at hP hD hS hC hl hf ⊢
    rw [hkx8] at hf
    have hl : lv_has ls 3 [(2, .int p6), (0, .ref (ad 0 0)), (1, .int p7)] := hl
    refine lv_aload_n (pc := 45) hx hb dV_finish_45 rfl (lv_at hl 1 rfl) ?_
    obtain ⟨q29, hq29, eq29⟩ := at_0 (ad := ad) (ca := ca) (σ := σ5) hm0
    refine va_get (D := (dC, dI)) (cl := kCl) (C := RV) (T := TV) (N := 9) (pc := 46) hx hb hts inV hown hK.1 hP q29 eq29 rfl 7 (by decide) (hts _ wd_380) (fun _ h9 => h9) rfl dV_finish_46 ?_
    obtain ⟨q30, hq30, eq30⟩ := at_3 (ad := ad) (ca := ca) (σ := σ5) (cm_0_7 hC hm0)
    refine vp_callSi (pc := 49) (W.runV (As := []) (rest := []) ⟨hx, hb, hml, hown, hts⟩ (t_P_areLow l dC dI ad ca dom σ5 (cm_0_7 hC hm0) hN hC (P_areLow σ5) rfl) (cwV 0 hts (gV wd_389 wd_390 wd_391 wd_385 wd_388) rfl rfl rfl (by decide +kernel) ⟨Nat.le_of_ble_eq_true rfl, Nat.le_of_ble_eq_true rfl⟩) ⟨hR_blind, va_recv (q := (RP, TP, 6)) (q0 := q30) (ci := 3) hK.1 hP rfl eq30, hR_pre hP hK hG⟩ rfl rfl hl.1 rfl (lv_room (Nat.le_of_ble_eq_true rfl)) dV_finish_49 ⟨Nat.le_of_ble_eq_true rfl, Nat.le_of_ble_eq_true rfl⟩) (fun r9 hr9 => ?_)
    refine W.eq (g2 := F0 m 52 ls [.int (P_areLow σ5)]) (by rw [hr9]) ?_
    refine lv_if_eq (pc := 52) (tgt := 66) hx hb dV_finish_52 rfl (fun h31 => ?_) (fun h31 => ?_)
    · replace hf := ite_t h31 hf
      obtain ⟨h8, h9⟩ := Prod.mk.inj (Option.some.inj hf)
      subst h9
      exact W.vret (pc := 66) hx hb hr (fun t ht hW => ⟨⟨(), rfl, trivial, by rw [ht]; exact hP, hD, hC⟩, hS.F ht⟩) hS.2.2 dV_finish_66
    · replace hf := ite_f h31 hf
      refine lv_aload_n (pc := 55) hx hb dV_finish_55 rfl (lv_at hl 1 rfl) ?_
      obtain ⟨q32, hq32, eq32⟩ := at_0 (ad := ad) (ca := ca) (σ := σ5) hm0
      refine va_get (D := (dC, dI)) (cl := kCl) (C := RV) (T := TV) (N := 9) (pc := 56) hx hb hts inV hown hK.1 hP q32 eq32 rfl 7 (by decide) (hts _ wd_380) (fun _ h9 => h9) rfl dV_finish_56 ?_
      refine lv_aload_n (pc := 59) hx hb dV_finish_59 rfl (lv_at hl 1 rfl) ?_
      obtain ⟨q33, hq33, eq33⟩ := at_0 (ad := ad) (ca := ca) (σ := σ5) hm0
      obtain ⟨⟨y34, σ35⟩, hy34, hf⟩ := ob hf
      have hFc := w9_free hD hS hA
      refine va_calli (pc := 60) (va_runV (As := []) (rest := [.ref (ad 3 0)]) ⟨hx, hb, hml, hown, hts⟩ (t_V_pagesOfTheSame l dC dI ad ca dom H.size n σ5 hm0 hN hC y34 σ35 hy34) (cwV 0 hts (gV wd_393 wd_394 wd_395 wd_254 wd_392) rfl rfl rfl (by decide +kernel) ⟨Nat.le_of_ble_eq_true rfl, Nat.le_of_ble_eq_true rfl⟩) ⟨hW_blind, va_recv (q := (RV, TV, 9)) (q0 := q33) (ci := 0) hK.1 hP rfl eq33, hW_pre hP hK hD hG⟩ rfl rfl hl.1 rfl (lv_room (Nat.le_of_ble_eq_true rfl)) dV_finish_60 ⟨Nat.le_of_ble_eq_true rfl, Nat.le_of_ble_eq_true rfl⟩) hS (fun q _ h => hFc q h) hFc (fun r9 u t H1 locs ht hvm hr9 hB hz1 hk1 hS => ?_)
      obtain ⟨hP, hD, hC⟩ := hB
      rw [ht] at hP
      replace hD := hD.weaken (fun _ _ _ h => hFc _ h)
      generalize H1 = H at hP hS ⊢
      refine W.eq (g2 := F0 m 63 ls [.int y34, .ref (ad 3 0)]) (by rw [hr9]) ?_
      obtain ⟨q36, hq36, eq36⟩ := at_3 (ad := ad) (ca := ca) (σ := σ35) (cm_0_7 hC hm0)
      obtain ⟨⟨y37, σ38⟩, hy37, hf⟩ := ob hf
      have hFc := w9_free hD hS hA
      refine va_callv (pc := 63) (va_runV (As := [.int y34]) (rest := []) ⟨hx, hb, hml, hown, hts⟩ (t_P_copyForward l dC dI ad ca dom H.size σ35 y34 (cm_0_7 hC hm0) hN hC y37 σ38 hy37) (cwV 1 hts (gV wd_397 wd_398 wd_399 wd_385 wd_396) rfl rfl rfl (by decide +kernel) ⟨Nat.le_of_ble_eq_true rfl, Nat.le_of_ble_eq_true rfl⟩) ⟨hW_blind, va_recv (q := (RP, TP, 6)) (q0 := q36) (ci := 3) hK.1 hP rfl eq36, hW_pre hP hK hD hG⟩ rfl rfl hl.1 rfl (lv_room (Nat.le_of_ble_eq_true rfl)) dV_finish_63 ⟨Nat.le_of_ble_eq_true rfl, Nat.le_of_ble_eq_true rfl⟩) hS (fun q _ h => hFc q h) hFc (fun u t H1 locs ht hvm hr9 hB hz1 hk1 hS => ?_)
      obtain ⟨hP, hD, hC⟩ := hB
      rw [ht] at hP
      replace hD := hD.weaken (fun _ _ _ h => hFc _ h)
      generalize H1 = H at hP hS ⊢
      obtain ⟨h8, h9⟩ := Prod.mk.inj (Option.some.inj hf)
      subst h9
      exact W.vret (pc := 66) hx hb hr (fun t ht hW => ⟨⟨(), rfl, trivial, by rw [ht]; exact hP, hD, hC⟩, hS.F ht⟩) hS.2.2 dV_finish_66
def V_drawingRefusal (σ : hT) (a1 : Int32) : Option (Int32) := Option.bind (V_hasRight σ a1 1) fun y2 => if y2 = 0 then some 1 else lt9 (α := Int32 → Option (Int32)) (fun (s6 : Int32) => if s6 = 0 then some 0 else some 8) fun x5 => if 24 ≤ (xI σ 102 0 0) then x5 1 else if (xI σ 103 0 0) < 100 then x5 0 else x5 1
set_option maxHeartbeats 4000000 in
set_option maxRecDepth 100000 in
theorem t_V_drawingRefusal (l : Launch) (dC : Nat → ClassId) (dI : Nat → Nat → Nat) (ad : Nat → Nat → Nat) (ca : Nat → Nat → ClassId) (dom : List (Nat × Nat)) (σ : hT) (a1 : Int32) (hm0 : (0, 0) ∈ dom) (hN : dom.Nodup) (hC : clo dom σ.2.2) (ρ : Int32) (hf : V_drawingRefusal σ a1 = some ρ) : Met l yV_drawingRefusal (.code yV_drawingRefusal cV_drawingRefusal 3 (some .int) :: aw) ({ frames := 2, cells := 0, slots := 0, locals := 42 }) (hR (dC, dI) ad ca dom σ [.ref (ad 0 0), .int a1]) (vp_Si (fun r => r = ρ)) 0 0 (fun _ => False) := by
  refine Met.ofW (cc := cV_drawingRefusal) (maxL := 3) (ret := (some .int)) (by decide) rfl ?_
  intro p e s m args below meth c s₁ B hml hv
  obtain ⟨rfl, hv⟩ := hv
  have hx := B.exec
  have hb := B.bytes
  have hr := B.returns
  have hts : ∀ w ∈ aw, w.before _ s = true := fun w h => atoms_spec (ws := (.code yV_drawingRefusal cV_drawingRefusal 3 (some .int) :: aw)) B.pre w (List.mem_cons_of_mem _ h)
  have hown : s.vm.findClass RV = some m.cls := findClass_of_methodNamed B.named
  have hlocks := B.notSynchronized
  obtain ⟨hP, hK, hG⟩ := hv
  obtain ⟨H, hH⟩ : ∃ H, H = s.heap := ⟨_, rfl⟩
  rw [← hH] at hP ⊢
  unfold V_drawingRefusal at hf
  have hl := lv_entry ([.ref (ad 0 0), .int a1]) (n := 3) (Nat.le_of_ble_eq_true rfl)
  rw [lg_entry_eq]
  generalize (lg_sl ([.ref (ad 0 0), .int a1]) ++ List.replicate (3 - (lg_sl ([.ref (ad 0 0), .int a1])).length) Slot.unset).toArray = ls at hl ⊢
  have hl : lv_has ls 3 [(0, .ref (ad 0 0)), (1, .int a1)] := hl
  refine lv_aload_n (pc := 0) hx hb dV_drawingRefusal_0 rfl (lv_at hl 0 rfl) ?_
  refine lv_iload_n (pc := 1) hx hb dV_drawingRefusal_1 rfl (lv_at hl 1 rfl) ?_
  refine lv_iconst (pc := 2) (v := 1) hx hb dV_drawingRefusal_2 (by decide) ?_
  obtain ⟨q1, hq1, eq1⟩ := at_0 (ad := ad) (ca := ca) (σ := σ) hm0
  obtain ⟨y2, hy2, hf⟩ := ob hf
  refine vp_callSi (pc := 3) (W.runV (As := [.int a1, .int 1]) (rest := []) ⟨hx, hb, hml, hown, hts⟩ (t_V_hasRight l dC dI ad ca dom σ a1 1 hm0 hN hC y2 hy2) (cwV 2 hts (gV wd_401 wd_402 wd_403 wd_254 wd_400) rfl rfl rfl (by decide +kernel) ⟨Nat.le_of_ble_eq_true rfl, Nat.le_of_ble_eq_true rfl⟩) ⟨hR_blind, va_recv (q := (RV, TV, 9)) (q0 := q1) (ci := 0) hK.1 hP rfl eq1, hR_pre hP hK hG⟩ rfl rfl hl.1 rfl (lv_room (Nat.le_of_ble_eq_true rfl)) dV_drawingRefusal_3 ⟨Nat.le_of_ble_eq_true rfl, Nat.le_of_ble_eq_true rfl⟩) (fun r9 hr9 => ?_)
  refine W.eq (g2 := F0 m 6 ls [.int y2]) (by rw [hr9]) ?_
  refine lv_if_ne (pc := 6) (tgt := 11) hx hb dV_drawingRefusal_6 rfl (fun h3 => ?_) (fun h3 => ?_)
  · replace hf := ite_f h3 hf
    refine lv_aload_n (pc := 11) hx hb dV_drawingRefusal_11 rfl (lv_at hl 0 rfl) ?_
    obtain ⟨q4, hq4, eq4⟩ := at_0 (ad := ad) (ca := ca) (σ := σ) hm0
    refine va_get (D := (dC, dI)) (cl := kCl) (C := RV) (T := TV) (N := 9) (pc := 12) hx hb hts inV hown hK.1 hP q4 eq4 rfl 2 (by decide) (hts _ wd_314) (fun _ h9 => h9) rfl dV_drawingRefusal_12 ?_
    refine lv_bipush (pc := 15) (v := 24) hx hb dV_drawingRefusal_15 (by decide) ?_
    obtain ⟨x5, hx5, hf⟩ := lt_9 hf
    refine jnF (τ := (Int32) × (Array Slot)) (fun pc st z => W p l e _ s m _ below meth c H ([]) 0 0 _ (F0 m pc z.2 st)) (pc0 := 17) (st0 := [.int 24, .int (xI σ 102 0 0)]) (z0 := (0, ls)) 34 (fun z => [.int z.1]) (fun z => lv_has z.2 3 [(0, .ref (ad 0 0)), (1, .int a1)]) (fun z => x5 z.1) ρ ?_ ?_
    · intro hJx5
      dsimp only at hJx5 ⊢
      refine lv_icmp_ge (pc := 17) (tgt := 29) hx hb dV_drawingRefusal_17 rfl (fun h7 => ?_) (fun h7 => ?_)
      · replace hf := ite_t h7 hf
        refine lv_iconst (pc := 29) (v := 1) hx hb dV_drawingRefusal_29 (by decide) ?_
        refine lv_goto (pc := 30) (tgt := 34) hx hb dV_drawingRefusal_30 rfl ?_
        have hl := lv_sub hl (l' := [(0, .ref (ad 0 0)), (1, .int a1)]) [0, 1] rfl
        exact hJx5 (1, ls) hl hf
      · replace hf := ite_f h7 hf
        refine lv_aload_n (pc := 20) hx hb dV_drawingRefusal_20 rfl (lv_at hl 0 rfl) ?_
        obtain ⟨q8, hq8, eq8⟩ := at_0 (ad := ad) (ca := ca) (σ := σ) hm0
        refine va_get (D := (dC, dI)) (cl := kCl) (C := RV) (T := TV) (N := 9) (pc := 21) hx hb hts inV hown hK.1 hP q8 eq8 rfl 3 (by decide) (hts _ wd_369) (fun _ h9 => h9) rfl dV_drawingRefusal_21 ?_
        refine lv_bipush (pc := 24) (v := 100) hx hb dV_drawingRefusal_24 (by decide) ?_
        refine lv_icmp_lt (pc := 26) (tgt := 33) hx hb dV_drawingRefusal_26 rfl (fun h9 => ?_) (fun h9 => ?_)
        · replace hf := ite_t h9 hf
          refine lv_iconst (pc := 33) (v := 0) hx hb dV_drawingRefusal_33 (by decide) ?_
          have hl := lv_sub hl (l' := [(0, .ref (ad 0 0)), (1, .int a1)]) [0, 1] rfl
          exact hJx5 (0, ls) hl hf
        · replace hf := ite_f h9 hf
          refine lv_iconst (pc := 29) (v := 1) hx hb dV_drawingRefusal_29 (by decide) ?_
          refine lv_goto (pc := 30) (tgt := 34) hx hb dV_drawingRefusal_30 rfl ?_
          have hl := lv_sub hl (l' := [(0, .ref (ad 0 0)), (1, .int a1)]) [0, 1] rfl
          exact hJx5 (1, ls) hl hf
    · rintro ⟨s6, ls⟩ hl hf
      dsimp only at hl hf ⊢
      rw [hx5] at hf
      have hl : lv_has ls 3 [(0, .ref (ad 0 0)), (1, .int a1)] := hl
      refine lv_istore_n (pc := 34) hx hb dV_drawingRefusal_34 rfl hl (by decide) rfl (fun ls hl => ?_)
      have hl : lv_has ls 3 [(2, .int s6), (0, .ref (ad 0 0)), (1, .int a1)] := hl
      refine lv_iload_n (pc := 35) hx hb dV_drawingRefusal_35 rfl (lv_at hl 0 rfl) ?_
      refine lv_if_eq (pc := 36) (tgt := 44) hx hb dV_drawingRefusal_36 rfl (fun h10 => ?_) (fun h10 => ?_)
      · replace hf := ite_t h10 hf
        refine lv_iconst (pc := 44) (v := 0) hx hb dV_drawingRefusal_44 (by decide) ?_
        exact W.iret (pc := 45) hx hb hr (fun t ht hW => ⟨_, rfl, (Option.some.inj hf), ht.trans hH⟩) (fun q h => nomatch h) dV_drawingRefusal_45
      · replace hf := ite_f h10 hf
        refine lv_bipush (pc := 39) (v := 8) hx hb dV_drawingRefusal_39 (by decide) ?_
        refine lv_goto (pc := 41) (tgt := 45) hx hb dV_drawingRefusal_41 rfl ?_
        exact W.iret (pc := 45) hx hb hr (fun t ht hW => ⟨_, rfl, (Option.some.inj hf), ht.trans hH⟩) (fun q h => nomatch h) dV_drawingRefusal_45
  · replace hf := ite_t h3 hf
    refine lv_iconst (pc := 9) (v := 1) hx hb dV_drawingRefusal_9 (by decide) ?_
    exact W.iret (pc := 10) hx hb hr (fun t ht hW => ⟨_, rfl, (Option.some.inj hf), ht.trans hH⟩) (fun q h => nomatch h) dV_drawingRefusal_10
def V_outRefusal (σ : hT) (o1 : Option Nat) (a2 : Int32) : Option (Int32) := hq o1 (Option.bind (V_hasRight σ a2 7) fun y4 => if y4 = 0 then some 1 else some 7) fun j2 => Option.bind (V_hasRight σ a2 7) fun y7 => if y7 = 0 then some 1 else if (xI σ 702 j2 0) = (-1) then some 0 else some 2
set_option maxHeartbeats 4000000 in
set_option maxRecDepth 100000 in
theorem t_V_outRefusal (l : Launch) (dC : Nat → ClassId) (dI : Nat → Nat → Nat) (ad : Nat → Nat → Nat) (ca : Nat → Nat → ClassId) (dom : List (Nat × Nat)) (σ : hT) (o1 : Option Nat) (a2 : Int32) (hm0 : (0, 0) ∈ dom) (hm1 : ∀ j, o1 = some j → (6, j) ∈ dom) (hN : dom.Nodup) (hC : clo dom σ.2.2) (ρ : Int32) (hf : V_outRefusal σ o1 a2 = some ρ) : Met l yV_outRefusal (.code yV_outRefusal cV_outRefusal 3 (some .int) :: aw) ({ frames := 2, cells := 0, slots := 0, locals := 42 }) (hR (dC, dI) ad ca dom σ [.ref (ad 0 0), (va_re (ad 6) o1), .int a2]) (vp_Si (fun r => r = ρ)) 0 0 (fun _ => False) := by
  refine Met.ofW (cc := cV_outRefusal) (maxL := 3) (ret := (some .int)) (by decide) rfl ?_
  intro p e s m args below meth c s₁ B hml hv
  obtain ⟨rfl, hv⟩ := hv
  have hx := B.exec
  have hb := B.bytes
  have hr := B.returns
  have hts : ∀ w ∈ aw, w.before _ s = true := fun w h => atoms_spec (ws := (.code yV_outRefusal cV_outRefusal 3 (some .int) :: aw)) B.pre w (List.mem_cons_of_mem _ h)
  have hown : s.vm.findClass RV = some m.cls := findClass_of_methodNamed B.named
  have hlocks := B.notSynchronized
  obtain ⟨hP, hK, hG⟩ := hv
  obtain ⟨H, hH⟩ : ∃ H, H = s.heap := ⟨_, rfl⟩
  rw [← hH] at hP ⊢
  unfold V_outRefusal at hf
  rcases hE1 : o1 with _ | j2
  · replace hf := hq_n hE1 hf
    rw [hE1] at hts
    have hl := lv_entry ([.ref (ad 0 0), (va_re (ad 6) none), .int a2]) (n := 3) (Nat.le_of_ble_eq_true rfl)
    rw [lg_entry_eq]
    generalize (lg_sl ([.ref (ad 0 0), (va_re (ad 6) none), .int a2]) ++ List.replicate (3 - (lg_sl ([.ref (ad 0 0), (va_re (ad 6) none), .int a2])).length) Slot.unset).toArray = ls at hl ⊢
    have hl : lv_has ls 3 [(0, .ref (ad 0 0)), (1, .null), (2, .int a2)] := hl
    refine lv_aload_n (pc := 0) hx hb dV_outRefusal_0 rfl (lv_at hl 0 rfl) ?_
    refine lv_iload_n (pc := 1) hx hb dV_outRefusal_1 rfl (lv_at hl 2 rfl) ?_
    refine lv_bipush (pc := 2) (v := 7) hx hb dV_outRefusal_2 (by decide) ?_
    obtain ⟨q3, hq3, eq3⟩ := at_0 (ad := ad) (ca := ca) (σ := σ) hm0
    obtain ⟨y4, hy4, hf⟩ := ob hf
    refine vp_callSi (pc := 4) (W.runV (As := [.int a2, .int 7]) (rest := []) ⟨hx, hb, hml, hown, hts⟩ (t_V_hasRight l dC dI ad ca dom σ a2 7 hm0 hN hC y4 hy4) (cwV 2 hts (gV wd_401 wd_402 wd_403 wd_254 wd_400) rfl rfl rfl (by decide +kernel) ⟨Nat.le_of_ble_eq_true rfl, Nat.le_of_ble_eq_true rfl⟩) ⟨hR_blind, va_recv (q := (RV, TV, 9)) (q0 := q3) (ci := 0) hK.1 hP rfl eq3, hR_pre hP hK hG⟩ rfl rfl hl.1 rfl (lv_room (Nat.le_of_ble_eq_true rfl)) dV_outRefusal_4 ⟨Nat.le_of_ble_eq_true rfl, Nat.le_of_ble_eq_true rfl⟩) (fun r9 hr9 => ?_)
    refine W.eq (g2 := F0 m 7 ls [.int y4]) (by rw [hr9]) ?_
    refine lv_if_ne (pc := 7) (tgt := 12) hx hb dV_outRefusal_7 rfl (fun h5 => ?_) (fun h5 => ?_)
    · replace hf := ite_f h5 hf
      refine lv_aload_nN (pc := 12) hx hb dV_outRefusal_12 rfl (lv_at hl 1 rfl) ?_
      refine lv_ifnonnullN (pc := 13) hx hb dV_outRefusal_13 ?_
      refine lv_bipush (pc := 16) (v := 7) hx hb dV_outRefusal_16 (by decide) ?_
      exact W.iret (pc := 18) hx hb hr (fun t ht hW => ⟨_, rfl, (Option.some.inj hf), ht.trans hH⟩) (fun q h => nomatch h) dV_outRefusal_18
    · replace hf := ite_t h5 hf
      refine lv_iconst (pc := 10) (v := 1) hx hb dV_outRefusal_10 (by decide) ?_
      exact W.iret (pc := 11) hx hb hr (fun t ht hW => ⟨_, rfl, (Option.some.inj hf), ht.trans hH⟩) (fun q h => nomatch h) dV_outRefusal_11
  · replace hf := hq_s hE1 hf
    rw [hE1] at hts
    have hl := lv_entry ([.ref (ad 0 0), (va_re (ad 6) (some j2)), .int a2]) (n := 3) (Nat.le_of_ble_eq_true rfl)
    rw [lg_entry_eq]
    generalize (lg_sl ([.ref (ad 0 0), (va_re (ad 6) (some j2)), .int a2]) ++ List.replicate (3 - (lg_sl ([.ref (ad 0 0), (va_re (ad 6) (some j2)), .int a2])).length) Slot.unset).toArray = ls at hl ⊢
    have hl : lv_has ls 3 [(0, .ref (ad 0 0)), (1, .ref (ad 6 j2)), (2, .int a2)] := hl
    refine lv_aload_n (pc := 0) hx hb dV_outRefusal_0 rfl (lv_at hl 0 rfl) ?_
    refine lv_iload_n (pc := 1) hx hb dV_outRefusal_1 rfl (lv_at hl 2 rfl) ?_
    refine lv_bipush (pc := 2) (v := 7) hx hb dV_outRefusal_2 (by decide) ?_
    obtain ⟨q6, hq6, eq6⟩ := at_0 (ad := ad) (ca := ca) (σ := σ) hm0
    obtain ⟨y7, hy7, hf⟩ := ob hf
    refine vp_callSi (pc := 4) (W.runV (As := [.int a2, .int 7]) (rest := []) ⟨hx, hb, hml, hown, hts⟩ (t_V_hasRight l dC dI ad ca dom σ a2 7 hm0 hN hC y7 hy7) (cwV 2 hts (gV wd_401 wd_402 wd_403 wd_254 wd_400) rfl rfl rfl (by decide +kernel) ⟨Nat.le_of_ble_eq_true rfl, Nat.le_of_ble_eq_true rfl⟩) ⟨hR_blind, va_recv (q := (RV, TV, 9)) (q0 := q6) (ci := 0) hK.1 hP rfl eq6, hR_pre hP hK hG⟩ rfl rfl hl.1 rfl (lv_room (Nat.le_of_ble_eq_true rfl)) dV_outRefusal_4 ⟨Nat.le_of_ble_eq_true rfl, Nat.le_of_ble_eq_true rfl⟩) (fun r9 hr9 => ?_)
    refine W.eq (g2 := F0 m 7 ls [.int y7]) (by rw [hr9]) ?_
    refine lv_if_ne (pc := 7) (tgt := 12) hx hb dV_outRefusal_7 rfl (fun h8 => ?_) (fun h8 => ?_)
    · replace hf := ite_f h8 hf
      refine lv_aload_n (pc := 12) hx hb dV_outRefusal_12 rfl (lv_at hl 1 rfl) ?_
      refine lv_ifnonnull (pc := 13) (tgt := 19) hx hb dV_outRefusal_13 rfl ?_
      refine lv_aload_n (pc := 19) hx hb dV_outRefusal_19 rfl (lv_at hl 1 rfl) ?_
      obtain ⟨q9, hq9, eq9⟩ := at_6 (ad := ad) (ca := ca) (σ := σ) (hm1 _ hE1)
      refine va_get (D := (dC, dI)) (cl := kCl) (C := RD) (T := TD) (N := 5) (pc := 20) hx hb hts inD hown hK.1 hP q9 eq9 rfl 2 (by decide) (hts _ wd_359) (fun _ h9 => h9) rfl dV_outRefusal_20 ?_
      refine lv_iconst (pc := 23) (v := (-1)) hx hb dV_outRefusal_23 (by decide) ?_
      refine lv_icmp_ne (pc := 24) (tgt := 31) hx hb dV_outRefusal_24 rfl (fun h10 => ?_) (fun h10 => ?_)
      · replace hf := ite_f h10 hf
        refine lv_iconst (pc := 31) (v := 2) hx hb dV_outRefusal_31 (by decide) ?_
        exact W.iret (pc := 32) hx hb hr (fun t ht hW => ⟨_, rfl, (Option.some.inj hf), ht.trans hH⟩) (fun q h => nomatch h) dV_outRefusal_32
      · replace hf := ite_t h10 hf
        refine lv_iconst (pc := 27) (v := 0) hx hb dV_outRefusal_27 (by decide) ?_
        refine lv_goto (pc := 28) (tgt := 32) hx hb dV_outRefusal_28 rfl ?_
        exact W.iret (pc := 32) hx hb hr (fun t ht hW => ⟨_, rfl, (Option.some.inj hf), ht.trans hH⟩) (fun q h => nomatch h) dV_outRefusal_32
    · replace hf := ite_t h8 hf
      refine lv_iconst (pc := 10) (v := 1) hx hb dV_outRefusal_10 (by decide) ?_
      exact W.iret (pc := 11) hx hb hr (fun t ht hW => ⟨_, rfl, (Option.some.inj hf), ht.trans hH⟩) (fun q h => nomatch h) dV_outRefusal_11
def V_copyRefusal (σ : hT) (o1 : Option Nat) (a2 : Int32) : Option (Int32) := hq o1 (Option.bind (V_hasRight σ a2 7) fun y4 => if y4 = 0 then some 1 else some 7) fun j2 => Option.bind (V_hasRight σ a2 7) fun y7 => if y7 = 0 then some 1 else if (xI σ 702 j2 0) = a2 then some 0 else some 2
set_option maxHeartbeats 4000000 in
set_option maxRecDepth 100000 in
theorem t_V_copyRefusal (l : Launch) (dC : Nat → ClassId) (dI : Nat → Nat → Nat) (ad : Nat → Nat → Nat) (ca : Nat → Nat → ClassId) (dom : List (Nat × Nat)) (σ : hT) (o1 : Option Nat) (a2 : Int32) (hm0 : (0, 0) ∈ dom) (hm1 : ∀ j, o1 = some j → (6, j) ∈ dom) (hN : dom.Nodup) (hC : clo dom σ.2.2) (ρ : Int32) (hf : V_copyRefusal σ o1 a2 = some ρ) : Met l yV_copyRefusal (.code yV_copyRefusal cV_copyRefusal 3 (some .int) :: aw) ({ frames := 2, cells := 0, slots := 0, locals := 42 }) (hR (dC, dI) ad ca dom σ [.ref (ad 0 0), (va_re (ad 6) o1), .int a2]) (vp_Si (fun r => r = ρ)) 0 0 (fun _ => False) := by
  refine Met.ofW (cc := cV_copyRefusal) (maxL := 3) (ret := (some .int)) (by decide) rfl ?_
  intro p e s m args below meth c s₁ B hml hv
  obtain ⟨rfl, hv⟩ := hv
  have hx := B.exec
  have hb := B.bytes
  have hr := B.returns
  have hts : ∀ w ∈ aw, w.before _ s = true := fun w h => atoms_spec (ws := (.code yV_copyRefusal cV_copyRefusal 3 (some .int) :: aw)) B.pre w (List.mem_cons_of_mem _ h)
  have hown : s.vm.findClass RV = some m.cls := findClass_of_methodNamed B.named
  have hlocks := B.notSynchronized
  obtain ⟨hP, hK, hG⟩ := hv
  obtain ⟨H, hH⟩ : ∃ H, H = s.heap := ⟨_, rfl⟩
  rw [← hH] at hP ⊢
  unfold V_copyRefusal at hf
  rcases hE1 : o1 with _ | j2
  · replace hf := hq_n hE1 hf
    rw [hE1] at hts
    have hl := lv_entry ([.ref (ad 0 0), (va_re (ad 6) none), .int a2]) (n := 3) (Nat.le_of_ble_eq_true rfl)
    rw [lg_entry_eq]
    generalize (lg_sl ([.ref (ad 0 0), (va_re (ad 6) none), .int a2]) ++ List.replicate (3 - (lg_sl ([.ref (ad 0 0), (va_re (ad 6) none), .int a2])).length) Slot.unset).toArray = ls at hl ⊢
    have hl : lv_has ls 3 [(0, .ref (ad 0 0)), (1, .null), (2, .int a2)] := hl
    refine lv_aload_n (pc := 0) hx hb dV_copyRefusal_0 rfl (lv_at hl 0 rfl) ?_
    refine lv_iload_n (pc := 1) hx hb dV_copyRefusal_1 rfl (lv_at hl 2 rfl) ?_
    refine lv_bipush (pc := 2) (v := 7) hx hb dV_copyRefusal_2 (by decide) ?_
    obtain ⟨q3, hq3, eq3⟩ := at_0 (ad := ad) (ca := ca) (σ := σ) hm0
    obtain ⟨y4, hy4, hf⟩ := ob hf
    refine vp_callSi (pc := 4) (W.runV (As := [.int a2, .int 7]) (rest := []) ⟨hx, hb, hml, hown, hts⟩ (t_V_hasRight l dC dI ad ca dom σ a2 7 hm0 hN hC y4 hy4) (cwV 2 hts (gV wd_401 wd_402 wd_403 wd_254 wd_400) rfl rfl rfl (by decide +kernel) ⟨Nat.le_of_ble_eq_true rfl, Nat.le_of_ble_eq_true rfl⟩) ⟨hR_blind, va_recv (q := (RV, TV, 9)) (q0 := q3) (ci := 0) hK.1 hP rfl eq3, hR_pre hP hK hG⟩ rfl rfl hl.1 rfl (lv_room (Nat.le_of_ble_eq_true rfl)) dV_copyRefusal_4 ⟨Nat.le_of_ble_eq_true rfl, Nat.le_of_ble_eq_true rfl⟩) (fun r9 hr9 => ?_)
    refine W.eq (g2 := F0 m 7 ls [.int y4]) (by rw [hr9]) ?_
    refine lv_if_ne (pc := 7) (tgt := 12) hx hb dV_copyRefusal_7 rfl (fun h5 => ?_) (fun h5 => ?_)
    · replace hf := ite_f h5 hf
      refine lv_aload_nN (pc := 12) hx hb dV_copyRefusal_12 rfl (lv_at hl 1 rfl) ?_
      refine lv_ifnonnullN (pc := 13) hx hb dV_copyRefusal_13 ?_
      refine lv_bipush (pc := 16) (v := 7) hx hb dV_copyRefusal_16 (by decide) ?_
      exact W.iret (pc := 18) hx hb hr (fun t ht hW => ⟨_, rfl, (Option.some.inj hf), ht.trans hH⟩) (fun q h => nomatch h) dV_copyRefusal_18
    · replace hf := ite_t h5 hf
      refine lv_iconst (pc := 10) (v := 1) hx hb dV_copyRefusal_10 (by decide) ?_
      exact W.iret (pc := 11) hx hb hr (fun t ht hW => ⟨_, rfl, (Option.some.inj hf), ht.trans hH⟩) (fun q h => nomatch h) dV_copyRefusal_11
  · replace hf := hq_s hE1 hf
    rw [hE1] at hts
    have hl := lv_entry ([.ref (ad 0 0), (va_re (ad 6) (some j2)), .int a2]) (n := 3) (Nat.le_of_ble_eq_true rfl)
    rw [lg_entry_eq]
    generalize (lg_sl ([.ref (ad 0 0), (va_re (ad 6) (some j2)), .int a2]) ++ List.replicate (3 - (lg_sl ([.ref (ad 0 0), (va_re (ad 6) (some j2)), .int a2])).length) Slot.unset).toArray = ls at hl ⊢
    have hl : lv_has ls 3 [(0, .ref (ad 0 0)), (1, .ref (ad 6 j2)), (2, .int a2)] := hl
    refine lv_aload_n (pc := 0) hx hb dV_copyRefusal_0 rfl (lv_at hl 0 rfl) ?_
    refine lv_iload_n (pc := 1) hx hb dV_copyRefusal_1 rfl (lv_at hl 2 rfl) ?_
    refine lv_bipush (pc := 2) (v := 7) hx hb dV_copyRefusal_2 (by decide) ?_
    obtain ⟨q6, hq6, eq6⟩ := at_0 (ad := ad) (ca := ca) (σ := σ) hm0
    obtain ⟨y7, hy7, hf⟩ := ob hf
    refine vp_callSi (pc := 4) (W.runV (As := [.int a2, .int 7]) (rest := []) ⟨hx, hb, hml, hown, hts⟩ (t_V_hasRight l dC dI ad ca dom σ a2 7 hm0 hN hC y7 hy7) (cwV 2 hts (gV wd_401 wd_402 wd_403 wd_254 wd_400) rfl rfl rfl (by decide +kernel) ⟨Nat.le_of_ble_eq_true rfl, Nat.le_of_ble_eq_true rfl⟩) ⟨hR_blind, va_recv (q := (RV, TV, 9)) (q0 := q6) (ci := 0) hK.1 hP rfl eq6, hR_pre hP hK hG⟩ rfl rfl hl.1 rfl (lv_room (Nat.le_of_ble_eq_true rfl)) dV_copyRefusal_4 ⟨Nat.le_of_ble_eq_true rfl, Nat.le_of_ble_eq_true rfl⟩) (fun r9 hr9 => ?_)
    refine W.eq (g2 := F0 m 7 ls [.int y7]) (by rw [hr9]) ?_
    refine lv_if_ne (pc := 7) (tgt := 12) hx hb dV_copyRefusal_7 rfl (fun h8 => ?_) (fun h8 => ?_)
    · replace hf := ite_f h8 hf
      refine lv_aload_n (pc := 12) hx hb dV_copyRefusal_12 rfl (lv_at hl 1 rfl) ?_
      refine lv_ifnonnull (pc := 13) (tgt := 19) hx hb dV_copyRefusal_13 rfl ?_
      refine lv_aload_n (pc := 19) hx hb dV_copyRefusal_19 rfl (lv_at hl 1 rfl) ?_
      obtain ⟨q9, hq9, eq9⟩ := at_6 (ad := ad) (ca := ca) (σ := σ) (hm1 _ hE1)
      refine va_get (D := (dC, dI)) (cl := kCl) (C := RD) (T := TD) (N := 5) (pc := 20) hx hb hts inD hown hK.1 hP q9 eq9 rfl 2 (by decide) (hts _ wd_359) (fun _ h9 => h9) rfl dV_copyRefusal_20 ?_
      refine lv_iload_n (pc := 23) hx hb dV_copyRefusal_23 rfl (lv_at hl 2 rfl) ?_
      refine lv_icmp_ne (pc := 24) (tgt := 31) hx hb dV_copyRefusal_24 rfl (fun h10 => ?_) (fun h10 => ?_)
      · replace hf := ite_f h10 hf
        refine lv_iconst (pc := 31) (v := 2) hx hb dV_copyRefusal_31 (by decide) ?_
        exact W.iret (pc := 32) hx hb hr (fun t ht hW => ⟨_, rfl, (Option.some.inj hf), ht.trans hH⟩) (fun q h => nomatch h) dV_copyRefusal_32
      · replace hf := ite_t h10 hf
        refine lv_iconst (pc := 27) (v := 0) hx hb dV_copyRefusal_27 (by decide) ?_
        refine lv_goto (pc := 28) (tgt := 32) hx hb dV_copyRefusal_28 rfl ?_
        exact W.iret (pc := 32) hx hb hr (fun t ht hW => ⟨_, rfl, (Option.some.inj hf), ht.trans hH⟩) (fun q h => nomatch h) dV_copyRefusal_32
    · replace hf := ite_t h8 hf
      refine lv_iconst (pc := 10) (v := 1) hx hb dV_copyRefusal_10 (by decide) ?_
      exact W.iret (pc := 11) hx hb hr (fun t ht hW => ⟨_, rfl, (Option.some.inj hf), ht.trans hH⟩) (fun q h => nomatch h) dV_copyRefusal_11
def V_refRefusal (σ : hT) (j1 : Nat) (a2 : Int32) (a3 : Int32) (a4 : Int32) : Option (Int32) := if a2 < 0 then some 7 else if (xI σ 604 j1 0) < a2 then some 7 else Option.bind (V_drawingAt σ a3) fun y5 => hq y5 (some 7) fun j8 => if (-1) ≤ a4 then if 6 ≤ a2 then some 8 else some 0 else some 7
set_option maxHeartbeats 4000000 in
set_option maxRecDepth 100000 in
theorem t_V_refRefusal (l : Launch) (dC : Nat → ClassId) (dI : Nat → Nat → Nat) (ad : Nat → Nat → Nat) (ca : Nat → Nat → ClassId) (dom : List (Nat × Nat)) (σ : hT) (j1 : Nat) (a2 : Int32) (a3 : Int32) (a4 : Int32) (hm0 : (0, 0) ∈ dom) (hm1 : (5, j1) ∈ dom) (hN : dom.Nodup) (hC : clo dom σ.2.2) (ρ : Int32) (hf : V_refRefusal σ j1 a2 a3 a4 = some ρ) : Met l yV_refRefusal (.code yV_refRefusal cV_refRefusal 5 (some .int) :: aw) ({ frames := 1, cells := 0, slots := 0, locals := 21 }) (hR (dC, dI) ad ca dom σ [.ref (ad 0 0), .ref (ad 5 j1), .int a2, .int a3, .int a4]) (vp_Si (fun r => r = ρ)) 0 0 (fun _ => False) := by
  refine Met.ofW (cc := cV_refRefusal) (maxL := 5) (ret := (some .int)) (by decide) rfl ?_
  intro p e s m args below meth c s₁ B hml hv
  obtain ⟨rfl, hv⟩ := hv
  have hx := B.exec
  have hb := B.bytes
  have hr := B.returns
  have hts : ∀ w ∈ aw, w.before _ s = true := fun w h => atoms_spec (ws := (.code yV_refRefusal cV_refRefusal 5 (some .int) :: aw)) B.pre w (List.mem_cons_of_mem _ h)
  have hown : s.vm.findClass RV = some m.cls := findClass_of_methodNamed B.named
  have hlocks := B.notSynchronized
  obtain ⟨hP, hK, hG⟩ := hv
  obtain ⟨H, hH⟩ : ∃ H, H = s.heap := ⟨_, rfl⟩
  rw [← hH] at hP ⊢
  unfold V_refRefusal at hf
  have hl := lv_entry ([.ref (ad 0 0), .ref (ad 5 j1), .int a2, .int a3, .int a4]) (n := 5) (Nat.le_of_ble_eq_true rfl)
  rw [lg_entry_eq]
  generalize (lg_sl ([.ref (ad 0 0), .ref (ad 5 j1), .int a2, .int a3, .int a4]) ++ List.replicate (5 - (lg_sl ([.ref (ad 0 0), .ref (ad 5 j1), .int a2, .int a3, .int a4])).length) Slot.unset).toArray = ls at hl ⊢
  have hl : lv_has ls 5 [(0, .ref (ad 0 0)), (1, .ref (ad 5 j1)), (2, .int a2), (3, .int a3), (4, .int a4)] := hl
  refine lv_iload_n (pc := 0) hx hb dV_refRefusal_0 rfl (lv_at hl 2 rfl) ?_
  refine lv_if_lt (pc := 1) (tgt := 26) hx hb dV_refRefusal_1 rfl (fun h1 => ?_) (fun h1 => ?_)
  · replace hf := ite_t h1 hf
    refine lv_bipush (pc := 26) (v := 7) hx hb dV_refRefusal_26 (by decide) ?_
    exact W.iret (pc := 28) hx hb hr (fun t ht hW => ⟨_, rfl, (Option.some.inj hf), ht.trans hH⟩) (fun q h => nomatch h) dV_refRefusal_28
  · replace hf := ite_f h1 hf
    refine lv_iload_n (pc := 4) hx hb dV_refRefusal_4 rfl (lv_at hl 2 rfl) ?_
    refine lv_aload_n (pc := 5) hx hb dV_refRefusal_5 rfl (lv_at hl 1 rfl) ?_
    obtain ⟨q2, hq2, eq2⟩ := at_5 (ad := ad) (ca := ca) (σ := σ) hm1
    refine va_get (D := (dC, dI)) (cl := kCl) (C := RC) (T := TC) (N := 5) (pc := 6) hx hb hts inC hown hK.1 hP q2 eq2 rfl 4 (by decide) (hts _ wd_332) (fun _ h9 => h9) rfl dV_refRefusal_6 ?_
    refine lv_icmp_gt (pc := 9) (tgt := 26) hx hb dV_refRefusal_9 rfl (fun h3 => ?_) (fun h3 => ?_)
    · replace hf := ite_t h3 hf
      refine lv_bipush (pc := 26) (v := 7) hx hb dV_refRefusal_26 (by decide) ?_
      exact W.iret (pc := 28) hx hb hr (fun t ht hW => ⟨_, rfl, (Option.some.inj hf), ht.trans hH⟩) (fun q h => nomatch h) dV_refRefusal_28
    · replace hf := ite_f h3 hf
      refine lv_aload_n (pc := 12) hx hb dV_refRefusal_12 rfl (lv_at hl 0 rfl) ?_
      refine lv_iload_n (pc := 13) hx hb dV_refRefusal_13 rfl (lv_at hl 3 rfl) ?_
      obtain ⟨q4, hq4, eq4⟩ := at_0 (ad := ad) (ca := ca) (σ := σ) hm0
      obtain ⟨y5, hy5, hf⟩ := ob hf
      refine va_cse (pc := 14) (W.runV (As := [.int a3]) (rest := []) ⟨hx, hb, hml, hown, hts⟩ (t_V_drawingAt l dC dI ad ca dom σ a3 hm0 hN hC y5 hy5) (cwV 1 hts (gV wd_317 wd_318 wd_319 wd_254 wd_316) rfl rfl rfl (by decide +kernel) ⟨Nat.le_of_ble_eq_true rfl, Nat.le_of_ble_eq_true rfl⟩) ⟨hR_blind, va_recv (q := (RV, TV, 9)) (q0 := q4) (ci := 0) hK.1 hP rfl eq4, hR_pre hP hK hG⟩ rfl rfl hl.1 rfl (lv_room (Nat.le_of_ble_eq_true rfl)) dV_refRefusal_14 ⟨Nat.le_of_ble_eq_true rfl, Nat.le_of_ble_eq_true rfl⟩) (fun r9 hr9 => ?_)
      obtain ⟨hr9, hmy6⟩ := hr9
      refine W.eq (g2 := F0 m 17 ls [va_re (ad 6) y5]) (by rw [hr9]) ?_
      rcases hE7 : y5 with _ | j8
      · replace hf := hq_n hE7 hf
        refine W.eq (g2 := F0 m 17 ls [.null]) rfl ?_
        refine lv_ifnullN (pc := 17) (tgt := 26) hx hb dV_refRefusal_17 rfl ?_
        refine lv_bipush (pc := 26) (v := 7) hx hb dV_refRefusal_26 (by decide) ?_
        exact W.iret (pc := 28) hx hb hr (fun t ht hW => ⟨_, rfl, (Option.some.inj hf), ht.trans hH⟩) (fun q h => nomatch h) dV_refRefusal_28
      · replace hf := hq_s hE7 hf
        have hm9 : (6, j8) ∈ dom := (hmy6 _ hE7)
        refine W.eq (g2 := F0 m 17 ls [.ref (ad 6 j8)]) rfl ?_
        refine lv_ifnull (pc := 17) hx hb dV_refRefusal_17 ?_
        refine lv_iload (pc := 20) hx hb dV_refRefusal_20 (lv_at hl 4 rfl) ?_
        refine lv_iconst (pc := 22) (v := (-1)) hx hb dV_refRefusal_22 (by decide) ?_
        refine lv_icmp_ge (pc := 23) (tgt := 29) hx hb dV_refRefusal_23 rfl (fun h10 => ?_) (fun h10 => ?_)
        · replace hf := ite_t h10 hf
          refine lv_iload_n (pc := 29) hx hb dV_refRefusal_29 rfl (lv_at hl 2 rfl) ?_
          refine lv_bipush (pc := 30) (v := 6) hx hb dV_refRefusal_30 (by decide) ?_
          refine lv_icmp_ge (pc := 32) (tgt := 39) hx hb dV_refRefusal_32 rfl (fun h11 => ?_) (fun h11 => ?_)
          · replace hf := ite_t h11 hf
            refine lv_bipush (pc := 39) (v := 8) hx hb dV_refRefusal_39 (by decide) ?_
            exact W.iret (pc := 41) hx hb hr (fun t ht hW => ⟨_, rfl, (Option.some.inj hf), ht.trans hH⟩) (fun q h => nomatch h) dV_refRefusal_41
          · replace hf := ite_f h11 hf
            refine lv_iconst (pc := 35) (v := 0) hx hb dV_refRefusal_35 (by decide) ?_
            refine lv_goto (pc := 36) (tgt := 41) hx hb dV_refRefusal_36 rfl ?_
            exact W.iret (pc := 41) hx hb hr (fun t ht hW => ⟨_, rfl, (Option.some.inj hf), ht.trans hH⟩) (fun q h => nomatch h) dV_refRefusal_41
        · replace hf := ite_f h10 hf
          refine lv_bipush (pc := 26) (v := 7) hx hb dV_refRefusal_26 (by decide) ?_
          exact W.iret (pc := 28) hx hb hr (fun t ht hW => ⟨_, rfl, (Option.some.inj hf), ht.trans hH⟩) (fun q h => nomatch h) dV_refRefusal_28
def V_checkInRefusal (n : Nat) (σ : hT) (a1 : Int32) (o2 : Option Nat) : Option (Int32) := hq o2 (Option.bind (V_usersOf n σ a1 1) fun y4 => none) fun j2 => Option.bind (V_usersOf n σ a1 1) fun y6 => Option.bind (C_targetBits n σ (3 * j2)) fun y9 => if (y9 &&& (y6 ||| (V_bit a1))) = 0 then Option.bind (V_fixedOnesAreThere n σ (3 * j2)) fun y13 => if y13 = 0 then some 7 else lt9 (α := Int32 → Option (Int32)) (fun (s17 : Int32) => if s17 = 0 then some 0 else some 8) fun x16 => if 12 ≤ (xI σ 701 j2 0) then x16 1 else if (xI σ 103 0 0) < 100 then x16 0 else x16 1 else some 6
set_option maxHeartbeats 4000000 in
set_option maxRecDepth 100000 in
theorem t_V_checkInRefusal (l : Launch) (dC : Nat → ClassId) (dI : Nat → Nat → Nat) (ad : Nat → Nat → Nat) (ca : Nat → Nat → ClassId) (dom : List (Nat × Nat)) (n : Nat) (σ : hT) (a1 : Int32) (o2 : Option Nat) (hm0 : (0, 0) ∈ dom) (hm2 : ∀ j, o2 = some j → (6, j) ∈ dom) (hN : dom.Nodup) (hC : clo dom σ.2.2) (ρ : Int32) (hf : V_checkInRefusal n σ a1 o2 = some ρ) : Met l yV_checkInRefusal (.code yV_checkInRefusal cV_checkInRefusal 5 (some .int) :: aw) ({ frames := 5, cells := 0, slots := 0, locals := 111 }) (hR (dC, dI) ad ca dom σ [.ref (ad 0 0), .int a1, (va_re (ad 6) o2)]) (vp_Si (fun r => r = ρ)) 0 0 (fun _ => False) := by
  refine Met.ofW (cc := cV_checkInRefusal) (maxL := 5) (ret := (some .int)) (by decide) rfl ?_
  intro p e s m args below meth c s₁ B hml hv
  obtain ⟨rfl, hv⟩ := hv
  have hx := B.exec
  have hb := B.bytes
  have hr := B.returns
  have hts : ∀ w ∈ aw, w.before _ s = true := fun w h => atoms_spec (ws := (.code yV_checkInRefusal cV_checkInRefusal 5 (some .int) :: aw)) B.pre w (List.mem_cons_of_mem _ h)
  have hown : s.vm.findClass RV = some m.cls := findClass_of_methodNamed B.named
  have hlocks := B.notSynchronized
  obtain ⟨hP, hK, hG⟩ := hv
  obtain ⟨H, hH⟩ : ∃ H, H = s.heap := ⟨_, rfl⟩
  rw [← hH] at hP ⊢
  unfold V_checkInRefusal at hf
  rcases hE1 : o2 with _ | j2
  · replace hf := hq_n hE1 hf
    rw [hE1] at hts
    have hl := lv_entry ([.ref (ad 0 0), .int a1, (va_re (ad 6) none)]) (n := 5) (Nat.le_of_ble_eq_true rfl)
    rw [lg_entry_eq]
    generalize (lg_sl ([.ref (ad 0 0), .int a1, (va_re (ad 6) none)]) ++ List.replicate (5 - (lg_sl ([.ref (ad 0 0), .int a1, (va_re (ad 6) none)])).length) Slot.unset).toArray = ls at hl ⊢
    have hl : lv_has ls 5 [(0, .ref (ad 0 0)), (1, .int a1), (2, .null)] := hl
    refine lv_aload_n (pc := 0) hx hb dV_checkInRefusal_0 rfl (lv_at hl 0 rfl) ?_
    refine lv_iload_n (pc := 1) hx hb dV_checkInRefusal_1 rfl (lv_at hl 1 rfl) ?_
    refine lv_iconst (pc := 2) (v := 1) hx hb dV_checkInRefusal_2 (by decide) ?_
    obtain ⟨q3, hq3, eq3⟩ := at_0 (ad := ad) (ca := ca) (σ := σ) hm0
    obtain ⟨y4, hy4, hf⟩ := ob hf
    refine vp_callSi (pc := 3) (W.runV (As := [.int a1, .int 1]) (rest := []) ⟨hx, hb, hml, hown, hts⟩ (t_V_usersOf l dC dI ad ca dom n σ a1 1 hm0 hN hC y4 hy4) (cwV 2 hts (gV wd_405 wd_406 wd_407 wd_254 wd_404) rfl rfl rfl (by decide +kernel) ⟨Nat.le_of_ble_eq_true rfl, Nat.le_of_ble_eq_true rfl⟩) ⟨hR_blind, va_recv (q := (RV, TV, 9)) (q0 := q3) (ci := 0) hK.1 hP rfl eq3, hR_pre hP hK hG⟩ rfl rfl hl.1 rfl (lv_room (Nat.le_of_ble_eq_true rfl)) dV_checkInRefusal_3 ⟨Nat.le_of_ble_eq_true rfl, Nat.le_of_ble_eq_true rfl⟩) (fun r9 hr9 => ?_)
    refine W.eq (g2 := F0 m 6 ls [.int y4]) (by rw [hr9]) ?_
    refine lv_iload_n (pc := 6) hx hb dV_checkInRefusal_6 rfl (lv_at hl 1 rfl) ?_
    refine vp_callSi (pc := 7) (W.runS (As := [.int a1]) (rest := [.int y4]) ⟨hx, hb, hml, hown, hts⟩ (t_V_bit l dC dI ad ca dom a1 σ hN hC (V_bit a1) rfl) (cwS 1 hts (gS wd_354 wd_255 wd_254 wd_253) rfl rfl rfl (by decide +kernel) ⟨Nat.le_of_ble_eq_true rfl, Nat.le_of_ble_eq_true rfl⟩) ⟨hR_blind, hR_pre hP hK hG⟩ rfl rfl hl.1 rfl (lv_room (Nat.le_of_ble_eq_true rfl)) dV_checkInRefusal_7 ⟨Nat.le_of_ble_eq_true rfl, Nat.le_of_ble_eq_true rfl⟩) (fun r9 hr9 => ?_)
    refine W.eq (g2 := F0 m 10 ls [.int (V_bit a1), .int y4]) (by rw [hr9]) ?_
    refine lv_ior (pc := 10) hx hb dV_checkInRefusal_10 ?_
    refine lv_istore_n (pc := 11) hx hb dV_checkInRefusal_11 rfl hl (by decide) rfl (fun ls hl => ?_)
    have hl : lv_has ls 5 [(3, .int (y4 ||| (V_bit a1))), (0, .ref (ad 0 0)), (1, .int a1), (2, .null)] := hl
    refine lv_aload_nN (pc := 12) hx hb dV_checkInRefusal_12 rfl (lv_at hl 3 rfl) ?_
    exact nomatch hf
  · replace hf := hq_s hE1 hf
    rw [hE1] at hts
    have hl := lv_entry ([.ref (ad 0 0), .int a1, (va_re (ad 6) (some j2))]) (n := 5) (Nat.le_of_ble_eq_true rfl)
    rw [lg_entry_eq]
    generalize (lg_sl ([.ref (ad 0 0), .int a1, (va_re (ad 6) (some j2))]) ++ List.replicate (5 - (lg_sl ([.ref (ad 0 0), .int a1, (va_re (ad 6) (some j2))])).length) Slot.unset).toArray = ls at hl ⊢
    have hl : lv_has ls 5 [(0, .ref (ad 0 0)), (1, .int a1), (2, .ref (ad 6 j2))] := hl
    refine lv_aload_n (pc := 0) hx hb dV_checkInRefusal_0 rfl (lv_at hl 0 rfl) ?_
    refine lv_iload_n (pc := 1) hx hb dV_checkInRefusal_1 rfl (lv_at hl 1 rfl) ?_
    refine lv_iconst (pc := 2) (v := 1) hx hb dV_checkInRefusal_2 (by decide) ?_
    obtain ⟨q5, hq5, eq5⟩ := at_0 (ad := ad) (ca := ca) (σ := σ) hm0
    obtain ⟨y6, hy6, hf⟩ := ob hf
    refine vp_callSi (pc := 3) (W.runV (As := [.int a1, .int 1]) (rest := []) ⟨hx, hb, hml, hown, hts⟩ (t_V_usersOf l dC dI ad ca dom n σ a1 1 hm0 hN hC y6 hy6) (cwV 2 hts (gV wd_405 wd_406 wd_407 wd_254 wd_404) rfl rfl rfl (by decide +kernel) ⟨Nat.le_of_ble_eq_true rfl, Nat.le_of_ble_eq_true rfl⟩) ⟨hR_blind, va_recv (q := (RV, TV, 9)) (q0 := q5) (ci := 0) hK.1 hP rfl eq5, hR_pre hP hK hG⟩ rfl rfl hl.1 rfl (lv_room (Nat.le_of_ble_eq_true rfl)) dV_checkInRefusal_3 ⟨Nat.le_of_ble_eq_true rfl, Nat.le_of_ble_eq_true rfl⟩) (fun r9 hr9 => ?_)
    refine W.eq (g2 := F0 m 6 ls [.int y6]) (by rw [hr9]) ?_
    refine lv_iload_n (pc := 6) hx hb dV_checkInRefusal_6 rfl (lv_at hl 1 rfl) ?_
    refine vp_callSi (pc := 7) (W.runS (As := [.int a1]) (rest := [.int y6]) ⟨hx, hb, hml, hown, hts⟩ (t_V_bit l dC dI ad ca dom a1 σ hN hC (V_bit a1) rfl) (cwS 1 hts (gS wd_354 wd_255 wd_254 wd_253) rfl rfl rfl (by decide +kernel) ⟨Nat.le_of_ble_eq_true rfl, Nat.le_of_ble_eq_true rfl⟩) ⟨hR_blind, hR_pre hP hK hG⟩ rfl rfl hl.1 rfl (lv_room (Nat.le_of_ble_eq_true rfl)) dV_checkInRefusal_7 ⟨Nat.le_of_ble_eq_true rfl, Nat.le_of_ble_eq_true rfl⟩) (fun r9 hr9 => ?_)
    refine W.eq (g2 := F0 m 10 ls [.int (V_bit a1), .int y6]) (by rw [hr9]) ?_
    refine lv_ior (pc := 10) hx hb dV_checkInRefusal_10 ?_
    refine lv_istore_n (pc := 11) hx hb dV_checkInRefusal_11 rfl hl (by decide) rfl (fun ls hl => ?_)
    have hl : lv_has ls 5 [(3, .int (y6 ||| (V_bit a1))), (0, .ref (ad 0 0)), (1, .int a1), (2, .ref (ad 6 j2))] := hl
    refine lv_aload_n (pc := 12) hx hb dV_checkInRefusal_12 rfl (lv_at hl 3 rfl) ?_
    obtain ⟨q7, hq7, eq7⟩ := at_6 (ad := ad) (ca := ca) (σ := σ) (hm2 _ hE1)
    refine va_get (D := (dC, dI)) (cl := kCl) (C := RD) (T := TD) (N := 5) (pc := 13) hx hb hts inD hown hK.1 hP q7 eq7 rfl 3 (by decide) (hts _ wd_368) (fun _ h9 => h9) rfl dV_checkInRefusal_13 ?_
    obtain ⟨q8, hq8, eq8⟩ := at_5 (ad := ad) (ca := ca) (σ := σ) (cm_6_3 hC (hm2 _ hE1))
    obtain ⟨y9, hy9, hf⟩ := ob hf
    refine vp_callSi (pc := 16) (W.runV (As := []) (rest := []) ⟨hx, hb, hml, hown, hts⟩ (t_C_targetBits l dC dI ad ca dom n σ (3 * j2) (cm_6_3 hC (hm2 _ hE1)) hN hC y9 hy9) (cwV 0 hts (gV wd_408 wd_302 wd_303 wd_228 wd_300) rfl rfl rfl (by decide +kernel) ⟨Nat.le_of_ble_eq_true rfl, Nat.le_of_ble_eq_true rfl⟩) ⟨hR_blind, va_recv (q := (RC, TC, 5)) (q0 := q8) (ci := 5) hK.1 hP rfl eq8, hR_pre hP hK hG⟩ rfl rfl hl.1 rfl (lv_room (Nat.le_of_ble_eq_true rfl)) dV_checkInRefusal_16 ⟨Nat.le_of_ble_eq_true rfl, Nat.le_of_ble_eq_true rfl⟩) (fun r9 hr9 => ?_)
    refine W.eq (g2 := F0 m 19 ls [.int y9]) (by rw [hr9]) ?_
    refine lv_iload_n (pc := 19) hx hb dV_checkInRefusal_19 rfl (lv_at hl 0 rfl) ?_
    refine lv_iand (pc := 20) hx hb dV_checkInRefusal_20 ?_
    refine lv_if_eq (pc := 21) (tgt := 27) hx hb dV_checkInRefusal_21 rfl (fun h10 => ?_) (fun h10 => ?_)
    · replace hf := ite_t h10 hf
      refine lv_aload_n (pc := 27) hx hb dV_checkInRefusal_27 rfl (lv_at hl 1 rfl) ?_
      refine lv_aload_n (pc := 28) hx hb dV_checkInRefusal_28 rfl (lv_at hl 3 rfl) ?_
      obtain ⟨q11, hq11, eq11⟩ := at_6 (ad := ad) (ca := ca) (σ := σ) (hm2 _ hE1)
      refine va_get (D := (dC, dI)) (cl := kCl) (C := RD) (T := TD) (N := 5) (pc := 29) hx hb hts inD hown hK.1 hP q11 eq11 rfl 3 (by decide) (hts _ wd_368) (fun _ h9 => h9) rfl dV_checkInRefusal_29 ?_
      obtain ⟨q12, hq12, eq12⟩ := at_0 (ad := ad) (ca := ca) (σ := σ) hm0
      obtain ⟨y13, hy13, hf⟩ := ob hf
      refine vp_callSi (pc := 32) (W.runV (As := [.ref (ad 5 (3 * j2))]) (rest := []) ⟨hx, hb, hml, hown, hts⟩ (t_V_fixedOnesAreThere l dC dI ad ca dom n σ (3 * j2) hm0 (cm_6_3 hC (hm2 _ hE1)) hN hC y13 hy13) (cwV 1 hts (gV wd_410 wd_411 wd_412 wd_254 wd_409) rfl rfl rfl (by decide +kernel) ⟨Nat.le_of_ble_eq_true rfl, Nat.le_of_ble_eq_true rfl⟩) ⟨hR_blind, va_recv (q := (RV, TV, 9)) (q0 := q12) (ci := 0) hK.1 hP rfl eq12, hR_pre hP hK hG⟩ rfl rfl hl.1 rfl (lv_room (Nat.le_of_ble_eq_true rfl)) dV_checkInRefusal_32 ⟨Nat.le_of_ble_eq_true rfl, Nat.le_of_ble_eq_true rfl⟩) (fun r9 hr9 => ?_)
      refine W.eq (g2 := F0 m 35 ls [.int y13]) (by rw [hr9]) ?_
      refine lv_if_ne (pc := 35) (tgt := 41) hx hb dV_checkInRefusal_35 rfl (fun h14 => ?_) (fun h14 => ?_)
      · replace hf := ite_f h14 hf
        refine lv_aload_n (pc := 41) hx hb dV_checkInRefusal_41 rfl (lv_at hl 3 rfl) ?_
        obtain ⟨q15, hq15, eq15⟩ := at_6 (ad := ad) (ca := ca) (σ := σ) (hm2 _ hE1)
        refine va_get (D := (dC, dI)) (cl := kCl) (C := RD) (T := TD) (N := 5) (pc := 42) hx hb hts inD hown hK.1 hP q15 eq15 rfl 1 (by decide) (hts _ wd_344) (fun _ h9 => h9) rfl dV_checkInRefusal_42 ?_
        refine lv_bipush (pc := 45) (v := 12) hx hb dV_checkInRefusal_45 (by decide) ?_
        obtain ⟨x16, hx16, hf⟩ := lt_9 hf
        refine jnF (τ := (Int32) × (Array Slot)) (fun pc st z => W p l e _ s m _ below meth c H ([]) 0 0 _ (F0 m pc z.2 st)) (pc0 := 47) (st0 := [.int 12, .int (xI σ 701 j2 0)]) (z0 := (0, ls)) 64 (fun z => [.int z.1]) (fun z => lv_has z.2 5 [(3, .int (y6 ||| (V_bit a1))), (0, .ref (ad 0 0)), (1, .int a1), (2, .ref (ad 6 j2))]) (fun z => x16 z.1) ρ ?_ ?_
        · intro hJx16
          dsimp only at hJx16 ⊢
          refine lv_icmp_ge (pc := 47) (tgt := 59) hx hb dV_checkInRefusal_47 rfl (fun h18 => ?_) (fun h18 => ?_)
          · replace hf := ite_t h18 hf
            refine lv_iconst (pc := 59) (v := 1) hx hb dV_checkInRefusal_59 (by decide) ?_
            refine lv_goto (pc := 60) (tgt := 64) hx hb dV_checkInRefusal_60 rfl ?_
            have hl := lv_sub hl (l' := [(3, .int (y6 ||| (V_bit a1))), (0, .ref (ad 0 0)), (1, .int a1), (2, .ref (ad 6 j2))]) [0, 1, 2, 3] rfl
            exact hJx16 (1, ls) hl hf
          · replace hf := ite_f h18 hf
            refine lv_aload_n (pc := 50) hx hb dV_checkInRefusal_50 rfl (lv_at hl 1 rfl) ?_
            obtain ⟨q19, hq19, eq19⟩ := at_0 (ad := ad) (ca := ca) (σ := σ) hm0
            refine va_get (D := (dC, dI)) (cl := kCl) (C := RV) (T := TV) (N := 9) (pc := 51) hx hb hts inV hown hK.1 hP q19 eq19 rfl 3 (by decide) (hts _ wd_369) (fun _ h9 => h9) rfl dV_checkInRefusal_51 ?_
            refine lv_bipush (pc := 54) (v := 100) hx hb dV_checkInRefusal_54 (by decide) ?_
            refine lv_icmp_lt (pc := 56) (tgt := 63) hx hb dV_checkInRefusal_56 rfl (fun h20 => ?_) (fun h20 => ?_)
            · replace hf := ite_t h20 hf
              refine lv_iconst (pc := 63) (v := 0) hx hb dV_checkInRefusal_63 (by decide) ?_
              have hl := lv_sub hl (l' := [(3, .int (y6 ||| (V_bit a1))), (0, .ref (ad 0 0)), (1, .int a1), (2, .ref (ad 6 j2))]) [0, 1, 2, 3] rfl
              exact hJx16 (0, ls) hl hf
            · replace hf := ite_f h20 hf
              refine lv_iconst (pc := 59) (v := 1) hx hb dV_checkInRefusal_59 (by decide) ?_
              refine lv_goto (pc := 60) (tgt := 64) hx hb dV_checkInRefusal_60 rfl ?_
              have hl := lv_sub hl (l' := [(3, .int (y6 ||| (V_bit a1))), (0, .ref (ad 0 0)), (1, .int a1), (2, .ref (ad 6 j2))]) [0, 1, 2, 3] rfl
              exact hJx16 (1, ls) hl hf
        · rintro ⟨s17, ls⟩ hl hf
          dsimp only at hl hf ⊢
          rw [hx16] at hf
          have hl : lv_has ls 5 [(3, .int (y6 ||| (V_bit a1))), (0, .ref (ad 0 0)), (1, .int a1), (2, .ref (ad 6 j2))] := hl
          refine lv_istore (pc := 64) hx hb dV_checkInRefusal_64 hl (by decide) rfl (fun ls hl => ?_)
          have hl : lv_has ls 5 [(4, .int s17), (3, .int (y6 ||| (V_bit a1))), (0, .ref (ad 0 0)), (1, .int a1), (2, .ref (ad 6 j2))] := hl
          refine lv_iload (pc := 66) hx hb dV_checkInRefusal_66 (lv_at hl 0 rfl) ?_
          refine lv_if_eq (pc := 68) (tgt := 76) hx hb dV_checkInRefusal_68 rfl (fun h21 => ?_) (fun h21 => ?_)
          · replace hf := ite_t h21 hf
            refine lv_iconst (pc := 76) (v := 0) hx hb dV_checkInRefusal_76 (by decide) ?_
            exact W.iret (pc := 77) hx hb hr (fun t ht hW => ⟨_, rfl, (Option.some.inj hf), ht.trans hH⟩) (fun q h => nomatch h) dV_checkInRefusal_77
          · replace hf := ite_f h21 hf
            refine lv_bipush (pc := 71) (v := 8) hx hb dV_checkInRefusal_71 (by decide) ?_
            refine lv_goto (pc := 73) (tgt := 77) hx hb dV_checkInRefusal_73 rfl ?_
            exact W.iret (pc := 77) hx hb hr (fun t ht hW => ⟨_, rfl, (Option.some.inj hf), ht.trans hH⟩) (fun q h => nomatch h) dV_checkInRefusal_77
      · replace hf := ite_t h14 hf
        refine lv_bipush (pc := 38) (v := 7) hx hb dV_checkInRefusal_38 (by decide) ?_
        exact W.iret (pc := 40) hx hb hr (fun t ht hW => ⟨_, rfl, (Option.some.inj hf), ht.trans hH⟩) (fun q h => nomatch h) dV_checkInRefusal_40
    · replace hf := ite_f h10 hf
      refine lv_bipush (pc := 24) (v := 6) hx hb dV_checkInRefusal_24 (by decide) ?_
      exact W.iret (pc := 26) hx hb hr (fun t ht hW => ⟨_, rfl, (Option.some.inj hf), ht.trans hH⟩) (fun q h => nomatch h) dV_checkInRefusal_26
def V_checkRefusal (σ : hT) (a1 : Int32) (a2 : Int32) (a3 : Int32) : Option (Int32) := Option.bind (V_drawingAt σ a1) fun y2 => hq y2 (Option.bind (V_revisionAt σ a1 a2) fun y7 => hq y7 (Option.bind (V_hasRight σ a3 2) fun y12 => if y12 = 0 then some 1 else some 7) fun j10 => Option.bind (V_hasRight σ a3 2) fun y16 => if y16 = 0 then some 1 else some 7) fun j5 => Option.bind (V_revisionAt σ a1 a2) fun y20 => hq y20 (Option.bind (V_hasRight σ a3 2) fun y25 => if y25 = 0 then some 1 else if (xI σ 702 j5 0) = (-1) then some 7 else some 2) fun j23 => Option.bind (V_hasRight σ a3 2) fun y31 => if y31 = 0 then some 1 else if (xI σ 702 j5 0) = (-1) then if (xI σ 802 j23 0) = 0 then if a2 = (D_newest σ j5) then if (xI σ 801 j23 0) = a3 then some 3 else some 0 else some 2 else some 2 else some 2
set_option maxHeartbeats 4000000 in
set_option maxRecDepth 100000 in
theorem t_V_checkRefusal (l : Launch) (dC : Nat → ClassId) (dI : Nat → Nat → Nat) (ad : Nat → Nat → Nat) (ca : Nat → Nat → ClassId) (dom : List (Nat × Nat)) (σ : hT) (a1 : Int32) (a2 : Int32) (a3 : Int32) (hm0 : (0, 0) ∈ dom) (hN : dom.Nodup) (hC : clo dom σ.2.2) (ρ : Int32) (hf : V_checkRefusal σ a1 a2 a3 = some ρ) : Met l yV_checkRefusal (.code yV_checkRefusal cV_checkRefusal 6 (some .int) :: aw) ({ frames := 2, cells := 0, slots := 0, locals := 44 }) (hR (dC, dI) ad ca dom σ [.ref (ad 0 0), .int a1, .int a2, .int a3]) (vp_Si (fun r => r = ρ)) 0 0 (fun _ => False) := by
  refine Met.ofW (cc := cV_checkRefusal) (maxL := 6) (ret := (some .int)) (by decide) rfl ?_
  intro p e s m args below meth c s₁ B hml hv
  obtain ⟨rfl, hv⟩ := hv
  have hx := B.exec
  have hb := B.bytes
  have hr := B.returns
  have hts : ∀ w ∈ aw, w.before _ s = true := fun w h => atoms_spec (ws := (.code yV_checkRefusal cV_checkRefusal 6 (some .int) :: aw)) B.pre w (List.mem_cons_of_mem _ h)
  have hown : s.vm.findClass RV = some m.cls := findClass_of_methodNamed B.named
  have hlocks := B.notSynchronized
  obtain ⟨hP, hK, hG⟩ := hv
  obtain ⟨H, hH⟩ : ∃ H, H = s.heap := ⟨_, rfl⟩
  rw [← hH] at hP ⊢
  unfold V_checkRefusal at hf
  have hl := lv_entry ([.ref (ad 0 0), .int a1, .int a2, .int a3]) (n := 6) (Nat.le_of_ble_eq_true rfl)
  rw [lg_entry_eq]
  generalize (lg_sl ([.ref (ad 0 0), .int a1, .int a2, .int a3]) ++ List.replicate (6 - (lg_sl ([.ref (ad 0 0), .int a1, .int a2, .int a3])).length) Slot.unset).toArray = ls at hl ⊢
  have hl : lv_has ls 6 [(0, .ref (ad 0 0)), (1, .int a1), (2, .int a2), (3, .int a3)] := hl
  refine lv_aload_n (pc := 0) hx hb dV_checkRefusal_0 rfl (lv_at hl 0 rfl) ?_
  refine lv_iload_n (pc := 1) hx hb dV_checkRefusal_1 rfl (lv_at hl 1 rfl) ?_
  obtain ⟨q1, hq1, eq1⟩ := at_0 (ad := ad) (ca := ca) (σ := σ) hm0
  obtain ⟨y2, hy2, hf⟩ := ob hf
  refine va_cse (pc := 2) (W.runV (As := [.int a1]) (rest := []) ⟨hx, hb, hml, hown, hts⟩ (t_V_drawingAt l dC dI ad ca dom σ a1 hm0 hN hC y2 hy2) (cwV 1 hts (gV wd_317 wd_318 wd_319 wd_254 wd_316) rfl rfl rfl (by decide +kernel) ⟨Nat.le_of_ble_eq_true rfl, Nat.le_of_ble_eq_true rfl⟩) ⟨hR_blind, va_recv (q := (RV, TV, 9)) (q0 := q1) (ci := 0) hK.1 hP rfl eq1, hR_pre hP hK hG⟩ rfl rfl hl.1 rfl (lv_room (Nat.le_of_ble_eq_true rfl)) dV_checkRefusal_2 ⟨Nat.le_of_ble_eq_true rfl, Nat.le_of_ble_eq_true rfl⟩) (fun r9 hr9 => ?_)
  obtain ⟨hr9, hmy3⟩ := hr9
  refine W.eq (g2 := F0 m 5 ls [va_re (ad 6) y2]) (by rw [hr9]) ?_
  rcases hE4 : y2 with _ | j5
  · replace hf := hq_n hE4 hf
    refine W.eq (g2 := F0 m 5 ls [.null]) rfl ?_
    refine lv_astoreN (pc := 5) hx hb dV_checkRefusal_5 hl (by decide) rfl (fun ls hl => ?_)
    have hl : lv_has ls 6 [(4, .null), (0, .ref (ad 0 0)), (1, .int a1), (2, .int a2), (3, .int a3)] := hl
    refine lv_aload_n (pc := 7) hx hb dV_checkRefusal_7 rfl (lv_at hl 1 rfl) ?_
    refine lv_iload_n (pc := 8) hx hb dV_checkRefusal_8 rfl (lv_at hl 2 rfl) ?_
    refine lv_iload_n (pc := 9) hx hb dV_checkRefusal_9 rfl (lv_at hl 3 rfl) ?_
    obtain ⟨q6, hq6, eq6⟩ := at_0 (ad := ad) (ca := ca) (σ := σ) hm0
    obtain ⟨y7, hy7, hf⟩ := ob hf
    refine va_cse (pc := 10) (W.runV (As := [.int a1, .int a2]) (rest := []) ⟨hx, hb, hml, hown, hts⟩ (t_V_revisionAt l dC dI ad ca dom σ a1 a2 hm0 hN hC y7 hy7) (cwV 2 hts (gV wd_324 wd_325 wd_326 wd_254 wd_323) rfl rfl rfl (by decide +kernel) ⟨Nat.le_of_ble_eq_true rfl, Nat.le_of_ble_eq_true rfl⟩) ⟨hR_blind, va_recv (q := (RV, TV, 9)) (q0 := q6) (ci := 0) hK.1 hP rfl eq6, hR_pre hP hK hG⟩ rfl rfl hl.1 rfl (lv_room (Nat.le_of_ble_eq_true rfl)) dV_checkRefusal_10 ⟨Nat.le_of_ble_eq_true rfl, Nat.le_of_ble_eq_true rfl⟩) (fun r9 hr9 => ?_)
    obtain ⟨hr9, hmy8⟩ := hr9
    refine W.eq (g2 := F0 m 13 ls [va_re (ad 7) y7]) (by rw [hr9]) ?_
    rcases hE9 : y7 with _ | j10
    · replace hf := hq_n hE9 hf
      refine W.eq (g2 := F0 m 13 ls [.null]) rfl ?_
      refine lv_astoreN (pc := 13) hx hb dV_checkRefusal_13 hl (by decide) rfl (fun ls hl => ?_)
      have hl : lv_has ls 6 [(5, .null), (4, .null), (0, .ref (ad 0 0)), (1, .int a1), (2, .int a2), (3, .int a3)] := hl
      refine lv_aload_n (pc := 15) hx hb dV_checkRefusal_15 rfl (lv_at hl 2 rfl) ?_
      refine lv_iload_n (pc := 16) hx hb dV_checkRefusal_16 rfl (lv_at hl 5 rfl) ?_
      refine lv_iconst (pc := 17) (v := 2) hx hb dV_checkRefusal_17 (by decide) ?_
      obtain ⟨q11, hq11, eq11⟩ := at_0 (ad := ad) (ca := ca) (σ := σ) hm0
      obtain ⟨y12, hy12, hf⟩ := ob hf
      refine vp_callSi (pc := 18) (W.runV (As := [.int a3, .int 2]) (rest := []) ⟨hx, hb, hml, hown, hts⟩ (t_V_hasRight l dC dI ad ca dom σ a3 2 hm0 hN hC y12 hy12) (cwV 2 hts (gV wd_401 wd_402 wd_403 wd_254 wd_400) rfl rfl rfl (by decide +kernel) ⟨Nat.le_of_ble_eq_true rfl, Nat.le_of_ble_eq_true rfl⟩) ⟨hR_blind, va_recv (q := (RV, TV, 9)) (q0 := q11) (ci := 0) hK.1 hP rfl eq11, hR_pre hP hK hG⟩ rfl rfl hl.1 rfl (lv_room (Nat.le_of_ble_eq_true rfl)) dV_checkRefusal_18 ⟨Nat.le_of_ble_eq_true rfl, Nat.le_of_ble_eq_true rfl⟩) (fun r9 hr9 => ?_)
      refine W.eq (g2 := F0 m 21 ls [.int y12]) (by rw [hr9]) ?_
      refine lv_if_ne (pc := 21) (tgt := 26) hx hb dV_checkRefusal_21 rfl (fun h13 => ?_) (fun h13 => ?_)
      · replace hf := ite_f h13 hf
        refine lv_aloadN (pc := 26) hx hb dV_checkRefusal_26 (lv_at hl 1 rfl) ?_
        refine lv_ifnullN (pc := 28) (tgt := 42) hx hb dV_checkRefusal_28 rfl ?_
        refine lv_aloadN (pc := 42) hx hb dV_checkRefusal_42 (lv_at hl 1 rfl) ?_
        refine lv_ifnullN (pc := 44) (tgt := 52) hx hb dV_checkRefusal_44 rfl ?_
        refine lv_bipush (pc := 52) (v := 7) hx hb dV_checkRefusal_52 (by decide) ?_
        exact W.iret (pc := 54) hx hb hr (fun t ht hW => ⟨_, rfl, (Option.some.inj hf), ht.trans hH⟩) (fun q h => nomatch h) dV_checkRefusal_54
      · replace hf := ite_t h13 hf
        refine lv_iconst (pc := 24) (v := 1) hx hb dV_checkRefusal_24 (by decide) ?_
        exact W.iret (pc := 25) hx hb hr (fun t ht hW => ⟨_, rfl, (Option.some.inj hf), ht.trans hH⟩) (fun q h => nomatch h) dV_checkRefusal_25
    · replace hf := hq_s hE9 hf
      have hm14 : (7, j10) ∈ dom := (hmy8 _ hE9)
      refine W.eq (g2 := F0 m 13 ls [.ref (ad 7 j10)]) rfl ?_
      refine lv_astore (pc := 13) hx hb dV_checkRefusal_13 hl (by decide) rfl (fun ls hl => ?_)
      have hl : lv_has ls 6 [(5, .ref (ad 7 j10)), (4, .null), (0, .ref (ad 0 0)), (1, .int a1), (2, .int a2), (3, .int a3)] := hl
      refine lv_aload_n (pc := 15) hx hb dV_checkRefusal_15 rfl (lv_at hl 2 rfl) ?_
      refine lv_iload_n (pc := 16) hx hb dV_checkRefusal_16 rfl (lv_at hl 5 rfl) ?_
      refine lv_iconst (pc := 17) (v := 2) hx hb dV_checkRefusal_17 (by decide) ?_
      obtain ⟨q15, hq15, eq15⟩ := at_0 (ad := ad) (ca := ca) (σ := σ) hm0
      obtain ⟨y16, hy16, hf⟩ := ob hf
      refine vp_callSi (pc := 18) (W.runV (As := [.int a3, .int 2]) (rest := []) ⟨hx, hb, hml, hown, hts⟩ (t_V_hasRight l dC dI ad ca dom σ a3 2 hm0 hN hC y16 hy16) (cwV 2 hts (gV wd_401 wd_402 wd_403 wd_254 wd_400) rfl rfl rfl (by decide +kernel) ⟨Nat.le_of_ble_eq_true rfl, Nat.le_of_ble_eq_true rfl⟩) ⟨hR_blind, va_recv (q := (RV, TV, 9)) (q0 := q15) (ci := 0) hK.1 hP rfl eq15, hR_pre hP hK hG⟩ rfl rfl hl.1 rfl (lv_room (Nat.le_of_ble_eq_true rfl)) dV_checkRefusal_18 ⟨Nat.le_of_ble_eq_true rfl, Nat.le_of_ble_eq_true rfl⟩) (fun r9 hr9 => ?_)
      refine W.eq (g2 := F0 m 21 ls [.int y16]) (by rw [hr9]) ?_
      refine lv_if_ne (pc := 21) (tgt := 26) hx hb dV_checkRefusal_21 rfl (fun h17 => ?_) (fun h17 => ?_)
      · replace hf := ite_f h17 hf
        refine lv_aloadN (pc := 26) hx hb dV_checkRefusal_26 (lv_at hl 1 rfl) ?_
        refine lv_ifnullN (pc := 28) (tgt := 42) hx hb dV_checkRefusal_28 rfl ?_
        refine lv_aloadN (pc := 42) hx hb dV_checkRefusal_42 (lv_at hl 1 rfl) ?_
        refine lv_ifnullN (pc := 44) (tgt := 52) hx hb dV_checkRefusal_44 rfl ?_
        refine lv_bipush (pc := 52) (v := 7) hx hb dV_checkRefusal_52 (by decide) ?_
        exact W.iret (pc := 54) hx hb hr (fun t ht hW => ⟨_, rfl, (Option.some.inj hf), ht.trans hH⟩) (fun q h => nomatch h) dV_checkRefusal_54
      · replace hf := ite_t h17 hf
        refine lv_iconst (pc := 24) (v := 1) hx hb dV_checkRefusal_24 (by decide) ?_
        exact W.iret (pc := 25) hx hb hr (fun t ht hW => ⟨_, rfl, (Option.some.inj hf), ht.trans hH⟩) (fun q h => nomatch h) dV_checkRefusal_25
  · replace hf := hq_s hE4 hf
    have hm18 : (6, j5) ∈ dom := (hmy3 _ hE4)
    refine W.eq (g2 := F0 m 5 ls [.ref (ad 6 j5)]) rfl ?_
    refine lv_astore (pc := 5) hx hb dV_checkRefusal_5 hl (by decide) rfl (fun ls hl => ?_)
    have hl : lv_has ls 6 [(4, .ref (ad 6 j5)), (0, .ref (ad 0 0)), (1, .int a1), (2, .int a2), (3, .int a3)] := hl
    refine lv_aload_n (pc := 7) hx hb dV_checkRefusal_7 rfl (lv_at hl 1 rfl) ?_
    refine lv_iload_n (pc := 8) hx hb dV_checkRefusal_8 rfl (lv_at hl 2 rfl) ?_
    refine lv_iload_n (pc := 9) hx hb dV_checkRefusal_9 rfl (lv_at hl 3 rfl) ?_
    obtain ⟨q19, hq19, eq19⟩ := at_0 (ad := ad) (ca := ca) (σ := σ) hm0
    obtain ⟨y20, hy20, hf⟩ := ob hf
    refine va_cse (pc := 10) (W.runV (As := [.int a1, .int a2]) (rest := []) ⟨hx, hb, hml, hown, hts⟩ (t_V_revisionAt l dC dI ad ca dom σ a1 a2 hm0 hN hC y20 hy20) (cwV 2 hts (gV wd_324 wd_325 wd_326 wd_254 wd_323) rfl rfl rfl (by decide +kernel) ⟨Nat.le_of_ble_eq_true rfl, Nat.le_of_ble_eq_true rfl⟩) ⟨hR_blind, va_recv (q := (RV, TV, 9)) (q0 := q19) (ci := 0) hK.1 hP rfl eq19, hR_pre hP hK hG⟩ rfl rfl hl.1 rfl (lv_room (Nat.le_of_ble_eq_true rfl)) dV_checkRefusal_10 ⟨Nat.le_of_ble_eq_true rfl, Nat.le_of_ble_eq_true rfl⟩) (fun r9 hr9 => ?_)
    obtain ⟨hr9, hmy21⟩ := hr9
    refine W.eq (g2 := F0 m 13 ls [va_re (ad 7) y20]) (by rw [hr9]) ?_
    rcases hE22 : y20 with _ | j23
    · replace hf := hq_n hE22 hf
      refine W.eq (g2 := F0 m 13 ls [.null]) rfl ?_
      refine lv_astoreN (pc := 13) hx hb dV_checkRefusal_13 hl (by decide) rfl (fun ls hl => ?_)
      have hl : lv_has ls 6 [(5, .null), (4, .ref (ad 6 j5)), (0, .ref (ad 0 0)), (1, .int a1), (2, .int a2), (3, .int a3)] := hl
      refine lv_aload_n (pc := 15) hx hb dV_checkRefusal_15 rfl (lv_at hl 2 rfl) ?_
      refine lv_iload_n (pc := 16) hx hb dV_checkRefusal_16 rfl (lv_at hl 5 rfl) ?_
      refine lv_iconst (pc := 17) (v := 2) hx hb dV_checkRefusal_17 (by decide) ?_
      obtain ⟨q24, hq24, eq24⟩ := at_0 (ad := ad) (ca := ca) (σ := σ) hm0
      obtain ⟨y25, hy25, hf⟩ := ob hf
      refine vp_callSi (pc := 18) (W.runV (As := [.int a3, .int 2]) (rest := []) ⟨hx, hb, hml, hown, hts⟩ (t_V_hasRight l dC dI ad ca dom σ a3 2 hm0 hN hC y25 hy25) (cwV 2 hts (gV wd_401 wd_402 wd_403 wd_254 wd_400) rfl rfl rfl (by decide +kernel) ⟨Nat.le_of_ble_eq_true rfl, Nat.le_of_ble_eq_true rfl⟩) ⟨hR_blind, va_recv (q := (RV, TV, 9)) (q0 := q24) (ci := 0) hK.1 hP rfl eq24, hR_pre hP hK hG⟩ rfl rfl hl.1 rfl (lv_room (Nat.le_of_ble_eq_true rfl)) dV_checkRefusal_18 ⟨Nat.le_of_ble_eq_true rfl, Nat.le_of_ble_eq_true rfl⟩) (fun r9 hr9 => ?_)
      refine W.eq (g2 := F0 m 21 ls [.int y25]) (by rw [hr9]) ?_
      refine lv_if_ne (pc := 21) (tgt := 26) hx hb dV_checkRefusal_21 rfl (fun h26 => ?_) (fun h26 => ?_)
      · replace hf := ite_f h26 hf
        refine lv_aload (pc := 26) hx hb dV_checkRefusal_26 (lv_at hl 1 rfl) ?_
        refine lv_ifnull (pc := 28) hx hb dV_checkRefusal_28 ?_
        refine lv_aload (pc := 31) hx hb dV_checkRefusal_31 (lv_at hl 1 rfl) ?_
        obtain ⟨q27, hq27, eq27⟩ := at_6 (ad := ad) (ca := ca) (σ := σ) hm18
        refine va_get (D := (dC, dI)) (cl := kCl) (C := RD) (T := TD) (N := 5) (pc := 33) hx hb hts inD hown hK.1 hP q27 eq27 rfl 2 (by decide) (hts _ wd_359) (fun _ h9 => h9) rfl dV_checkRefusal_33 ?_
        refine lv_iconst (pc := 36) (v := (-1)) hx hb dV_checkRefusal_36 (by decide) ?_
        refine lv_icmp_eq (pc := 37) (tgt := 42) hx hb dV_checkRefusal_37 rfl (fun h28 => ?_) (fun h28 => ?_)
        · replace hf := ite_t h28 hf
          refine lv_aload (pc := 42) hx hb dV_checkRefusal_42 (lv_at hl 1 rfl) ?_
          refine lv_ifnull (pc := 44) hx hb dV_checkRefusal_44 ?_
          refine lv_aloadN (pc := 47) hx hb dV_checkRefusal_47 (lv_at hl 0 rfl) ?_
          refine lv_ifnonnullN (pc := 49) hx hb dV_checkRefusal_49 ?_
          refine lv_bipush (pc := 52) (v := 7) hx hb dV_checkRefusal_52 (by decide) ?_
          exact W.iret (pc := 54) hx hb hr (fun t ht hW => ⟨_, rfl, (Option.some.inj hf), ht.trans hH⟩) (fun q h => nomatch h) dV_checkRefusal_54
        · replace hf := ite_f h28 hf
          refine lv_iconst (pc := 40) (v := 2) hx hb dV_checkRefusal_40 (by decide) ?_
          exact W.iret (pc := 41) hx hb hr (fun t ht hW => ⟨_, rfl, (Option.some.inj hf), ht.trans hH⟩) (fun q h => nomatch h) dV_checkRefusal_41
      · replace hf := ite_t h26 hf
        refine lv_iconst (pc := 24) (v := 1) hx hb dV_checkRefusal_24 (by decide) ?_
        exact W.iret (pc := 25) hx hb hr (fun t ht hW => ⟨_, rfl, (Option.some.inj hf), ht.trans hH⟩) (fun q h => nomatch h) dV_checkRefusal_25
    · replace hf := hq_s hE22 hf
      have hm29 : (7, j23) ∈ dom := (hmy21 _ hE22)
      refine W.eq (g2 := F0 m 13 ls [.ref (ad 7 j23)]) rfl ?_
      refine lv_astore (pc := 13) hx hb dV_checkRefusal_13 hl (by decide) rfl (fun ls hl => ?_)
      have hl : lv_has ls 6 [(5, .ref (ad 7 j23)), (4, .ref (ad 6 j5)), (0, .ref (ad 0 0)), (1, .int a1), (2, .int a2), (3, .int a3)] := hl
      refine lv_aload_n (pc := 15) hx hb dV_checkRefusal_15 rfl (lv_at hl 2 rfl) ?_
      refine lv_iload_n (pc := 16) hx hb dV_checkRefusal_16 rfl (lv_at hl 5 rfl) ?_
      refine lv_iconst (pc := 17) (v := 2) hx hb dV_checkRefusal_17 (by decide) ?_
      obtain ⟨q30, hq30, eq30⟩ := at_0 (ad := ad) (ca := ca) (σ := σ) hm0
      obtain ⟨y31, hy31, hf⟩ := ob hf
      refine vp_callSi (pc := 18) (W.runV (As := [.int a3, .int 2]) (rest := []) ⟨hx, hb, hml, hown, hts⟩ (t_V_hasRight l dC dI ad ca dom σ a3 2 hm0 hN hC y31 hy31) (cwV 2 hts (gV wd_401 wd_402 wd_403 wd_254 wd_400) rfl rfl rfl (by decide +kernel) ⟨Nat.le_of_ble_eq_true rfl, Nat.le_of_ble_eq_true rfl⟩) ⟨hR_blind, va_recv (q := (RV, TV, 9)) (q0 := q30) (ci := 0) hK.1 hP rfl eq30, hR_pre hP hK hG⟩ rfl rfl hl.1 rfl (lv_room (Nat.le_of_ble_eq_true rfl)) dV_checkRefusal_18 ⟨Nat.le_of_ble_eq_true rfl, Nat.le_of_ble_eq_true rfl⟩) (fun r9 hr9 => ?_)
      refine W.eq (g2 := F0 m 21 ls [.int y31]) (by rw [hr9]) ?_
      refine lv_if_ne (pc := 21) (tgt := 26) hx hb dV_checkRefusal_21 rfl (fun h32 => ?_) (fun h32 => ?_)
      · replace hf := ite_f h32 hf
        refine lv_aload (pc := 26) hx hb dV_checkRefusal_26 (lv_at hl 1 rfl) ?_
        refine lv_ifnull (pc := 28) hx hb dV_checkRefusal_28 ?_
        refine lv_aload (pc := 31) hx hb dV_checkRefusal_31 (lv_at hl 1 rfl) ?_
        obtain ⟨q33, hq33, eq33⟩ := at_6 (ad := ad) (ca := ca) (σ := σ) hm18
        refine va_get (D := (dC, dI)) (cl := kCl) (C := RD) (T := TD) (N := 5) (pc := 33) hx hb hts inD hown hK.1 hP q33 eq33 rfl 2 (by decide) (hts _ wd_359) (fun _ h9 => h9) rfl dV_checkRefusal_33 ?_
        refine lv_iconst (pc := 36) (v := (-1)) hx hb dV_checkRefusal_36 (by decide) ?_
        refine lv_icmp_eq (pc := 37) (tgt := 42) hx hb dV_checkRefusal_37 rfl (fun h34 => ?_) (fun h34 => ?_)
        · replace hf := ite_t h34 hf
          refine lv_aload (pc := 42) hx hb dV_checkRefusal_42 (lv_at hl 1 rfl) ?_
          refine lv_ifnull (pc := 44) hx hb dV_checkRefusal_44 ?_
          refine lv_aload (pc := 47) hx hb dV_checkRefusal_47 (lv_at hl 0 rfl) ?_
          refine lv_ifnonnull (pc := 49) (tgt := 55) hx hb dV_checkRefusal_49 rfl ?_
          refine lv_aload (pc := 55) hx hb dV_checkRefusal_55 (lv_at hl 0 rfl) ?_
          obtain ⟨q35, hq35, eq35⟩ := at_7 (ad := ad) (ca := ca) (σ := σ) hm29
          refine va_get (D := (dC, dI)) (cl := kCl) (C := RS) (T := TS) (N := 3) (pc := 57) hx hb hts inS hown hK.1 hP q35 eq35 rfl 2 (by decide) (hts _ wd_327) (fun _ h9 => h9) rfl dV_checkRefusal_57 ?_
          refine lv_if_ne (pc := 60) (tgt := 72) hx hb dV_checkRefusal_60 rfl (fun h36 => ?_) (fun h36 => ?_)
          · replace hf := ite_f h36 hf
            refine lv_iconst (pc := 72) (v := 2) hx hb dV_checkRefusal_72 (by decide) ?_
            exact W.iret (pc := 73) hx hb hr (fun t ht hW => ⟨_, rfl, (Option.some.inj hf), ht.trans hH⟩) (fun q h => nomatch h) dV_checkRefusal_73
          · replace hf := ite_t h36 hf
            refine lv_iload_n (pc := 63) hx hb dV_checkRefusal_63 rfl (lv_at hl 4 rfl) ?_
            refine lv_aload (pc := 64) hx hb dV_checkRefusal_64 (lv_at hl 1 rfl) ?_
            obtain ⟨q37, hq37, eq37⟩ := at_6 (ad := ad) (ca := ca) (σ := σ) hm18
            refine vp_callSi (pc := 66) (W.runV (As := []) (rest := [.int a2]) ⟨hx, hb, hml, hown, hts⟩ (t_D_newest l dC dI ad ca dom σ j5 hm18 hN hC (D_newest σ j5) rfl) (cwV 0 hts (gV wd_413 wd_290 wd_291 wd_292 wd_288) rfl rfl rfl (by decide +kernel) ⟨Nat.le_of_ble_eq_true rfl, Nat.le_of_ble_eq_true rfl⟩) ⟨hR_blind, va_recv (q := (RD, TD, 5)) (q0 := q37) (ci := 6) hK.1 hP rfl eq37, hR_pre hP hK hG⟩ rfl rfl hl.1 rfl (lv_room (Nat.le_of_ble_eq_true rfl)) dV_checkRefusal_66 ⟨Nat.le_of_ble_eq_true rfl, Nat.le_of_ble_eq_true rfl⟩) (fun r9 hr9 => ?_)
            refine W.eq (g2 := F0 m 69 ls [.int (D_newest σ j5), .int a2]) (by rw [hr9]) ?_
            refine lv_icmp_eq (pc := 69) (tgt := 74) hx hb dV_checkRefusal_69 rfl (fun h38 => ?_) (fun h38 => ?_)
            · replace hf := ite_t h38 hf
              refine lv_aload (pc := 74) hx hb dV_checkRefusal_74 (lv_at hl 0 rfl) ?_
              obtain ⟨q39, hq39, eq39⟩ := at_7 (ad := ad) (ca := ca) (σ := σ) hm29
              refine va_get (D := (dC, dI)) (cl := kCl) (C := RS) (T := TS) (N := 3) (pc := 76) hx hb hts inS hown hK.1 hP q39 eq39 rfl 1 (by decide) (hts _ wd_414) (fun _ h9 => h9) rfl dV_checkRefusal_76 ?_
              refine lv_iload_n (pc := 79) hx hb dV_checkRefusal_79 rfl (lv_at hl 5 rfl) ?_
              refine lv_icmp_ne (pc := 80) (tgt := 87) hx hb dV_checkRefusal_80 rfl (fun h40 => ?_) (fun h40 => ?_)
              · replace hf := ite_f h40 hf
                refine lv_iconst (pc := 87) (v := 0) hx hb dV_checkRefusal_87 (by decide) ?_
                exact W.iret (pc := 88) hx hb hr (fun t ht hW => ⟨_, rfl, (Option.some.inj hf), ht.trans hH⟩) (fun q h => nomatch h) dV_checkRefusal_88
              · replace hf := ite_t h40 hf
                refine lv_iconst (pc := 83) (v := 3) hx hb dV_checkRefusal_83 (by decide) ?_
                refine lv_goto (pc := 84) (tgt := 88) hx hb dV_checkRefusal_84 rfl ?_
                exact W.iret (pc := 88) hx hb hr (fun t ht hW => ⟨_, rfl, (Option.some.inj hf), ht.trans hH⟩) (fun q h => nomatch h) dV_checkRefusal_88
            · replace hf := ite_f h38 hf
              refine lv_iconst (pc := 72) (v := 2) hx hb dV_checkRefusal_72 (by decide) ?_
              exact W.iret (pc := 73) hx hb hr (fun t ht hW => ⟨_, rfl, (Option.some.inj hf), ht.trans hH⟩) (fun q h => nomatch h) dV_checkRefusal_73
        · replace hf := ite_f h34 hf
          refine lv_iconst (pc := 40) (v := 2) hx hb dV_checkRefusal_40 (by decide) ?_
          exact W.iret (pc := 41) hx hb hr (fun t ht hW => ⟨_, rfl, (Option.some.inj hf), ht.trans hH⟩) (fun q h => nomatch h) dV_checkRefusal_41
      · replace hf := ite_t h32 hf
        refine lv_iconst (pc := 24) (v := 1) hx hb dV_checkRefusal_24 (by decide) ?_
        exact W.iret (pc := 25) hx hb hr (fun t ht hW => ⟨_, rfl, (Option.some.inj hf), ht.trans hH⟩) (fun q h => nomatch h) dV_checkRefusal_25
def V_releaseRefusal (n : Nat) (σ : hT) (a1 : Int32) (a2 : Int32) (a3 : Int32) : Option (Int32) := Option.bind (V_revisionAt σ a1 a2) fun y2 => hq y2 (Option.bind (V_hasRight σ a3 4) fun y7 => if y7 = 0 then some 1 else some 7) fun j5 => Option.bind (V_hasRight σ a3 4) fun y11 => if y11 = 0 then some 1 else if (xI σ 802 j5 0) = 1 then Option.bind (V_allResolveToReleased n σ (3 * j5 + 2)) fun y17 => if y17 = 0 then some 4 else some 0 else some 2
set_option maxHeartbeats 4000000 in
set_option maxRecDepth 100000 in
theorem t_V_releaseRefusal (l : Launch) (dC : Nat → ClassId) (dI : Nat → Nat → Nat) (ad : Nat → Nat → Nat) (ca : Nat → Nat → ClassId) (dom : List (Nat × Nat)) (n : Nat) (σ : hT) (a1 : Int32) (a2 : Int32) (a3 : Int32) (hm0 : (0, 0) ∈ dom) (hN : dom.Nodup) (hC : clo dom σ.2.2) (ρ : Int32) (hf : V_releaseRefusal n σ a1 a2 a3 = some ρ) : Met l yV_releaseRefusal (.code yV_releaseRefusal cV_releaseRefusal 5 (some .int) :: aw) ({ frames := 4, cells := 0, slots := 0, locals := 90 }) (hR (dC, dI) ad ca dom σ [.ref (ad 0 0), .int a1, .int a2, .int a3]) (vp_Si (fun r => r = ρ)) 0 0 (fun _ => False) := by
  refine Met.ofW (cc := cV_releaseRefusal) (maxL := 5) (ret := (some .int)) (by decide) rfl ?_
  intro p e s m args below meth c s₁ B hml hv
  obtain ⟨rfl, hv⟩ := hv
  have hx := B.exec
  have hb := B.bytes
  have hr := B.returns
  have hts : ∀ w ∈ aw, w.before _ s = true := fun w h => atoms_spec (ws := (.code yV_releaseRefusal cV_releaseRefusal 5 (some .int) :: aw)) B.pre w (List.mem_cons_of_mem _ h)
  have hown : s.vm.findClass RV = some m.cls := findClass_of_methodNamed B.named
  have hlocks := B.notSynchronized
  obtain ⟨hP, hK, hG⟩ := hv
  obtain ⟨H, hH⟩ : ∃ H, H = s.heap := ⟨_, rfl⟩
  rw [← hH] at hP ⊢
  unfold V_releaseRefusal at hf
  have hl := lv_entry ([.ref (ad 0 0), .int a1, .int a2, .int a3]) (n := 5) (Nat.le_of_ble_eq_true rfl)
  rw [lg_entry_eq]
  generalize (lg_sl ([.ref (ad 0 0), .int a1, .int a2, .int a3]) ++ List.replicate (5 - (lg_sl ([.ref (ad 0 0), .int a1, .int a2, .int a3])).length) Slot.unset).toArray = ls at hl ⊢
  have hl : lv_has ls 5 [(0, .ref (ad 0 0)), (1, .int a1), (2, .int a2), (3, .int a3)] := hl
  refine lv_aload_n (pc := 0) hx hb dV_releaseRefusal_0 rfl (lv_at hl 0 rfl) ?_
  refine lv_iload_n (pc := 1) hx hb dV_releaseRefusal_1 rfl (lv_at hl 1 rfl) ?_
  refine lv_iload_n (pc := 2) hx hb dV_releaseRefusal_2 rfl (lv_at hl 2 rfl) ?_
  obtain ⟨q1, hq1, eq1⟩ := at_0 (ad := ad) (ca := ca) (σ := σ) hm0
  obtain ⟨y2, hy2, hf⟩ := ob hf
  refine va_cse (pc := 3) (W.runV (As := [.int a1, .int a2]) (rest := []) ⟨hx, hb, hml, hown, hts⟩ (t_V_revisionAt l dC dI ad ca dom σ a1 a2 hm0 hN hC y2 hy2) (cwV 2 hts (gV wd_324 wd_325 wd_326 wd_254 wd_323) rfl rfl rfl (by decide +kernel) ⟨Nat.le_of_ble_eq_true rfl, Nat.le_of_ble_eq_true rfl⟩) ⟨hR_blind, va_recv (q := (RV, TV, 9)) (q0 := q1) (ci := 0) hK.1 hP rfl eq1, hR_pre hP hK hG⟩ rfl rfl hl.1 rfl (lv_room (Nat.le_of_ble_eq_true rfl)) dV_releaseRefusal_3 ⟨Nat.le_of_ble_eq_true rfl, Nat.le_of_ble_eq_true rfl⟩) (fun r9 hr9 => ?_)
  obtain ⟨hr9, hmy3⟩ := hr9
  refine W.eq (g2 := F0 m 6 ls [va_re (ad 7) y2]) (by rw [hr9]) ?_
  rcases hE4 : y2 with _ | j5
  · replace hf := hq_n hE4 hf
    refine W.eq (g2 := F0 m 6 ls [.null]) rfl ?_
    refine lv_astoreN (pc := 6) hx hb dV_releaseRefusal_6 hl (by decide) rfl (fun ls hl => ?_)
    have hl : lv_has ls 5 [(4, .null), (0, .ref (ad 0 0)), (1, .int a1), (2, .int a2), (3, .int a3)] := hl
    refine lv_aload_n (pc := 8) hx hb dV_releaseRefusal_8 rfl (lv_at hl 1 rfl) ?_
    refine lv_iload_n (pc := 9) hx hb dV_releaseRefusal_9 rfl (lv_at hl 4 rfl) ?_
    refine lv_iconst (pc := 10) (v := 4) hx hb dV_releaseRefusal_10 (by decide) ?_
    obtain ⟨q6, hq6, eq6⟩ := at_0 (ad := ad) (ca := ca) (σ := σ) hm0
    obtain ⟨y7, hy7, hf⟩ := ob hf
    refine vp_callSi (pc := 11) (W.runV (As := [.int a3, .int 4]) (rest := []) ⟨hx, hb, hml, hown, hts⟩ (t_V_hasRight l dC dI ad ca dom σ a3 4 hm0 hN hC y7 hy7) (cwV 2 hts (gV wd_401 wd_402 wd_403 wd_254 wd_400) rfl rfl rfl (by decide +kernel) ⟨Nat.le_of_ble_eq_true rfl, Nat.le_of_ble_eq_true rfl⟩) ⟨hR_blind, va_recv (q := (RV, TV, 9)) (q0 := q6) (ci := 0) hK.1 hP rfl eq6, hR_pre hP hK hG⟩ rfl rfl hl.1 rfl (lv_room (Nat.le_of_ble_eq_true rfl)) dV_releaseRefusal_11 ⟨Nat.le_of_ble_eq_true rfl, Nat.le_of_ble_eq_true rfl⟩) (fun r9 hr9 => ?_)
    refine W.eq (g2 := F0 m 14 ls [.int y7]) (by rw [hr9]) ?_
    refine lv_if_ne (pc := 14) (tgt := 19) hx hb dV_releaseRefusal_14 rfl (fun h8 => ?_) (fun h8 => ?_)
    · replace hf := ite_f h8 hf
      refine lv_aloadN (pc := 19) hx hb dV_releaseRefusal_19 (lv_at hl 0 rfl) ?_
      refine lv_ifnonnullN (pc := 21) hx hb dV_releaseRefusal_21 ?_
      refine lv_bipush (pc := 24) (v := 7) hx hb dV_releaseRefusal_24 (by decide) ?_
      exact W.iret (pc := 26) hx hb hr (fun t ht hW => ⟨_, rfl, (Option.some.inj hf), ht.trans hH⟩) (fun q h => nomatch h) dV_releaseRefusal_26
    · replace hf := ite_t h8 hf
      refine lv_iconst (pc := 17) (v := 1) hx hb dV_releaseRefusal_17 (by decide) ?_
      exact W.iret (pc := 18) hx hb hr (fun t ht hW => ⟨_, rfl, (Option.some.inj hf), ht.trans hH⟩) (fun q h => nomatch h) dV_releaseRefusal_18
  · replace hf := hq_s hE4 hf
    have hm9 : (7, j5) ∈ dom := (hmy3 _ hE4)
    refine W.eq (g2 := F0 m 6 ls [.ref (ad 7 j5)]) rfl ?_
    refine lv_astore (pc := 6) hx hb dV_releaseRefusal_6 hl (by decide) rfl (fun ls hl => ?_)
    have hl : lv_has ls 5 [(4, .ref (ad 7 j5)), (0, .ref (ad 0 0)), (1, .int a1), (2, .int a2), (3, .int a3)] := hl
    refine lv_aload_n (pc := 8) hx hb dV_releaseRefusal_8 rfl (lv_at hl 1 rfl) ?_
    refine lv_iload_n (pc := 9) hx hb dV_releaseRefusal_9 rfl (lv_at hl 4 rfl) ?_
    refine lv_iconst (pc := 10) (v := 4) hx hb dV_releaseRefusal_10 (by decide) ?_
    obtain ⟨q10, hq10, eq10⟩ := at_0 (ad := ad) (ca := ca) (σ := σ) hm0
    obtain ⟨y11, hy11, hf⟩ := ob hf
    refine vp_callSi (pc := 11) (W.runV (As := [.int a3, .int 4]) (rest := []) ⟨hx, hb, hml, hown, hts⟩ (t_V_hasRight l dC dI ad ca dom σ a3 4 hm0 hN hC y11 hy11) (cwV 2 hts (gV wd_401 wd_402 wd_403 wd_254 wd_400) rfl rfl rfl (by decide +kernel) ⟨Nat.le_of_ble_eq_true rfl, Nat.le_of_ble_eq_true rfl⟩) ⟨hR_blind, va_recv (q := (RV, TV, 9)) (q0 := q10) (ci := 0) hK.1 hP rfl eq10, hR_pre hP hK hG⟩ rfl rfl hl.1 rfl (lv_room (Nat.le_of_ble_eq_true rfl)) dV_releaseRefusal_11 ⟨Nat.le_of_ble_eq_true rfl, Nat.le_of_ble_eq_true rfl⟩) (fun r9 hr9 => ?_)
    refine W.eq (g2 := F0 m 14 ls [.int y11]) (by rw [hr9]) ?_
    refine lv_if_ne (pc := 14) (tgt := 19) hx hb dV_releaseRefusal_14 rfl (fun h12 => ?_) (fun h12 => ?_)
    · replace hf := ite_f h12 hf
      refine lv_aload (pc := 19) hx hb dV_releaseRefusal_19 (lv_at hl 0 rfl) ?_
      refine lv_ifnonnull (pc := 21) (tgt := 27) hx hb dV_releaseRefusal_21 rfl ?_
      refine lv_aload (pc := 27) hx hb dV_releaseRefusal_27 (lv_at hl 0 rfl) ?_
      obtain ⟨q13, hq13, eq13⟩ := at_7 (ad := ad) (ca := ca) (σ := σ) hm9
      refine va_get (D := (dC, dI)) (cl := kCl) (C := RS) (T := TS) (N := 3) (pc := 29) hx hb hts inS hown hK.1 hP q13 eq13 rfl 2 (by decide) (hts _ wd_327) (fun _ h9 => h9) rfl dV_releaseRefusal_29 ?_
      refine lv_iconst (pc := 32) (v := 1) hx hb dV_releaseRefusal_32 (by decide) ?_
      refine lv_icmp_eq (pc := 33) (tgt := 38) hx hb dV_releaseRefusal_33 rfl (fun h14 => ?_) (fun h14 => ?_)
      · replace hf := ite_t h14 hf
        refine lv_aload_n (pc := 38) hx hb dV_releaseRefusal_38 rfl (lv_at hl 1 rfl) ?_
        refine lv_aload (pc := 39) hx hb dV_releaseRefusal_39 (lv_at hl 0 rfl) ?_
        obtain ⟨q15, hq15, eq15⟩ := at_7 (ad := ad) (ca := ca) (σ := σ) hm9
        refine va_get (D := (dC, dI)) (cl := kCl) (C := RS) (T := TS) (N := 3) (pc := 41) hx hb hts inS hown hK.1 hP q15 eq15 rfl 0 (by decide) (hts _ wd_345) (fun _ h9 => h9) rfl dV_releaseRefusal_41 ?_
        obtain ⟨q16, hq16, eq16⟩ := at_0 (ad := ad) (ca := ca) (σ := σ) hm0
        obtain ⟨y17, hy17, hf⟩ := ob hf
        refine vp_callSi (pc := 44) (W.runV (As := [.ref (ad 5 (3 * j5 + 2))]) (rest := []) ⟨hx, hb, hml, hown, hts⟩ (t_V_allResolveToReleased l dC dI ad ca dom n σ (3 * j5 + 2) hm0 (cm_7_0 hC hm9) hN hC y17 hy17) (cwV 1 hts (gV wd_416 wd_417 wd_418 wd_254 wd_415) rfl rfl rfl (by decide +kernel) ⟨Nat.le_of_ble_eq_true rfl, Nat.le_of_ble_eq_true rfl⟩) ⟨hR_blind, va_recv (q := (RV, TV, 9)) (q0 := q16) (ci := 0) hK.1 hP rfl eq16, hR_pre hP hK hG⟩ rfl rfl hl.1 rfl (lv_room (Nat.le_of_ble_eq_true rfl)) dV_releaseRefusal_44 ⟨Nat.le_of_ble_eq_true rfl, Nat.le_of_ble_eq_true rfl⟩) (fun r9 hr9 => ?_)
        refine W.eq (g2 := F0 m 47 ls [.int y17]) (by rw [hr9]) ?_
        refine lv_if_eq (pc := 47) (tgt := 54) hx hb dV_releaseRefusal_47 rfl (fun h18 => ?_) (fun h18 => ?_)
        · replace hf := ite_t h18 hf
          refine lv_iconst (pc := 54) (v := 4) hx hb dV_releaseRefusal_54 (by decide) ?_
          exact W.iret (pc := 55) hx hb hr (fun t ht hW => ⟨_, rfl, (Option.some.inj hf), ht.trans hH⟩) (fun q h => nomatch h) dV_releaseRefusal_55
        · replace hf := ite_f h18 hf
          refine lv_iconst (pc := 50) (v := 0) hx hb dV_releaseRefusal_50 (by decide) ?_
          refine lv_goto (pc := 51) (tgt := 55) hx hb dV_releaseRefusal_51 rfl ?_
          exact W.iret (pc := 55) hx hb hr (fun t ht hW => ⟨_, rfl, (Option.some.inj hf), ht.trans hH⟩) (fun q h => nomatch h) dV_releaseRefusal_55
      · replace hf := ite_f h14 hf
        refine lv_iconst (pc := 36) (v := 2) hx hb dV_releaseRefusal_36 (by decide) ?_
        exact W.iret (pc := 37) hx hb hr (fun t ht hW => ⟨_, rfl, (Option.some.inj hf), ht.trans hH⟩) (fun q h => nomatch h) dV_releaseRefusal_37
    · replace hf := ite_t h12 hf
      refine lv_iconst (pc := 17) (v := 1) hx hb dV_releaseRefusal_17 (by decide) ?_
      exact W.iret (pc := 18) hx hb hr (fun t ht hW => ⟨_, rfl, (Option.some.inj hf), ht.trans hH⟩) (fun q h => nomatch h) dV_releaseRefusal_18
def V_withdrawRefusal (n : Nat) (σ : hT) (a1 : Int32) (a2 : Int32) (a3 : Int32) : Option (Int32) := Option.bind (V_revisionAt σ a1 a2) fun y2 => hq y2 (Option.bind (V_hasRight σ a3 4) fun y7 => if y7 = 0 then some 1 else some 7) fun j5 => Option.bind (V_hasRight σ a3 4) fun y11 => if y11 = 0 then some 1 else if (xI σ 802 j5 0) = 3 then some 2 else Option.bind (V_isInABaseline n σ a1 a2) fun y16 => lt9 (α := Int32 → Option (Int32)) (fun (s18 : Int32) => if s18 = 0 then some 0 else some 5) fun x17 => if y16 = 0 then Option.bind (V_isFixedByAReleasedOne n σ a1 a2) fun y21 => if y21 = 0 then x17 0 else x17 1 else x17 1
set_option maxHeartbeats 4000000 in
set_option maxRecDepth 100000 in
theorem t_V_withdrawRefusal (l : Launch) (dC : Nat → ClassId) (dI : Nat → Nat → Nat) (ad : Nat → Nat → Nat) (ca : Nat → Nat → ClassId) (dom : List (Nat × Nat)) (n : Nat) (σ : hT) (a1 : Int32) (a2 : Int32) (a3 : Int32) (hm0 : (0, 0) ∈ dom) (hN : dom.Nodup) (hC : clo dom σ.2.2) (ρ : Int32) (hf : V_withdrawRefusal n σ a1 a2 a3 = some ρ) : Met l yV_withdrawRefusal (.code yV_withdrawRefusal cV_withdrawRefusal 6 (some .int) :: aw) ({ frames := 2, cells := 0, slots := 0, locals := 48 }) (hR (dC, dI) ad ca dom σ [.ref (ad 0 0), .int a1, .int a2, .int a3]) (vp_Si (fun r => r = ρ)) 0 0 (fun _ => False) := by
  refine Met.ofW (cc := cV_withdrawRefusal) (maxL := 6) (ret := (some .int)) (by decide) rfl ?_
  intro p e s m args below meth c s₁ B hml hv
  obtain ⟨rfl, hv⟩ := hv
  have hx := B.exec
  have hb := B.bytes
  have hr := B.returns
  have hts : ∀ w ∈ aw, w.before _ s = true := fun w h => atoms_spec (ws := (.code yV_withdrawRefusal cV_withdrawRefusal 6 (some .int) :: aw)) B.pre w (List.mem_cons_of_mem _ h)
  have hown : s.vm.findClass RV = some m.cls := findClass_of_methodNamed B.named
  have hlocks := B.notSynchronized
  obtain ⟨hP, hK, hG⟩ := hv
  obtain ⟨H, hH⟩ : ∃ H, H = s.heap := ⟨_, rfl⟩
  rw [← hH] at hP ⊢
  unfold V_withdrawRefusal at hf
  have hl := lv_entry ([.ref (ad 0 0), .int a1, .int a2, .int a3]) (n := 6) (Nat.le_of_ble_eq_true rfl)
  rw [lg_entry_eq]
  generalize (lg_sl ([.ref (ad 0 0), .int a1, .int a2, .int a3]) ++ List.replicate (6 - (lg_sl ([.ref (ad 0 0), .int a1, .int a2, .int a3])).length) Slot.unset).toArray = ls at hl ⊢
  have hl : lv_has ls 6 [(0, .ref (ad 0 0)), (1, .int a1), (2, .int a2), (3, .int a3)] := hl
  refine lv_aload_n (pc := 0) hx hb dV_withdrawRefusal_0 rfl (lv_at hl 0 rfl) ?_
  refine lv_iload_n (pc := 1) hx hb dV_withdrawRefusal_1 rfl (lv_at hl 1 rfl) ?_
  refine lv_iload_n (pc := 2) hx hb dV_withdrawRefusal_2 rfl (lv_at hl 2 rfl) ?_
  obtain ⟨q1, hq1, eq1⟩ := at_0 (ad := ad) (ca := ca) (σ := σ) hm0
  obtain ⟨y2, hy2, hf⟩ := ob hf
  refine va_cse (pc := 3) (W.runV (As := [.int a1, .int a2]) (rest := []) ⟨hx, hb, hml, hown, hts⟩ (t_V_revisionAt l dC dI ad ca dom σ a1 a2 hm0 hN hC y2 hy2) (cwV 2 hts (gV wd_324 wd_325 wd_326 wd_254 wd_323) rfl rfl rfl (by decide +kernel) ⟨Nat.le_of_ble_eq_true rfl, Nat.le_of_ble_eq_true rfl⟩) ⟨hR_blind, va_recv (q := (RV, TV, 9)) (q0 := q1) (ci := 0) hK.1 hP rfl eq1, hR_pre hP hK hG⟩ rfl rfl hl.1 rfl (lv_room (Nat.le_of_ble_eq_true rfl)) dV_withdrawRefusal_3 ⟨Nat.le_of_ble_eq_true rfl, Nat.le_of_ble_eq_true rfl⟩) (fun r9 hr9 => ?_)
  obtain ⟨hr9, hmy3⟩ := hr9
  refine W.eq (g2 := F0 m 6 ls [va_re (ad 7) y2]) (by rw [hr9]) ?_
  rcases hE4 : y2 with _ | j5
  · replace hf := hq_n hE4 hf
    refine W.eq (g2 := F0 m 6 ls [.null]) rfl ?_
    refine lv_astoreN (pc := 6) hx hb dV_withdrawRefusal_6 hl (by decide) rfl (fun ls hl => ?_)
    have hl : lv_has ls 6 [(4, .null), (0, .ref (ad 0 0)), (1, .int a1), (2, .int a2), (3, .int a3)] := hl
    refine lv_aload_n (pc := 8) hx hb dV_withdrawRefusal_8 rfl (lv_at hl 1 rfl) ?_
    refine lv_iload_n (pc := 9) hx hb dV_withdrawRefusal_9 rfl (lv_at hl 4 rfl) ?_
    refine lv_iconst (pc := 10) (v := 4) hx hb dV_withdrawRefusal_10 (by decide) ?_
    obtain ⟨q6, hq6, eq6⟩ := at_0 (ad := ad) (ca := ca) (σ := σ) hm0
    obtain ⟨y7, hy7, hf⟩ := ob hf
    refine vp_callSi (pc := 11) (W.runV (As := [.int a3, .int 4]) (rest := []) ⟨hx, hb, hml, hown, hts⟩ (t_V_hasRight l dC dI ad ca dom σ a3 4 hm0 hN hC y7 hy7) (cwV 2 hts (gV wd_401 wd_402 wd_403 wd_254 wd_400) rfl rfl rfl (by decide +kernel) ⟨Nat.le_of_ble_eq_true rfl, Nat.le_of_ble_eq_true rfl⟩) ⟨hR_blind, va_recv (q := (RV, TV, 9)) (q0 := q6) (ci := 0) hK.1 hP rfl eq6, hR_pre hP hK hG⟩ rfl rfl hl.1 rfl (lv_room (Nat.le_of_ble_eq_true rfl)) dV_withdrawRefusal_11 ⟨Nat.le_of_ble_eq_true rfl, Nat.le_of_ble_eq_true rfl⟩) (fun r9 hr9 => ?_)
    refine W.eq (g2 := F0 m 14 ls [.int y7]) (by rw [hr9]) ?_
    refine lv_if_ne (pc := 14) (tgt := 19) hx hb dV_withdrawRefusal_14 rfl (fun h8 => ?_) (fun h8 => ?_)
    · replace hf := ite_f h8 hf
      refine lv_aloadN (pc := 19) hx hb dV_withdrawRefusal_19 (lv_at hl 0 rfl) ?_
      refine lv_ifnonnullN (pc := 21) hx hb dV_withdrawRefusal_21 ?_
      refine lv_bipush (pc := 24) (v := 7) hx hb dV_withdrawRefusal_24 (by decide) ?_
      exact W.iret (pc := 26) hx hb hr (fun t ht hW => ⟨_, rfl, (Option.some.inj hf), ht.trans hH⟩) (fun q h => nomatch h) dV_withdrawRefusal_26
    · replace hf := ite_t h8 hf
      refine lv_iconst (pc := 17) (v := 1) hx hb dV_withdrawRefusal_17 (by decide) ?_
      exact W.iret (pc := 18) hx hb hr (fun t ht hW => ⟨_, rfl, (Option.some.inj hf), ht.trans hH⟩) (fun q h => nomatch h) dV_withdrawRefusal_18
  · replace hf := hq_s hE4 hf
    have hm9 : (7, j5) ∈ dom := (hmy3 _ hE4)
    refine W.eq (g2 := F0 m 6 ls [.ref (ad 7 j5)]) rfl ?_
    refine lv_astore (pc := 6) hx hb dV_withdrawRefusal_6 hl (by decide) rfl (fun ls hl => ?_)
    have hl : lv_has ls 6 [(4, .ref (ad 7 j5)), (0, .ref (ad 0 0)), (1, .int a1), (2, .int a2), (3, .int a3)] := hl
    refine lv_aload_n (pc := 8) hx hb dV_withdrawRefusal_8 rfl (lv_at hl 1 rfl) ?_
    refine lv_iload_n (pc := 9) hx hb dV_withdrawRefusal_9 rfl (lv_at hl 4 rfl) ?_
    refine lv_iconst (pc := 10) (v := 4) hx hb dV_withdrawRefusal_10 (by decide) ?_
    obtain ⟨q10, hq10, eq10⟩ := at_0 (ad := ad) (ca := ca) (σ := σ) hm0
    obtain ⟨y11, hy11, hf⟩ := ob hf
    refine vp_callSi (pc := 11) (W.runV (As := [.int a3, .int 4]) (rest := []) ⟨hx, hb, hml, hown, hts⟩ (t_V_hasRight l dC dI ad ca dom σ a3 4 hm0 hN hC y11 hy11) (cwV 2 hts (gV wd_401 wd_402 wd_403 wd_254 wd_400) rfl rfl rfl (by decide +kernel) ⟨Nat.le_of_ble_eq_true rfl, Nat.le_of_ble_eq_true rfl⟩) ⟨hR_blind, va_recv (q := (RV, TV, 9)) (q0 := q10) (ci := 0) hK.1 hP rfl eq10, hR_pre hP hK hG⟩ rfl rfl hl.1 rfl (lv_room (Nat.le_of_ble_eq_true rfl)) dV_withdrawRefusal_11 ⟨Nat.le_of_ble_eq_true rfl, Nat.le_of_ble_eq_true rfl⟩) (fun r9 hr9 => ?_)
    refine W.eq (g2 := F0 m 14 ls [.int y11]) (by rw [hr9]) ?_
    refine lv_if_ne (pc := 14) (tgt := 19) hx hb dV_withdrawRefusal_14 rfl (fun h12 => ?_) (fun h12 => ?_)
    · replace hf := ite_f h12 hf
      refine lv_aload (pc := 19) hx hb dV_withdrawRefusal_19 (lv_at hl 0 rfl) ?_
      refine lv_ifnonnull (pc := 21) (tgt := 27) hx hb dV_withdrawRefusal_21 rfl ?_
      refine lv_aload (pc := 27) hx hb dV_withdrawRefusal_27 (lv_at hl 0 rfl) ?_
      obtain ⟨q13, hq13, eq13⟩ := at_7 (ad := ad) (ca := ca) (σ := σ) hm9
      refine va_get (D := (dC, dI)) (cl := kCl) (C := RS) (T := TS) (N := 3) (pc := 29) hx hb hts inS hown hK.1 hP q13 eq13 rfl 2 (by decide) (hts _ wd_327) (fun _ h9 => h9) rfl dV_withdrawRefusal_29 ?_
      refine lv_iconst (pc := 32) (v := 3) hx hb dV_withdrawRefusal_32 (by decide) ?_
      refine lv_icmp_ne (pc := 33) (tgt := 38) hx hb dV_withdrawRefusal_33 rfl (fun h14 => ?_) (fun h14 => ?_)
      · replace hf := ite_f h14 hf
        refine lv_aload_n (pc := 38) hx hb dV_withdrawRefusal_38 rfl (lv_at hl 1 rfl) ?_
        refine lv_iload_n (pc := 39) hx hb dV_withdrawRefusal_39 rfl (lv_at hl 2 rfl) ?_
        refine lv_iload_n (pc := 40) hx hb dV_withdrawRefusal_40 rfl (lv_at hl 3 rfl) ?_
        obtain ⟨q15, hq15, eq15⟩ := at_0 (ad := ad) (ca := ca) (σ := σ) hm0
        obtain ⟨y16, hy16, hf⟩ := ob hf
        refine vp_callSi (pc := 41) (W.runV (As := [.int a1, .int a2]) (rest := []) ⟨hx, hb, hml, hown, hts⟩ (t_V_isInABaseline l dC dI ad ca dom n σ a1 a2 hm0 hN hC y16 hy16) (cwV 2 hts (gV wd_420 wd_421 wd_422 wd_254 wd_419) rfl rfl rfl (by decide +kernel) ⟨Nat.le_of_ble_eq_true rfl, Nat.le_of_ble_eq_true rfl⟩) ⟨hR_blind, va_recv (q := (RV, TV, 9)) (q0 := q15) (ci := 0) hK.1 hP rfl eq15, hR_pre hP hK hG⟩ rfl rfl hl.1 rfl (lv_room (Nat.le_of_ble_eq_true rfl)) dV_withdrawRefusal_41 ⟨Nat.le_of_ble_eq_true rfl, Nat.le_of_ble_eq_true rfl⟩) (fun r9 hr9 => ?_)
        refine W.eq (g2 := F0 m 44 ls [.int y16]) (by rw [hr9]) ?_
        obtain ⟨x17, hx17, hf⟩ := lt_9 hf
        refine jnF (τ := (Int32) × (Array Slot)) (fun pc st z => W p l e _ s m _ below meth c H ([]) 0 0 _ (F0 m pc z.2 st)) (pc0 := 44) (st0 := [.int y16]) (z0 := (0, ls)) 61 (fun z => [.int z.1]) (fun z => lv_has z.2 6 [(4, .ref (ad 7 j5)), (0, .ref (ad 0 0)), (1, .int a1), (2, .int a2), (3, .int a3)]) (fun z => x17 z.1) ρ ?_ ?_
        · intro hJx17
          dsimp only at hJx17 ⊢
          refine lv_if_ne (pc := 44) (tgt := 56) hx hb dV_withdrawRefusal_44 rfl (fun h19 => ?_) (fun h19 => ?_)
          · replace hf := ite_f h19 hf
            refine lv_iconst (pc := 56) (v := 1) hx hb dV_withdrawRefusal_56 (by decide) ?_
            refine lv_goto (pc := 57) (tgt := 61) hx hb dV_withdrawRefusal_57 rfl ?_
            have hl := lv_sub hl (l' := [(4, .ref (ad 7 j5)), (0, .ref (ad 0 0)), (1, .int a1), (2, .int a2), (3, .int a3)]) [0, 1, 2, 3, 4] rfl
            exact hJx17 (1, ls) hl hf
          · replace hf := ite_t h19 hf
            refine lv_aload_n (pc := 47) hx hb dV_withdrawRefusal_47 rfl (lv_at hl 1 rfl) ?_
            refine lv_iload_n (pc := 48) hx hb dV_withdrawRefusal_48 rfl (lv_at hl 2 rfl) ?_
            refine lv_iload_n (pc := 49) hx hb dV_withdrawRefusal_49 rfl (lv_at hl 3 rfl) ?_
            obtain ⟨q20, hq20, eq20⟩ := at_0 (ad := ad) (ca := ca) (σ := σ) hm0
            obtain ⟨y21, hy21, hf⟩ := ob hf
            refine vp_callSi (pc := 50) (W.runV (As := [.int a1, .int a2]) (rest := []) ⟨hx, hb, hml, hown, hts⟩ (t_V_isFixedByAReleasedOne l dC dI ad ca dom n σ a1 a2 hm0 hN hC y21 hy21) (cwV 2 hts (gV wd_424 wd_425 wd_426 wd_254 wd_423) rfl rfl rfl (by decide +kernel) ⟨Nat.le_of_ble_eq_true rfl, Nat.le_of_ble_eq_true rfl⟩) ⟨hR_blind, va_recv (q := (RV, TV, 9)) (q0 := q20) (ci := 0) hK.1 hP rfl eq20, hR_pre hP hK hG⟩ rfl rfl hl.1 rfl (lv_room (Nat.le_of_ble_eq_true rfl)) dV_withdrawRefusal_50 ⟨Nat.le_of_ble_eq_true rfl, Nat.le_of_ble_eq_true rfl⟩) (fun r9 hr9 => ?_)
            refine W.eq (g2 := F0 m 53 ls [.int y21]) (by rw [hr9]) ?_
            refine lv_if_eq (pc := 53) (tgt := 60) hx hb dV_withdrawRefusal_53 rfl (fun h22 => ?_) (fun h22 => ?_)
            · replace hf := ite_t h22 hf
              refine lv_iconst (pc := 60) (v := 0) hx hb dV_withdrawRefusal_60 (by decide) ?_
              have hl := lv_sub hl (l' := [(4, .ref (ad 7 j5)), (0, .ref (ad 0 0)), (1, .int a1), (2, .int a2), (3, .int a3)]) [0, 1, 2, 3, 4] rfl
              exact hJx17 (0, ls) hl hf
            · replace hf := ite_f h22 hf
              refine lv_iconst (pc := 56) (v := 1) hx hb dV_withdrawRefusal_56 (by decide) ?_
              refine lv_goto (pc := 57) (tgt := 61) hx hb dV_withdrawRefusal_57 rfl ?_
              have hl := lv_sub hl (l' := [(4, .ref (ad 7 j5)), (0, .ref (ad 0 0)), (1, .int a1), (2, .int a2), (3, .int a3)]) [0, 1, 2, 3, 4] rfl
              exact hJx17 (1, ls) hl hf
        · rintro ⟨s18, ls⟩ hl hf
          dsimp only at hl hf ⊢
          rw [hx17] at hf
          have hl : lv_has ls 6 [(4, .ref (ad 7 j5)), (0, .ref (ad 0 0)), (1, .int a1), (2, .int a2), (3, .int a3)] := hl
          refine lv_istore (pc := 61) hx hb dV_withdrawRefusal_61 hl (by decide) rfl (fun ls hl => ?_)
          have hl : lv_has ls 6 [(5, .int s18), (4, .ref (ad 7 j5)), (0, .ref (ad 0 0)), (1, .int a1), (2, .int a2), (3, .int a3)] := hl
          refine lv_iload (pc := 63) hx hb dV_withdrawRefusal_63 (lv_at hl 0 rfl) ?_
          refine lv_if_eq (pc := 65) (tgt := 72) hx hb dV_withdrawRefusal_65 rfl (fun h23 => ?_) (fun h23 => ?_)
          · replace hf := ite_t h23 hf
            refine lv_iconst (pc := 72) (v := 0) hx hb dV_withdrawRefusal_72 (by decide) ?_
            exact W.iret (pc := 73) hx hb hr (fun t ht hW => ⟨_, rfl, (Option.some.inj hf), ht.trans hH⟩) (fun q h => nomatch h) dV_withdrawRefusal_73
          · replace hf := ite_f h23 hf
            refine lv_iconst (pc := 68) (v := 5) hx hb dV_withdrawRefusal_68 (by decide) ?_
            refine lv_goto (pc := 69) (tgt := 73) hx hb dV_withdrawRefusal_69 rfl ?_
            exact W.iret (pc := 73) hx hb hr (fun t ht hW => ⟨_, rfl, (Option.some.inj hf), ht.trans hH⟩) (fun q h => nomatch h) dV_withdrawRefusal_73
      · replace hf := ite_t h14 hf
        refine lv_iconst (pc := 36) (v := 2) hx hb dV_withdrawRefusal_36 (by decide) ?_
        exact W.iret (pc := 37) hx hb hr (fun t ht hW => ⟨_, rfl, (Option.some.inj hf), ht.trans hH⟩) (fun q h => nomatch h) dV_withdrawRefusal_37
    · replace hf := ite_t h12 hf
      refine lv_iconst (pc := 17) (v := 1) hx hb dV_withdrawRefusal_17 (by decide) ?_
      exact W.iret (pc := 18) hx hb hr (fun t ht hW => ⟨_, rfl, (Option.some.inj hf), ht.trans hH⟩) (fun q h => nomatch h) dV_withdrawRefusal_18
def V_follow_L10 (n : Nat) (kx8 : hT → Int32 → Int32 → Nat → Option (Int32 × hT)) : Nat → hT → Int32 → Int32 → Nat → Option (Int32 × hT)
  | 0, _, _, _, _ => none
  | k + 1, σ3, p4, p5, j6 => if (xI σ3 604 (3 * j6 + 2) 0) ≤ p4 then kx8 (σ3) p4 p5 j6 else if in9 p4 6 then if in9 p4 6 then Option.bind (V_resolved n σ3 (xI σ3 21 (3 * j6 + 2) (p4).toNatClampNeg) (xI σ3 22 (3 * j6 + 2) (p4).toNatClampNeg)) fun y22 => Option.bind (V_isReleased σ3 (xI σ3 21 (3 * j6 + 2) (p4).toNatClampNeg) y22) fun y24 => if y24 = 0 then V_follow_L10 n kx8 k (σ3) (p4 + 1) 4 j6 else hq (xR σ3 105 0 0) (none) fun j28 => Option.bind (B_takes σ3 j28 (xI σ3 21 (3 * j6 + 2) (p4).toNatClampNeg) y22) fun ⟨y31, σ32⟩ => if y31 = 0 then some (2, σ32) else V_follow_L10 n kx8 k (σ32) (p4 + 1) p5 j6 else none else none
def V_follow (n : Nat) (σ : hT) (o1 : Option Nat) : Option (Int32 × hT) := hq o1 (some (0, σ)) fun j2 => lt9 (α := hT → Int32 → Int32 → Nat → Option (Int32 × hT)) (fun (σ3 : hT) (p4 : Int32) (p5 : Int32) (j6 : Nat) => some (p5, σ3)) fun kx8 => V_follow_L10 n kx8 n (σ) 0 0 j2
set_option maxHeartbeats 4000000 in
set_option maxRecDepth 100000 in
theorem t_V_follow (l : Launch) (dC : Nat → ClassId) (dI : Nat → Nat → Nat) (ad : Nat → Nat → Nat) (ca : Nat → Nat → ClassId) (dom : List (Nat × Nat)) (sz : Nat) (n : Nat) (σ : hT) (o1 : Option Nat) (hm0 : (0, 0) ∈ dom) (hm1 : ∀ j, o1 = some j → (7, j) ∈ dom) (hN : dom.Nodup) (hC : clo dom σ.2.2) (ρ : Int32) (σ' : hT) (hf : V_follow n σ o1 = some (ρ, σ')) : Met l yV_follow (.code yV_follow cV_follow 6 (some .int) :: aw) ({ frames := 3, cells := 0, slots := 0, locals := 67 }) (hW (dC, dI) sz ad ca dom σ [.ref (ad 0 0), (va_re (ad 7) o1)]) (va_Qi (fun r (_ : Unit) => r = ρ) (fun _ t => hB (dC, dI) (va_A (w9 ad ca dom σ) sz) ad ca dom σ' t) (va_A (w9 ad ca dom σ) sz)) 0 0 (va_A (w9 ad ca dom σ) sz) := by
  refine Met.ofW (cc := cV_follow) (maxL := 6) (ret := (some .int)) (by decide) rfl ?_
  intro p e s m args below meth c s₁ B hml hv
  obtain ⟨rfl, hv⟩ := hv
  have hx := B.exec
  have hb := B.bytes
  have hr := B.returns
  have hts : ∀ w ∈ aw, w.before _ s = true := fun w h => atoms_spec (ws := (.code yV_follow cV_follow 6 (some .int) :: aw)) B.pre w (List.mem_cons_of_mem _ h)
  have hown : s.vm.findClass RV = some m.cls := findClass_of_methodNamed B.named
  have hlocks := B.notSynchronized
  obtain ⟨hsz, hP, hK, hD0, hG⟩ := hv
  subst hsz
  have hD := hD0.self (sz := s.heap.size)
  generalize hAe : va_A (w9 ad ca dom σ) s.heap.size = A at hD ⊢
  have hA : ∀ q : Nat, s.heap.size ≤ q → A q := fun q h => by rw [← hAe]; exact Or.inr h
  obtain ⟨H, hH⟩ : ∃ H, H = s.heap := ⟨_, rfl⟩
  have hS : va_S A s.heap H [] := by rw [hH]; exact va_S.rf
  rw [← hH] at hP ⊢
  unfold V_follow at hf
  rcases hE1 : o1 with _ | j2
  · replace hf := hq_n hE1 hf
    rw [hE1] at hts
    have hl := lv_entry ([.ref (ad 0 0), (va_re (ad 7) none)]) (n := 6) (Nat.le_of_ble_eq_true rfl)
    rw [lg_entry_eq]
    generalize (lg_sl ([.ref (ad 0 0), (va_re (ad 7) none)]) ++ List.replicate (6 - (lg_sl ([.ref (ad 0 0), (va_re (ad 7) none)])).length) Slot.unset).toArray = ls at hl ⊢
    have hl : lv_has ls 6 [(0, .ref (ad 0 0)), (1, .null)] := hl
    refine lv_aload_nN (pc := 0) hx hb dV_follow_0 rfl (lv_at hl 1 rfl) ?_
    refine lv_ifnonnullN (pc := 1) hx hb dV_follow_1 ?_
    refine lv_iconst (pc := 4) (v := 0) hx hb dV_follow_4 (by decide) ?_
    obtain ⟨h8, h9⟩ := Prod.mk.inj (Option.some.inj hf)
    subst h9
    exact W.iret (pc := 5) hx hb hr (fun t ht hW => ⟨⟨_, (), rfl, h8, by rw [ht]; exact hP, hD, hC⟩, hS.F ht⟩) hS.2.2 dV_follow_5
  · replace hf := hq_s hE1 hf
    rw [hE1] at hts
    have hl := lv_entry ([.ref (ad 0 0), (va_re (ad 7) (some j2))]) (n := 6) (Nat.le_of_ble_eq_true rfl)
    rw [lg_entry_eq]
    generalize (lg_sl ([.ref (ad 0 0), (va_re (ad 7) (some j2))]) ++ List.replicate (6 - (lg_sl ([.ref (ad 0 0), (va_re (ad 7) (some j2))])).length) Slot.unset).toArray = ls at hl ⊢
    have hl : lv_has ls 6 [(0, .ref (ad 0 0)), (1, .ref (ad 7 j2))] := hl
    refine lv_aload_n (pc := 0) hx hb dV_follow_0 rfl (lv_at hl 1 rfl) ?_
    refine lv_ifnonnull (pc := 1) (tgt := 6) hx hb dV_follow_1 rfl ?_
    refine lv_iconst (pc := 6) (v := 0) hx hb dV_follow_6 (by decide) ?_
    refine lv_istore_n (pc := 7) hx hb dV_follow_7 rfl hl (by decide) rfl (fun ls hl => ?_)
    have hl : lv_has ls 6 [(2, .int 0), (0, .ref (ad 0 0)), (1, .ref (ad 7 j2))] := hl
    refine lv_iconst (pc := 8) (v := 0) hx hb dV_follow_8 (by decide) ?_
    refine lv_istore_n (pc := 9) hx hb dV_follow_9 rfl hl (by decide) rfl (fun ls hl => ?_)
    have hl : lv_has ls 6 [(3, .int 0), (2, .int 0), (0, .ref (ad 0 0)), (1, .ref (ad 7 j2))] := hl
    obtain ⟨kx8, hkx8, hf⟩ := lt_9 hf
    refine lpF (τ := (hT) × (Int32) × (Int32) × (Nat) × (Heap) × (List Loc) × (Array Slot)) (fun pc z => W p l e _ s m _ below meth c z.2.2.2.2.1 z.2.2.2.2.2.1 0 0 _ (F0 m pc z.2.2.2.2.2.2 [])) 10 87 (fun z => va_P (dC, dI) kCl (w9 ad ca dom z.1) z.2.2.2.2.1 ∧ va_D A (w9 ad ca dom z.1) ∧ va_S A s.heap z.2.2.2.2.1 z.2.2.2.2.2.1 ∧ clo dom z.1.2.2 ∧ lv_has z.2.2.2.2.2.2 6 [(3, .int z.2.1), (2, .int z.2.2.1), (0, .ref (ad 0 0)), (1, .ref (ad 7 z.2.2.2.1))] ∧ (7, z.2.2.2.1) ∈ dom) (fun k z => V_follow_L10 n kx8 k z.1 z.2.1 z.2.2.1 z.2.2.2.1) (fun z => kx8 z.1 z.2.1 z.2.2.1 z.2.2.2.1) _ (fun z => rfl) ?_ ?_ n (σ, 0, 0, j2, H, _, ls) ⟨hP, hD, hS, hC, hl, (hm1 _ hE1)⟩ hf
    · rintro k ⟨σ3, p4, p5, j6, H, locs, ls⟩ ⟨hP, hD, hS, hC, hl, hm7⟩ hf ih9 hXkx8
      dsimp only at hP hD hS hC hl hm7 hf ih9 hXkx8 ⊢
      unfold V_follow_L10 at hf
      have hl : lv_has ls 6 [(3, .int p4), (2, .int p5), (0, .ref (ad 0 0)), (1, .ref (ad 7 j6))] := hl
      refine lv_iload_n (pc := 10) hx hb dV_follow_10 rfl (lv_at hl 0 rfl) ?_
      refine lv_aload_n (pc := 11) hx hb dV_follow_11 rfl (lv_at hl 3 rfl) ?_
      obtain ⟨q10, hq10, eq10⟩ := at_7 (ad := ad) (ca := ca) (σ := σ3) hm7
      refine va_get (D := (dC, dI)) (cl := kCl) (C := RS) (T := TS) (N := 3) (pc := 12) hx hb hts inS hown hK.1 hP q10 eq10 rfl 0 (by decide) (hts _ wd_345) (fun _ h9 => h9) rfl dV_follow_12 ?_
      obtain ⟨q11, hq11, eq11⟩ := at_5 (ad := ad) (ca := ca) (σ := σ3) (cm_7_0 hC hm7)
      refine va_get (D := (dC, dI)) (cl := kCl) (C := RC) (T := TC) (N := 5) (pc := 15) hx hb hts inC hown hK.1 hP q11 eq11 rfl 4 (by decide) (hts _ wd_332) (fun _ h9 => h9) rfl dV_follow_15 ?_
      refine lv_icmp_ge (pc := 18) (tgt := 87) hx hb dV_follow_18 rfl (fun h12 => ?_) (fun h12 => ?_)
      · replace hf := ite_t h12 hf
        have hl := lv_sub hl (l' := [(3, .int p4), (2, .int p5), (0, .ref (ad 0 0)), (1, .ref (ad 7 j6))]) [0, 1, 2, 3] rfl
        exact hXkx8 (σ3, p4, p5, j6, H, _, ls) ⟨hP, hD, hS, hC, hl, hm7⟩ hf
      · replace hf := ite_f h12 hf
        refine lv_aload_n (pc := 21) hx hb dV_follow_21 rfl (lv_at hl 3 rfl) ?_
        obtain ⟨q13, hq13, eq13⟩ := at_7 (ad := ad) (ca := ca) (σ := σ3) hm7
        refine va_get (D := (dC, dI)) (cl := kCl) (C := RS) (T := TS) (N := 3) (pc := 22) hx hb hts inS hown hK.1 hP q13 eq13 rfl 0 (by decide) (hts _ wd_345) (fun _ h9 => h9) rfl dV_follow_22 ?_
        obtain ⟨q14, hq14, eq14⟩ := at_5 (ad := ad) (ca := ca) (σ := σ3) (cm_7_0 hC hm7)
        refine va_get (D := (dC, dI)) (cl := kCl) (C := RC) (T := TC) (N := 5) (pc := 25) hx hb hts inC hown hK.1 hP q14 eq14 rfl 2 (by decide) (hts _ wd_333) (fun _ h9 => h9) rfl dV_follow_25 ?_
        refine lv_iload_n (pc := 28) hx hb dV_follow_28 rfl (lv_at hl 0 rfl) ?_
        obtain ⟨hv15, hf⟩ := ite_s hf
        obtain ⟨q16, hq16, eq16⟩ := at_21 (ad := ad) (ca := ca) (σ := σ3) (cm_5_2 hC (cm_7_0 hC hm7))
        refine va_iald (D := (dC, dI)) (cl := kCl) (pc := 29) hx hb (hK.2 21 (3 * j6 + 2) .int (cm_5_2 hC (cm_7_0 hC hm7)) rfl) hP q16 0 eq16 rfl (hv15) dV_follow_29 ?_
        refine W.eq (g2 := F0 m 30 ls [.int (xI σ3 21 (3 * j6 + 2) (p4).toNatClampNeg)]) rfl ?_
        refine lv_istore (pc := 30) hx hb dV_follow_30 hl (by decide) rfl (fun ls hl => ?_)
        have hl : lv_has ls 6 [(4, .int (xI σ3 21 (3 * j6 + 2) (p4).toNatClampNeg)), (3, .int p4), (2, .int p5), (0, .ref (ad 0 0)), (1, .ref (ad 7 j6))] := hl
        refine lv_aload_n (pc := 32) hx hb dV_follow_32 rfl (lv_at hl 3 rfl) ?_
        refine lv_iload (pc := 33) hx hb dV_follow_33 (lv_at hl 0 rfl) ?_
        refine lv_aload_n (pc := 35) hx hb dV_follow_35 rfl (lv_at hl 4 rfl) ?_
        obtain ⟨q17, hq17, eq17⟩ := at_7 (ad := ad) (ca := ca) (σ := σ3) hm7
        refine va_get (D := (dC, dI)) (cl := kCl) (C := RS) (T := TS) (N := 3) (pc := 36) hx hb hts inS hown hK.1 hP q17 eq17 rfl 0 (by decide) (hts _ wd_345) (fun _ h9 => h9) rfl dV_follow_36 ?_
        obtain ⟨q18, hq18, eq18⟩ := at_5 (ad := ad) (ca := ca) (σ := σ3) (cm_7_0 hC hm7)
        refine va_get (D := (dC, dI)) (cl := kCl) (C := RC) (T := TC) (N := 5) (pc := 39) hx hb hts inC hown hK.1 hP q18 eq18 rfl 3 (by decide) (hts _ wd_334) (fun _ h9 => h9) rfl dV_follow_39 ?_
        refine lv_iload_n (pc := 42) hx hb dV_follow_42 rfl (lv_at hl 1 rfl) ?_
        obtain ⟨hv19, hf⟩ := ite_s hf
        obtain ⟨q20, hq20, eq20⟩ := at_22 (ad := ad) (ca := ca) (σ := σ3) (cm_5_3 hC (cm_7_0 hC hm7))
        refine va_iald (D := (dC, dI)) (cl := kCl) (pc := 43) hx hb (hK.2 22 (3 * j6 + 2) .int (cm_5_3 hC (cm_7_0 hC hm7)) rfl) hP q20 0 eq20 rfl (hv19) dV_follow_43 ?_
        refine W.eq (g2 := F0 m 44 ls [.int (xI σ3 22 (3 * j6 + 2) (p4).toNatClampNeg), .int (xI σ3 21 (3 * j6 + 2) (p4).toNatClampNeg), .ref (ad 0 0)]) rfl ?_
        obtain ⟨q21, hq21, eq21⟩ := at_0 (ad := ad) (ca := ca) (σ := σ3) hm0
        obtain ⟨y22, hy22, hf⟩ := ob hf
        refine vp_callSi (pc := 44) (W.runV (As := [.int (xI σ3 21 (3 * j6 + 2) (p4).toNatClampNeg), .int (xI σ3 22 (3 * j6 + 2) (p4).toNatClampNeg)]) (rest := []) ⟨hx, hb, hml, hown, hts⟩ (t_V_resolved l dC dI ad ca dom n σ3 (xI σ3 21 (3 * j6 + 2) (p4).toNatClampNeg) (xI σ3 22 (3 * j6 + 2) (p4).toNatClampNeg) hm0 hN hC y22 hy22) (cwV 2 hts (gV wd_336 wd_337 wd_338 wd_254 wd_335) rfl rfl rfl (by decide +kernel) ⟨Nat.le_of_ble_eq_true rfl, Nat.le_of_ble_eq_true rfl⟩) ⟨hR_blind, va_recv (q := (RV, TV, 9)) (q0 := q21) (ci := 0) hK.1 hP rfl eq21, hR_pre hP hK hG⟩ rfl rfl hl.1 rfl (lv_room (Nat.le_of_ble_eq_true rfl)) dV_follow_44 ⟨Nat.le_of_ble_eq_true rfl, Nat.le_of_ble_eq_true rfl⟩) (fun r9 hr9 => ?_)
        refine W.eq (g2 := F0 m 47 ls [.int y22]) (by rw [hr9]) ?_
        refine lv_istore (pc := 47) hx hb dV_follow_47 hl (by decide) rfl (fun ls hl => ?_)
        have hl : lv_has ls 6 [(5, .int y22), (4, .int (xI σ3 21 (3 * j6 + 2) (p4).toNatClampNeg)), (3, .int p4), (2, .int p5), (0, .ref (ad 0 0)), (1, .ref (ad 7 j6))] := hl
        refine lv_aload_n (pc := 49) hx hb dV_follow_49 rfl (lv_at hl 4 rfl) ?_
        refine lv_iload (pc := 50) hx hb dV_follow_50 (lv_at hl 1 rfl) ?_
        refine lv_iload (pc := 52) hx hb dV_follow_52 (lv_at hl 0 rfl) ?_
        obtain ⟨q23, hq23, eq23⟩ := at_0 (ad := ad) (ca := ca) (σ := σ3) hm0
        obtain ⟨y24, hy24, hf⟩ := ob hf
        refine vp_callSi (pc := 54) (W.runV (As := [.int (xI σ3 21 (3 * j6 + 2) (p4).toNatClampNeg), .int y22]) (rest := []) ⟨hx, hb, hml, hown, hts⟩ (t_V_isReleased l dC dI ad ca dom σ3 (xI σ3 21 (3 * j6 + 2) (p4).toNatClampNeg) y22 hm0 hN hC y24 hy24) (cwV 2 hts (gV wd_340 wd_341 wd_342 wd_254 wd_339) rfl rfl rfl (by decide +kernel) ⟨Nat.le_of_ble_eq_true rfl, Nat.le_of_ble_eq_true rfl⟩) ⟨hR_blind, va_recv (q := (RV, TV, 9)) (q0 := q23) (ci := 0) hK.1 hP rfl eq23, hR_pre hP hK hG⟩ rfl rfl hl.1 rfl (lv_room (Nat.le_of_ble_eq_true rfl)) dV_follow_54 ⟨Nat.le_of_ble_eq_true rfl, Nat.le_of_ble_eq_true rfl⟩) (fun r9 hr9 => ?_)
        refine W.eq (g2 := F0 m 57 ls [.int y24]) (by rw [hr9]) ?_
        refine lv_if_ne (pc := 57) (tgt := 65) hx hb dV_follow_57 rfl (fun h25 => ?_) (fun h25 => ?_)
        · replace hf := ite_f h25 hf
          refine lv_aload_n (pc := 65) hx hb dV_follow_65 rfl (lv_at hl 4 rfl) ?_
          obtain ⟨q26, hq26, eq26⟩ := at_0 (ad := ad) (ca := ca) (σ := σ3) hm0
          refine va_get (D := (dC, dI)) (cl := kCl) (C := RV) (T := TV) (N := 9) (pc := 66) hx hb hts inV hown hK.1 hP q26 eq26 rfl 5 (by decide) (hts _ wd_427) (fun _ h9 => h9) rfl dV_follow_66 ?_
          rcases hE27 : xR σ3 105 0 0 with _ | j28
          · replace hf := hq_n hE27 hf
            refine W.eq (g2 := F0 m 69 ls [.null]) rfl ?_
            refine lv_iload (pc := 69) hx hb dV_follow_69 (lv_at hl 1 rfl) ?_
            refine lv_iload (pc := 71) hx hb dV_follow_71 (lv_at hl 0 rfl) ?_
            exact nomatch hf
          · replace hf := hq_s hE27 hf
            have hm29 : (1, j28) ∈ dom := (cq_0_5 hC hm0 hE27)
            refine W.eq (g2 := F0 m 69 ls [.ref (ad 1 j28)]) rfl ?_
            refine lv_iload (pc := 69) hx hb dV_follow_69 (lv_at hl 1 rfl) ?_
            refine lv_iload (pc := 71) hx hb dV_follow_71 (lv_at hl 0 rfl) ?_
            obtain ⟨q30, hq30, eq30⟩ := at_1 (ad := ad) (ca := ca) (σ := σ3) hm29
            obtain ⟨⟨y31, σ32⟩, hy31, hf⟩ := ob hf
            have hFc := w9_free hD hS hA
            refine va_calli (pc := 73) (va_runV (As := [.int (xI σ3 21 (3 * j6 + 2) (p4).toNatClampNeg), .int y22]) (rest := []) ⟨hx, hb, hml, hown, hts⟩ (t_B_takes l dC dI ad ca dom H.size σ3 j28 (xI σ3 21 (3 * j6 + 2) (p4).toNatClampNeg) y22 hm29 hN hC y31 σ32 hy31) (cwV 2 hts (gV wd_429 wd_430 wd_431 wd_378 wd_428) rfl rfl rfl (by decide +kernel) ⟨Nat.le_of_ble_eq_true rfl, Nat.le_of_ble_eq_true rfl⟩) ⟨hW_blind, va_recv (q := (RB, TB, 3)) (q0 := q30) (ci := 1) hK.1 hP rfl eq30, hW_pre hP hK hD hG⟩ rfl rfl hl.1 rfl (lv_room (Nat.le_of_ble_eq_true rfl)) dV_follow_73 ⟨Nat.le_of_ble_eq_true rfl, Nat.le_of_ble_eq_true rfl⟩) hS (fun q _ h => hFc q h) hFc (fun r9 u t H1 locs ht hvm hr9 hB hz1 hk1 hS => ?_)
            obtain ⟨hP, hD, hC⟩ := hB
            rw [ht] at hP
            replace hD := hD.weaken (fun _ _ _ h => hFc _ h)
            generalize H1 = H at hP hS ⊢
            refine W.eq (g2 := F0 m 76 ls [.int y31]) (by rw [hr9]) ?_
            refine lv_if_ne (pc := 76) (tgt := 81) hx hb dV_follow_76 rfl (fun h33 => ?_) (fun h33 => ?_)
            · replace hf := ite_f h33 hf
              refine lv_iinc (pc := 81) (v := (p4 + 1)) hx hb dV_follow_81 hl (k := 2) rfl (by rfl) (by decide) rfl (fun ls hl => ?_)
              have hl : lv_has ls 6 [(3, .int (p4 + 1)), (5, .int y22), (4, .int (xI σ3 21 (3 * j6 + 2) (p4).toNatClampNeg)), (2, .int p5), (0, .ref (ad 0 0)), (1, .ref (ad 7 j6))] := hl
              refine lv_goto (pc := 84) (tgt := 10) hx hb dV_follow_84 rfl ?_
              have hl := lv_sub hl (l' := [(3, .int (p4 + 1)), (2, .int p5), (0, .ref (ad 0 0)), (1, .ref (ad 7 j6))]) [0, 3, 4, 5] rfl
              exact ih9 (σ32, (p4 + 1), p5, j6, H, _, ls) ⟨hP, hD, hS, hC, hl, hm7⟩ hf
            · replace hf := ite_t h33 hf
              refine lv_iconst (pc := 79) (v := 2) hx hb dV_follow_79 (by decide) ?_
              obtain ⟨h8, h9⟩ := Prod.mk.inj (Option.some.inj hf)
              subst h9
              exact W.iret (pc := 80) hx hb hr (fun t ht hW => ⟨⟨_, (), rfl, h8, by rw [ht]; exact hP, hD, hC⟩, hS.F ht⟩) hS.2.2 dV_follow_80
        · replace hf := ite_t h25 hf
          refine lv_iconst (pc := 60) (v := 4) hx hb dV_follow_60 (by decide) ?_
          refine lv_istore_n (pc := 61) hx hb dV_follow_61 rfl hl (by decide) rfl (fun ls hl => ?_)
          have hl : lv_has ls 6 [(2, .int 4), (5, .int y22), (4, .int (xI σ3 21 (3 * j6 + 2) (p4).toNatClampNeg)), (3, .int p4), (0, .ref (ad 0 0)), (1, .ref (ad 7 j6))] := hl
          refine lv_goto (pc := 62) (tgt := 81) hx hb dV_follow_62 rfl ?_
          refine lv_iinc (pc := 81) (v := (p4 + 1)) hx hb dV_follow_81 hl (k := 3) rfl (by rfl) (by decide) rfl (fun ls hl => ?_)
          have hl : lv_has ls 6 [(3, .int (p4 + 1)), (2, .int 4), (5, .int y22), (4, .int (xI σ3 21 (3 * j6 + 2) (p4).toNatClampNeg)), (0, .ref (ad 0 0)), (1, .ref (ad 7 j6))] := hl
          refine lv_goto (pc := 84) (tgt := 10) hx hb dV_follow_84 rfl ?_
          have hl := lv_sub hl (l' := [(3, .int (p4 + 1)), (2, .int 4), (0, .ref (ad 0 0)), (1, .ref (ad 7 j6))]) [0, 1, 4, 5] rfl
          exact ih9 (σ3, (p4 + 1), 4, j6, H, _, ls) ⟨hP, hD, hS, hC, hl, hm7⟩ hf
    · rintro ⟨σ3, p4, p5, j6, H, locs, ls⟩ ⟨hP, hD, hS, hC, hl, hm7⟩ hf
      dsimp only at hP hD hS hC hl hm7 hf ⊢
      rw [hkx8] at hf
      have hl : lv_has ls 6 [(3, .int p4), (2, .int p5), (0, .ref (ad 0 0)), (1, .ref (ad 7 j6))] := hl
      refine lv_iload_n (pc := 87) hx hb dV_follow_87 rfl (lv_at hl 1 rfl) ?_
      obtain ⟨h8, h9⟩ := Prod.mk.inj (Option.some.inj hf)
      subst h9
      exact W.iret (pc := 88) hx hb hr (fun t ht hW => ⟨⟨_, (), rfl, h8, by rw [ht]; exact hP, hD, hC⟩, hS.F ht⟩) hS.2.2 dV_follow_88
def V_fillDraft_L22 (n : Nat) (kx14 : hT → Int32 → Int32 → Int32 → Int32 → Option (Int32 × hT)) : Nat → hT → Int32 → Int32 → Int32 → Int32 → Option (Int32 × hT)
  | 0, _, _, _, _, _ => none
  | k + 1, σ9, p10, p11, p12, p13 => hq (xR σ9 105 0 0) (none) fun j18 => if (xI σ9 202 j18 0) ≤ p10 then kx14 (σ9) p10 p11 p12 p13 else if 24 ≤ p10 then kx14 (σ9) p10 p11 p12 p13 else hq (xR σ9 105 0 0) (none) fun j25 => if in9 p10 24 then hq (xR σ9 105 0 0) (none) fun j32 => if in9 (xI σ9 12 j25 (p10).toNatClampNeg) 24 then Option.bind (V_revisionAt σ9 (xI σ9 12 j25 (p10).toNatClampNeg) (xI σ9 11 j32 ((xI σ9 12 j25 (p10).toNatClampNeg)).toNatClampNeg)) fun y38 => hq y38 (Option.bind (V_follow n σ9 none) fun ⟨y43, σ44⟩ => if y43 = 2 then some (2, σ44) else V_fillDraft_L22 n kx14 k (σ44) (p10 + 1) (if p11 < y43 then y43 else p11) p12 p13) fun j41 => Option.bind (V_follow n σ9 (some j41)) fun ⟨y48, σ49⟩ => if y48 = 2 then some (2, σ49) else V_fillDraft_L22 n kx14 k (σ49) (p10 + 1) (if p11 < y48 then y48 else p11) p12 p13 else none else none
def V_fillDraft (n : Nat) (σ : hT) (a1 : Int32) (a2 : Int32) : Option (Int32 × hT) := if a2 = (-1) then some (2, σ) else hq (xR σ 105 0 0) (none) fun j4 => Option.bind (B_takes σ j4 a1 a2) fun ⟨y7, σ8⟩ => lt9 (α := hT → Int32 → Int32 → Int32 → Int32 → Option (Int32 × hT)) (fun (σ9 : hT) (p10 : Int32) (p11 : Int32) (p12 : Int32) (p13 : Int32) => some (p11, σ9)) fun kx14 => V_fillDraft_L22 n kx14 n (σ8) 0 0 a1 a2
set_option maxHeartbeats 4000000 in
set_option maxRecDepth 100000 in
theorem t_V_fillDraft (l : Launch) (dC : Nat → ClassId) (dI : Nat → Nat → Nat) (ad : Nat → Nat → Nat) (ca : Nat → Nat → ClassId) (dom : List (Nat × Nat)) (sz : Nat) (n : Nat) (σ : hT) (a1 : Int32) (a2 : Int32) (hm0 : (0, 0) ∈ dom) (hN : dom.Nodup) (hC : clo dom σ.2.2) (ρ : Int32) (σ' : hT) (hf : V_fillDraft n σ a1 a2 = some (ρ, σ')) : Met l yV_fillDraft (.code yV_fillDraft cV_fillDraft 7 (some .int) :: aw) ({ frames := 4, cells := 0, slots := 0, locals := 92 }) (hW (dC, dI) sz ad ca dom σ [.ref (ad 0 0), .int a1, .int a2]) (va_Qi (fun r (_ : Unit) => r = ρ) (fun _ t => hB (dC, dI) (va_A (w9 ad ca dom σ) sz) ad ca dom σ' t) (va_A (w9 ad ca dom σ) sz)) 0 0 (va_A (w9 ad ca dom σ) sz) := by
  refine Met.ofW (cc := cV_fillDraft) (maxL := 7) (ret := (some .int)) (by decide) rfl ?_
  intro p e s m args below meth c s₁ B hml hv
  obtain ⟨rfl, hv⟩ := hv
  have hx := B.exec
  have hb := B.bytes
  have hr := B.returns
  have hts : ∀ w ∈ aw, w.before _ s = true := fun w h => atoms_spec (ws := (.code yV_fillDraft cV_fillDraft 7 (some .int) :: aw)) B.pre w (List.mem_cons_of_mem _ h)
  have hown : s.vm.findClass RV = some m.cls := findClass_of_methodNamed B.named
  have hlocks := B.notSynchronized
  obtain ⟨hsz, hP, hK, hD0, hG⟩ := hv
  subst hsz
  have hD := hD0.self (sz := s.heap.size)
  generalize hAe : va_A (w9 ad ca dom σ) s.heap.size = A at hD ⊢
  have hA : ∀ q : Nat, s.heap.size ≤ q → A q := fun q h => by rw [← hAe]; exact Or.inr h
  obtain ⟨H, hH⟩ : ∃ H, H = s.heap := ⟨_, rfl⟩
  have hS : va_S A s.heap H [] := by rw [hH]; exact va_S.rf
  rw [← hH] at hP ⊢
  unfold V_fillDraft at hf
  have hl := lv_entry ([.ref (ad 0 0), .int a1, .int a2]) (n := 7) (Nat.le_of_ble_eq_true rfl)
  rw [lg_entry_eq]
  generalize (lg_sl ([.ref (ad 0 0), .int a1, .int a2]) ++ List.replicate (7 - (lg_sl ([.ref (ad 0 0), .int a1, .int a2])).length) Slot.unset).toArray = ls at hl ⊢
  have hl : lv_has ls 7 [(0, .ref (ad 0 0)), (1, .int a1), (2, .int a2)] := hl
  refine lv_iload_n (pc := 0) hx hb dV_fillDraft_0 rfl (lv_at hl 2 rfl) ?_
  refine lv_iconst (pc := 1) (v := (-1)) hx hb dV_fillDraft_1 (by decide) ?_
  refine lv_icmp_ne (pc := 2) (tgt := 7) hx hb dV_fillDraft_2 rfl (fun h1 => ?_) (fun h1 => ?_)
  · replace hf := ite_f h1 hf
    refine lv_aload_n (pc := 7) hx hb dV_fillDraft_7 rfl (lv_at hl 0 rfl) ?_
    obtain ⟨q2, hq2, eq2⟩ := at_0 (ad := ad) (ca := ca) (σ := σ) hm0
    refine va_get (D := (dC, dI)) (cl := kCl) (C := RV) (T := TV) (N := 9) (pc := 8) hx hb hts inV hown hK.1 hP q2 eq2 rfl 5 (by decide) (hts _ wd_427) (fun _ h9 => h9) rfl dV_fillDraft_8 ?_
    rcases hE3 : xR σ 105 0 0 with _ | j4
    · replace hf := hq_n hE3 hf
      refine W.eq (g2 := F0 m 11 ls [.null]) rfl ?_
      refine lv_iload_n (pc := 11) hx hb dV_fillDraft_11 rfl (lv_at hl 1 rfl) ?_
      refine lv_iload_n (pc := 12) hx hb dV_fillDraft_12 rfl (lv_at hl 2 rfl) ?_
      exact nomatch hf
    · replace hf := hq_s hE3 hf
      have hm5 : (1, j4) ∈ dom := (cq_0_5 hC hm0 hE3)
      refine W.eq (g2 := F0 m 11 ls [.ref (ad 1 j4)]) rfl ?_
      refine lv_iload_n (pc := 11) hx hb dV_fillDraft_11 rfl (lv_at hl 1 rfl) ?_
      refine lv_iload_n (pc := 12) hx hb dV_fillDraft_12 rfl (lv_at hl 2 rfl) ?_
      obtain ⟨q6, hq6, eq6⟩ := at_1 (ad := ad) (ca := ca) (σ := σ) hm5
      obtain ⟨⟨y7, σ8⟩, hy7, hf⟩ := ob hf
      have hFc := w9_free hD hS hA
      refine va_calli (pc := 13) (va_runV (As := [.int a1, .int a2]) (rest := []) ⟨hx, hb, hml, hown, hts⟩ (t_B_takes l dC dI ad ca dom H.size σ j4 a1 a2 hm5 hN hC y7 σ8 hy7) (cwV 2 hts (gV wd_429 wd_430 wd_431 wd_378 wd_428) rfl rfl rfl (by decide +kernel) ⟨Nat.le_of_ble_eq_true rfl, Nat.le_of_ble_eq_true rfl⟩) ⟨hW_blind, va_recv (q := (RB, TB, 3)) (q0 := q6) (ci := 1) hK.1 hP rfl eq6, hW_pre hP hK hD hG⟩ rfl rfl hl.1 rfl (lv_room (Nat.le_of_ble_eq_true rfl)) dV_fillDraft_13 ⟨Nat.le_of_ble_eq_true rfl, Nat.le_of_ble_eq_true rfl⟩) hS (fun q _ h => hFc q h) hFc (fun r9 u t H1 locs ht hvm hr9 hB hz1 hk1 hS => ?_)
      obtain ⟨hP, hD, hC⟩ := hB
      rw [ht] at hP
      replace hD := hD.weaken (fun _ _ _ h => hFc _ h)
      generalize H1 = H at hP hS ⊢
      refine W.eq (g2 := F0 m 16 ls [.int y7]) (by rw [hr9]) ?_
      refine lv_pop (pc := 16) hx hb dV_fillDraft_16 rfl ?_
      refine lv_iconst (pc := 17) (v := 0) hx hb dV_fillDraft_17 (by decide) ?_
      refine lv_istore_n (pc := 18) hx hb dV_fillDraft_18 rfl hl (by decide) rfl (fun ls hl => ?_)
      have hl : lv_has ls 7 [(3, .int 0), (0, .ref (ad 0 0)), (1, .int a1), (2, .int a2)] := hl
      refine lv_iconst (pc := 19) (v := 0) hx hb dV_fillDraft_19 (by decide) ?_
      refine lv_istore (pc := 20) hx hb dV_fillDraft_20 hl (by decide) rfl (fun ls hl => ?_)
      have hl : lv_has ls 7 [(4, .int 0), (3, .int 0), (0, .ref (ad 0 0)), (1, .int a1), (2, .int a2)] := hl
      obtain ⟨kx14, hkx14, hf⟩ := lt_9 hf
      refine lpF (τ := (hT) × (Int32) × (Int32) × (Int32) × (Int32) × (Heap) × (List Loc) × (Array Slot)) (fun pc z => W p l e _ s m _ below meth c z.2.2.2.2.2.1 z.2.2.2.2.2.2.1 0 0 _ (F0 m pc z.2.2.2.2.2.2.2 [])) 22 96 (fun z => va_P (dC, dI) kCl (w9 ad ca dom z.1) z.2.2.2.2.2.1 ∧ va_D A (w9 ad ca dom z.1) ∧ va_S A s.heap z.2.2.2.2.2.1 z.2.2.2.2.2.2.1 ∧ clo dom z.1.2.2 ∧ lv_has z.2.2.2.2.2.2.2 7 [(4, .int z.2.1), (3, .int z.2.2.1), (0, .ref (ad 0 0)), (1, .int z.2.2.2.1), (2, .int z.2.2.2.2.1)]) (fun k z => V_fillDraft_L22 n kx14 k z.1 z.2.1 z.2.2.1 z.2.2.2.1 z.2.2.2.2.1) (fun z => kx14 z.1 z.2.1 z.2.2.1 z.2.2.2.1 z.2.2.2.2.1) _ (fun z => rfl) ?_ ?_ n (σ8, 0, 0, a1, a2, H, _, ls) ⟨hP, hD, hS, hC, hl⟩ hf
      · rintro k ⟨σ9, p10, p11, p12, p13, H, locs, ls⟩ ⟨hP, hD, hS, hC, hl⟩ hf ih15 hXkx14
        dsimp only at hP hD hS hC hl hf ih15 hXkx14 ⊢
        unfold V_fillDraft_L22 at hf
        have hl : lv_has ls 7 [(4, .int p10), (3, .int p11), (0, .ref (ad 0 0)), (1, .int p12), (2, .int p13)] := hl
        refine lv_iload (pc := 22) hx hb dV_fillDraft_22 (lv_at hl 0 rfl) ?_
        refine lv_aload_n (pc := 24) hx hb dV_fillDraft_24 rfl (lv_at hl 2 rfl) ?_
        obtain ⟨q16, hq16, eq16⟩ := at_0 (ad := ad) (ca := ca) (σ := σ9) hm0
        refine va_get (D := (dC, dI)) (cl := kCl) (C := RV) (T := TV) (N := 9) (pc := 25) hx hb hts inV hown hK.1 hP q16 eq16 rfl 5 (by decide) (hts _ wd_427) (fun _ h9 => h9) rfl dV_fillDraft_25 ?_
        rcases hE17 : xR σ9 105 0 0 with _ | j18
        · replace hf := hq_n hE17 hf
          refine W.eq (g2 := F0 m 28 ls [.null, .int p10]) rfl ?_
          exact nomatch hf
        · replace hf := hq_s hE17 hf
          have hm19 : (1, j18) ∈ dom := (cq_0_5 hC hm0 hE17)
          refine W.eq (g2 := F0 m 28 ls [.ref (ad 1 j18), .int p10]) rfl ?_
          obtain ⟨q20, hq20, eq20⟩ := at_1 (ad := ad) (ca := ca) (σ := σ9) hm19
          refine va_get (D := (dC, dI)) (cl := kCl) (C := RB) (T := TB) (N := 3) (pc := 28) hx hb hts inB hown hK.1 hP q20 eq20 rfl 2 (by decide) (hts _ wd_432) (fun _ h9 => h9) rfl dV_fillDraft_28 ?_
          refine lv_icmp_ge (pc := 31) (tgt := 96) hx hb dV_fillDraft_31 rfl (fun h21 => ?_) (fun h21 => ?_)
          · replace hf := ite_t h21 hf
            have hl := lv_sub hl (l' := [(4, .int p10), (3, .int p11), (0, .ref (ad 0 0)), (1, .int p12), (2, .int p13)]) [0, 1, 2, 3, 4] rfl
            exact hXkx14 (σ9, p10, p11, p12, p13, H, _, ls) ⟨hP, hD, hS, hC, hl⟩ hf
          · replace hf := ite_f h21 hf
            refine lv_iload (pc := 34) hx hb dV_fillDraft_34 (lv_at hl 0 rfl) ?_
            refine lv_bipush (pc := 36) (v := 24) hx hb dV_fillDraft_36 (by decide) ?_
            refine lv_icmp_ge (pc := 38) (tgt := 96) hx hb dV_fillDraft_38 rfl (fun h22 => ?_) (fun h22 => ?_)
            · replace hf := ite_t h22 hf
              have hl := lv_sub hl (l' := [(4, .int p10), (3, .int p11), (0, .ref (ad 0 0)), (1, .int p12), (2, .int p13)]) [0, 1, 2, 3, 4] rfl
              exact hXkx14 (σ9, p10, p11, p12, p13, H, _, ls) ⟨hP, hD, hS, hC, hl⟩ hf
            · replace hf := ite_f h22 hf
              refine lv_aload_n (pc := 41) hx hb dV_fillDraft_41 rfl (lv_at hl 2 rfl) ?_
              obtain ⟨q23, hq23, eq23⟩ := at_0 (ad := ad) (ca := ca) (σ := σ9) hm0
              refine va_get (D := (dC, dI)) (cl := kCl) (C := RV) (T := TV) (N := 9) (pc := 42) hx hb hts inV hown hK.1 hP q23 eq23 rfl 5 (by decide) (hts _ wd_427) (fun _ h9 => h9) rfl dV_fillDraft_42 ?_
              rcases hE24 : xR σ9 105 0 0 with _ | j25
              · replace hf := hq_n hE24 hf
                refine W.eq (g2 := F0 m 45 ls [.null]) rfl ?_
                exact nomatch hf
              · replace hf := hq_s hE24 hf
                have hm26 : (1, j25) ∈ dom := (cq_0_5 hC hm0 hE24)
                refine W.eq (g2 := F0 m 45 ls [.ref (ad 1 j25)]) rfl ?_
                obtain ⟨q27, hq27, eq27⟩ := at_1 (ad := ad) (ca := ca) (σ := σ9) hm26
                refine va_get (D := (dC, dI)) (cl := kCl) (C := RB) (T := TB) (N := 3) (pc := 45) hx hb hts inB hown hK.1 hP q27 eq27 rfl 1 (by decide) (hts _ wd_433) (fun _ h9 => h9) rfl dV_fillDraft_45 ?_
                refine lv_iload (pc := 48) hx hb dV_fillDraft_48 (lv_at hl 0 rfl) ?_
                obtain ⟨hv28, hf⟩ := ite_s hf
                obtain ⟨q29, hq29, eq29⟩ := at_12 (ad := ad) (ca := ca) (σ := σ9) (cm_1_1 hC hm26)
                refine va_iald (D := (dC, dI)) (cl := kCl) (pc := 50) hx hb (hK.2 12 j25 .int (cm_1_1 hC hm26) rfl) hP q29 0 eq29 rfl (hv28) dV_fillDraft_50 ?_
                refine W.eq (g2 := F0 m 51 ls [.int (xI σ9 12 j25 (p10).toNatClampNeg)]) rfl ?_
                refine lv_istore (pc := 51) hx hb dV_fillDraft_51 hl (by decide) rfl (fun ls hl => ?_)
                have hl : lv_has ls 7 [(5, .int (xI σ9 12 j25 (p10).toNatClampNeg)), (4, .int p10), (3, .int p11), (0, .ref (ad 0 0)), (1, .int p12), (2, .int p13)] := hl
                refine lv_aload_n (pc := 53) hx hb dV_fillDraft_53 rfl (lv_at hl 3 rfl) ?_
                refine lv_aload_n (pc := 54) hx hb dV_fillDraft_54 rfl (lv_at hl 3 rfl) ?_
                refine lv_iload (pc := 55) hx hb dV_fillDraft_55 (lv_at hl 0 rfl) ?_
                refine lv_aload_n (pc := 57) hx hb dV_fillDraft_57 rfl (lv_at hl 3 rfl) ?_
                obtain ⟨q30, hq30, eq30⟩ := at_0 (ad := ad) (ca := ca) (σ := σ9) hm0
                refine va_get (D := (dC, dI)) (cl := kCl) (C := RV) (T := TV) (N := 9) (pc := 58) hx hb hts inV hown hK.1 hP q30 eq30 rfl 5 (by decide) (hts _ wd_427) (fun _ h9 => h9) rfl dV_fillDraft_58 ?_
                rcases hE31 : xR σ9 105 0 0 with _ | j32
                · replace hf := hq_n hE31 hf
                  refine W.eq (g2 := F0 m 61 ls [.null, .int (xI σ9 12 j25 (p10).toNatClampNeg), .ref (ad 0 0), .ref (ad 0 0)]) rfl ?_
                  exact nomatch hf
                · replace hf := hq_s hE31 hf
                  have hm33 : (1, j32) ∈ dom := (cq_0_5 hC hm0 hE31)
                  refine W.eq (g2 := F0 m 61 ls [.ref (ad 1 j32), .int (xI σ9 12 j25 (p10).toNatClampNeg), .ref (ad 0 0), .ref (ad 0 0)]) rfl ?_
                  obtain ⟨q34, hq34, eq34⟩ := at_1 (ad := ad) (ca := ca) (σ := σ9) hm33
                  refine va_get (D := (dC, dI)) (cl := kCl) (C := RB) (T := TB) (N := 3) (pc := 61) hx hb hts inB hown hK.1 hP q34 eq34 rfl 0 (by decide) (hts _ wd_343) (fun _ h9 => h9) rfl dV_fillDraft_61 ?_
                  refine lv_iload (pc := 64) hx hb dV_fillDraft_64 (lv_at hl 0 rfl) ?_
                  obtain ⟨hv35, hf⟩ := ite_s hf
                  obtain ⟨q36, hq36, eq36⟩ := at_11 (ad := ad) (ca := ca) (σ := σ9) (cm_1_0 hC hm33)
                  refine va_iald (D := (dC, dI)) (cl := kCl) (pc := 66) hx hb (hK.2 11 j32 .int (cm_1_0 hC hm33) rfl) hP q36 0 eq36 rfl (hv35) dV_fillDraft_66 ?_
                  refine W.eq (g2 := F0 m 67 ls [.int (xI σ9 11 j32 ((xI σ9 12 j25 (p10).toNatClampNeg)).toNatClampNeg), .int (xI σ9 12 j25 (p10).toNatClampNeg), .ref (ad 0 0), .ref (ad 0 0)]) rfl ?_
                  obtain ⟨q37, hq37, eq37⟩ := at_0 (ad := ad) (ca := ca) (σ := σ9) hm0
                  obtain ⟨y38, hy38, hf⟩ := ob hf
                  refine va_cse (pc := 67) (W.runV (As := [.int (xI σ9 12 j25 (p10).toNatClampNeg), .int (xI σ9 11 j32 ((xI σ9 12 j25 (p10).toNatClampNeg)).toNatClampNeg)]) (rest := [.ref (ad 0 0)]) ⟨hx, hb, hml, hown, hts⟩ (t_V_revisionAt l dC dI ad ca dom σ9 (xI σ9 12 j25 (p10).toNatClampNeg) (xI σ9 11 j32 ((xI σ9 12 j25 (p10).toNatClampNeg)).toNatClampNeg) hm0 hN hC y38 hy38) (cwV 2 hts (gV wd_324 wd_325 wd_326 wd_254 wd_323) rfl rfl rfl (by decide +kernel) ⟨Nat.le_of_ble_eq_true rfl, Nat.le_of_ble_eq_true rfl⟩) ⟨hR_blind, va_recv (q := (RV, TV, 9)) (q0 := q37) (ci := 0) hK.1 hP rfl eq37, hR_pre hP hK hG⟩ rfl rfl hl.1 rfl (lv_room (Nat.le_of_ble_eq_true rfl)) dV_fillDraft_67 ⟨Nat.le_of_ble_eq_true rfl, Nat.le_of_ble_eq_true rfl⟩) (fun r9 hr9 => ?_)
                  obtain ⟨hr9, hmy39⟩ := hr9
                  refine W.eq (g2 := F0 m 70 ls [va_re (ad 7) y38, .ref (ad 0 0)]) (by rw [hr9]) ?_
                  rcases hE40 : y38 with _ | j41
                  · replace hf := hq_n hE40 hf
                    refine W.eq (g2 := F0 m 70 ls [.null, .ref (ad 0 0)]) rfl ?_
                    obtain ⟨q42, hq42, eq42⟩ := at_0 (ad := ad) (ca := ca) (σ := σ9) hm0
                    obtain ⟨⟨y43, σ44⟩, hy43, hf⟩ := ob hf
                    have hFc := w9_free hD hS hA
                    refine va_calli (pc := 70) (va_runV (As := [.null]) (rest := []) ⟨hx, hb, hml, hown, hts⟩ (t_V_follow l dC dI ad ca dom H.size n σ9 none hm0 (fun _ z => nomatch z) hN hC y43 σ44 hy43) (cwV 1 hts (gV wd_435 wd_436 wd_437 wd_254 wd_434) rfl rfl rfl (by decide +kernel) ⟨Nat.le_of_ble_eq_true rfl, Nat.le_of_ble_eq_true rfl⟩) ⟨hW_blind, va_recv (q := (RV, TV, 9)) (q0 := q42) (ci := 0) hK.1 hP rfl eq42, hW_pre hP hK hD hG⟩ rfl rfl hl.1 rfl (lv_room (Nat.le_of_ble_eq_true rfl)) dV_fillDraft_70 ⟨Nat.le_of_ble_eq_true rfl, Nat.le_of_ble_eq_true rfl⟩) hS (fun q _ h => hFc q h) hFc (fun r9 u t H1 locs ht hvm hr9 hB hz1 hk1 hS => ?_)
                    obtain ⟨hP, hD, hC⟩ := hB
                    rw [ht] at hP
                    replace hD := hD.weaken (fun _ _ _ h => hFc _ h)
                    generalize H1 = H at hP hS ⊢
                    refine W.eq (g2 := F0 m 73 ls [.int y43]) (by rw [hr9]) ?_
                    refine lv_istore (pc := 73) hx hb dV_fillDraft_73 hl (by decide) rfl (fun ls hl => ?_)
                    have hl : lv_has ls 7 [(6, .int y43), (5, .int (xI σ9 12 j25 (p10).toNatClampNeg)), (4, .int p10), (3, .int p11), (0, .ref (ad 0 0)), (1, .int p12), (2, .int p13)] := hl
                    refine lv_iload (pc := 75) hx hb dV_fillDraft_75 (lv_at hl 0 rfl) ?_
                    refine lv_iconst (pc := 77) (v := 2) hx hb dV_fillDraft_77 (by decide) ?_
                    refine lv_icmp_ne (pc := 78) (tgt := 83) hx hb dV_fillDraft_78 rfl (fun h45 => ?_) (fun h45 => ?_)
                    · replace hf := ite_f h45 hf
                      refine lv_iload_n (pc := 83) hx hb dV_fillDraft_83 rfl (lv_at hl 3 rfl) ?_
                      refine lv_iload (pc := 84) hx hb dV_fillDraft_84 (lv_at hl 0 rfl) ?_
                      refine va_mmax (pc := 86) hx hb (hml.trans hl.1.symm) hown (hts _ wd_438) (hts _ wd_240) (hts _ wd_237) (hts _ wd_241) (Nat.le_of_ble_eq_true rfl) (Nat.le_of_ble_eq_true rfl) (Nat.le_of_ble_eq_true rfl) (Nat.le_of_ble_eq_true rfl) dV_fillDraft_86 ?_
                      refine lv_istore_n (pc := 89) hx hb dV_fillDraft_89 rfl hl (by decide) rfl (fun ls hl => ?_)
                      have hl : lv_has ls 7 [(3, .int (if p11 < y43 then y43 else p11)), (6, .int y43), (5, .int (xI σ9 12 j25 (p10).toNatClampNeg)), (4, .int p10), (0, .ref (ad 0 0)), (1, .int p12), (2, .int p13)] := hl
                      refine lv_iinc (pc := 90) (v := (p10 + 1)) hx hb dV_fillDraft_90 hl (k := 3) rfl (by rfl) (by decide) rfl (fun ls hl => ?_)
                      have hl : lv_has ls 7 [(4, .int (p10 + 1)), (3, .int (if p11 < y43 then y43 else p11)), (6, .int y43), (5, .int (xI σ9 12 j25 (p10).toNatClampNeg)), (0, .ref (ad 0 0)), (1, .int p12), (2, .int p13)] := hl
                      refine lv_goto (pc := 93) (tgt := 22) hx hb dV_fillDraft_93 rfl ?_
                      have hl := lv_sub hl (l' := [(4, .int (p10 + 1)), (3, .int (if p11 < y43 then y43 else p11)), (0, .ref (ad 0 0)), (1, .int p12), (2, .int p13)]) [0, 1, 4, 5, 6] rfl
                      exact ih15 (σ44, (p10 + 1), (if p11 < y43 then y43 else p11), p12, p13, H, _, ls) ⟨hP, hD, hS, hC, hl⟩ hf
                    · replace hf := ite_t h45 hf
                      refine lv_iconst (pc := 81) (v := 2) hx hb dV_fillDraft_81 (by decide) ?_
                      obtain ⟨h8, h9⟩ := Prod.mk.inj (Option.some.inj hf)
                      subst h9
                      exact W.iret (pc := 82) hx hb hr (fun t ht hW => ⟨⟨_, (), rfl, h8, by rw [ht]; exact hP, hD, hC⟩, hS.F ht⟩) hS.2.2 dV_fillDraft_82
                  · replace hf := hq_s hE40 hf
                    have hm46 : (7, j41) ∈ dom := (hmy39 _ hE40)
                    refine W.eq (g2 := F0 m 70 ls [.ref (ad 7 j41), .ref (ad 0 0)]) rfl ?_
                    obtain ⟨q47, hq47, eq47⟩ := at_0 (ad := ad) (ca := ca) (σ := σ9) hm0
                    obtain ⟨⟨y48, σ49⟩, hy48, hf⟩ := ob hf
                    have hFc := w9_free hD hS hA
                    refine va_calli (pc := 70) (va_runV (As := [.ref (ad 7 j41)]) (rest := []) ⟨hx, hb, hml, hown, hts⟩ (t_V_follow l dC dI ad ca dom H.size n σ9 (some j41) hm0 (fun _ z => Option.some.inj z ▸ hm46) hN hC y48 σ49 hy48) (cwV 1 hts (gV wd_435 wd_436 wd_437 wd_254 wd_434) rfl rfl rfl (by decide +kernel) ⟨Nat.le_of_ble_eq_true rfl, Nat.le_of_ble_eq_true rfl⟩) ⟨hW_blind, va_recv (q := (RV, TV, 9)) (q0 := q47) (ci := 0) hK.1 hP rfl eq47, hW_pre hP hK hD hG⟩ rfl rfl hl.1 rfl (lv_room (Nat.le_of_ble_eq_true rfl)) dV_fillDraft_70 ⟨Nat.le_of_ble_eq_true rfl, Nat.le_of_ble_eq_true rfl⟩) hS (fun q _ h => hFc q h) hFc (fun r9 u t H1 locs ht hvm hr9 hB hz1 hk1 hS => ?_)
                    obtain ⟨hP, hD, hC⟩ := hB
                    rw [ht] at hP
                    replace hD := hD.weaken (fun _ _ _ h => hFc _ h)
                    generalize H1 = H at hP hS ⊢
                    refine W.eq (g2 := F0 m 73 ls [.int y48]) (by rw [hr9]) ?_
                    refine lv_istore (pc := 73) hx hb dV_fillDraft_73 hl (by decide) rfl (fun ls hl => ?_)
                    have hl : lv_has ls 7 [(6, .int y48), (5, .int (xI σ9 12 j25 (p10).toNatClampNeg)), (4, .int p10), (3, .int p11), (0, .ref (ad 0 0)), (1, .int p12), (2, .int p13)] := hl
                    refine lv_iload (pc := 75) hx hb dV_fillDraft_75 (lv_at hl 0 rfl) ?_
                    refine lv_iconst (pc := 77) (v := 2) hx hb dV_fillDraft_77 (by decide) ?_
                    refine lv_icmp_ne (pc := 78) (tgt := 83) hx hb dV_fillDraft_78 rfl (fun h50 => ?_) (fun h50 => ?_)
                    · replace hf := ite_f h50 hf
                      refine lv_iload_n (pc := 83) hx hb dV_fillDraft_83 rfl (lv_at hl 3 rfl) ?_
                      refine lv_iload (pc := 84) hx hb dV_fillDraft_84 (lv_at hl 0 rfl) ?_
                      refine va_mmax (pc := 86) hx hb (hml.trans hl.1.symm) hown (hts _ wd_438) (hts _ wd_240) (hts _ wd_237) (hts _ wd_241) (Nat.le_of_ble_eq_true rfl) (Nat.le_of_ble_eq_true rfl) (Nat.le_of_ble_eq_true rfl) (Nat.le_of_ble_eq_true rfl) dV_fillDraft_86 ?_
                      refine lv_istore_n (pc := 89) hx hb dV_fillDraft_89 rfl hl (by decide) rfl (fun ls hl => ?_)
                      have hl : lv_has ls 7 [(3, .int (if p11 < y48 then y48 else p11)), (6, .int y48), (5, .int (xI σ9 12 j25 (p10).toNatClampNeg)), (4, .int p10), (0, .ref (ad 0 0)), (1, .int p12), (2, .int p13)] := hl
                      refine lv_iinc (pc := 90) (v := (p10 + 1)) hx hb dV_fillDraft_90 hl (k := 3) rfl (by rfl) (by decide) rfl (fun ls hl => ?_)
                      have hl : lv_has ls 7 [(4, .int (p10 + 1)), (3, .int (if p11 < y48 then y48 else p11)), (6, .int y48), (5, .int (xI σ9 12 j25 (p10).toNatClampNeg)), (0, .ref (ad 0 0)), (1, .int p12), (2, .int p13)] := hl
                      refine lv_goto (pc := 93) (tgt := 22) hx hb dV_fillDraft_93 rfl ?_
                      have hl := lv_sub hl (l' := [(4, .int (p10 + 1)), (3, .int (if p11 < y48 then y48 else p11)), (0, .ref (ad 0 0)), (1, .int p12), (2, .int p13)]) [0, 1, 4, 5, 6] rfl
                      exact ih15 (σ49, (p10 + 1), (if p11 < y48 then y48 else p11), p12, p13, H, _, ls) ⟨hP, hD, hS, hC, hl⟩ hf
                    · replace hf := ite_t h50 hf
                      refine lv_iconst (pc := 81) (v := 2) hx hb dV_fillDraft_81 (by decide) ?_
                      obtain ⟨h8, h9⟩ := Prod.mk.inj (Option.some.inj hf)
                      subst h9
                      exact W.iret (pc := 82) hx hb hr (fun t ht hW => ⟨⟨_, (), rfl, h8, by rw [ht]; exact hP, hD, hC⟩, hS.F ht⟩) hS.2.2 dV_fillDraft_82
      · rintro ⟨σ9, p10, p11, p12, p13, H, locs, ls⟩ ⟨hP, hD, hS, hC, hl⟩ hf
        dsimp only at hP hD hS hC hl hf ⊢
        rw [hkx14] at hf
        have hl : lv_has ls 7 [(4, .int p10), (3, .int p11), (0, .ref (ad 0 0)), (1, .int p12), (2, .int p13)] := hl
        refine lv_iload_n (pc := 96) hx hb dV_fillDraft_96 rfl (lv_at hl 1 rfl) ?_
        obtain ⟨h8, h9⟩ := Prod.mk.inj (Option.some.inj hf)
        subst h9
        exact W.iret (pc := 97) hx hb hr (fun t ht hW => ⟨⟨_, (), rfl, h8, by rw [ht]; exact hP, hD, hC⟩, hS.F ht⟩) hS.2.2 dV_fillDraft_97
  · replace hf := ite_t h1 hf
    refine lv_iconst (pc := 5) (v := 2) hx hb dV_fillDraft_5 (by decide) ?_
    obtain ⟨h8, h9⟩ := Prod.mk.inj (Option.some.inj hf)
    subst h9
    exact W.iret (pc := 6) hx hb hr (fun t ht hW => ⟨⟨_, (), rfl, h8, by rw [ht]; exact hP, hD, hC⟩, hS.F ht⟩) hS.2.2 dV_fillDraft_6
def V_why (σ : hT) : Int32 := (xI σ 108 0 0)
set_option maxHeartbeats 4000000 in
set_option maxRecDepth 100000 in
theorem t_V_why (l : Launch) (dC : Nat → ClassId) (dI : Nat → Nat → Nat) (ad : Nat → Nat → Nat) (ca : Nat → Nat → ClassId) (dom : List (Nat × Nat)) (σ : hT) (hm0 : (0, 0) ∈ dom) (hN : dom.Nodup) (hC : clo dom σ.2.2) (ρ : Int32) (hf : V_why σ = ρ) : Met l yV_why (.code yV_why cV_why 1 (some .int) :: aw) ({ frames := 0, cells := 0, slots := 0, locals := 0 }) (hR (dC, dI) ad ca dom σ [.ref (ad 0 0)]) (vp_Si (fun r => r = ρ)) 0 0 (fun _ => False) := by
  refine Met.ofW (cc := cV_why) (maxL := 1) (ret := (some .int)) (by decide) rfl ?_
  intro p e s m args below meth c s₁ B hml hv
  obtain ⟨rfl, hv⟩ := hv
  have hx := B.exec
  have hb := B.bytes
  have hr := B.returns
  have hts : ∀ w ∈ aw, w.before _ s = true := fun w h => atoms_spec (ws := (.code yV_why cV_why 1 (some .int) :: aw)) B.pre w (List.mem_cons_of_mem _ h)
  have hown : s.vm.findClass RV = some m.cls := findClass_of_methodNamed B.named
  have hlocks := B.notSynchronized
  obtain ⟨hP, hK, hG⟩ := hv
  obtain ⟨H, hH⟩ : ∃ H, H = s.heap := ⟨_, rfl⟩
  rw [← hH] at hP ⊢
  unfold V_why at hf
  have hl := lv_entry ([.ref (ad 0 0)]) (n := 1) (Nat.le_of_ble_eq_true rfl)
  rw [lg_entry_eq]
  generalize (lg_sl ([.ref (ad 0 0)]) ++ List.replicate (1 - (lg_sl ([.ref (ad 0 0)])).length) Slot.unset).toArray = ls at hl ⊢
  have hl : lv_has ls 1 [(0, .ref (ad 0 0))] := hl
  refine lv_aload_n (pc := 0) hx hb dV_why_0 rfl (lv_at hl 0 rfl) ?_
  obtain ⟨q1, hq1, eq1⟩ := at_0 (ad := ad) (ca := ca) (σ := σ) hm0
  refine va_get (D := (dC, dI)) (cl := kCl) (C := RV) (T := TV) (N := 9) (pc := 1) hx hb hts inV hown hK.1 hP q1 eq1 rfl 8 (by decide) (hts _ wd_379) (fun _ h9 => h9) rfl dV_why_1 ?_
  exact W.iret (pc := 4) hx hb hr (fun t ht hW => ⟨_, rfl, hf, ht.trans hH⟩) (fun q h => nomatch h) dV_why_4
def V_user_L24 (n : Nat) (σ : hT) (kx15 : Int32 → Int32 → Int32 → Int32 → Int32 → Int32 → Option (Int32)) : Nat → Int32 → Int32 → Int32 → Int32 → Int32 → Int32 → Option (Int32)
  | 0, _, _, _, _, _, _ => none
  | k + 1, p9, p10, p11, p12, p13, p14 => if (xI σ 102 0 0) ≤ p9 then kx15 p9 p10 p11 p12 p13 p14 else if (p11 &&& (V_bit p9)) = 0 then V_user_L24 n σ kx15 k (p9 + 1) p10 p11 p12 p13 p14 else if p10 = p14 then some p9 else V_user_L24 n σ kx15 k (p9 + 1) (p10 + 1) p11 p12 p13 p14
def V_user (n : Nat) (σ : hT) (a1 : Int32) (a2 : Int32) (a3 : Int32) : Option (Int32) := Option.bind (V_drawingAt σ a1) fun y2 => hq y2 (some (-1)) fun j5 => Option.bind (V_usersOf n σ a1 a2) fun y8 => lt9 (α := Int32 → Int32 → Int32 → Int32 → Int32 → Int32 → Option (Int32)) (fun (p9 : Int32) (p10 : Int32) (p11 : Int32) (p12 : Int32) (p13 : Int32) (p14 : Int32) => some (-1)) fun kx15 => V_user_L24 n σ kx15 n 0 0 y8 a1 a2 a3
set_option maxHeartbeats 4000000 in
set_option maxRecDepth 100000 in
theorem t_V_user (l : Launch) (dC : Nat → ClassId) (dI : Nat → Nat → Nat) (ad : Nat → Nat → Nat) (ca : Nat → Nat → ClassId) (dom : List (Nat × Nat)) (n : Nat) (σ : hT) (a1 : Int32) (a2 : Int32) (a3 : Int32) (hm0 : (0, 0) ∈ dom) (hN : dom.Nodup) (hC : clo dom σ.2.2) (ρ : Int32) (hf : V_user n σ a1 a2 a3 = some ρ) : Met l yV_user (.code yV_user cV_user 7 (some .int) :: aw) ({ frames := 5, cells := 0, slots := 0, locals := 111 }) (hR (dC, dI) ad ca dom σ [.ref (ad 0 0), .int a1, .int a2, .int a3]) (vp_Si (fun r => r = ρ)) 0 0 (fun _ => False) := by
  refine Met.ofW (cc := cV_user) (maxL := 7) (ret := (some .int)) (by decide) rfl ?_
  intro p e s m args below meth c s₁ B hml hv
  obtain ⟨rfl, hv⟩ := hv
  have hx := B.exec
  have hb := B.bytes
  have hr := B.returns
  have hts : ∀ w ∈ aw, w.before _ s = true := fun w h => atoms_spec (ws := (.code yV_user cV_user 7 (some .int) :: aw)) B.pre w (List.mem_cons_of_mem _ h)
  have hown : s.vm.findClass RV = some m.cls := findClass_of_methodNamed B.named
  have hlocks := B.notSynchronized
  obtain ⟨hP, hK, hG⟩ := hv
  obtain ⟨H, hH⟩ : ∃ H, H = s.heap := ⟨_, rfl⟩
  rw [← hH] at hP ⊢
  unfold V_user at hf
  have hl := lv_entry ([.ref (ad 0 0), .int a1, .int a2, .int a3]) (n := 7) (Nat.le_of_ble_eq_true rfl)
  rw [lg_entry_eq]
  generalize (lg_sl ([.ref (ad 0 0), .int a1, .int a2, .int a3]) ++ List.replicate (7 - (lg_sl ([.ref (ad 0 0), .int a1, .int a2, .int a3])).length) Slot.unset).toArray = ls at hl ⊢
  have hl : lv_has ls 7 [(0, .ref (ad 0 0)), (1, .int a1), (2, .int a2), (3, .int a3)] := hl
  refine lv_aload_n (pc := 0) hx hb dV_user_0 rfl (lv_at hl 0 rfl) ?_
  refine lv_iload_n (pc := 1) hx hb dV_user_1 rfl (lv_at hl 1 rfl) ?_
  obtain ⟨q1, hq1, eq1⟩ := at_0 (ad := ad) (ca := ca) (σ := σ) hm0
  obtain ⟨y2, hy2, hf⟩ := ob hf
  refine va_cse (pc := 2) (W.runV (As := [.int a1]) (rest := []) ⟨hx, hb, hml, hown, hts⟩ (t_V_drawingAt l dC dI ad ca dom σ a1 hm0 hN hC y2 hy2) (cwV 1 hts (gV wd_317 wd_318 wd_319 wd_254 wd_316) rfl rfl rfl (by decide +kernel) ⟨Nat.le_of_ble_eq_true rfl, Nat.le_of_ble_eq_true rfl⟩) ⟨hR_blind, va_recv (q := (RV, TV, 9)) (q0 := q1) (ci := 0) hK.1 hP rfl eq1, hR_pre hP hK hG⟩ rfl rfl hl.1 rfl (lv_room (Nat.le_of_ble_eq_true rfl)) dV_user_2 ⟨Nat.le_of_ble_eq_true rfl, Nat.le_of_ble_eq_true rfl⟩) (fun r9 hr9 => ?_)
  obtain ⟨hr9, hmy3⟩ := hr9
  refine W.eq (g2 := F0 m 5 ls [va_re (ad 6) y2]) (by rw [hr9]) ?_
  rcases hE4 : y2 with _ | j5
  · replace hf := hq_n hE4 hf
    refine W.eq (g2 := F0 m 5 ls [.null]) rfl ?_
    refine lv_ifnonnullN (pc := 5) hx hb dV_user_5 ?_
    refine lv_iconst (pc := 8) (v := (-1)) hx hb dV_user_8 (by decide) ?_
    exact W.iret (pc := 9) hx hb hr (fun t ht hW => ⟨_, rfl, (Option.some.inj hf), ht.trans hH⟩) (fun q h => nomatch h) dV_user_9
  · replace hf := hq_s hE4 hf
    have hm6 : (6, j5) ∈ dom := (hmy3 _ hE4)
    refine W.eq (g2 := F0 m 5 ls [.ref (ad 6 j5)]) rfl ?_
    refine lv_ifnonnull (pc := 5) (tgt := 10) hx hb dV_user_5 rfl ?_
    refine lv_aload_n (pc := 10) hx hb dV_user_10 rfl (lv_at hl 0 rfl) ?_
    refine lv_iload_n (pc := 11) hx hb dV_user_11 rfl (lv_at hl 1 rfl) ?_
    refine lv_iload_n (pc := 12) hx hb dV_user_12 rfl (lv_at hl 2 rfl) ?_
    obtain ⟨q7, hq7, eq7⟩ := at_0 (ad := ad) (ca := ca) (σ := σ) hm0
    obtain ⟨y8, hy8, hf⟩ := ob hf
    refine vp_callSi (pc := 13) (W.runV (As := [.int a1, .int a2]) (rest := []) ⟨hx, hb, hml, hown, hts⟩ (t_V_usersOf l dC dI ad ca dom n σ a1 a2 hm0 hN hC y8 hy8) (cwV 2 hts (gV wd_405 wd_406 wd_407 wd_254 wd_404) rfl rfl rfl (by decide +kernel) ⟨Nat.le_of_ble_eq_true rfl, Nat.le_of_ble_eq_true rfl⟩) ⟨hR_blind, va_recv (q := (RV, TV, 9)) (q0 := q7) (ci := 0) hK.1 hP rfl eq7, hR_pre hP hK hG⟩ rfl rfl hl.1 rfl (lv_room (Nat.le_of_ble_eq_true rfl)) dV_user_13 ⟨Nat.le_of_ble_eq_true rfl, Nat.le_of_ble_eq_true rfl⟩) (fun r9 hr9 => ?_)
    refine W.eq (g2 := F0 m 16 ls [.int y8]) (by rw [hr9]) ?_
    refine lv_istore (pc := 16) hx hb dV_user_16 hl (by decide) rfl (fun ls hl => ?_)
    have hl : lv_has ls 7 [(4, .int y8), (0, .ref (ad 0 0)), (1, .int a1), (2, .int a2), (3, .int a3)] := hl
    refine lv_iconst (pc := 18) (v := 0) hx hb dV_user_18 (by decide) ?_
    refine lv_istore (pc := 19) hx hb dV_user_19 hl (by decide) rfl (fun ls hl => ?_)
    have hl : lv_has ls 7 [(5, .int 0), (4, .int y8), (0, .ref (ad 0 0)), (1, .int a1), (2, .int a2), (3, .int a3)] := hl
    refine lv_iconst (pc := 21) (v := 0) hx hb dV_user_21 (by decide) ?_
    refine lv_istore (pc := 22) hx hb dV_user_22 hl (by decide) rfl (fun ls hl => ?_)
    have hl : lv_has ls 7 [(6, .int 0), (5, .int 0), (4, .int y8), (0, .ref (ad 0 0)), (1, .int a1), (2, .int a2), (3, .int a3)] := hl
    obtain ⟨kx15, hkx15, hf⟩ := lt_9 hf
    refine lpF (τ := (Int32) × (Int32) × (Int32) × (Int32) × (Int32) × (Int32) × (Array Slot)) (fun pc z => W p l e _ s m _ below meth c H ([]) 0 0 _ (F0 m pc z.2.2.2.2.2.2 [])) 24 62 (fun z => lv_has z.2.2.2.2.2.2 7 [(6, .int z.1), (5, .int z.2.1), (4, .int z.2.2.1), (0, .ref (ad 0 0)), (1, .int z.2.2.2.1), (2, .int z.2.2.2.2.1), (3, .int z.2.2.2.2.2.1)]) (fun k z => V_user_L24 n σ kx15 k z.1 z.2.1 z.2.2.1 z.2.2.2.1 z.2.2.2.2.1 z.2.2.2.2.2.1) (fun z => kx15 z.1 z.2.1 z.2.2.1 z.2.2.2.1 z.2.2.2.2.1 z.2.2.2.2.2.1) _ (fun z => rfl) ?_ ?_ n (0, 0, y8, a1, a2, a3, ls) hl hf
    · rintro k ⟨p9, p10, p11, p12, p13, p14, ls⟩ hl hf ih16 hXkx15
      dsimp only at hl hf ih16 hXkx15 ⊢
      unfold V_user_L24 at hf
      have hl : lv_has ls 7 [(6, .int p9), (5, .int p10), (4, .int p11), (0, .ref (ad 0 0)), (1, .int p12), (2, .int p13), (3, .int p14)] := hl
      refine lv_iload (pc := 24) hx hb dV_user_24 (lv_at hl 0 rfl) ?_
      refine lv_aload_n (pc := 26) hx hb dV_user_26 rfl (lv_at hl 3 rfl) ?_
      obtain ⟨q17, hq17, eq17⟩ := at_0 (ad := ad) (ca := ca) (σ := σ) hm0
      refine va_get (D := (dC, dI)) (cl := kCl) (C := RV) (T := TV) (N := 9) (pc := 27) hx hb hts inV hown hK.1 hP q17 eq17 rfl 2 (by decide) (hts _ wd_314) (fun _ h9 => h9) rfl dV_user_27 ?_
      refine lv_icmp_ge (pc := 30) (tgt := 62) hx hb dV_user_30 rfl (fun h18 => ?_) (fun h18 => ?_)
      · replace hf := ite_t h18 hf
        have hl := lv_sub hl (l' := [(6, .int p9), (5, .int p10), (4, .int p11), (0, .ref (ad 0 0)), (1, .int p12), (2, .int p13), (3, .int p14)]) [0, 1, 2, 3, 4, 5, 6] rfl
        exact hXkx15 (p9, p10, p11, p12, p13, p14, ls) hl hf
      · replace hf := ite_f h18 hf
        refine lv_iload (pc := 33) hx hb dV_user_33 (lv_at hl 2 rfl) ?_
        refine lv_iload (pc := 35) hx hb dV_user_35 (lv_at hl 0 rfl) ?_
        refine vp_callSi (pc := 37) (W.runS (As := [.int p9]) (rest := [.int p11]) ⟨hx, hb, hml, hown, hts⟩ (t_V_bit l dC dI ad ca dom p9 σ hN hC (V_bit p9) rfl) (cwS 1 hts (gS wd_354 wd_255 wd_254 wd_253) rfl rfl rfl (by decide +kernel) ⟨Nat.le_of_ble_eq_true rfl, Nat.le_of_ble_eq_true rfl⟩) ⟨hR_blind, hR_pre hP hK hG⟩ rfl rfl hl.1 rfl (lv_room (Nat.le_of_ble_eq_true rfl)) dV_user_37 ⟨Nat.le_of_ble_eq_true rfl, Nat.le_of_ble_eq_true rfl⟩) (fun r9 hr9 => ?_)
        refine W.eq (g2 := F0 m 40 ls [.int (V_bit p9), .int p11]) (by rw [hr9]) ?_
        refine lv_iand (pc := 40) hx hb dV_user_40 ?_
        refine lv_if_eq (pc := 41) (tgt := 56) hx hb dV_user_41 rfl (fun h19 => ?_) (fun h19 => ?_)
        · replace hf := ite_t h19 hf
          refine lv_iinc (pc := 56) (v := (p9 + 1)) hx hb dV_user_56 hl (k := 0) rfl (by rfl) (by decide) rfl (fun ls hl => ?_)
          have hl : lv_has ls 7 [(6, .int (p9 + 1)), (5, .int p10), (4, .int p11), (0, .ref (ad 0 0)), (1, .int p12), (2, .int p13), (3, .int p14)] := hl
          refine lv_goto (pc := 59) (tgt := 24) hx hb dV_user_59 rfl ?_
          have hl := lv_sub hl (l' := [(6, .int (p9 + 1)), (5, .int p10), (4, .int p11), (0, .ref (ad 0 0)), (1, .int p12), (2, .int p13), (3, .int p14)]) [0, 1, 2, 3, 4, 5, 6] rfl
          exact ih16 ((p9 + 1), p10, p11, p12, p13, p14, ls) hl hf
        · replace hf := ite_f h19 hf
          refine lv_iload (pc := 44) hx hb dV_user_44 (lv_at hl 1 rfl) ?_
          refine lv_iload_n (pc := 46) hx hb dV_user_46 rfl (lv_at hl 6 rfl) ?_
          refine lv_icmp_ne (pc := 47) (tgt := 53) hx hb dV_user_47 rfl (fun h20 => ?_) (fun h20 => ?_)
          · replace hf := ite_f h20 hf
            refine lv_iinc (pc := 53) (v := (p10 + 1)) hx hb dV_user_53 hl (k := 1) rfl (by rfl) (by decide) rfl (fun ls hl => ?_)
            have hl : lv_has ls 7 [(5, .int (p10 + 1)), (6, .int p9), (4, .int p11), (0, .ref (ad 0 0)), (1, .int p12), (2, .int p13), (3, .int p14)] := hl
            refine lv_iinc (pc := 56) (v := (p9 + 1)) hx hb dV_user_56 hl (k := 1) rfl (by rfl) (by decide) rfl (fun ls hl => ?_)
            have hl : lv_has ls 7 [(6, .int (p9 + 1)), (5, .int (p10 + 1)), (4, .int p11), (0, .ref (ad 0 0)), (1, .int p12), (2, .int p13), (3, .int p14)] := hl
            refine lv_goto (pc := 59) (tgt := 24) hx hb dV_user_59 rfl ?_
            have hl := lv_sub hl (l' := [(6, .int (p9 + 1)), (5, .int (p10 + 1)), (4, .int p11), (0, .ref (ad 0 0)), (1, .int p12), (2, .int p13), (3, .int p14)]) [0, 1, 2, 3, 4, 5, 6] rfl
            exact ih16 ((p9 + 1), (p10 + 1), p11, p12, p13, p14, ls) hl hf
          · replace hf := ite_t h20 hf
            refine lv_iload (pc := 50) hx hb dV_user_50 (lv_at hl 0 rfl) ?_
            exact W.iret (pc := 52) hx hb hr (fun t ht hW => ⟨_, rfl, (Option.some.inj hf), ht.trans hH⟩) (fun q h => nomatch h) dV_user_52
    · rintro ⟨p9, p10, p11, p12, p13, p14, ls⟩ hl hf
      dsimp only at hl hf ⊢
      rw [hkx15] at hf
      have hl : lv_has ls 7 [(6, .int p9), (5, .int p10), (4, .int p11), (0, .ref (ad 0 0)), (1, .int p12), (2, .int p13), (3, .int p14)] := hl
      refine lv_iconst (pc := 62) (v := (-1)) hx hb dV_user_62 (by decide) ?_
      exact W.iret (pc := 63) hx hb hr (fun t ht hW => ⟨_, rfl, (Option.some.inj hf), ht.trans hH⟩) (fun q h => nomatch h) dV_user_63
def V_failAfter (σ : hT) (a1 : Int32) : Option (Int32 × hT) := if a1 < 0 then some (0, σ) else if (xI σ 403 0 0) = 0 then Option.bind (P_failAhead σ a1) fun ⟨y7, σ8⟩ => some (1, σ8) else some (0, σ)
set_option maxHeartbeats 4000000 in
set_option maxRecDepth 100000 in
theorem t_V_failAfter (l : Launch) (dC : Nat → ClassId) (dI : Nat → Nat → Nat) (ad : Nat → Nat → Nat) (ca : Nat → Nat → ClassId) (dom : List (Nat × Nat)) (sz : Nat) (σ : hT) (a1 : Int32) (hm0 : (0, 0) ∈ dom) (hN : dom.Nodup) (hC : clo dom σ.2.2) (ρ : Int32) (σ' : hT) (hf : V_failAfter σ a1 = some (ρ, σ')) : Met l yV_failAfter (.code yV_failAfter cV_failAfter 2 (some .boolean) :: aw) ({ frames := 1, cells := 0, slots := 0, locals := 21 }) (hW (dC, dI) sz ad ca dom σ [.ref (ad 0 0), .int a1]) (va_Qi (fun r (_ : Unit) => r = ρ) (fun _ t => hB (dC, dI) (va_A (w9 ad ca dom σ) sz) ad ca dom σ' t) (va_A (w9 ad ca dom σ) sz)) 0 0 (va_A (w9 ad ca dom σ) sz) := by
  refine Met.ofW (cc := cV_failAfter) (maxL := 2) (ret := (some .boolean)) (by decide) rfl ?_
  intro p e s m args below meth c s₁ B hml hv
  obtain ⟨rfl, hv⟩ := hv
  have hx := B.exec
  have hb := B.bytes
  have hr := B.returns
  have hts : ∀ w ∈ aw, w.before _ s = true := fun w h => atoms_spec (ws := (.code yV_failAfter cV_failAfter 2 (some .boolean) :: aw)) B.pre w (List.mem_cons_of_mem _ h)
  have hown : s.vm.findClass RV = some m.cls := findClass_of_methodNamed B.named
  have hlocks := B.notSynchronized
  obtain ⟨hsz, hP, hK, hD0, hG⟩ := hv
  subst hsz
  have hD := hD0.self (sz := s.heap.size)
  generalize hAe : va_A (w9 ad ca dom σ) s.heap.size = A at hD ⊢
  have hA : ∀ q : Nat, s.heap.size ≤ q → A q := fun q h => by rw [← hAe]; exact Or.inr h
  obtain ⟨H, hH⟩ : ∃ H, H = s.heap := ⟨_, rfl⟩
  have hS : va_S A s.heap H [] := by rw [hH]; exact va_S.rf
  rw [← hH] at hP ⊢
  unfold V_failAfter at hf
  have hl := lv_entry ([.ref (ad 0 0), .int a1]) (n := 2) (Nat.le_of_ble_eq_true rfl)
  rw [lg_entry_eq]
  generalize (lg_sl ([.ref (ad 0 0), .int a1]) ++ List.replicate (2 - (lg_sl ([.ref (ad 0 0), .int a1])).length) Slot.unset).toArray = ls at hl ⊢
  have hl : lv_has ls 2 [(0, .ref (ad 0 0)), (1, .int a1)] := hl
  refine lv_iload_n (pc := 0) hx hb dV_failAfter_0 rfl (lv_at hl 1 rfl) ?_
  refine lv_if_lt (pc := 1) (tgt := 14) hx hb dV_failAfter_1 rfl (fun h1 => ?_) (fun h1 => ?_)
  · replace hf := ite_t h1 hf
    refine lv_iconst (pc := 14) (v := 0) hx hb dV_failAfter_14 (by decide) ?_
    obtain ⟨h8, h9⟩ := Prod.mk.inj (Option.some.inj hf)
    subst h9
    exact W.zret (pc := 15) hx hb hr (rfl) (fun t ht hW => ⟨⟨_, (), rfl, h8, by rw [ht]; exact hP, hD, hC⟩, hS.F ht⟩) hS.2.2 dV_failAfter_15
  · replace hf := ite_f h1 hf
    refine lv_aload_n (pc := 4) hx hb dV_failAfter_4 rfl (lv_at hl 0 rfl) ?_
    obtain ⟨q2, hq2, eq2⟩ := at_0 (ad := ad) (ca := ca) (σ := σ) hm0
    refine va_get (D := (dC, dI)) (cl := kCl) (C := RV) (T := TV) (N := 9) (pc := 5) hx hb hts inV hown hK.1 hP q2 eq2 rfl 7 (by decide) (hts _ wd_380) (fun _ h9 => h9) rfl dV_failAfter_5 ?_
    obtain ⟨q3, hq3, eq3⟩ := at_3 (ad := ad) (ca := ca) (σ := σ) (cm_0_7 hC hm0)
    refine va_get (D := (dC, dI)) (cl := kCl) (C := RP) (T := TP) (N := 6) (pc := 8) hx hb hts inP hown hK.1 hP q3 eq3 rfl 3 (by decide) (hts _ wd_439) (fun _ h9 => h9) rfl dV_failAfter_8 ?_
    refine lv_if_eq (pc := 11) (tgt := 16) hx hb dV_failAfter_11 rfl (fun h4 => ?_) (fun h4 => ?_)
    · replace hf := ite_t h4 hf
      refine lv_aload_n (pc := 16) hx hb dV_failAfter_16 rfl (lv_at hl 0 rfl) ?_
      obtain ⟨q5, hq5, eq5⟩ := at_0 (ad := ad) (ca := ca) (σ := σ) hm0
      refine va_get (D := (dC, dI)) (cl := kCl) (C := RV) (T := TV) (N := 9) (pc := 17) hx hb hts inV hown hK.1 hP q5 eq5 rfl 7 (by decide) (hts _ wd_380) (fun _ h9 => h9) rfl dV_failAfter_17 ?_
      refine lv_iload_n (pc := 20) hx hb dV_failAfter_20 rfl (lv_at hl 1 rfl) ?_
      obtain ⟨q6, hq6, eq6⟩ := at_3 (ad := ad) (ca := ca) (σ := σ) (cm_0_7 hC hm0)
      obtain ⟨⟨y7, σ8⟩, hy7, hf⟩ := ob hf
      have hFc := w9_free hD hS hA
      refine va_callv (pc := 21) (va_runV (As := [.int a1]) (rest := []) ⟨hx, hb, hml, hown, hts⟩ (t_P_failAhead l dC dI ad ca dom H.size σ a1 (cm_0_7 hC hm0) hN hC y7 σ8 hy7) (cwV 1 hts (gV wd_441 wd_442 wd_443 wd_385 wd_440) rfl rfl rfl (by decide +kernel) ⟨Nat.le_of_ble_eq_true rfl, Nat.le_of_ble_eq_true rfl⟩) ⟨hW_blind, va_recv (q := (RP, TP, 6)) (q0 := q6) (ci := 3) hK.1 hP rfl eq6, hW_pre hP hK hD hG⟩ rfl rfl hl.1 rfl (lv_room (Nat.le_of_ble_eq_true rfl)) dV_failAfter_21 ⟨Nat.le_of_ble_eq_true rfl, Nat.le_of_ble_eq_true rfl⟩) hS (fun q _ h => hFc q h) hFc (fun u t H1 locs ht hvm hr9 hB hz1 hk1 hS => ?_)
      obtain ⟨hP, hD, hC⟩ := hB
      rw [ht] at hP
      replace hD := hD.weaken (fun _ _ _ h => hFc _ h)
      generalize H1 = H at hP hS ⊢
      refine lv_iconst (pc := 24) (v := 1) hx hb dV_failAfter_24 (by decide) ?_
      obtain ⟨h8, h9⟩ := Prod.mk.inj (Option.some.inj hf)
      subst h9
      exact W.zret (pc := 25) hx hb hr (rfl) (fun t ht hW => ⟨⟨_, (), rfl, h8, by rw [ht]; exact hP, hD, hC⟩, hS.F ht⟩) hS.2.2 dV_failAfter_25
    · replace hf := ite_f h4 hf
      refine lv_iconst (pc := 14) (v := 0) hx hb dV_failAfter_14 (by decide) ?_
      obtain ⟨h8, h9⟩ := Prod.mk.inj (Option.some.inj hf)
      subst h9
      exact W.zret (pc := 15) hx hb hr (rfl) (fun t ht hW => ⟨⟨_, (), rfl, h8, by rw [ht]; exact hP, hD, hC⟩, hS.F ht⟩) hS.2.2 dV_failAfter_15
def V_start_L2 (n : Nat) (kx3 : hT → Int32 → Option (Int32 × hT)) : Nat → hT → Int32 → Option (Int32 × hT)
  | 0, _, _ => none
  | k + 1, σ1, p2 => if (xI σ1 102 0 0) ≤ p2 then kx3 (σ1) p2 else if in9 p2 24 then hq (xR σ1 9 0 (p2).toNatClampNeg) (none) fun j11 => if in9 p2 24 then hq (xR σ1 9 0 (p2).toNatClampNeg) (none) fun j18 => Option.bind (C_takeFrom σ1 (3 * j11) (3 * j18 + 1)) fun ⟨y22, σ23⟩ => V_start_L2 n kx3 k (σ23) (p2 + 1) else none else none
def V_start (n : Nat) (σ : hT) : Option (Int32 × hT) := lt9 (α := hT → Int32 → Option (Int32 × hT)) (fun (σ1 : hT) (p2 : Int32) => Option.bind (P_switchOn σ1) fun ⟨y26, σ27⟩ => Option.bind (V_drawingsOut n σ27) fun y29 => some (y29, σ27)) fun kx3 => V_start_L2 n kx3 n (σ) 0
set_option maxHeartbeats 4000000 in
set_option maxRecDepth 100000 in
theorem t_V_start (l : Launch) (dC : Nat → ClassId) (dI : Nat → Nat → Nat) (ad : Nat → Nat → Nat) (ca : Nat → Nat → ClassId) (dom : List (Nat × Nat)) (sz : Nat) (n : Nat) (σ : hT) (hm0 : (0, 0) ∈ dom) (hN : dom.Nodup) (hC : clo dom σ.2.2) (ρ : Int32) (σ' : hT) (hf : V_start n σ = some (ρ, σ')) : Met l yV_start (.code yV_start cV_start 2 (some .int) :: aw) ({ frames := 2, cells := 0, slots := 0, locals := 61 }) (hW (dC, dI) sz ad ca dom σ [.ref (ad 0 0)]) (va_Qi (fun r (_ : Unit) => r = ρ) (fun _ t => hB (dC, dI) (va_A (w9 ad ca dom σ) sz) ad ca dom σ' t) (va_A (w9 ad ca dom σ) sz)) 0 0 (va_A (w9 ad ca dom σ) sz) := by
  refine Met.ofW (cc := cV_start) (maxL := 2) (ret := (some .int)) (by decide) rfl ?_
  intro p e s m args below meth c s₁ B hml hv
  obtain ⟨rfl, hv⟩ := hv
  have hx := B.exec
  have hb := B.bytes
  have hr := B.returns
  have hts : ∀ w ∈ aw, w.before _ s = true := fun w h => atoms_spec (ws := (.code yV_start cV_start 2 (some .int) :: aw)) B.pre w (List.mem_cons_of_mem _ h)
  have hown : s.vm.findClass RV = some m.cls := findClass_of_methodNamed B.named
  have hlocks := B.notSynchronized
  obtain ⟨hsz, hP, hK, hD0, hG⟩ := hv
  subst hsz
  have hD := hD0.self (sz := s.heap.size)
  generalize hAe : va_A (w9 ad ca dom σ) s.heap.size = A at hD ⊢
  have hA : ∀ q : Nat, s.heap.size ≤ q → A q := fun q h => by rw [← hAe]; exact Or.inr h
  obtain ⟨H, hH⟩ : ∃ H, H = s.heap := ⟨_, rfl⟩
  have hS : va_S A s.heap H [] := by rw [hH]; exact va_S.rf
  rw [← hH] at hP ⊢
  unfold V_start at hf
  have hl := lv_entry ([.ref (ad 0 0)]) (n := 2) (Nat.le_of_ble_eq_true rfl)
  rw [lg_entry_eq]
  generalize (lg_sl ([.ref (ad 0 0)]) ++ List.replicate (2 - (lg_sl ([.ref (ad 0 0)])).length) Slot.unset).toArray = ls at hl ⊢
  have hl : lv_has ls 2 [(0, .ref (ad 0 0))] := hl
  refine lv_iconst (pc := 0) (v := 0) hx hb dV_start_0 (by decide) ?_
  refine lv_istore_n (pc := 1) hx hb dV_start_1 rfl hl (by decide) rfl (fun ls hl => ?_)
  have hl : lv_has ls 2 [(1, .int 0), (0, .ref (ad 0 0))] := hl
  obtain ⟨kx3, hkx3, hf⟩ := lt_9 hf
  refine lpF (τ := (hT) × (Int32) × (Heap) × (List Loc) × (Array Slot)) (fun pc z => W p l e _ s m _ below meth c z.2.2.1 z.2.2.2.1 0 0 _ (F0 m pc z.2.2.2.2 [])) 2 37 (fun z => va_P (dC, dI) kCl (w9 ad ca dom z.1) z.2.2.1 ∧ va_D A (w9 ad ca dom z.1) ∧ va_S A s.heap z.2.2.1 z.2.2.2.1 ∧ clo dom z.1.2.2 ∧ lv_has z.2.2.2.2 2 [(1, .int z.2.1), (0, .ref (ad 0 0))]) (fun k z => V_start_L2 n kx3 k z.1 z.2.1) (fun z => kx3 z.1 z.2.1) _ (fun z => rfl) ?_ ?_ n (σ, 0, H, _, ls) ⟨hP, hD, hS, hC, hl⟩ hf
  · rintro k ⟨σ1, p2, H, locs, ls⟩ ⟨hP, hD, hS, hC, hl⟩ hf ih4 hXkx3
    dsimp only at hP hD hS hC hl hf ih4 hXkx3 ⊢
    unfold V_start_L2 at hf
    have hl : lv_has ls 2 [(1, .int p2), (0, .ref (ad 0 0))] := hl
    refine lv_iload_n (pc := 2) hx hb dV_start_2 rfl (lv_at hl 0 rfl) ?_
    refine lv_aload_n (pc := 3) hx hb dV_start_3 rfl (lv_at hl 1 rfl) ?_
    obtain ⟨q5, hq5, eq5⟩ := at_0 (ad := ad) (ca := ca) (σ := σ1) hm0
    refine va_get (D := (dC, dI)) (cl := kCl) (C := RV) (T := TV) (N := 9) (pc := 4) hx hb hts inV hown hK.1 hP q5 eq5 rfl 2 (by decide) (hts _ wd_314) (fun _ h9 => h9) rfl dV_start_4 ?_
    refine lv_icmp_ge (pc := 7) (tgt := 37) hx hb dV_start_7 rfl (fun h6 => ?_) (fun h6 => ?_)
    · replace hf := ite_t h6 hf
      have hl := lv_sub hl (l' := [(1, .int p2), (0, .ref (ad 0 0))]) [0, 1] rfl
      exact hXkx3 (σ1, p2, H, _, ls) ⟨hP, hD, hS, hC, hl⟩ hf
    · replace hf := ite_f h6 hf
      refine lv_aload_n (pc := 10) hx hb dV_start_10 rfl (lv_at hl 1 rfl) ?_
      obtain ⟨q7, hq7, eq7⟩ := at_0 (ad := ad) (ca := ca) (σ := σ1) hm0
      refine va_get (D := (dC, dI)) (cl := kCl) (C := RV) (T := TV) (N := 9) (pc := 11) hx hb hts inV hown hK.1 hP q7 eq7 rfl 1 (by decide) (hts _ wd_315) (fun _ h9 => h9) rfl dV_start_11 ?_
      refine lv_iload_n (pc := 14) hx hb dV_start_14 rfl (lv_at hl 0 rfl) ?_
      obtain ⟨hv8, hf⟩ := ite_s hf
      obtain ⟨q9, hq9, eq9⟩ := at_9 (ad := ad) (ca := ca) (σ := σ1) (cm_0_1 hC hm0)
      refine va_aldq (D := (dC, dI)) (cl := kCl) (pc := 15) hx hb (hK.2 9 0 (.object "DrawingVault$Drawing") (cm_0_1 hC hm0) rfl) hP q9 0 eq9 rfl (hv8) dV_start_15 ?_
      refine W.eq (g2 := F0 m 16 ls [va_re (ad 6) (xR σ1 9 0 (p2).toNatClampNeg)]) rfl ?_
      rcases hE10 : xR σ1 9 0 (p2).toNatClampNeg with _ | j11
      · replace hf := hq_n hE10 hf
        refine W.eq (g2 := F0 m 16 ls [.null]) rfl ?_
        exact nomatch hf
      · replace hf := hq_s hE10 hf
        have hm12 : (6, j11) ∈ dom := (cr_9 hC (cm_0_1 hC hm0) hE10)
        refine W.eq (g2 := F0 m 16 ls [.ref (ad 6 j11)]) rfl ?_
        obtain ⟨q13, hq13, eq13⟩ := at_6 (ad := ad) (ca := ca) (σ := σ1) hm12
        refine va_get (D := (dC, dI)) (cl := kCl) (C := RD) (T := TD) (N := 5) (pc := 16) hx hb hts inD hown hK.1 hP q13 eq13 rfl 3 (by decide) (hts _ wd_368) (fun _ h9 => h9) rfl dV_start_16 ?_
        refine lv_aload_n (pc := 19) hx hb dV_start_19 rfl (lv_at hl 1 rfl) ?_
        obtain ⟨q14, hq14, eq14⟩ := at_0 (ad := ad) (ca := ca) (σ := σ1) hm0
        refine va_get (D := (dC, dI)) (cl := kCl) (C := RV) (T := TV) (N := 9) (pc := 20) hx hb hts inV hown hK.1 hP q14 eq14 rfl 1 (by decide) (hts _ wd_315) (fun _ h9 => h9) rfl dV_start_20 ?_
        refine lv_iload_n (pc := 23) hx hb dV_start_23 rfl (lv_at hl 0 rfl) ?_
        obtain ⟨hv15, hf⟩ := ite_s hf
        obtain ⟨q16, hq16, eq16⟩ := at_9 (ad := ad) (ca := ca) (σ := σ1) (cm_0_1 hC hm0)
        refine va_aldq (D := (dC, dI)) (cl := kCl) (pc := 24) hx hb (hK.2 9 0 (.object "DrawingVault$Drawing") (cm_0_1 hC hm0) rfl) hP q16 0 eq16 rfl (hv15) dV_start_24 ?_
        refine W.eq (g2 := F0 m 25 ls [va_re (ad 6) (xR σ1 9 0 (p2).toNatClampNeg), .ref (ad 5 (3 * j11))]) rfl ?_
        rcases hE17 : xR σ1 9 0 (p2).toNatClampNeg with _ | j18
        · replace hf := hq_n hE17 hf
          refine W.eq (g2 := F0 m 25 ls [.null, .ref (ad 5 (3 * j11))]) rfl ?_
          exact nomatch hf
        · replace hf := hq_s hE17 hf
          have hm19 : (6, j18) ∈ dom := (cr_9 hC (cm_0_1 hC hm0) hE17)
          refine W.eq (g2 := F0 m 25 ls [.ref (ad 6 j18), .ref (ad 5 (3 * j11))]) rfl ?_
          obtain ⟨q20, hq20, eq20⟩ := at_6 (ad := ad) (ca := ca) (σ := σ1) hm19
          refine va_get (D := (dC, dI)) (cl := kCl) (C := RD) (T := TD) (N := 5) (pc := 25) hx hb hts inD hown hK.1 hP q20 eq20 rfl 4 (by decide) (hts _ wd_386) (fun _ h9 => h9) rfl dV_start_25 ?_
          obtain ⟨q21, hq21, eq21⟩ := at_5 (ad := ad) (ca := ca) (σ := σ1) (cm_6_3 hC hm12)
          obtain ⟨⟨y22, σ23⟩, hy22, hf⟩ := ob hf
          have hFc := w9_free hD hS hA
          refine va_callv (pc := 28) (va_runV (As := [.ref (ad 5 (3 * j18 + 1))]) (rest := []) ⟨hx, hb, hml, hown, hts⟩ (t_C_takeFrom l dC dI ad ca dom H.size σ1 (3 * j11) (3 * j18 + 1) (cm_6_3 hC hm12) (cm_6_4 hC hm19) hN hC y22 σ23 hy22) (cwV 1 hts (gV wd_387 wd_308 wd_309 wd_228 wd_306) rfl rfl rfl (by decide +kernel) ⟨Nat.le_of_ble_eq_true rfl, Nat.le_of_ble_eq_true rfl⟩) ⟨hW_blind, va_recv (q := (RC, TC, 5)) (q0 := q21) (ci := 5) hK.1 hP rfl eq21, hW_pre hP hK hD hG⟩ rfl rfl hl.1 rfl (lv_room (Nat.le_of_ble_eq_true rfl)) dV_start_28 ⟨Nat.le_of_ble_eq_true rfl, Nat.le_of_ble_eq_true rfl⟩) hS (fun q _ h => hFc q h) hFc (fun u t H1 locs ht hvm hr9 hB hz1 hk1 hS => ?_)
          obtain ⟨hP, hD, hC⟩ := hB
          rw [ht] at hP
          replace hD := hD.weaken (fun _ _ _ h => hFc _ h)
          generalize H1 = H at hP hS ⊢
          refine lv_iinc (pc := 31) (v := (p2 + 1)) hx hb dV_start_31 hl (k := 0) rfl (by rfl) (by decide) rfl (fun ls hl => ?_)
          have hl : lv_has ls 2 [(1, .int (p2 + 1)), (0, .ref (ad 0 0))] := hl
          refine lv_goto (pc := 34) (tgt := 2) hx hb dV_start_34 rfl ?_
          have hl := lv_sub hl (l' := [(1, .int (p2 + 1)), (0, .ref (ad 0 0))]) [0, 1] rfl
          exact ih4 (σ23, (p2 + 1), H, _, ls) ⟨hP, hD, hS, hC, hl⟩ hf
  · rintro ⟨σ1, p2, H, locs, ls⟩ ⟨hP, hD, hS, hC, hl⟩ hf
    dsimp only at hP hD hS hC hl hf ⊢
    rw [hkx3] at hf
    have hl : lv_has ls 2 [(1, .int p2), (0, .ref (ad 0 0))] := hl
    refine lv_aload_n (pc := 37) hx hb dV_start_37 rfl (lv_at hl 1 rfl) ?_
    obtain ⟨q24, hq24, eq24⟩ := at_0 (ad := ad) (ca := ca) (σ := σ1) hm0
    refine va_get (D := (dC, dI)) (cl := kCl) (C := RV) (T := TV) (N := 9) (pc := 38) hx hb hts inV hown hK.1 hP q24 eq24 rfl 7 (by decide) (hts _ wd_380) (fun _ h9 => h9) rfl dV_start_38 ?_
    obtain ⟨q25, hq25, eq25⟩ := at_3 (ad := ad) (ca := ca) (σ := σ1) (cm_0_7 hC hm0)
    obtain ⟨⟨y26, σ27⟩, hy26, hf⟩ := ob hf
    have hFc := w9_free hD hS hA
    refine va_callv (pc := 41) (va_runV (As := []) (rest := []) ⟨hx, hb, hml, hown, hts⟩ (t_P_switchOn l dC dI ad ca dom H.size σ1 (cm_0_7 hC hm0) hN hC y26 σ27 hy26) (cwV 0 hts (gV wd_445 wd_446 wd_447 wd_385 wd_444) rfl rfl rfl (by decide +kernel) ⟨Nat.le_of_ble_eq_true rfl, Nat.le_of_ble_eq_true rfl⟩) ⟨hW_blind, va_recv (q := (RP, TP, 6)) (q0 := q25) (ci := 3) hK.1 hP rfl eq25, hW_pre hP hK hD hG⟩ rfl rfl hl.1 rfl (lv_room (Nat.le_of_ble_eq_true rfl)) dV_start_41 ⟨Nat.le_of_ble_eq_true rfl, Nat.le_of_ble_eq_true rfl⟩) hS (fun q _ h => hFc q h) hFc (fun u t H1 locs ht hvm hr9 hB hz1 hk1 hS => ?_)
    obtain ⟨hP, hD, hC⟩ := hB
    rw [ht] at hP
    replace hD := hD.weaken (fun _ _ _ h => hFc _ h)
    generalize H1 = H at hP hS ⊢
    refine lv_aload_n (pc := 44) hx hb dV_start_44 rfl (lv_at hl 1 rfl) ?_
    obtain ⟨q28, hq28, eq28⟩ := at_0 (ad := ad) (ca := ca) (σ := σ27) hm0
    obtain ⟨y29, hy29, hf⟩ := ob hf
    refine vp_callSi (pc := 45) (W.runV (As := []) (rest := []) ⟨hx, hb, hml, hown, hts⟩ (t_V_drawingsOut l dC dI ad ca dom n σ27 hm0 hN hC y29 hy29) (cwV 0 hts (gV wd_371 wd_372 wd_373 wd_254 wd_370) rfl rfl rfl (by decide +kernel) ⟨Nat.le_of_ble_eq_true rfl, Nat.le_of_ble_eq_true rfl⟩) ⟨hR_blind, va_recv (q := (RV, TV, 9)) (q0 := q28) (ci := 0) hK.1 hP rfl eq28, hR_pre hP hK hG⟩ rfl rfl hl.1 rfl (lv_room (Nat.le_of_ble_eq_true rfl)) dV_start_45 ⟨Nat.le_of_ble_eq_true rfl, Nat.le_of_ble_eq_true rfl⟩) (fun r9 hr9 => ?_)
    refine W.eq (g2 := F0 m 48 ls [.int y29]) (by rw [hr9]) ?_
    obtain ⟨h8, h9⟩ := Prod.mk.inj (Option.some.inj hf)
    subst h9
    exact W.iret (pc := 48) hx hb hr (fun t ht hW => ⟨⟨_, (), rfl, h8, by rw [ht]; exact hP, hD, hC⟩, hS.F ht⟩) hS.2.2 dV_start_48
def V_count (n : Nat) (σ : hT) (a1 : Int32) : Option (Int32 × hT) := if a1 = 0 then some ((xI σ 102 0 0), σ) else if a1 = 1 then some ((xI σ 103 0 0), σ) else if a1 = 2 then Option.bind (V_chunksKept n σ) fun ⟨y7, σ8⟩ => some (y7, σ8) else if a1 = 3 then some ((xI σ 400 0 0), σ) else if a1 = 4 then some ((xI σ 401 0 0), σ) else if a1 = 5 then some ((xI σ 402 0 0), σ) else if a1 = 6 then Option.bind (V_baselinesMade n σ) fun y20 => some (y20, σ) else if a1 = 7 then if (xI σ 403 0 0) = 0 then some (0, σ) else some (1, σ) else some ((-1), σ)
set_option maxHeartbeats 4000000 in
set_option maxRecDepth 100000 in
theorem t_V_count (l : Launch) (dC : Nat → ClassId) (dI : Nat → Nat → Nat) (ad : Nat → Nat → Nat) (ca : Nat → Nat → ClassId) (dom : List (Nat × Nat)) (sz : Nat) (n : Nat) (σ : hT) (a1 : Int32) (hm0 : (0, 0) ∈ dom) (hN : dom.Nodup) (hC : clo dom σ.2.2) (ρ : Int32) (σ' : hT) (hf : V_count n σ a1 = some (ρ, σ')) : Met l yV_count (.code yV_count cV_count 2 (some .int) :: aw) ({ frames := 5, cells := 0, slots := 0, locals := 102 }) (hW (dC, dI) sz ad ca dom σ [.ref (ad 0 0), .int a1]) (va_Qi (fun r (_ : Unit) => r = ρ) (fun _ t => hB (dC, dI) (va_A (w9 ad ca dom σ) sz) ad ca dom σ' t) (va_A (w9 ad ca dom σ) sz)) 0 0 (va_A (w9 ad ca dom σ) sz) := by
  refine Met.ofW (cc := cV_count) (maxL := 2) (ret := (some .int)) (by decide) rfl ?_
  intro p e s m args below meth c s₁ B hml hv
  obtain ⟨rfl, hv⟩ := hv
  have hx := B.exec
  have hb := B.bytes
  have hr := B.returns
  have hts : ∀ w ∈ aw, w.before _ s = true := fun w h => atoms_spec (ws := (.code yV_count cV_count 2 (some .int) :: aw)) B.pre w (List.mem_cons_of_mem _ h)
  have hown : s.vm.findClass RV = some m.cls := findClass_of_methodNamed B.named
  have hlocks := B.notSynchronized
  obtain ⟨hsz, hP, hK, hD0, hG⟩ := hv
  subst hsz
  have hD := hD0.self (sz := s.heap.size)
  generalize hAe : va_A (w9 ad ca dom σ) s.heap.size = A at hD ⊢
  have hA : ∀ q : Nat, s.heap.size ≤ q → A q := fun q h => by rw [← hAe]; exact Or.inr h
  obtain ⟨H, hH⟩ : ∃ H, H = s.heap := ⟨_, rfl⟩
  have hS : va_S A s.heap H [] := by rw [hH]; exact va_S.rf
  rw [← hH] at hP ⊢
  unfold V_count at hf
  have hl := lv_entry ([.ref (ad 0 0), .int a1]) (n := 2) (Nat.le_of_ble_eq_true rfl)
  rw [lg_entry_eq]
  generalize (lg_sl ([.ref (ad 0 0), .int a1]) ++ List.replicate (2 - (lg_sl ([.ref (ad 0 0), .int a1])).length) Slot.unset).toArray = ls at hl ⊢
  have hl : lv_has ls 2 [(0, .ref (ad 0 0)), (1, .int a1)] := hl
  refine lv_iload_n (pc := 0) hx hb dV_count_0 rfl (lv_at hl 1 rfl) ?_
  by_cases hw1 : a1 = 0
  · replace hf := ite_t hw1 hf
    refine lv_tableIn (pc := 1) (tgt := 48) (off := 47) hx hb dV_count_1 (by rw [hw1]; decide) (by rw [hw1]; decide) (by rw [hw1]; decide) rfl ?_
    refine lv_aload_n (pc := 48) hx hb dV_count_48 rfl (lv_at hl 0 rfl) ?_
    obtain ⟨q2, hq2, eq2⟩ := at_0 (ad := ad) (ca := ca) (σ := σ) hm0
    refine va_get (D := (dC, dI)) (cl := kCl) (C := RV) (T := TV) (N := 9) (pc := 49) hx hb hts inV hown hK.1 hP q2 eq2 rfl 2 (by decide) (hts _ wd_314) (fun _ h9 => h9) rfl dV_count_49 ?_
    obtain ⟨h8, h9⟩ := Prod.mk.inj (Option.some.inj hf)
    subst h9
    exact W.iret (pc := 52) hx hb hr (fun t ht hW => ⟨⟨_, (), rfl, h8, by rw [ht]; exact hP, hD, hC⟩, hS.F ht⟩) hS.2.2 dV_count_52
  replace hf := ite_f hw1 hf
  by_cases hw3 : a1 = 1
  · replace hf := ite_t hw3 hf
    refine lv_tableIn (pc := 1) (tgt := 53) (off := 52) hx hb dV_count_1 (by rw [hw3]; decide) (by rw [hw3]; decide) (by rw [hw3]; decide) rfl ?_
    refine lv_aload_n (pc := 53) hx hb dV_count_53 rfl (lv_at hl 0 rfl) ?_
    obtain ⟨q4, hq4, eq4⟩ := at_0 (ad := ad) (ca := ca) (σ := σ) hm0
    refine va_get (D := (dC, dI)) (cl := kCl) (C := RV) (T := TV) (N := 9) (pc := 54) hx hb hts inV hown hK.1 hP q4 eq4 rfl 3 (by decide) (hts _ wd_369) (fun _ h9 => h9) rfl dV_count_54 ?_
    obtain ⟨h8, h9⟩ := Prod.mk.inj (Option.some.inj hf)
    subst h9
    exact W.iret (pc := 57) hx hb hr (fun t ht hW => ⟨⟨_, (), rfl, h8, by rw [ht]; exact hP, hD, hC⟩, hS.F ht⟩) hS.2.2 dV_count_57
  replace hf := ite_f hw3 hf
  by_cases hw5 : a1 = 2
  · replace hf := ite_t hw5 hf
    refine lv_tableIn (pc := 1) (tgt := 58) (off := 57) hx hb dV_count_1 (by rw [hw5]; decide) (by rw [hw5]; decide) (by rw [hw5]; decide) rfl ?_
    refine lv_aload_n (pc := 58) hx hb dV_count_58 rfl (lv_at hl 0 rfl) ?_
    obtain ⟨q6, hq6, eq6⟩ := at_0 (ad := ad) (ca := ca) (σ := σ) hm0
    obtain ⟨⟨y7, σ8⟩, hy7, hf⟩ := ob hf
    have hFc := w9_free hD hS hA
    refine va_calli (pc := 59) (va_runV (As := []) (rest := []) ⟨hx, hb, hml, hown, hts⟩ (t_V_chunksKept l dC dI ad ca dom H.size n σ hm0 hN hC y7 σ8 hy7) (cwV 0 hts (gV wd_449 wd_450 wd_451 wd_254 wd_448) rfl rfl rfl (by decide +kernel) ⟨Nat.le_of_ble_eq_true rfl, Nat.le_of_ble_eq_true rfl⟩) ⟨hW_blind, va_recv (q := (RV, TV, 9)) (q0 := q6) (ci := 0) hK.1 hP rfl eq6, hW_pre hP hK hD hG⟩ rfl rfl hl.1 rfl (lv_room (Nat.le_of_ble_eq_true rfl)) dV_count_59 ⟨Nat.le_of_ble_eq_true rfl, Nat.le_of_ble_eq_true rfl⟩) hS (fun q _ h => hFc q h) hFc (fun r9 u t H1 locs ht hvm hr9 hB hz1 hk1 hS => ?_)
    obtain ⟨hP, hD, hC⟩ := hB
    rw [ht] at hP
    replace hD := hD.weaken (fun _ _ _ h => hFc _ h)
    generalize H1 = H at hP hS ⊢
    refine W.eq (g2 := F0 m 62 ls [.int y7]) (by rw [hr9]) ?_
    obtain ⟨h8, h9⟩ := Prod.mk.inj (Option.some.inj hf)
    subst h9
    exact W.iret (pc := 62) hx hb hr (fun t ht hW => ⟨⟨_, (), rfl, h8, by rw [ht]; exact hP, hD, hC⟩, hS.F ht⟩) hS.2.2 dV_count_62
  replace hf := ite_f hw5 hf
  by_cases hw9 : a1 = 3
  · replace hf := ite_t hw9 hf
    refine lv_tableIn (pc := 1) (tgt := 63) (off := 62) hx hb dV_count_1 (by rw [hw9]; decide) (by rw [hw9]; decide) (by rw [hw9]; decide) rfl ?_
    refine lv_aload_n (pc := 63) hx hb dV_count_63 rfl (lv_at hl 0 rfl) ?_
    obtain ⟨q10, hq10, eq10⟩ := at_0 (ad := ad) (ca := ca) (σ := σ) hm0
    refine va_get (D := (dC, dI)) (cl := kCl) (C := RV) (T := TV) (N := 9) (pc := 64) hx hb hts inV hown hK.1 hP q10 eq10 rfl 7 (by decide) (hts _ wd_380) (fun _ h9 => h9) rfl dV_count_64 ?_
    obtain ⟨q11, hq11, eq11⟩ := at_3 (ad := ad) (ca := ca) (σ := σ) (cm_0_7 hC hm0)
    refine va_get (D := (dC, dI)) (cl := kCl) (C := RP) (T := TP) (N := 6) (pc := 67) hx hb hts inP hown hK.1 hP q11 eq11 rfl 0 (by decide) (hts _ wd_452) (fun _ h9 => h9) rfl dV_count_67 ?_
    obtain ⟨h8, h9⟩ := Prod.mk.inj (Option.some.inj hf)
    subst h9
    exact W.iret (pc := 70) hx hb hr (fun t ht hW => ⟨⟨_, (), rfl, h8, by rw [ht]; exact hP, hD, hC⟩, hS.F ht⟩) hS.2.2 dV_count_70
  replace hf := ite_f hw9 hf
  by_cases hw12 : a1 = 4
  · replace hf := ite_t hw12 hf
    refine lv_tableIn (pc := 1) (tgt := 71) (off := 70) hx hb dV_count_1 (by rw [hw12]; decide) (by rw [hw12]; decide) (by rw [hw12]; decide) rfl ?_
    refine lv_aload_n (pc := 71) hx hb dV_count_71 rfl (lv_at hl 0 rfl) ?_
    obtain ⟨q13, hq13, eq13⟩ := at_0 (ad := ad) (ca := ca) (σ := σ) hm0
    refine va_get (D := (dC, dI)) (cl := kCl) (C := RV) (T := TV) (N := 9) (pc := 72) hx hb hts inV hown hK.1 hP q13 eq13 rfl 7 (by decide) (hts _ wd_380) (fun _ h9 => h9) rfl dV_count_72 ?_
    obtain ⟨q14, hq14, eq14⟩ := at_3 (ad := ad) (ca := ca) (σ := σ) (cm_0_7 hC hm0)
    refine va_get (D := (dC, dI)) (cl := kCl) (C := RP) (T := TP) (N := 6) (pc := 75) hx hb hts inP hown hK.1 hP q14 eq14 rfl 1 (by decide) (hts _ wd_453) (fun _ h9 => h9) rfl dV_count_75 ?_
    obtain ⟨h8, h9⟩ := Prod.mk.inj (Option.some.inj hf)
    subst h9
    exact W.iret (pc := 78) hx hb hr (fun t ht hW => ⟨⟨_, (), rfl, h8, by rw [ht]; exact hP, hD, hC⟩, hS.F ht⟩) hS.2.2 dV_count_78
  replace hf := ite_f hw12 hf
  by_cases hw15 : a1 = 5
  · replace hf := ite_t hw15 hf
    refine lv_tableIn (pc := 1) (tgt := 79) (off := 78) hx hb dV_count_1 (by rw [hw15]; decide) (by rw [hw15]; decide) (by rw [hw15]; decide) rfl ?_
    refine lv_aload_n (pc := 79) hx hb dV_count_79 rfl (lv_at hl 0 rfl) ?_
    obtain ⟨q16, hq16, eq16⟩ := at_0 (ad := ad) (ca := ca) (σ := σ) hm0
    refine va_get (D := (dC, dI)) (cl := kCl) (C := RV) (T := TV) (N := 9) (pc := 80) hx hb hts inV hown hK.1 hP q16 eq16 rfl 7 (by decide) (hts _ wd_380) (fun _ h9 => h9) rfl dV_count_80 ?_
    obtain ⟨q17, hq17, eq17⟩ := at_3 (ad := ad) (ca := ca) (σ := σ) (cm_0_7 hC hm0)
    refine va_get (D := (dC, dI)) (cl := kCl) (C := RP) (T := TP) (N := 6) (pc := 83) hx hb hts inP hown hK.1 hP q17 eq17 rfl 2 (by decide) (hts _ wd_454) (fun _ h9 => h9) rfl dV_count_83 ?_
    obtain ⟨h8, h9⟩ := Prod.mk.inj (Option.some.inj hf)
    subst h9
    exact W.iret (pc := 86) hx hb hr (fun t ht hW => ⟨⟨_, (), rfl, h8, by rw [ht]; exact hP, hD, hC⟩, hS.F ht⟩) hS.2.2 dV_count_86
  replace hf := ite_f hw15 hf
  by_cases hw18 : a1 = 6
  · replace hf := ite_t hw18 hf
    refine lv_tableIn (pc := 1) (tgt := 87) (off := 86) hx hb dV_count_1 (by rw [hw18]; decide) (by rw [hw18]; decide) (by rw [hw18]; decide) rfl ?_
    refine lv_aload_n (pc := 87) hx hb dV_count_87 rfl (lv_at hl 0 rfl) ?_
    obtain ⟨q19, hq19, eq19⟩ := at_0 (ad := ad) (ca := ca) (σ := σ) hm0
    obtain ⟨y20, hy20, hf⟩ := ob hf
    refine vp_callSi (pc := 88) (W.runV (As := []) (rest := []) ⟨hx, hb, hml, hown, hts⟩ (t_V_baselinesMade l dC dI ad ca dom n σ hm0 hN hC y20 hy20) (cwV 0 hts (gV wd_456 wd_457 wd_458 wd_254 wd_455) rfl rfl rfl (by decide +kernel) ⟨Nat.le_of_ble_eq_true rfl, Nat.le_of_ble_eq_true rfl⟩) ⟨hR_blind, va_recv (q := (RV, TV, 9)) (q0 := q19) (ci := 0) hK.1 hP rfl eq19, hR_pre hP hK hG⟩ rfl rfl hl.1 rfl (lv_room (Nat.le_of_ble_eq_true rfl)) dV_count_88 ⟨Nat.le_of_ble_eq_true rfl, Nat.le_of_ble_eq_true rfl⟩) (fun r9 hr9 => ?_)
    refine W.eq (g2 := F0 m 91 ls [.int y20]) (by rw [hr9]) ?_
    obtain ⟨h8, h9⟩ := Prod.mk.inj (Option.some.inj hf)
    subst h9
    exact W.iret (pc := 91) hx hb hr (fun t ht hW => ⟨⟨_, (), rfl, h8, by rw [ht]; exact hP, hD, hC⟩, hS.F ht⟩) hS.2.2 dV_count_91
  replace hf := ite_f hw18 hf
  by_cases hw21 : a1 = 7
  · replace hf := ite_t hw21 hf
    refine lv_tableIn (pc := 1) (tgt := 92) (off := 91) hx hb dV_count_1 (by rw [hw21]; decide) (by rw [hw21]; decide) (by rw [hw21]; decide) rfl ?_
    refine lv_aload_n (pc := 92) hx hb dV_count_92 rfl (lv_at hl 0 rfl) ?_
    obtain ⟨q22, hq22, eq22⟩ := at_0 (ad := ad) (ca := ca) (σ := σ) hm0
    refine va_get (D := (dC, dI)) (cl := kCl) (C := RV) (T := TV) (N := 9) (pc := 93) hx hb hts inV hown hK.1 hP q22 eq22 rfl 7 (by decide) (hts _ wd_380) (fun _ h9 => h9) rfl dV_count_93 ?_
    obtain ⟨q23, hq23, eq23⟩ := at_3 (ad := ad) (ca := ca) (σ := σ) (cm_0_7 hC hm0)
    refine va_get (D := (dC, dI)) (cl := kCl) (C := RP) (T := TP) (N := 6) (pc := 96) hx hb hts inP hown hK.1 hP q23 eq23 rfl 3 (by decide) (hts _ wd_439) (fun _ h9 => h9) rfl dV_count_96 ?_
    refine lv_if_eq (pc := 99) (tgt := 106) hx hb dV_count_99 rfl (fun h24 => ?_) (fun h24 => ?_)
    · replace hf := ite_t h24 hf
      refine lv_iconst (pc := 106) (v := 0) hx hb dV_count_106 (by decide) ?_
      obtain ⟨h8, h9⟩ := Prod.mk.inj (Option.some.inj hf)
      subst h9
      exact W.iret (pc := 107) hx hb hr (fun t ht hW => ⟨⟨_, (), rfl, h8, by rw [ht]; exact hP, hD, hC⟩, hS.F ht⟩) hS.2.2 dV_count_107
    · replace hf := ite_f h24 hf
      refine lv_iconst (pc := 102) (v := 1) hx hb dV_count_102 (by decide) ?_
      refine lv_goto (pc := 103) (tgt := 107) hx hb dV_count_103 rfl ?_
      obtain ⟨h8, h9⟩ := Prod.mk.inj (Option.some.inj hf)
      subst h9
      exact W.iret (pc := 107) hx hb hr (fun t ht hW => ⟨⟨_, (), rfl, h8, by rw [ht]; exact hP, hD, hC⟩, hS.F ht⟩) hS.2.2 dV_count_107
  replace hf := ite_f hw21 hf
  refine lv_tableOut (pc := 1) (tgt := 108) hx hb dV_count_1 (by have := lv_neT hw1 (a := 0) (by decide); have := lv_neT hw3 (a := 1) (by decide); have := lv_neT hw5 (a := 2) (by decide); have := lv_neT hw9 (a := 3) (by decide); have := lv_neT hw12 (a := 4) (by decide); have := lv_neT hw15 (a := 5) (by decide); have := lv_neT hw18 (a := 6) (by decide); have := lv_neT hw21 (a := 7) (by decide); omega) rfl ?_
  refine lv_iconst (pc := 108) (v := (-1)) hx hb dV_count_108 (by decide) ?_
  obtain ⟨h8, h9⟩ := Prod.mk.inj (Option.some.inj hf)
  subst h9
  exact W.iret (pc := 109) hx hb hr (fun t ht hW => ⟨⟨_, (), rfl, h8, by rw [ht]; exact hP, hD, hC⟩, hS.F ht⟩) hS.2.2 dV_count_109
