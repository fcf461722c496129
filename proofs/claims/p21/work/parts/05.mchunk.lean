abbrev cM_isSame : ByteArray := prog_9_method_21_code
abbrev yM_isSame : MethodName := ⟨"DrawingVaultModel", "isSame", "(IIII)Z"⟩
theorem dM_isSame_0 : decode cM_isSame 0 = .ok (.aload_n 0, 1) := by decide +kernel
theorem dM_isSame_1 : decode cM_isSame 1 = .ok (.iload_n 1, 1) := by decide +kernel
theorem dM_isSame_2 : decode cM_isSame 2 = .ok (.iload_n 2, 1) := by decide +kernel
theorem dM_isSame_3 : decode cM_isSame 3 = .ok (.invokevirtual 69, 3) := by decide +kernel
theorem dM_isSame_6 : decode cM_isSame 6 = .ok (.istore 5, 2) := by decide +kernel
theorem dM_isSame_8 : decode cM_isSame 8 = .ok (.iload 5, 2) := by decide +kernel
theorem dM_isSame_10 : decode cM_isSame 10 = .ok (.aload_n 0, 1) := by decide +kernel
theorem dM_isSame_11 : decode cM_isSame 11 = .ok (.iload_n 3, 1) := by decide +kernel
theorem dM_isSame_12 : decode cM_isSame 12 = .ok (.iload 4, 2) := by decide +kernel
theorem dM_isSame_14 : decode cM_isSame 14 = .ok (.invokevirtual 69, 3) := by decide +kernel
theorem dM_isSame_17 : decode cM_isSame 17 = .ok (.if_icmp .ne 7, 3) := by decide +kernel
theorem dM_isSame_20 : decode cM_isSame 20 = .ok (.iconst 1, 1) := by decide +kernel
theorem dM_isSame_21 : decode cM_isSame 21 = .ok (.goto 4, 3) := by decide +kernel
theorem dM_isSame_24 : decode cM_isSame 24 = .ok (.iconst 0, 1) := by decide +kernel
theorem dM_isSame_25 : decode cM_isSame 25 = .ok (.istore 6, 2) := by decide +kernel
theorem dM_isSame_27 : decode cM_isSame 27 = .ok (.iconst 0, 1) := by decide +kernel
theorem dM_isSame_28 : decode cM_isSame 28 = .ok (.istore 7, 2) := by decide +kernel
theorem dM_isSame_30 : decode cM_isSame 30 = .ok (.iload 7, 2) := by decide +kernel
theorem dM_isSame_32 : decode cM_isSame 32 = .ok (.iload 5, 2) := by decide +kernel
theorem dM_isSame_34 : decode cM_isSame 34 = .ok (.if_icmp .ge 59, 3) := by decide +kernel
theorem dM_isSame_37 : decode cM_isSame 37 = .ok (.iload 6, 2) := by decide +kernel
theorem dM_isSame_39 : decode cM_isSame 39 = .ok (.ifCond .eq 54, 3) := by decide +kernel
theorem dM_isSame_42 : decode cM_isSame 42 = .ok (.aload_n 0, 1) := by decide +kernel
theorem dM_isSame_43 : decode cM_isSame 43 = .ok (.getfield 7, 3) := by decide +kernel
theorem dM_isSame_46 : decode cM_isSame 46 = .ok (.iload_n 1, 1) := by decide +kernel
theorem dM_isSame_47 : decode cM_isSame 47 = .ok (.bipush 16, 2) := by decide +kernel
theorem dM_isSame_49 : decode cM_isSame 49 = .ok (.iadd, 1) := by decide +kernel
theorem dM_isSame_50 : decode cM_isSame 50 = .ok (.bipush 8, 2) := by decide +kernel
theorem dM_isSame_52 : decode cM_isSame 52 = .ok (.iload_n 2, 1) := by decide +kernel
theorem dM_isSame_53 : decode cM_isSame 53 = .ok (.imul, 1) := by decide +kernel
theorem dM_isSame_54 : decode cM_isSame 54 = .ok (.iadd, 1) := by decide +kernel
theorem dM_isSame_55 : decode cM_isSame 55 = .ok (.iload 7, 2) := by decide +kernel
theorem dM_isSame_57 : decode cM_isSame 57 = .ok (.iadd, 1) := by decide +kernel
theorem dM_isSame_58 : decode cM_isSame 58 = .ok (.iaload, 1) := by decide +kernel
theorem dM_isSame_59 : decode cM_isSame 59 = .ok (.aload_n 0, 1) := by decide +kernel
theorem dM_isSame_60 : decode cM_isSame 60 = .ok (.getfield 7, 3) := by decide +kernel
theorem dM_isSame_63 : decode cM_isSame 63 = .ok (.iload_n 3, 1) := by decide +kernel
theorem dM_isSame_64 : decode cM_isSame 64 = .ok (.bipush 16, 2) := by decide +kernel
theorem dM_isSame_66 : decode cM_isSame 66 = .ok (.iadd, 1) := by decide +kernel
theorem dM_isSame_67 : decode cM_isSame 67 = .ok (.bipush 8, 2) := by decide +kernel
theorem dM_isSame_69 : decode cM_isSame 69 = .ok (.iload 4, 2) := by decide +kernel
theorem dM_isSame_71 : decode cM_isSame 71 = .ok (.imul, 1) := by decide +kernel
theorem dM_isSame_72 : decode cM_isSame 72 = .ok (.iadd, 1) := by decide +kernel
theorem dM_isSame_73 : decode cM_isSame 73 = .ok (.iload 7, 2) := by decide +kernel
theorem dM_isSame_75 : decode cM_isSame 75 = .ok (.iadd, 1) := by decide +kernel
theorem dM_isSame_76 : decode cM_isSame 76 = .ok (.iaload, 1) := by decide +kernel
theorem dM_isSame_77 : decode cM_isSame 77 = .ok (.if_icmp .ne 7, 3) := by decide +kernel
theorem dM_isSame_80 : decode cM_isSame 80 = .ok (.iconst 1, 1) := by decide +kernel
theorem dM_isSame_81 : decode cM_isSame 81 = .ok (.goto 4, 3) := by decide +kernel
theorem dM_isSame_84 : decode cM_isSame 84 = .ok (.iconst 0, 1) := by decide +kernel
theorem dM_isSame_85 : decode cM_isSame 85 = .ok (.istore 6, 2) := by decide +kernel
theorem dM_isSame_87 : decode cM_isSame 87 = .ok (.iinc 7 1, 3) := by decide +kernel
theorem dM_isSame_90 : decode cM_isSame 90 = .ok (.goto (-60), 3) := by decide +kernel
theorem dM_isSame_93 : decode cM_isSame 93 = .ok (.iload 6, 2) := by decide +kernel
theorem dM_isSame_95 : decode cM_isSame 95 = .ok (.ireturn, 1) := by decide +kernel
abbrev cM_stands : ByteArray := prog_9_method_22_code
abbrev yM_stands : MethodName := ⟨"DrawingVaultModel", "stands", "(IIII)Z"⟩
theorem dM_stands_0 : decode cM_stands 0 = .ok (.iconst 0, 1) := by decide +kernel
theorem dM_stands_1 : decode cM_stands 1 = .ok (.istore 5, 2) := by decide +kernel
theorem dM_stands_3 : decode cM_stands 3 = .ok (.iconst 0, 1) := by decide +kernel
theorem dM_stands_4 : decode cM_stands 4 = .ok (.istore 6, 2) := by decide +kernel
theorem dM_stands_6 : decode cM_stands 6 = .ok (.iload 6, 2) := by decide +kernel
theorem dM_stands_8 : decode cM_stands 8 = .ok (.iload 4, 2) := by decide +kernel
theorem dM_stands_10 : decode cM_stands 10 = .ok (.if_icmp .ge 25, 3) := by decide +kernel
theorem dM_stands_13 : decode cM_stands 13 = .ok (.iload 5, 2) := by decide +kernel
theorem dM_stands_15 : decode cM_stands 15 = .ok (.ifCond .ne 20, 3) := by decide +kernel
theorem dM_stands_18 : decode cM_stands 18 = .ok (.aload_n 0, 1) := by decide +kernel
theorem dM_stands_19 : decode cM_stands 19 = .ok (.iload_n 1, 1) := by decide +kernel
theorem dM_stands_20 : decode cM_stands 20 = .ok (.iload_n 2, 1) := by decide +kernel
theorem dM_stands_21 : decode cM_stands 21 = .ok (.iload_n 3, 1) := by decide +kernel
theorem dM_stands_22 : decode cM_stands 22 = .ok (.iload 6, 2) := by decide +kernel
theorem dM_stands_24 : decode cM_stands 24 = .ok (.invokevirtual 72, 3) := by decide +kernel
theorem dM_stands_27 : decode cM_stands 27 = .ok (.istore 5, 2) := by decide +kernel
theorem dM_stands_29 : decode cM_stands 29 = .ok (.iinc 6 1, 3) := by decide +kernel
theorem dM_stands_32 : decode cM_stands 32 = .ok (.goto (-26), 3) := by decide +kernel
theorem dM_stands_35 : decode cM_stands 35 = .ok (.iload 5, 2) := by decide +kernel
theorem dM_stands_37 : decode cM_stands 37 = .ok (.ireturn, 1) := by decide +kernel
abbrev cM_contentAt : ByteArray := prog_9_method_23_code
abbrev yM_contentAt : MethodName := ⟨"DrawingVaultModel", "contentAt", "(I)I"⟩
theorem dM_contentAt_0 : decode cM_contentAt 0 = .ok (.iload_n 1, 1) := by decide +kernel
theorem dM_contentAt_1 : decode cM_contentAt 1 = .ok (.bipush 24, 2) := by decide +kernel
theorem dM_contentAt_3 : decode cM_contentAt 3 = .ok (.if_icmp .ge 29, 3) := by decide +kernel
theorem dM_contentAt_6 : decode cM_contentAt 6 = .ok (.aload_n 0, 1) := by decide +kernel
theorem dM_contentAt_7 : decode cM_contentAt 7 = .ok (.iload_n 1, 1) := by decide +kernel
theorem dM_contentAt_8 : decode cM_contentAt 8 = .ok (.invokevirtual 44, 3) := by decide +kernel
theorem dM_contentAt_11 : decode cM_contentAt 11 = .ok (.ifCond .eq 19, 3) := by decide +kernel
theorem dM_contentAt_14 : decode cM_contentAt 14 = .ok (.aload_n 0, 1) := by decide +kernel
theorem dM_contentAt_15 : decode cM_contentAt 15 = .ok (.iload_n 1, 1) := by decide +kernel
theorem dM_contentAt_16 : decode cM_contentAt 16 = .ok (.invokevirtual 76, 3) := by decide +kernel
theorem dM_contentAt_19 : decode cM_contentAt 19 = .ok (.ifCond .lt 11, 3) := by decide +kernel
theorem dM_contentAt_22 : decode cM_contentAt 22 = .ok (.aload_n 0, 1) := by decide +kernel
theorem dM_contentAt_23 : decode cM_contentAt 23 = .ok (.iload_n 1, 1) := by decide +kernel
theorem dM_contentAt_24 : decode cM_contentAt 24 = .ok (.invokevirtual 40, 3) := by decide +kernel
theorem dM_contentAt_27 : decode cM_contentAt 27 = .ok (.goto 4, 3) := by decide +kernel
theorem dM_contentAt_30 : decode cM_contentAt 30 = .ok (.iconst (-1), 1) := by decide +kernel
theorem dM_contentAt_31 : decode cM_contentAt 31 = .ok (.ireturn, 1) := by decide +kernel
theorem dM_contentAt_32 : decode cM_contentAt 32 = .ok (.iload_n 1, 1) := by decide +kernel
theorem dM_contentAt_33 : decode cM_contentAt 33 = .ok (.bipush 24, 2) := by decide +kernel
theorem dM_contentAt_35 : decode cM_contentAt 35 = .ok (.isub, 1) := by decide +kernel
theorem dM_contentAt_36 : decode cM_contentAt 36 = .ok (.istore_n 2, 1) := by decide +kernel
theorem dM_contentAt_37 : decode cM_contentAt 37 = .ok (.aload_n 0, 1) := by decide +kernel
theorem dM_contentAt_38 : decode cM_contentAt 38 = .ok (.iload_n 2, 1) := by decide +kernel
theorem dM_contentAt_39 : decode cM_contentAt 39 = .ok (.bipush 12, 2) := by decide +kernel
theorem dM_contentAt_41 : decode cM_contentAt 41 = .ok (.idiv, 1) := by decide +kernel
theorem dM_contentAt_42 : decode cM_contentAt 42 = .ok (.iload_n 2, 1) := by decide +kernel
theorem dM_contentAt_43 : decode cM_contentAt 43 = .ok (.bipush 12, 2) := by decide +kernel
theorem dM_contentAt_45 : decode cM_contentAt 45 = .ok (.irem, 1) := by decide +kernel
theorem dM_contentAt_46 : decode cM_contentAt 46 = .ok (.invokevirtual 79, 3) := by decide +kernel
theorem dM_contentAt_49 : decode cM_contentAt 49 = .ok (.ifCond .eq 18, 3) := by decide +kernel
theorem dM_contentAt_52 : decode cM_contentAt 52 = .ok (.aload_n 0, 1) := by decide +kernel
theorem dM_contentAt_53 : decode cM_contentAt 53 = .ok (.iload_n 2, 1) := by decide +kernel
theorem dM_contentAt_54 : decode cM_contentAt 54 = .ok (.bipush 12, 2) := by decide +kernel
theorem dM_contentAt_56 : decode cM_contentAt 56 = .ok (.idiv, 1) := by decide +kernel
theorem dM_contentAt_57 : decode cM_contentAt 57 = .ok (.iload_n 2, 1) := by decide +kernel
theorem dM_contentAt_58 : decode cM_contentAt 58 = .ok (.bipush 12, 2) := by decide +kernel
theorem dM_contentAt_60 : decode cM_contentAt 60 = .ok (.irem, 1) := by decide +kernel
theorem dM_contentAt_61 : decode cM_contentAt 61 = .ok (.invokevirtual 50, 3) := by decide +kernel
theorem dM_contentAt_64 : decode cM_contentAt 64 = .ok (.goto 4, 3) := by decide +kernel
theorem dM_contentAt_67 : decode cM_contentAt 67 = .ok (.iconst (-1), 1) := by decide +kernel
theorem dM_contentAt_68 : decode cM_contentAt 68 = .ok (.ireturn, 1) := by decide +kernel
abbrev cM_ownChunks : ByteArray := prog_9_method_24_code
abbrev yM_ownChunks : MethodName := ⟨"DrawingVaultModel", "ownChunks", "(I)I"⟩
theorem dM_ownChunks_0 : decode cM_ownChunks 0 = .ok (.iconst 0, 1) := by decide +kernel
theorem dM_ownChunks_1 : decode cM_ownChunks 1 = .ok (.istore_n 2, 1) := by decide +kernel
theorem dM_ownChunks_2 : decode cM_ownChunks 2 = .ok (.iconst 0, 1) := by decide +kernel
theorem dM_ownChunks_3 : decode cM_ownChunks 3 = .ok (.istore_n 3, 1) := by decide +kernel
theorem dM_ownChunks_4 : decode cM_ownChunks 4 = .ok (.iload_n 3, 1) := by decide +kernel
theorem dM_ownChunks_5 : decode cM_ownChunks 5 = .ok (.aload_n 0, 1) := by decide +kernel
theorem dM_ownChunks_6 : decode cM_ownChunks 6 = .ok (.getfield 7, 3) := by decide +kernel
theorem dM_ownChunks_9 : decode cM_ownChunks 9 = .ok (.iload_n 1, 1) := by decide +kernel
theorem dM_ownChunks_10 : decode cM_ownChunks 10 = .ok (.iconst 2, 1) := by decide +kernel
theorem dM_ownChunks_11 : decode cM_ownChunks 11 = .ok (.iadd, 1) := by decide +kernel
theorem dM_ownChunks_12 : decode cM_ownChunks 12 = .ok (.iaload, 1) := by decide +kernel
theorem dM_ownChunks_13 : decode cM_ownChunks 13 = .ok (.invokestatic 83, 3) := by decide +kernel
theorem dM_ownChunks_16 : decode cM_ownChunks 16 = .ok (.if_icmp .ge 28, 3) := by decide +kernel
theorem dM_ownChunks_19 : decode cM_ownChunks 19 = .ok (.iload_n 2, 1) := by decide +kernel
theorem dM_ownChunks_20 : decode cM_ownChunks 20 = .ok (.aload_n 0, 1) := by decide +kernel
theorem dM_ownChunks_21 : decode cM_ownChunks 21 = .ok (.iload_n 1, 1) := by decide +kernel
theorem dM_ownChunks_22 : decode cM_ownChunks 22 = .ok (.iload_n 3, 1) := by decide +kernel
theorem dM_ownChunks_23 : decode cM_ownChunks 23 = .ok (.iload_n 1, 1) := by decide +kernel
theorem dM_ownChunks_24 : decode cM_ownChunks 24 = .ok (.iload_n 3, 1) := by decide +kernel
theorem dM_ownChunks_25 : decode cM_ownChunks 25 = .ok (.invokevirtual 86, 3) := by decide +kernel
theorem dM_ownChunks_28 : decode cM_ownChunks 28 = .ok (.ifCond .eq 7, 3) := by decide +kernel
theorem dM_ownChunks_31 : decode cM_ownChunks 31 = .ok (.iconst 0, 1) := by decide +kernel
theorem dM_ownChunks_32 : decode cM_ownChunks 32 = .ok (.goto 4, 3) := by decide +kernel
theorem dM_ownChunks_35 : decode cM_ownChunks 35 = .ok (.iconst 1, 1) := by decide +kernel
theorem dM_ownChunks_36 : decode cM_ownChunks 36 = .ok (.iadd, 1) := by decide +kernel
theorem dM_ownChunks_37 : decode cM_ownChunks 37 = .ok (.istore_n 2, 1) := by decide +kernel
theorem dM_ownChunks_38 : decode cM_ownChunks 38 = .ok (.iinc 3 1, 3) := by decide +kernel
theorem dM_ownChunks_41 : decode cM_ownChunks 41 = .ok (.goto (-37), 3) := by decide +kernel
theorem dM_ownChunks_44 : decode cM_ownChunks 44 = .ok (.iload_n 2, 1) := by decide +kernel
theorem dM_ownChunks_45 : decode cM_ownChunks 45 = .ok (.ireturn, 1) := by decide +kernel
abbrev cM_chunks : ByteArray := prog_9_method_25_code
abbrev yM_chunks : MethodName := ⟨"DrawingVaultModel", "chunks", "(I)I"⟩
theorem dM_chunks_0 : decode cM_chunks 0 = .ok (.iconst 0, 1) := by decide +kernel
theorem dM_chunks_1 : decode cM_chunks 1 = .ok (.istore_n 2, 1) := by decide +kernel
theorem dM_chunks_2 : decode cM_chunks 2 = .ok (.iload_n 1, 1) := by decide +kernel
theorem dM_chunks_3 : decode cM_chunks 3 = .ok (.istore_n 3, 1) := by decide +kernel
theorem dM_chunks_4 : decode cM_chunks 4 = .ok (.iload_n 3, 1) := by decide +kernel
theorem dM_chunks_5 : decode cM_chunks 5 = .ok (.sipush 312, 3) := by decide +kernel
theorem dM_chunks_8 : decode cM_chunks 8 = .ok (.if_icmp .ge 157, 3) := by decide +kernel
theorem dM_chunks_11 : decode cM_chunks 11 = .ok (.aload_n 0, 1) := by decide +kernel
theorem dM_chunks_12 : decode cM_chunks 12 = .ok (.iload_n 3, 1) := by decide +kernel
theorem dM_chunks_13 : decode cM_chunks 13 = .ok (.invokevirtual 89, 3) := by decide +kernel
theorem dM_chunks_16 : decode cM_chunks 16 = .ok (.istore 4, 2) := by decide +kernel
theorem dM_chunks_18 : decode cM_chunks 18 = .ok (.iconst 0, 1) := by decide +kernel
theorem dM_chunks_19 : decode cM_chunks 19 = .ok (.istore 5, 2) := by decide +kernel
theorem dM_chunks_21 : decode cM_chunks 21 = .ok (.iload 4, 2) := by decide +kernel
theorem dM_chunks_23 : decode cM_chunks 23 = .ok (.ifCond .lt 136, 3) := by decide +kernel
theorem dM_chunks_26 : decode cM_chunks 26 = .ok (.iload 5, 2) := by decide +kernel
theorem dM_chunks_28 : decode cM_chunks 28 = .ok (.aload_n 0, 1) := by decide +kernel
theorem dM_chunks_29 : decode cM_chunks 29 = .ok (.getfield 7, 3) := by decide +kernel
theorem dM_chunks_32 : decode cM_chunks 32 = .ok (.iload 4, 2) := by decide +kernel
theorem dM_chunks_34 : decode cM_chunks 34 = .ok (.ifCond .ge 7, 3) := by decide +kernel
theorem dM_chunks_37 : decode cM_chunks 37 = .ok (.iconst 0, 1) := by decide +kernel
theorem dM_chunks_38 : decode cM_chunks 38 = .ok (.goto 7, 3) := by decide +kernel
theorem dM_chunks_41 : decode cM_chunks 41 = .ok (.iload 4, 2) := by decide +kernel
theorem dM_chunks_43 : decode cM_chunks 43 = .ok (.iconst 2, 1) := by decide +kernel
theorem dM_chunks_44 : decode cM_chunks 44 = .ok (.iadd, 1) := by decide +kernel
theorem dM_chunks_45 : decode cM_chunks 45 = .ok (.iaload, 1) := by decide +kernel
theorem dM_chunks_46 : decode cM_chunks 46 = .ok (.invokestatic 83, 3) := by decide +kernel
theorem dM_chunks_49 : decode cM_chunks 49 = .ok (.if_icmp .ge 110, 3) := by decide +kernel
theorem dM_chunks_52 : decode cM_chunks 52 = .ok (.aload_n 0, 1) := by decide +kernel
theorem dM_chunks_53 : decode cM_chunks 53 = .ok (.iload 4, 2) := by decide +kernel
theorem dM_chunks_55 : decode cM_chunks 55 = .ok (.iload 5, 2) := by decide +kernel
theorem dM_chunks_57 : decode cM_chunks 57 = .ok (.iload 4, 2) := by decide +kernel
theorem dM_chunks_59 : decode cM_chunks 59 = .ok (.iload 5, 2) := by decide +kernel
theorem dM_chunks_61 : decode cM_chunks 61 = .ok (.invokevirtual 86, 3) := by decide +kernel
theorem dM_chunks_64 : decode cM_chunks 64 = .ok (.istore 6, 2) := by decide +kernel
theorem dM_chunks_66 : decode cM_chunks 66 = .ok (.iload_n 1, 1) := by decide +kernel
theorem dM_chunks_67 : decode cM_chunks 67 = .ok (.istore 7, 2) := by decide +kernel
theorem dM_chunks_69 : decode cM_chunks 69 = .ok (.iload 7, 2) := by decide +kernel
theorem dM_chunks_71 : decode cM_chunks 71 = .ok (.iload_n 3, 1) := by decide +kernel
theorem dM_chunks_72 : decode cM_chunks 72 = .ok (.if_icmp .ge 68, 3) := by decide +kernel
theorem dM_chunks_75 : decode cM_chunks 75 = .ok (.iload 6, 2) := by decide +kernel
theorem dM_chunks_77 : decode cM_chunks 77 = .ok (.ifCond .ne 63, 3) := by decide +kernel
theorem dM_chunks_80 : decode cM_chunks 80 = .ok (.aload_n 0, 1) := by decide +kernel
theorem dM_chunks_81 : decode cM_chunks 81 = .ok (.iload 7, 2) := by decide +kernel
theorem dM_chunks_83 : decode cM_chunks 83 = .ok (.invokevirtual 89, 3) := by decide +kernel
theorem dM_chunks_86 : decode cM_chunks 86 = .ok (.istore 8, 2) := by decide +kernel
theorem dM_chunks_88 : decode cM_chunks 88 = .ok (.iload 8, 2) := by decide +kernel
theorem dM_chunks_90 : decode cM_chunks 90 = .ok (.ifCond .lt 41, 3) := by decide +kernel
theorem dM_chunks_93 : decode cM_chunks 93 = .ok (.aload_n 0, 1) := by decide +kernel
theorem dM_chunks_94 : decode cM_chunks 94 = .ok (.iload 4, 2) := by decide +kernel
theorem dM_chunks_96 : decode cM_chunks 96 = .ok (.iload 5, 2) := by decide +kernel
theorem dM_chunks_98 : decode cM_chunks 98 = .ok (.iload 8, 2) := by decide +kernel
theorem dM_chunks_100 : decode cM_chunks 100 = .ok (.aload_n 0, 1) := by decide +kernel
theorem dM_chunks_101 : decode cM_chunks 101 = .ok (.getfield 7, 3) := by decide +kernel
theorem dM_chunks_104 : decode cM_chunks 104 = .ok (.iload 8, 2) := by decide +kernel
theorem dM_chunks_106 : decode cM_chunks 106 = .ok (.ifCond .ge 7, 3) := by decide +kernel
theorem dM_chunks_109 : decode cM_chunks 109 = .ok (.iconst 0, 1) := by decide +kernel
theorem dM_chunks_110 : decode cM_chunks 110 = .ok (.goto 7, 3) := by decide +kernel
theorem dM_chunks_113 : decode cM_chunks 113 = .ok (.iload 8, 2) := by decide +kernel
theorem dM_chunks_115 : decode cM_chunks 115 = .ok (.iconst 2, 1) := by decide +kernel
theorem dM_chunks_116 : decode cM_chunks 116 = .ok (.iadd, 1) := by decide +kernel
theorem dM_chunks_117 : decode cM_chunks 117 = .ok (.iaload, 1) := by decide +kernel
theorem dM_chunks_118 : decode cM_chunks 118 = .ok (.invokestatic 83, 3) := by decide +kernel
theorem dM_chunks_121 : decode cM_chunks 121 = .ok (.invokevirtual 86, 3) := by decide +kernel
theorem dM_chunks_124 : decode cM_chunks 124 = .ok (.ifCond .eq 7, 3) := by decide +kernel
theorem dM_chunks_127 : decode cM_chunks 127 = .ok (.iconst 1, 1) := by decide +kernel
theorem dM_chunks_128 : decode cM_chunks 128 = .ok (.goto 4, 3) := by decide +kernel
theorem dM_chunks_131 : decode cM_chunks 131 = .ok (.iconst 0, 1) := by decide +kernel
theorem dM_chunks_132 : decode cM_chunks 132 = .ok (.istore 6, 2) := by decide +kernel
theorem dM_chunks_134 : decode cM_chunks 134 = .ok (.iinc 7 1, 3) := by decide +kernel
theorem dM_chunks_137 : decode cM_chunks 137 = .ok (.goto (-68), 3) := by decide +kernel
theorem dM_chunks_140 : decode cM_chunks 140 = .ok (.iload_n 2, 1) := by decide +kernel
theorem dM_chunks_141 : decode cM_chunks 141 = .ok (.iload 6, 2) := by decide +kernel
theorem dM_chunks_143 : decode cM_chunks 143 = .ok (.ifCond .eq 7, 3) := by decide +kernel
theorem dM_chunks_146 : decode cM_chunks 146 = .ok (.iconst 0, 1) := by decide +kernel
theorem dM_chunks_147 : decode cM_chunks 147 = .ok (.goto 4, 3) := by decide +kernel
theorem dM_chunks_150 : decode cM_chunks 150 = .ok (.iconst 1, 1) := by decide +kernel
theorem dM_chunks_151 : decode cM_chunks 151 = .ok (.iadd, 1) := by decide +kernel
theorem dM_chunks_152 : decode cM_chunks 152 = .ok (.istore_n 2, 1) := by decide +kernel
theorem dM_chunks_153 : decode cM_chunks 153 = .ok (.iinc 5 1, 3) := by decide +kernel
theorem dM_chunks_156 : decode cM_chunks 156 = .ok (.goto (-135), 3) := by decide +kernel
theorem dM_chunks_159 : decode cM_chunks 159 = .ok (.iinc 3 1, 3) := by decide +kernel
theorem dM_chunks_162 : decode cM_chunks 162 = .ok (.goto (-158), 3) := by decide +kernel
theorem dM_chunks_165 : decode cM_chunks 165 = .ok (.iload_n 2, 1) := by decide +kernel
theorem dM_chunks_166 : decode cM_chunks 166 = .ok (.ireturn, 1) := by decide +kernel
abbrev cM_least : ByteArray := prog_9_method_26_code
abbrev yM_least : MethodName := ⟨"DrawingVaultModel", "least", "(ZII)I"⟩
theorem dM_least_0 : decode cM_least 0 = .ok (.iload_n 0, 1) := by decide +kernel
theorem dM_least_1 : decode cM_least 1 = .ok (.ifCond .eq 16, 3) := by decide +kernel
theorem dM_least_4 : decode cM_least 4 = .ok (.iload_n 2, 1) := by decide +kernel
theorem dM_least_5 : decode cM_least 5 = .ok (.ifCond .eq 8, 3) := by decide +kernel
theorem dM_least_8 : decode cM_least 8 = .ok (.iload_n 1, 1) := by decide +kernel
theorem dM_least_9 : decode cM_least 9 = .ok (.iload_n 2, 1) := by decide +kernel
theorem dM_least_10 : decode cM_least 10 = .ok (.if_icmp .ge 7, 3) := by decide +kernel
theorem dM_least_13 : decode cM_least 13 = .ok (.iload_n 1, 1) := by decide +kernel
theorem dM_least_14 : decode cM_least 14 = .ok (.goto 4, 3) := by decide +kernel
theorem dM_least_17 : decode cM_least 17 = .ok (.iload_n 2, 1) := by decide +kernel
theorem dM_least_18 : decode cM_least 18 = .ok (.ireturn, 1) := by decide +kernel
abbrev cM_baselineAt : ByteArray := prog_9_method_27_code
abbrev yM_baselineAt : MethodName := ⟨"DrawingVaultModel", "baselineAt", "(I)I"⟩
theorem dM_baselineAt_0 : decode cM_baselineAt 0 = .ok (.sipush 24980, 3) := by decide +kernel
theorem dM_baselineAt_3 : decode cM_baselineAt 3 = .ok (.bipush 26, 2) := by decide +kernel
theorem dM_baselineAt_5 : decode cM_baselineAt 5 = .ok (.iload_n 1, 1) := by decide +kernel
theorem dM_baselineAt_6 : decode cM_baselineAt 6 = .ok (.imul, 1) := by decide +kernel
theorem dM_baselineAt_7 : decode cM_baselineAt 7 = .ok (.iadd, 1) := by decide +kernel
theorem dM_baselineAt_8 : decode cM_baselineAt 8 = .ok (.ireturn, 1) := by decide +kernel
abbrev cM_needed : ByteArray := prog_9_method_28_code
abbrev yM_needed : MethodName := ⟨"DrawingVaultModel", "needed", "()I"⟩
theorem dM_needed_0 : decode cM_needed 0 = .ok (.aload_n 0, 1) := by decide +kernel
theorem dM_needed_1 : decode cM_needed 1 = .ok (.invokevirtual 92, 3) := by decide +kernel
theorem dM_needed_4 : decode cM_needed 4 = .ok (.iconst 2, 1) := by decide +kernel
theorem dM_needed_5 : decode cM_needed 5 = .ok (.aload_n 0, 1) := by decide +kernel
theorem dM_needed_6 : decode cM_needed 6 = .ok (.getfield 7, 3) := by decide +kernel
theorem dM_needed_9 : decode cM_needed 9 = .ok (.bipush 16, 2) := by decide +kernel
theorem dM_needed_11 : decode cM_needed 11 = .ok (.iaload, 1) := by decide +kernel
theorem dM_needed_12 : decode cM_needed 12 = .ok (.imul, 1) := by decide +kernel
theorem dM_needed_13 : decode cM_needed 13 = .ok (.iadd, 1) := by decide +kernel
theorem dM_needed_14 : decode cM_needed 14 = .ok (.aload_n 0, 1) := by decide +kernel
theorem dM_needed_15 : decode cM_needed 15 = .ok (.bipush 24, 2) := by decide +kernel
theorem dM_needed_17 : decode cM_needed 17 = .ok (.invokevirtual 96, 3) := by decide +kernel
theorem dM_needed_20 : decode cM_needed 20 = .ok (.iadd, 1) := by decide +kernel
theorem dM_needed_21 : decode cM_needed 21 = .ok (.istore_n 1, 1) := by decide +kernel
theorem dM_needed_22 : decode cM_needed 22 = .ok (.iconst 0, 1) := by decide +kernel
theorem dM_needed_23 : decode cM_needed 23 = .ok (.istore_n 2, 1) := by decide +kernel
theorem dM_needed_24 : decode cM_needed 24 = .ok (.iload_n 2, 1) := by decide +kernel
theorem dM_needed_25 : decode cM_needed 25 = .ok (.bipush 16, 2) := by decide +kernel
theorem dM_needed_27 : decode cM_needed 27 = .ok (.if_icmp .ge 26, 3) := by decide +kernel
theorem dM_needed_30 : decode cM_needed 30 = .ok (.iload_n 1, 1) := by decide +kernel
theorem dM_needed_31 : decode cM_needed 31 = .ok (.aload_n 0, 1) := by decide +kernel
theorem dM_needed_32 : decode cM_needed 32 = .ok (.getfield 7, 3) := by decide +kernel
theorem dM_needed_35 : decode cM_needed 35 = .ok (.iload_n 2, 1) := by decide +kernel
theorem dM_needed_36 : decode cM_needed 36 = .ok (.iaload, 1) := by decide +kernel
theorem dM_needed_37 : decode cM_needed 37 = .ok (.ifCond .le 7, 3) := by decide +kernel
theorem dM_needed_40 : decode cM_needed 40 = .ok (.iconst 1, 1) := by decide +kernel
theorem dM_needed_41 : decode cM_needed 41 = .ok (.goto 4, 3) := by decide +kernel
theorem dM_needed_44 : decode cM_needed 44 = .ok (.iconst 0, 1) := by decide +kernel
theorem dM_needed_45 : decode cM_needed 45 = .ok (.iadd, 1) := by decide +kernel
theorem dM_needed_46 : decode cM_needed 46 = .ok (.istore_n 1, 1) := by decide +kernel
theorem dM_needed_47 : decode cM_needed 47 = .ok (.iinc 2 1, 3) := by decide +kernel
theorem dM_needed_50 : decode cM_needed 50 = .ok (.goto (-26), 3) := by decide +kernel
theorem dM_needed_53 : decode cM_needed 53 = .ok (.iconst 0, 1) := by decide +kernel
theorem dM_needed_54 : decode cM_needed 54 = .ok (.istore_n 2, 1) := by decide +kernel
theorem dM_needed_55 : decode cM_needed 55 = .ok (.iload_n 2, 1) := by decide +kernel
theorem dM_needed_56 : decode cM_needed 56 = .ok (.aload_n 0, 1) := by decide +kernel
theorem dM_needed_57 : decode cM_needed 57 = .ok (.getfield 7, 3) := by decide +kernel
theorem dM_needed_60 : decode cM_needed 60 = .ok (.bipush 16, 2) := by decide +kernel
theorem dM_needed_62 : decode cM_needed 62 = .ok (.iaload, 1) := by decide +kernel
theorem dM_needed_63 : decode cM_needed 63 = .ok (.if_icmp .ge 25, 3) := by decide +kernel
theorem dM_needed_66 : decode cM_needed 66 = .ok (.iload_n 1, 1) := by decide +kernel
theorem dM_needed_67 : decode cM_needed 67 = .ok (.aload_n 0, 1) := by decide +kernel
theorem dM_needed_68 : decode cM_needed 68 = .ok (.iload_n 2, 1) := by decide +kernel
theorem dM_needed_69 : decode cM_needed 69 = .ok (.invokevirtual 76, 3) := by decide +kernel
theorem dM_needed_72 : decode cM_needed 72 = .ok (.ifCond .lt 7, 3) := by decide +kernel
theorem dM_needed_75 : decode cM_needed 75 = .ok (.iconst 1, 1) := by decide +kernel
theorem dM_needed_76 : decode cM_needed 76 = .ok (.goto 4, 3) := by decide +kernel
theorem dM_needed_79 : decode cM_needed 79 = .ok (.iconst 0, 1) := by decide +kernel
theorem dM_needed_80 : decode cM_needed 80 = .ok (.iadd, 1) := by decide +kernel
theorem dM_needed_81 : decode cM_needed 81 = .ok (.istore_n 1, 1) := by decide +kernel
theorem dM_needed_82 : decode cM_needed 82 = .ok (.iinc 2 1, 3) := by decide +kernel
theorem dM_needed_85 : decode cM_needed 85 = .ok (.goto (-30), 3) := by decide +kernel
theorem dM_needed_88 : decode cM_needed 88 = .ok (.iconst 0, 1) := by decide +kernel
theorem dM_needed_89 : decode cM_needed 89 = .ok (.istore_n 2, 1) := by decide +kernel
theorem dM_needed_90 : decode cM_needed 90 = .ok (.iload_n 2, 1) := by decide +kernel
theorem dM_needed_91 : decode cM_needed 91 = .ok (.bipush 10, 2) := by decide +kernel
theorem dM_needed_93 : decode cM_needed 93 = .ok (.if_icmp .ge 46, 3) := by decide +kernel
theorem dM_needed_96 : decode cM_needed 96 = .ok (.iload_n 1, 1) := by decide +kernel
theorem dM_needed_97 : decode cM_needed 97 = .ok (.aload_n 0, 1) := by decide +kernel
theorem dM_needed_98 : decode cM_needed 98 = .ok (.getfield 7, 3) := by decide +kernel
theorem dM_needed_101 : decode cM_needed 101 = .ok (.aload_n 0, 1) := by decide +kernel
theorem dM_needed_102 : decode cM_needed 102 = .ok (.iload_n 2, 1) := by decide +kernel
theorem dM_needed_103 : decode cM_needed 103 = .ok (.invokevirtual 99, 3) := by decide +kernel
theorem dM_needed_106 : decode cM_needed 106 = .ok (.iaload, 1) := by decide +kernel
theorem dM_needed_107 : decode cM_needed 107 = .ok (.ifCond .le 23, 3) := by decide +kernel
theorem dM_needed_110 : decode cM_needed 110 = .ok (.iconst 1, 1) := by decide +kernel
theorem dM_needed_111 : decode cM_needed 111 = .ok (.aload_n 0, 1) := by decide +kernel
theorem dM_needed_112 : decode cM_needed 112 = .ok (.getfield 7, 3) := by decide +kernel
theorem dM_needed_115 : decode cM_needed 115 = .ok (.aload_n 0, 1) := by decide +kernel
theorem dM_needed_116 : decode cM_needed 116 = .ok (.iload_n 2, 1) := by decide +kernel
theorem dM_needed_117 : decode cM_needed 117 = .ok (.invokevirtual 99, 3) := by decide +kernel
theorem dM_needed_120 : decode cM_needed 120 = .ok (.iconst 1, 1) := by decide +kernel
theorem dM_needed_121 : decode cM_needed 121 = .ok (.iadd, 1) := by decide +kernel
theorem dM_needed_122 : decode cM_needed 122 = .ok (.iaload, 1) := by decide +kernel
theorem dM_needed_123 : decode cM_needed 123 = .ok (.invokestatic 83, 3) := by decide +kernel
theorem dM_needed_126 : decode cM_needed 126 = .ok (.iadd, 1) := by decide +kernel
theorem dM_needed_127 : decode cM_needed 127 = .ok (.goto 4, 3) := by decide +kernel
theorem dM_needed_130 : decode cM_needed 130 = .ok (.iconst 0, 1) := by decide +kernel
theorem dM_needed_131 : decode cM_needed 131 = .ok (.iadd, 1) := by decide +kernel
theorem dM_needed_132 : decode cM_needed 132 = .ok (.istore_n 1, 1) := by decide +kernel
theorem dM_needed_133 : decode cM_needed 133 = .ok (.iinc 2 1, 3) := by decide +kernel
theorem dM_needed_136 : decode cM_needed 136 = .ok (.goto (-46), 3) := by decide +kernel
theorem dM_needed_139 : decode cM_needed 139 = .ok (.iload_n 1, 1) := by decide +kernel
theorem dM_needed_140 : decode cM_needed 140 = .ok (.ireturn, 1) := by decide +kernel
theorem wd_88 : (.code ⟨"DrawingVaultModel", "pieceLength", "(II)I"⟩ prog_9_method_20_code 4 (Option.some .int) : Cond) ∈ aw := aw_in (tb_4 (List.mem_of_getElem? (i := 139) rfl)) rfl
theorem wd_89 : (.methodLink "DrawingVaultModel" 69 ⟨"DrawingVaultModel", "pieceLength", "(II)I"⟩ : Cond) ∈ aw := aw_in (tb_4 (List.mem_of_getElem? (i := 136) rfl)) rfl
theorem wd_90 : (.instanceMethod ⟨"DrawingVaultModel", "pieceLength", "(II)I"⟩ : Cond) ∈ aw := aw_in (tb_4 (List.mem_of_getElem? (i := 138) rfl)) rfl
theorem wd_91 : (.selects "DrawingVaultModel" ⟨"DrawingVaultModel", "pieceLength", "(II)I"⟩ ⟨"DrawingVaultModel", "pieceLength", "(II)I"⟩ : Cond) ∈ aw := aw_in (tb_s (q := (⟨"DrawingVaultModel", "pieceLength", "(II)I"⟩, _)) (List.mem_append_right _ (List.mem_append_right _ (List.mem_append_right _ (List.mem_append_left _ (List.mem_of_getElem? (i := 3) rfl)))))) rfl
theorem wd_92 : (.code ⟨"DrawingVaultModel", "isSame", "(IIII)Z"⟩ prog_9_method_21_code 8 (Option.some .boolean) : Cond) ∈ aw := aw_in (tb_4 (List.mem_of_getElem? (i := 135) rfl)) rfl
theorem wd_93 : (.methodLink "DrawingVaultModel" 72 ⟨"DrawingVaultModel", "isSame", "(IIII)Z"⟩ : Cond) ∈ aw := aw_in (tb_4 (List.mem_of_getElem? (i := 132) rfl)) rfl
theorem wd_94 : (.instanceMethod ⟨"DrawingVaultModel", "isSame", "(IIII)Z"⟩ : Cond) ∈ aw := aw_in (tb_4 (List.mem_of_getElem? (i := 134) rfl)) rfl
theorem wd_95 : (.selects "DrawingVaultModel" ⟨"DrawingVaultModel", "isSame", "(IIII)Z"⟩ ⟨"DrawingVaultModel", "isSame", "(IIII)Z"⟩ : Cond) ∈ aw := aw_in (tb_s (q := (⟨"DrawingVaultModel", "isSame", "(IIII)Z"⟩, _)) (List.mem_append_right _ (List.mem_append_right _ (List.mem_append_right _ (List.mem_append_left _ (List.mem_of_getElem? (i := 2) rfl)))))) rfl
theorem wd_96 : (.code ⟨"DrawingVaultModel", "isRevision", "(II)Z"⟩ prog_9_method_9_code 3 (Option.some .boolean) : Cond) ∈ aw := aw_in (tb_4 (List.mem_of_getElem? (i := 120) rfl)) rfl
theorem wd_97 : (.methodLink "DrawingVaultModel" 79 ⟨"DrawingVaultModel", "isRevision", "(II)Z"⟩ : Cond) ∈ aw := aw_in (tb_4 (List.mem_of_getElem? (i := 117) rfl)) rfl
theorem wd_98 : (.instanceMethod ⟨"DrawingVaultModel", "isRevision", "(II)Z"⟩ : Cond) ∈ aw := aw_in (tb_4 (List.mem_of_getElem? (i := 119) rfl)) rfl
theorem wd_99 : (.selects "DrawingVaultModel" ⟨"DrawingVaultModel", "isRevision", "(II)Z"⟩ ⟨"DrawingVaultModel", "isRevision", "(II)Z"⟩ : Cond) ∈ aw := aw_in (tb_s (q := (⟨"DrawingVaultModel", "isRevision", "(II)Z"⟩, _)) (List.mem_append_right _ (List.mem_append_right _ (List.mem_append_left _ (List.mem_of_getElem? (i := 15) rfl))))) rfl
theorem wd_100 : (.code ⟨"DrawingVaultModel", "with", "(I)I"⟩ prog_9_method_12_code 2 (Option.some .int) : Cond) ∈ aw := aw_in (tb_4 (List.mem_of_getElem? (i := 116) rfl)) rfl
theorem wd_101 : (.methodLink "DrawingVaultModel" 76 ⟨"DrawingVaultModel", "with", "(I)I"⟩ : Cond) ∈ aw := aw_in (tb_4 (List.mem_of_getElem? (i := 113) rfl)) rfl
theorem wd_102 : (.instanceMethod ⟨"DrawingVaultModel", "with", "(I)I"⟩ : Cond) ∈ aw := aw_in (tb_4 (List.mem_of_getElem? (i := 115) rfl)) rfl
theorem wd_103 : (.selects "DrawingVaultModel" ⟨"DrawingVaultModel", "with", "(I)I"⟩ ⟨"DrawingVaultModel", "with", "(I)I"⟩ : Cond) ∈ aw := aw_in (tb_s (q := (⟨"DrawingVaultModel", "with", "(I)I"⟩, _)) (List.mem_append_right _ (List.mem_append_right _ (List.mem_append_left _ (List.mem_of_getElem? (i := 14) rfl))))) rfl
theorem wd_104 : (.code ⟨"DrawingVaultModel", "parts", "(I)I"⟩ prog_9_method_19_code 1 (Option.some .int) : Cond) ∈ aw := aw_in (tb_4 (List.mem_of_getElem? (i := 127) rfl)) rfl
theorem wd_105 : (.methodLink "DrawingVaultModel" 83 ⟨"DrawingVaultModel", "parts", "(I)I"⟩ : Cond) ∈ aw := aw_in (tb_4 (List.mem_of_getElem? (i := 125) rfl)) rfl
theorem wd_106 : (.static ⟨"DrawingVaultModel", "parts", "(I)I"⟩ : Cond) ∈ aw := aw_in (tb_4 (List.mem_of_getElem? (i := 126) rfl)) rfl
theorem wd_107 : (.code ⟨"DrawingVaultModel", "stands", "(IIII)Z"⟩ prog_9_method_22_code 7 (Option.some .boolean) : Cond) ∈ aw := aw_in (tb_4 (List.mem_of_getElem? (i := 131) rfl)) rfl
theorem wd_108 : (.methodLink "DrawingVaultModel" 86 ⟨"DrawingVaultModel", "stands", "(IIII)Z"⟩ : Cond) ∈ aw := aw_in (tb_4 (List.mem_of_getElem? (i := 128) rfl)) rfl
theorem wd_109 : (.instanceMethod ⟨"DrawingVaultModel", "stands", "(IIII)Z"⟩ : Cond) ∈ aw := aw_in (tb_4 (List.mem_of_getElem? (i := 130) rfl)) rfl
theorem wd_110 : (.selects "DrawingVaultModel" ⟨"DrawingVaultModel", "stands", "(IIII)Z"⟩ ⟨"DrawingVaultModel", "stands", "(IIII)Z"⟩ : Cond) ∈ aw := aw_in (tb_s (q := (⟨"DrawingVaultModel", "stands", "(IIII)Z"⟩, _)) (List.mem_append_right _ (List.mem_append_right _ (List.mem_append_right _ (List.mem_append_left _ (List.mem_of_getElem? (i := 1) rfl)))))) rfl
theorem wd_111 : (.code ⟨"DrawingVaultModel", "contentAt", "(I)I"⟩ prog_9_method_23_code 3 (Option.some .int) : Cond) ∈ aw := aw_in (tb_4 (List.mem_of_getElem? (i := 108) rfl)) rfl
theorem wd_112 : (.methodLink "DrawingVaultModel" 89 ⟨"DrawingVaultModel", "contentAt", "(I)I"⟩ : Cond) ∈ aw := aw_in (tb_4 (List.mem_of_getElem? (i := 105) rfl)) rfl
theorem wd_113 : (.instanceMethod ⟨"DrawingVaultModel", "contentAt", "(I)I"⟩ : Cond) ∈ aw := aw_in (tb_4 (List.mem_of_getElem? (i := 107) rfl)) rfl
theorem wd_114 : (.selects "DrawingVaultModel" ⟨"DrawingVaultModel", "contentAt", "(I)I"⟩ ⟨"DrawingVaultModel", "contentAt", "(I)I"⟩ : Cond) ∈ aw := aw_in (tb_s (q := (⟨"DrawingVaultModel", "contentAt", "(I)I"⟩, _)) (List.mem_append_right _ (List.mem_append_right _ (List.mem_append_left _ (List.mem_of_getElem? (i := 12) rfl))))) rfl
theorem wd_115 : (.code ⟨"DrawingVaultModel", "allRevisions", "()I"⟩ prog_9_method_18_code 3 (Option.some .int) : Cond) ∈ aw := aw_in (tb_4 (List.mem_of_getElem? (i := 92) rfl)) rfl
theorem wd_116 : (.methodLink "DrawingVaultModel" 92 ⟨"DrawingVaultModel", "allRevisions", "()I"⟩ : Cond) ∈ aw := aw_in (tb_4 (List.mem_of_getElem? (i := 89) rfl)) rfl
theorem wd_117 : (.instanceMethod ⟨"DrawingVaultModel", "allRevisions", "()I"⟩ : Cond) ∈ aw := aw_in (tb_4 (List.mem_of_getElem? (i := 91) rfl)) rfl
theorem wd_118 : (.selects "DrawingVaultModel" ⟨"DrawingVaultModel", "allRevisions", "()I"⟩ ⟨"DrawingVaultModel", "allRevisions", "()I"⟩ : Cond) ∈ aw := aw_in (tb_s (q := (⟨"DrawingVaultModel", "allRevisions", "()I"⟩, _)) (List.mem_append_right _ (List.mem_append_right _ (List.mem_append_left _ (List.mem_of_getElem? (i := 8) rfl))))) rfl
theorem wd_119 : (.code ⟨"DrawingVaultModel", "chunks", "(I)I"⟩ prog_9_method_25_code 9 (Option.some .int) : Cond) ∈ aw := aw_in (tb_4 (List.mem_of_getElem? (i := 104) rfl)) rfl
theorem wd_120 : (.methodLink "DrawingVaultModel" 96 ⟨"DrawingVaultModel", "chunks", "(I)I"⟩ : Cond) ∈ aw := aw_in (tb_4 (List.mem_of_getElem? (i := 101) rfl)) rfl
theorem wd_121 : (.instanceMethod ⟨"DrawingVaultModel", "chunks", "(I)I"⟩ : Cond) ∈ aw := aw_in (tb_4 (List.mem_of_getElem? (i := 103) rfl)) rfl
theorem wd_122 : (.selects "DrawingVaultModel" ⟨"DrawingVaultModel", "chunks", "(I)I"⟩ ⟨"DrawingVaultModel", "chunks", "(I)I"⟩ : Cond) ∈ aw := aw_in (tb_s (q := (⟨"DrawingVaultModel", "chunks", "(I)I"⟩, _)) (List.mem_append_right _ (List.mem_append_right _ (List.mem_append_left _ (List.mem_of_getElem? (i := 11) rfl))))) rfl
theorem wd_123 : (.code ⟨"DrawingVaultModel", "baselineAt", "(I)I"⟩ prog_9_method_27_code 2 (Option.some .int) : Cond) ∈ aw := aw_in (tb_4 (List.mem_of_getElem? (i := 143) rfl)) rfl
theorem wd_124 : (.methodLink "DrawingVaultModel" 99 ⟨"DrawingVaultModel", "baselineAt", "(I)I"⟩ : Cond) ∈ aw := aw_in (tb_4 (List.mem_of_getElem? (i := 140) rfl)) rfl
theorem wd_125 : (.instanceMethod ⟨"DrawingVaultModel", "baselineAt", "(I)I"⟩ : Cond) ∈ aw := aw_in (tb_4 (List.mem_of_getElem? (i := 142) rfl)) rfl
theorem wd_126 : (.selects "DrawingVaultModel" ⟨"DrawingVaultModel", "baselineAt", "(I)I"⟩ ⟨"DrawingVaultModel", "baselineAt", "(I)I"⟩ : Cond) ∈ aw := aw_in (tb_s (q := (⟨"DrawingVaultModel", "baselineAt", "(I)I"⟩, _)) (List.mem_append_right _ (List.mem_append_right _ (List.mem_append_right _ (List.mem_append_left _ (List.mem_of_getElem? (i := 4) rfl)))))) rfl

def M_isSame_L30 (n : Nat) (σ : hT) (kx15 : Int32 → Int32 → Int32 → Int32 → Int32 → Int32 → Int32 → Option (Int32)) : Nat → Int32 → Int32 → Int32 → Int32 → Int32 → Int32 → Int32 → Option (Int32)
  | 0, _, _, _, _, _, _, _ => none
  | k + 1, p8, p9, p10, p11, p12, p13, p14 => if p10 ≤ p8 then kx15 p8 p9 p10 p11 p12 p13 p14 else if p9 = 0 then kx15 p8 p9 p10 p11 p12 p13 p14 else if in9 (((p11 + 16) + (8 * p12)) + p8) 25240 then if in9 (((p13 + 16) + (8 * p14)) + p8) 25240 then if (xI σ 15 0 ((((p11 + 16) + (8 * p12)) + p8)).toNatClampNeg) = (xI σ 15 0 ((((p13 + 16) + (8 * p14)) + p8)).toNatClampNeg) then M_isSame_L30 n σ kx15 k (p8 + 1) 1 p10 p11 p12 p13 p14 else M_isSame_L30 n σ kx15 k (p8 + 1) 0 p10 p11 p12 p13 p14 else none else none
def M_isSame (n : Nat) (σ : hT) (a1 : Int32) (a2 : Int32) (a3 : Int32) (a4 : Int32) : Option (Int32) := Option.bind (M_pieceLength σ a1 a2) fun y2 => Option.bind (M_pieceLength σ a3 a4) fun y4 => lt9 (α := Int32 → Option (Int32)) (fun (s6 : Int32) => lt9 (α := Int32 → Int32 → Int32 → Int32 → Int32 → Int32 → Int32 → Option (Int32)) (fun (p8 : Int32) (p9 : Int32) (p10 : Int32) (p11 : Int32) (p12 : Int32) (p13 : Int32) (p14 : Int32) => if p9 = 0 ∨ p9 = 1 then some p9 else none) fun kx15 => M_isSame_L30 n σ kx15 n 0 s6 y2 a1 a2 a3 a4) fun x5 => if y2 = y4 then x5 1 else x5 0
set_option maxHeartbeats 4000000 in
set_option maxRecDepth 100000 in
theorem t_M_isSame (l : Launch) (dC : Nat → ClassId) (dI : Nat → Nat → Nat) (ad : Nat → Nat → Nat) (ca : Nat → Nat → ClassId) (dom : List (Nat × Nat)) (n : Nat) (σ : hT) (a1 : Int32) (a2 : Int32) (a3 : Int32) (a4 : Int32) (hm0 : (4, 0) ∈ dom) (hN : dom.Nodup) (hC : clo dom σ.2.2) (ρ : Int32) (hf : M_isSame n σ a1 a2 a3 a4 = some ρ) : Met l yM_isSame (.code yM_isSame cM_isSame 8 (some .boolean) :: aw) ({ frames := 1, cells := 0, slots := 0, locals := 23 }) (hR (dC, dI) ad ca dom σ [.ref (ad 4 0), .int a1, .int a2, .int a3, .int a4]) (vp_Si (fun r => r = ρ)) 0 0 (fun _ => False) := by
  refine Met.ofW (cc := cM_isSame) (maxL := 8) (ret := (some .boolean)) (by decide) rfl ?_
  intro p e s m args below meth c s₁ B hml hv
  obtain ⟨rfl, hv⟩ := hv
  have hx := B.exec
  have hb := B.bytes
  have hr := B.returns
  have hts : ∀ w ∈ aw, w.before _ s = true := fun w h => atoms_spec (ws := (.code yM_isSame cM_isSame 8 (some .boolean) :: aw)) B.pre w (List.mem_cons_of_mem _ h)
  have hown : s.vm.findClass RM = some m.cls := findClass_of_methodNamed B.named
  have hlocks := B.notSynchronized
  obtain ⟨hP, hK, hG⟩ := hv
  obtain ⟨H, hH⟩ : ∃ H, H = s.heap := ⟨_, rfl⟩
  rw [← hH] at hP ⊢
  unfold M_isSame at hf
  have hl := lv_entry ([.ref (ad 4 0), .int a1, .int a2, .int a3, .int a4]) (n := 8) (Nat.le_of_ble_eq_true rfl)
  rw [lg_entry_eq]
  generalize (lg_sl ([.ref (ad 4 0), .int a1, .int a2, .int a3, .int a4]) ++ List.replicate (8 - (lg_sl ([.ref (ad 4 0), .int a1, .int a2, .int a3, .int a4])).length) Slot.unset).toArray = ls at hl ⊢
  have hl : lv_has ls 8 [(0, .ref (ad 4 0)), (1, .int a1), (2, .int a2), (3, .int a3), (4, .int a4)] := hl
  refine lv_aload_n (pc := 0) hx hb dM_isSame_0 rfl (lv_at hl 0 rfl) ?_
  refine lv_iload_n (pc := 1) hx hb dM_isSame_1 rfl (lv_at hl 1 rfl) ?_
  refine lv_iload_n (pc := 2) hx hb dM_isSame_2 rfl (lv_at hl 2 rfl) ?_
  obtain ⟨q1, hq1, eq1⟩ := at_4 (ad := ad) (ca := ca) (σ := σ) hm0
  obtain ⟨y2, hy2, hf⟩ := ob hf
  refine vp_callSi (pc := 3) (W.runV (As := [.int a1, .int a2]) (rest := []) ⟨hx, hb, hml, hown, hts⟩ (t_M_pieceLength l dC dI ad ca dom σ a1 a2 hm0 hN hC y2 hy2) (cwV 2 hts (gV wd_89 wd_90 wd_91 wd_50 wd_88) rfl rfl rfl (by decide +kernel) ⟨Nat.le_of_ble_eq_true rfl, Nat.le_of_ble_eq_true rfl⟩) ⟨hR_blind, va_recv (q := (RM, TM, 11)) (q0 := q1) (ci := 4) hK.1 hP rfl eq1, hR_pre hP hK hG⟩ rfl rfl hl.1 rfl (lv_room (Nat.le_of_ble_eq_true rfl)) dM_isSame_3 ⟨Nat.le_of_ble_eq_true rfl, Nat.le_of_ble_eq_true rfl⟩) (fun r9 hr9 => ?_)
  refine W.eq (g2 := F0 m 6 ls [.int y2]) (by rw [hr9]) ?_
  refine lv_istore (pc := 6) hx hb dM_isSame_6 hl (by decide) rfl (fun ls hl => ?_)
  have hl : lv_has ls 8 [(5, .int y2), (0, .ref (ad 4 0)), (1, .int a1), (2, .int a2), (3, .int a3), (4, .int a4)] := hl
  refine lv_iload (pc := 8) hx hb dM_isSame_8 (lv_at hl 0 rfl) ?_
  refine lv_aload_n (pc := 10) hx hb dM_isSame_10 rfl (lv_at hl 1 rfl) ?_
  refine lv_iload_n (pc := 11) hx hb dM_isSame_11 rfl (lv_at hl 4 rfl) ?_
  refine lv_iload (pc := 12) hx hb dM_isSame_12 (lv_at hl 5 rfl) ?_
  obtain ⟨q3, hq3, eq3⟩ := at_4 (ad := ad) (ca := ca) (σ := σ) hm0
  obtain ⟨y4, hy4, hf⟩ := ob hf
  refine vp_callSi (pc := 14) (W.runV (As := [.int a3, .int a4]) (rest := [.int y2]) ⟨hx, hb, hml, hown, hts⟩ (t_M_pieceLength l dC dI ad ca dom σ a3 a4 hm0 hN hC y4 hy4) (cwV 2 hts (gV wd_89 wd_90 wd_91 wd_50 wd_88) rfl rfl rfl (by decide +kernel) ⟨Nat.le_of_ble_eq_true rfl, Nat.le_of_ble_eq_true rfl⟩) ⟨hR_blind, va_recv (q := (RM, TM, 11)) (q0 := q3) (ci := 4) hK.1 hP rfl eq3, hR_pre hP hK hG⟩ rfl rfl hl.1 rfl (lv_room (Nat.le_of_ble_eq_true rfl)) dM_isSame_14 ⟨Nat.le_of_ble_eq_true rfl, Nat.le_of_ble_eq_true rfl⟩) (fun r9 hr9 => ?_)
  refine W.eq (g2 := F0 m 17 ls [.int y4, .int y2]) (by rw [hr9]) ?_
  obtain ⟨x5, hx5, hf⟩ := lt_9 hf
  refine jnF (τ := (Int32) × (Array Slot)) (fun pc st z => W p l e _ s m _ below meth c H ([]) 0 0 _ (F0 m pc z.2 st)) (pc0 := 17) (st0 := [.int y4, .int y2]) (z0 := (0, ls)) 25 (fun z => [.int z.1]) (fun z => lv_has z.2 8 [(5, .int y2), (0, .ref (ad 4 0)), (1, .int a1), (2, .int a2), (3, .int a3), (4, .int a4)]) (fun z => x5 z.1) ρ ?_ ?_
  · intro hJx5
    dsimp only at hJx5 ⊢
    refine lv_icmp_ne (pc := 17) (tgt := 24) hx hb dM_isSame_17 rfl (fun h7 => ?_) (fun h7 => ?_)
    · replace hf := ite_f h7 hf
      refine lv_iconst (pc := 24) (v := 0) hx hb dM_isSame_24 (by decide) ?_
      have hl := lv_sub hl (l' := [(5, .int y2), (0, .ref (ad 4 0)), (1, .int a1), (2, .int a2), (3, .int a3), (4, .int a4)]) [0, 1, 2, 3, 4, 5] rfl
      exact hJx5 (0, ls) hl hf
    · replace hf := ite_t h7 hf
      refine lv_iconst (pc := 20) (v := 1) hx hb dM_isSame_20 (by decide) ?_
      refine lv_goto (pc := 21) (tgt := 25) hx hb dM_isSame_21 rfl ?_
      have hl := lv_sub hl (l' := [(5, .int y2), (0, .ref (ad 4 0)), (1, .int a1), (2, .int a2), (3, .int a3), (4, .int a4)]) [0, 1, 2, 3, 4, 5] rfl
      exact hJx5 (1, ls) hl hf
  · rintro ⟨s6, ls⟩ hl hf
    dsimp only at hl hf ⊢
    rw [hx5] at hf
    have hl : lv_has ls 8 [(5, .int y2), (0, .ref (ad 4 0)), (1, .int a1), (2, .int a2), (3, .int a3), (4, .int a4)] := hl
    refine lv_istore (pc := 25) hx hb dM_isSame_25 hl (by decide) rfl (fun ls hl => ?_)
    have hl : lv_has ls 8 [(6, .int s6), (5, .int y2), (0, .ref (ad 4 0)), (1, .int a1), (2, .int a2), (3, .int a3), (4, .int a4)] := hl
    refine lv_iconst (pc := 27) (v := 0) hx hb dM_isSame_27 (by decide) ?_
    refine lv_istore (pc := 28) hx hb dM_isSame_28 hl (by decide) rfl (fun ls hl => ?_)
    have hl : lv_has ls 8 [(7, .int 0), (6, .int s6), (5, .int y2), (0, .ref (ad 4 0)), (1, .int a1), (2, .int a2), (3, .int a3), (4, .int a4)] := hl
    obtain ⟨kx15, hkx15, hf⟩ := lt_9 hf
    refine lpF (τ := (Int32) × (Int32) × (Int32) × (Int32) × (Int32) × (Int32) × (Int32) × (Array Slot)) (fun pc z => W p l e _ s m _ below meth c H ([]) 0 0 _ (F0 m pc z.2.2.2.2.2.2.2 [])) 30 93 (fun z => lv_has z.2.2.2.2.2.2.2 8 [(7, .int z.1), (6, .int z.2.1), (5, .int z.2.2.1), (0, .ref (ad 4 0)), (1, .int z.2.2.2.1), (2, .int z.2.2.2.2.1), (3, .int z.2.2.2.2.2.1), (4, .int z.2.2.2.2.2.2.1)]) (fun k z => M_isSame_L30 n σ kx15 k z.1 z.2.1 z.2.2.1 z.2.2.2.1 z.2.2.2.2.1 z.2.2.2.2.2.1 z.2.2.2.2.2.2.1) (fun z => kx15 z.1 z.2.1 z.2.2.1 z.2.2.2.1 z.2.2.2.2.1 z.2.2.2.2.2.1 z.2.2.2.2.2.2.1) _ (fun z => rfl) ?_ ?_ n (0, s6, y2, a1, a2, a3, a4, ls) hl hf
    · rintro k ⟨p8, p9, p10, p11, p12, p13, p14, ls⟩ hl hf ih16 hXkx15
      dsimp only at hl hf ih16 hXkx15 ⊢
      unfold M_isSame_L30 at hf
      have hl : lv_has ls 8 [(7, .int p8), (6, .int p9), (5, .int p10), (0, .ref (ad 4 0)), (1, .int p11), (2, .int p12), (3, .int p13), (4, .int p14)] := hl
      refine lv_iload (pc := 30) hx hb dM_isSame_30 (lv_at hl 0 rfl) ?_
      refine lv_iload (pc := 32) hx hb dM_isSame_32 (lv_at hl 2 rfl) ?_
      refine lv_icmp_ge (pc := 34) (tgt := 93) hx hb dM_isSame_34 rfl (fun h17 => ?_) (fun h17 => ?_)
      · replace hf := ite_t h17 hf
        have hl := lv_sub hl (l' := [(7, .int p8), (6, .int p9), (5, .int p10), (0, .ref (ad 4 0)), (1, .int p11), (2, .int p12), (3, .int p13), (4, .int p14)]) [0, 1, 2, 3, 4, 5, 6, 7] rfl
        exact hXkx15 (p8, p9, p10, p11, p12, p13, p14, ls) hl hf
      · replace hf := ite_f h17 hf
        refine lv_iload (pc := 37) hx hb dM_isSame_37 (lv_at hl 1 rfl) ?_
        refine lv_if_eq (pc := 39) (tgt := 93) hx hb dM_isSame_39 rfl (fun h18 => ?_) (fun h18 => ?_)
        · replace hf := ite_t h18 hf
          have hl := lv_sub hl (l' := [(7, .int p8), (6, .int p9), (5, .int p10), (0, .ref (ad 4 0)), (1, .int p11), (2, .int p12), (3, .int p13), (4, .int p14)]) [0, 1, 2, 3, 4, 5, 6, 7] rfl
          exact hXkx15 (p8, p9, p10, p11, p12, p13, p14, ls) hl hf
        · replace hf := ite_f h18 hf
          refine lv_aload_n (pc := 42) hx hb dM_isSame_42 rfl (lv_at hl 3 rfl) ?_
          obtain ⟨q19, hq19, eq19⟩ := at_4 (ad := ad) (ca := ca) (σ := σ) hm0
          refine va_get (D := (dC, dI)) (cl := kCl) (C := RM) (T := TM) (N := 11) (pc := 43) hx hb hts inM hown hK.1 hP q19 eq19 rfl 2 (by decide) (hts _ wd_51) (fun _ h9 => h9) rfl dM_isSame_43 ?_
          refine lv_iload_n (pc := 46) hx hb dM_isSame_46 rfl (lv_at hl 4 rfl) ?_
          refine lv_bipush (pc := 47) (v := 16) hx hb dM_isSame_47 (by decide) ?_
          refine lv_iadd (pc := 49) hx hb dM_isSame_49 ?_
          refine lv_bipush (pc := 50) (v := 8) hx hb dM_isSame_50 (by decide) ?_
          refine lv_iload_n (pc := 52) hx hb dM_isSame_52 rfl (lv_at hl 5 rfl) ?_
          refine lv_imul (pc := 53) hx hb dM_isSame_53 ?_
          refine lv_iadd (pc := 54) hx hb dM_isSame_54 ?_
          refine lv_iload (pc := 55) hx hb dM_isSame_55 (lv_at hl 0 rfl) ?_
          refine lv_iadd (pc := 57) hx hb dM_isSame_57 ?_
          obtain ⟨hv20, hf⟩ := ite_s hf
          obtain ⟨q21, hq21, eq21⟩ := at_15 (ad := ad) (ca := ca) (σ := σ) (cm_4_2 hC hm0)
          refine va_iald (D := (dC, dI)) (cl := kCl) (pc := 58) hx hb (hK.2 15 0 .int (cm_4_2 hC hm0) rfl) hP q21 0 eq21 rfl (hv20) dM_isSame_58 ?_
          refine W.eq (g2 := F0 m 59 ls [.int (xI σ 15 0 ((((p11 + 16) + (8 * p12)) + p8)).toNatClampNeg)]) rfl ?_
          refine lv_aload_n (pc := 59) hx hb dM_isSame_59 rfl (lv_at hl 3 rfl) ?_
          obtain ⟨q22, hq22, eq22⟩ := at_4 (ad := ad) (ca := ca) (σ := σ) hm0
          refine va_get (D := (dC, dI)) (cl := kCl) (C := RM) (T := TM) (N := 11) (pc := 60) hx hb hts inM hown hK.1 hP q22 eq22 rfl 2 (by decide) (hts _ wd_51) (fun _ h9 => h9) rfl dM_isSame_60 ?_
          refine lv_iload_n (pc := 63) hx hb dM_isSame_63 rfl (lv_at hl 6 rfl) ?_
          refine lv_bipush (pc := 64) (v := 16) hx hb dM_isSame_64 (by decide) ?_
          refine lv_iadd (pc := 66) hx hb dM_isSame_66 ?_
          refine lv_bipush (pc := 67) (v := 8) hx hb dM_isSame_67 (by decide) ?_
          refine lv_iload (pc := 69) hx hb dM_isSame_69 (lv_at hl 7 rfl) ?_
          refine lv_imul (pc := 71) hx hb dM_isSame_71 ?_
          refine lv_iadd (pc := 72) hx hb dM_isSame_72 ?_
          refine lv_iload (pc := 73) hx hb dM_isSame_73 (lv_at hl 0 rfl) ?_
          refine lv_iadd (pc := 75) hx hb dM_isSame_75 ?_
          obtain ⟨hv23, hf⟩ := ite_s hf
          obtain ⟨q24, hq24, eq24⟩ := at_15 (ad := ad) (ca := ca) (σ := σ) (cm_4_2 hC hm0)
          refine va_iald (D := (dC, dI)) (cl := kCl) (pc := 76) hx hb (hK.2 15 0 .int (cm_4_2 hC hm0) rfl) hP q24 0 eq24 rfl (hv23) dM_isSame_76 ?_
          refine W.eq (g2 := F0 m 77 ls [.int (xI σ 15 0 ((((p13 + 16) + (8 * p14)) + p8)).toNatClampNeg), .int (xI σ 15 0 ((((p11 + 16) + (8 * p12)) + p8)).toNatClampNeg)]) rfl ?_
          refine lv_icmp_ne (pc := 77) (tgt := 84) hx hb dM_isSame_77 rfl (fun h25 => ?_) (fun h25 => ?_)
          · replace hf := ite_f h25 hf
            refine lv_iconst (pc := 84) (v := 0) hx hb dM_isSame_84 (by decide) ?_
            refine lv_istore (pc := 85) hx hb dM_isSame_85 hl (by decide) rfl (fun ls hl => ?_)
            have hl : lv_has ls 8 [(6, .int 0), (7, .int p8), (5, .int p10), (0, .ref (ad 4 0)), (1, .int p11), (2, .int p12), (3, .int p13), (4, .int p14)] := hl
            refine lv_iinc (pc := 87) (v := (p8 + 1)) hx hb dM_isSame_87 hl (k := 1) rfl (by rfl) (by decide) rfl (fun ls hl => ?_)
            have hl : lv_has ls 8 [(7, .int (p8 + 1)), (6, .int 0), (5, .int p10), (0, .ref (ad 4 0)), (1, .int p11), (2, .int p12), (3, .int p13), (4, .int p14)] := hl
            refine lv_goto (pc := 90) (tgt := 30) hx hb dM_isSame_90 rfl ?_
            have hl := lv_sub hl (l' := [(7, .int (p8 + 1)), (6, .int 0), (5, .int p10), (0, .ref (ad 4 0)), (1, .int p11), (2, .int p12), (3, .int p13), (4, .int p14)]) [0, 1, 2, 3, 4, 5, 6, 7] rfl
            exact ih16 ((p8 + 1), 0, p10, p11, p12, p13, p14, ls) hl hf
          · replace hf := ite_t h25 hf
            refine lv_iconst (pc := 80) (v := 1) hx hb dM_isSame_80 (by decide) ?_
            refine lv_goto (pc := 81) (tgt := 85) hx hb dM_isSame_81 rfl ?_
            refine lv_istore (pc := 85) hx hb dM_isSame_85 hl (by decide) rfl (fun ls hl => ?_)
            have hl : lv_has ls 8 [(6, .int 1), (7, .int p8), (5, .int p10), (0, .ref (ad 4 0)), (1, .int p11), (2, .int p12), (3, .int p13), (4, .int p14)] := hl
            refine lv_iinc (pc := 87) (v := (p8 + 1)) hx hb dM_isSame_87 hl (k := 1) rfl (by rfl) (by decide) rfl (fun ls hl => ?_)
            have hl : lv_has ls 8 [(7, .int (p8 + 1)), (6, .int 1), (5, .int p10), (0, .ref (ad 4 0)), (1, .int p11), (2, .int p12), (3, .int p13), (4, .int p14)] := hl
            refine lv_goto (pc := 90) (tgt := 30) hx hb dM_isSame_90 rfl ?_
            have hl := lv_sub hl (l' := [(7, .int (p8 + 1)), (6, .int 1), (5, .int p10), (0, .ref (ad 4 0)), (1, .int p11), (2, .int p12), (3, .int p13), (4, .int p14)]) [0, 1, 2, 3, 4, 5, 6, 7] rfl
            exact ih16 ((p8 + 1), 1, p10, p11, p12, p13, p14, ls) hl hf
    · rintro ⟨p8, p9, p10, p11, p12, p13, p14, ls⟩ hl hf
      dsimp only at hl hf ⊢
      rw [hkx15] at hf
      have hl : lv_has ls 8 [(7, .int p8), (6, .int p9), (5, .int p10), (0, .ref (ad 4 0)), (1, .int p11), (2, .int p12), (3, .int p13), (4, .int p14)] := hl
      refine lv_iload (pc := 93) hx hb dM_isSame_93 (lv_at hl 1 rfl) ?_
      obtain ⟨hz9, hf⟩ := ite_s hf
      exact W.zret (pc := 95) hx hb hr (nar01 hz9) (fun t ht hW => ⟨_, rfl, (Option.some.inj hf), ht.trans hH⟩) (fun q h => nomatch h) dM_isSame_95
def M_stands_L6 (n : Nat) (σ : hT) (kx7 : Int32 → Int32 → Int32 → Int32 → Int32 → Int32 → Option (Int32)) : Nat → Int32 → Int32 → Int32 → Int32 → Int32 → Int32 → Option (Int32)
  | 0, _, _, _, _, _, _ => none
  | k + 1, p1, p2, p3, p4, p5, p6 => if p6 ≤ p1 then kx7 p1 p2 p3 p4 p5 p6 else if p2 = 0 then Option.bind (M_isSame n σ p3 p4 p5 p1) fun y12 => M_stands_L6 n σ kx7 k (p1 + 1) y12 p3 p4 p5 p6 else kx7 p1 p2 p3 p4 p5 p6
def M_stands (n : Nat) (σ : hT) (a1 : Int32) (a2 : Int32) (a3 : Int32) (a4 : Int32) : Option (Int32) := lt9 (α := Int32 → Int32 → Int32 → Int32 → Int32 → Int32 → Option (Int32)) (fun (p1 : Int32) (p2 : Int32) (p3 : Int32) (p4 : Int32) (p5 : Int32) (p6 : Int32) => if p2 = 0 ∨ p2 = 1 then some p2 else none) fun kx7 => M_stands_L6 n σ kx7 n 0 0 a1 a2 a3 a4
set_option maxHeartbeats 4000000 in
set_option maxRecDepth 100000 in
theorem t_M_stands (l : Launch) (dC : Nat → ClassId) (dI : Nat → Nat → Nat) (ad : Nat → Nat → Nat) (ca : Nat → Nat → ClassId) (dom : List (Nat × Nat)) (n : Nat) (σ : hT) (a1 : Int32) (a2 : Int32) (a3 : Int32) (a4 : Int32) (hm0 : (4, 0) ∈ dom) (hN : dom.Nodup) (hC : clo dom σ.2.2) (ρ : Int32) (hf : M_stands n σ a1 a2 a3 a4 = some ρ) : Met l yM_stands (.code yM_stands cM_stands 7 (some .boolean) :: aw) ({ frames := 2, cells := 0, slots := 0, locals := 50 }) (hR (dC, dI) ad ca dom σ [.ref (ad 4 0), .int a1, .int a2, .int a3, .int a4]) (vp_Si (fun r => r = ρ)) 0 0 (fun _ => False) := by
  refine Met.ofW (cc := cM_stands) (maxL := 7) (ret := (some .boolean)) (by decide) rfl ?_
  intro p e s m args below meth c s₁ B hml hv
  obtain ⟨rfl, hv⟩ := hv
  have hx := B.exec
  have hb := B.bytes
  have hr := B.returns
  have hts : ∀ w ∈ aw, w.before _ s = true := fun w h => atoms_spec (ws := (.code yM_stands cM_stands 7 (some .boolean) :: aw)) B.pre w (List.mem_cons_of_mem _ h)
  have hown : s.vm.findClass RM = some m.cls := findClass_of_methodNamed B.named
  have hlocks := B.notSynchronized
  obtain ⟨hP, hK, hG⟩ := hv
  obtain ⟨H, hH⟩ : ∃ H, H = s.heap := ⟨_, rfl⟩
  rw [← hH] at hP ⊢
  unfold M_stands at hf
  have hl := lv_entry ([.ref (ad 4 0), .int a1, .int a2, .int a3, .int a4]) (n := 7) (Nat.le_of_ble_eq_true rfl)
  rw [lg_entry_eq]
  generalize (lg_sl ([.ref (ad 4 0), .int a1, .int a2, .int a3, .int a4]) ++ List.replicate (7 - (lg_sl ([.ref (ad 4 0), .int a1, .int a2, .int a3, .int a4])).length) Slot.unset).toArray = ls at hl ⊢
  have hl : lv_has ls 7 [(0, .ref (ad 4 0)), (1, .int a1), (2, .int a2), (3, .int a3), (4, .int a4)] := hl
  refine lv_iconst (pc := 0) (v := 0) hx hb dM_stands_0 (by decide) ?_
  refine lv_istore (pc := 1) hx hb dM_stands_1 hl (by decide) rfl (fun ls hl => ?_)
  have hl : lv_has ls 7 [(5, .int 0), (0, .ref (ad 4 0)), (1, .int a1), (2, .int a2), (3, .int a3), (4, .int a4)] := hl
  refine lv_iconst (pc := 3) (v := 0) hx hb dM_stands_3 (by decide) ?_
  refine lv_istore (pc := 4) hx hb dM_stands_4 hl (by decide) rfl (fun ls hl => ?_)
  have hl : lv_has ls 7 [(6, .int 0), (5, .int 0), (0, .ref (ad 4 0)), (1, .int a1), (2, .int a2), (3, .int a3), (4, .int a4)] := hl
  obtain ⟨kx7, hkx7, hf⟩ := lt_9 hf
  refine lpF (τ := (Int32) × (Int32) × (Int32) × (Int32) × (Int32) × (Int32) × (Array Slot)) (fun pc z => W p l e _ s m _ below meth c H ([]) 0 0 _ (F0 m pc z.2.2.2.2.2.2 [])) 6 35 (fun z => lv_has z.2.2.2.2.2.2 7 [(6, .int z.1), (5, .int z.2.1), (0, .ref (ad 4 0)), (1, .int z.2.2.1), (2, .int z.2.2.2.1), (3, .int z.2.2.2.2.1), (4, .int z.2.2.2.2.2.1)]) (fun k z => M_stands_L6 n σ kx7 k z.1 z.2.1 z.2.2.1 z.2.2.2.1 z.2.2.2.2.1 z.2.2.2.2.2.1) (fun z => kx7 z.1 z.2.1 z.2.2.1 z.2.2.2.1 z.2.2.2.2.1 z.2.2.2.2.2.1) _ (fun z => rfl) ?_ ?_ n (0, 0, a1, a2, a3, a4, ls) hl hf
  · rintro k ⟨p1, p2, p3, p4, p5, p6, ls⟩ hl hf ih8 hXkx7
    dsimp only at hl hf ih8 hXkx7 ⊢
    unfold M_stands_L6 at hf
    have hl : lv_has ls 7 [(6, .int p1), (5, .int p2), (0, .ref (ad 4 0)), (1, .int p3), (2, .int p4), (3, .int p5), (4, .int p6)] := hl
    refine lv_iload (pc := 6) hx hb dM_stands_6 (lv_at hl 0 rfl) ?_
    refine lv_iload (pc := 8) hx hb dM_stands_8 (lv_at hl 6 rfl) ?_
    refine lv_icmp_ge (pc := 10) (tgt := 35) hx hb dM_stands_10 rfl (fun h9 => ?_) (fun h9 => ?_)
    · replace hf := ite_t h9 hf
      have hl := lv_sub hl (l' := [(6, .int p1), (5, .int p2), (0, .ref (ad 4 0)), (1, .int p3), (2, .int p4), (3, .int p5), (4, .int p6)]) [0, 1, 2, 3, 4, 5, 6] rfl
      exact hXkx7 (p1, p2, p3, p4, p5, p6, ls) hl hf
    · replace hf := ite_f h9 hf
      refine lv_iload (pc := 13) hx hb dM_stands_13 (lv_at hl 1 rfl) ?_
      refine lv_if_ne (pc := 15) (tgt := 35) hx hb dM_stands_15 rfl (fun h10 => ?_) (fun h10 => ?_)
      · replace hf := ite_f h10 hf
        have hl := lv_sub hl (l' := [(6, .int p1), (5, .int p2), (0, .ref (ad 4 0)), (1, .int p3), (2, .int p4), (3, .int p5), (4, .int p6)]) [0, 1, 2, 3, 4, 5, 6] rfl
        exact hXkx7 (p1, p2, p3, p4, p5, p6, ls) hl hf
      · replace hf := ite_t h10 hf
        refine lv_aload_n (pc := 18) hx hb dM_stands_18 rfl (lv_at hl 2 rfl) ?_
        refine lv_iload_n (pc := 19) hx hb dM_stands_19 rfl (lv_at hl 3 rfl) ?_
        refine lv_iload_n (pc := 20) hx hb dM_stands_20 rfl (lv_at hl 4 rfl) ?_
        refine lv_iload_n (pc := 21) hx hb dM_stands_21 rfl (lv_at hl 5 rfl) ?_
        refine lv_iload (pc := 22) hx hb dM_stands_22 (lv_at hl 0 rfl) ?_
        obtain ⟨q11, hq11, eq11⟩ := at_4 (ad := ad) (ca := ca) (σ := σ) hm0
        obtain ⟨y12, hy12, hf⟩ := ob hf
        refine vp_callSi (pc := 24) (W.runV (As := [.int p3, .int p4, .int p5, .int p1]) (rest := []) ⟨hx, hb, hml, hown, hts⟩ (t_M_isSame l dC dI ad ca dom n σ p3 p4 p5 p1 hm0 hN hC y12 hy12) (cwV 4 hts (gV wd_93 wd_94 wd_95 wd_50 wd_92) rfl rfl rfl (by decide +kernel) ⟨Nat.le_of_ble_eq_true rfl, Nat.le_of_ble_eq_true rfl⟩) ⟨hR_blind, va_recv (q := (RM, TM, 11)) (q0 := q11) (ci := 4) hK.1 hP rfl eq11, hR_pre hP hK hG⟩ rfl rfl hl.1 rfl (lv_room (Nat.le_of_ble_eq_true rfl)) dM_stands_24 ⟨Nat.le_of_ble_eq_true rfl, Nat.le_of_ble_eq_true rfl⟩) (fun r9 hr9 => ?_)
        refine W.eq (g2 := F0 m 27 ls [.int y12]) (by rw [hr9]) ?_
        refine lv_istore (pc := 27) hx hb dM_stands_27 hl (by decide) rfl (fun ls hl => ?_)
        have hl : lv_has ls 7 [(5, .int y12), (6, .int p1), (0, .ref (ad 4 0)), (1, .int p3), (2, .int p4), (3, .int p5), (4, .int p6)] := hl
        refine lv_iinc (pc := 29) (v := (p1 + 1)) hx hb dM_stands_29 hl (k := 1) rfl (by rfl) (by decide) rfl (fun ls hl => ?_)
        have hl : lv_has ls 7 [(6, .int (p1 + 1)), (5, .int y12), (0, .ref (ad 4 0)), (1, .int p3), (2, .int p4), (3, .int p5), (4, .int p6)] := hl
        refine lv_goto (pc := 32) (tgt := 6) hx hb dM_stands_32 rfl ?_
        have hl := lv_sub hl (l' := [(6, .int (p1 + 1)), (5, .int y12), (0, .ref (ad 4 0)), (1, .int p3), (2, .int p4), (3, .int p5), (4, .int p6)]) [0, 1, 2, 3, 4, 5, 6] rfl
        exact ih8 ((p1 + 1), y12, p3, p4, p5, p6, ls) hl hf
  · rintro ⟨p1, p2, p3, p4, p5, p6, ls⟩ hl hf
    dsimp only at hl hf ⊢
    rw [hkx7] at hf
    have hl : lv_has ls 7 [(6, .int p1), (5, .int p2), (0, .ref (ad 4 0)), (1, .int p3), (2, .int p4), (3, .int p5), (4, .int p6)] := hl
    refine lv_iload (pc := 35) hx hb dM_stands_35 (lv_at hl 1 rfl) ?_
    obtain ⟨hz9, hf⟩ := ite_s hf
    exact W.zret (pc := 37) hx hb hr (nar01 hz9) (fun t ht hW => ⟨_, rfl, (Option.some.inj hf), ht.trans hH⟩) (fun q h => nomatch h) dM_stands_37
def M_contentAt (σ : hT) (a1 : Int32) : Option (Int32) := if 24 ≤ a1 then Option.bind (M_isRevision σ ((a1 - 24) / 12) ((a1 - 24) - (a1 - 24) / 12 * 12)) fun y3 => if y3 = 0 then some (-1) else some (M_revisionAt ((a1 - 24) / 12) ((a1 - 24) - (a1 - 24) / 12 * 12)) else Option.bind (M_isDrawing σ a1) fun y7 => if y7 = 0 then some (-1) else Option.bind (M_with σ a1) fun y10 => if y10 < 0 then some (-1) else some (M_drawingAt a1)
set_option maxHeartbeats 4000000 in
set_option maxRecDepth 100000 in
theorem t_M_contentAt (l : Launch) (dC : Nat → ClassId) (dI : Nat → Nat → Nat) (ad : Nat → Nat → Nat) (ca : Nat → Nat → ClassId) (dom : List (Nat × Nat)) (σ : hT) (a1 : Int32) (hm0 : (4, 0) ∈ dom) (hN : dom.Nodup) (hC : clo dom σ.2.2) (ρ : Int32) (hf : M_contentAt σ a1 = some ρ) : Met l yM_contentAt (.code yM_contentAt cM_contentAt 3 (some .int) :: aw) ({ frames := 3, cells := 0, slots := 0, locals := 64 }) (hR (dC, dI) ad ca dom σ [.ref (ad 4 0), .int a1]) (vp_Si (fun r => r = ρ)) 0 0 (fun _ => False) := by
  refine Met.ofW (cc := cM_contentAt) (maxL := 3) (ret := (some .int)) (by decide) rfl ?_
  intro p e s m args below meth c s₁ B hml hv
  obtain ⟨rfl, hv⟩ := hv
  have hx := B.exec
  have hb := B.bytes
  have hr := B.returns
  have hts : ∀ w ∈ aw, w.before _ s = true := fun w h => atoms_spec (ws := (.code yM_contentAt cM_contentAt 3 (some .int) :: aw)) B.pre w (List.mem_cons_of_mem _ h)
  have hown : s.vm.findClass RM = some m.cls := findClass_of_methodNamed B.named
  have hlocks := B.notSynchronized
  obtain ⟨hP, hK, hG⟩ := hv
  obtain ⟨H, hH⟩ : ∃ H, H = s.heap := ⟨_, rfl⟩
  rw [← hH] at hP ⊢
  unfold M_contentAt at hf
  have hl := lv_entry ([.ref (ad 4 0), .int a1]) (n := 3) (Nat.le_of_ble_eq_true rfl)
  rw [lg_entry_eq]
  generalize (lg_sl ([.ref (ad 4 0), .int a1]) ++ List.replicate (3 - (lg_sl ([.ref (ad 4 0), .int a1])).length) Slot.unset).toArray = ls at hl ⊢
  have hl : lv_has ls 3 [(0, .ref (ad 4 0)), (1, .int a1)] := hl
  refine lv_iload_n (pc := 0) hx hb dM_contentAt_0 rfl (lv_at hl 1 rfl) ?_
  refine lv_bipush (pc := 1) (v := 24) hx hb dM_contentAt_1 (by decide) ?_
  refine lv_icmp_ge (pc := 3) (tgt := 32) hx hb dM_contentAt_3 rfl (fun h1 => ?_) (fun h1 => ?_)
  · replace hf := ite_t h1 hf
    refine lv_iload_n (pc := 32) hx hb dM_contentAt_32 rfl (lv_at hl 1 rfl) ?_
    refine lv_bipush (pc := 33) (v := 24) hx hb dM_contentAt_33 (by decide) ?_
    refine lv_isub (pc := 35) hx hb dM_contentAt_35 ?_
    refine lv_istore_n (pc := 36) hx hb dM_contentAt_36 rfl hl (by decide) rfl (fun ls hl => ?_)
    have hl : lv_has ls 3 [(2, .int (a1 - 24)), (0, .ref (ad 4 0)), (1, .int a1)] := hl
    refine lv_aload_n (pc := 37) hx hb dM_contentAt_37 rfl (lv_at hl 1 rfl) ?_
    refine lv_iload_n (pc := 38) hx hb dM_contentAt_38 rfl (lv_at hl 0 rfl) ?_
    refine lv_bipush (pc := 39) (v := 12) hx hb dM_contentAt_39 (by decide) ?_
    refine lv_idiv (pc := 41) hx hb dM_contentAt_41 (by decide) ?_
    refine lv_iload_n (pc := 42) hx hb dM_contentAt_42 rfl (lv_at hl 0 rfl) ?_
    refine lv_bipush (pc := 43) (v := 12) hx hb dM_contentAt_43 (by decide) ?_
    refine lv_irem (pc := 45) hx hb dM_contentAt_45 (by decide) ?_
    obtain ⟨q2, hq2, eq2⟩ := at_4 (ad := ad) (ca := ca) (σ := σ) hm0
    obtain ⟨y3, hy3, hf⟩ := ob hf
    refine vp_callSi (pc := 46) (W.runV (As := [.int ((a1 - 24) / 12), .int ((a1 - 24) - (a1 - 24) / 12 * 12)]) (rest := []) ⟨hx, hb, hml, hown, hts⟩ (t_M_isRevision l dC dI ad ca dom σ ((a1 - 24) / 12) ((a1 - 24) - (a1 - 24) / 12 * 12) hm0 hN hC y3 hy3) (cwV 2 hts (gV wd_97 wd_98 wd_99 wd_50 wd_96) rfl rfl rfl (by decide +kernel) ⟨Nat.le_of_ble_eq_true rfl, Nat.le_of_ble_eq_true rfl⟩) ⟨hR_blind, va_recv (q := (RM, TM, 11)) (q0 := q2) (ci := 4) hK.1 hP rfl eq2, hR_pre hP hK hG⟩ rfl rfl hl.1 rfl (lv_room (Nat.le_of_ble_eq_true rfl)) dM_contentAt_46 ⟨Nat.le_of_ble_eq_true rfl, Nat.le_of_ble_eq_true rfl⟩) (fun r9 hr9 => ?_)
    refine W.eq (g2 := F0 m 49 ls [.int y3]) (by rw [hr9]) ?_
    refine lv_if_eq (pc := 49) (tgt := 67) hx hb dM_contentAt_49 rfl (fun h4 => ?_) (fun h4 => ?_)
    · replace hf := ite_t h4 hf
      refine lv_iconst (pc := 67) (v := (-1)) hx hb dM_contentAt_67 (by decide) ?_
      exact W.iret (pc := 68) hx hb hr (fun t ht hW => ⟨_, rfl, (Option.some.inj hf), ht.trans hH⟩) (fun q h => nomatch h) dM_contentAt_68
    · replace hf := ite_f h4 hf
      refine lv_aload_n (pc := 52) hx hb dM_contentAt_52 rfl (lv_at hl 1 rfl) ?_
      refine lv_iload_n (pc := 53) hx hb dM_contentAt_53 rfl (lv_at hl 0 rfl) ?_
      refine lv_bipush (pc := 54) (v := 12) hx hb dM_contentAt_54 (by decide) ?_
      refine lv_idiv (pc := 56) hx hb dM_contentAt_56 (by decide) ?_
      refine lv_iload_n (pc := 57) hx hb dM_contentAt_57 rfl (lv_at hl 0 rfl) ?_
      refine lv_bipush (pc := 58) (v := 12) hx hb dM_contentAt_58 (by decide) ?_
      refine lv_irem (pc := 60) hx hb dM_contentAt_60 (by decide) ?_
      obtain ⟨q5, hq5, eq5⟩ := at_4 (ad := ad) (ca := ca) (σ := σ) hm0
      refine vp_callSi (pc := 61) (W.runV (As := [.int ((a1 - 24) / 12), .int ((a1 - 24) - (a1 - 24) / 12 * 12)]) (rest := []) ⟨hx, hb, hml, hown, hts⟩ (t_M_revisionAt l dC dI ad ca dom ((a1 - 24) / 12) ((a1 - 24) - (a1 - 24) / 12 * 12) hm0 σ hN hC (M_revisionAt ((a1 - 24) / 12) ((a1 - 24) - (a1 - 24) / 12 * 12)) rfl) (cwV 2 hts (gV wd_65 wd_66 wd_67 wd_50 wd_64) rfl rfl rfl (by decide +kernel) ⟨Nat.le_of_ble_eq_true rfl, Nat.le_of_ble_eq_true rfl⟩) ⟨hR_blind, va_recv (q := (RM, TM, 11)) (q0 := q5) (ci := 4) hK.1 hP rfl eq5, hR_pre hP hK hG⟩ rfl rfl hl.1 rfl (lv_room (Nat.le_of_ble_eq_true rfl)) dM_contentAt_61 ⟨Nat.le_of_ble_eq_true rfl, Nat.le_of_ble_eq_true rfl⟩) (fun r9 hr9 => ?_)
      refine W.eq (g2 := F0 m 64 ls [.int (M_revisionAt ((a1 - 24) / 12) ((a1 - 24) - (a1 - 24) / 12 * 12))]) (by rw [hr9]) ?_
      refine lv_goto (pc := 64) (tgt := 68) hx hb dM_contentAt_64 rfl ?_
      exact W.iret (pc := 68) hx hb hr (fun t ht hW => ⟨_, rfl, (Option.some.inj hf), ht.trans hH⟩) (fun q h => nomatch h) dM_contentAt_68
  · replace hf := ite_f h1 hf
    refine lv_aload_n (pc := 6) hx hb dM_contentAt_6 rfl (lv_at hl 0 rfl) ?_
    refine lv_iload_n (pc := 7) hx hb dM_contentAt_7 rfl (lv_at hl 1 rfl) ?_
    obtain ⟨q6, hq6, eq6⟩ := at_4 (ad := ad) (ca := ca) (σ := σ) hm0
    obtain ⟨y7, hy7, hf⟩ := ob hf
    refine vp_callSi (pc := 8) (W.runV (As := [.int a1]) (rest := []) ⟨hx, hb, hml, hown, hts⟩ (t_M_isDrawing l dC dI ad ca dom σ a1 hm0 hN hC y7 hy7) (cwV 1 hts (gV wd_57 wd_58 wd_59 wd_50 wd_56) rfl rfl rfl (by decide +kernel) ⟨Nat.le_of_ble_eq_true rfl, Nat.le_of_ble_eq_true rfl⟩) ⟨hR_blind, va_recv (q := (RM, TM, 11)) (q0 := q6) (ci := 4) hK.1 hP rfl eq6, hR_pre hP hK hG⟩ rfl rfl hl.1 rfl (lv_room (Nat.le_of_ble_eq_true rfl)) dM_contentAt_8 ⟨Nat.le_of_ble_eq_true rfl, Nat.le_of_ble_eq_true rfl⟩) (fun r9 hr9 => ?_)
    refine W.eq (g2 := F0 m 11 ls [.int y7]) (by rw [hr9]) ?_
    refine lv_if_eq (pc := 11) (tgt := 30) hx hb dM_contentAt_11 rfl (fun h8 => ?_) (fun h8 => ?_)
    · replace hf := ite_t h8 hf
      refine lv_iconst (pc := 30) (v := (-1)) hx hb dM_contentAt_30 (by decide) ?_
      exact W.iret (pc := 31) hx hb hr (fun t ht hW => ⟨_, rfl, (Option.some.inj hf), ht.trans hH⟩) (fun q h => nomatch h) dM_contentAt_31
    · replace hf := ite_f h8 hf
      refine lv_aload_n (pc := 14) hx hb dM_contentAt_14 rfl (lv_at hl 0 rfl) ?_
      refine lv_iload_n (pc := 15) hx hb dM_contentAt_15 rfl (lv_at hl 1 rfl) ?_
      obtain ⟨q9, hq9, eq9⟩ := at_4 (ad := ad) (ca := ca) (σ := σ) hm0
      obtain ⟨y10, hy10, hf⟩ := ob hf
      refine vp_callSi (pc := 16) (W.runV (As := [.int a1]) (rest := []) ⟨hx, hb, hml, hown, hts⟩ (t_M_with l dC dI ad ca dom σ a1 hm0 hN hC y10 hy10) (cwV 1 hts (gV wd_101 wd_102 wd_103 wd_50 wd_100) rfl rfl rfl (by decide +kernel) ⟨Nat.le_of_ble_eq_true rfl, Nat.le_of_ble_eq_true rfl⟩) ⟨hR_blind, va_recv (q := (RM, TM, 11)) (q0 := q9) (ci := 4) hK.1 hP rfl eq9, hR_pre hP hK hG⟩ rfl rfl hl.1 rfl (lv_room (Nat.le_of_ble_eq_true rfl)) dM_contentAt_16 ⟨Nat.le_of_ble_eq_true rfl, Nat.le_of_ble_eq_true rfl⟩) (fun r9 hr9 => ?_)
      refine W.eq (g2 := F0 m 19 ls [.int y10]) (by rw [hr9]) ?_
      refine lv_if_lt (pc := 19) (tgt := 30) hx hb dM_contentAt_19 rfl (fun h11 => ?_) (fun h11 => ?_)
      · replace hf := ite_t h11 hf
        refine lv_iconst (pc := 30) (v := (-1)) hx hb dM_contentAt_30 (by decide) ?_
        exact W.iret (pc := 31) hx hb hr (fun t ht hW => ⟨_, rfl, (Option.some.inj hf), ht.trans hH⟩) (fun q h => nomatch h) dM_contentAt_31
      · replace hf := ite_f h11 hf
        refine lv_aload_n (pc := 22) hx hb dM_contentAt_22 rfl (lv_at hl 0 rfl) ?_
        refine lv_iload_n (pc := 23) hx hb dM_contentAt_23 rfl (lv_at hl 1 rfl) ?_
        obtain ⟨q12, hq12, eq12⟩ := at_4 (ad := ad) (ca := ca) (σ := σ) hm0
        refine vp_callSi (pc := 24) (W.runV (As := [.int a1]) (rest := []) ⟨hx, hb, hml, hown, hts⟩ (t_M_drawingAt l dC dI ad ca dom a1 hm0 σ hN hC (M_drawingAt a1) rfl) (cwV 1 hts (gV wd_53 wd_54 wd_55 wd_50 wd_52) rfl rfl rfl (by decide +kernel) ⟨Nat.le_of_ble_eq_true rfl, Nat.le_of_ble_eq_true rfl⟩) ⟨hR_blind, va_recv (q := (RM, TM, 11)) (q0 := q12) (ci := 4) hK.1 hP rfl eq12, hR_pre hP hK hG⟩ rfl rfl hl.1 rfl (lv_room (Nat.le_of_ble_eq_true rfl)) dM_contentAt_24 ⟨Nat.le_of_ble_eq_true rfl, Nat.le_of_ble_eq_true rfl⟩) (fun r9 hr9 => ?_)
        refine W.eq (g2 := F0 m 27 ls [.int (M_drawingAt a1)]) (by rw [hr9]) ?_
        refine lv_goto (pc := 27) (tgt := 31) hx hb dM_contentAt_27 rfl ?_
        exact W.iret (pc := 31) hx hb hr (fun t ht hW => ⟨_, rfl, (Option.some.inj hf), ht.trans hH⟩) (fun q h => nomatch h) dM_contentAt_31
def M_ownChunks_L4 (n : Nat) (σ : hT) (kx4 : Int32 → Int32 → Int32 → Option (Int32)) : Nat → Int32 → Int32 → Int32 → Option (Int32)
  | 0, _, _, _ => none
  | k + 1, p1, p2, p3 => if in9 (p3 + 2) 25240 then if (M_parts (xI σ 15 0 ((p3 + 2)).toNatClampNeg)) ≤ p1 then kx4 p1 p2 p3 else Option.bind (M_stands n σ p3 p1 p3 p1) fun y11 => if y11 = 0 then M_ownChunks_L4 n σ kx4 k (p1 + 1) (p2 + 1) p3 else M_ownChunks_L4 n σ kx4 k (p1 + 1) (p2 + 0) p3 else none
def M_ownChunks (n : Nat) (σ : hT) (a1 : Int32) : Option (Int32) := lt9 (α := Int32 → Int32 → Int32 → Option (Int32)) (fun (p1 : Int32) (p2 : Int32) (p3 : Int32) => some p2) fun kx4 => M_ownChunks_L4 n σ kx4 n 0 0 a1
set_option maxHeartbeats 4000000 in
set_option maxRecDepth 100000 in
theorem t_M_ownChunks (l : Launch) (dC : Nat → ClassId) (dI : Nat → Nat → Nat) (ad : Nat → Nat → Nat) (ca : Nat → Nat → ClassId) (dom : List (Nat × Nat)) (n : Nat) (σ : hT) (a1 : Int32) (hm0 : (4, 0) ∈ dom) (hN : dom.Nodup) (hC : clo dom σ.2.2) (ρ : Int32) (hf : M_ownChunks n σ a1 = some ρ) : Met l yM_ownChunks (.code yM_ownChunks cM_ownChunks 4 (some .int) :: aw) ({ frames := 3, cells := 0, slots := 0, locals := 76 }) (hR (dC, dI) ad ca dom σ [.ref (ad 4 0), .int a1]) (vp_Si (fun r => r = ρ)) 0 0 (fun _ => False) := by
  refine Met.ofW (cc := cM_ownChunks) (maxL := 4) (ret := (some .int)) (by decide) rfl ?_
  intro p e s m args below meth c s₁ B hml hv
  obtain ⟨rfl, hv⟩ := hv
  have hx := B.exec
  have hb := B.bytes
  have hr := B.returns
  have hts : ∀ w ∈ aw, w.before _ s = true := fun w h => atoms_spec (ws := (.code yM_ownChunks cM_ownChunks 4 (some .int) :: aw)) B.pre w (List.mem_cons_of_mem _ h)
  have hown : s.vm.findClass RM = some m.cls := findClass_of_methodNamed B.named
  have hlocks := B.notSynchronized
  obtain ⟨hP, hK, hG⟩ := hv
  obtain ⟨H, hH⟩ : ∃ H, H = s.heap := ⟨_, rfl⟩
  rw [← hH] at hP ⊢
  unfold M_ownChunks at hf
  have hl := lv_entry ([.ref (ad 4 0), .int a1]) (n := 4) (Nat.le_of_ble_eq_true rfl)
  rw [lg_entry_eq]
  generalize (lg_sl ([.ref (ad 4 0), .int a1]) ++ List.replicate (4 - (lg_sl ([.ref (ad 4 0), .int a1])).length) Slot.unset).toArray = ls at hl ⊢
  have hl : lv_has ls 4 [(0, .ref (ad 4 0)), (1, .int a1)] := hl
  refine lv_iconst (pc := 0) (v := 0) hx hb dM_ownChunks_0 (by decide) ?_
  refine lv_istore_n (pc := 1) hx hb dM_ownChunks_1 rfl hl (by decide) rfl (fun ls hl => ?_)
  have hl : lv_has ls 4 [(2, .int 0), (0, .ref (ad 4 0)), (1, .int a1)] := hl
  refine lv_iconst (pc := 2) (v := 0) hx hb dM_ownChunks_2 (by decide) ?_
  refine lv_istore_n (pc := 3) hx hb dM_ownChunks_3 rfl hl (by decide) rfl (fun ls hl => ?_)
  have hl : lv_has ls 4 [(3, .int 0), (2, .int 0), (0, .ref (ad 4 0)), (1, .int a1)] := hl
  obtain ⟨kx4, hkx4, hf⟩ := lt_9 hf
  refine lpF (τ := (Int32) × (Int32) × (Int32) × (Array Slot)) (fun pc z => W p l e _ s m _ below meth c H ([]) 0 0 _ (F0 m pc z.2.2.2 [])) 4 44 (fun z => lv_has z.2.2.2 4 [(3, .int z.1), (2, .int z.2.1), (0, .ref (ad 4 0)), (1, .int z.2.2.1)]) (fun k z => M_ownChunks_L4 n σ kx4 k z.1 z.2.1 z.2.2.1) (fun z => kx4 z.1 z.2.1 z.2.2.1) _ (fun z => rfl) ?_ ?_ n (0, 0, a1, ls) hl hf
  · rintro k ⟨p1, p2, p3, ls⟩ hl hf ih5 hXkx4
    dsimp only at hl hf ih5 hXkx4 ⊢
    unfold M_ownChunks_L4 at hf
    have hl : lv_has ls 4 [(3, .int p1), (2, .int p2), (0, .ref (ad 4 0)), (1, .int p3)] := hl
    refine lv_iload_n (pc := 4) hx hb dM_ownChunks_4 rfl (lv_at hl 0 rfl) ?_
    refine lv_aload_n (pc := 5) hx hb dM_ownChunks_5 rfl (lv_at hl 2 rfl) ?_
    obtain ⟨q6, hq6, eq6⟩ := at_4 (ad := ad) (ca := ca) (σ := σ) hm0
    refine va_get (D := (dC, dI)) (cl := kCl) (C := RM) (T := TM) (N := 11) (pc := 6) hx hb hts inM hown hK.1 hP q6 eq6 rfl 2 (by decide) (hts _ wd_51) (fun _ h9 => h9) rfl dM_ownChunks_6 ?_
    refine lv_iload_n (pc := 9) hx hb dM_ownChunks_9 rfl (lv_at hl 3 rfl) ?_
    refine lv_iconst (pc := 10) (v := 2) hx hb dM_ownChunks_10 (by decide) ?_
    refine lv_iadd (pc := 11) hx hb dM_ownChunks_11 ?_
    obtain ⟨hv7, hf⟩ := ite_s hf
    obtain ⟨q8, hq8, eq8⟩ := at_15 (ad := ad) (ca := ca) (σ := σ) (cm_4_2 hC hm0)
    refine va_iald (D := (dC, dI)) (cl := kCl) (pc := 12) hx hb (hK.2 15 0 .int (cm_4_2 hC hm0) rfl) hP q8 0 eq8 rfl (hv7) dM_ownChunks_12 ?_
    refine W.eq (g2 := F0 m 13 ls [.int (xI σ 15 0 ((p3 + 2)).toNatClampNeg), .int p1]) rfl ?_
    refine vp_callSi (pc := 13) (W.runS (As := [.int (xI σ 15 0 ((p3 + 2)).toNatClampNeg)]) (rest := [.int p1]) ⟨hx, hb, hml, hown, hts⟩ (t_M_parts l dC dI ad ca dom (xI σ 15 0 ((p3 + 2)).toNatClampNeg) σ hN hC (M_parts (xI σ 15 0 ((p3 + 2)).toNatClampNeg)) rfl) (cwS 1 hts (gS wd_105 wd_106 wd_50 wd_104) rfl rfl rfl (by decide +kernel) ⟨Nat.le_of_ble_eq_true rfl, Nat.le_of_ble_eq_true rfl⟩) ⟨hR_blind, hR_pre hP hK hG⟩ rfl rfl hl.1 rfl (lv_room (Nat.le_of_ble_eq_true rfl)) dM_ownChunks_13 ⟨Nat.le_of_ble_eq_true rfl, Nat.le_of_ble_eq_true rfl⟩) (fun r9 hr9 => ?_)
    refine W.eq (g2 := F0 m 16 ls [.int (M_parts (xI σ 15 0 ((p3 + 2)).toNatClampNeg)), .int p1]) (by rw [hr9]) ?_
    refine lv_icmp_ge (pc := 16) (tgt := 44) hx hb dM_ownChunks_16 rfl (fun h9 => ?_) (fun h9 => ?_)
    · replace hf := ite_t h9 hf
      have hl := lv_sub hl (l' := [(3, .int p1), (2, .int p2), (0, .ref (ad 4 0)), (1, .int p3)]) [0, 1, 2, 3] rfl
      exact hXkx4 (p1, p2, p3, ls) hl hf
    · replace hf := ite_f h9 hf
      refine lv_iload_n (pc := 19) hx hb dM_ownChunks_19 rfl (lv_at hl 1 rfl) ?_
      refine lv_aload_n (pc := 20) hx hb dM_ownChunks_20 rfl (lv_at hl 2 rfl) ?_
      refine lv_iload_n (pc := 21) hx hb dM_ownChunks_21 rfl (lv_at hl 3 rfl) ?_
      refine lv_iload_n (pc := 22) hx hb dM_ownChunks_22 rfl (lv_at hl 0 rfl) ?_
      refine lv_iload_n (pc := 23) hx hb dM_ownChunks_23 rfl (lv_at hl 3 rfl) ?_
      refine lv_iload_n (pc := 24) hx hb dM_ownChunks_24 rfl (lv_at hl 0 rfl) ?_
      obtain ⟨q10, hq10, eq10⟩ := at_4 (ad := ad) (ca := ca) (σ := σ) hm0
      obtain ⟨y11, hy11, hf⟩ := ob hf
      refine vp_callSi (pc := 25) (W.runV (As := [.int p3, .int p1, .int p3, .int p1]) (rest := [.int p2]) ⟨hx, hb, hml, hown, hts⟩ (t_M_stands l dC dI ad ca dom n σ p3 p1 p3 p1 hm0 hN hC y11 hy11) (cwV 4 hts (gV wd_108 wd_109 wd_110 wd_50 wd_107) rfl rfl rfl (by decide +kernel) ⟨Nat.le_of_ble_eq_true rfl, Nat.le_of_ble_eq_true rfl⟩) ⟨hR_blind, va_recv (q := (RM, TM, 11)) (q0 := q10) (ci := 4) hK.1 hP rfl eq10, hR_pre hP hK hG⟩ rfl rfl hl.1 rfl (lv_room (Nat.le_of_ble_eq_true rfl)) dM_ownChunks_25 ⟨Nat.le_of_ble_eq_true rfl, Nat.le_of_ble_eq_true rfl⟩) (fun r9 hr9 => ?_)
      refine W.eq (g2 := F0 m 28 ls [.int y11, .int p2]) (by rw [hr9]) ?_
      refine lv_if_eq (pc := 28) (tgt := 35) hx hb dM_ownChunks_28 rfl (fun h12 => ?_) (fun h12 => ?_)
      · replace hf := ite_t h12 hf
        refine lv_iconst (pc := 35) (v := 1) hx hb dM_ownChunks_35 (by decide) ?_
        refine lv_iadd (pc := 36) hx hb dM_ownChunks_36 ?_
        refine lv_istore_n (pc := 37) hx hb dM_ownChunks_37 rfl hl (by decide) rfl (fun ls hl => ?_)
        have hl : lv_has ls 4 [(2, .int (p2 + 1)), (3, .int p1), (0, .ref (ad 4 0)), (1, .int p3)] := hl
        refine lv_iinc (pc := 38) (v := (p1 + 1)) hx hb dM_ownChunks_38 hl (k := 1) rfl (by rfl) (by decide) rfl (fun ls hl => ?_)
        have hl : lv_has ls 4 [(3, .int (p1 + 1)), (2, .int (p2 + 1)), (0, .ref (ad 4 0)), (1, .int p3)] := hl
        refine lv_goto (pc := 41) (tgt := 4) hx hb dM_ownChunks_41 rfl ?_
        have hl := lv_sub hl (l' := [(3, .int (p1 + 1)), (2, .int (p2 + 1)), (0, .ref (ad 4 0)), (1, .int p3)]) [0, 1, 2, 3] rfl
        exact ih5 ((p1 + 1), (p2 + 1), p3, ls) hl hf
      · replace hf := ite_f h12 hf
        refine lv_iconst (pc := 31) (v := 0) hx hb dM_ownChunks_31 (by decide) ?_
        refine lv_goto (pc := 32) (tgt := 36) hx hb dM_ownChunks_32 rfl ?_
        refine lv_iadd (pc := 36) hx hb dM_ownChunks_36 ?_
        refine lv_istore_n (pc := 37) hx hb dM_ownChunks_37 rfl hl (by decide) rfl (fun ls hl => ?_)
        have hl : lv_has ls 4 [(2, .int (p2 + 0)), (3, .int p1), (0, .ref (ad 4 0)), (1, .int p3)] := hl
        refine lv_iinc (pc := 38) (v := (p1 + 1)) hx hb dM_ownChunks_38 hl (k := 1) rfl (by rfl) (by decide) rfl (fun ls hl => ?_)
        have hl : lv_has ls 4 [(3, .int (p1 + 1)), (2, .int (p2 + 0)), (0, .ref (ad 4 0)), (1, .int p3)] := hl
        refine lv_goto (pc := 41) (tgt := 4) hx hb dM_ownChunks_41 rfl ?_
        have hl := lv_sub hl (l' := [(3, .int (p1 + 1)), (2, .int (p2 + 0)), (0, .ref (ad 4 0)), (1, .int p3)]) [0, 1, 2, 3] rfl
        exact ih5 ((p1 + 1), (p2 + 0), p3, ls) hl hf
  · rintro ⟨p1, p2, p3, ls⟩ hl hf
    dsimp only at hl hf ⊢
    rw [hkx4] at hf
    have hl : lv_has ls 4 [(3, .int p1), (2, .int p2), (0, .ref (ad 4 0)), (1, .int p3)] := hl
    refine lv_iload_n (pc := 44) hx hb dM_ownChunks_44 rfl (lv_at hl 1 rfl) ?_
    exact W.iret (pc := 45) hx hb hr (fun t ht hW => ⟨_, rfl, (Option.some.inj hf), ht.trans hH⟩) (fun q h => nomatch h) dM_ownChunks_45
def M_chunks_L69 (n : Nat) (σ : hT) (kx33 : Int32 → Int32 → Int32 → Int32 → Int32 → Int32 → Int32 → Option (Int32)) : Nat → Int32 → Int32 → Int32 → Int32 → Int32 → Int32 → Int32 → Option (Int32)
  | 0, _, _, _, _, _, _, _ => none
  | k + 1, p26, p27, p28, p29, p30, p31, p32 => if p30 ≤ p26 then kx33 p26 p27 p28 p29 p30 p31 p32 else if p27 = 0 then Option.bind (M_contentAt σ p26) fun y38 => if y38 < 0 then M_chunks_L69 n σ kx33 k (p26 + 1) 0 p28 p29 p30 p31 p32 else lt9 (α := Int32 → Option (Int32)) (fun (s42 : Int32) => if in9 s42 25240 then Option.bind (M_stands n σ p29 p28 y38 (M_parts (xI σ 15 0 (s42).toNatClampNeg))) fun y47 => if y47 = 0 then M_chunks_L69 n σ kx33 k (p26 + 1) 0 p28 p29 p30 p31 p32 else M_chunks_L69 n σ kx33 k (p26 + 1) 1 p28 p29 p30 p31 p32 else none) fun x41 => if 0 ≤ y38 then x41 (y38 + 2) else x41 0 else kx33 p26 p27 p28 p29 p30 p31 p32
def M_chunks_L21 (n : Nat) (σ : hT) (kx14 : Int32 → Int32 → Int32 → Int32 → Int32 → Option (Int32)) : Nat → Int32 → Int32 → Int32 → Int32 → Int32 → Option (Int32)
  | 0, _, _, _, _, _ => none
  | k + 1, p9, p10, p11, p12, p13 => if p10 < 0 then kx14 p9 p10 p11 p12 p13 else lt9 (α := Int32 → Option (Int32)) (fun (s19 : Int32) => if in9 s19 25240 then if (M_parts (xI σ 15 0 (s19).toNatClampNeg)) ≤ p9 then kx14 p9 p10 p11 p12 p13 else Option.bind (M_stands n σ p10 p9 p10 p9) fun y25 => lt9 (α := Int32 → Int32 → Int32 → Int32 → Int32 → Int32 → Int32 → Option (Int32)) (fun (p26 : Int32) (p27 : Int32) (p28 : Int32) (p29 : Int32) (p30 : Int32) (p31 : Int32) (p32 : Int32) => if p27 = 0 then M_chunks_L21 n σ kx14 k (p28 + 1) p29 p30 (p31 + 1) p32 else M_chunks_L21 n σ kx14 k (p28 + 1) p29 p30 (p31 + 0) p32) fun kx33 => M_chunks_L69 n σ kx33 n p13 y25 p9 p10 p11 p12 p13 else none) fun x18 => if 0 ≤ p10 then x18 (p10 + 2) else x18 0
def M_chunks_L4 (n : Nat) (σ : hT) (kx4 : Int32 → Int32 → Int32 → Option (Int32)) : Nat → Int32 → Int32 → Int32 → Option (Int32)
  | 0, _, _, _ => none
  | k + 1, p1, p2, p3 => if 312 ≤ p1 then kx4 p1 p2 p3 else Option.bind (M_contentAt σ p1) fun y8 => lt9 (α := Int32 → Int32 → Int32 → Int32 → Int32 → Option (Int32)) (fun (p9 : Int32) (p10 : Int32) (p11 : Int32) (p12 : Int32) (p13 : Int32) => M_chunks_L4 n σ kx4 k (p11 + 1) p12 p13) fun kx14 => M_chunks_L21 n σ kx14 n 0 y8 p1 p2 p3
def M_chunks (n : Nat) (σ : hT) (a1 : Int32) : Option (Int32) := lt9 (α := Int32 → Int32 → Int32 → Option (Int32)) (fun (p1 : Int32) (p2 : Int32) (p3 : Int32) => some p2) fun kx4 => M_chunks_L4 n σ kx4 n a1 0 a1
set_option maxHeartbeats 4000000 in
set_option maxRecDepth 100000 in
theorem t_M_chunks (l : Launch) (dC : Nat → ClassId) (dI : Nat → Nat → Nat) (ad : Nat → Nat → Nat) (ca : Nat → Nat → ClassId) (dom : List (Nat × Nat)) (n : Nat) (σ : hT) (a1 : Int32) (hm0 : (4, 0) ∈ dom) (hN : dom.Nodup) (hC : clo dom σ.2.2) (ρ : Int32) (hf : M_chunks n σ a1 = some ρ) : Met l yM_chunks (.code yM_chunks cM_chunks 9 (some .int) :: aw) ({ frames := 4, cells := 0, slots := 0, locals := 86 }) (hR (dC, dI) ad ca dom σ [.ref (ad 4 0), .int a1]) (vp_Si (fun r => r = ρ)) 0 0 (fun _ => False) := by
  refine Met.ofW (cc := cM_chunks) (maxL := 9) (ret := (some .int)) (by decide) rfl ?_
  intro p e s m args below meth c s₁ B hml hv
  obtain ⟨rfl, hv⟩ := hv
  have hx := B.exec
  have hb := B.bytes
  have hr := B.returns
  have hts : ∀ w ∈ aw, w.before _ s = true := fun w h => atoms_spec (ws := (.code yM_chunks cM_chunks 9 (some .int) :: aw)) B.pre w (List.mem_cons_of_mem _ h)
  have hown : s.vm.findClass RM = some m.cls := findClass_of_methodNamed B.named
  have hlocks := B.notSynchronized
  obtain ⟨hP, hK, hG⟩ := hv
  obtain ⟨H, hH⟩ : ∃ H, H = s.heap := ⟨_, rfl⟩
  rw [← hH] at hP ⊢
  unfold M_chunks at hf
  have hl := lv_entry ([.ref (ad 4 0), .int a1]) (n := 9) (Nat.le_of_ble_eq_true rfl)
  rw [lg_entry_eq]
  generalize (lg_sl ([.ref (ad 4 0), .int a1]) ++ List.replicate (9 - (lg_sl ([.ref (ad 4 0), .int a1])).length) Slot.unset).toArray = ls at hl ⊢
  have hl : lv_has ls 9 [(0, .ref (ad 4 0)), (1, .int a1)] := hl
  refine lv_iconst (pc := 0) (v := 0) hx hb dM_chunks_0 (by decide) ?_
  refine lv_istore_n (pc := 1) hx hb dM_chunks_1 rfl hl (by decide) rfl (fun ls hl => ?_)
  have hl : lv_has ls 9 [(2, .int 0), (0, .ref (ad 4 0)), (1, .int a1)] := hl
  refine lv_iload_n (pc := 2) hx hb dM_chunks_2 rfl (lv_at hl 2 rfl) ?_
  refine lv_istore_n (pc := 3) hx hb dM_chunks_3 rfl hl (by decide) rfl (fun ls hl => ?_)
  have hl : lv_has ls 9 [(3, .int a1), (2, .int 0), (0, .ref (ad 4 0)), (1, .int a1)] := hl
  obtain ⟨kx4, hkx4, hf⟩ := lt_9 hf
  refine lpF (τ := (Int32) × (Int32) × (Int32) × (Array Slot)) (fun pc z => W p l e _ s m _ below meth c H ([]) 0 0 _ (F0 m pc z.2.2.2 [])) 4 165 (fun z => lv_has z.2.2.2 9 [(3, .int z.1), (2, .int z.2.1), (0, .ref (ad 4 0)), (1, .int z.2.2.1)]) (fun k z => M_chunks_L4 n σ kx4 k z.1 z.2.1 z.2.2.1) (fun z => kx4 z.1 z.2.1 z.2.2.1) _ (fun z => rfl) ?_ ?_ n (a1, 0, a1, ls) hl hf
  · rintro k ⟨p1, p2, p3, ls⟩ hl hf ih5 hXkx4
    dsimp only at hl hf ih5 hXkx4 ⊢
    unfold M_chunks_L4 at hf
    have hl : lv_has ls 9 [(3, .int p1), (2, .int p2), (0, .ref (ad 4 0)), (1, .int p3)] := hl
    refine lv_iload_n (pc := 4) hx hb dM_chunks_4 rfl (lv_at hl 0 rfl) ?_
    refine lv_sipush (pc := 5) (v := 312) hx hb dM_chunks_5 (by decide) ?_
    refine lv_icmp_ge (pc := 8) (tgt := 165) hx hb dM_chunks_8 rfl (fun h6 => ?_) (fun h6 => ?_)
    · replace hf := ite_t h6 hf
      have hl := lv_sub hl (l' := [(3, .int p1), (2, .int p2), (0, .ref (ad 4 0)), (1, .int p3)]) [0, 1, 2, 3] rfl
      exact hXkx4 (p1, p2, p3, ls) hl hf
    · replace hf := ite_f h6 hf
      refine lv_aload_n (pc := 11) hx hb dM_chunks_11 rfl (lv_at hl 2 rfl) ?_
      refine lv_iload_n (pc := 12) hx hb dM_chunks_12 rfl (lv_at hl 0 rfl) ?_
      obtain ⟨q7, hq7, eq7⟩ := at_4 (ad := ad) (ca := ca) (σ := σ) hm0
      obtain ⟨y8, hy8, hf⟩ := ob hf
      refine vp_callSi (pc := 13) (W.runV (As := [.int p1]) (rest := []) ⟨hx, hb, hml, hown, hts⟩ (t_M_contentAt l dC dI ad ca dom σ p1 hm0 hN hC y8 hy8) (cwV 1 hts (gV wd_112 wd_113 wd_114 wd_50 wd_111) rfl rfl rfl (by decide +kernel) ⟨Nat.le_of_ble_eq_true rfl, Nat.le_of_ble_eq_true rfl⟩) ⟨hR_blind, va_recv (q := (RM, TM, 11)) (q0 := q7) (ci := 4) hK.1 hP rfl eq7, hR_pre hP hK hG⟩ rfl rfl hl.1 rfl (lv_room (Nat.le_of_ble_eq_true rfl)) dM_chunks_13 ⟨Nat.le_of_ble_eq_true rfl, Nat.le_of_ble_eq_true rfl⟩) (fun r9 hr9 => ?_)
      refine W.eq (g2 := F0 m 16 ls [.int y8]) (by rw [hr9]) ?_
      refine lv_istore (pc := 16) hx hb dM_chunks_16 hl (by decide) rfl (fun ls hl => ?_)
      have hl : lv_has ls 9 [(4, .int y8), (3, .int p1), (2, .int p2), (0, .ref (ad 4 0)), (1, .int p3)] := hl
      refine lv_iconst (pc := 18) (v := 0) hx hb dM_chunks_18 (by decide) ?_
      refine lv_istore (pc := 19) hx hb dM_chunks_19 hl (by decide) rfl (fun ls hl => ?_)
      have hl : lv_has ls 9 [(5, .int 0), (4, .int y8), (3, .int p1), (2, .int p2), (0, .ref (ad 4 0)), (1, .int p3)] := hl
      obtain ⟨kx14, hkx14, hf⟩ := lt_9 hf
      refine lpF (τ := (Int32) × (Int32) × (Int32) × (Int32) × (Int32) × (Array Slot)) (fun pc z => W p l e _ s m _ below meth c H ([]) 0 0 _ (F0 m pc z.2.2.2.2.2 [])) 21 159 (fun z => lv_has z.2.2.2.2.2 9 [(5, .int z.1), (4, .int z.2.1), (3, .int z.2.2.1), (2, .int z.2.2.2.1), (0, .ref (ad 4 0)), (1, .int z.2.2.2.2.1)]) (fun k z => M_chunks_L21 n σ kx14 k z.1 z.2.1 z.2.2.1 z.2.2.2.1 z.2.2.2.2.1) (fun z => kx14 z.1 z.2.1 z.2.2.1 z.2.2.2.1 z.2.2.2.2.1) _ (fun z => rfl) ?_ ?_ n (0, y8, p1, p2, p3, ls) hl hf
      · rintro k ⟨p9, p10, p11, p12, p13, ls⟩ hl hf ih15 hXkx14
        dsimp only at hl hf ih15 hXkx14 ⊢
        unfold M_chunks_L21 at hf
        have hl : lv_has ls 9 [(5, .int p9), (4, .int p10), (3, .int p11), (2, .int p12), (0, .ref (ad 4 0)), (1, .int p13)] := hl
        refine lv_iload (pc := 21) hx hb dM_chunks_21 (lv_at hl 1 rfl) ?_
        refine lv_if_lt (pc := 23) (tgt := 159) hx hb dM_chunks_23 rfl (fun h16 => ?_) (fun h16 => ?_)
        · replace hf := ite_t h16 hf
          have hl := lv_sub hl (l' := [(5, .int p9), (4, .int p10), (3, .int p11), (2, .int p12), (0, .ref (ad 4 0)), (1, .int p13)]) [0, 1, 2, 3, 4, 5] rfl
          exact hXkx14 (p9, p10, p11, p12, p13, ls) hl hf
        · replace hf := ite_f h16 hf
          refine lv_iload (pc := 26) hx hb dM_chunks_26 (lv_at hl 0 rfl) ?_
          refine lv_aload_n (pc := 28) hx hb dM_chunks_28 rfl (lv_at hl 4 rfl) ?_
          obtain ⟨q17, hq17, eq17⟩ := at_4 (ad := ad) (ca := ca) (σ := σ) hm0
          refine va_get (D := (dC, dI)) (cl := kCl) (C := RM) (T := TM) (N := 11) (pc := 29) hx hb hts inM hown hK.1 hP q17 eq17 rfl 2 (by decide) (hts _ wd_51) (fun _ h9 => h9) rfl dM_chunks_29 ?_
          refine lv_iload (pc := 32) hx hb dM_chunks_32 (lv_at hl 1 rfl) ?_
          obtain ⟨x18, hx18, hf⟩ := lt_9 hf
          refine jnF (τ := (Int32) × (Array Slot)) (fun pc st z => W p l e _ s m _ below meth c H ([]) 0 0 _ (F0 m pc z.2 st)) (pc0 := 34) (st0 := [.int p10, .ref (ad 15 0), .int p9]) (z0 := (0, ls)) 45 (fun z => [.int z.1, .ref (ad 15 0), .int p9]) (fun z => lv_has z.2 9 [(5, .int p9), (4, .int p10), (3, .int p11), (2, .int p12), (0, .ref (ad 4 0)), (1, .int p13)]) (fun z => x18 z.1) ρ ?_ ?_
          · intro hJx18
            dsimp only at hJx18 ⊢
            refine lv_if_ge (pc := 34) (tgt := 41) hx hb dM_chunks_34 rfl (fun h20 => ?_) (fun h20 => ?_)
            · replace hf := ite_t h20 hf
              refine lv_iload (pc := 41) hx hb dM_chunks_41 (lv_at hl 1 rfl) ?_
              refine lv_iconst (pc := 43) (v := 2) hx hb dM_chunks_43 (by decide) ?_
              refine lv_iadd (pc := 44) hx hb dM_chunks_44 ?_
              have hl := lv_sub hl (l' := [(5, .int p9), (4, .int p10), (3, .int p11), (2, .int p12), (0, .ref (ad 4 0)), (1, .int p13)]) [0, 1, 2, 3, 4, 5] rfl
              exact hJx18 ((p10 + 2), ls) hl hf
            · replace hf := ite_f h20 hf
              refine lv_iconst (pc := 37) (v := 0) hx hb dM_chunks_37 (by decide) ?_
              refine lv_goto (pc := 38) (tgt := 45) hx hb dM_chunks_38 rfl ?_
              have hl := lv_sub hl (l' := [(5, .int p9), (4, .int p10), (3, .int p11), (2, .int p12), (0, .ref (ad 4 0)), (1, .int p13)]) [0, 1, 2, 3, 4, 5] rfl
              exact hJx18 (0, ls) hl hf
          · rintro ⟨s19, ls⟩ hl hf
            dsimp only at hl hf ⊢
            rw [hx18] at hf
            have hl : lv_has ls 9 [(5, .int p9), (4, .int p10), (3, .int p11), (2, .int p12), (0, .ref (ad 4 0)), (1, .int p13)] := hl
            obtain ⟨hv21, hf⟩ := ite_s hf
            obtain ⟨q22, hq22, eq22⟩ := at_15 (ad := ad) (ca := ca) (σ := σ) (cm_4_2 hC hm0)
            refine va_iald (D := (dC, dI)) (cl := kCl) (pc := 45) hx hb (hK.2 15 0 .int (cm_4_2 hC hm0) rfl) hP q22 0 eq22 rfl (hv21) dM_chunks_45 ?_
            refine W.eq (g2 := F0 m 46 ls [.int (xI σ 15 0 (s19).toNatClampNeg), .int p9]) rfl ?_
            refine vp_callSi (pc := 46) (W.runS (As := [.int (xI σ 15 0 (s19).toNatClampNeg)]) (rest := [.int p9]) ⟨hx, hb, hml, hown, hts⟩ (t_M_parts l dC dI ad ca dom (xI σ 15 0 (s19).toNatClampNeg) σ hN hC (M_parts (xI σ 15 0 (s19).toNatClampNeg)) rfl) (cwS 1 hts (gS wd_105 wd_106 wd_50 wd_104) rfl rfl rfl (by decide +kernel) ⟨Nat.le_of_ble_eq_true rfl, Nat.le_of_ble_eq_true rfl⟩) ⟨hR_blind, hR_pre hP hK hG⟩ rfl rfl hl.1 rfl (lv_room (Nat.le_of_ble_eq_true rfl)) dM_chunks_46 ⟨Nat.le_of_ble_eq_true rfl, Nat.le_of_ble_eq_true rfl⟩) (fun r9 hr9 => ?_)
            refine W.eq (g2 := F0 m 49 ls [.int (M_parts (xI σ 15 0 (s19).toNatClampNeg)), .int p9]) (by rw [hr9]) ?_
            refine lv_icmp_ge (pc := 49) (tgt := 159) hx hb dM_chunks_49 rfl (fun h23 => ?_) (fun h23 => ?_)
            · replace hf := ite_t h23 hf
              have hl := lv_sub hl (l' := [(5, .int p9), (4, .int p10), (3, .int p11), (2, .int p12), (0, .ref (ad 4 0)), (1, .int p13)]) [0, 1, 2, 3, 4, 5] rfl
              exact hXkx14 (p9, p10, p11, p12, p13, ls) hl hf
            · replace hf := ite_f h23 hf
              refine lv_aload_n (pc := 52) hx hb dM_chunks_52 rfl (lv_at hl 4 rfl) ?_
              refine lv_iload (pc := 53) hx hb dM_chunks_53 (lv_at hl 1 rfl) ?_
              refine lv_iload (pc := 55) hx hb dM_chunks_55 (lv_at hl 0 rfl) ?_
              refine lv_iload (pc := 57) hx hb dM_chunks_57 (lv_at hl 1 rfl) ?_
              refine lv_iload (pc := 59) hx hb dM_chunks_59 (lv_at hl 0 rfl) ?_
              obtain ⟨q24, hq24, eq24⟩ := at_4 (ad := ad) (ca := ca) (σ := σ) hm0
              obtain ⟨y25, hy25, hf⟩ := ob hf
              refine vp_callSi (pc := 61) (W.runV (As := [.int p10, .int p9, .int p10, .int p9]) (rest := []) ⟨hx, hb, hml, hown, hts⟩ (t_M_stands l dC dI ad ca dom n σ p10 p9 p10 p9 hm0 hN hC y25 hy25) (cwV 4 hts (gV wd_108 wd_109 wd_110 wd_50 wd_107) rfl rfl rfl (by decide +kernel) ⟨Nat.le_of_ble_eq_true rfl, Nat.le_of_ble_eq_true rfl⟩) ⟨hR_blind, va_recv (q := (RM, TM, 11)) (q0 := q24) (ci := 4) hK.1 hP rfl eq24, hR_pre hP hK hG⟩ rfl rfl hl.1 rfl (lv_room (Nat.le_of_ble_eq_true rfl)) dM_chunks_61 ⟨Nat.le_of_ble_eq_true rfl, Nat.le_of_ble_eq_true rfl⟩) (fun r9 hr9 => ?_)
              refine W.eq (g2 := F0 m 64 ls [.int y25]) (by rw [hr9]) ?_
              refine lv_istore (pc := 64) hx hb dM_chunks_64 hl (by decide) rfl (fun ls hl => ?_)
              have hl : lv_has ls 9 [(6, .int y25), (5, .int p9), (4, .int p10), (3, .int p11), (2, .int p12), (0, .ref (ad 4 0)), (1, .int p13)] := hl
              refine lv_iload_n (pc := 66) hx hb dM_chunks_66 rfl (lv_at hl 6 rfl) ?_
              refine lv_istore (pc := 67) hx hb dM_chunks_67 hl (by decide) rfl (fun ls hl => ?_)
              have hl : lv_has ls 9 [(7, .int p13), (6, .int y25), (5, .int p9), (4, .int p10), (3, .int p11), (2, .int p12), (0, .ref (ad 4 0)), (1, .int p13)] := hl
              obtain ⟨kx33, hkx33, hf⟩ := lt_9 hf
              refine lpF (τ := (Int32) × (Int32) × (Int32) × (Int32) × (Int32) × (Int32) × (Int32) × (Array Slot)) (fun pc z => W p l e _ s m _ below meth c H ([]) 0 0 _ (F0 m pc z.2.2.2.2.2.2.2 [])) 69 140 (fun z => lv_has z.2.2.2.2.2.2.2 9 [(7, .int z.1), (6, .int z.2.1), (5, .int z.2.2.1), (4, .int z.2.2.2.1), (3, .int z.2.2.2.2.1), (2, .int z.2.2.2.2.2.1), (0, .ref (ad 4 0)), (1, .int z.2.2.2.2.2.2.1)]) (fun k z => M_chunks_L69 n σ kx33 k z.1 z.2.1 z.2.2.1 z.2.2.2.1 z.2.2.2.2.1 z.2.2.2.2.2.1 z.2.2.2.2.2.2.1) (fun z => kx33 z.1 z.2.1 z.2.2.1 z.2.2.2.1 z.2.2.2.2.1 z.2.2.2.2.2.1 z.2.2.2.2.2.2.1) _ (fun z => rfl) ?_ ?_ n (p13, y25, p9, p10, p11, p12, p13, ls) hl hf
              · rintro k ⟨p26, p27, p28, p29, p30, p31, p32, ls⟩ hl hf ih34 hXkx33
                dsimp only at hl hf ih34 hXkx33 ⊢
                unfold M_chunks_L69 at hf
                have hl : lv_has ls 9 [(7, .int p26), (6, .int p27), (5, .int p28), (4, .int p29), (3, .int p30), (2, .int p31), (0, .ref (ad 4 0)), (1, .int p32)] := hl
                refine lv_iload (pc := 69) hx hb dM_chunks_69 (lv_at hl 0 rfl) ?_
                refine lv_iload_n (pc := 71) hx hb dM_chunks_71 rfl (lv_at hl 4 rfl) ?_
                refine lv_icmp_ge (pc := 72) (tgt := 140) hx hb dM_chunks_72 rfl (fun h35 => ?_) (fun h35 => ?_)
                · replace hf := ite_t h35 hf
                  have hl := lv_sub hl (l' := [(7, .int p26), (6, .int p27), (5, .int p28), (4, .int p29), (3, .int p30), (2, .int p31), (0, .ref (ad 4 0)), (1, .int p32)]) [0, 1, 2, 3, 4, 5, 6, 7] rfl
                  exact hXkx33 (p26, p27, p28, p29, p30, p31, p32, ls) hl hf
                · replace hf := ite_f h35 hf
                  refine lv_iload (pc := 75) hx hb dM_chunks_75 (lv_at hl 1 rfl) ?_
                  refine lv_if_ne (pc := 77) (tgt := 140) hx hb dM_chunks_77 rfl (fun h36 => ?_) (fun h36 => ?_)
                  · replace hf := ite_f h36 hf
                    have hl := lv_sub hl (l' := [(7, .int p26), (6, .int p27), (5, .int p28), (4, .int p29), (3, .int p30), (2, .int p31), (0, .ref (ad 4 0)), (1, .int p32)]) [0, 1, 2, 3, 4, 5, 6, 7] rfl
                    exact hXkx33 (p26, p27, p28, p29, p30, p31, p32, ls) hl hf
                  · replace hf := ite_t h36 hf
                    refine lv_aload_n (pc := 80) hx hb dM_chunks_80 rfl (lv_at hl 6 rfl) ?_
                    refine lv_iload (pc := 81) hx hb dM_chunks_81 (lv_at hl 0 rfl) ?_
                    obtain ⟨q37, hq37, eq37⟩ := at_4 (ad := ad) (ca := ca) (σ := σ) hm0
                    obtain ⟨y38, hy38, hf⟩ := ob hf
                    refine vp_callSi (pc := 83) (W.runV (As := [.int p26]) (rest := []) ⟨hx, hb, hml, hown, hts⟩ (t_M_contentAt l dC dI ad ca dom σ p26 hm0 hN hC y38 hy38) (cwV 1 hts (gV wd_112 wd_113 wd_114 wd_50 wd_111) rfl rfl rfl (by decide +kernel) ⟨Nat.le_of_ble_eq_true rfl, Nat.le_of_ble_eq_true rfl⟩) ⟨hR_blind, va_recv (q := (RM, TM, 11)) (q0 := q37) (ci := 4) hK.1 hP rfl eq37, hR_pre hP hK hG⟩ rfl rfl hl.1 rfl (lv_room (Nat.le_of_ble_eq_true rfl)) dM_chunks_83 ⟨Nat.le_of_ble_eq_true rfl, Nat.le_of_ble_eq_true rfl⟩) (fun r9 hr9 => ?_)
                    refine W.eq (g2 := F0 m 86 ls [.int y38]) (by rw [hr9]) ?_
                    refine lv_istore (pc := 86) hx hb dM_chunks_86 hl (by decide) rfl (fun ls hl => ?_)
                    have hl : lv_has ls 9 [(8, .int y38), (7, .int p26), (6, .int p27), (5, .int p28), (4, .int p29), (3, .int p30), (2, .int p31), (0, .ref (ad 4 0)), (1, .int p32)] := hl
                    refine lv_iload (pc := 88) hx hb dM_chunks_88 (lv_at hl 0 rfl) ?_
                    refine lv_if_lt (pc := 90) (tgt := 131) hx hb dM_chunks_90 rfl (fun h39 => ?_) (fun h39 => ?_)
                    · replace hf := ite_t h39 hf
                      refine lv_iconst (pc := 131) (v := 0) hx hb dM_chunks_131 (by decide) ?_
                      refine lv_istore (pc := 132) hx hb dM_chunks_132 hl (by decide) rfl (fun ls hl => ?_)
                      have hl : lv_has ls 9 [(6, .int 0), (8, .int y38), (7, .int p26), (5, .int p28), (4, .int p29), (3, .int p30), (2, .int p31), (0, .ref (ad 4 0)), (1, .int p32)] := hl
                      refine lv_iinc (pc := 134) (v := (p26 + 1)) hx hb dM_chunks_134 hl (k := 2) rfl (by rfl) (by decide) rfl (fun ls hl => ?_)
                      have hl : lv_has ls 9 [(7, .int (p26 + 1)), (6, .int 0), (8, .int y38), (5, .int p28), (4, .int p29), (3, .int p30), (2, .int p31), (0, .ref (ad 4 0)), (1, .int p32)] := hl
                      refine lv_goto (pc := 137) (tgt := 69) hx hb dM_chunks_137 rfl ?_
                      have hl := lv_sub hl (l' := [(7, .int (p26 + 1)), (6, .int 0), (5, .int p28), (4, .int p29), (3, .int p30), (2, .int p31), (0, .ref (ad 4 0)), (1, .int p32)]) [0, 1, 3, 4, 5, 6, 7, 8] rfl
                      exact ih34 ((p26 + 1), 0, p28, p29, p30, p31, p32, ls) hl hf
                    · replace hf := ite_f h39 hf
                      refine lv_aload_n (pc := 93) hx hb dM_chunks_93 rfl (lv_at hl 7 rfl) ?_
                      refine lv_iload (pc := 94) hx hb dM_chunks_94 (lv_at hl 4 rfl) ?_
                      refine lv_iload (pc := 96) hx hb dM_chunks_96 (lv_at hl 3 rfl) ?_
                      refine lv_iload (pc := 98) hx hb dM_chunks_98 (lv_at hl 0 rfl) ?_
                      refine lv_aload_n (pc := 100) hx hb dM_chunks_100 rfl (lv_at hl 7 rfl) ?_
                      obtain ⟨q40, hq40, eq40⟩ := at_4 (ad := ad) (ca := ca) (σ := σ) hm0
                      refine va_get (D := (dC, dI)) (cl := kCl) (C := RM) (T := TM) (N := 11) (pc := 101) hx hb hts inM hown hK.1 hP q40 eq40 rfl 2 (by decide) (hts _ wd_51) (fun _ h9 => h9) rfl dM_chunks_101 ?_
                      refine lv_iload (pc := 104) hx hb dM_chunks_104 (lv_at hl 0 rfl) ?_
                      obtain ⟨x41, hx41, hf⟩ := lt_9 hf
                      refine jnF (τ := (Int32) × (Array Slot)) (fun pc st z => W p l e _ s m _ below meth c H ([]) 0 0 _ (F0 m pc z.2 st)) (pc0 := 106) (st0 := [.int y38, .ref (ad 15 0), .int y38, .int p28, .int p29, .ref (ad 4 0)]) (z0 := (0, ls)) 117 (fun z => [.int z.1, .ref (ad 15 0), .int y38, .int p28, .int p29, .ref (ad 4 0)]) (fun z => lv_has z.2 9 [(8, .int y38), (7, .int p26), (6, .int p27), (5, .int p28), (4, .int p29), (3, .int p30), (2, .int p31), (0, .ref (ad 4 0)), (1, .int p32)]) (fun z => x41 z.1) ρ ?_ ?_
                      · intro hJx41
                        dsimp only at hJx41 ⊢
                        refine lv_if_ge (pc := 106) (tgt := 113) hx hb dM_chunks_106 rfl (fun h43 => ?_) (fun h43 => ?_)
                        · replace hf := ite_t h43 hf
                          refine lv_iload (pc := 113) hx hb dM_chunks_113 (lv_at hl 0 rfl) ?_
                          refine lv_iconst (pc := 115) (v := 2) hx hb dM_chunks_115 (by decide) ?_
                          refine lv_iadd (pc := 116) hx hb dM_chunks_116 ?_
                          have hl := lv_sub hl (l' := [(8, .int y38), (7, .int p26), (6, .int p27), (5, .int p28), (4, .int p29), (3, .int p30), (2, .int p31), (0, .ref (ad 4 0)), (1, .int p32)]) [0, 1, 2, 3, 4, 5, 6, 7, 8] rfl
                          exact hJx41 ((y38 + 2), ls) hl hf
                        · replace hf := ite_f h43 hf
                          refine lv_iconst (pc := 109) (v := 0) hx hb dM_chunks_109 (by decide) ?_
                          refine lv_goto (pc := 110) (tgt := 117) hx hb dM_chunks_110 rfl ?_
                          have hl := lv_sub hl (l' := [(8, .int y38), (7, .int p26), (6, .int p27), (5, .int p28), (4, .int p29), (3, .int p30), (2, .int p31), (0, .ref (ad 4 0)), (1, .int p32)]) [0, 1, 2, 3, 4, 5, 6, 7, 8] rfl
                          exact hJx41 (0, ls) hl hf
                      · rintro ⟨s42, ls⟩ hl hf
                        dsimp only at hl hf ⊢
                        rw [hx41] at hf
                        have hl : lv_has ls 9 [(8, .int y38), (7, .int p26), (6, .int p27), (5, .int p28), (4, .int p29), (3, .int p30), (2, .int p31), (0, .ref (ad 4 0)), (1, .int p32)] := hl
                        obtain ⟨hv44, hf⟩ := ite_s hf
                        obtain ⟨q45, hq45, eq45⟩ := at_15 (ad := ad) (ca := ca) (σ := σ) (cm_4_2 hC hm0)
                        refine va_iald (D := (dC, dI)) (cl := kCl) (pc := 117) hx hb (hK.2 15 0 .int (cm_4_2 hC hm0) rfl) hP q45 0 eq45 rfl (hv44) dM_chunks_117 ?_
                        refine W.eq (g2 := F0 m 118 ls [.int (xI σ 15 0 (s42).toNatClampNeg), .int y38, .int p28, .int p29, .ref (ad 4 0)]) rfl ?_
                        refine vp_callSi (pc := 118) (W.runS (As := [.int (xI σ 15 0 (s42).toNatClampNeg)]) (rest := [.int y38, .int p28, .int p29, .ref (ad 4 0)]) ⟨hx, hb, hml, hown, hts⟩ (t_M_parts l dC dI ad ca dom (xI σ 15 0 (s42).toNatClampNeg) σ hN hC (M_parts (xI σ 15 0 (s42).toNatClampNeg)) rfl) (cwS 1 hts (gS wd_105 wd_106 wd_50 wd_104) rfl rfl rfl (by decide +kernel) ⟨Nat.le_of_ble_eq_true rfl, Nat.le_of_ble_eq_true rfl⟩) ⟨hR_blind, hR_pre hP hK hG⟩ rfl rfl hl.1 rfl (lv_room (Nat.le_of_ble_eq_true rfl)) dM_chunks_118 ⟨Nat.le_of_ble_eq_true rfl, Nat.le_of_ble_eq_true rfl⟩) (fun r9 hr9 => ?_)
                        refine W.eq (g2 := F0 m 121 ls [.int (M_parts (xI σ 15 0 (s42).toNatClampNeg)), .int y38, .int p28, .int p29, .ref (ad 4 0)]) (by rw [hr9]) ?_
                        obtain ⟨q46, hq46, eq46⟩ := at_4 (ad := ad) (ca := ca) (σ := σ) hm0
                        obtain ⟨y47, hy47, hf⟩ := ob hf
                        refine vp_callSi (pc := 121) (W.runV (As := [.int p29, .int p28, .int y38, .int (M_parts (xI σ 15 0 (s42).toNatClampNeg))]) (rest := []) ⟨hx, hb, hml, hown, hts⟩ (t_M_stands l dC dI ad ca dom n σ p29 p28 y38 (M_parts (xI σ 15 0 (s42).toNatClampNeg)) hm0 hN hC y47 hy47) (cwV 4 hts (gV wd_108 wd_109 wd_110 wd_50 wd_107) rfl rfl rfl (by decide +kernel) ⟨Nat.le_of_ble_eq_true rfl, Nat.le_of_ble_eq_true rfl⟩) ⟨hR_blind, va_recv (q := (RM, TM, 11)) (q0 := q46) (ci := 4) hK.1 hP rfl eq46, hR_pre hP hK hG⟩ rfl rfl hl.1 rfl (lv_room (Nat.le_of_ble_eq_true rfl)) dM_chunks_121 ⟨Nat.le_of_ble_eq_true rfl, Nat.le_of_ble_eq_true rfl⟩) (fun r9 hr9 => ?_)
                        refine W.eq (g2 := F0 m 124 ls [.int y47]) (by rw [hr9]) ?_
                        refine lv_if_eq (pc := 124) (tgt := 131) hx hb dM_chunks_124 rfl (fun h48 => ?_) (fun h48 => ?_)
                        · replace hf := ite_t h48 hf
                          refine lv_iconst (pc := 131) (v := 0) hx hb dM_chunks_131 (by decide) ?_
                          refine lv_istore (pc := 132) hx hb dM_chunks_132 hl (by decide) rfl (fun ls hl => ?_)
                          have hl : lv_has ls 9 [(6, .int 0), (8, .int y38), (7, .int p26), (5, .int p28), (4, .int p29), (3, .int p30), (2, .int p31), (0, .ref (ad 4 0)), (1, .int p32)] := hl
                          refine lv_iinc (pc := 134) (v := (p26 + 1)) hx hb dM_chunks_134 hl (k := 2) rfl (by rfl) (by decide) rfl (fun ls hl => ?_)
                          have hl : lv_has ls 9 [(7, .int (p26 + 1)), (6, .int 0), (8, .int y38), (5, .int p28), (4, .int p29), (3, .int p30), (2, .int p31), (0, .ref (ad 4 0)), (1, .int p32)] := hl
                          refine lv_goto (pc := 137) (tgt := 69) hx hb dM_chunks_137 rfl ?_
                          have hl := lv_sub hl (l' := [(7, .int (p26 + 1)), (6, .int 0), (5, .int p28), (4, .int p29), (3, .int p30), (2, .int p31), (0, .ref (ad 4 0)), (1, .int p32)]) [0, 1, 3, 4, 5, 6, 7, 8] rfl
                          exact ih34 ((p26 + 1), 0, p28, p29, p30, p31, p32, ls) hl hf
                        · replace hf := ite_f h48 hf
                          refine lv_iconst (pc := 127) (v := 1) hx hb dM_chunks_127 (by decide) ?_
                          refine lv_goto (pc := 128) (tgt := 132) hx hb dM_chunks_128 rfl ?_
                          refine lv_istore (pc := 132) hx hb dM_chunks_132 hl (by decide) rfl (fun ls hl => ?_)
                          have hl : lv_has ls 9 [(6, .int 1), (8, .int y38), (7, .int p26), (5, .int p28), (4, .int p29), (3, .int p30), (2, .int p31), (0, .ref (ad 4 0)), (1, .int p32)] := hl
                          refine lv_iinc (pc := 134) (v := (p26 + 1)) hx hb dM_chunks_134 hl (k := 2) rfl (by rfl) (by decide) rfl (fun ls hl => ?_)
                          have hl : lv_has ls 9 [(7, .int (p26 + 1)), (6, .int 1), (8, .int y38), (5, .int p28), (4, .int p29), (3, .int p30), (2, .int p31), (0, .ref (ad 4 0)), (1, .int p32)] := hl
                          refine lv_goto (pc := 137) (tgt := 69) hx hb dM_chunks_137 rfl ?_
                          have hl := lv_sub hl (l' := [(7, .int (p26 + 1)), (6, .int 1), (5, .int p28), (4, .int p29), (3, .int p30), (2, .int p31), (0, .ref (ad 4 0)), (1, .int p32)]) [0, 1, 3, 4, 5, 6, 7, 8] rfl
                          exact ih34 ((p26 + 1), 1, p28, p29, p30, p31, p32, ls) hl hf
              · rintro ⟨p26, p27, p28, p29, p30, p31, p32, ls⟩ hl hf
                dsimp only at hl hf ⊢
                rw [hkx33] at hf
                have hl : lv_has ls 9 [(7, .int p26), (6, .int p27), (5, .int p28), (4, .int p29), (3, .int p30), (2, .int p31), (0, .ref (ad 4 0)), (1, .int p32)] := hl
                refine lv_iload_n (pc := 140) hx hb dM_chunks_140 rfl (lv_at hl 5 rfl) ?_
                refine lv_iload (pc := 141) hx hb dM_chunks_141 (lv_at hl 1 rfl) ?_
                refine lv_if_eq (pc := 143) (tgt := 150) hx hb dM_chunks_143 rfl (fun h49 => ?_) (fun h49 => ?_)
                · replace hf := ite_t h49 hf
                  refine lv_iconst (pc := 150) (v := 1) hx hb dM_chunks_150 (by decide) ?_
                  refine lv_iadd (pc := 151) hx hb dM_chunks_151 ?_
                  refine lv_istore_n (pc := 152) hx hb dM_chunks_152 rfl hl (by decide) rfl (fun ls hl => ?_)
                  have hl : lv_has ls 9 [(2, .int (p31 + 1)), (7, .int p26), (6, .int p27), (5, .int p28), (4, .int p29), (3, .int p30), (0, .ref (ad 4 0)), (1, .int p32)] := hl
                  refine lv_iinc (pc := 153) (v := (p28 + 1)) hx hb dM_chunks_153 hl (k := 3) rfl (by rfl) (by decide) rfl (fun ls hl => ?_)
                  have hl : lv_has ls 9 [(5, .int (p28 + 1)), (2, .int (p31 + 1)), (7, .int p26), (6, .int p27), (4, .int p29), (3, .int p30), (0, .ref (ad 4 0)), (1, .int p32)] := hl
                  refine lv_goto (pc := 156) (tgt := 21) hx hb dM_chunks_156 rfl ?_
                  have hl := lv_sub hl (l' := [(5, .int (p28 + 1)), (4, .int p29), (3, .int p30), (2, .int (p31 + 1)), (0, .ref (ad 4 0)), (1, .int p32)]) [0, 4, 5, 1, 6, 7] rfl
                  exact ih15 ((p28 + 1), p29, p30, (p31 + 1), p32, ls) hl hf
                · replace hf := ite_f h49 hf
                  refine lv_iconst (pc := 146) (v := 0) hx hb dM_chunks_146 (by decide) ?_
                  refine lv_goto (pc := 147) (tgt := 151) hx hb dM_chunks_147 rfl ?_
                  refine lv_iadd (pc := 151) hx hb dM_chunks_151 ?_
                  refine lv_istore_n (pc := 152) hx hb dM_chunks_152 rfl hl (by decide) rfl (fun ls hl => ?_)
                  have hl : lv_has ls 9 [(2, .int (p31 + 0)), (7, .int p26), (6, .int p27), (5, .int p28), (4, .int p29), (3, .int p30), (0, .ref (ad 4 0)), (1, .int p32)] := hl
                  refine lv_iinc (pc := 153) (v := (p28 + 1)) hx hb dM_chunks_153 hl (k := 3) rfl (by rfl) (by decide) rfl (fun ls hl => ?_)
                  have hl : lv_has ls 9 [(5, .int (p28 + 1)), (2, .int (p31 + 0)), (7, .int p26), (6, .int p27), (4, .int p29), (3, .int p30), (0, .ref (ad 4 0)), (1, .int p32)] := hl
                  refine lv_goto (pc := 156) (tgt := 21) hx hb dM_chunks_156 rfl ?_
                  have hl := lv_sub hl (l' := [(5, .int (p28 + 1)), (4, .int p29), (3, .int p30), (2, .int (p31 + 0)), (0, .ref (ad 4 0)), (1, .int p32)]) [0, 4, 5, 1, 6, 7] rfl
                  exact ih15 ((p28 + 1), p29, p30, (p31 + 0), p32, ls) hl hf
      · rintro ⟨p9, p10, p11, p12, p13, ls⟩ hl hf
        dsimp only at hl hf ⊢
        rw [hkx14] at hf
        have hl : lv_has ls 9 [(5, .int p9), (4, .int p10), (3, .int p11), (2, .int p12), (0, .ref (ad 4 0)), (1, .int p13)] := hl
        refine lv_iinc (pc := 159) (v := (p11 + 1)) hx hb dM_chunks_159 hl (k := 2) rfl (by rfl) (by decide) rfl (fun ls hl => ?_)
        have hl : lv_has ls 9 [(3, .int (p11 + 1)), (5, .int p9), (4, .int p10), (2, .int p12), (0, .ref (ad 4 0)), (1, .int p13)] := hl
        refine lv_goto (pc := 162) (tgt := 4) hx hb dM_chunks_162 rfl ?_
        have hl := lv_sub hl (l' := [(3, .int (p11 + 1)), (2, .int p12), (0, .ref (ad 4 0)), (1, .int p13)]) [0, 3, 4, 5] rfl
        exact ih5 ((p11 + 1), p12, p13, ls) hl hf
  · rintro ⟨p1, p2, p3, ls⟩ hl hf
    dsimp only at hl hf ⊢
    rw [hkx4] at hf
    have hl : lv_has ls 9 [(3, .int p1), (2, .int p2), (0, .ref (ad 4 0)), (1, .int p3)] := hl
    refine lv_iload_n (pc := 165) hx hb dM_chunks_165 rfl (lv_at hl 1 rfl) ?_
    exact W.iret (pc := 166) hx hb hr (fun t ht hW => ⟨_, rfl, (Option.some.inj hf), ht.trans hH⟩) (fun q h => nomatch h) dM_chunks_166
def M_least (a0 : Int32) (a1 : Int32) (a2 : Int32) : Int32 := if a0 = 0 then a2 else if a2 = 0 then a1 else if a2 ≤ a1 then a2 else a1
set_option maxHeartbeats 4000000 in
set_option maxRecDepth 100000 in
theorem t_M_least (l : Launch) (dC : Nat → ClassId) (dI : Nat → Nat → Nat) (ad : Nat → Nat → Nat) (ca : Nat → Nat → ClassId) (dom : List (Nat × Nat)) (a0 : Int32) (a1 : Int32) (a2 : Int32) (σ : hT) (hN : dom.Nodup) (hC : clo dom σ.2.2) (ρ : Int32) (hf : M_least a0 a1 a2 = ρ) : Met l yM_least (.code yM_least cM_least 3 (some .int) :: aw) ({ frames := 0, cells := 0, slots := 0, locals := 0 }) (hR (dC, dI) ad ca dom σ [.int a0, .int a1, .int a2]) (vp_Si (fun r => r = ρ)) 0 0 (fun _ => False) := by
  refine Met.ofW (cc := cM_least) (maxL := 3) (ret := (some .int)) (by decide) rfl ?_
  intro p e s m args below meth c s₁ B hml hv
  obtain ⟨rfl, hv⟩ := hv
  have hx := B.exec
  have hb := B.bytes
  have hr := B.returns
  have hts : ∀ w ∈ aw, w.before _ s = true := fun w h => atoms_spec (ws := (.code yM_least cM_least 3 (some .int) :: aw)) B.pre w (List.mem_cons_of_mem _ h)
  have hown : s.vm.findClass RM = some m.cls := findClass_of_methodNamed B.named
  have hlocks := B.notSynchronized
  obtain ⟨hP, hK, hG⟩ := hv
  obtain ⟨H, hH⟩ : ∃ H, H = s.heap := ⟨_, rfl⟩
  rw [← hH] at hP ⊢
  unfold M_least at hf
  have hl := lv_entry ([.int a0, .int a1, .int a2]) (n := 3) (Nat.le_of_ble_eq_true rfl)
  rw [lg_entry_eq]
  generalize (lg_sl ([.int a0, .int a1, .int a2]) ++ List.replicate (3 - (lg_sl ([.int a0, .int a1, .int a2])).length) Slot.unset).toArray = ls at hl ⊢
  have hl : lv_has ls 3 [(0, .int a0), (1, .int a1), (2, .int a2)] := hl
  refine lv_iload_n (pc := 0) hx hb dM_least_0 rfl (lv_at hl 0 rfl) ?_
  refine lv_if_eq (pc := 1) (tgt := 17) hx hb dM_least_1 rfl (fun h1 => ?_) (fun h1 => ?_)
  · replace hf := ite_t h1 hf
    refine lv_iload_n (pc := 17) hx hb dM_least_17 rfl (lv_at hl 2 rfl) ?_
    exact W.iret (pc := 18) hx hb hr (fun t ht hW => ⟨_, rfl, hf, ht.trans hH⟩) (fun q h => nomatch h) dM_least_18
  · replace hf := ite_f h1 hf
    refine lv_iload_n (pc := 4) hx hb dM_least_4 rfl (lv_at hl 2 rfl) ?_
    refine lv_if_eq (pc := 5) (tgt := 13) hx hb dM_least_5 rfl (fun h2 => ?_) (fun h2 => ?_)
    · replace hf := ite_t h2 hf
      refine lv_iload_n (pc := 13) hx hb dM_least_13 rfl (lv_at hl 1 rfl) ?_
      refine lv_goto (pc := 14) (tgt := 18) hx hb dM_least_14 rfl ?_
      exact W.iret (pc := 18) hx hb hr (fun t ht hW => ⟨_, rfl, hf, ht.trans hH⟩) (fun q h => nomatch h) dM_least_18
    · replace hf := ite_f h2 hf
      refine lv_iload_n (pc := 8) hx hb dM_least_8 rfl (lv_at hl 1 rfl) ?_
      refine lv_iload_n (pc := 9) hx hb dM_least_9 rfl (lv_at hl 2 rfl) ?_
      refine lv_icmp_ge (pc := 10) (tgt := 17) hx hb dM_least_10 rfl (fun h3 => ?_) (fun h3 => ?_)
      · replace hf := ite_t h3 hf
        refine lv_iload_n (pc := 17) hx hb dM_least_17 rfl (lv_at hl 2 rfl) ?_
        exact W.iret (pc := 18) hx hb hr (fun t ht hW => ⟨_, rfl, hf, ht.trans hH⟩) (fun q h => nomatch h) dM_least_18
      · replace hf := ite_f h3 hf
        refine lv_iload_n (pc := 13) hx hb dM_least_13 rfl (lv_at hl 1 rfl) ?_
        refine lv_goto (pc := 14) (tgt := 18) hx hb dM_least_14 rfl ?_
        exact W.iret (pc := 18) hx hb hr (fun t ht hW => ⟨_, rfl, hf, ht.trans hH⟩) (fun q h => nomatch h) dM_least_18
def M_baselineAt (a1 : Int32) : Int32 := (24980 + (26 * a1))
set_option maxHeartbeats 4000000 in
set_option maxRecDepth 100000 in
theorem t_M_baselineAt (l : Launch) (dC : Nat → ClassId) (dI : Nat → Nat → Nat) (ad : Nat → Nat → Nat) (ca : Nat → Nat → ClassId) (dom : List (Nat × Nat)) (a1 : Int32) (hm0 : (4, 0) ∈ dom) (σ : hT) (hN : dom.Nodup) (hC : clo dom σ.2.2) (ρ : Int32) (hf : M_baselineAt a1 = ρ) : Met l yM_baselineAt (.code yM_baselineAt cM_baselineAt 2 (some .int) :: aw) ({ frames := 0, cells := 0, slots := 0, locals := 0 }) (hR (dC, dI) ad ca dom σ [.ref (ad 4 0), .int a1]) (vp_Si (fun r => r = ρ)) 0 0 (fun _ => False) := by
  refine Met.ofW (cc := cM_baselineAt) (maxL := 2) (ret := (some .int)) (by decide) rfl ?_
  intro p e s m args below meth c s₁ B hml hv
  obtain ⟨rfl, hv⟩ := hv
  have hx := B.exec
  have hb := B.bytes
  have hr := B.returns
  have hts : ∀ w ∈ aw, w.before _ s = true := fun w h => atoms_spec (ws := (.code yM_baselineAt cM_baselineAt 2 (some .int) :: aw)) B.pre w (List.mem_cons_of_mem _ h)
  have hown : s.vm.findClass RM = some m.cls := findClass_of_methodNamed B.named
  have hlocks := B.notSynchronized
  obtain ⟨hP, hK, hG⟩ := hv
  obtain ⟨H, hH⟩ : ∃ H, H = s.heap := ⟨_, rfl⟩
  rw [← hH] at hP ⊢
  unfold M_baselineAt at hf
  have hl := lv_entry ([.ref (ad 4 0), .int a1]) (n := 2) (Nat.le_of_ble_eq_true rfl)
  rw [lg_entry_eq]
  generalize (lg_sl ([.ref (ad 4 0), .int a1]) ++ List.replicate (2 - (lg_sl ([.ref (ad 4 0), .int a1])).length) Slot.unset).toArray = ls at hl ⊢
  have hl : lv_has ls 2 [(0, .ref (ad 4 0)), (1, .int a1)] := hl
  refine lv_sipush (pc := 0) (v := 24980) hx hb dM_baselineAt_0 (by decide) ?_
  refine lv_bipush (pc := 3) (v := 26) hx hb dM_baselineAt_3 (by decide) ?_
  refine lv_iload_n (pc := 5) hx hb dM_baselineAt_5 rfl (lv_at hl 1 rfl) ?_
  refine lv_imul (pc := 6) hx hb dM_baselineAt_6 ?_
  refine lv_iadd (pc := 7) hx hb dM_baselineAt_7 ?_
  exact W.iret (pc := 8) hx hb hr (fun t ht hW => ⟨_, rfl, hf, ht.trans hH⟩) (fun q h => nomatch h) dM_baselineAt_8
def M_needed_L90 (n : Nat) (σ : hT) (kx28 : Int32 → Int32 → Option (Int32)) : Nat → Int32 → Int32 → Option (Int32)
  | 0, _, _ => none
  | k + 1, p26, p27 => if 10 ≤ p26 then kx28 p26 p27 else if in9 (M_baselineAt p26) 25240 then if (xI σ 15 0 ((M_baselineAt p26)).toNatClampNeg) ≤ 0 then M_needed_L90 n σ kx28 k (p26 + 1) (p27 + 0) else if in9 ((M_baselineAt p26) + 1) 25240 then M_needed_L90 n σ kx28 k (p26 + 1) (p27 + (1 + (M_parts (xI σ 15 0 (((M_baselineAt p26) + 1)).toNatClampNeg)))) else none else none
def M_needed_L55 (n : Nat) (σ : hT) (kx18 : Int32 → Int32 → Option (Int32)) : Nat → Int32 → Int32 → Option (Int32)
  | 0, _, _ => none
  | k + 1, p16, p17 => if (xI σ 15 0 16) ≤ p16 then kx18 p16 p17 else Option.bind (M_with σ p16) fun y24 => if y24 < 0 then M_needed_L55 n σ kx18 k (p16 + 1) (p17 + 0) else M_needed_L55 n σ kx18 k (p16 + 1) (p17 + 1)
def M_needed_L24 (n : Nat) (σ : hT) (kx9 : Int32 → Int32 → Option (Int32)) : Nat → Int32 → Int32 → Option (Int32)
  | 0, _, _ => none
  | k + 1, p7, p8 => if 16 ≤ p7 then kx9 p7 p8 else if in9 p7 25240 then if (xI σ 15 0 (p7).toNatClampNeg) ≤ 0 then M_needed_L24 n σ kx9 k (p7 + 1) (p8 + 0) else M_needed_L24 n σ kx9 k (p7 + 1) (p8 + 1) else none
def M_needed (n : Nat) (σ : hT) : Option (Int32) := Option.bind (M_allRevisions n σ) fun y2 => Option.bind (M_chunks n σ 24) fun y6 => lt9 (α := Int32 → Int32 → Option (Int32)) (fun (p7 : Int32) (p8 : Int32) => lt9 (α := Int32 → Int32 → Option (Int32)) (fun (p16 : Int32) (p17 : Int32) => lt9 (α := Int32 → Int32 → Option (Int32)) (fun (p26 : Int32) (p27 : Int32) => some p27) fun kx28 => M_needed_L90 n σ kx28 n 0 p17) fun kx18 => M_needed_L55 n σ kx18 n 0 p8) fun kx9 => M_needed_L24 n σ kx9 n 0 ((y2 + (2 * (xI σ 15 0 16))) + y6)
set_option maxHeartbeats 4000000 in
set_option maxRecDepth 100000 in
theorem t_M_needed (l : Launch) (dC : Nat → ClassId) (dI : Nat → Nat → Nat) (ad : Nat → Nat → Nat) (ca : Nat → Nat → ClassId) (dom : List (Nat × Nat)) (n : Nat) (σ : hT) (hm0 : (4, 0) ∈ dom) (hN : dom.Nodup) (hC : clo dom σ.2.2) (ρ : Int32) (hf : M_needed n σ = some ρ) : Met l yM_needed (.code yM_needed cM_needed 3 (some .int) :: aw) ({ frames := 5, cells := 0, slots := 0, locals := 114 }) (hR (dC, dI) ad ca dom σ [.ref (ad 4 0)]) (vp_Si (fun r => r = ρ)) 0 0 (fun _ => False) := by
  refine Met.ofW (cc := cM_needed) (maxL := 3) (ret := (some .int)) (by decide) rfl ?_
  intro p e s m args below meth c s₁ B hml hv
  obtain ⟨rfl, hv⟩ := hv
  have hx := B.exec
  have hb := B.bytes
  have hr := B.returns
  have hts : ∀ w ∈ aw, w.before _ s = true := fun w h => atoms_spec (ws := (.code yM_needed cM_needed 3 (some .int) :: aw)) B.pre w (List.mem_cons_of_mem _ h)
  have hown : s.vm.findClass RM = some m.cls := findClass_of_methodNamed B.named
  have hlocks := B.notSynchronized
  obtain ⟨hP, hK, hG⟩ := hv
  obtain ⟨H, hH⟩ : ∃ H, H = s.heap := ⟨_, rfl⟩
  rw [← hH] at hP ⊢
  unfold M_needed at hf
  have hl := lv_entry ([.ref (ad 4 0)]) (n := 3) (Nat.le_of_ble_eq_true rfl)
  rw [lg_entry_eq]
  generalize (lg_sl ([.ref (ad 4 0)]) ++ List.replicate (3 - (lg_sl ([.ref (ad 4 0)])).length) Slot.unset).toArray = ls at hl ⊢
  have hl : lv_has ls 3 [(0, .ref (ad 4 0))] := hl
  refine lv_aload_n (pc := 0) hx hb dM_needed_0 rfl (lv_at hl 0 rfl) ?_
  obtain ⟨q1, hq1, eq1⟩ := at_4 (ad := ad) (ca := ca) (σ := σ) hm0
  obtain ⟨y2, hy2, hf⟩ := ob hf
  refine vp_callSi (pc := 1) (W.runV (As := []) (rest := []) ⟨hx, hb, hml, hown, hts⟩ (t_M_allRevisions l dC dI ad ca dom n σ hm0 hN hC y2 hy2) (cwV 0 hts (gV wd_116 wd_117 wd_118 wd_50 wd_115) rfl rfl rfl (by decide +kernel) ⟨Nat.le_of_ble_eq_true rfl, Nat.le_of_ble_eq_true rfl⟩) ⟨hR_blind, va_recv (q := (RM, TM, 11)) (q0 := q1) (ci := 4) hK.1 hP rfl eq1, hR_pre hP hK hG⟩ rfl rfl hl.1 rfl (lv_room (Nat.le_of_ble_eq_true rfl)) dM_needed_1 ⟨Nat.le_of_ble_eq_true rfl, Nat.le_of_ble_eq_true rfl⟩) (fun r9 hr9 => ?_)
  refine W.eq (g2 := F0 m 4 ls [.int y2]) (by rw [hr9]) ?_
  refine lv_iconst (pc := 4) (v := 2) hx hb dM_needed_4 (by decide) ?_
  refine lv_aload_n (pc := 5) hx hb dM_needed_5 rfl (lv_at hl 0 rfl) ?_
  obtain ⟨q3, hq3, eq3⟩ := at_4 (ad := ad) (ca := ca) (σ := σ) hm0
  refine va_get (D := (dC, dI)) (cl := kCl) (C := RM) (T := TM) (N := 11) (pc := 6) hx hb hts inM hown hK.1 hP q3 eq3 rfl 2 (by decide) (hts _ wd_51) (fun _ h9 => h9) rfl dM_needed_6 ?_
  refine lv_bipush (pc := 9) (v := 16) hx hb dM_needed_9 (by decide) ?_
  obtain ⟨q4, hq4, eq4⟩ := at_15 (ad := ad) (ca := ca) (σ := σ) (cm_4_2 hC hm0)
  refine va_iald (D := (dC, dI)) (cl := kCl) (pc := 11) hx hb (hK.2 15 0 .int (cm_4_2 hC hm0) rfl) hP q4 0 eq4 rfl (vp_in_lit 16 25240 (by decide)) dM_needed_11 ?_
  refine W.eq (g2 := F0 m 12 ls [.int (xI σ 15 0 16), .int 2, .int y2]) rfl ?_
  refine lv_imul (pc := 12) hx hb dM_needed_12 ?_
  refine lv_iadd (pc := 13) hx hb dM_needed_13 ?_
  refine lv_aload_n (pc := 14) hx hb dM_needed_14 rfl (lv_at hl 0 rfl) ?_
  refine lv_bipush (pc := 15) (v := 24) hx hb dM_needed_15 (by decide) ?_
  obtain ⟨q5, hq5, eq5⟩ := at_4 (ad := ad) (ca := ca) (σ := σ) hm0
  obtain ⟨y6, hy6, hf⟩ := ob hf
  refine vp_callSi (pc := 17) (W.runV (As := [.int 24]) (rest := [.int (y2 + (2 * (xI σ 15 0 16)))]) ⟨hx, hb, hml, hown, hts⟩ (t_M_chunks l dC dI ad ca dom n σ 24 hm0 hN hC y6 hy6) (cwV 1 hts (gV wd_120 wd_121 wd_122 wd_50 wd_119) rfl rfl rfl (by decide +kernel) ⟨Nat.le_of_ble_eq_true rfl, Nat.le_of_ble_eq_true rfl⟩) ⟨hR_blind, va_recv (q := (RM, TM, 11)) (q0 := q5) (ci := 4) hK.1 hP rfl eq5, hR_pre hP hK hG⟩ rfl rfl hl.1 rfl (lv_room (Nat.le_of_ble_eq_true rfl)) dM_needed_17 ⟨Nat.le_of_ble_eq_true rfl, Nat.le_of_ble_eq_true rfl⟩) (fun r9 hr9 => ?_)
  refine W.eq (g2 := F0 m 20 ls [.int y6, .int (y2 + (2 * (xI σ 15 0 16)))]) (by rw [hr9]) ?_
  refine lv_iadd (pc := 20) hx hb dM_needed_20 ?_
  refine lv_istore_n (pc := 21) hx hb dM_needed_21 rfl hl (by decide) rfl (fun ls hl => ?_)
  have hl : lv_has ls 3 [(1, .int ((y2 + (2 * (xI σ 15 0 16))) + y6)), (0, .ref (ad 4 0))] := hl
  refine lv_iconst (pc := 22) (v := 0) hx hb dM_needed_22 (by decide) ?_
  refine lv_istore_n (pc := 23) hx hb dM_needed_23 rfl hl (by decide) rfl (fun ls hl => ?_)
  have hl : lv_has ls 3 [(2, .int 0), (1, .int ((y2 + (2 * (xI σ 15 0 16))) + y6)), (0, .ref (ad 4 0))] := hl
  obtain ⟨kx9, hkx9, hf⟩ := lt_9 hf
  refine lpF (τ := (Int32) × (Int32) × (Array Slot)) (fun pc z => W p l e _ s m _ below meth c H ([]) 0 0 _ (F0 m pc z.2.2 [])) 24 53 (fun z => lv_has z.2.2 3 [(2, .int z.1), (1, .int z.2.1), (0, .ref (ad 4 0))]) (fun k z => M_needed_L24 n σ kx9 k z.1 z.2.1) (fun z => kx9 z.1 z.2.1) _ (fun z => rfl) ?_ ?_ n (0, ((y2 + (2 * (xI σ 15 0 16))) + y6), ls) hl hf
  · rintro k ⟨p7, p8, ls⟩ hl hf ih10 hXkx9
    dsimp only at hl hf ih10 hXkx9 ⊢
    unfold M_needed_L24 at hf
    have hl : lv_has ls 3 [(2, .int p7), (1, .int p8), (0, .ref (ad 4 0))] := hl
    refine lv_iload_n (pc := 24) hx hb dM_needed_24 rfl (lv_at hl 0 rfl) ?_
    refine lv_bipush (pc := 25) (v := 16) hx hb dM_needed_25 (by decide) ?_
    refine lv_icmp_ge (pc := 27) (tgt := 53) hx hb dM_needed_27 rfl (fun h11 => ?_) (fun h11 => ?_)
    · replace hf := ite_t h11 hf
      have hl := lv_sub hl (l' := [(2, .int p7), (1, .int p8), (0, .ref (ad 4 0))]) [0, 1, 2] rfl
      exact hXkx9 (p7, p8, ls) hl hf
    · replace hf := ite_f h11 hf
      refine lv_iload_n (pc := 30) hx hb dM_needed_30 rfl (lv_at hl 1 rfl) ?_
      refine lv_aload_n (pc := 31) hx hb dM_needed_31 rfl (lv_at hl 2 rfl) ?_
      obtain ⟨q12, hq12, eq12⟩ := at_4 (ad := ad) (ca := ca) (σ := σ) hm0
      refine va_get (D := (dC, dI)) (cl := kCl) (C := RM) (T := TM) (N := 11) (pc := 32) hx hb hts inM hown hK.1 hP q12 eq12 rfl 2 (by decide) (hts _ wd_51) (fun _ h9 => h9) rfl dM_needed_32 ?_
      refine lv_iload_n (pc := 35) hx hb dM_needed_35 rfl (lv_at hl 0 rfl) ?_
      obtain ⟨hv13, hf⟩ := ite_s hf
      obtain ⟨q14, hq14, eq14⟩ := at_15 (ad := ad) (ca := ca) (σ := σ) (cm_4_2 hC hm0)
      refine va_iald (D := (dC, dI)) (cl := kCl) (pc := 36) hx hb (hK.2 15 0 .int (cm_4_2 hC hm0) rfl) hP q14 0 eq14 rfl (hv13) dM_needed_36 ?_
      refine W.eq (g2 := F0 m 37 ls [.int (xI σ 15 0 (p7).toNatClampNeg), .int p8]) rfl ?_
      refine lv_if_le (pc := 37) (tgt := 44) hx hb dM_needed_37 rfl (fun h15 => ?_) (fun h15 => ?_)
      · replace hf := ite_t h15 hf
        refine lv_iconst (pc := 44) (v := 0) hx hb dM_needed_44 (by decide) ?_
        refine lv_iadd (pc := 45) hx hb dM_needed_45 ?_
        refine lv_istore_n (pc := 46) hx hb dM_needed_46 rfl hl (by decide) rfl (fun ls hl => ?_)
        have hl : lv_has ls 3 [(1, .int (p8 + 0)), (2, .int p7), (0, .ref (ad 4 0))] := hl
        refine lv_iinc (pc := 47) (v := (p7 + 1)) hx hb dM_needed_47 hl (k := 1) rfl (by rfl) (by decide) rfl (fun ls hl => ?_)
        have hl : lv_has ls 3 [(2, .int (p7 + 1)), (1, .int (p8 + 0)), (0, .ref (ad 4 0))] := hl
        refine lv_goto (pc := 50) (tgt := 24) hx hb dM_needed_50 rfl ?_
        have hl := lv_sub hl (l' := [(2, .int (p7 + 1)), (1, .int (p8 + 0)), (0, .ref (ad 4 0))]) [0, 1, 2] rfl
        exact ih10 ((p7 + 1), (p8 + 0), ls) hl hf
      · replace hf := ite_f h15 hf
        refine lv_iconst (pc := 40) (v := 1) hx hb dM_needed_40 (by decide) ?_
        refine lv_goto (pc := 41) (tgt := 45) hx hb dM_needed_41 rfl ?_
        refine lv_iadd (pc := 45) hx hb dM_needed_45 ?_
        refine lv_istore_n (pc := 46) hx hb dM_needed_46 rfl hl (by decide) rfl (fun ls hl => ?_)
        have hl : lv_has ls 3 [(1, .int (p8 + 1)), (2, .int p7), (0, .ref (ad 4 0))] := hl
        refine lv_iinc (pc := 47) (v := (p7 + 1)) hx hb dM_needed_47 hl (k := 1) rfl (by rfl) (by decide) rfl (fun ls hl => ?_)
        have hl : lv_has ls 3 [(2, .int (p7 + 1)), (1, .int (p8 + 1)), (0, .ref (ad 4 0))] := hl
        refine lv_goto (pc := 50) (tgt := 24) hx hb dM_needed_50 rfl ?_
        have hl := lv_sub hl (l' := [(2, .int (p7 + 1)), (1, .int (p8 + 1)), (0, .ref (ad 4 0))]) [0, 1, 2] rfl
        exact ih10 ((p7 + 1), (p8 + 1), ls) hl hf
  · rintro ⟨p7, p8, ls⟩ hl hf
    dsimp only at hl hf ⊢
    rw [hkx9] at hf
    have hl : lv_has ls 3 [(2, .int p7), (1, .int p8), (0, .ref (ad 4 0))] := hl
    refine lv_iconst (pc := 53) (v := 0) hx hb dM_needed_53 (by decide) ?_
    refine lv_istore_n (pc := 54) hx hb dM_needed_54 rfl hl (by decide) rfl (fun ls hl => ?_)
    have hl : lv_has ls 3 [(2, .int 0), (1, .int p8), (0, .ref (ad 4 0))] := hl
    obtain ⟨kx18, hkx18, hf⟩ := lt_9 hf
    refine lpF (τ := (Int32) × (Int32) × (Array Slot)) (fun pc z => W p l e _ s m _ below meth c H ([]) 0 0 _ (F0 m pc z.2.2 [])) 55 88 (fun z => lv_has z.2.2 3 [(2, .int z.1), (1, .int z.2.1), (0, .ref (ad 4 0))]) (fun k z => M_needed_L55 n σ kx18 k z.1 z.2.1) (fun z => kx18 z.1 z.2.1) _ (fun z => rfl) ?_ ?_ n (0, p8, ls) hl hf
    · rintro k ⟨p16, p17, ls⟩ hl hf ih19 hXkx18
      dsimp only at hl hf ih19 hXkx18 ⊢
      unfold M_needed_L55 at hf
      have hl : lv_has ls 3 [(2, .int p16), (1, .int p17), (0, .ref (ad 4 0))] := hl
      refine lv_iload_n (pc := 55) hx hb dM_needed_55 rfl (lv_at hl 0 rfl) ?_
      refine lv_aload_n (pc := 56) hx hb dM_needed_56 rfl (lv_at hl 2 rfl) ?_
      obtain ⟨q20, hq20, eq20⟩ := at_4 (ad := ad) (ca := ca) (σ := σ) hm0
      refine va_get (D := (dC, dI)) (cl := kCl) (C := RM) (T := TM) (N := 11) (pc := 57) hx hb hts inM hown hK.1 hP q20 eq20 rfl 2 (by decide) (hts _ wd_51) (fun _ h9 => h9) rfl dM_needed_57 ?_
      refine lv_bipush (pc := 60) (v := 16) hx hb dM_needed_60 (by decide) ?_
      obtain ⟨q21, hq21, eq21⟩ := at_15 (ad := ad) (ca := ca) (σ := σ) (cm_4_2 hC hm0)
      refine va_iald (D := (dC, dI)) (cl := kCl) (pc := 62) hx hb (hK.2 15 0 .int (cm_4_2 hC hm0) rfl) hP q21 0 eq21 rfl (vp_in_lit 16 25240 (by decide)) dM_needed_62 ?_
      refine W.eq (g2 := F0 m 63 ls [.int (xI σ 15 0 16), .int p16]) rfl ?_
      refine lv_icmp_ge (pc := 63) (tgt := 88) hx hb dM_needed_63 rfl (fun h22 => ?_) (fun h22 => ?_)
      · replace hf := ite_t h22 hf
        have hl := lv_sub hl (l' := [(2, .int p16), (1, .int p17), (0, .ref (ad 4 0))]) [0, 1, 2] rfl
        exact hXkx18 (p16, p17, ls) hl hf
      · replace hf := ite_f h22 hf
        refine lv_iload_n (pc := 66) hx hb dM_needed_66 rfl (lv_at hl 1 rfl) ?_
        refine lv_aload_n (pc := 67) hx hb dM_needed_67 rfl (lv_at hl 2 rfl) ?_
        refine lv_iload_n (pc := 68) hx hb dM_needed_68 rfl (lv_at hl 0 rfl) ?_
        obtain ⟨q23, hq23, eq23⟩ := at_4 (ad := ad) (ca := ca) (σ := σ) hm0
        obtain ⟨y24, hy24, hf⟩ := ob hf
        refine vp_callSi (pc := 69) (W.runV (As := [.int p16]) (rest := [.int p17]) ⟨hx, hb, hml, hown, hts⟩ (t_M_with l dC dI ad ca dom σ p16 hm0 hN hC y24 hy24) (cwV 1 hts (gV wd_101 wd_102 wd_103 wd_50 wd_100) rfl rfl rfl (by decide +kernel) ⟨Nat.le_of_ble_eq_true rfl, Nat.le_of_ble_eq_true rfl⟩) ⟨hR_blind, va_recv (q := (RM, TM, 11)) (q0 := q23) (ci := 4) hK.1 hP rfl eq23, hR_pre hP hK hG⟩ rfl rfl hl.1 rfl (lv_room (Nat.le_of_ble_eq_true rfl)) dM_needed_69 ⟨Nat.le_of_ble_eq_true rfl, Nat.le_of_ble_eq_true rfl⟩) (fun r9 hr9 => ?_)
        refine W.eq (g2 := F0 m 72 ls [.int y24, .int p17]) (by rw [hr9]) ?_
        refine lv_if_lt (pc := 72) (tgt := 79) hx hb dM_needed_72 rfl (fun h25 => ?_) (fun h25 => ?_)
        · replace hf := ite_t h25 hf
          refine lv_iconst (pc := 79) (v := 0) hx hb dM_needed_79 (by decide) ?_
          refine lv_iadd (pc := 80) hx hb dM_needed_80 ?_
          refine lv_istore_n (pc := 81) hx hb dM_needed_81 rfl hl (by decide) rfl (fun ls hl => ?_)
          have hl : lv_has ls 3 [(1, .int (p17 + 0)), (2, .int p16), (0, .ref (ad 4 0))] := hl
          refine lv_iinc (pc := 82) (v := (p16 + 1)) hx hb dM_needed_82 hl (k := 1) rfl (by rfl) (by decide) rfl (fun ls hl => ?_)
          have hl : lv_has ls 3 [(2, .int (p16 + 1)), (1, .int (p17 + 0)), (0, .ref (ad 4 0))] := hl
          refine lv_goto (pc := 85) (tgt := 55) hx hb dM_needed_85 rfl ?_
          have hl := lv_sub hl (l' := [(2, .int (p16 + 1)), (1, .int (p17 + 0)), (0, .ref (ad 4 0))]) [0, 1, 2] rfl
          exact ih19 ((p16 + 1), (p17 + 0), ls) hl hf
        · replace hf := ite_f h25 hf
          refine lv_iconst (pc := 75) (v := 1) hx hb dM_needed_75 (by decide) ?_
          refine lv_goto (pc := 76) (tgt := 80) hx hb dM_needed_76 rfl ?_
          refine lv_iadd (pc := 80) hx hb dM_needed_80 ?_
          refine lv_istore_n (pc := 81) hx hb dM_needed_81 rfl hl (by decide) rfl (fun ls hl => ?_)
          have hl : lv_has ls 3 [(1, .int (p17 + 1)), (2, .int p16), (0, .ref (ad 4 0))] := hl
          refine lv_iinc (pc := 82) (v := (p16 + 1)) hx hb dM_needed_82 hl (k := 1) rfl (by rfl) (by decide) rfl (fun ls hl => ?_)
          have hl : lv_has ls 3 [(2, .int (p16 + 1)), (1, .int (p17 + 1)), (0, .ref (ad 4 0))] := hl
          refine lv_goto (pc := 85) (tgt := 55) hx hb dM_needed_85 rfl ?_
          have hl := lv_sub hl (l' := [(2, .int (p16 + 1)), (1, .int (p17 + 1)), (0, .ref (ad 4 0))]) [0, 1, 2] rfl
          exact ih19 ((p16 + 1), (p17 + 1), ls) hl hf
    · rintro ⟨p16, p17, ls⟩ hl hf
      dsimp only at hl hf ⊢
      rw [hkx18] at hf
      have hl : lv_has ls 3 [(2, .int p16), (1, .int p17), (0, .ref (ad 4 0))] := hl
      refine lv_iconst (pc := 88) (v := 0) hx hb dM_needed_88 (by decide) ?_
      refine lv_istore_n (pc := 89) hx hb dM_needed_89 rfl hl (by decide) rfl (fun ls hl => ?_)
      have hl : lv_has ls 3 [(2, .int 0), (1, .int p17), (0, .ref (ad 4 0))] := hl
      obtain ⟨kx28, hkx28, hf⟩ := lt_9 hf
      refine lpF (τ := (Int32) × (Int32) × (Array Slot)) (fun pc z => W p l e _ s m _ below meth c H ([]) 0 0 _ (F0 m pc z.2.2 [])) 90 139 (fun z => lv_has z.2.2 3 [(2, .int z.1), (1, .int z.2.1), (0, .ref (ad 4 0))]) (fun k z => M_needed_L90 n σ kx28 k z.1 z.2.1) (fun z => kx28 z.1 z.2.1) _ (fun z => rfl) ?_ ?_ n (0, p17, ls) hl hf
      · rintro k ⟨p26, p27, ls⟩ hl hf ih29 hXkx28
        dsimp only at hl hf ih29 hXkx28 ⊢
        unfold M_needed_L90 at hf
        have hl : lv_has ls 3 [(2, .int p26), (1, .int p27), (0, .ref (ad 4 0))] := hl
        refine lv_iload_n (pc := 90) hx hb dM_needed_90 rfl (lv_at hl 0 rfl) ?_
        refine lv_bipush (pc := 91) (v := 10) hx hb dM_needed_91 (by decide) ?_
        refine lv_icmp_ge (pc := 93) (tgt := 139) hx hb dM_needed_93 rfl (fun h30 => ?_) (fun h30 => ?_)
        · replace hf := ite_t h30 hf
          have hl := lv_sub hl (l' := [(2, .int p26), (1, .int p27), (0, .ref (ad 4 0))]) [0, 1, 2] rfl
          exact hXkx28 (p26, p27, ls) hl hf
        · replace hf := ite_f h30 hf
          refine lv_iload_n (pc := 96) hx hb dM_needed_96 rfl (lv_at hl 1 rfl) ?_
          refine lv_aload_n (pc := 97) hx hb dM_needed_97 rfl (lv_at hl 2 rfl) ?_
          obtain ⟨q31, hq31, eq31⟩ := at_4 (ad := ad) (ca := ca) (σ := σ) hm0
          refine va_get (D := (dC, dI)) (cl := kCl) (C := RM) (T := TM) (N := 11) (pc := 98) hx hb hts inM hown hK.1 hP q31 eq31 rfl 2 (by decide) (hts _ wd_51) (fun _ h9 => h9) rfl dM_needed_98 ?_
          refine lv_aload_n (pc := 101) hx hb dM_needed_101 rfl (lv_at hl 2 rfl) ?_
          refine lv_iload_n (pc := 102) hx hb dM_needed_102 rfl (lv_at hl 0 rfl) ?_
          obtain ⟨q32, hq32, eq32⟩ := at_4 (ad := ad) (ca := ca) (σ := σ) hm0
          refine vp_callSi (pc := 103) (W.runV (As := [.int p26]) (rest := [.ref (ad 15 0), .int p27]) ⟨hx, hb, hml, hown, hts⟩ (t_M_baselineAt l dC dI ad ca dom p26 hm0 σ hN hC (M_baselineAt p26) rfl) (cwV 1 hts (gV wd_124 wd_125 wd_126 wd_50 wd_123) rfl rfl rfl (by decide +kernel) ⟨Nat.le_of_ble_eq_true rfl, Nat.le_of_ble_eq_true rfl⟩) ⟨hR_blind, va_recv (q := (RM, TM, 11)) (q0 := q32) (ci := 4) hK.1 hP rfl eq32, hR_pre hP hK hG⟩ rfl rfl hl.1 rfl (lv_room (Nat.le_of_ble_eq_true rfl)) dM_needed_103 ⟨Nat.le_of_ble_eq_true rfl, Nat.le_of_ble_eq_true rfl⟩) (fun r9 hr9 => ?_)
          refine W.eq (g2 := F0 m 106 ls [.int (M_baselineAt p26), .ref (ad 15 0), .int p27]) (by rw [hr9]) ?_
          obtain ⟨hv33, hf⟩ := ite_s hf
          obtain ⟨q34, hq34, eq34⟩ := at_15 (ad := ad) (ca := ca) (σ := σ) (cm_4_2 hC hm0)
          refine va_iald (D := (dC, dI)) (cl := kCl) (pc := 106) hx hb (hK.2 15 0 .int (cm_4_2 hC hm0) rfl) hP q34 0 eq34 rfl (hv33) dM_needed_106 ?_
          refine W.eq (g2 := F0 m 107 ls [.int (xI σ 15 0 ((M_baselineAt p26)).toNatClampNeg), .int p27]) rfl ?_
          refine lv_if_le (pc := 107) (tgt := 130) hx hb dM_needed_107 rfl (fun h35 => ?_) (fun h35 => ?_)
          · replace hf := ite_t h35 hf
            refine lv_iconst (pc := 130) (v := 0) hx hb dM_needed_130 (by decide) ?_
            refine lv_iadd (pc := 131) hx hb dM_needed_131 ?_
            refine lv_istore_n (pc := 132) hx hb dM_needed_132 rfl hl (by decide) rfl (fun ls hl => ?_)
            have hl : lv_has ls 3 [(1, .int (p27 + 0)), (2, .int p26), (0, .ref (ad 4 0))] := hl
            refine lv_iinc (pc := 133) (v := (p26 + 1)) hx hb dM_needed_133 hl (k := 1) rfl (by rfl) (by decide) rfl (fun ls hl => ?_)
            have hl : lv_has ls 3 [(2, .int (p26 + 1)), (1, .int (p27 + 0)), (0, .ref (ad 4 0))] := hl
            refine lv_goto (pc := 136) (tgt := 90) hx hb dM_needed_136 rfl ?_
            have hl := lv_sub hl (l' := [(2, .int (p26 + 1)), (1, .int (p27 + 0)), (0, .ref (ad 4 0))]) [0, 1, 2] rfl
            exact ih29 ((p26 + 1), (p27 + 0), ls) hl hf
          · replace hf := ite_f h35 hf
            refine lv_iconst (pc := 110) (v := 1) hx hb dM_needed_110 (by decide) ?_
            refine lv_aload_n (pc := 111) hx hb dM_needed_111 rfl (lv_at hl 2 rfl) ?_
            obtain ⟨q36, hq36, eq36⟩ := at_4 (ad := ad) (ca := ca) (σ := σ) hm0
            refine va_get (D := (dC, dI)) (cl := kCl) (C := RM) (T := TM) (N := 11) (pc := 112) hx hb hts inM hown hK.1 hP q36 eq36 rfl 2 (by decide) (hts _ wd_51) (fun _ h9 => h9) rfl dM_needed_112 ?_
            refine lv_aload_n (pc := 115) hx hb dM_needed_115 rfl (lv_at hl 2 rfl) ?_
            refine lv_iload_n (pc := 116) hx hb dM_needed_116 rfl (lv_at hl 0 rfl) ?_
            obtain ⟨q37, hq37, eq37⟩ := at_4 (ad := ad) (ca := ca) (σ := σ) hm0
            refine vp_callSi (pc := 117) (W.runV (As := [.int p26]) (rest := [.ref (ad 15 0), .int 1, .int p27]) ⟨hx, hb, hml, hown, hts⟩ (t_M_baselineAt l dC dI ad ca dom p26 hm0 σ hN hC (M_baselineAt p26) rfl) (cwV 1 hts (gV wd_124 wd_125 wd_126 wd_50 wd_123) rfl rfl rfl (by decide +kernel) ⟨Nat.le_of_ble_eq_true rfl, Nat.le_of_ble_eq_true rfl⟩) ⟨hR_blind, va_recv (q := (RM, TM, 11)) (q0 := q37) (ci := 4) hK.1 hP rfl eq37, hR_pre hP hK hG⟩ rfl rfl hl.1 rfl (lv_room (Nat.le_of_ble_eq_true rfl)) dM_needed_117 ⟨Nat.le_of_ble_eq_true rfl, Nat.le_of_ble_eq_true rfl⟩) (fun r9 hr9 => ?_)
            refine W.eq (g2 := F0 m 120 ls [.int (M_baselineAt p26), .ref (ad 15 0), .int 1, .int p27]) (by rw [hr9]) ?_
            refine lv_iconst (pc := 120) (v := 1) hx hb dM_needed_120 (by decide) ?_
            refine lv_iadd (pc := 121) hx hb dM_needed_121 ?_
            obtain ⟨hv38, hf⟩ := ite_s hf
            obtain ⟨q39, hq39, eq39⟩ := at_15 (ad := ad) (ca := ca) (σ := σ) (cm_4_2 hC hm0)
            refine va_iald (D := (dC, dI)) (cl := kCl) (pc := 122) hx hb (hK.2 15 0 .int (cm_4_2 hC hm0) rfl) hP q39 0 eq39 rfl (hv38) dM_needed_122 ?_
            refine W.eq (g2 := F0 m 123 ls [.int (xI σ 15 0 (((M_baselineAt p26) + 1)).toNatClampNeg), .int 1, .int p27]) rfl ?_
            refine vp_callSi (pc := 123) (W.runS (As := [.int (xI σ 15 0 (((M_baselineAt p26) + 1)).toNatClampNeg)]) (rest := [.int 1, .int p27]) ⟨hx, hb, hml, hown, hts⟩ (t_M_parts l dC dI ad ca dom (xI σ 15 0 (((M_baselineAt p26) + 1)).toNatClampNeg) σ hN hC (M_parts (xI σ 15 0 (((M_baselineAt p26) + 1)).toNatClampNeg)) rfl) (cwS 1 hts (gS wd_105 wd_106 wd_50 wd_104) rfl rfl rfl (by decide +kernel) ⟨Nat.le_of_ble_eq_true rfl, Nat.le_of_ble_eq_true rfl⟩) ⟨hR_blind, hR_pre hP hK hG⟩ rfl rfl hl.1 rfl (lv_room (Nat.le_of_ble_eq_true rfl)) dM_needed_123 ⟨Nat.le_of_ble_eq_true rfl, Nat.le_of_ble_eq_true rfl⟩) (fun r9 hr9 => ?_)
            refine W.eq (g2 := F0 m 126 ls [.int (M_parts (xI σ 15 0 (((M_baselineAt p26) + 1)).toNatClampNeg)), .int 1, .int p27]) (by rw [hr9]) ?_
            refine lv_iadd (pc := 126) hx hb dM_needed_126 ?_
            refine lv_goto (pc := 127) (tgt := 131) hx hb dM_needed_127 rfl ?_
            refine lv_iadd (pc := 131) hx hb dM_needed_131 ?_
            refine lv_istore_n (pc := 132) hx hb dM_needed_132 rfl hl (by decide) rfl (fun ls hl => ?_)
            have hl : lv_has ls 3 [(1, .int (p27 + (1 + (M_parts (xI σ 15 0 (((M_baselineAt p26) + 1)).toNatClampNeg))))), (2, .int p26), (0, .ref (ad 4 0))] := hl
            refine lv_iinc (pc := 133) (v := (p26 + 1)) hx hb dM_needed_133 hl (k := 1) rfl (by rfl) (by decide) rfl (fun ls hl => ?_)
            have hl : lv_has ls 3 [(2, .int (p26 + 1)), (1, .int (p27 + (1 + (M_parts (xI σ 15 0 (((M_baselineAt p26) + 1)).toNatClampNeg))))), (0, .ref (ad 4 0))] := hl
            refine lv_goto (pc := 136) (tgt := 90) hx hb dM_needed_136 rfl ?_
            have hl := lv_sub hl (l' := [(2, .int (p26 + 1)), (1, .int (p27 + (1 + (M_parts (xI σ 15 0 (((M_baselineAt p26) + 1)).toNatClampNeg))))), (0, .ref (ad 4 0))]) [0, 1, 2] rfl
            exact ih29 ((p26 + 1), (p27 + (1 + (M_parts (xI σ 15 0 (((M_baselineAt p26) + 1)).toNatClampNeg)))), ls) hl hf
      · rintro ⟨p26, p27, ls⟩ hl hf
        dsimp only at hl hf ⊢
        rw [hkx28] at hf
        have hl : lv_has ls 3 [(2, .int p26), (1, .int p27), (0, .ref (ad 4 0))] := hl
        refine lv_iload_n (pc := 139) hx hb dM_needed_139 rfl (lv_at hl 1 rfl) ?_
        exact W.iret (pc := 140) hx hb hr (fun t ht hW => ⟨_, rfl, (Option.some.inj hf), ht.trans hH⟩) (fun q h => nomatch h) dM_needed_140
