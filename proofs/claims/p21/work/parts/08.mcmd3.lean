abbrev cM_whyNotRevision : ByteArray := prog_9_method_49_code
abbrev yM_whyNotRevision : MethodName := ⟨"DrawingVaultModel", "whyNotRevision", "(IIII)I"⟩
theorem dM_whyNotRevision_0 : decode cM_whyNotRevision 0 = .ok (.aload_n 0, 1) := by decide +kernel
theorem dM_whyNotRevision_1 : decode cM_whyNotRevision 1 = .ok (.iload_n 3, 1) := by decide +kernel
theorem dM_whyNotRevision_2 : decode cM_whyNotRevision 2 = .ok (.invokevirtual 118, 3) := by decide +kernel
theorem dM_whyNotRevision_5 : decode cM_whyNotRevision 5 = .ok (.iload 4, 2) := by decide +kernel
theorem dM_whyNotRevision_7 : decode cM_whyNotRevision 7 = .ok (.iand, 1) := by decide +kernel
theorem dM_whyNotRevision_8 : decode cM_whyNotRevision 8 = .ok (.ifCond .ne 7, 3) := by decide +kernel
theorem dM_whyNotRevision_11 : decode cM_whyNotRevision 11 = .ok (.iconst 1, 1) := by decide +kernel
theorem dM_whyNotRevision_12 : decode cM_whyNotRevision 12 = .ok (.goto 4, 3) := by decide +kernel
theorem dM_whyNotRevision_15 : decode cM_whyNotRevision 15 = .ok (.iconst 0, 1) := by decide +kernel
theorem dM_whyNotRevision_16 : decode cM_whyNotRevision 16 = .ok (.iconst 1, 1) := by decide +kernel
theorem dM_whyNotRevision_17 : decode cM_whyNotRevision 17 = .ok (.aload_n 0, 1) := by decide +kernel
theorem dM_whyNotRevision_18 : decode cM_whyNotRevision 18 = .ok (.iload_n 1, 1) := by decide +kernel
theorem dM_whyNotRevision_19 : decode cM_whyNotRevision 19 = .ok (.iload_n 2, 1) := by decide +kernel
theorem dM_whyNotRevision_20 : decode cM_whyNotRevision 20 = .ok (.invokevirtual 79, 3) := by decide +kernel
theorem dM_whyNotRevision_23 : decode cM_whyNotRevision 23 = .ok (.ifCond .ne 7, 3) := by decide +kernel
theorem dM_whyNotRevision_26 : decode cM_whyNotRevision 26 = .ok (.iconst 1, 1) := by decide +kernel
theorem dM_whyNotRevision_27 : decode cM_whyNotRevision 27 = .ok (.goto 4, 3) := by decide +kernel
theorem dM_whyNotRevision_30 : decode cM_whyNotRevision 30 = .ok (.iconst 0, 1) := by decide +kernel
theorem dM_whyNotRevision_31 : decode cM_whyNotRevision 31 = .ok (.bipush 7, 2) := by decide +kernel
theorem dM_whyNotRevision_33 : decode cM_whyNotRevision 33 = .ok (.iconst 0, 1) := by decide +kernel
theorem dM_whyNotRevision_34 : decode cM_whyNotRevision 34 = .ok (.invokestatic 121, 3) := by decide +kernel
theorem dM_whyNotRevision_37 : decode cM_whyNotRevision 37 = .ok (.invokestatic 121, 3) := by decide +kernel
theorem dM_whyNotRevision_40 : decode cM_whyNotRevision 40 = .ok (.ireturn, 1) := by decide +kernel
abbrev cM_check : ByteArray := prog_9_method_50_code
abbrev yM_check : MethodName := ⟨"DrawingVaultModel", "check", "(III)Z"⟩
theorem dM_check_0 : decode cM_check 0 = .ok (.aload_n 0, 1) := by decide +kernel
theorem dM_check_1 : decode cM_check 1 = .ok (.iload_n 1, 1) := by decide +kernel
theorem dM_check_2 : decode cM_check 2 = .ok (.iload_n 2, 1) := by decide +kernel
theorem dM_check_3 : decode cM_check 3 = .ok (.iload_n 3, 1) := by decide +kernel
theorem dM_check_4 : decode cM_check 4 = .ok (.iconst 2, 1) := by decide +kernel
theorem dM_check_5 : decode cM_check 5 = .ok (.invokevirtual 157, 3) := by decide +kernel
theorem dM_check_8 : decode cM_check 8 = .ok (.istore 4, 2) := by decide +kernel
theorem dM_check_10 : decode cM_check 10 = .ok (.aload_n 0, 1) := by decide +kernel
theorem dM_check_11 : decode cM_check 11 = .ok (.iload_n 1, 1) := by decide +kernel
theorem dM_check_12 : decode cM_check 12 = .ok (.iload_n 2, 1) := by decide +kernel
theorem dM_check_13 : decode cM_check 13 = .ok (.invokevirtual 79, 3) := by decide +kernel
theorem dM_check_16 : decode cM_check 16 = .ok (.ifCond .eq 74, 3) := by decide +kernel
theorem dM_check_19 : decode cM_check 19 = .ok (.aload_n 0, 1) := by decide +kernel
theorem dM_check_20 : decode cM_check 20 = .ok (.iload_n 1, 1) := by decide +kernel
theorem dM_check_21 : decode cM_check 21 = .ok (.iload_n 2, 1) := by decide +kernel
theorem dM_check_22 : decode cM_check 22 = .ok (.invokevirtual 54, 3) := by decide +kernel
theorem dM_check_25 : decode cM_check 25 = .ok (.ifCond .ne 22, 3) := by decide +kernel
theorem dM_check_28 : decode cM_check 28 = .ok (.iload_n 2, 1) := by decide +kernel
theorem dM_check_29 : decode cM_check 29 = .ok (.aload_n 0, 1) := by decide +kernel
theorem dM_check_30 : decode cM_check 30 = .ok (.iload_n 1, 1) := by decide +kernel
theorem dM_check_31 : decode cM_check 31 = .ok (.invokevirtual 47, 3) := by decide +kernel
theorem dM_check_34 : decode cM_check 34 = .ok (.iconst 1, 1) := by decide +kernel
theorem dM_check_35 : decode cM_check 35 = .ok (.isub, 1) := by decide +kernel
theorem dM_check_36 : decode cM_check 36 = .ok (.if_icmp .ne 11, 3) := by decide +kernel
theorem dM_check_39 : decode cM_check 39 = .ok (.aload_n 0, 1) := by decide +kernel
theorem dM_check_40 : decode cM_check 40 = .ok (.iload_n 1, 1) := by decide +kernel
theorem dM_check_41 : decode cM_check 41 = .ok (.invokevirtual 76, 3) := by decide +kernel
theorem dM_check_44 : decode cM_check 44 = .ok (.ifCond .lt 7, 3) := by decide +kernel
theorem dM_check_47 : decode cM_check 47 = .ok (.iconst 1, 1) := by decide +kernel
theorem dM_check_48 : decode cM_check 48 = .ok (.goto 4, 3) := by decide +kernel
theorem dM_check_51 : decode cM_check 51 = .ok (.iconst 0, 1) := by decide +kernel
theorem dM_check_52 : decode cM_check 52 = .ok (.iconst 2, 1) := by decide +kernel
theorem dM_check_53 : decode cM_check 53 = .ok (.iload 4, 2) := by decide +kernel
theorem dM_check_55 : decode cM_check 55 = .ok (.invokestatic 121, 3) := by decide +kernel
theorem dM_check_58 : decode cM_check 58 = .ok (.istore 4, 2) := by decide +kernel
theorem dM_check_60 : decode cM_check 60 = .ok (.aload_n 0, 1) := by decide +kernel
theorem dM_check_61 : decode cM_check 61 = .ok (.getfield 7, 3) := by decide +kernel
theorem dM_check_64 : decode cM_check 64 = .ok (.aload_n 0, 1) := by decide +kernel
theorem dM_check_65 : decode cM_check 65 = .ok (.iload_n 1, 1) := by decide +kernel
theorem dM_check_66 : decode cM_check 66 = .ok (.iload_n 2, 1) := by decide +kernel
theorem dM_check_67 : decode cM_check 67 = .ok (.invokevirtual 50, 3) := by decide +kernel
theorem dM_check_70 : decode cM_check 70 = .ok (.iconst 1, 1) := by decide +kernel
theorem dM_check_71 : decode cM_check 71 = .ok (.iadd, 1) := by decide +kernel
theorem dM_check_72 : decode cM_check 72 = .ok (.iaload, 1) := by decide +kernel
theorem dM_check_73 : decode cM_check 73 = .ok (.iload_n 3, 1) := by decide +kernel
theorem dM_check_74 : decode cM_check 74 = .ok (.if_icmp .ne 7, 3) := by decide +kernel
theorem dM_check_77 : decode cM_check 77 = .ok (.iconst 1, 1) := by decide +kernel
theorem dM_check_78 : decode cM_check 78 = .ok (.goto 4, 3) := by decide +kernel
theorem dM_check_81 : decode cM_check 81 = .ok (.iconst 0, 1) := by decide +kernel
theorem dM_check_82 : decode cM_check 82 = .ok (.iconst 3, 1) := by decide +kernel
theorem dM_check_83 : decode cM_check 83 = .ok (.iload 4, 2) := by decide +kernel
theorem dM_check_85 : decode cM_check 85 = .ok (.invokestatic 121, 3) := by decide +kernel
theorem dM_check_88 : decode cM_check 88 = .ok (.istore 4, 2) := by decide +kernel
theorem dM_check_90 : decode cM_check 90 = .ok (.aload_n 0, 1) := by decide +kernel
theorem dM_check_91 : decode cM_check 91 = .ok (.iload 4, 2) := by decide +kernel
theorem dM_check_93 : decode cM_check 93 = .ok (.iconst 1, 1) := by decide +kernel
theorem dM_check_94 : decode cM_check 94 = .ok (.invokevirtual 112, 3) := by decide +kernel
theorem dM_check_97 : decode cM_check 97 = .ok (.ifCond .ne 5, 3) := by decide +kernel
theorem dM_check_100 : decode cM_check 100 = .ok (.iconst 0, 1) := by decide +kernel
theorem dM_check_101 : decode cM_check 101 = .ok (.ireturn, 1) := by decide +kernel
theorem dM_check_102 : decode cM_check 102 = .ok (.aload_n 0, 1) := by decide +kernel
theorem dM_check_103 : decode cM_check 103 = .ok (.getfield 7, 3) := by decide +kernel
theorem dM_check_106 : decode cM_check 106 = .ok (.aload_n 0, 1) := by decide +kernel
theorem dM_check_107 : decode cM_check 107 = .ok (.iload_n 1, 1) := by decide +kernel
theorem dM_check_108 : decode cM_check 108 = .ok (.iload_n 2, 1) := by decide +kernel
theorem dM_check_109 : decode cM_check 109 = .ok (.invokevirtual 50, 3) := by decide +kernel
theorem dM_check_112 : decode cM_check 112 = .ok (.iconst 0, 1) := by decide +kernel
theorem dM_check_113 : decode cM_check 113 = .ok (.iadd, 1) := by decide +kernel
theorem dM_check_114 : decode cM_check 114 = .ok (.iconst 1, 1) := by decide +kernel
theorem dM_check_115 : decode cM_check 115 = .ok (.iastore, 1) := by decide +kernel
theorem dM_check_116 : decode cM_check 116 = .ok (.aload_n 0, 1) := by decide +kernel
theorem dM_check_117 : decode cM_check 117 = .ok (.invokevirtual 115, 3) := by decide +kernel
theorem dM_check_120 : decode cM_check 120 = .ok (.iconst 1, 1) := by decide +kernel
theorem dM_check_121 : decode cM_check 121 = .ok (.ireturn, 1) := by decide +kernel
abbrev cM_lacksReleased : ByteArray := prog_9_method_51_code
abbrev yM_lacksReleased : MethodName := ⟨"DrawingVaultModel", "lacksReleased", "(I)Z"⟩
theorem dM_lacksReleased_0 : decode cM_lacksReleased 0 = .ok (.iconst 0, 1) := by decide +kernel
theorem dM_lacksReleased_1 : decode cM_lacksReleased 1 = .ok (.istore_n 2, 1) := by decide +kernel
theorem dM_lacksReleased_2 : decode cM_lacksReleased 2 = .ok (.iconst 0, 1) := by decide +kernel
theorem dM_lacksReleased_3 : decode cM_lacksReleased 3 = .ok (.istore_n 3, 1) := by decide +kernel
theorem dM_lacksReleased_4 : decode cM_lacksReleased 4 = .ok (.iload_n 3, 1) := by decide +kernel
theorem dM_lacksReleased_5 : decode cM_lacksReleased 5 = .ok (.aload_n 0, 1) := by decide +kernel
theorem dM_lacksReleased_6 : decode cM_lacksReleased 6 = .ok (.getfield 7, 3) := by decide +kernel
theorem dM_lacksReleased_9 : decode cM_lacksReleased 9 = .ok (.iload_n 1, 1) := by decide +kernel
theorem dM_lacksReleased_10 : decode cM_lacksReleased 10 = .ok (.iconst 3, 1) := by decide +kernel
theorem dM_lacksReleased_11 : decode cM_lacksReleased 11 = .ok (.iadd, 1) := by decide +kernel
theorem dM_lacksReleased_12 : decode cM_lacksReleased 12 = .ok (.iaload, 1) := by decide +kernel
theorem dM_lacksReleased_13 : decode cM_lacksReleased 13 = .ok (.if_icmp .ge 28, 3) := by decide +kernel
theorem dM_lacksReleased_16 : decode cM_lacksReleased 16 = .ok (.iload_n 2, 1) := by decide +kernel
theorem dM_lacksReleased_17 : decode cM_lacksReleased 17 = .ok (.ifCond .ne 12, 3) := by decide +kernel
theorem dM_lacksReleased_20 : decode cM_lacksReleased 20 = .ok (.aload_n 0, 1) := by decide +kernel
theorem dM_lacksReleased_21 : decode cM_lacksReleased 21 = .ok (.iload_n 1, 1) := by decide +kernel
theorem dM_lacksReleased_22 : decode cM_lacksReleased 22 = .ok (.iload_n 3, 1) := by decide +kernel
theorem dM_lacksReleased_23 : decode cM_lacksReleased 23 = .ok (.invokevirtual 161, 3) := by decide +kernel
theorem dM_lacksReleased_26 : decode cM_lacksReleased 26 = .ok (.ifCond .ne 7, 3) := by decide +kernel
theorem dM_lacksReleased_29 : decode cM_lacksReleased 29 = .ok (.iconst 1, 1) := by decide +kernel
theorem dM_lacksReleased_30 : decode cM_lacksReleased 30 = .ok (.goto 4, 3) := by decide +kernel
theorem dM_lacksReleased_33 : decode cM_lacksReleased 33 = .ok (.iconst 0, 1) := by decide +kernel
theorem dM_lacksReleased_34 : decode cM_lacksReleased 34 = .ok (.istore_n 2, 1) := by decide +kernel
theorem dM_lacksReleased_35 : decode cM_lacksReleased 35 = .ok (.iinc 3 1, 3) := by decide +kernel
theorem dM_lacksReleased_38 : decode cM_lacksReleased 38 = .ok (.goto (-34), 3) := by decide +kernel
theorem dM_lacksReleased_41 : decode cM_lacksReleased 41 = .ok (.iload_n 2, 1) := by decide +kernel
theorem dM_lacksReleased_42 : decode cM_lacksReleased 42 = .ok (.ireturn, 1) := by decide +kernel
abbrev cM_release : ByteArray := prog_9_method_52_code
abbrev yM_release : MethodName := ⟨"DrawingVaultModel", "release", "(III)Z"⟩
theorem dM_release_0 : decode cM_release 0 = .ok (.aload_n 0, 1) := by decide +kernel
theorem dM_release_1 : decode cM_release 1 = .ok (.iload_n 1, 1) := by decide +kernel
theorem dM_release_2 : decode cM_release 2 = .ok (.iload_n 2, 1) := by decide +kernel
theorem dM_release_3 : decode cM_release 3 = .ok (.iload_n 3, 1) := by decide +kernel
theorem dM_release_4 : decode cM_release 4 = .ok (.iconst 4, 1) := by decide +kernel
theorem dM_release_5 : decode cM_release 5 = .ok (.invokevirtual 157, 3) := by decide +kernel
theorem dM_release_8 : decode cM_release 8 = .ok (.istore 4, 2) := by decide +kernel
theorem dM_release_10 : decode cM_release 10 = .ok (.aload_n 0, 1) := by decide +kernel
theorem dM_release_11 : decode cM_release 11 = .ok (.iload_n 1, 1) := by decide +kernel
theorem dM_release_12 : decode cM_release 12 = .ok (.iload_n 2, 1) := by decide +kernel
theorem dM_release_13 : decode cM_release 13 = .ok (.invokevirtual 79, 3) := by decide +kernel
theorem dM_release_16 : decode cM_release 16 = .ok (.ifCond .eq 44, 3) := by decide +kernel
theorem dM_release_19 : decode cM_release 19 = .ok (.aload_n 0, 1) := by decide +kernel
theorem dM_release_20 : decode cM_release 20 = .ok (.iload_n 1, 1) := by decide +kernel
theorem dM_release_21 : decode cM_release 21 = .ok (.iload_n 2, 1) := by decide +kernel
theorem dM_release_22 : decode cM_release 22 = .ok (.invokevirtual 54, 3) := by decide +kernel
theorem dM_release_25 : decode cM_release 25 = .ok (.iconst 1, 1) := by decide +kernel
theorem dM_release_26 : decode cM_release 26 = .ok (.if_icmp .eq 7, 3) := by decide +kernel
theorem dM_release_29 : decode cM_release 29 = .ok (.iconst 1, 1) := by decide +kernel
theorem dM_release_30 : decode cM_release 30 = .ok (.goto 4, 3) := by decide +kernel
theorem dM_release_33 : decode cM_release 33 = .ok (.iconst 0, 1) := by decide +kernel
theorem dM_release_34 : decode cM_release 34 = .ok (.iconst 2, 1) := by decide +kernel
theorem dM_release_35 : decode cM_release 35 = .ok (.iload 4, 2) := by decide +kernel
theorem dM_release_37 : decode cM_release 37 = .ok (.invokestatic 121, 3) := by decide +kernel
theorem dM_release_40 : decode cM_release 40 = .ok (.istore 4, 2) := by decide +kernel
theorem dM_release_42 : decode cM_release 42 = .ok (.aload_n 0, 1) := by decide +kernel
theorem dM_release_43 : decode cM_release 43 = .ok (.aload_n 0, 1) := by decide +kernel
theorem dM_release_44 : decode cM_release 44 = .ok (.iload_n 1, 1) := by decide +kernel
theorem dM_release_45 : decode cM_release 45 = .ok (.iload_n 2, 1) := by decide +kernel
theorem dM_release_46 : decode cM_release 46 = .ok (.invokevirtual 50, 3) := by decide +kernel
theorem dM_release_49 : decode cM_release 49 = .ok (.invokevirtual 164, 3) := by decide +kernel
theorem dM_release_52 : decode cM_release 52 = .ok (.iconst 4, 1) := by decide +kernel
theorem dM_release_53 : decode cM_release 53 = .ok (.iload 4, 2) := by decide +kernel
theorem dM_release_55 : decode cM_release 55 = .ok (.invokestatic 121, 3) := by decide +kernel
theorem dM_release_58 : decode cM_release 58 = .ok (.istore 4, 2) := by decide +kernel
theorem dM_release_60 : decode cM_release 60 = .ok (.aload_n 0, 1) := by decide +kernel
theorem dM_release_61 : decode cM_release 61 = .ok (.iload 4, 2) := by decide +kernel
theorem dM_release_63 : decode cM_release 63 = .ok (.iconst 1, 1) := by decide +kernel
theorem dM_release_64 : decode cM_release 64 = .ok (.invokevirtual 112, 3) := by decide +kernel
theorem dM_release_67 : decode cM_release 67 = .ok (.ifCond .ne 5, 3) := by decide +kernel
theorem dM_release_70 : decode cM_release 70 = .ok (.iconst 0, 1) := by decide +kernel
theorem dM_release_71 : decode cM_release 71 = .ok (.ireturn, 1) := by decide +kernel
theorem dM_release_72 : decode cM_release 72 = .ok (.aload_n 0, 1) := by decide +kernel
theorem dM_release_73 : decode cM_release 73 = .ok (.getfield 7, 3) := by decide +kernel
theorem dM_release_76 : decode cM_release 76 = .ok (.aload_n 0, 1) := by decide +kernel
theorem dM_release_77 : decode cM_release 77 = .ok (.iload_n 1, 1) := by decide +kernel
theorem dM_release_78 : decode cM_release 78 = .ok (.iload_n 2, 1) := by decide +kernel
theorem dM_release_79 : decode cM_release 79 = .ok (.invokevirtual 50, 3) := by decide +kernel
theorem dM_release_82 : decode cM_release 82 = .ok (.iconst 0, 1) := by decide +kernel
theorem dM_release_83 : decode cM_release 83 = .ok (.iadd, 1) := by decide +kernel
theorem dM_release_84 : decode cM_release 84 = .ok (.iconst 2, 1) := by decide +kernel
theorem dM_release_85 : decode cM_release 85 = .ok (.iastore, 1) := by decide +kernel
theorem dM_release_86 : decode cM_release 86 = .ok (.aload_n 0, 1) := by decide +kernel
theorem dM_release_87 : decode cM_release 87 = .ok (.invokevirtual 115, 3) := by decide +kernel
theorem dM_release_90 : decode cM_release 90 = .ok (.iconst 1, 1) := by decide +kernel
theorem dM_release_91 : decode cM_release 91 = .ok (.ireturn, 1) := by decide +kernel
abbrev cM_isInUse : ByteArray := prog_9_method_53_code
abbrev yM_isInUse : MethodName := ⟨"DrawingVaultModel", "isInUse", "(II)Z"⟩
theorem dM_isInUse_0 : decode cM_isInUse 0 = .ok (.iconst 0, 1) := by decide +kernel
theorem dM_isInUse_1 : decode cM_isInUse 1 = .ok (.istore_n 3, 1) := by decide +kernel
theorem dM_isInUse_2 : decode cM_isInUse 2 = .ok (.iconst 0, 1) := by decide +kernel
theorem dM_isInUse_3 : decode cM_isInUse 3 = .ok (.istore 4, 2) := by decide +kernel
theorem dM_isInUse_5 : decode cM_isInUse 5 = .ok (.iload 4, 2) := by decide +kernel
theorem dM_isInUse_7 : decode cM_isInUse 7 = .ok (.bipush 10, 2) := by decide +kernel
theorem dM_isInUse_9 : decode cM_isInUse 9 = .ok (.if_icmp .ge 54, 3) := by decide +kernel
theorem dM_isInUse_12 : decode cM_isInUse 12 = .ok (.iload_n 3, 1) := by decide +kernel
theorem dM_isInUse_13 : decode cM_isInUse 13 = .ok (.ifCond .ne 38, 3) := by decide +kernel
theorem dM_isInUse_16 : decode cM_isInUse 16 = .ok (.aload_n 0, 1) := by decide +kernel
theorem dM_isInUse_17 : decode cM_isInUse 17 = .ok (.getfield 7, 3) := by decide +kernel
theorem dM_isInUse_20 : decode cM_isInUse 20 = .ok (.aload_n 0, 1) := by decide +kernel
theorem dM_isInUse_21 : decode cM_isInUse 21 = .ok (.iload 4, 2) := by decide +kernel
theorem dM_isInUse_23 : decode cM_isInUse 23 = .ok (.invokevirtual 99, 3) := by decide +kernel
theorem dM_isInUse_26 : decode cM_isInUse 26 = .ok (.iaload, 1) := by decide +kernel
theorem dM_isInUse_27 : decode cM_isInUse 27 = .ok (.ifCond .le 28, 3) := by decide +kernel
theorem dM_isInUse_30 : decode cM_isInUse 30 = .ok (.aload_n 0, 1) := by decide +kernel
theorem dM_isInUse_31 : decode cM_isInUse 31 = .ok (.getfield 7, 3) := by decide +kernel
theorem dM_isInUse_34 : decode cM_isInUse 34 = .ok (.aload_n 0, 1) := by decide +kernel
theorem dM_isInUse_35 : decode cM_isInUse 35 = .ok (.iload 4, 2) := by decide +kernel
theorem dM_isInUse_37 : decode cM_isInUse 37 = .ok (.invokevirtual 99, 3) := by decide +kernel
theorem dM_isInUse_40 : decode cM_isInUse 40 = .ok (.iconst 2, 1) := by decide +kernel
theorem dM_isInUse_41 : decode cM_isInUse 41 = .ok (.iadd, 1) := by decide +kernel
theorem dM_isInUse_42 : decode cM_isInUse 42 = .ok (.iload_n 1, 1) := by decide +kernel
theorem dM_isInUse_43 : decode cM_isInUse 43 = .ok (.iadd, 1) := by decide +kernel
theorem dM_isInUse_44 : decode cM_isInUse 44 = .ok (.iaload, 1) := by decide +kernel
theorem dM_isInUse_45 : decode cM_isInUse 45 = .ok (.iload_n 2, 1) := by decide +kernel
theorem dM_isInUse_46 : decode cM_isInUse 46 = .ok (.iconst 1, 1) := by decide +kernel
theorem dM_isInUse_47 : decode cM_isInUse 47 = .ok (.iadd, 1) := by decide +kernel
theorem dM_isInUse_48 : decode cM_isInUse 48 = .ok (.if_icmp .ne 7, 3) := by decide +kernel
theorem dM_isInUse_51 : decode cM_isInUse 51 = .ok (.iconst 1, 1) := by decide +kernel
theorem dM_isInUse_52 : decode cM_isInUse 52 = .ok (.goto 4, 3) := by decide +kernel
theorem dM_isInUse_55 : decode cM_isInUse 55 = .ok (.iconst 0, 1) := by decide +kernel
theorem dM_isInUse_56 : decode cM_isInUse 56 = .ok (.istore_n 3, 1) := by decide +kernel
theorem dM_isInUse_57 : decode cM_isInUse 57 = .ok (.iinc 4 1, 3) := by decide +kernel
theorem dM_isInUse_60 : decode cM_isInUse 60 = .ok (.goto (-55), 3) := by decide +kernel
theorem dM_isInUse_63 : decode cM_isInUse 63 = .ok (.iconst 0, 1) := by decide +kernel
theorem dM_isInUse_64 : decode cM_isInUse 64 = .ok (.istore 4, 2) := by decide +kernel
theorem dM_isInUse_66 : decode cM_isInUse 66 = .ok (.iload 4, 2) := by decide +kernel
theorem dM_isInUse_68 : decode cM_isInUse 68 = .ok (.aload_n 0, 1) := by decide +kernel
theorem dM_isInUse_69 : decode cM_isInUse 69 = .ok (.getfield 7, 3) := by decide +kernel
theorem dM_isInUse_72 : decode cM_isInUse 72 = .ok (.bipush 16, 2) := by decide +kernel
theorem dM_isInUse_74 : decode cM_isInUse 74 = .ok (.iaload, 1) := by decide +kernel
theorem dM_isInUse_75 : decode cM_isInUse 75 = .ok (.if_icmp .ge 108, 3) := by decide +kernel
theorem dM_isInUse_78 : decode cM_isInUse 78 = .ok (.iconst 0, 1) := by decide +kernel
theorem dM_isInUse_79 : decode cM_isInUse 79 = .ok (.istore 5, 2) := by decide +kernel
theorem dM_isInUse_81 : decode cM_isInUse 81 = .ok (.iload 5, 2) := by decide +kernel
theorem dM_isInUse_83 : decode cM_isInUse 83 = .ok (.aload_n 0, 1) := by decide +kernel
theorem dM_isInUse_84 : decode cM_isInUse 84 = .ok (.iload 4, 2) := by decide +kernel
theorem dM_isInUse_86 : decode cM_isInUse 86 = .ok (.invokevirtual 47, 3) := by decide +kernel
theorem dM_isInUse_89 : decode cM_isInUse 89 = .ok (.if_icmp .ge 88, 3) := by decide +kernel
theorem dM_isInUse_92 : decode cM_isInUse 92 = .ok (.aload_n 0, 1) := by decide +kernel
theorem dM_isInUse_93 : decode cM_isInUse 93 = .ok (.iload 4, 2) := by decide +kernel
theorem dM_isInUse_95 : decode cM_isInUse 95 = .ok (.iload 5, 2) := by decide +kernel
theorem dM_isInUse_97 : decode cM_isInUse 97 = .ok (.invokevirtual 50, 3) := by decide +kernel
theorem dM_isInUse_100 : decode cM_isInUse 100 = .ok (.istore 6, 2) := by decide +kernel
theorem dM_isInUse_102 : decode cM_isInUse 102 = .ok (.iconst 0, 1) := by decide +kernel
theorem dM_isInUse_103 : decode cM_isInUse 103 = .ok (.istore 7, 2) := by decide +kernel
theorem dM_isInUse_105 : decode cM_isInUse 105 = .ok (.iload 7, 2) := by decide +kernel
theorem dM_isInUse_107 : decode cM_isInUse 107 = .ok (.aload_n 0, 1) := by decide +kernel
theorem dM_isInUse_108 : decode cM_isInUse 108 = .ok (.getfield 7, 3) := by decide +kernel
theorem dM_isInUse_111 : decode cM_isInUse 111 = .ok (.iload 6, 2) := by decide +kernel
theorem dM_isInUse_113 : decode cM_isInUse 113 = .ok (.iconst 3, 1) := by decide +kernel
theorem dM_isInUse_114 : decode cM_isInUse 114 = .ok (.iadd, 1) := by decide +kernel
theorem dM_isInUse_115 : decode cM_isInUse 115 = .ok (.iaload, 1) := by decide +kernel
theorem dM_isInUse_116 : decode cM_isInUse 116 = .ok (.if_icmp .ge 55, 3) := by decide +kernel
theorem dM_isInUse_119 : decode cM_isInUse 119 = .ok (.iload_n 3, 1) := by decide +kernel
theorem dM_isInUse_120 : decode cM_isInUse 120 = .ok (.ifCond .ne 39, 3) := by decide +kernel
theorem dM_isInUse_123 : decode cM_isInUse 123 = .ok (.aload_n 0, 1) := by decide +kernel
theorem dM_isInUse_124 : decode cM_isInUse 124 = .ok (.iload 4, 2) := by decide +kernel
theorem dM_isInUse_126 : decode cM_isInUse 126 = .ok (.iload 5, 2) := by decide +kernel
theorem dM_isInUse_128 : decode cM_isInUse 128 = .ok (.invokevirtual 54, 3) := by decide +kernel
theorem dM_isInUse_131 : decode cM_isInUse 131 = .ok (.iconst 2, 1) := by decide +kernel
theorem dM_isInUse_132 : decode cM_isInUse 132 = .ok (.if_icmp .ne 31, 3) := by decide +kernel
theorem dM_isInUse_135 : decode cM_isInUse 135 = .ok (.aload_n 0, 1) := by decide +kernel
theorem dM_isInUse_136 : decode cM_isInUse 136 = .ok (.iload 6, 2) := by decide +kernel
theorem dM_isInUse_138 : decode cM_isInUse 138 = .ok (.iload 7, 2) := by decide +kernel
theorem dM_isInUse_140 : decode cM_isInUse 140 = .ok (.invokevirtual 60, 3) := by decide +kernel
theorem dM_isInUse_143 : decode cM_isInUse 143 = .ok (.iload_n 1, 1) := by decide +kernel
theorem dM_isInUse_144 : decode cM_isInUse 144 = .ok (.if_icmp .ne 19, 3) := by decide +kernel
theorem dM_isInUse_147 : decode cM_isInUse 147 = .ok (.aload_n 0, 1) := by decide +kernel
theorem dM_isInUse_148 : decode cM_isInUse 148 = .ok (.iload 6, 2) := by decide +kernel
theorem dM_isInUse_150 : decode cM_isInUse 150 = .ok (.iload 7, 2) := by decide +kernel
theorem dM_isInUse_152 : decode cM_isInUse 152 = .ok (.invokevirtual 57, 3) := by decide +kernel
theorem dM_isInUse_155 : decode cM_isInUse 155 = .ok (.iload_n 2, 1) := by decide +kernel
theorem dM_isInUse_156 : decode cM_isInUse 156 = .ok (.if_icmp .ne 7, 3) := by decide +kernel
theorem dM_isInUse_159 : decode cM_isInUse 159 = .ok (.iconst 1, 1) := by decide +kernel
theorem dM_isInUse_160 : decode cM_isInUse 160 = .ok (.goto 4, 3) := by decide +kernel
theorem dM_isInUse_163 : decode cM_isInUse 163 = .ok (.iconst 0, 1) := by decide +kernel
theorem dM_isInUse_164 : decode cM_isInUse 164 = .ok (.istore_n 3, 1) := by decide +kernel
theorem dM_isInUse_165 : decode cM_isInUse 165 = .ok (.iinc 7 1, 3) := by decide +kernel
theorem dM_isInUse_168 : decode cM_isInUse 168 = .ok (.goto (-63), 3) := by decide +kernel
theorem dM_isInUse_171 : decode cM_isInUse 171 = .ok (.iinc 5 1, 3) := by decide +kernel
theorem dM_isInUse_174 : decode cM_isInUse 174 = .ok (.goto (-93), 3) := by decide +kernel
theorem dM_isInUse_177 : decode cM_isInUse 177 = .ok (.iinc 4 1, 3) := by decide +kernel
theorem dM_isInUse_180 : decode cM_isInUse 180 = .ok (.goto (-114), 3) := by decide +kernel
theorem dM_isInUse_183 : decode cM_isInUse 183 = .ok (.iload_n 3, 1) := by decide +kernel
theorem dM_isInUse_184 : decode cM_isInUse 184 = .ok (.ireturn, 1) := by decide +kernel
abbrev cM_withdraw : ByteArray := prog_9_method_54_code
abbrev yM_withdraw : MethodName := ⟨"DrawingVaultModel", "withdraw", "(III)Z"⟩
theorem dM_withdraw_0 : decode cM_withdraw 0 = .ok (.aload_n 0, 1) := by decide +kernel
theorem dM_withdraw_1 : decode cM_withdraw 1 = .ok (.iload_n 1, 1) := by decide +kernel
theorem dM_withdraw_2 : decode cM_withdraw 2 = .ok (.iload_n 2, 1) := by decide +kernel
theorem dM_withdraw_3 : decode cM_withdraw 3 = .ok (.iload_n 3, 1) := by decide +kernel
theorem dM_withdraw_4 : decode cM_withdraw 4 = .ok (.iconst 4, 1) := by decide +kernel
theorem dM_withdraw_5 : decode cM_withdraw 5 = .ok (.invokevirtual 157, 3) := by decide +kernel
theorem dM_withdraw_8 : decode cM_withdraw 8 = .ok (.istore 4, 2) := by decide +kernel
theorem dM_withdraw_10 : decode cM_withdraw 10 = .ok (.aload_n 0, 1) := by decide +kernel
theorem dM_withdraw_11 : decode cM_withdraw 11 = .ok (.iload_n 1, 1) := by decide +kernel
theorem dM_withdraw_12 : decode cM_withdraw 12 = .ok (.iload_n 2, 1) := by decide +kernel
theorem dM_withdraw_13 : decode cM_withdraw 13 = .ok (.invokevirtual 79, 3) := by decide +kernel
theorem dM_withdraw_16 : decode cM_withdraw 16 = .ok (.ifCond .eq 40, 3) := by decide +kernel
theorem dM_withdraw_19 : decode cM_withdraw 19 = .ok (.aload_n 0, 1) := by decide +kernel
theorem dM_withdraw_20 : decode cM_withdraw 20 = .ok (.iload_n 1, 1) := by decide +kernel
theorem dM_withdraw_21 : decode cM_withdraw 21 = .ok (.iload_n 2, 1) := by decide +kernel
theorem dM_withdraw_22 : decode cM_withdraw 22 = .ok (.invokevirtual 54, 3) := by decide +kernel
theorem dM_withdraw_25 : decode cM_withdraw 25 = .ok (.iconst 3, 1) := by decide +kernel
theorem dM_withdraw_26 : decode cM_withdraw 26 = .ok (.if_icmp .ne 7, 3) := by decide +kernel
theorem dM_withdraw_29 : decode cM_withdraw 29 = .ok (.iconst 1, 1) := by decide +kernel
theorem dM_withdraw_30 : decode cM_withdraw 30 = .ok (.goto 4, 3) := by decide +kernel
theorem dM_withdraw_33 : decode cM_withdraw 33 = .ok (.iconst 0, 1) := by decide +kernel
theorem dM_withdraw_34 : decode cM_withdraw 34 = .ok (.iconst 2, 1) := by decide +kernel
theorem dM_withdraw_35 : decode cM_withdraw 35 = .ok (.iload 4, 2) := by decide +kernel
theorem dM_withdraw_37 : decode cM_withdraw 37 = .ok (.invokestatic 121, 3) := by decide +kernel
theorem dM_withdraw_40 : decode cM_withdraw 40 = .ok (.istore 4, 2) := by decide +kernel
theorem dM_withdraw_42 : decode cM_withdraw 42 = .ok (.aload_n 0, 1) := by decide +kernel
theorem dM_withdraw_43 : decode cM_withdraw 43 = .ok (.iload_n 1, 1) := by decide +kernel
theorem dM_withdraw_44 : decode cM_withdraw 44 = .ok (.iload_n 2, 1) := by decide +kernel
theorem dM_withdraw_45 : decode cM_withdraw 45 = .ok (.invokevirtual 167, 3) := by decide +kernel
theorem dM_withdraw_48 : decode cM_withdraw 48 = .ok (.iconst 5, 1) := by decide +kernel
theorem dM_withdraw_49 : decode cM_withdraw 49 = .ok (.iload 4, 2) := by decide +kernel
theorem dM_withdraw_51 : decode cM_withdraw 51 = .ok (.invokestatic 121, 3) := by decide +kernel
theorem dM_withdraw_54 : decode cM_withdraw 54 = .ok (.istore 4, 2) := by decide +kernel
theorem dM_withdraw_56 : decode cM_withdraw 56 = .ok (.aload_n 0, 1) := by decide +kernel
theorem dM_withdraw_57 : decode cM_withdraw 57 = .ok (.iload 4, 2) := by decide +kernel
theorem dM_withdraw_59 : decode cM_withdraw 59 = .ok (.iconst 1, 1) := by decide +kernel
theorem dM_withdraw_60 : decode cM_withdraw 60 = .ok (.invokevirtual 112, 3) := by decide +kernel
theorem dM_withdraw_63 : decode cM_withdraw 63 = .ok (.ifCond .ne 5, 3) := by decide +kernel
theorem dM_withdraw_66 : decode cM_withdraw 66 = .ok (.iconst 0, 1) := by decide +kernel
theorem dM_withdraw_67 : decode cM_withdraw 67 = .ok (.ireturn, 1) := by decide +kernel
theorem dM_withdraw_68 : decode cM_withdraw 68 = .ok (.aload_n 0, 1) := by decide +kernel
theorem dM_withdraw_69 : decode cM_withdraw 69 = .ok (.getfield 7, 3) := by decide +kernel
theorem dM_withdraw_72 : decode cM_withdraw 72 = .ok (.aload_n 0, 1) := by decide +kernel
theorem dM_withdraw_73 : decode cM_withdraw 73 = .ok (.iload_n 1, 1) := by decide +kernel
theorem dM_withdraw_74 : decode cM_withdraw 74 = .ok (.iload_n 2, 1) := by decide +kernel
theorem dM_withdraw_75 : decode cM_withdraw 75 = .ok (.invokevirtual 50, 3) := by decide +kernel
theorem dM_withdraw_78 : decode cM_withdraw 78 = .ok (.iconst 0, 1) := by decide +kernel
theorem dM_withdraw_79 : decode cM_withdraw 79 = .ok (.iadd, 1) := by decide +kernel
theorem dM_withdraw_80 : decode cM_withdraw 80 = .ok (.iconst 3, 1) := by decide +kernel
theorem dM_withdraw_81 : decode cM_withdraw 81 = .ok (.iastore, 1) := by decide +kernel
theorem dM_withdraw_82 : decode cM_withdraw 82 = .ok (.aload_n 0, 1) := by decide +kernel
theorem dM_withdraw_83 : decode cM_withdraw 83 = .ok (.invokevirtual 115, 3) := by decide +kernel
theorem dM_withdraw_86 : decode cM_withdraw 86 = .ok (.iconst 1, 1) := by decide +kernel
theorem dM_withdraw_87 : decode cM_withdraw 87 = .ok (.ireturn, 1) := by decide +kernel
abbrev cM_spread : ByteArray := prog_9_method_56_code
abbrev yM_spread : MethodName := ⟨"DrawingVaultModel", "spread", "(I)Z"⟩
theorem dM_spread_0 : decode cM_spread 0 = .ok (.sipush 1940, 3) := by decide +kernel
theorem dM_spread_3 : decode cM_spread 3 = .ok (.bipush 80, 2) := by decide +kernel
theorem dM_spread_5 : decode cM_spread 5 = .ok (.iload_n 1, 1) := by decide +kernel
theorem dM_spread_6 : decode cM_spread 6 = .ok (.imul, 1) := by decide +kernel
theorem dM_spread_7 : decode cM_spread 7 = .ok (.iadd, 1) := by decide +kernel
theorem dM_spread_8 : decode cM_spread 8 = .ok (.istore_n 2, 1) := by decide +kernel
theorem dM_spread_9 : decode cM_spread 9 = .ok (.iconst 0, 1) := by decide +kernel
theorem dM_spread_10 : decode cM_spread 10 = .ok (.istore_n 3, 1) := by decide +kernel
theorem dM_spread_11 : decode cM_spread 11 = .ok (.iconst 0, 1) := by decide +kernel
theorem dM_spread_12 : decode cM_spread 12 = .ok (.istore 4, 2) := by decide +kernel
theorem dM_spread_14 : decode cM_spread 14 = .ok (.iload 4, 2) := by decide +kernel
theorem dM_spread_16 : decode cM_spread 16 = .ok (.aload_n 0, 1) := by decide +kernel
theorem dM_spread_17 : decode cM_spread 17 = .ok (.getfield 7, 3) := by decide +kernel
theorem dM_spread_20 : decode cM_spread 20 = .ok (.iload_n 2, 1) := by decide +kernel
theorem dM_spread_21 : decode cM_spread 21 = .ok (.iconst 3, 1) := by decide +kernel
theorem dM_spread_22 : decode cM_spread 22 = .ok (.iadd, 1) := by decide +kernel
theorem dM_spread_23 : decode cM_spread 23 = .ok (.iaload, 1) := by decide +kernel
theorem dM_spread_24 : decode cM_spread 24 = .ok (.if_icmp .ge 96, 3) := by decide +kernel
theorem dM_spread_27 : decode cM_spread 27 = .ok (.aload_n 0, 1) := by decide +kernel
theorem dM_spread_28 : decode cM_spread 28 = .ok (.iload_n 2, 1) := by decide +kernel
theorem dM_spread_29 : decode cM_spread 29 = .ok (.iload 4, 2) := by decide +kernel
theorem dM_spread_31 : decode cM_spread 31 = .ok (.invokevirtual 161, 3) := by decide +kernel
theorem dM_spread_34 : decode cM_spread 34 = .ok (.istore 5, 2) := by decide +kernel
theorem dM_spread_36 : decode cM_spread 36 = .ok (.aload_n 0, 1) := by decide +kernel
theorem dM_spread_37 : decode cM_spread 37 = .ok (.aload_n 0, 1) := by decide +kernel
theorem dM_spread_38 : decode cM_spread 38 = .ok (.getfield 173, 3) := by decide +kernel
theorem dM_spread_41 : decode cM_spread 41 = .ok (.ifCond .ne 8, 3) := by decide +kernel
theorem dM_spread_44 : decode cM_spread 44 = .ok (.iload 5, 2) := by decide +kernel
theorem dM_spread_46 : decode cM_spread 46 = .ok (.ifCond .ne 7, 3) := by decide +kernel
theorem dM_spread_49 : decode cM_spread 49 = .ok (.iconst 1, 1) := by decide +kernel
theorem dM_spread_50 : decode cM_spread 50 = .ok (.goto 4, 3) := by decide +kernel
theorem dM_spread_53 : decode cM_spread 53 = .ok (.iconst 0, 1) := by decide +kernel
theorem dM_spread_54 : decode cM_spread 54 = .ok (.putfield 173, 3) := by decide +kernel
theorem dM_spread_57 : decode cM_spread 57 = .ok (.iload 5, 2) := by decide +kernel
theorem dM_spread_59 : decode cM_spread 59 = .ok (.ifCond .eq 24, 3) := by decide +kernel
theorem dM_spread_62 : decode cM_spread 62 = .ok (.bipush 12, 2) := by decide +kernel
theorem dM_spread_64 : decode cM_spread 64 = .ok (.aload_n 0, 1) := by decide +kernel
theorem dM_spread_65 : decode cM_spread 65 = .ok (.iload_n 2, 1) := by decide +kernel
theorem dM_spread_66 : decode cM_spread 66 = .ok (.iload 4, 2) := by decide +kernel
theorem dM_spread_68 : decode cM_spread 68 = .ok (.invokevirtual 60, 3) := by decide +kernel
theorem dM_spread_71 : decode cM_spread 71 = .ok (.imul, 1) := by decide +kernel
theorem dM_spread_72 : decode cM_spread 72 = .ok (.aload_n 0, 1) := by decide +kernel
theorem dM_spread_73 : decode cM_spread 73 = .ok (.iload_n 2, 1) := by decide +kernel
theorem dM_spread_74 : decode cM_spread 74 = .ok (.iload 4, 2) := by decide +kernel
theorem dM_spread_76 : decode cM_spread 76 = .ok (.invokevirtual 66, 3) := by decide +kernel
theorem dM_spread_79 : decode cM_spread 79 = .ok (.iadd, 1) := by decide +kernel
theorem dM_spread_80 : decode cM_spread 80 = .ok (.goto 4, 3) := by decide +kernel
theorem dM_spread_83 : decode cM_spread 83 = .ok (.iload_n 1, 1) := by decide +kernel
theorem dM_spread_84 : decode cM_spread 84 = .ok (.istore 6, 2) := by decide +kernel
theorem dM_spread_86 : decode cM_spread 86 = .ok (.iload_n 3, 1) := by decide +kernel
theorem dM_spread_87 : decode cM_spread 87 = .ok (.ifCond .ne 13, 3) := by decide +kernel
theorem dM_spread_90 : decode cM_spread 90 = .ok (.aload_n 0, 1) := by decide +kernel
theorem dM_spread_91 : decode cM_spread 91 = .ok (.getfield 27, 3) := by decide +kernel
theorem dM_spread_94 : decode cM_spread 94 = .ok (.iload 6, 2) := by decide +kernel
theorem dM_spread_96 : decode cM_spread 96 = .ok (.baload, 1) := by decide +kernel
theorem dM_spread_97 : decode cM_spread 97 = .ok (.ifCond .ne 7, 3) := by decide +kernel
theorem dM_spread_100 : decode cM_spread 100 = .ok (.iconst 1, 1) := by decide +kernel
theorem dM_spread_101 : decode cM_spread 101 = .ok (.goto 4, 3) := by decide +kernel
theorem dM_spread_104 : decode cM_spread 104 = .ok (.iconst 0, 1) := by decide +kernel
theorem dM_spread_105 : decode cM_spread 105 = .ok (.istore_n 3, 1) := by decide +kernel
theorem dM_spread_106 : decode cM_spread 106 = .ok (.aload_n 0, 1) := by decide +kernel
theorem dM_spread_107 : decode cM_spread 107 = .ok (.getfield 27, 3) := by decide +kernel
theorem dM_spread_110 : decode cM_spread 110 = .ok (.iload 6, 2) := by decide +kernel
theorem dM_spread_112 : decode cM_spread 112 = .ok (.iconst 1, 1) := by decide +kernel
theorem dM_spread_113 : decode cM_spread 113 = .ok (.bastore, 1) := by decide +kernel
theorem dM_spread_114 : decode cM_spread 114 = .ok (.iinc 4 1, 3) := by decide +kernel
theorem dM_spread_117 : decode cM_spread 117 = .ok (.goto (-103), 3) := by decide +kernel
theorem dM_spread_120 : decode cM_spread 120 = .ok (.iload_n 3, 1) := by decide +kernel
theorem dM_spread_121 : decode cM_spread 121 = .ok (.ireturn, 1) := by decide +kernel
abbrev cM_reach : ByteArray := prog_9_method_55_code
abbrev yM_reach : MethodName := ⟨"DrawingVaultModel", "reach", "(I)V"⟩
theorem dM_reach_0 : decode cM_reach 0 = .ok (.iconst 0, 1) := by decide +kernel
theorem dM_reach_1 : decode cM_reach 1 = .ok (.istore_n 2, 1) := by decide +kernel
theorem dM_reach_2 : decode cM_reach 2 = .ok (.iload_n 2, 1) := by decide +kernel
theorem dM_reach_3 : decode cM_reach 3 = .ok (.bipush 24, 2) := by decide +kernel
theorem dM_reach_5 : decode cM_reach 5 = .ok (.if_icmp .ge 16, 3) := by decide +kernel
theorem dM_reach_8 : decode cM_reach 8 = .ok (.aload_n 0, 1) := by decide +kernel
theorem dM_reach_9 : decode cM_reach 9 = .ok (.getfield 24, 3) := by decide +kernel
theorem dM_reach_12 : decode cM_reach 12 = .ok (.iload_n 2, 1) := by decide +kernel
theorem dM_reach_13 : decode cM_reach 13 = .ok (.iconst (-1), 1) := by decide +kernel
theorem dM_reach_14 : decode cM_reach 14 = .ok (.iastore, 1) := by decide +kernel
theorem dM_reach_15 : decode cM_reach 15 = .ok (.iinc 2 1, 3) := by decide +kernel
theorem dM_reach_18 : decode cM_reach 18 = .ok (.goto (-16), 3) := by decide +kernel
theorem dM_reach_21 : decode cM_reach 21 = .ok (.aload_n 0, 1) := by decide +kernel
theorem dM_reach_22 : decode cM_reach 22 = .ok (.iconst 0, 1) := by decide +kernel
theorem dM_reach_23 : decode cM_reach 23 = .ok (.putfield 170, 3) := by decide +kernel
theorem dM_reach_26 : decode cM_reach 26 = .ok (.aload_n 0, 1) := by decide +kernel
theorem dM_reach_27 : decode cM_reach 27 = .ok (.iconst 0, 1) := by decide +kernel
theorem dM_reach_28 : decode cM_reach 28 = .ok (.putfield 173, 3) := by decide +kernel
theorem dM_reach_31 : decode cM_reach 31 = .ok (.iconst 0, 1) := by decide +kernel
theorem dM_reach_32 : decode cM_reach 32 = .ok (.istore_n 2, 1) := by decide +kernel
theorem dM_reach_33 : decode cM_reach 33 = .ok (.iload_n 2, 1) := by decide +kernel
theorem dM_reach_34 : decode cM_reach 34 = .ok (.sipush 288, 3) := by decide +kernel
theorem dM_reach_37 : decode cM_reach 37 = .ok (.if_icmp .ge 16, 3) := by decide +kernel
theorem dM_reach_40 : decode cM_reach 40 = .ok (.aload_n 0, 1) := by decide +kernel
theorem dM_reach_41 : decode cM_reach 41 = .ok (.getfield 27, 3) := by decide +kernel
theorem dM_reach_44 : decode cM_reach 44 = .ok (.iload_n 2, 1) := by decide +kernel
theorem dM_reach_45 : decode cM_reach 45 = .ok (.iconst 0, 1) := by decide +kernel
theorem dM_reach_46 : decode cM_reach 46 = .ok (.bastore, 1) := by decide +kernel
theorem dM_reach_47 : decode cM_reach 47 = .ok (.iinc 2 1, 3) := by decide +kernel
theorem dM_reach_50 : decode cM_reach 50 = .ok (.goto (-17), 3) := by decide +kernel
theorem dM_reach_53 : decode cM_reach 53 = .ok (.aload_n 0, 1) := by decide +kernel
theorem dM_reach_54 : decode cM_reach 54 = .ok (.getfield 27, 3) := by decide +kernel
theorem dM_reach_57 : decode cM_reach 57 = .ok (.bipush 12, 2) := by decide +kernel
theorem dM_reach_59 : decode cM_reach 59 = .ok (.iload_n 1, 1) := by decide +kernel
theorem dM_reach_60 : decode cM_reach 60 = .ok (.imul, 1) := by decide +kernel
theorem dM_reach_61 : decode cM_reach 61 = .ok (.aload_n 0, 1) := by decide +kernel
theorem dM_reach_62 : decode cM_reach 62 = .ok (.iload_n 1, 1) := by decide +kernel
theorem dM_reach_63 : decode cM_reach 63 = .ok (.invokevirtual 63, 3) := by decide +kernel
theorem dM_reach_66 : decode cM_reach 66 = .ok (.iadd, 1) := by decide +kernel
theorem dM_reach_67 : decode cM_reach 67 = .ok (.iconst 1, 1) := by decide +kernel
theorem dM_reach_68 : decode cM_reach 68 = .ok (.bastore, 1) := by decide +kernel
theorem dM_reach_69 : decode cM_reach 69 = .ok (.iconst 1, 1) := by decide +kernel
theorem dM_reach_70 : decode cM_reach 70 = .ok (.istore_n 2, 1) := by decide +kernel
theorem dM_reach_71 : decode cM_reach 71 = .ok (.iload_n 2, 1) := by decide +kernel
theorem dM_reach_72 : decode cM_reach 72 = .ok (.ifCond .eq 50, 3) := by decide +kernel
theorem dM_reach_75 : decode cM_reach 75 = .ok (.iconst 0, 1) := by decide +kernel
theorem dM_reach_76 : decode cM_reach 76 = .ok (.istore_n 2, 1) := by decide +kernel
theorem dM_reach_77 : decode cM_reach 77 = .ok (.iconst 0, 1) := by decide +kernel
theorem dM_reach_78 : decode cM_reach 78 = .ok (.istore_n 3, 1) := by decide +kernel
theorem dM_reach_79 : decode cM_reach 79 = .ok (.iload_n 3, 1) := by decide +kernel
theorem dM_reach_80 : decode cM_reach 80 = .ok (.sipush 288, 3) := by decide +kernel
theorem dM_reach_83 : decode cM_reach 83 = .ok (.if_icmp .ge 36, 3) := by decide +kernel
theorem dM_reach_86 : decode cM_reach 86 = .ok (.aload_n 0, 1) := by decide +kernel
theorem dM_reach_87 : decode cM_reach 87 = .ok (.getfield 27, 3) := by decide +kernel
theorem dM_reach_90 : decode cM_reach 90 = .ok (.iload_n 3, 1) := by decide +kernel
theorem dM_reach_91 : decode cM_reach 91 = .ok (.baload, 1) := by decide +kernel
theorem dM_reach_92 : decode cM_reach 92 = .ok (.ifCond .eq 11, 3) := by decide +kernel
theorem dM_reach_95 : decode cM_reach 95 = .ok (.aload_n 0, 1) := by decide +kernel
theorem dM_reach_96 : decode cM_reach 96 = .ok (.iload_n 3, 1) := by decide +kernel
theorem dM_reach_97 : decode cM_reach 97 = .ok (.invokevirtual 176, 3) := by decide +kernel
theorem dM_reach_100 : decode cM_reach 100 = .ok (.ifCond .ne 7, 3) := by decide +kernel
theorem dM_reach_103 : decode cM_reach 103 = .ok (.iload_n 2, 1) := by decide +kernel
theorem dM_reach_104 : decode cM_reach 104 = .ok (.ifCond .eq 7, 3) := by decide +kernel
theorem dM_reach_107 : decode cM_reach 107 = .ok (.iconst 1, 1) := by decide +kernel
theorem dM_reach_108 : decode cM_reach 108 = .ok (.goto 4, 3) := by decide +kernel
theorem dM_reach_111 : decode cM_reach 111 = .ok (.iconst 0, 1) := by decide +kernel
theorem dM_reach_112 : decode cM_reach 112 = .ok (.istore_n 2, 1) := by decide +kernel
theorem dM_reach_113 : decode cM_reach 113 = .ok (.iinc 3 1, 3) := by decide +kernel
theorem dM_reach_116 : decode cM_reach 116 = .ok (.goto (-37), 3) := by decide +kernel
theorem dM_reach_119 : decode cM_reach 119 = .ok (.goto (-48), 3) := by decide +kernel
theorem dM_reach_122 : decode cM_reach 122 = .ok (.iconst 0, 1) := by decide +kernel
theorem dM_reach_123 : decode cM_reach 123 = .ok (.istore_n 3, 1) := by decide +kernel
theorem dM_reach_124 : decode cM_reach 124 = .ok (.iload_n 3, 1) := by decide +kernel
theorem dM_reach_125 : decode cM_reach 125 = .ok (.sipush 288, 3) := by decide +kernel
theorem dM_reach_128 : decode cM_reach 128 = .ok (.if_icmp .ge 59, 3) := by decide +kernel
theorem dM_reach_131 : decode cM_reach 131 = .ok (.aload_n 0, 1) := by decide +kernel
theorem dM_reach_132 : decode cM_reach 132 = .ok (.getfield 27, 3) := by decide +kernel
theorem dM_reach_135 : decode cM_reach 135 = .ok (.iload_n 3, 1) := by decide +kernel
theorem dM_reach_136 : decode cM_reach 136 = .ok (.baload, 1) := by decide +kernel
theorem dM_reach_137 : decode cM_reach 137 = .ok (.ifCond .eq 44, 3) := by decide +kernel
theorem dM_reach_140 : decode cM_reach 140 = .ok (.aload_n 0, 1) := by decide +kernel
theorem dM_reach_141 : decode cM_reach 141 = .ok (.aload_n 0, 1) := by decide +kernel
theorem dM_reach_142 : decode cM_reach 142 = .ok (.getfield 170, 3) := by decide +kernel
theorem dM_reach_145 : decode cM_reach 145 = .ok (.ifCond .ne 15, 3) := by decide +kernel
theorem dM_reach_148 : decode cM_reach 148 = .ok (.aload_n 0, 1) := by decide +kernel
theorem dM_reach_149 : decode cM_reach 149 = .ok (.getfield 24, 3) := by decide +kernel
theorem dM_reach_152 : decode cM_reach 152 = .ok (.iload_n 3, 1) := by decide +kernel
theorem dM_reach_153 : decode cM_reach 153 = .ok (.bipush 12, 2) := by decide +kernel
theorem dM_reach_155 : decode cM_reach 155 = .ok (.idiv, 1) := by decide +kernel
theorem dM_reach_156 : decode cM_reach 156 = .ok (.iaload, 1) := by decide +kernel
theorem dM_reach_157 : decode cM_reach 157 = .ok (.ifCond .lt 7, 3) := by decide +kernel
theorem dM_reach_160 : decode cM_reach 160 = .ok (.iconst 1, 1) := by decide +kernel
theorem dM_reach_161 : decode cM_reach 161 = .ok (.goto 4, 3) := by decide +kernel
theorem dM_reach_164 : decode cM_reach 164 = .ok (.iconst 0, 1) := by decide +kernel
theorem dM_reach_165 : decode cM_reach 165 = .ok (.putfield 170, 3) := by decide +kernel
theorem dM_reach_168 : decode cM_reach 168 = .ok (.aload_n 0, 1) := by decide +kernel
theorem dM_reach_169 : decode cM_reach 169 = .ok (.getfield 24, 3) := by decide +kernel
theorem dM_reach_172 : decode cM_reach 172 = .ok (.iload_n 3, 1) := by decide +kernel
theorem dM_reach_173 : decode cM_reach 173 = .ok (.bipush 12, 2) := by decide +kernel
theorem dM_reach_175 : decode cM_reach 175 = .ok (.idiv, 1) := by decide +kernel
theorem dM_reach_176 : decode cM_reach 176 = .ok (.iload_n 3, 1) := by decide +kernel
theorem dM_reach_177 : decode cM_reach 177 = .ok (.bipush 12, 2) := by decide +kernel
theorem dM_reach_179 : decode cM_reach 179 = .ok (.irem, 1) := by decide +kernel
theorem dM_reach_180 : decode cM_reach 180 = .ok (.iastore, 1) := by decide +kernel
theorem dM_reach_181 : decode cM_reach 181 = .ok (.iinc 3 1, 3) := by decide +kernel
theorem dM_reach_184 : decode cM_reach 184 = .ok (.goto (-60), 3) := by decide +kernel
theorem dM_reach_187 : decode cM_reach 187 = .ok (.return_, 1) := by decide +kernel
abbrev cM_baseline : ByteArray := prog_9_method_57_code
abbrev yM_baseline : MethodName := ⟨"DrawingVaultModel", "baseline", "(II)I"⟩
theorem dM_baseline_0 : decode cM_baseline 0 = .ok (.iload_n 1, 1) := by decide +kernel
theorem dM_baseline_1 : decode cM_baseline 1 = .ok (.ifCond .lt 13, 3) := by decide +kernel
theorem dM_baseline_4 : decode cM_baseline 4 = .ok (.iload_n 1, 1) := by decide +kernel
theorem dM_baseline_5 : decode cM_baseline 5 = .ok (.bipush 10, 2) := by decide +kernel
theorem dM_baseline_7 : decode cM_baseline 7 = .ok (.if_icmp .ge 7, 3) := by decide +kernel
theorem dM_baseline_10 : decode cM_baseline 10 = .ok (.iconst 1, 1) := by decide +kernel
theorem dM_baseline_11 : decode cM_baseline 11 = .ok (.goto 4, 3) := by decide +kernel
theorem dM_baseline_14 : decode cM_baseline 14 = .ok (.iconst 0, 1) := by decide +kernel
theorem dM_baseline_15 : decode cM_baseline 15 = .ok (.istore_n 3, 1) := by decide +kernel
theorem dM_baseline_16 : decode cM_baseline 16 = .ok (.iload_n 3, 1) := by decide +kernel
theorem dM_baseline_17 : decode cM_baseline 17 = .ok (.ifCond .eq 11, 3) := by decide +kernel
theorem dM_baseline_20 : decode cM_baseline 20 = .ok (.aload_n 0, 1) := by decide +kernel
theorem dM_baseline_21 : decode cM_baseline 21 = .ok (.iload_n 2, 1) := by decide +kernel
theorem dM_baseline_22 : decode cM_baseline 22 = .ok (.invokevirtual 44, 3) := by decide +kernel
theorem dM_baseline_25 : decode cM_baseline 25 = .ok (.ifCond .ne 7, 3) := by decide +kernel
theorem dM_baseline_28 : decode cM_baseline 28 = .ok (.iconst 1, 1) := by decide +kernel
theorem dM_baseline_29 : decode cM_baseline 29 = .ok (.goto 4, 3) := by decide +kernel
theorem dM_baseline_32 : decode cM_baseline 32 = .ok (.iconst 0, 1) := by decide +kernel
theorem dM_baseline_33 : decode cM_baseline 33 = .ok (.bipush 7, 2) := by decide +kernel
theorem dM_baseline_35 : decode cM_baseline 35 = .ok (.iconst 0, 1) := by decide +kernel
theorem dM_baseline_36 : decode cM_baseline 36 = .ok (.invokestatic 121, 3) := by decide +kernel
theorem dM_baseline_39 : decode cM_baseline 39 = .ok (.istore 4, 2) := by decide +kernel
theorem dM_baseline_41 : decode cM_baseline 41 = .ok (.iload_n 3, 1) := by decide +kernel
theorem dM_baseline_42 : decode cM_baseline 42 = .ok (.ifCond .eq 28, 3) := by decide +kernel
theorem dM_baseline_45 : decode cM_baseline 45 = .ok (.aload_n 0, 1) := by decide +kernel
theorem dM_baseline_46 : decode cM_baseline 46 = .ok (.getfield 7, 3) := by decide +kernel
theorem dM_baseline_49 : decode cM_baseline 49 = .ok (.aload_n 0, 1) := by decide +kernel
theorem dM_baseline_50 : decode cM_baseline 50 = .ok (.iload_n 3, 1) := by decide +kernel
theorem dM_baseline_51 : decode cM_baseline 51 = .ok (.ifCond .eq 7, 3) := by decide +kernel
theorem dM_baseline_54 : decode cM_baseline 54 = .ok (.iload_n 1, 1) := by decide +kernel
theorem dM_baseline_55 : decode cM_baseline 55 = .ok (.goto 4, 3) := by decide +kernel
theorem dM_baseline_58 : decode cM_baseline 58 = .ok (.iconst 0, 1) := by decide +kernel
theorem dM_baseline_59 : decode cM_baseline 59 = .ok (.invokevirtual 99, 3) := by decide +kernel
theorem dM_baseline_62 : decode cM_baseline 62 = .ok (.iaload, 1) := by decide +kernel
theorem dM_baseline_63 : decode cM_baseline 63 = .ok (.ifCond .le 7, 3) := by decide +kernel
theorem dM_baseline_66 : decode cM_baseline 66 = .ok (.iconst 1, 1) := by decide +kernel
theorem dM_baseline_67 : decode cM_baseline 67 = .ok (.goto 4, 3) := by decide +kernel
theorem dM_baseline_70 : decode cM_baseline 70 = .ok (.iconst 0, 1) := by decide +kernel
theorem dM_baseline_71 : decode cM_baseline 71 = .ok (.iconst 2, 1) := by decide +kernel
theorem dM_baseline_72 : decode cM_baseline 72 = .ok (.iload 4, 2) := by decide +kernel
theorem dM_baseline_74 : decode cM_baseline 74 = .ok (.invokestatic 121, 3) := by decide +kernel
theorem dM_baseline_77 : decode cM_baseline 77 = .ok (.istore 4, 2) := by decide +kernel
theorem dM_baseline_79 : decode cM_baseline 79 = .ok (.iconst 0, 1) := by decide +kernel
theorem dM_baseline_80 : decode cM_baseline 80 = .ok (.istore 5, 2) := by decide +kernel
theorem dM_baseline_82 : decode cM_baseline 82 = .ok (.aload_n 0, 1) := by decide +kernel
theorem dM_baseline_83 : decode cM_baseline 83 = .ok (.iload_n 2, 1) := by decide +kernel
theorem dM_baseline_84 : decode cM_baseline 84 = .ok (.invokevirtual 44, 3) := by decide +kernel
theorem dM_baseline_87 : decode cM_baseline 87 = .ok (.ifCond .eq 102, 3) := by decide +kernel
theorem dM_baseline_90 : decode cM_baseline 90 = .ok (.aload_n 0, 1) := by decide +kernel
theorem dM_baseline_91 : decode cM_baseline 91 = .ok (.iload_n 2, 1) := by decide +kernel
theorem dM_baseline_92 : decode cM_baseline 92 = .ok (.invokevirtual 63, 3) := by decide +kernel
theorem dM_baseline_95 : decode cM_baseline 95 = .ok (.ifCond .lt 7, 3) := by decide +kernel
theorem dM_baseline_98 : decode cM_baseline 98 = .ok (.iconst 1, 1) := by decide +kernel
theorem dM_baseline_99 : decode cM_baseline 99 = .ok (.goto 4, 3) := by decide +kernel
theorem dM_baseline_102 : decode cM_baseline 102 = .ok (.iconst 0, 1) := by decide +kernel
theorem dM_baseline_103 : decode cM_baseline 103 = .ok (.istore 6, 2) := by decide +kernel
theorem dM_baseline_105 : decode cM_baseline 105 = .ok (.iload 6, 2) := by decide +kernel
theorem dM_baseline_107 : decode cM_baseline 107 = .ok (.ifCond .ne 7, 3) := by decide +kernel
theorem dM_baseline_110 : decode cM_baseline 110 = .ok (.iconst 1, 1) := by decide +kernel
theorem dM_baseline_111 : decode cM_baseline 111 = .ok (.goto 4, 3) := by decide +kernel
theorem dM_baseline_114 : decode cM_baseline 114 = .ok (.iconst 0, 1) := by decide +kernel
theorem dM_baseline_115 : decode cM_baseline 115 = .ok (.iconst 2, 1) := by decide +kernel
theorem dM_baseline_116 : decode cM_baseline 116 = .ok (.iload 4, 2) := by decide +kernel
theorem dM_baseline_118 : decode cM_baseline 118 = .ok (.invokestatic 121, 3) := by decide +kernel
theorem dM_baseline_121 : decode cM_baseline 121 = .ok (.istore 4, 2) := by decide +kernel
theorem dM_baseline_123 : decode cM_baseline 123 = .ok (.iload 6, 2) := by decide +kernel
theorem dM_baseline_125 : decode cM_baseline 125 = .ok (.ifCond .eq 64, 3) := by decide +kernel
theorem dM_baseline_128 : decode cM_baseline 128 = .ok (.aload_n 0, 1) := by decide +kernel
theorem dM_baseline_129 : decode cM_baseline 129 = .ok (.iload_n 2, 1) := by decide +kernel
theorem dM_baseline_130 : decode cM_baseline 130 = .ok (.invokevirtual 179, 3) := by decide +kernel
theorem dM_baseline_133 : decode cM_baseline 133 = .ok (.aload_n 0, 1) := by decide +kernel
theorem dM_baseline_134 : decode cM_baseline 134 = .ok (.getfield 170, 3) := by decide +kernel
theorem dM_baseline_137 : decode cM_baseline 137 = .ok (.iconst 2, 1) := by decide +kernel
theorem dM_baseline_138 : decode cM_baseline 138 = .ok (.aload_n 0, 1) := by decide +kernel
theorem dM_baseline_139 : decode cM_baseline 139 = .ok (.getfield 173, 3) := by decide +kernel
theorem dM_baseline_142 : decode cM_baseline 142 = .ok (.iconst 4, 1) := by decide +kernel
theorem dM_baseline_143 : decode cM_baseline 143 = .ok (.iload 4, 2) := by decide +kernel
theorem dM_baseline_145 : decode cM_baseline 145 = .ok (.invokestatic 121, 3) := by decide +kernel
theorem dM_baseline_148 : decode cM_baseline 148 = .ok (.invokestatic 121, 3) := by decide +kernel
theorem dM_baseline_151 : decode cM_baseline 151 = .ok (.istore 4, 2) := by decide +kernel
theorem dM_baseline_153 : decode cM_baseline 153 = .ok (.iconst 0, 1) := by decide +kernel
theorem dM_baseline_154 : decode cM_baseline 154 = .ok (.istore 7, 2) := by decide +kernel
theorem dM_baseline_156 : decode cM_baseline 156 = .ok (.iload 7, 2) := by decide +kernel
theorem dM_baseline_158 : decode cM_baseline 158 = .ok (.bipush 24, 2) := by decide +kernel
theorem dM_baseline_160 : decode cM_baseline 160 = .ok (.if_icmp .ge 29, 3) := by decide +kernel
theorem dM_baseline_163 : decode cM_baseline 163 = .ok (.iload 5, 2) := by decide +kernel
theorem dM_baseline_165 : decode cM_baseline 165 = .ok (.aload_n 0, 1) := by decide +kernel
theorem dM_baseline_166 : decode cM_baseline 166 = .ok (.getfield 24, 3) := by decide +kernel
theorem dM_baseline_169 : decode cM_baseline 169 = .ok (.iload 7, 2) := by decide +kernel
theorem dM_baseline_171 : decode cM_baseline 171 = .ok (.iaload, 1) := by decide +kernel
theorem dM_baseline_172 : decode cM_baseline 172 = .ok (.ifCond .lt 7, 3) := by decide +kernel
theorem dM_baseline_175 : decode cM_baseline 175 = .ok (.iconst 1, 1) := by decide +kernel
theorem dM_baseline_176 : decode cM_baseline 176 = .ok (.goto 4, 3) := by decide +kernel
theorem dM_baseline_179 : decode cM_baseline 179 = .ok (.iconst 0, 1) := by decide +kernel
theorem dM_baseline_180 : decode cM_baseline 180 = .ok (.iadd, 1) := by decide +kernel
theorem dM_baseline_181 : decode cM_baseline 181 = .ok (.istore 5, 2) := by decide +kernel
theorem dM_baseline_183 : decode cM_baseline 183 = .ok (.iinc 7 1, 3) := by decide +kernel
theorem dM_baseline_186 : decode cM_baseline 186 = .ok (.goto (-30), 3) := by decide +kernel
theorem dM_baseline_189 : decode cM_baseline 189 = .ok (.aload_n 0, 1) := by decide +kernel
theorem dM_baseline_190 : decode cM_baseline 190 = .ok (.iload 4, 2) := by decide +kernel
theorem dM_baseline_192 : decode cM_baseline 192 = .ok (.iconst 1, 1) := by decide +kernel
theorem dM_baseline_193 : decode cM_baseline 193 = .ok (.iload 5, 2) := by decide +kernel
theorem dM_baseline_195 : decode cM_baseline 195 = .ok (.invokestatic 83, 3) := by decide +kernel
theorem dM_baseline_198 : decode cM_baseline 198 = .ok (.iadd, 1) := by decide +kernel
theorem dM_baseline_199 : decode cM_baseline 199 = .ok (.invokevirtual 112, 3) := by decide +kernel
theorem dM_baseline_202 : decode cM_baseline 202 = .ok (.ifCond .ne 16, 3) := by decide +kernel
theorem dM_baseline_205 : decode cM_baseline 205 = .ok (.aload_n 0, 1) := by decide +kernel
theorem dM_baseline_206 : decode cM_baseline 206 = .ok (.getfield 33, 3) := by decide +kernel
theorem dM_baseline_209 : decode cM_baseline 209 = .ok (.ifCond .le 7, 3) := by decide +kernel
theorem dM_baseline_212 : decode cM_baseline 212 = .ok (.iconst 0, 1) := by decide +kernel
theorem dM_baseline_213 : decode cM_baseline 213 = .ok (.goto 4, 3) := by decide +kernel
theorem dM_baseline_216 : decode cM_baseline 216 = .ok (.iconst (-1), 1) := by decide +kernel
theorem dM_baseline_217 : decode cM_baseline 217 = .ok (.ireturn, 1) := by decide +kernel
theorem dM_baseline_218 : decode cM_baseline 218 = .ok (.aload_n 0, 1) := by decide +kernel
theorem dM_baseline_219 : decode cM_baseline 219 = .ok (.iload_n 1, 1) := by decide +kernel
theorem dM_baseline_220 : decode cM_baseline 220 = .ok (.invokevirtual 99, 3) := by decide +kernel
theorem dM_baseline_223 : decode cM_baseline 223 = .ok (.istore 6, 2) := by decide +kernel
theorem dM_baseline_225 : decode cM_baseline 225 = .ok (.aload_n 0, 1) := by decide +kernel
theorem dM_baseline_226 : decode cM_baseline 226 = .ok (.getfield 7, 3) := by decide +kernel
theorem dM_baseline_229 : decode cM_baseline 229 = .ok (.iload 6, 2) := by decide +kernel
theorem dM_baseline_231 : decode cM_baseline 231 = .ok (.iconst 1, 1) := by decide +kernel
theorem dM_baseline_232 : decode cM_baseline 232 = .ok (.iastore, 1) := by decide +kernel
theorem dM_baseline_233 : decode cM_baseline 233 = .ok (.aload_n 0, 1) := by decide +kernel
theorem dM_baseline_234 : decode cM_baseline 234 = .ok (.getfield 7, 3) := by decide +kernel
theorem dM_baseline_237 : decode cM_baseline 237 = .ok (.iload 6, 2) := by decide +kernel
theorem dM_baseline_239 : decode cM_baseline 239 = .ok (.iconst 1, 1) := by decide +kernel
theorem dM_baseline_240 : decode cM_baseline 240 = .ok (.iadd, 1) := by decide +kernel
theorem dM_baseline_241 : decode cM_baseline 241 = .ok (.iload 5, 2) := by decide +kernel
theorem dM_baseline_243 : decode cM_baseline 243 = .ok (.iastore, 1) := by decide +kernel
theorem dM_baseline_244 : decode cM_baseline 244 = .ok (.iconst 0, 1) := by decide +kernel
theorem dM_baseline_245 : decode cM_baseline 245 = .ok (.istore 7, 2) := by decide +kernel
theorem dM_baseline_247 : decode cM_baseline 247 = .ok (.iload 7, 2) := by decide +kernel
theorem dM_baseline_249 : decode cM_baseline 249 = .ok (.bipush 24, 2) := by decide +kernel
theorem dM_baseline_251 : decode cM_baseline 251 = .ok (.if_icmp .ge 30, 3) := by decide +kernel
theorem dM_baseline_254 : decode cM_baseline 254 = .ok (.aload_n 0, 1) := by decide +kernel
theorem dM_baseline_255 : decode cM_baseline 255 = .ok (.getfield 7, 3) := by decide +kernel
theorem dM_baseline_258 : decode cM_baseline 258 = .ok (.iload 6, 2) := by decide +kernel
theorem dM_baseline_260 : decode cM_baseline 260 = .ok (.iconst 2, 1) := by decide +kernel
theorem dM_baseline_261 : decode cM_baseline 261 = .ok (.iadd, 1) := by decide +kernel
theorem dM_baseline_262 : decode cM_baseline 262 = .ok (.iload 7, 2) := by decide +kernel
theorem dM_baseline_264 : decode cM_baseline 264 = .ok (.iadd, 1) := by decide +kernel
theorem dM_baseline_265 : decode cM_baseline 265 = .ok (.aload_n 0, 1) := by decide +kernel
theorem dM_baseline_266 : decode cM_baseline 266 = .ok (.getfield 24, 3) := by decide +kernel
theorem dM_baseline_269 : decode cM_baseline 269 = .ok (.iload 7, 2) := by decide +kernel
theorem dM_baseline_271 : decode cM_baseline 271 = .ok (.iaload, 1) := by decide +kernel
theorem dM_baseline_272 : decode cM_baseline 272 = .ok (.iconst 1, 1) := by decide +kernel
theorem dM_baseline_273 : decode cM_baseline 273 = .ok (.iadd, 1) := by decide +kernel
theorem dM_baseline_274 : decode cM_baseline 274 = .ok (.iastore, 1) := by decide +kernel
theorem dM_baseline_275 : decode cM_baseline 275 = .ok (.iinc 7 1, 3) := by decide +kernel
theorem dM_baseline_278 : decode cM_baseline 278 = .ok (.goto (-31), 3) := by decide +kernel
theorem dM_baseline_281 : decode cM_baseline 281 = .ok (.aload_n 0, 1) := by decide +kernel
theorem dM_baseline_282 : decode cM_baseline 282 = .ok (.invokevirtual 115, 3) := by decide +kernel
theorem dM_baseline_285 : decode cM_baseline 285 = .ok (.iload 5, 2) := by decide +kernel
theorem dM_baseline_287 : decode cM_baseline 287 = .ok (.ireturn, 1) := by decide +kernel
theorem wd_195 : (.code ⟨"DrawingVaultModel", "whyNotRevision", "(IIII)I"⟩ prog_9_method_49_code 5 (Option.some .int) : Cond) ∈ aw := aw_in (tb_4 (List.mem_of_getElem? (i := 238) rfl)) rfl
theorem wd_196 : (.methodLink "DrawingVaultModel" 157 ⟨"DrawingVaultModel", "whyNotRevision", "(IIII)I"⟩ : Cond) ∈ aw := aw_in (tb_4 (List.mem_of_getElem? (i := 235) rfl)) rfl
theorem wd_197 : (.instanceMethod ⟨"DrawingVaultModel", "whyNotRevision", "(IIII)I"⟩ : Cond) ∈ aw := aw_in (tb_4 (List.mem_of_getElem? (i := 237) rfl)) rfl
theorem wd_198 : (.selects "DrawingVaultModel" ⟨"DrawingVaultModel", "whyNotRevision", "(IIII)I"⟩ ⟨"DrawingVaultModel", "whyNotRevision", "(IIII)I"⟩ : Cond) ∈ aw := aw_in (tb_s (q := (⟨"DrawingVaultModel", "whyNotRevision", "(IIII)I"⟩, _)) (List.mem_append_right _ (List.mem_append_right _ (List.mem_append_right _ (List.mem_append_right _ (List.mem_of_getElem? (i := 2) rfl)))))) rfl
theorem wd_199 : (.code ⟨"DrawingVaultModel", "isReleased", "(II)Z"⟩ prog_9_method_17_code 4 (Option.some .boolean) : Cond) ∈ aw := aw_in (tb_5 (List.mem_of_getElem? (i := 14) rfl)) rfl
theorem wd_200 : (.methodLink "DrawingVaultModel" 161 ⟨"DrawingVaultModel", "isReleased", "(II)Z"⟩ : Cond) ∈ aw := aw_in (tb_5 (List.mem_of_getElem? (i := 11) rfl)) rfl
theorem wd_201 : (.instanceMethod ⟨"DrawingVaultModel", "isReleased", "(II)Z"⟩ : Cond) ∈ aw := aw_in (tb_5 (List.mem_of_getElem? (i := 13) rfl)) rfl
theorem wd_202 : (.selects "DrawingVaultModel" ⟨"DrawingVaultModel", "isReleased", "(II)Z"⟩ ⟨"DrawingVaultModel", "isReleased", "(II)Z"⟩ : Cond) ∈ aw := aw_in (tb_s (q := (⟨"DrawingVaultModel", "isReleased", "(II)Z"⟩, _)) (List.mem_append_right _ (List.mem_append_right _ (List.mem_append_right _ (List.mem_append_right _ (List.mem_of_getElem? (i := 5) rfl)))))) rfl
theorem wd_203 : (.code ⟨"DrawingVaultModel", "lacksReleased", "(I)Z"⟩ prog_9_method_51_code 4 (Option.some .boolean) : Cond) ∈ aw := aw_in (tb_5 (List.mem_of_getElem? (i := 10) rfl)) rfl
theorem wd_204 : (.methodLink "DrawingVaultModel" 164 ⟨"DrawingVaultModel", "lacksReleased", "(I)Z"⟩ : Cond) ∈ aw := aw_in (tb_5 (List.mem_of_getElem? (i := 7) rfl)) rfl
theorem wd_205 : (.instanceMethod ⟨"DrawingVaultModel", "lacksReleased", "(I)Z"⟩ : Cond) ∈ aw := aw_in (tb_5 (List.mem_of_getElem? (i := 9) rfl)) rfl
theorem wd_206 : (.selects "DrawingVaultModel" ⟨"DrawingVaultModel", "lacksReleased", "(I)Z"⟩ ⟨"DrawingVaultModel", "lacksReleased", "(I)Z"⟩ : Cond) ∈ aw := aw_in (tb_s (q := (⟨"DrawingVaultModel", "lacksReleased", "(I)Z"⟩, _)) (List.mem_append_right _ (List.mem_append_right _ (List.mem_append_right _ (List.mem_append_right _ (List.mem_of_getElem? (i := 4) rfl)))))) rfl
theorem wd_207 : (.code ⟨"DrawingVaultModel", "isInUse", "(II)Z"⟩ prog_9_method_53_code 8 (Option.some .boolean) : Cond) ∈ aw := aw_in (tb_5 (List.mem_of_getElem? (i := 30) rfl)) rfl
theorem wd_208 : (.methodLink "DrawingVaultModel" 167 ⟨"DrawingVaultModel", "isInUse", "(II)Z"⟩ : Cond) ∈ aw := aw_in (tb_5 (List.mem_of_getElem? (i := 27) rfl)) rfl
theorem wd_209 : (.instanceMethod ⟨"DrawingVaultModel", "isInUse", "(II)Z"⟩ : Cond) ∈ aw := aw_in (tb_5 (List.mem_of_getElem? (i := 29) rfl)) rfl
theorem wd_210 : (.selects "DrawingVaultModel" ⟨"DrawingVaultModel", "isInUse", "(II)Z"⟩ ⟨"DrawingVaultModel", "isInUse", "(II)Z"⟩ : Cond) ∈ aw := aw_in (tb_s (q := (⟨"DrawingVaultModel", "isInUse", "(II)Z"⟩, _)) (List.mem_append_right _ (List.mem_append_right _ (List.mem_append_right _ (List.mem_append_right _ (List.mem_of_getElem? (i := 8) rfl)))))) rfl
theorem wd_211 : (.fieldLink "DrawingVaultModel" 173 "DrawingVaultModel" "open" "Z" : Cond) ∈ aw := aw_in (tb_4 (List.mem_of_getElem? (i := 39) rfl)) rfl
theorem wd_212 : (.fieldLink "DrawingVaultModel" 27 "DrawingVaultModel" "seen" "[Z" : Cond) ∈ aw := aw_in (tb_4 (List.mem_of_getElem? (i := 40) rfl)) rfl
theorem wd_213 : (.fieldLink "DrawingVaultModel" 24 "DrawingVaultModel" "come" "[I" : Cond) ∈ aw := aw_in (tb_4 (List.mem_of_getElem? (i := 37) rfl)) rfl
theorem wd_214 : (.fieldLink "DrawingVaultModel" 170 "DrawingVaultModel" "parts2" "Z" : Cond) ∈ aw := aw_in (tb_4 (List.mem_of_getElem? (i := 38) rfl)) rfl
theorem wd_215 : (.code ⟨"DrawingVaultModel", "spread", "(I)Z"⟩ prog_9_method_56_code 7 (Option.some .boolean) : Cond) ∈ aw := aw_in (tb_5 (List.mem_of_getElem? (i := 42) rfl)) rfl
theorem wd_216 : (.methodLink "DrawingVaultModel" 176 ⟨"DrawingVaultModel", "spread", "(I)Z"⟩ : Cond) ∈ aw := aw_in (tb_5 (List.mem_of_getElem? (i := 39) rfl)) rfl
theorem wd_217 : (.instanceMethod ⟨"DrawingVaultModel", "spread", "(I)Z"⟩ : Cond) ∈ aw := aw_in (tb_5 (List.mem_of_getElem? (i := 41) rfl)) rfl
theorem wd_218 : (.selects "DrawingVaultModel" ⟨"DrawingVaultModel", "spread", "(I)Z"⟩ ⟨"DrawingVaultModel", "spread", "(I)Z"⟩ : Cond) ∈ aw := aw_in (tb_s (q := (⟨"DrawingVaultModel", "spread", "(I)Z"⟩, _)) (List.mem_append_right _ (List.mem_append_right _ (List.mem_append_right _ (List.mem_append_right _ (List.mem_of_getElem? (i := 10) rfl)))))) rfl
theorem wd_219 : (.code ⟨"DrawingVaultModel", "reach", "(I)V"⟩ prog_9_method_55_code 4 (Option.none : Option Jvm.ClassFile.FieldType) : Cond) ∈ aw := aw_in (tb_5 (List.mem_of_getElem? (i := 38) rfl)) rfl
theorem wd_220 : (.methodLink "DrawingVaultModel" 179 ⟨"DrawingVaultModel", "reach", "(I)V"⟩ : Cond) ∈ aw := aw_in (tb_5 (List.mem_of_getElem? (i := 35) rfl)) rfl
theorem wd_221 : (.instanceMethod ⟨"DrawingVaultModel", "reach", "(I)V"⟩ : Cond) ∈ aw := aw_in (tb_5 (List.mem_of_getElem? (i := 37) rfl)) rfl
theorem wd_222 : (.selects "DrawingVaultModel" ⟨"DrawingVaultModel", "reach", "(I)V"⟩ ⟨"DrawingVaultModel", "reach", "(I)V"⟩ : Cond) ∈ aw := aw_in (tb_s (q := (⟨"DrawingVaultModel", "reach", "(I)V"⟩, _)) (List.mem_append_right _ (List.mem_append_right _ (List.mem_append_right _ (List.mem_append_right _ (List.mem_of_getElem? (i := 9) rfl)))))) rfl

def M_whyNotRevision (σ : hT) (a1 : Int32) (a2 : Int32) (a3 : Int32) (a4 : Int32) : Option (Int32) := Option.bind (M_rights σ a3) fun y2 => lt9 (α := Int32 → Option (Int32)) (fun (s4 : Int32) => Option.bind (M_isRevision σ a1 a2) fun y7 => lt9 (α := Int32 → Option (Int32)) (fun (s9 : Int32) => some (M_least s4 1 (M_least s9 7 0))) fun x8 => if y7 = 0 then x8 1 else x8 0) fun x3 => if (y2 &&& a4) = 0 then x3 1 else x3 0
set_option maxHeartbeats 4000000 in
set_option maxRecDepth 100000 in
theorem t_M_whyNotRevision (l : Launch) (dC : Nat → ClassId) (dI : Nat → Nat → Nat) (ad : Nat → Nat → Nat) (ca : Nat → Nat → ClassId) (dom : List (Nat × Nat)) (σ : hT) (a1 : Int32) (a2 : Int32) (a3 : Int32) (a4 : Int32) (hm0 : (4, 0) ∈ dom) (hN : dom.Nodup) (hC : clo dom σ.2.2) (ρ : Int32) (hf : M_whyNotRevision σ a1 a2 a3 a4 = some ρ) : Met l yM_whyNotRevision (.code yM_whyNotRevision cM_whyNotRevision 5 (some .int) :: aw) ({ frames := 3, cells := 0, slots := 0, locals := 64 }) (hR (dC, dI) ad ca dom σ [.ref (ad 4 0), .int a1, .int a2, .int a3, .int a4]) (vp_Si (fun r => r = ρ)) 0 0 (fun _ => False) := by
  refine Met.ofW (cc := cM_whyNotRevision) (maxL := 5) (ret := (some .int)) (by decide) rfl ?_
  intro p e s m args below meth c s₁ B hml hv
  obtain ⟨rfl, hv⟩ := hv
  have hx := B.exec
  have hb := B.bytes
  have hr := B.returns
  have hts : ∀ w ∈ aw, w.before _ s = true := fun w h => atoms_spec (ws := (.code yM_whyNotRevision cM_whyNotRevision 5 (some .int) :: aw)) B.pre w (List.mem_cons_of_mem _ h)
  have hown : s.vm.findClass RM = some m.cls := findClass_of_methodNamed B.named
  have hlocks := B.notSynchronized
  obtain ⟨hP, hK, hG⟩ := hv
  obtain ⟨H, hH⟩ : ∃ H, H = s.heap := ⟨_, rfl⟩
  rw [← hH] at hP ⊢
  unfold M_whyNotRevision at hf
  have hl := lv_entry ([.ref (ad 4 0), .int a1, .int a2, .int a3, .int a4]) (n := 5) (Nat.le_of_ble_eq_true rfl)
  rw [lg_entry_eq]
  generalize (lg_sl ([.ref (ad 4 0), .int a1, .int a2, .int a3, .int a4]) ++ List.replicate (5 - (lg_sl ([.ref (ad 4 0), .int a1, .int a2, .int a3, .int a4])).length) Slot.unset).toArray = ls at hl ⊢
  have hl : lv_has ls 5 [(0, .ref (ad 4 0)), (1, .int a1), (2, .int a2), (3, .int a3), (4, .int a4)] := hl
  refine lv_aload_n (pc := 0) hx hb dM_whyNotRevision_0 rfl (lv_at hl 0 rfl) ?_
  refine lv_iload_n (pc := 1) hx hb dM_whyNotRevision_1 rfl (lv_at hl 3 rfl) ?_
  obtain ⟨q1, hq1, eq1⟩ := at_4 (ad := ad) (ca := ca) (σ := σ) hm0
  obtain ⟨y2, hy2, hf⟩ := ob hf
  refine vp_callSi (pc := 2) (W.runV (As := [.int a3]) (rest := []) ⟨hx, hb, hml, hown, hts⟩ (t_M_rights l dC dI ad ca dom σ a3 hm0 hN hC y2 hy2) (cwV 1 hts (gV wd_148 wd_149 wd_150 wd_50 wd_147) rfl rfl rfl (by decide +kernel) ⟨Nat.le_of_ble_eq_true rfl, Nat.le_of_ble_eq_true rfl⟩) ⟨hR_blind, va_recv (q := (RM, TM, 11)) (q0 := q1) (ci := 4) hK.1 hP rfl eq1, hR_pre hP hK hG⟩ rfl rfl hl.1 rfl (lv_room (Nat.le_of_ble_eq_true rfl)) dM_whyNotRevision_2 ⟨Nat.le_of_ble_eq_true rfl, Nat.le_of_ble_eq_true rfl⟩) (fun r9 hr9 => ?_)
  refine W.eq (g2 := F0 m 5 ls [.int y2]) (by rw [hr9]) ?_
  refine lv_iload (pc := 5) hx hb dM_whyNotRevision_5 (lv_at hl 4 rfl) ?_
  refine lv_iand (pc := 7) hx hb dM_whyNotRevision_7 ?_
  obtain ⟨x3, hx3, hf⟩ := lt_9 hf
  refine jnF (τ := (Int32) × (Array Slot)) (fun pc st z => W p l e _ s m _ below meth c H ([]) 0 0 _ (F0 m pc z.2 st)) (pc0 := 8) (st0 := [.int (y2 &&& a4)]) (z0 := (0, ls)) 16 (fun z => [.int z.1]) (fun z => lv_has z.2 5 [(0, .ref (ad 4 0)), (1, .int a1), (2, .int a2), (3, .int a3), (4, .int a4)]) (fun z => x3 z.1) ρ ?_ ?_
  · intro hJx3
    dsimp only at hJx3 ⊢
    refine lv_if_ne (pc := 8) (tgt := 15) hx hb dM_whyNotRevision_8 rfl (fun h5 => ?_) (fun h5 => ?_)
    · replace hf := ite_f h5 hf
      refine lv_iconst (pc := 15) (v := 0) hx hb dM_whyNotRevision_15 (by decide) ?_
      have hl := lv_sub hl (l' := [(0, .ref (ad 4 0)), (1, .int a1), (2, .int a2), (3, .int a3), (4, .int a4)]) [0, 1, 2, 3, 4] rfl
      exact hJx3 (0, ls) hl hf
    · replace hf := ite_t h5 hf
      refine lv_iconst (pc := 11) (v := 1) hx hb dM_whyNotRevision_11 (by decide) ?_
      refine lv_goto (pc := 12) (tgt := 16) hx hb dM_whyNotRevision_12 rfl ?_
      have hl := lv_sub hl (l' := [(0, .ref (ad 4 0)), (1, .int a1), (2, .int a2), (3, .int a3), (4, .int a4)]) [0, 1, 2, 3, 4] rfl
      exact hJx3 (1, ls) hl hf
  · rintro ⟨s4, ls⟩ hl hf
    dsimp only at hl hf ⊢
    rw [hx3] at hf
    have hl : lv_has ls 5 [(0, .ref (ad 4 0)), (1, .int a1), (2, .int a2), (3, .int a3), (4, .int a4)] := hl
    refine lv_iconst (pc := 16) (v := 1) hx hb dM_whyNotRevision_16 (by decide) ?_
    refine lv_aload_n (pc := 17) hx hb dM_whyNotRevision_17 rfl (lv_at hl 0 rfl) ?_
    refine lv_iload_n (pc := 18) hx hb dM_whyNotRevision_18 rfl (lv_at hl 1 rfl) ?_
    refine lv_iload_n (pc := 19) hx hb dM_whyNotRevision_19 rfl (lv_at hl 2 rfl) ?_
    obtain ⟨q6, hq6, eq6⟩ := at_4 (ad := ad) (ca := ca) (σ := σ) hm0
    obtain ⟨y7, hy7, hf⟩ := ob hf
    refine vp_callSi (pc := 20) (W.runV (As := [.int a1, .int a2]) (rest := [.int 1, .int s4]) ⟨hx, hb, hml, hown, hts⟩ (t_M_isRevision l dC dI ad ca dom σ a1 a2 hm0 hN hC y7 hy7) (cwV 2 hts (gV wd_97 wd_98 wd_99 wd_50 wd_96) rfl rfl rfl (by decide +kernel) ⟨Nat.le_of_ble_eq_true rfl, Nat.le_of_ble_eq_true rfl⟩) ⟨hR_blind, va_recv (q := (RM, TM, 11)) (q0 := q6) (ci := 4) hK.1 hP rfl eq6, hR_pre hP hK hG⟩ rfl rfl hl.1 rfl (lv_room (Nat.le_of_ble_eq_true rfl)) dM_whyNotRevision_20 ⟨Nat.le_of_ble_eq_true rfl, Nat.le_of_ble_eq_true rfl⟩) (fun r9 hr9 => ?_)
    refine W.eq (g2 := F0 m 23 ls [.int y7, .int 1, .int s4]) (by rw [hr9]) ?_
    obtain ⟨x8, hx8, hf⟩ := lt_9 hf
    refine jnF (τ := (Int32) × (Array Slot)) (fun pc st z => W p l e _ s m _ below meth c H ([]) 0 0 _ (F0 m pc z.2 st)) (pc0 := 23) (st0 := [.int y7, .int 1, .int s4]) (z0 := (0, ls)) 31 (fun z => [.int z.1, .int 1, .int s4]) (fun z => lv_has z.2 5 [(0, .ref (ad 4 0)), (1, .int a1), (2, .int a2), (3, .int a3), (4, .int a4)]) (fun z => x8 z.1) ρ ?_ ?_
    · intro hJx8
      dsimp only at hJx8 ⊢
      refine lv_if_ne (pc := 23) (tgt := 30) hx hb dM_whyNotRevision_23 rfl (fun h10 => ?_) (fun h10 => ?_)
      · replace hf := ite_f h10 hf
        refine lv_iconst (pc := 30) (v := 0) hx hb dM_whyNotRevision_30 (by decide) ?_
        have hl := lv_sub hl (l' := [(0, .ref (ad 4 0)), (1, .int a1), (2, .int a2), (3, .int a3), (4, .int a4)]) [0, 1, 2, 3, 4] rfl
        exact hJx8 (0, ls) hl hf
      · replace hf := ite_t h10 hf
        refine lv_iconst (pc := 26) (v := 1) hx hb dM_whyNotRevision_26 (by decide) ?_
        refine lv_goto (pc := 27) (tgt := 31) hx hb dM_whyNotRevision_27 rfl ?_
        have hl := lv_sub hl (l' := [(0, .ref (ad 4 0)), (1, .int a1), (2, .int a2), (3, .int a3), (4, .int a4)]) [0, 1, 2, 3, 4] rfl
        exact hJx8 (1, ls) hl hf
    · rintro ⟨s9, ls⟩ hl hf
      dsimp only at hl hf ⊢
      rw [hx8] at hf
      have hl : lv_has ls 5 [(0, .ref (ad 4 0)), (1, .int a1), (2, .int a2), (3, .int a3), (4, .int a4)] := hl
      refine lv_bipush (pc := 31) (v := 7) hx hb dM_whyNotRevision_31 (by decide) ?_
      refine lv_iconst (pc := 33) (v := 0) hx hb dM_whyNotRevision_33 (by decide) ?_
      refine vp_callSi (pc := 34) (W.runS (As := [.int s9, .int 7, .int 0]) (rest := [.int 1, .int s4]) ⟨hx, hb, hml, hown, hts⟩ (t_M_least l dC dI ad ca dom s9 7 0 σ hN hC (M_least s9 7 0) rfl) (cwS 3 hts (gS wd_152 wd_153 wd_50 wd_151) rfl rfl rfl (by decide +kernel) ⟨Nat.le_of_ble_eq_true rfl, Nat.le_of_ble_eq_true rfl⟩) ⟨hR_blind, hR_pre hP hK hG⟩ rfl rfl hl.1 rfl (lv_room (Nat.le_of_ble_eq_true rfl)) dM_whyNotRevision_34 ⟨Nat.le_of_ble_eq_true rfl, Nat.le_of_ble_eq_true rfl⟩) (fun r9 hr9 => ?_)
      refine W.eq (g2 := F0 m 37 ls [.int (M_least s9 7 0), .int 1, .int s4]) (by rw [hr9]) ?_
      refine vp_callSi (pc := 37) (W.runS (As := [.int s4, .int 1, .int (M_least s9 7 0)]) (rest := []) ⟨hx, hb, hml, hown, hts⟩ (t_M_least l dC dI ad ca dom s4 1 (M_least s9 7 0) σ hN hC (M_least s4 1 (M_least s9 7 0)) rfl) (cwS 3 hts (gS wd_152 wd_153 wd_50 wd_151) rfl rfl rfl (by decide +kernel) ⟨Nat.le_of_ble_eq_true rfl, Nat.le_of_ble_eq_true rfl⟩) ⟨hR_blind, hR_pre hP hK hG⟩ rfl rfl hl.1 rfl (lv_room (Nat.le_of_ble_eq_true rfl)) dM_whyNotRevision_37 ⟨Nat.le_of_ble_eq_true rfl, Nat.le_of_ble_eq_true rfl⟩) (fun r9 hr9 => ?_)
      refine W.eq (g2 := F0 m 40 ls [.int (M_least s4 1 (M_least s9 7 0))]) (by rw [hr9]) ?_
      exact W.iret (pc := 40) hx hb hr (fun t ht hW => ⟨_, rfl, (Option.some.inj hf), ht.trans hH⟩) (fun q h => nomatch h) dM_whyNotRevision_40
def M_check (n : Nat) (σ : hT) (a1 : Int32) (a2 : Int32) (a3 : Int32) : Option (Int32 × hT) := Option.bind (M_whyNotRevision σ a1 a2 a3 2) fun y2 => Option.bind (M_isRevision σ a1 a2) fun y4 => lt9 (α := Int32 → Option (Int32 × hT)) (fun (q6 : Int32) => Option.bind (M_may σ q6 1) fun ⟨y27, σ28⟩ => if y27 = 0 then some (0, σ28) else if in9 ((M_revisionAt a1 a2) + 0) 25240 then lt9 (sI σ28 15 0 (((M_revisionAt a1 a2) + 0)).toNatClampNeg 1) fun σ32 => Option.bind (M_close n σ32) fun ⟨y36, σ37⟩ => some (1, σ37) else none) fun x5 => if y4 = 0 then x5 y2 else Option.bind (M_stateOf σ a1 a2) fun y9 => lt9 (α := Int32 → Option (Int32 × hT)) (fun (s11 : Int32) => if in9 ((M_revisionAt a1 a2) + 1) 25240 then lt9 (α := Int32 → Option (Int32 × hT)) (fun (s24 : Int32) => x5 (M_least s24 3 (M_least s11 2 y2))) fun x23 => if (xI σ 15 0 (((M_revisionAt a1 a2) + 1)).toNatClampNeg) = a3 then x23 1 else x23 0 else none) fun x10 => if y9 = 0 then Option.bind (M_made σ a1) fun y14 => if a2 = (y14 - 1) then Option.bind (M_with σ a1) fun y17 => if y17 < 0 then x10 0 else x10 1 else x10 1 else x10 1
set_option maxHeartbeats 4000000 in
set_option maxRecDepth 100000 in
theorem t_M_check (l : Launch) (dC : Nat → ClassId) (dI : Nat → Nat → Nat) (ad : Nat → Nat → Nat) (ca : Nat → Nat → ClassId) (dom : List (Nat × Nat)) (sz : Nat) (n : Nat) (σ : hT) (a1 : Int32) (a2 : Int32) (a3 : Int32) (hm0 : (4, 0) ∈ dom) (hN : dom.Nodup) (hC : clo dom σ.2.2) (ρ : Int32) (σ' : hT) (hf : M_check n σ a1 a2 a3 = some (ρ, σ')) : Met l yM_check (.code yM_check cM_check 5 (some .boolean) :: aw) ({ frames := 7, cells := 0, slots := 0, locals := 157 }) (hW (dC, dI) sz ad ca dom σ [.ref (ad 4 0), .int a1, .int a2, .int a3]) (va_Qi (fun r (_ : Unit) => r = ρ) (fun _ t => hB (dC, dI) (va_A (w9 ad ca dom σ) sz) ad ca dom σ' t) (va_A (w9 ad ca dom σ) sz)) 0 0 (va_A (w9 ad ca dom σ) sz) := by
  refine Met.ofW (cc := cM_check) (maxL := 5) (ret := (some .boolean)) (by decide) rfl ?_
  intro p e s m args below meth c s₁ B hml hv
  obtain ⟨rfl, hv⟩ := hv
  have hx := B.exec
  have hb := B.bytes
  have hr := B.returns
  have hts : ∀ w ∈ aw, w.before _ s = true := fun w h => atoms_spec (ws := (.code yM_check cM_check 5 (some .boolean) :: aw)) B.pre w (List.mem_cons_of_mem _ h)
  have hown : s.vm.findClass RM = some m.cls := findClass_of_methodNamed B.named
  have hlocks := B.notSynchronized
  obtain ⟨hsz, hP, hK, hD0, hG⟩ := hv
  subst hsz
  have hD := hD0.self (sz := s.heap.size)
  generalize hAe : va_A (w9 ad ca dom σ) s.heap.size = A at hD ⊢
  have hA : ∀ q : Nat, s.heap.size ≤ q → A q := fun q h => by rw [← hAe]; exact Or.inr h
  obtain ⟨H, hH⟩ : ∃ H, H = s.heap := ⟨_, rfl⟩
  have hS : va_S A s.heap H [] := by rw [hH]; exact va_S.rf
  rw [← hH] at hP ⊢
  unfold M_check at hf
  have hl := lv_entry ([.ref (ad 4 0), .int a1, .int a2, .int a3]) (n := 5) (Nat.le_of_ble_eq_true rfl)
  rw [lg_entry_eq]
  generalize (lg_sl ([.ref (ad 4 0), .int a1, .int a2, .int a3]) ++ List.replicate (5 - (lg_sl ([.ref (ad 4 0), .int a1, .int a2, .int a3])).length) Slot.unset).toArray = ls at hl ⊢
  have hl : lv_has ls 5 [(0, .ref (ad 4 0)), (1, .int a1), (2, .int a2), (3, .int a3)] := hl
  refine lv_aload_n (pc := 0) hx hb dM_check_0 rfl (lv_at hl 0 rfl) ?_
  refine lv_iload_n (pc := 1) hx hb dM_check_1 rfl (lv_at hl 1 rfl) ?_
  refine lv_iload_n (pc := 2) hx hb dM_check_2 rfl (lv_at hl 2 rfl) ?_
  refine lv_iload_n (pc := 3) hx hb dM_check_3 rfl (lv_at hl 3 rfl) ?_
  refine lv_iconst (pc := 4) (v := 2) hx hb dM_check_4 (by decide) ?_
  obtain ⟨q1, hq1, eq1⟩ := at_4 (ad := ad) (ca := ca) (σ := σ) hm0
  obtain ⟨y2, hy2, hf⟩ := ob hf
  refine vp_callSi (pc := 5) (W.runV (As := [.int a1, .int a2, .int a3, .int 2]) (rest := []) ⟨hx, hb, hml, hown, hts⟩ (t_M_whyNotRevision l dC dI ad ca dom σ a1 a2 a3 2 hm0 hN hC y2 hy2) (cwV 4 hts (gV wd_196 wd_197 wd_198 wd_50 wd_195) rfl rfl rfl (by decide +kernel) ⟨Nat.le_of_ble_eq_true rfl, Nat.le_of_ble_eq_true rfl⟩) ⟨hR_blind, va_recv (q := (RM, TM, 11)) (q0 := q1) (ci := 4) hK.1 hP rfl eq1, hR_pre hP hK hG⟩ rfl rfl hl.1 rfl (lv_room (Nat.le_of_ble_eq_true rfl)) dM_check_5 ⟨Nat.le_of_ble_eq_true rfl, Nat.le_of_ble_eq_true rfl⟩) (fun r9 hr9 => ?_)
  refine W.eq (g2 := F0 m 8 ls [.int y2]) (by rw [hr9]) ?_
  refine lv_istore (pc := 8) hx hb dM_check_8 hl (by decide) rfl (fun ls hl => ?_)
  have hl : lv_has ls 5 [(4, .int y2), (0, .ref (ad 4 0)), (1, .int a1), (2, .int a2), (3, .int a3)] := hl
  refine lv_aload_n (pc := 10) hx hb dM_check_10 rfl (lv_at hl 1 rfl) ?_
  refine lv_iload_n (pc := 11) hx hb dM_check_11 rfl (lv_at hl 2 rfl) ?_
  refine lv_iload_n (pc := 12) hx hb dM_check_12 rfl (lv_at hl 3 rfl) ?_
  obtain ⟨q3, hq3, eq3⟩ := at_4 (ad := ad) (ca := ca) (σ := σ) hm0
  obtain ⟨y4, hy4, hf⟩ := ob hf
  refine vp_callSi (pc := 13) (W.runV (As := [.int a1, .int a2]) (rest := []) ⟨hx, hb, hml, hown, hts⟩ (t_M_isRevision l dC dI ad ca dom σ a1 a2 hm0 hN hC y4 hy4) (cwV 2 hts (gV wd_97 wd_98 wd_99 wd_50 wd_96) rfl rfl rfl (by decide +kernel) ⟨Nat.le_of_ble_eq_true rfl, Nat.le_of_ble_eq_true rfl⟩) ⟨hR_blind, va_recv (q := (RM, TM, 11)) (q0 := q3) (ci := 4) hK.1 hP rfl eq3, hR_pre hP hK hG⟩ rfl rfl hl.1 rfl (lv_room (Nat.le_of_ble_eq_true rfl)) dM_check_13 ⟨Nat.le_of_ble_eq_true rfl, Nat.le_of_ble_eq_true rfl⟩) (fun r9 hr9 => ?_)
  refine W.eq (g2 := F0 m 16 ls [.int y4]) (by rw [hr9]) ?_
  obtain ⟨x5, hx5, hf⟩ := lt_9 hf
  refine jnF (τ := (Int32) × (Heap) × (List Loc) × (Array Slot)) (fun pc st z => W p l e _ s m _ below meth c z.2.1 z.2.2.1 0 0 _ (F0 m pc z.2.2.2 st)) (pc0 := 16) (st0 := [.int y4]) (z0 := (0, H, _, ls)) 90 (fun z => []) (fun z => va_P (dC, dI) kCl (w9 ad ca dom (σ)) z.2.1 ∧ va_D A (w9 ad ca dom (σ)) ∧ va_S A s.heap z.2.1 z.2.2.1 ∧ lv_has z.2.2.2 5 [(4, .int z.1), (0, .ref (ad 4 0)), (1, .int a1), (2, .int a2), (3, .int a3)]) (fun z => x5 z.1) (ρ, σ') ?_ ?_
  · intro hJx5
    dsimp only at hJx5 ⊢
    refine lv_if_eq (pc := 16) (tgt := 90) hx hb dM_check_16 rfl (fun h7 => ?_) (fun h7 => ?_)
    · replace hf := ite_t h7 hf
      have hl := lv_sub hl (l' := [(4, .int y2), (0, .ref (ad 4 0)), (1, .int a1), (2, .int a2), (3, .int a3)]) [0, 1, 2, 3, 4] rfl
      exact hJx5 (y2, H, _, ls) ⟨hP, hD, hS, hl⟩ hf
    · replace hf := ite_f h7 hf
      refine lv_aload_n (pc := 19) hx hb dM_check_19 rfl (lv_at hl 1 rfl) ?_
      refine lv_iload_n (pc := 20) hx hb dM_check_20 rfl (lv_at hl 2 rfl) ?_
      refine lv_iload_n (pc := 21) hx hb dM_check_21 rfl (lv_at hl 3 rfl) ?_
      obtain ⟨q8, hq8, eq8⟩ := at_4 (ad := ad) (ca := ca) (σ := σ) hm0
      obtain ⟨y9, hy9, hf⟩ := ob hf
      refine vp_callSi (pc := 22) (W.runV (As := [.int a1, .int a2]) (rest := []) ⟨hx, hb, hml, hown, hts⟩ (t_M_stateOf l dC dI ad ca dom σ a1 a2 hm0 hN hC y9 hy9) (cwV 2 hts (gV wd_69 wd_70 wd_71 wd_50 wd_68) rfl rfl rfl (by decide +kernel) ⟨Nat.le_of_ble_eq_true rfl, Nat.le_of_ble_eq_true rfl⟩) ⟨hR_blind, va_recv (q := (RM, TM, 11)) (q0 := q8) (ci := 4) hK.1 hP rfl eq8, hR_pre hP hK hG⟩ rfl rfl hl.1 rfl (lv_room (Nat.le_of_ble_eq_true rfl)) dM_check_22 ⟨Nat.le_of_ble_eq_true rfl, Nat.le_of_ble_eq_true rfl⟩) (fun r9 hr9 => ?_)
      refine W.eq (g2 := F0 m 25 ls [.int y9]) (by rw [hr9]) ?_
      obtain ⟨x10, hx10, hf⟩ := lt_9 hf
      refine jnF (τ := (Int32) × (Heap) × (List Loc) × (Array Slot)) (fun pc st z => W p l e _ s m _ below meth c z.2.1 z.2.2.1 0 0 _ (F0 m pc z.2.2.2 st)) (pc0 := 25) (st0 := [.int y9]) (z0 := (0, H, _, ls)) 52 (fun z => [.int z.1]) (fun z => va_P (dC, dI) kCl (w9 ad ca dom (σ)) z.2.1 ∧ va_D A (w9 ad ca dom (σ)) ∧ va_S A s.heap z.2.1 z.2.2.1 ∧ lv_has z.2.2.2 5 [(4, .int y2), (0, .ref (ad 4 0)), (1, .int a1), (2, .int a2), (3, .int a3)]) (fun z => x10 z.1) (ρ, σ') ?_ ?_
      · intro hJx10
        dsimp only at hJx10 ⊢
        refine lv_if_ne (pc := 25) (tgt := 47) hx hb dM_check_25 rfl (fun h12 => ?_) (fun h12 => ?_)
        · replace hf := ite_f h12 hf
          refine lv_iconst (pc := 47) (v := 1) hx hb dM_check_47 (by decide) ?_
          refine lv_goto (pc := 48) (tgt := 52) hx hb dM_check_48 rfl ?_
          have hl := lv_sub hl (l' := [(4, .int y2), (0, .ref (ad 4 0)), (1, .int a1), (2, .int a2), (3, .int a3)]) [0, 1, 2, 3, 4] rfl
          exact hJx10 (1, H, _, ls) ⟨hP, hD, hS, hl⟩ hf
        · replace hf := ite_t h12 hf
          refine lv_iload_n (pc := 28) hx hb dM_check_28 rfl (lv_at hl 3 rfl) ?_
          refine lv_aload_n (pc := 29) hx hb dM_check_29 rfl (lv_at hl 1 rfl) ?_
          refine lv_iload_n (pc := 30) hx hb dM_check_30 rfl (lv_at hl 2 rfl) ?_
          obtain ⟨q13, hq13, eq13⟩ := at_4 (ad := ad) (ca := ca) (σ := σ) hm0
          obtain ⟨y14, hy14, hf⟩ := ob hf
          refine vp_callSi (pc := 31) (W.runV (As := [.int a1]) (rest := [.int a2]) ⟨hx, hb, hml, hown, hts⟩ (t_M_made l dC dI ad ca dom σ a1 hm0 hN hC y14 hy14) (cwV 1 hts (gV wd_61 wd_62 wd_63 wd_50 wd_60) rfl rfl rfl (by decide +kernel) ⟨Nat.le_of_ble_eq_true rfl, Nat.le_of_ble_eq_true rfl⟩) ⟨hR_blind, va_recv (q := (RM, TM, 11)) (q0 := q13) (ci := 4) hK.1 hP rfl eq13, hR_pre hP hK hG⟩ rfl rfl hl.1 rfl (lv_room (Nat.le_of_ble_eq_true rfl)) dM_check_31 ⟨Nat.le_of_ble_eq_true rfl, Nat.le_of_ble_eq_true rfl⟩) (fun r9 hr9 => ?_)
          refine W.eq (g2 := F0 m 34 ls [.int y14, .int a2]) (by rw [hr9]) ?_
          refine lv_iconst (pc := 34) (v := 1) hx hb dM_check_34 (by decide) ?_
          refine lv_isub (pc := 35) hx hb dM_check_35 ?_
          refine lv_icmp_ne (pc := 36) (tgt := 47) hx hb dM_check_36 rfl (fun h15 => ?_) (fun h15 => ?_)
          · replace hf := ite_f h15 hf
            refine lv_iconst (pc := 47) (v := 1) hx hb dM_check_47 (by decide) ?_
            refine lv_goto (pc := 48) (tgt := 52) hx hb dM_check_48 rfl ?_
            have hl := lv_sub hl (l' := [(4, .int y2), (0, .ref (ad 4 0)), (1, .int a1), (2, .int a2), (3, .int a3)]) [0, 1, 2, 3, 4] rfl
            exact hJx10 (1, H, _, ls) ⟨hP, hD, hS, hl⟩ hf
          · replace hf := ite_t h15 hf
            refine lv_aload_n (pc := 39) hx hb dM_check_39 rfl (lv_at hl 1 rfl) ?_
            refine lv_iload_n (pc := 40) hx hb dM_check_40 rfl (lv_at hl 2 rfl) ?_
            obtain ⟨q16, hq16, eq16⟩ := at_4 (ad := ad) (ca := ca) (σ := σ) hm0
            obtain ⟨y17, hy17, hf⟩ := ob hf
            refine vp_callSi (pc := 41) (W.runV (As := [.int a1]) (rest := []) ⟨hx, hb, hml, hown, hts⟩ (t_M_with l dC dI ad ca dom σ a1 hm0 hN hC y17 hy17) (cwV 1 hts (gV wd_101 wd_102 wd_103 wd_50 wd_100) rfl rfl rfl (by decide +kernel) ⟨Nat.le_of_ble_eq_true rfl, Nat.le_of_ble_eq_true rfl⟩) ⟨hR_blind, va_recv (q := (RM, TM, 11)) (q0 := q16) (ci := 4) hK.1 hP rfl eq16, hR_pre hP hK hG⟩ rfl rfl hl.1 rfl (lv_room (Nat.le_of_ble_eq_true rfl)) dM_check_41 ⟨Nat.le_of_ble_eq_true rfl, Nat.le_of_ble_eq_true rfl⟩) (fun r9 hr9 => ?_)
            refine W.eq (g2 := F0 m 44 ls [.int y17]) (by rw [hr9]) ?_
            refine lv_if_lt (pc := 44) (tgt := 51) hx hb dM_check_44 rfl (fun h18 => ?_) (fun h18 => ?_)
            · replace hf := ite_t h18 hf
              refine lv_iconst (pc := 51) (v := 0) hx hb dM_check_51 (by decide) ?_
              have hl := lv_sub hl (l' := [(4, .int y2), (0, .ref (ad 4 0)), (1, .int a1), (2, .int a2), (3, .int a3)]) [0, 1, 2, 3, 4] rfl
              exact hJx10 (0, H, _, ls) ⟨hP, hD, hS, hl⟩ hf
            · replace hf := ite_f h18 hf
              refine lv_iconst (pc := 47) (v := 1) hx hb dM_check_47 (by decide) ?_
              refine lv_goto (pc := 48) (tgt := 52) hx hb dM_check_48 rfl ?_
              have hl := lv_sub hl (l' := [(4, .int y2), (0, .ref (ad 4 0)), (1, .int a1), (2, .int a2), (3, .int a3)]) [0, 1, 2, 3, 4] rfl
              exact hJx10 (1, H, _, ls) ⟨hP, hD, hS, hl⟩ hf
      · rintro ⟨s11, H, locs, ls⟩ ⟨hP, hD, hS, hl⟩ hf
        dsimp only at hP hD hS hl hf ⊢
        rw [hx10] at hf
        have hl : lv_has ls 5 [(4, .int y2), (0, .ref (ad 4 0)), (1, .int a1), (2, .int a2), (3, .int a3)] := hl
        refine lv_iconst (pc := 52) (v := 2) hx hb dM_check_52 (by decide) ?_
        refine lv_iload (pc := 53) hx hb dM_check_53 (lv_at hl 0 rfl) ?_
        refine vp_callSi (pc := 55) (W.runS (As := [.int s11, .int 2, .int y2]) (rest := []) ⟨hx, hb, hml, hown, hts⟩ (t_M_least l dC dI ad ca dom s11 2 y2 σ hN hC (M_least s11 2 y2) rfl) (cwS 3 hts (gS wd_152 wd_153 wd_50 wd_151) rfl rfl rfl (by decide +kernel) ⟨Nat.le_of_ble_eq_true rfl, Nat.le_of_ble_eq_true rfl⟩) ⟨hR_blind, hR_pre hP hK hG⟩ rfl rfl hl.1 rfl (lv_room (Nat.le_of_ble_eq_true rfl)) dM_check_55 ⟨Nat.le_of_ble_eq_true rfl, Nat.le_of_ble_eq_true rfl⟩) (fun r9 hr9 => ?_)
        refine W.eq (g2 := F0 m 58 ls [.int (M_least s11 2 y2)]) (by rw [hr9]) ?_
        refine lv_istore (pc := 58) hx hb dM_check_58 hl (by decide) rfl (fun ls hl => ?_)
        have hl : lv_has ls 5 [(4, .int (M_least s11 2 y2)), (0, .ref (ad 4 0)), (1, .int a1), (2, .int a2), (3, .int a3)] := hl
        refine lv_aload_n (pc := 60) hx hb dM_check_60 rfl (lv_at hl 1 rfl) ?_
        obtain ⟨q19, hq19, eq19⟩ := at_4 (ad := ad) (ca := ca) (σ := σ) hm0
        refine va_get (D := (dC, dI)) (cl := kCl) (C := RM) (T := TM) (N := 11) (pc := 61) hx hb hts inM hown hK.1 hP q19 eq19 rfl 2 (by decide) (hts _ wd_51) (fun _ h9 => h9) rfl dM_check_61 ?_
        refine lv_aload_n (pc := 64) hx hb dM_check_64 rfl (lv_at hl 1 rfl) ?_
        refine lv_iload_n (pc := 65) hx hb dM_check_65 rfl (lv_at hl 2 rfl) ?_
        refine lv_iload_n (pc := 66) hx hb dM_check_66 rfl (lv_at hl 3 rfl) ?_
        obtain ⟨q20, hq20, eq20⟩ := at_4 (ad := ad) (ca := ca) (σ := σ) hm0
        refine vp_callSi (pc := 67) (W.runV (As := [.int a1, .int a2]) (rest := [.ref (ad 15 0)]) ⟨hx, hb, hml, hown, hts⟩ (t_M_revisionAt l dC dI ad ca dom a1 a2 hm0 σ hN hC (M_revisionAt a1 a2) rfl) (cwV 2 hts (gV wd_65 wd_66 wd_67 wd_50 wd_64) rfl rfl rfl (by decide +kernel) ⟨Nat.le_of_ble_eq_true rfl, Nat.le_of_ble_eq_true rfl⟩) ⟨hR_blind, va_recv (q := (RM, TM, 11)) (q0 := q20) (ci := 4) hK.1 hP rfl eq20, hR_pre hP hK hG⟩ rfl rfl hl.1 rfl (lv_room (Nat.le_of_ble_eq_true rfl)) dM_check_67 ⟨Nat.le_of_ble_eq_true rfl, Nat.le_of_ble_eq_true rfl⟩) (fun r9 hr9 => ?_)
        refine W.eq (g2 := F0 m 70 ls [.int (M_revisionAt a1 a2), .ref (ad 15 0)]) (by rw [hr9]) ?_
        refine lv_iconst (pc := 70) (v := 1) hx hb dM_check_70 (by decide) ?_
        refine lv_iadd (pc := 71) hx hb dM_check_71 ?_
        obtain ⟨hv21, hf⟩ := ite_s hf
        obtain ⟨q22, hq22, eq22⟩ := at_15 (ad := ad) (ca := ca) (σ := σ) (cm_4_2 hC hm0)
        refine va_iald (D := (dC, dI)) (cl := kCl) (pc := 72) hx hb (hK.2 15 0 .int (cm_4_2 hC hm0) rfl) hP q22 0 eq22 rfl (hv21) dM_check_72 ?_
        refine W.eq (g2 := F0 m 73 ls [.int (xI σ 15 0 (((M_revisionAt a1 a2) + 1)).toNatClampNeg)]) rfl ?_
        refine lv_iload_n (pc := 73) hx hb dM_check_73 rfl (lv_at hl 4 rfl) ?_
        obtain ⟨x23, hx23, hf⟩ := lt_9 hf
        refine jnF (τ := (Int32) × (Heap) × (List Loc) × (Array Slot)) (fun pc st z => W p l e _ s m _ below meth c z.2.1 z.2.2.1 0 0 _ (F0 m pc z.2.2.2 st)) (pc0 := 74) (st0 := [.int a3, .int (xI σ 15 0 (((M_revisionAt a1 a2) + 1)).toNatClampNeg)]) (z0 := (0, H, _, ls)) 82 (fun z => [.int z.1]) (fun z => va_P (dC, dI) kCl (w9 ad ca dom (σ)) z.2.1 ∧ va_D A (w9 ad ca dom (σ)) ∧ va_S A s.heap z.2.1 z.2.2.1 ∧ lv_has z.2.2.2 5 [(4, .int (M_least s11 2 y2)), (0, .ref (ad 4 0)), (1, .int a1), (2, .int a2), (3, .int a3)]) (fun z => x23 z.1) (ρ, σ') ?_ ?_
        · intro hJx23
          dsimp only at hJx23 ⊢
          refine lv_icmp_ne (pc := 74) (tgt := 81) hx hb dM_check_74 rfl (fun h25 => ?_) (fun h25 => ?_)
          · replace hf := ite_f h25 hf
            refine lv_iconst (pc := 81) (v := 0) hx hb dM_check_81 (by decide) ?_
            have hl := lv_sub hl (l' := [(4, .int (M_least s11 2 y2)), (0, .ref (ad 4 0)), (1, .int a1), (2, .int a2), (3, .int a3)]) [0, 1, 2, 3, 4] rfl
            exact hJx23 (0, H, _, ls) ⟨hP, hD, hS, hl⟩ hf
          · replace hf := ite_t h25 hf
            refine lv_iconst (pc := 77) (v := 1) hx hb dM_check_77 (by decide) ?_
            refine lv_goto (pc := 78) (tgt := 82) hx hb dM_check_78 rfl ?_
            have hl := lv_sub hl (l' := [(4, .int (M_least s11 2 y2)), (0, .ref (ad 4 0)), (1, .int a1), (2, .int a2), (3, .int a3)]) [0, 1, 2, 3, 4] rfl
            exact hJx23 (1, H, _, ls) ⟨hP, hD, hS, hl⟩ hf
        · rintro ⟨s24, H, locs, ls⟩ ⟨hP, hD, hS, hl⟩ hf
          dsimp only at hP hD hS hl hf ⊢
          rw [hx23] at hf
          have hl : lv_has ls 5 [(4, .int (M_least s11 2 y2)), (0, .ref (ad 4 0)), (1, .int a1), (2, .int a2), (3, .int a3)] := hl
          refine lv_iconst (pc := 82) (v := 3) hx hb dM_check_82 (by decide) ?_
          refine lv_iload (pc := 83) hx hb dM_check_83 (lv_at hl 0 rfl) ?_
          refine vp_callSi (pc := 85) (W.runS (As := [.int s24, .int 3, .int (M_least s11 2 y2)]) (rest := []) ⟨hx, hb, hml, hown, hts⟩ (t_M_least l dC dI ad ca dom s24 3 (M_least s11 2 y2) σ hN hC (M_least s24 3 (M_least s11 2 y2)) rfl) (cwS 3 hts (gS wd_152 wd_153 wd_50 wd_151) rfl rfl rfl (by decide +kernel) ⟨Nat.le_of_ble_eq_true rfl, Nat.le_of_ble_eq_true rfl⟩) ⟨hR_blind, hR_pre hP hK hG⟩ rfl rfl hl.1 rfl (lv_room (Nat.le_of_ble_eq_true rfl)) dM_check_85 ⟨Nat.le_of_ble_eq_true rfl, Nat.le_of_ble_eq_true rfl⟩) (fun r9 hr9 => ?_)
          refine W.eq (g2 := F0 m 88 ls [.int (M_least s24 3 (M_least s11 2 y2))]) (by rw [hr9]) ?_
          refine lv_istore (pc := 88) hx hb dM_check_88 hl (by decide) rfl (fun ls hl => ?_)
          have hl : lv_has ls 5 [(4, .int (M_least s24 3 (M_least s11 2 y2))), (0, .ref (ad 4 0)), (1, .int a1), (2, .int a2), (3, .int a3)] := hl
          have hl := lv_sub hl (l' := [(4, .int (M_least s24 3 (M_least s11 2 y2))), (0, .ref (ad 4 0)), (1, .int a1), (2, .int a2), (3, .int a3)]) [0, 1, 2, 3, 4] rfl
          exact hJx5 ((M_least s24 3 (M_least s11 2 y2)), H, _, ls) ⟨hP, hD, hS, hl⟩ hf
  · rintro ⟨q6, H, locs, ls⟩ ⟨hP, hD, hS, hl⟩ hf
    dsimp only at hP hD hS hl hf ⊢
    rw [hx5] at hf
    have hl : lv_has ls 5 [(4, .int q6), (0, .ref (ad 4 0)), (1, .int a1), (2, .int a2), (3, .int a3)] := hl
    refine lv_aload_n (pc := 90) hx hb dM_check_90 rfl (lv_at hl 1 rfl) ?_
    refine lv_iload (pc := 91) hx hb dM_check_91 (lv_at hl 0 rfl) ?_
    refine lv_iconst (pc := 93) (v := 1) hx hb dM_check_93 (by decide) ?_
    obtain ⟨q26, hq26, eq26⟩ := at_4 (ad := ad) (ca := ca) (σ := σ) hm0
    obtain ⟨⟨y27, σ28⟩, hy27, hf⟩ := ob hf
    have hFc := w9_free hD hS hA
    refine va_calli (pc := 94) (va_runV (As := [.int q6, .int 1]) (rest := []) ⟨hx, hb, hml, hown, hts⟩ (t_M_may l dC dI ad ca dom H.size σ q6 1 hm0 hN hC y27 σ28 hy27) (cwV 2 hts (gV wd_140 wd_141 wd_142 wd_50 wd_139) rfl rfl rfl (by decide +kernel) ⟨Nat.le_of_ble_eq_true rfl, Nat.le_of_ble_eq_true rfl⟩) ⟨hW_blind, va_recv (q := (RM, TM, 11)) (q0 := q26) (ci := 4) hK.1 hP rfl eq26, hW_pre hP hK hD hG⟩ rfl rfl hl.1 rfl (lv_room (Nat.le_of_ble_eq_true rfl)) dM_check_94 ⟨Nat.le_of_ble_eq_true rfl, Nat.le_of_ble_eq_true rfl⟩) hS (fun q _ h => hFc q h) hFc (fun r9 u t H1 locs ht hvm hr9 hB hz1 hk1 hS => ?_)
    obtain ⟨hP, hD, hC⟩ := hB
    rw [ht] at hP
    replace hD := hD.weaken (fun _ _ _ h => hFc _ h)
    generalize H1 = H at hP hS ⊢
    refine W.eq (g2 := F0 m 97 ls [.int y27]) (by rw [hr9]) ?_
    refine lv_if_ne (pc := 97) (tgt := 102) hx hb dM_check_97 rfl (fun h29 => ?_) (fun h29 => ?_)
    · replace hf := ite_f h29 hf
      refine lv_aload_n (pc := 102) hx hb dM_check_102 rfl (lv_at hl 1 rfl) ?_
      obtain ⟨q30, hq30, eq30⟩ := at_4 (ad := ad) (ca := ca) (σ := σ28) hm0
      refine va_get (D := (dC, dI)) (cl := kCl) (C := RM) (T := TM) (N := 11) (pc := 103) hx hb hts inM hown hK.1 hP q30 eq30 rfl 2 (by decide) (hts _ wd_51) (fun _ h9 => h9) rfl dM_check_103 ?_
      refine lv_aload_n (pc := 106) hx hb dM_check_106 rfl (lv_at hl 1 rfl) ?_
      refine lv_iload_n (pc := 107) hx hb dM_check_107 rfl (lv_at hl 2 rfl) ?_
      refine lv_iload_n (pc := 108) hx hb dM_check_108 rfl (lv_at hl 3 rfl) ?_
      obtain ⟨q31, hq31, eq31⟩ := at_4 (ad := ad) (ca := ca) (σ := σ28) hm0
      refine vp_callSi (pc := 109) (W.runV (As := [.int a1, .int a2]) (rest := [.ref (ad 15 0)]) ⟨hx, hb, hml, hown, hts⟩ (t_M_revisionAt l dC dI ad ca dom a1 a2 hm0 σ28 hN hC (M_revisionAt a1 a2) rfl) (cwV 2 hts (gV wd_65 wd_66 wd_67 wd_50 wd_64) rfl rfl rfl (by decide +kernel) ⟨Nat.le_of_ble_eq_true rfl, Nat.le_of_ble_eq_true rfl⟩) ⟨hR_blind, va_recv (q := (RM, TM, 11)) (q0 := q31) (ci := 4) hK.1 hP rfl eq31, hR_pre hP hK hG⟩ rfl rfl hl.1 rfl (lv_room (Nat.le_of_ble_eq_true rfl)) dM_check_109 ⟨Nat.le_of_ble_eq_true rfl, Nat.le_of_ble_eq_true rfl⟩) (fun r9 hr9 => ?_)
      refine W.eq (g2 := F0 m 112 ls [.int (M_revisionAt a1 a2), .ref (ad 15 0)]) (by rw [hr9]) ?_
      refine lv_iconst (pc := 112) (v := 0) hx hb dM_check_112 (by decide) ?_
      refine lv_iadd (pc := 113) hx hb dM_check_113 ?_
      refine lv_iconst (pc := 114) (v := 1) hx hb dM_check_114 (by decide) ?_
      obtain ⟨hv33, hf⟩ := ite_s hf
      obtain ⟨q34, hq34, eq34⟩ := at_15 (ad := ad) (ca := ca) (σ := σ28) (cm_4_2 hC hm0)
      refine va_iast (D := (dC, dI)) (cl := kCl) (pc := 115) hx hb (hK.2 15 0 .int (cm_4_2 hC hm0) rfl) hP hD hS q34 0 eq34 rfl (hv33) dM_check_115 (fun H locs hP hD hS => ?_)
      obtain ⟨σ32, hσ32, hf⟩ := lt_9 hf
      obtain ⟨hP, hD⟩ := w9_rI 15 rfl hN hq34 hσ32 (pr_15) hP hD
      have hC : clo dom σ32.2.2 := by rw [hσ32]; exact hC
      refine lv_aload_n (pc := 116) hx hb dM_check_116 rfl (lv_at hl 1 rfl) ?_
      obtain ⟨q35, hq35, eq35⟩ := at_4 (ad := ad) (ca := ca) (σ := σ32) hm0
      obtain ⟨⟨y36, σ37⟩, hy36, hf⟩ := ob hf
      have hFc := w9_free hD hS hA
      refine va_callv (pc := 117) (va_runV (As := []) (rest := []) ⟨hx, hb, hml, hown, hts⟩ (t_M_close l dC dI ad ca dom H.size n σ32 hm0 hN hC y36 σ37 hy36) (cwV 0 hts (gV wd_144 wd_145 wd_146 wd_50 wd_143) rfl rfl rfl (by decide +kernel) ⟨Nat.le_of_ble_eq_true rfl, Nat.le_of_ble_eq_true rfl⟩) ⟨hW_blind, va_recv (q := (RM, TM, 11)) (q0 := q35) (ci := 4) hK.1 hP rfl eq35, hW_pre hP hK hD hG⟩ rfl rfl hl.1 rfl (lv_room (Nat.le_of_ble_eq_true rfl)) dM_check_117 ⟨Nat.le_of_ble_eq_true rfl, Nat.le_of_ble_eq_true rfl⟩) hS (fun q _ h => hFc q h) hFc (fun u t H1 locs ht hvm hr9 hB hz1 hk1 hS => ?_)
      obtain ⟨hP, hD, hC⟩ := hB
      rw [ht] at hP
      replace hD := hD.weaken (fun _ _ _ h => hFc _ h)
      generalize H1 = H at hP hS ⊢
      refine lv_iconst (pc := 120) (v := 1) hx hb dM_check_120 (by decide) ?_
      obtain ⟨h8, h9⟩ := Prod.mk.inj (Option.some.inj hf)
      subst h9
      exact W.zret (pc := 121) hx hb hr (rfl) (fun t ht hW => ⟨⟨_, (), rfl, h8, by rw [ht]; exact hP, hD, hC⟩, hS.F ht⟩) hS.2.2 dM_check_121
    · replace hf := ite_t h29 hf
      refine lv_iconst (pc := 100) (v := 0) hx hb dM_check_100 (by decide) ?_
      obtain ⟨h8, h9⟩ := Prod.mk.inj (Option.some.inj hf)
      subst h9
      exact W.zret (pc := 101) hx hb hr (rfl) (fun t ht hW => ⟨⟨_, (), rfl, h8, by rw [ht]; exact hP, hD, hC⟩, hS.F ht⟩) hS.2.2 dM_check_101
def M_lacksReleased_L4 (n : Nat) (σ : hT) (kx4 : Int32 → Int32 → Int32 → Option (Int32)) : Nat → Int32 → Int32 → Int32 → Option (Int32)
  | 0, _, _, _ => none
  | k + 1, p1, p2, p3 => if in9 (p3 + 3) 25240 then if (xI σ 15 0 ((p3 + 3)).toNatClampNeg) ≤ p1 then kx4 p1 p2 p3 else if p2 = 0 then Option.bind (M_isReleased n σ p3 p1) fun y12 => if y12 = 0 then M_lacksReleased_L4 n σ kx4 k (p1 + 1) 1 p3 else M_lacksReleased_L4 n σ kx4 k (p1 + 1) 0 p3 else M_lacksReleased_L4 n σ kx4 k (p1 + 1) 1 p3 else none
def M_lacksReleased (n : Nat) (σ : hT) (a1 : Int32) : Option (Int32) := lt9 (α := Int32 → Int32 → Int32 → Option (Int32)) (fun (p1 : Int32) (p2 : Int32) (p3 : Int32) => if p2 = 0 ∨ p2 = 1 then some p2 else none) fun kx4 => M_lacksReleased_L4 n σ kx4 n 0 0 a1
set_option maxHeartbeats 4000000 in
set_option maxRecDepth 100000 in
theorem t_M_lacksReleased (l : Launch) (dC : Nat → ClassId) (dI : Nat → Nat → Nat) (ad : Nat → Nat → Nat) (ca : Nat → Nat → ClassId) (dom : List (Nat × Nat)) (n : Nat) (σ : hT) (a1 : Int32) (hm0 : (4, 0) ∈ dom) (hN : dom.Nodup) (hC : clo dom σ.2.2) (ρ : Int32) (hf : M_lacksReleased n σ a1 = some ρ) : Met l yM_lacksReleased (.code yM_lacksReleased cM_lacksReleased 4 (some .boolean) :: aw) ({ frames := 5, cells := 0, slots := 0, locals := 113 }) (hR (dC, dI) ad ca dom σ [.ref (ad 4 0), .int a1]) (vp_Si (fun r => r = ρ)) 0 0 (fun _ => False) := by
  refine Met.ofW (cc := cM_lacksReleased) (maxL := 4) (ret := (some .boolean)) (by decide) rfl ?_
  intro p e s m args below meth c s₁ B hml hv
  obtain ⟨rfl, hv⟩ := hv
  have hx := B.exec
  have hb := B.bytes
  have hr := B.returns
  have hts : ∀ w ∈ aw, w.before _ s = true := fun w h => atoms_spec (ws := (.code yM_lacksReleased cM_lacksReleased 4 (some .boolean) :: aw)) B.pre w (List.mem_cons_of_mem _ h)
  have hown : s.vm.findClass RM = some m.cls := findClass_of_methodNamed B.named
  have hlocks := B.notSynchronized
  obtain ⟨hP, hK, hG⟩ := hv
  obtain ⟨H, hH⟩ : ∃ H, H = s.heap := ⟨_, rfl⟩
  rw [← hH] at hP ⊢
  unfold M_lacksReleased at hf
  have hl := lv_entry ([.ref (ad 4 0), .int a1]) (n := 4) (Nat.le_of_ble_eq_true rfl)
  rw [lg_entry_eq]
  generalize (lg_sl ([.ref (ad 4 0), .int a1]) ++ List.replicate (4 - (lg_sl ([.ref (ad 4 0), .int a1])).length) Slot.unset).toArray = ls at hl ⊢
  have hl : lv_has ls 4 [(0, .ref (ad 4 0)), (1, .int a1)] := hl
  refine lv_iconst (pc := 0) (v := 0) hx hb dM_lacksReleased_0 (by decide) ?_
  refine lv_istore_n (pc := 1) hx hb dM_lacksReleased_1 rfl hl (by decide) rfl (fun ls hl => ?_)
  have hl : lv_has ls 4 [(2, .int 0), (0, .ref (ad 4 0)), (1, .int a1)] := hl
  refine lv_iconst (pc := 2) (v := 0) hx hb dM_lacksReleased_2 (by decide) ?_
  refine lv_istore_n (pc := 3) hx hb dM_lacksReleased_3 rfl hl (by decide) rfl (fun ls hl => ?_)
  have hl : lv_has ls 4 [(3, .int 0), (2, .int 0), (0, .ref (ad 4 0)), (1, .int a1)] := hl
  obtain ⟨kx4, hkx4, hf⟩ := lt_9 hf
  refine lpF (τ := (Int32) × (Int32) × (Int32) × (Array Slot)) (fun pc z => W p l e _ s m _ below meth c H ([]) 0 0 _ (F0 m pc z.2.2.2 [])) 4 41 (fun z => lv_has z.2.2.2 4 [(3, .int z.1), (2, .int z.2.1), (0, .ref (ad 4 0)), (1, .int z.2.2.1)]) (fun k z => M_lacksReleased_L4 n σ kx4 k z.1 z.2.1 z.2.2.1) (fun z => kx4 z.1 z.2.1 z.2.2.1) _ (fun z => rfl) ?_ ?_ n (0, 0, a1, ls) hl hf
  · rintro k ⟨p1, p2, p3, ls⟩ hl hf ih5 hXkx4
    dsimp only at hl hf ih5 hXkx4 ⊢
    unfold M_lacksReleased_L4 at hf
    have hl : lv_has ls 4 [(3, .int p1), (2, .int p2), (0, .ref (ad 4 0)), (1, .int p3)] := hl
    refine lv_iload_n (pc := 4) hx hb dM_lacksReleased_4 rfl (lv_at hl 0 rfl) ?_
    refine lv_aload_n (pc := 5) hx hb dM_lacksReleased_5 rfl (lv_at hl 2 rfl) ?_
    obtain ⟨q6, hq6, eq6⟩ := at_4 (ad := ad) (ca := ca) (σ := σ) hm0
    refine va_get (D := (dC, dI)) (cl := kCl) (C := RM) (T := TM) (N := 11) (pc := 6) hx hb hts inM hown hK.1 hP q6 eq6 rfl 2 (by decide) (hts _ wd_51) (fun _ h9 => h9) rfl dM_lacksReleased_6 ?_
    refine lv_iload_n (pc := 9) hx hb dM_lacksReleased_9 rfl (lv_at hl 3 rfl) ?_
    refine lv_iconst (pc := 10) (v := 3) hx hb dM_lacksReleased_10 (by decide) ?_
    refine lv_iadd (pc := 11) hx hb dM_lacksReleased_11 ?_
    obtain ⟨hv7, hf⟩ := ite_s hf
    obtain ⟨q8, hq8, eq8⟩ := at_15 (ad := ad) (ca := ca) (σ := σ) (cm_4_2 hC hm0)
    refine va_iald (D := (dC, dI)) (cl := kCl) (pc := 12) hx hb (hK.2 15 0 .int (cm_4_2 hC hm0) rfl) hP q8 0 eq8 rfl (hv7) dM_lacksReleased_12 ?_
    refine W.eq (g2 := F0 m 13 ls [.int (xI σ 15 0 ((p3 + 3)).toNatClampNeg), .int p1]) rfl ?_
    refine lv_icmp_ge (pc := 13) (tgt := 41) hx hb dM_lacksReleased_13 rfl (fun h9 => ?_) (fun h9 => ?_)
    · replace hf := ite_t h9 hf
      have hl := lv_sub hl (l' := [(3, .int p1), (2, .int p2), (0, .ref (ad 4 0)), (1, .int p3)]) [0, 1, 2, 3] rfl
      exact hXkx4 (p1, p2, p3, ls) hl hf
    · replace hf := ite_f h9 hf
      refine lv_iload_n (pc := 16) hx hb dM_lacksReleased_16 rfl (lv_at hl 1 rfl) ?_
      refine lv_if_ne (pc := 17) (tgt := 29) hx hb dM_lacksReleased_17 rfl (fun h10 => ?_) (fun h10 => ?_)
      · replace hf := ite_f h10 hf
        refine lv_iconst (pc := 29) (v := 1) hx hb dM_lacksReleased_29 (by decide) ?_
        refine lv_goto (pc := 30) (tgt := 34) hx hb dM_lacksReleased_30 rfl ?_
        refine lv_istore_n (pc := 34) hx hb dM_lacksReleased_34 rfl hl (by decide) rfl (fun ls hl => ?_)
        have hl : lv_has ls 4 [(2, .int 1), (3, .int p1), (0, .ref (ad 4 0)), (1, .int p3)] := hl
        refine lv_iinc (pc := 35) (v := (p1 + 1)) hx hb dM_lacksReleased_35 hl (k := 1) rfl (by rfl) (by decide) rfl (fun ls hl => ?_)
        have hl : lv_has ls 4 [(3, .int (p1 + 1)), (2, .int 1), (0, .ref (ad 4 0)), (1, .int p3)] := hl
        refine lv_goto (pc := 38) (tgt := 4) hx hb dM_lacksReleased_38 rfl ?_
        have hl := lv_sub hl (l' := [(3, .int (p1 + 1)), (2, .int 1), (0, .ref (ad 4 0)), (1, .int p3)]) [0, 1, 2, 3] rfl
        exact ih5 ((p1 + 1), 1, p3, ls) hl hf
      · replace hf := ite_t h10 hf
        refine lv_aload_n (pc := 20) hx hb dM_lacksReleased_20 rfl (lv_at hl 2 rfl) ?_
        refine lv_iload_n (pc := 21) hx hb dM_lacksReleased_21 rfl (lv_at hl 3 rfl) ?_
        refine lv_iload_n (pc := 22) hx hb dM_lacksReleased_22 rfl (lv_at hl 0 rfl) ?_
        obtain ⟨q11, hq11, eq11⟩ := at_4 (ad := ad) (ca := ca) (σ := σ) hm0
        obtain ⟨y12, hy12, hf⟩ := ob hf
        refine vp_callSi (pc := 23) (W.runV (As := [.int p3, .int p1]) (rest := []) ⟨hx, hb, hml, hown, hts⟩ (t_M_isReleased l dC dI ad ca dom n σ p3 p1 hm0 hN hC y12 hy12) (cwV 2 hts (gV wd_200 wd_201 wd_202 wd_50 wd_199) rfl rfl rfl (by decide +kernel) ⟨Nat.le_of_ble_eq_true rfl, Nat.le_of_ble_eq_true rfl⟩) ⟨hR_blind, va_recv (q := (RM, TM, 11)) (q0 := q11) (ci := 4) hK.1 hP rfl eq11, hR_pre hP hK hG⟩ rfl rfl hl.1 rfl (lv_room (Nat.le_of_ble_eq_true rfl)) dM_lacksReleased_23 ⟨Nat.le_of_ble_eq_true rfl, Nat.le_of_ble_eq_true rfl⟩) (fun r9 hr9 => ?_)
        refine W.eq (g2 := F0 m 26 ls [.int y12]) (by rw [hr9]) ?_
        refine lv_if_ne (pc := 26) (tgt := 33) hx hb dM_lacksReleased_26 rfl (fun h13 => ?_) (fun h13 => ?_)
        · replace hf := ite_f h13 hf
          refine lv_iconst (pc := 33) (v := 0) hx hb dM_lacksReleased_33 (by decide) ?_
          refine lv_istore_n (pc := 34) hx hb dM_lacksReleased_34 rfl hl (by decide) rfl (fun ls hl => ?_)
          have hl : lv_has ls 4 [(2, .int 0), (3, .int p1), (0, .ref (ad 4 0)), (1, .int p3)] := hl
          refine lv_iinc (pc := 35) (v := (p1 + 1)) hx hb dM_lacksReleased_35 hl (k := 1) rfl (by rfl) (by decide) rfl (fun ls hl => ?_)
          have hl : lv_has ls 4 [(3, .int (p1 + 1)), (2, .int 0), (0, .ref (ad 4 0)), (1, .int p3)] := hl
          refine lv_goto (pc := 38) (tgt := 4) hx hb dM_lacksReleased_38 rfl ?_
          have hl := lv_sub hl (l' := [(3, .int (p1 + 1)), (2, .int 0), (0, .ref (ad 4 0)), (1, .int p3)]) [0, 1, 2, 3] rfl
          exact ih5 ((p1 + 1), 0, p3, ls) hl hf
        · replace hf := ite_t h13 hf
          refine lv_iconst (pc := 29) (v := 1) hx hb dM_lacksReleased_29 (by decide) ?_
          refine lv_goto (pc := 30) (tgt := 34) hx hb dM_lacksReleased_30 rfl ?_
          refine lv_istore_n (pc := 34) hx hb dM_lacksReleased_34 rfl hl (by decide) rfl (fun ls hl => ?_)
          have hl : lv_has ls 4 [(2, .int 1), (3, .int p1), (0, .ref (ad 4 0)), (1, .int p3)] := hl
          refine lv_iinc (pc := 35) (v := (p1 + 1)) hx hb dM_lacksReleased_35 hl (k := 1) rfl (by rfl) (by decide) rfl (fun ls hl => ?_)
          have hl : lv_has ls 4 [(3, .int (p1 + 1)), (2, .int 1), (0, .ref (ad 4 0)), (1, .int p3)] := hl
          refine lv_goto (pc := 38) (tgt := 4) hx hb dM_lacksReleased_38 rfl ?_
          have hl := lv_sub hl (l' := [(3, .int (p1 + 1)), (2, .int 1), (0, .ref (ad 4 0)), (1, .int p3)]) [0, 1, 2, 3] rfl
          exact ih5 ((p1 + 1), 1, p3, ls) hl hf
  · rintro ⟨p1, p2, p3, ls⟩ hl hf
    dsimp only at hl hf ⊢
    rw [hkx4] at hf
    have hl : lv_has ls 4 [(3, .int p1), (2, .int p2), (0, .ref (ad 4 0)), (1, .int p3)] := hl
    refine lv_iload_n (pc := 41) hx hb dM_lacksReleased_41 rfl (lv_at hl 1 rfl) ?_
    obtain ⟨hz9, hf⟩ := ite_s hf
    exact W.zret (pc := 42) hx hb hr (nar01 hz9) (fun t ht hW => ⟨_, rfl, (Option.some.inj hf), ht.trans hH⟩) (fun q h => nomatch h) dM_lacksReleased_42
def M_release (n : Nat) (σ : hT) (a1 : Int32) (a2 : Int32) (a3 : Int32) : Option (Int32 × hT) := Option.bind (M_whyNotRevision σ a1 a2 a3 4) fun y2 => Option.bind (M_isRevision σ a1 a2) fun y4 => lt9 (α := Int32 → Option (Int32 × hT)) (fun (q6 : Int32) => Option.bind (M_may σ q6 1) fun ⟨y17, σ18⟩ => if y17 = 0 then some (0, σ18) else if in9 ((M_revisionAt a1 a2) + 0) 25240 then lt9 (sI σ18 15 0 (((M_revisionAt a1 a2) + 0)).toNatClampNeg 2) fun σ22 => Option.bind (M_close n σ22) fun ⟨y26, σ27⟩ => some (1, σ27) else none) fun x5 => if y4 = 0 then x5 y2 else Option.bind (M_stateOf σ a1 a2) fun y9 => lt9 (α := Int32 → Option (Int32 × hT)) (fun (s11 : Int32) => Option.bind (M_lacksReleased n σ (M_revisionAt a1 a2)) fun y15 => x5 (M_least y15 4 (M_least s11 2 y2))) fun x10 => if y9 = 1 then x10 0 else x10 1
set_option maxHeartbeats 4000000 in
set_option maxRecDepth 100000 in
theorem t_M_release (l : Launch) (dC : Nat → ClassId) (dI : Nat → Nat → Nat) (ad : Nat → Nat → Nat) (ca : Nat → Nat → ClassId) (dom : List (Nat × Nat)) (sz : Nat) (n : Nat) (σ : hT) (a1 : Int32) (a2 : Int32) (a3 : Int32) (hm0 : (4, 0) ∈ dom) (hN : dom.Nodup) (hC : clo dom σ.2.2) (ρ : Int32) (σ' : hT) (hf : M_release n σ a1 a2 a3 = some (ρ, σ')) : Met l yM_release (.code yM_release cM_release 5 (some .boolean) :: aw) ({ frames := 7, cells := 0, slots := 0, locals := 157 }) (hW (dC, dI) sz ad ca dom σ [.ref (ad 4 0), .int a1, .int a2, .int a3]) (va_Qi (fun r (_ : Unit) => r = ρ) (fun _ t => hB (dC, dI) (va_A (w9 ad ca dom σ) sz) ad ca dom σ' t) (va_A (w9 ad ca dom σ) sz)) 0 0 (va_A (w9 ad ca dom σ) sz) := by
  refine Met.ofW (cc := cM_release) (maxL := 5) (ret := (some .boolean)) (by decide) rfl ?_
  intro p e s m args below meth c s₁ B hml hv
  obtain ⟨rfl, hv⟩ := hv
  have hx := B.exec
  have hb := B.bytes
  have hr := B.returns
  have hts : ∀ w ∈ aw, w.before _ s = true := fun w h => atoms_spec (ws := (.code yM_release cM_release 5 (some .boolean) :: aw)) B.pre w (List.mem_cons_of_mem _ h)
  have hown : s.vm.findClass RM = some m.cls := findClass_of_methodNamed B.named
  have hlocks := B.notSynchronized
  obtain ⟨hsz, hP, hK, hD0, hG⟩ := hv
  subst hsz
  have hD := hD0.self (sz := s.heap.size)
  generalize hAe : va_A (w9 ad ca dom σ) s.heap.size = A at hD ⊢
  have hA : ∀ q : Nat, s.heap.size ≤ q → A q := fun q h => by rw [← hAe]; exact Or.inr h
  obtain ⟨H, hH⟩ : ∃ H, H = s.heap := ⟨_, rfl⟩
  have hS : va_S A s.heap H [] := by rw [hH]; exact va_S.rf
  rw [← hH] at hP ⊢
  unfold M_release at hf
  have hl := lv_entry ([.ref (ad 4 0), .int a1, .int a2, .int a3]) (n := 5) (Nat.le_of_ble_eq_true rfl)
  rw [lg_entry_eq]
  generalize (lg_sl ([.ref (ad 4 0), .int a1, .int a2, .int a3]) ++ List.replicate (5 - (lg_sl ([.ref (ad 4 0), .int a1, .int a2, .int a3])).length) Slot.unset).toArray = ls at hl ⊢
  have hl : lv_has ls 5 [(0, .ref (ad 4 0)), (1, .int a1), (2, .int a2), (3, .int a3)] := hl
  refine lv_aload_n (pc := 0) hx hb dM_release_0 rfl (lv_at hl 0 rfl) ?_
  refine lv_iload_n (pc := 1) hx hb dM_release_1 rfl (lv_at hl 1 rfl) ?_
  refine lv_iload_n (pc := 2) hx hb dM_release_2 rfl (lv_at hl 2 rfl) ?_
  refine lv_iload_n (pc := 3) hx hb dM_release_3 rfl (lv_at hl 3 rfl) ?_
  refine lv_iconst (pc := 4) (v := 4) hx hb dM_release_4 (by decide) ?_
  obtain ⟨q1, hq1, eq1⟩ := at_4 (ad := ad) (ca := ca) (σ := σ) hm0
  obtain ⟨y2, hy2, hf⟩ := ob hf
  refine vp_callSi (pc := 5) (W.runV (As := [.int a1, .int a2, .int a3, .int 4]) (rest := []) ⟨hx, hb, hml, hown, hts⟩ (t_M_whyNotRevision l dC dI ad ca dom σ a1 a2 a3 4 hm0 hN hC y2 hy2) (cwV 4 hts (gV wd_196 wd_197 wd_198 wd_50 wd_195) rfl rfl rfl (by decide +kernel) ⟨Nat.le_of_ble_eq_true rfl, Nat.le_of_ble_eq_true rfl⟩) ⟨hR_blind, va_recv (q := (RM, TM, 11)) (q0 := q1) (ci := 4) hK.1 hP rfl eq1, hR_pre hP hK hG⟩ rfl rfl hl.1 rfl (lv_room (Nat.le_of_ble_eq_true rfl)) dM_release_5 ⟨Nat.le_of_ble_eq_true rfl, Nat.le_of_ble_eq_true rfl⟩) (fun r9 hr9 => ?_)
  refine W.eq (g2 := F0 m 8 ls [.int y2]) (by rw [hr9]) ?_
  refine lv_istore (pc := 8) hx hb dM_release_8 hl (by decide) rfl (fun ls hl => ?_)
  have hl : lv_has ls 5 [(4, .int y2), (0, .ref (ad 4 0)), (1, .int a1), (2, .int a2), (3, .int a3)] := hl
  refine lv_aload_n (pc := 10) hx hb dM_release_10 rfl (lv_at hl 1 rfl) ?_
  refine lv_iload_n (pc := 11) hx hb dM_release_11 rfl (lv_at hl 2 rfl) ?_
  refine lv_iload_n (pc := 12) hx hb dM_release_12 rfl (lv_at hl 3 rfl) ?_
  obtain ⟨q3, hq3, eq3⟩ := at_4 (ad := ad) (ca := ca) (σ := σ) hm0
  obtain ⟨y4, hy4, hf⟩ := ob hf
  refine vp_callSi (pc := 13) (W.runV (As := [.int a1, .int a2]) (rest := []) ⟨hx, hb, hml, hown, hts⟩ (t_M_isRevision l dC dI ad ca dom σ a1 a2 hm0 hN hC y4 hy4) (cwV 2 hts (gV wd_97 wd_98 wd_99 wd_50 wd_96) rfl rfl rfl (by decide +kernel) ⟨Nat.le_of_ble_eq_true rfl, Nat.le_of_ble_eq_true rfl⟩) ⟨hR_blind, va_recv (q := (RM, TM, 11)) (q0 := q3) (ci := 4) hK.1 hP rfl eq3, hR_pre hP hK hG⟩ rfl rfl hl.1 rfl (lv_room (Nat.le_of_ble_eq_true rfl)) dM_release_13 ⟨Nat.le_of_ble_eq_true rfl, Nat.le_of_ble_eq_true rfl⟩) (fun r9 hr9 => ?_)
  refine W.eq (g2 := F0 m 16 ls [.int y4]) (by rw [hr9]) ?_
  obtain ⟨x5, hx5, hf⟩ := lt_9 hf
  refine jnF (τ := (Int32) × (Heap) × (List Loc) × (Array Slot)) (fun pc st z => W p l e _ s m _ below meth c z.2.1 z.2.2.1 0 0 _ (F0 m pc z.2.2.2 st)) (pc0 := 16) (st0 := [.int y4]) (z0 := (0, H, _, ls)) 60 (fun z => []) (fun z => va_P (dC, dI) kCl (w9 ad ca dom (σ)) z.2.1 ∧ va_D A (w9 ad ca dom (σ)) ∧ va_S A s.heap z.2.1 z.2.2.1 ∧ lv_has z.2.2.2 5 [(4, .int z.1), (0, .ref (ad 4 0)), (1, .int a1), (2, .int a2), (3, .int a3)]) (fun z => x5 z.1) (ρ, σ') ?_ ?_
  · intro hJx5
    dsimp only at hJx5 ⊢
    refine lv_if_eq (pc := 16) (tgt := 60) hx hb dM_release_16 rfl (fun h7 => ?_) (fun h7 => ?_)
    · replace hf := ite_t h7 hf
      have hl := lv_sub hl (l' := [(4, .int y2), (0, .ref (ad 4 0)), (1, .int a1), (2, .int a2), (3, .int a3)]) [0, 1, 2, 3, 4] rfl
      exact hJx5 (y2, H, _, ls) ⟨hP, hD, hS, hl⟩ hf
    · replace hf := ite_f h7 hf
      refine lv_aload_n (pc := 19) hx hb dM_release_19 rfl (lv_at hl 1 rfl) ?_
      refine lv_iload_n (pc := 20) hx hb dM_release_20 rfl (lv_at hl 2 rfl) ?_
      refine lv_iload_n (pc := 21) hx hb dM_release_21 rfl (lv_at hl 3 rfl) ?_
      obtain ⟨q8, hq8, eq8⟩ := at_4 (ad := ad) (ca := ca) (σ := σ) hm0
      obtain ⟨y9, hy9, hf⟩ := ob hf
      refine vp_callSi (pc := 22) (W.runV (As := [.int a1, .int a2]) (rest := []) ⟨hx, hb, hml, hown, hts⟩ (t_M_stateOf l dC dI ad ca dom σ a1 a2 hm0 hN hC y9 hy9) (cwV 2 hts (gV wd_69 wd_70 wd_71 wd_50 wd_68) rfl rfl rfl (by decide +kernel) ⟨Nat.le_of_ble_eq_true rfl, Nat.le_of_ble_eq_true rfl⟩) ⟨hR_blind, va_recv (q := (RM, TM, 11)) (q0 := q8) (ci := 4) hK.1 hP rfl eq8, hR_pre hP hK hG⟩ rfl rfl hl.1 rfl (lv_room (Nat.le_of_ble_eq_true rfl)) dM_release_22 ⟨Nat.le_of_ble_eq_true rfl, Nat.le_of_ble_eq_true rfl⟩) (fun r9 hr9 => ?_)
      refine W.eq (g2 := F0 m 25 ls [.int y9]) (by rw [hr9]) ?_
      refine lv_iconst (pc := 25) (v := 1) hx hb dM_release_25 (by decide) ?_
      obtain ⟨x10, hx10, hf⟩ := lt_9 hf
      refine jnF (τ := (Int32) × (Heap) × (List Loc) × (Array Slot)) (fun pc st z => W p l e _ s m _ below meth c z.2.1 z.2.2.1 0 0 _ (F0 m pc z.2.2.2 st)) (pc0 := 26) (st0 := [.int 1, .int y9]) (z0 := (0, H, _, ls)) 34 (fun z => [.int z.1]) (fun z => va_P (dC, dI) kCl (w9 ad ca dom (σ)) z.2.1 ∧ va_D A (w9 ad ca dom (σ)) ∧ va_S A s.heap z.2.1 z.2.2.1 ∧ lv_has z.2.2.2 5 [(4, .int y2), (0, .ref (ad 4 0)), (1, .int a1), (2, .int a2), (3, .int a3)]) (fun z => x10 z.1) (ρ, σ') ?_ ?_
      · intro hJx10
        dsimp only at hJx10 ⊢
        refine lv_icmp_eq (pc := 26) (tgt := 33) hx hb dM_release_26 rfl (fun h12 => ?_) (fun h12 => ?_)
        · replace hf := ite_t h12 hf
          refine lv_iconst (pc := 33) (v := 0) hx hb dM_release_33 (by decide) ?_
          have hl := lv_sub hl (l' := [(4, .int y2), (0, .ref (ad 4 0)), (1, .int a1), (2, .int a2), (3, .int a3)]) [0, 1, 2, 3, 4] rfl
          exact hJx10 (0, H, _, ls) ⟨hP, hD, hS, hl⟩ hf
        · replace hf := ite_f h12 hf
          refine lv_iconst (pc := 29) (v := 1) hx hb dM_release_29 (by decide) ?_
          refine lv_goto (pc := 30) (tgt := 34) hx hb dM_release_30 rfl ?_
          have hl := lv_sub hl (l' := [(4, .int y2), (0, .ref (ad 4 0)), (1, .int a1), (2, .int a2), (3, .int a3)]) [0, 1, 2, 3, 4] rfl
          exact hJx10 (1, H, _, ls) ⟨hP, hD, hS, hl⟩ hf
      · rintro ⟨s11, H, locs, ls⟩ ⟨hP, hD, hS, hl⟩ hf
        dsimp only at hP hD hS hl hf ⊢
        rw [hx10] at hf
        have hl : lv_has ls 5 [(4, .int y2), (0, .ref (ad 4 0)), (1, .int a1), (2, .int a2), (3, .int a3)] := hl
        refine lv_iconst (pc := 34) (v := 2) hx hb dM_release_34 (by decide) ?_
        refine lv_iload (pc := 35) hx hb dM_release_35 (lv_at hl 0 rfl) ?_
        refine vp_callSi (pc := 37) (W.runS (As := [.int s11, .int 2, .int y2]) (rest := []) ⟨hx, hb, hml, hown, hts⟩ (t_M_least l dC dI ad ca dom s11 2 y2 σ hN hC (M_least s11 2 y2) rfl) (cwS 3 hts (gS wd_152 wd_153 wd_50 wd_151) rfl rfl rfl (by decide +kernel) ⟨Nat.le_of_ble_eq_true rfl, Nat.le_of_ble_eq_true rfl⟩) ⟨hR_blind, hR_pre hP hK hG⟩ rfl rfl hl.1 rfl (lv_room (Nat.le_of_ble_eq_true rfl)) dM_release_37 ⟨Nat.le_of_ble_eq_true rfl, Nat.le_of_ble_eq_true rfl⟩) (fun r9 hr9 => ?_)
        refine W.eq (g2 := F0 m 40 ls [.int (M_least s11 2 y2)]) (by rw [hr9]) ?_
        refine lv_istore (pc := 40) hx hb dM_release_40 hl (by decide) rfl (fun ls hl => ?_)
        have hl : lv_has ls 5 [(4, .int (M_least s11 2 y2)), (0, .ref (ad 4 0)), (1, .int a1), (2, .int a2), (3, .int a3)] := hl
        refine lv_aload_n (pc := 42) hx hb dM_release_42 rfl (lv_at hl 1 rfl) ?_
        refine lv_aload_n (pc := 43) hx hb dM_release_43 rfl (lv_at hl 1 rfl) ?_
        refine lv_iload_n (pc := 44) hx hb dM_release_44 rfl (lv_at hl 2 rfl) ?_
        refine lv_iload_n (pc := 45) hx hb dM_release_45 rfl (lv_at hl 3 rfl) ?_
        obtain ⟨q13, hq13, eq13⟩ := at_4 (ad := ad) (ca := ca) (σ := σ) hm0
        refine vp_callSi (pc := 46) (W.runV (As := [.int a1, .int a2]) (rest := [.ref (ad 4 0)]) ⟨hx, hb, hml, hown, hts⟩ (t_M_revisionAt l dC dI ad ca dom a1 a2 hm0 σ hN hC (M_revisionAt a1 a2) rfl) (cwV 2 hts (gV wd_65 wd_66 wd_67 wd_50 wd_64) rfl rfl rfl (by decide +kernel) ⟨Nat.le_of_ble_eq_true rfl, Nat.le_of_ble_eq_true rfl⟩) ⟨hR_blind, va_recv (q := (RM, TM, 11)) (q0 := q13) (ci := 4) hK.1 hP rfl eq13, hR_pre hP hK hG⟩ rfl rfl hl.1 rfl (lv_room (Nat.le_of_ble_eq_true rfl)) dM_release_46 ⟨Nat.le_of_ble_eq_true rfl, Nat.le_of_ble_eq_true rfl⟩) (fun r9 hr9 => ?_)
        refine W.eq (g2 := F0 m 49 ls [.int (M_revisionAt a1 a2), .ref (ad 4 0)]) (by rw [hr9]) ?_
        obtain ⟨q14, hq14, eq14⟩ := at_4 (ad := ad) (ca := ca) (σ := σ) hm0
        obtain ⟨y15, hy15, hf⟩ := ob hf
        refine vp_callSi (pc := 49) (W.runV (As := [.int (M_revisionAt a1 a2)]) (rest := []) ⟨hx, hb, hml, hown, hts⟩ (t_M_lacksReleased l dC dI ad ca dom n σ (M_revisionAt a1 a2) hm0 hN hC y15 hy15) (cwV 1 hts (gV wd_204 wd_205 wd_206 wd_50 wd_203) rfl rfl rfl (by decide +kernel) ⟨Nat.le_of_ble_eq_true rfl, Nat.le_of_ble_eq_true rfl⟩) ⟨hR_blind, va_recv (q := (RM, TM, 11)) (q0 := q14) (ci := 4) hK.1 hP rfl eq14, hR_pre hP hK hG⟩ rfl rfl hl.1 rfl (lv_room (Nat.le_of_ble_eq_true rfl)) dM_release_49 ⟨Nat.le_of_ble_eq_true rfl, Nat.le_of_ble_eq_true rfl⟩) (fun r9 hr9 => ?_)
        refine W.eq (g2 := F0 m 52 ls [.int y15]) (by rw [hr9]) ?_
        refine lv_iconst (pc := 52) (v := 4) hx hb dM_release_52 (by decide) ?_
        refine lv_iload (pc := 53) hx hb dM_release_53 (lv_at hl 0 rfl) ?_
        refine vp_callSi (pc := 55) (W.runS (As := [.int y15, .int 4, .int (M_least s11 2 y2)]) (rest := []) ⟨hx, hb, hml, hown, hts⟩ (t_M_least l dC dI ad ca dom y15 4 (M_least s11 2 y2) σ hN hC (M_least y15 4 (M_least s11 2 y2)) rfl) (cwS 3 hts (gS wd_152 wd_153 wd_50 wd_151) rfl rfl rfl (by decide +kernel) ⟨Nat.le_of_ble_eq_true rfl, Nat.le_of_ble_eq_true rfl⟩) ⟨hR_blind, hR_pre hP hK hG⟩ rfl rfl hl.1 rfl (lv_room (Nat.le_of_ble_eq_true rfl)) dM_release_55 ⟨Nat.le_of_ble_eq_true rfl, Nat.le_of_ble_eq_true rfl⟩) (fun r9 hr9 => ?_)
        refine W.eq (g2 := F0 m 58 ls [.int (M_least y15 4 (M_least s11 2 y2))]) (by rw [hr9]) ?_
        refine lv_istore (pc := 58) hx hb dM_release_58 hl (by decide) rfl (fun ls hl => ?_)
        have hl : lv_has ls 5 [(4, .int (M_least y15 4 (M_least s11 2 y2))), (0, .ref (ad 4 0)), (1, .int a1), (2, .int a2), (3, .int a3)] := hl
        have hl := lv_sub hl (l' := [(4, .int (M_least y15 4 (M_least s11 2 y2))), (0, .ref (ad 4 0)), (1, .int a1), (2, .int a2), (3, .int a3)]) [0, 1, 2, 3, 4] rfl
        exact hJx5 ((M_least y15 4 (M_least s11 2 y2)), H, _, ls) ⟨hP, hD, hS, hl⟩ hf
  · rintro ⟨q6, H, locs, ls⟩ ⟨hP, hD, hS, hl⟩ hf
    dsimp only at hP hD hS hl hf ⊢
    rw [hx5] at hf
    have hl : lv_has ls 5 [(4, .int q6), (0, .ref (ad 4 0)), (1, .int a1), (2, .int a2), (3, .int a3)] := hl
    refine lv_aload_n (pc := 60) hx hb dM_release_60 rfl (lv_at hl 1 rfl) ?_
    refine lv_iload (pc := 61) hx hb dM_release_61 (lv_at hl 0 rfl) ?_
    refine lv_iconst (pc := 63) (v := 1) hx hb dM_release_63 (by decide) ?_
    obtain ⟨q16, hq16, eq16⟩ := at_4 (ad := ad) (ca := ca) (σ := σ) hm0
    obtain ⟨⟨y17, σ18⟩, hy17, hf⟩ := ob hf
    have hFc := w9_free hD hS hA
    refine va_calli (pc := 64) (va_runV (As := [.int q6, .int 1]) (rest := []) ⟨hx, hb, hml, hown, hts⟩ (t_M_may l dC dI ad ca dom H.size σ q6 1 hm0 hN hC y17 σ18 hy17) (cwV 2 hts (gV wd_140 wd_141 wd_142 wd_50 wd_139) rfl rfl rfl (by decide +kernel) ⟨Nat.le_of_ble_eq_true rfl, Nat.le_of_ble_eq_true rfl⟩) ⟨hW_blind, va_recv (q := (RM, TM, 11)) (q0 := q16) (ci := 4) hK.1 hP rfl eq16, hW_pre hP hK hD hG⟩ rfl rfl hl.1 rfl (lv_room (Nat.le_of_ble_eq_true rfl)) dM_release_64 ⟨Nat.le_of_ble_eq_true rfl, Nat.le_of_ble_eq_true rfl⟩) hS (fun q _ h => hFc q h) hFc (fun r9 u t H1 locs ht hvm hr9 hB hz1 hk1 hS => ?_)
    obtain ⟨hP, hD, hC⟩ := hB
    rw [ht] at hP
    replace hD := hD.weaken (fun _ _ _ h => hFc _ h)
    generalize H1 = H at hP hS ⊢
    refine W.eq (g2 := F0 m 67 ls [.int y17]) (by rw [hr9]) ?_
    refine lv_if_ne (pc := 67) (tgt := 72) hx hb dM_release_67 rfl (fun h19 => ?_) (fun h19 => ?_)
    · replace hf := ite_f h19 hf
      refine lv_aload_n (pc := 72) hx hb dM_release_72 rfl (lv_at hl 1 rfl) ?_
      obtain ⟨q20, hq20, eq20⟩ := at_4 (ad := ad) (ca := ca) (σ := σ18) hm0
      refine va_get (D := (dC, dI)) (cl := kCl) (C := RM) (T := TM) (N := 11) (pc := 73) hx hb hts inM hown hK.1 hP q20 eq20 rfl 2 (by decide) (hts _ wd_51) (fun _ h9 => h9) rfl dM_release_73 ?_
      refine lv_aload_n (pc := 76) hx hb dM_release_76 rfl (lv_at hl 1 rfl) ?_
      refine lv_iload_n (pc := 77) hx hb dM_release_77 rfl (lv_at hl 2 rfl) ?_
      refine lv_iload_n (pc := 78) hx hb dM_release_78 rfl (lv_at hl 3 rfl) ?_
      obtain ⟨q21, hq21, eq21⟩ := at_4 (ad := ad) (ca := ca) (σ := σ18) hm0
      refine vp_callSi (pc := 79) (W.runV (As := [.int a1, .int a2]) (rest := [.ref (ad 15 0)]) ⟨hx, hb, hml, hown, hts⟩ (t_M_revisionAt l dC dI ad ca dom a1 a2 hm0 σ18 hN hC (M_revisionAt a1 a2) rfl) (cwV 2 hts (gV wd_65 wd_66 wd_67 wd_50 wd_64) rfl rfl rfl (by decide +kernel) ⟨Nat.le_of_ble_eq_true rfl, Nat.le_of_ble_eq_true rfl⟩) ⟨hR_blind, va_recv (q := (RM, TM, 11)) (q0 := q21) (ci := 4) hK.1 hP rfl eq21, hR_pre hP hK hG⟩ rfl rfl hl.1 rfl (lv_room (Nat.le_of_ble_eq_true rfl)) dM_release_79 ⟨Nat.le_of_ble_eq_true rfl, Nat.le_of_ble_eq_true rfl⟩) (fun r9 hr9 => ?_)
      refine W.eq (g2 := F0 m 82 ls [.int (M_revisionAt a1 a2), .ref (ad 15 0)]) (by rw [hr9]) ?_
      refine lv_iconst (pc := 82) (v := 0) hx hb dM_release_82 (by decide) ?_
      refine lv_iadd (pc := 83) hx hb dM_release_83 ?_
      refine lv_iconst (pc := 84) (v := 2) hx hb dM_release_84 (by decide) ?_
      obtain ⟨hv23, hf⟩ := ite_s hf
      obtain ⟨q24, hq24, eq24⟩ := at_15 (ad := ad) (ca := ca) (σ := σ18) (cm_4_2 hC hm0)
      refine va_iast (D := (dC, dI)) (cl := kCl) (pc := 85) hx hb (hK.2 15 0 .int (cm_4_2 hC hm0) rfl) hP hD hS q24 0 eq24 rfl (hv23) dM_release_85 (fun H locs hP hD hS => ?_)
      obtain ⟨σ22, hσ22, hf⟩ := lt_9 hf
      obtain ⟨hP, hD⟩ := w9_rI 15 rfl hN hq24 hσ22 (pr_15) hP hD
      have hC : clo dom σ22.2.2 := by rw [hσ22]; exact hC
      refine lv_aload_n (pc := 86) hx hb dM_release_86 rfl (lv_at hl 1 rfl) ?_
      obtain ⟨q25, hq25, eq25⟩ := at_4 (ad := ad) (ca := ca) (σ := σ22) hm0
      obtain ⟨⟨y26, σ27⟩, hy26, hf⟩ := ob hf
      have hFc := w9_free hD hS hA
      refine va_callv (pc := 87) (va_runV (As := []) (rest := []) ⟨hx, hb, hml, hown, hts⟩ (t_M_close l dC dI ad ca dom H.size n σ22 hm0 hN hC y26 σ27 hy26) (cwV 0 hts (gV wd_144 wd_145 wd_146 wd_50 wd_143) rfl rfl rfl (by decide +kernel) ⟨Nat.le_of_ble_eq_true rfl, Nat.le_of_ble_eq_true rfl⟩) ⟨hW_blind, va_recv (q := (RM, TM, 11)) (q0 := q25) (ci := 4) hK.1 hP rfl eq25, hW_pre hP hK hD hG⟩ rfl rfl hl.1 rfl (lv_room (Nat.le_of_ble_eq_true rfl)) dM_release_87 ⟨Nat.le_of_ble_eq_true rfl, Nat.le_of_ble_eq_true rfl⟩) hS (fun q _ h => hFc q h) hFc (fun u t H1 locs ht hvm hr9 hB hz1 hk1 hS => ?_)
      obtain ⟨hP, hD, hC⟩ := hB
      rw [ht] at hP
      replace hD := hD.weaken (fun _ _ _ h => hFc _ h)
      generalize H1 = H at hP hS ⊢
      refine lv_iconst (pc := 90) (v := 1) hx hb dM_release_90 (by decide) ?_
      obtain ⟨h8, h9⟩ := Prod.mk.inj (Option.some.inj hf)
      subst h9
      exact W.zret (pc := 91) hx hb hr (rfl) (fun t ht hW => ⟨⟨_, (), rfl, h8, by rw [ht]; exact hP, hD, hC⟩, hS.F ht⟩) hS.2.2 dM_release_91
    · replace hf := ite_t h19 hf
      refine lv_iconst (pc := 70) (v := 0) hx hb dM_release_70 (by decide) ?_
      obtain ⟨h8, h9⟩ := Prod.mk.inj (Option.some.inj hf)
      subst h9
      exact W.zret (pc := 71) hx hb hr (rfl) (fun t ht hW => ⟨⟨_, (), rfl, h8, by rw [ht]; exact hP, hD, hC⟩, hS.F ht⟩) hS.2.2 dM_release_71
def M_isInUse_L105 (n : Nat) (σ : hT) (kx46 : Int32 → Int32 → Int32 → Int32 → Int32 → Int32 → Int32 → Option (Int32)) : Nat → Int32 → Int32 → Int32 → Int32 → Int32 → Int32 → Int32 → Option (Int32)
  | 0, _, _, _, _, _, _, _ => none
  | k + 1, p39, p40, p41, p42, p43, p44, p45 => if in9 (p40 + 3) 25240 then if (xI σ 15 0 ((p40 + 3)).toNatClampNeg) ≤ p39 then kx46 p39 p40 p41 p42 p43 p44 p45 else if p43 = 0 then Option.bind (M_stateOf σ p42 p41) fun y54 => if y54 = 2 then Option.bind (M_refDrawing σ p40 p39) fun y57 => if y57 = p44 then Option.bind (M_refRevision σ p40 p39) fun y60 => if y60 = p45 then M_isInUse_L105 n σ kx46 k (p39 + 1) p40 p41 p42 1 p44 p45 else M_isInUse_L105 n σ kx46 k (p39 + 1) p40 p41 p42 0 p44 p45 else M_isInUse_L105 n σ kx46 k (p39 + 1) p40 p41 p42 0 p44 p45 else M_isInUse_L105 n σ kx46 k (p39 + 1) p40 p41 p42 0 p44 p45 else M_isInUse_L105 n σ kx46 k (p39 + 1) p40 p41 p42 1 p44 p45 else none
def M_isInUse_L81 (n : Nat) (σ : hT) (kx33 : Int32 → Int32 → Int32 → Int32 → Int32 → Option (Int32)) : Nat → Int32 → Int32 → Int32 → Int32 → Int32 → Option (Int32)
  | 0, _, _, _, _, _ => none
  | k + 1, p28, p29, p30, p31, p32 => Option.bind (M_made σ p29) fun y36 => if y36 ≤ p28 then kx33 p28 p29 p30 p31 p32 else lt9 (α := Int32 → Int32 → Int32 → Int32 → Int32 → Int32 → Int32 → Option (Int32)) (fun (p39 : Int32) (p40 : Int32) (p41 : Int32) (p42 : Int32) (p43 : Int32) (p44 : Int32) (p45 : Int32) => M_isInUse_L81 n σ kx33 k (p41 + 1) p42 p43 p44 p45) fun kx46 => M_isInUse_L105 n σ kx46 n 0 (M_revisionAt p29 p28) p28 p29 p30 p31 p32
def M_isInUse_L66 (n : Nat) (σ : hT) (kx23 : Int32 → Int32 → Int32 → Int32 → Option (Int32)) : Nat → Int32 → Int32 → Int32 → Int32 → Option (Int32)
  | 0, _, _, _, _ => none
  | k + 1, p19, p20, p21, p22 => if (xI σ 15 0 16) ≤ p19 then kx23 p19 p20 p21 p22 else lt9 (α := Int32 → Int32 → Int32 → Int32 → Int32 → Option (Int32)) (fun (p28 : Int32) (p29 : Int32) (p30 : Int32) (p31 : Int32) (p32 : Int32) => M_isInUse_L66 n σ kx23 k (p29 + 1) p30 p31 p32) fun kx33 => M_isInUse_L81 n σ kx33 n 0 p19 p20 p21 p22
def M_isInUse_L5 (n : Nat) (σ : hT) (kx5 : Int32 → Int32 → Int32 → Int32 → Option (Int32)) : Nat → Int32 → Int32 → Int32 → Int32 → Option (Int32)
  | 0, _, _, _, _ => none
  | k + 1, p1, p2, p3, p4 => if 10 ≤ p1 then kx5 p1 p2 p3 p4 else if p2 = 0 then if in9 (M_baselineAt p1) 25240 then if (xI σ 15 0 ((M_baselineAt p1)).toNatClampNeg) ≤ 0 then M_isInUse_L5 n σ kx5 k (p1 + 1) 0 p3 p4 else if in9 (((M_baselineAt p1) + 2) + p3) 25240 then if (xI σ 15 0 ((((M_baselineAt p1) + 2) + p3)).toNatClampNeg) = (p4 + 1) then M_isInUse_L5 n σ kx5 k (p1 + 1) 1 p3 p4 else M_isInUse_L5 n σ kx5 k (p1 + 1) 0 p3 p4 else none else none else M_isInUse_L5 n σ kx5 k (p1 + 1) 1 p3 p4
def M_isInUse (n : Nat) (σ : hT) (a1 : Int32) (a2 : Int32) : Option (Int32) := lt9 (α := Int32 → Int32 → Int32 → Int32 → Option (Int32)) (fun (p1 : Int32) (p2 : Int32) (p3 : Int32) (p4 : Int32) => lt9 (α := Int32 → Int32 → Int32 → Int32 → Option (Int32)) (fun (p19 : Int32) (p20 : Int32) (p21 : Int32) (p22 : Int32) => if p20 = 0 ∨ p20 = 1 then some p20 else none) fun kx23 => M_isInUse_L66 n σ kx23 n 0 p2 p3 p4) fun kx5 => M_isInUse_L5 n σ kx5 n 0 0 a1 a2
set_option maxHeartbeats 4000000 in
set_option maxRecDepth 100000 in
theorem t_M_isInUse (l : Launch) (dC : Nat → ClassId) (dI : Nat → Nat → Nat) (ad : Nat → Nat → Nat) (ca : Nat → Nat → ClassId) (dom : List (Nat × Nat)) (n : Nat) (σ : hT) (a1 : Int32) (a2 : Int32) (hm0 : (4, 0) ∈ dom) (hN : dom.Nodup) (hC : clo dom σ.2.2) (ρ : Int32) (hf : M_isInUse n σ a1 a2 = some ρ) : Met l yM_isInUse (.code yM_isInUse cM_isInUse 8 (some .boolean) :: aw) ({ frames := 2, cells := 0, slots := 0, locals := 44 }) (hR (dC, dI) ad ca dom σ [.ref (ad 4 0), .int a1, .int a2]) (vp_Si (fun r => r = ρ)) 0 0 (fun _ => False) := by
  refine Met.ofW (cc := cM_isInUse) (maxL := 8) (ret := (some .boolean)) (by decide) rfl ?_
  intro p e s m args below meth c s₁ B hml hv
  obtain ⟨rfl, hv⟩ := hv
  have hx := B.exec
  have hb := B.bytes
  have hr := B.returns
  have hts : ∀ w ∈ aw, w.before _ s = true := fun w h => atoms_spec (ws := (.code yM_isInUse cM_isInUse 8 (some .boolean) :: aw)) B.pre w (List.mem_cons_of_mem _ h)
  have hown : s.vm.findClass RM = some m.cls := findClass_of_methodNamed B.named
  have hlocks := B.notSynchronized
  obtain ⟨hP, hK, hG⟩ := hv
  obtain ⟨H, hH⟩ : ∃ H, H = s.heap := ⟨_, rfl⟩
  rw [← hH] at hP ⊢
  unfold M_isInUse at hf
  have hl := lv_entry ([.ref (ad 4 0), .int a1, .int a2]) (n := 8) (Nat.le_of_ble_eq_true rfl)
  rw [lg_entry_eq]
  generalize (lg_sl ([.ref (ad 4 0), .int a1, .int a2]) ++ List.replicate (8 - (lg_sl ([.ref (ad 4 0), .int a1, .int a2])).length) Slot.unset).toArray = ls at hl ⊢
  have hl : lv_has ls 8 [(0, .ref (ad 4 0)), (1, .int a1), (2, .int a2)] := hl
  refine lv_iconst (pc := 0) (v := 0) hx hb dM_isInUse_0 (by decide) ?_
  refine lv_istore_n (pc := 1) hx hb dM_isInUse_1 rfl hl (by decide) rfl (fun ls hl => ?_)
  have hl : lv_has ls 8 [(3, .int 0), (0, .ref (ad 4 0)), (1, .int a1), (2, .int a2)] := hl
  refine lv_iconst (pc := 2) (v := 0) hx hb dM_isInUse_2 (by decide) ?_
  refine lv_istore (pc := 3) hx hb dM_isInUse_3 hl (by decide) rfl (fun ls hl => ?_)
  have hl : lv_has ls 8 [(4, .int 0), (3, .int 0), (0, .ref (ad 4 0)), (1, .int a1), (2, .int a2)] := hl
  obtain ⟨kx5, hkx5, hf⟩ := lt_9 hf
  refine lpF (τ := (Int32) × (Int32) × (Int32) × (Int32) × (Array Slot)) (fun pc z => W p l e _ s m _ below meth c H ([]) 0 0 _ (F0 m pc z.2.2.2.2 [])) 5 63 (fun z => lv_has z.2.2.2.2 8 [(4, .int z.1), (3, .int z.2.1), (0, .ref (ad 4 0)), (1, .int z.2.2.1), (2, .int z.2.2.2.1)]) (fun k z => M_isInUse_L5 n σ kx5 k z.1 z.2.1 z.2.2.1 z.2.2.2.1) (fun z => kx5 z.1 z.2.1 z.2.2.1 z.2.2.2.1) _ (fun z => rfl) ?_ ?_ n (0, 0, a1, a2, ls) hl hf
  · rintro k ⟨p1, p2, p3, p4, ls⟩ hl hf ih6 hXkx5
    dsimp only at hl hf ih6 hXkx5 ⊢
    unfold M_isInUse_L5 at hf
    have hl : lv_has ls 8 [(4, .int p1), (3, .int p2), (0, .ref (ad 4 0)), (1, .int p3), (2, .int p4)] := hl
    refine lv_iload (pc := 5) hx hb dM_isInUse_5 (lv_at hl 0 rfl) ?_
    refine lv_bipush (pc := 7) (v := 10) hx hb dM_isInUse_7 (by decide) ?_
    refine lv_icmp_ge (pc := 9) (tgt := 63) hx hb dM_isInUse_9 rfl (fun h7 => ?_) (fun h7 => ?_)
    · replace hf := ite_t h7 hf
      have hl := lv_sub hl (l' := [(4, .int p1), (3, .int p2), (0, .ref (ad 4 0)), (1, .int p3), (2, .int p4)]) [0, 1, 2, 3, 4] rfl
      exact hXkx5 (p1, p2, p3, p4, ls) hl hf
    · replace hf := ite_f h7 hf
      refine lv_iload_n (pc := 12) hx hb dM_isInUse_12 rfl (lv_at hl 1 rfl) ?_
      refine lv_if_ne (pc := 13) (tgt := 51) hx hb dM_isInUse_13 rfl (fun h8 => ?_) (fun h8 => ?_)
      · replace hf := ite_f h8 hf
        refine lv_iconst (pc := 51) (v := 1) hx hb dM_isInUse_51 (by decide) ?_
        refine lv_goto (pc := 52) (tgt := 56) hx hb dM_isInUse_52 rfl ?_
        refine lv_istore_n (pc := 56) hx hb dM_isInUse_56 rfl hl (by decide) rfl (fun ls hl => ?_)
        have hl : lv_has ls 8 [(3, .int 1), (4, .int p1), (0, .ref (ad 4 0)), (1, .int p3), (2, .int p4)] := hl
        refine lv_iinc (pc := 57) (v := (p1 + 1)) hx hb dM_isInUse_57 hl (k := 1) rfl (by rfl) (by decide) rfl (fun ls hl => ?_)
        have hl : lv_has ls 8 [(4, .int (p1 + 1)), (3, .int 1), (0, .ref (ad 4 0)), (1, .int p3), (2, .int p4)] := hl
        refine lv_goto (pc := 60) (tgt := 5) hx hb dM_isInUse_60 rfl ?_
        have hl := lv_sub hl (l' := [(4, .int (p1 + 1)), (3, .int 1), (0, .ref (ad 4 0)), (1, .int p3), (2, .int p4)]) [0, 1, 2, 3, 4] rfl
        exact ih6 ((p1 + 1), 1, p3, p4, ls) hl hf
      · replace hf := ite_t h8 hf
        refine lv_aload_n (pc := 16) hx hb dM_isInUse_16 rfl (lv_at hl 2 rfl) ?_
        obtain ⟨q9, hq9, eq9⟩ := at_4 (ad := ad) (ca := ca) (σ := σ) hm0
        refine va_get (D := (dC, dI)) (cl := kCl) (C := RM) (T := TM) (N := 11) (pc := 17) hx hb hts inM hown hK.1 hP q9 eq9 rfl 2 (by decide) (hts _ wd_51) (fun _ h9 => h9) rfl dM_isInUse_17 ?_
        refine lv_aload_n (pc := 20) hx hb dM_isInUse_20 rfl (lv_at hl 2 rfl) ?_
        refine lv_iload (pc := 21) hx hb dM_isInUse_21 (lv_at hl 0 rfl) ?_
        obtain ⟨q10, hq10, eq10⟩ := at_4 (ad := ad) (ca := ca) (σ := σ) hm0
        refine vp_callSi (pc := 23) (W.runV (As := [.int p1]) (rest := [.ref (ad 15 0)]) ⟨hx, hb, hml, hown, hts⟩ (t_M_baselineAt l dC dI ad ca dom p1 hm0 σ hN hC (M_baselineAt p1) rfl) (cwV 1 hts (gV wd_124 wd_125 wd_126 wd_50 wd_123) rfl rfl rfl (by decide +kernel) ⟨Nat.le_of_ble_eq_true rfl, Nat.le_of_ble_eq_true rfl⟩) ⟨hR_blind, va_recv (q := (RM, TM, 11)) (q0 := q10) (ci := 4) hK.1 hP rfl eq10, hR_pre hP hK hG⟩ rfl rfl hl.1 rfl (lv_room (Nat.le_of_ble_eq_true rfl)) dM_isInUse_23 ⟨Nat.le_of_ble_eq_true rfl, Nat.le_of_ble_eq_true rfl⟩) (fun r9 hr9 => ?_)
        refine W.eq (g2 := F0 m 26 ls [.int (M_baselineAt p1), .ref (ad 15 0)]) (by rw [hr9]) ?_
        obtain ⟨hv11, hf⟩ := ite_s hf
        obtain ⟨q12, hq12, eq12⟩ := at_15 (ad := ad) (ca := ca) (σ := σ) (cm_4_2 hC hm0)
        refine va_iald (D := (dC, dI)) (cl := kCl) (pc := 26) hx hb (hK.2 15 0 .int (cm_4_2 hC hm0) rfl) hP q12 0 eq12 rfl (hv11) dM_isInUse_26 ?_
        refine W.eq (g2 := F0 m 27 ls [.int (xI σ 15 0 ((M_baselineAt p1)).toNatClampNeg)]) rfl ?_
        refine lv_if_le (pc := 27) (tgt := 55) hx hb dM_isInUse_27 rfl (fun h13 => ?_) (fun h13 => ?_)
        · replace hf := ite_t h13 hf
          refine lv_iconst (pc := 55) (v := 0) hx hb dM_isInUse_55 (by decide) ?_
          refine lv_istore_n (pc := 56) hx hb dM_isInUse_56 rfl hl (by decide) rfl (fun ls hl => ?_)
          have hl : lv_has ls 8 [(3, .int 0), (4, .int p1), (0, .ref (ad 4 0)), (1, .int p3), (2, .int p4)] := hl
          refine lv_iinc (pc := 57) (v := (p1 + 1)) hx hb dM_isInUse_57 hl (k := 1) rfl (by rfl) (by decide) rfl (fun ls hl => ?_)
          have hl : lv_has ls 8 [(4, .int (p1 + 1)), (3, .int 0), (0, .ref (ad 4 0)), (1, .int p3), (2, .int p4)] := hl
          refine lv_goto (pc := 60) (tgt := 5) hx hb dM_isInUse_60 rfl ?_
          have hl := lv_sub hl (l' := [(4, .int (p1 + 1)), (3, .int 0), (0, .ref (ad 4 0)), (1, .int p3), (2, .int p4)]) [0, 1, 2, 3, 4] rfl
          exact ih6 ((p1 + 1), 0, p3, p4, ls) hl hf
        · replace hf := ite_f h13 hf
          refine lv_aload_n (pc := 30) hx hb dM_isInUse_30 rfl (lv_at hl 2 rfl) ?_
          obtain ⟨q14, hq14, eq14⟩ := at_4 (ad := ad) (ca := ca) (σ := σ) hm0
          refine va_get (D := (dC, dI)) (cl := kCl) (C := RM) (T := TM) (N := 11) (pc := 31) hx hb hts inM hown hK.1 hP q14 eq14 rfl 2 (by decide) (hts _ wd_51) (fun _ h9 => h9) rfl dM_isInUse_31 ?_
          refine lv_aload_n (pc := 34) hx hb dM_isInUse_34 rfl (lv_at hl 2 rfl) ?_
          refine lv_iload (pc := 35) hx hb dM_isInUse_35 (lv_at hl 0 rfl) ?_
          obtain ⟨q15, hq15, eq15⟩ := at_4 (ad := ad) (ca := ca) (σ := σ) hm0
          refine vp_callSi (pc := 37) (W.runV (As := [.int p1]) (rest := [.ref (ad 15 0)]) ⟨hx, hb, hml, hown, hts⟩ (t_M_baselineAt l dC dI ad ca dom p1 hm0 σ hN hC (M_baselineAt p1) rfl) (cwV 1 hts (gV wd_124 wd_125 wd_126 wd_50 wd_123) rfl rfl rfl (by decide +kernel) ⟨Nat.le_of_ble_eq_true rfl, Nat.le_of_ble_eq_true rfl⟩) ⟨hR_blind, va_recv (q := (RM, TM, 11)) (q0 := q15) (ci := 4) hK.1 hP rfl eq15, hR_pre hP hK hG⟩ rfl rfl hl.1 rfl (lv_room (Nat.le_of_ble_eq_true rfl)) dM_isInUse_37 ⟨Nat.le_of_ble_eq_true rfl, Nat.le_of_ble_eq_true rfl⟩) (fun r9 hr9 => ?_)
          refine W.eq (g2 := F0 m 40 ls [.int (M_baselineAt p1), .ref (ad 15 0)]) (by rw [hr9]) ?_
          refine lv_iconst (pc := 40) (v := 2) hx hb dM_isInUse_40 (by decide) ?_
          refine lv_iadd (pc := 41) hx hb dM_isInUse_41 ?_
          refine lv_iload_n (pc := 42) hx hb dM_isInUse_42 rfl (lv_at hl 3 rfl) ?_
          refine lv_iadd (pc := 43) hx hb dM_isInUse_43 ?_
          obtain ⟨hv16, hf⟩ := ite_s hf
          obtain ⟨q17, hq17, eq17⟩ := at_15 (ad := ad) (ca := ca) (σ := σ) (cm_4_2 hC hm0)
          refine va_iald (D := (dC, dI)) (cl := kCl) (pc := 44) hx hb (hK.2 15 0 .int (cm_4_2 hC hm0) rfl) hP q17 0 eq17 rfl (hv16) dM_isInUse_44 ?_
          refine W.eq (g2 := F0 m 45 ls [.int (xI σ 15 0 ((((M_baselineAt p1) + 2) + p3)).toNatClampNeg)]) rfl ?_
          refine lv_iload_n (pc := 45) hx hb dM_isInUse_45 rfl (lv_at hl 4 rfl) ?_
          refine lv_iconst (pc := 46) (v := 1) hx hb dM_isInUse_46 (by decide) ?_
          refine lv_iadd (pc := 47) hx hb dM_isInUse_47 ?_
          refine lv_icmp_ne (pc := 48) (tgt := 55) hx hb dM_isInUse_48 rfl (fun h18 => ?_) (fun h18 => ?_)
          · replace hf := ite_f h18 hf
            refine lv_iconst (pc := 55) (v := 0) hx hb dM_isInUse_55 (by decide) ?_
            refine lv_istore_n (pc := 56) hx hb dM_isInUse_56 rfl hl (by decide) rfl (fun ls hl => ?_)
            have hl : lv_has ls 8 [(3, .int 0), (4, .int p1), (0, .ref (ad 4 0)), (1, .int p3), (2, .int p4)] := hl
            refine lv_iinc (pc := 57) (v := (p1 + 1)) hx hb dM_isInUse_57 hl (k := 1) rfl (by rfl) (by decide) rfl (fun ls hl => ?_)
            have hl : lv_has ls 8 [(4, .int (p1 + 1)), (3, .int 0), (0, .ref (ad 4 0)), (1, .int p3), (2, .int p4)] := hl
            refine lv_goto (pc := 60) (tgt := 5) hx hb dM_isInUse_60 rfl ?_
            have hl := lv_sub hl (l' := [(4, .int (p1 + 1)), (3, .int 0), (0, .ref (ad 4 0)), (1, .int p3), (2, .int p4)]) [0, 1, 2, 3, 4] rfl
            exact ih6 ((p1 + 1), 0, p3, p4, ls) hl hf
          · replace hf := ite_t h18 hf
            refine lv_iconst (pc := 51) (v := 1) hx hb dM_isInUse_51 (by decide) ?_
            refine lv_goto (pc := 52) (tgt := 56) hx hb dM_isInUse_52 rfl ?_
            refine lv_istore_n (pc := 56) hx hb dM_isInUse_56 rfl hl (by decide) rfl (fun ls hl => ?_)
            have hl : lv_has ls 8 [(3, .int 1), (4, .int p1), (0, .ref (ad 4 0)), (1, .int p3), (2, .int p4)] := hl
            refine lv_iinc (pc := 57) (v := (p1 + 1)) hx hb dM_isInUse_57 hl (k := 1) rfl (by rfl) (by decide) rfl (fun ls hl => ?_)
            have hl : lv_has ls 8 [(4, .int (p1 + 1)), (3, .int 1), (0, .ref (ad 4 0)), (1, .int p3), (2, .int p4)] := hl
            refine lv_goto (pc := 60) (tgt := 5) hx hb dM_isInUse_60 rfl ?_
            have hl := lv_sub hl (l' := [(4, .int (p1 + 1)), (3, .int 1), (0, .ref (ad 4 0)), (1, .int p3), (2, .int p4)]) [0, 1, 2, 3, 4] rfl
            exact ih6 ((p1 + 1), 1, p3, p4, ls) hl hf
  · rintro ⟨p1, p2, p3, p4, ls⟩ hl hf
    dsimp only at hl hf ⊢
    rw [hkx5] at hf
    have hl : lv_has ls 8 [(4, .int p1), (3, .int p2), (0, .ref (ad 4 0)), (1, .int p3), (2, .int p4)] := hl
    refine lv_iconst (pc := 63) (v := 0) hx hb dM_isInUse_63 (by decide) ?_
    refine lv_istore (pc := 64) hx hb dM_isInUse_64 hl (by decide) rfl (fun ls hl => ?_)
    have hl : lv_has ls 8 [(4, .int 0), (3, .int p2), (0, .ref (ad 4 0)), (1, .int p3), (2, .int p4)] := hl
    obtain ⟨kx23, hkx23, hf⟩ := lt_9 hf
    refine lpF (τ := (Int32) × (Int32) × (Int32) × (Int32) × (Array Slot)) (fun pc z => W p l e _ s m _ below meth c H ([]) 0 0 _ (F0 m pc z.2.2.2.2 [])) 66 183 (fun z => lv_has z.2.2.2.2 8 [(4, .int z.1), (3, .int z.2.1), (0, .ref (ad 4 0)), (1, .int z.2.2.1), (2, .int z.2.2.2.1)]) (fun k z => M_isInUse_L66 n σ kx23 k z.1 z.2.1 z.2.2.1 z.2.2.2.1) (fun z => kx23 z.1 z.2.1 z.2.2.1 z.2.2.2.1) _ (fun z => rfl) ?_ ?_ n (0, p2, p3, p4, ls) hl hf
    · rintro k ⟨p19, p20, p21, p22, ls⟩ hl hf ih24 hXkx23
      dsimp only at hl hf ih24 hXkx23 ⊢
      unfold M_isInUse_L66 at hf
      have hl : lv_has ls 8 [(4, .int p19), (3, .int p20), (0, .ref (ad 4 0)), (1, .int p21), (2, .int p22)] := hl
      refine lv_iload (pc := 66) hx hb dM_isInUse_66 (lv_at hl 0 rfl) ?_
      refine lv_aload_n (pc := 68) hx hb dM_isInUse_68 rfl (lv_at hl 2 rfl) ?_
      obtain ⟨q25, hq25, eq25⟩ := at_4 (ad := ad) (ca := ca) (σ := σ) hm0
      refine va_get (D := (dC, dI)) (cl := kCl) (C := RM) (T := TM) (N := 11) (pc := 69) hx hb hts inM hown hK.1 hP q25 eq25 rfl 2 (by decide) (hts _ wd_51) (fun _ h9 => h9) rfl dM_isInUse_69 ?_
      refine lv_bipush (pc := 72) (v := 16) hx hb dM_isInUse_72 (by decide) ?_
      obtain ⟨q26, hq26, eq26⟩ := at_15 (ad := ad) (ca := ca) (σ := σ) (cm_4_2 hC hm0)
      refine va_iald (D := (dC, dI)) (cl := kCl) (pc := 74) hx hb (hK.2 15 0 .int (cm_4_2 hC hm0) rfl) hP q26 0 eq26 rfl (vp_in_lit 16 25240 (by decide)) dM_isInUse_74 ?_
      refine W.eq (g2 := F0 m 75 ls [.int (xI σ 15 0 16), .int p19]) rfl ?_
      refine lv_icmp_ge (pc := 75) (tgt := 183) hx hb dM_isInUse_75 rfl (fun h27 => ?_) (fun h27 => ?_)
      · replace hf := ite_t h27 hf
        have hl := lv_sub hl (l' := [(4, .int p19), (3, .int p20), (0, .ref (ad 4 0)), (1, .int p21), (2, .int p22)]) [0, 1, 2, 3, 4] rfl
        exact hXkx23 (p19, p20, p21, p22, ls) hl hf
      · replace hf := ite_f h27 hf
        refine lv_iconst (pc := 78) (v := 0) hx hb dM_isInUse_78 (by decide) ?_
        refine lv_istore (pc := 79) hx hb dM_isInUse_79 hl (by decide) rfl (fun ls hl => ?_)
        have hl : lv_has ls 8 [(5, .int 0), (4, .int p19), (3, .int p20), (0, .ref (ad 4 0)), (1, .int p21), (2, .int p22)] := hl
        obtain ⟨kx33, hkx33, hf⟩ := lt_9 hf
        refine lpF (τ := (Int32) × (Int32) × (Int32) × (Int32) × (Int32) × (Array Slot)) (fun pc z => W p l e _ s m _ below meth c H ([]) 0 0 _ (F0 m pc z.2.2.2.2.2 [])) 81 177 (fun z => lv_has z.2.2.2.2.2 8 [(5, .int z.1), (4, .int z.2.1), (3, .int z.2.2.1), (0, .ref (ad 4 0)), (1, .int z.2.2.2.1), (2, .int z.2.2.2.2.1)]) (fun k z => M_isInUse_L81 n σ kx33 k z.1 z.2.1 z.2.2.1 z.2.2.2.1 z.2.2.2.2.1) (fun z => kx33 z.1 z.2.1 z.2.2.1 z.2.2.2.1 z.2.2.2.2.1) _ (fun z => rfl) ?_ ?_ n (0, p19, p20, p21, p22, ls) hl hf
        · rintro k ⟨p28, p29, p30, p31, p32, ls⟩ hl hf ih34 hXkx33
          dsimp only at hl hf ih34 hXkx33 ⊢
          unfold M_isInUse_L81 at hf
          have hl : lv_has ls 8 [(5, .int p28), (4, .int p29), (3, .int p30), (0, .ref (ad 4 0)), (1, .int p31), (2, .int p32)] := hl
          refine lv_iload (pc := 81) hx hb dM_isInUse_81 (lv_at hl 0 rfl) ?_
          refine lv_aload_n (pc := 83) hx hb dM_isInUse_83 rfl (lv_at hl 3 rfl) ?_
          refine lv_iload (pc := 84) hx hb dM_isInUse_84 (lv_at hl 1 rfl) ?_
          obtain ⟨q35, hq35, eq35⟩ := at_4 (ad := ad) (ca := ca) (σ := σ) hm0
          obtain ⟨y36, hy36, hf⟩ := ob hf
          refine vp_callSi (pc := 86) (W.runV (As := [.int p29]) (rest := [.int p28]) ⟨hx, hb, hml, hown, hts⟩ (t_M_made l dC dI ad ca dom σ p29 hm0 hN hC y36 hy36) (cwV 1 hts (gV wd_61 wd_62 wd_63 wd_50 wd_60) rfl rfl rfl (by decide +kernel) ⟨Nat.le_of_ble_eq_true rfl, Nat.le_of_ble_eq_true rfl⟩) ⟨hR_blind, va_recv (q := (RM, TM, 11)) (q0 := q35) (ci := 4) hK.1 hP rfl eq35, hR_pre hP hK hG⟩ rfl rfl hl.1 rfl (lv_room (Nat.le_of_ble_eq_true rfl)) dM_isInUse_86 ⟨Nat.le_of_ble_eq_true rfl, Nat.le_of_ble_eq_true rfl⟩) (fun r9 hr9 => ?_)
          refine W.eq (g2 := F0 m 89 ls [.int y36, .int p28]) (by rw [hr9]) ?_
          refine lv_icmp_ge (pc := 89) (tgt := 177) hx hb dM_isInUse_89 rfl (fun h37 => ?_) (fun h37 => ?_)
          · replace hf := ite_t h37 hf
            have hl := lv_sub hl (l' := [(5, .int p28), (4, .int p29), (3, .int p30), (0, .ref (ad 4 0)), (1, .int p31), (2, .int p32)]) [0, 1, 2, 3, 4, 5] rfl
            exact hXkx33 (p28, p29, p30, p31, p32, ls) hl hf
          · replace hf := ite_f h37 hf
            refine lv_aload_n (pc := 92) hx hb dM_isInUse_92 rfl (lv_at hl 3 rfl) ?_
            refine lv_iload (pc := 93) hx hb dM_isInUse_93 (lv_at hl 1 rfl) ?_
            refine lv_iload (pc := 95) hx hb dM_isInUse_95 (lv_at hl 0 rfl) ?_
            obtain ⟨q38, hq38, eq38⟩ := at_4 (ad := ad) (ca := ca) (σ := σ) hm0
            refine vp_callSi (pc := 97) (W.runV (As := [.int p29, .int p28]) (rest := []) ⟨hx, hb, hml, hown, hts⟩ (t_M_revisionAt l dC dI ad ca dom p29 p28 hm0 σ hN hC (M_revisionAt p29 p28) rfl) (cwV 2 hts (gV wd_65 wd_66 wd_67 wd_50 wd_64) rfl rfl rfl (by decide +kernel) ⟨Nat.le_of_ble_eq_true rfl, Nat.le_of_ble_eq_true rfl⟩) ⟨hR_blind, va_recv (q := (RM, TM, 11)) (q0 := q38) (ci := 4) hK.1 hP rfl eq38, hR_pre hP hK hG⟩ rfl rfl hl.1 rfl (lv_room (Nat.le_of_ble_eq_true rfl)) dM_isInUse_97 ⟨Nat.le_of_ble_eq_true rfl, Nat.le_of_ble_eq_true rfl⟩) (fun r9 hr9 => ?_)
            refine W.eq (g2 := F0 m 100 ls [.int (M_revisionAt p29 p28)]) (by rw [hr9]) ?_
            refine lv_istore (pc := 100) hx hb dM_isInUse_100 hl (by decide) rfl (fun ls hl => ?_)
            have hl : lv_has ls 8 [(6, .int (M_revisionAt p29 p28)), (5, .int p28), (4, .int p29), (3, .int p30), (0, .ref (ad 4 0)), (1, .int p31), (2, .int p32)] := hl
            refine lv_iconst (pc := 102) (v := 0) hx hb dM_isInUse_102 (by decide) ?_
            refine lv_istore (pc := 103) hx hb dM_isInUse_103 hl (by decide) rfl (fun ls hl => ?_)
            have hl : lv_has ls 8 [(7, .int 0), (6, .int (M_revisionAt p29 p28)), (5, .int p28), (4, .int p29), (3, .int p30), (0, .ref (ad 4 0)), (1, .int p31), (2, .int p32)] := hl
            obtain ⟨kx46, hkx46, hf⟩ := lt_9 hf
            refine lpF (τ := (Int32) × (Int32) × (Int32) × (Int32) × (Int32) × (Int32) × (Int32) × (Array Slot)) (fun pc z => W p l e _ s m _ below meth c H ([]) 0 0 _ (F0 m pc z.2.2.2.2.2.2.2 [])) 105 171 (fun z => lv_has z.2.2.2.2.2.2.2 8 [(7, .int z.1), (6, .int z.2.1), (5, .int z.2.2.1), (4, .int z.2.2.2.1), (3, .int z.2.2.2.2.1), (0, .ref (ad 4 0)), (1, .int z.2.2.2.2.2.1), (2, .int z.2.2.2.2.2.2.1)]) (fun k z => M_isInUse_L105 n σ kx46 k z.1 z.2.1 z.2.2.1 z.2.2.2.1 z.2.2.2.2.1 z.2.2.2.2.2.1 z.2.2.2.2.2.2.1) (fun z => kx46 z.1 z.2.1 z.2.2.1 z.2.2.2.1 z.2.2.2.2.1 z.2.2.2.2.2.1 z.2.2.2.2.2.2.1) _ (fun z => rfl) ?_ ?_ n (0, (M_revisionAt p29 p28), p28, p29, p30, p31, p32, ls) hl hf
            · rintro k ⟨p39, p40, p41, p42, p43, p44, p45, ls⟩ hl hf ih47 hXkx46
              dsimp only at hl hf ih47 hXkx46 ⊢
              unfold M_isInUse_L105 at hf
              have hl : lv_has ls 8 [(7, .int p39), (6, .int p40), (5, .int p41), (4, .int p42), (3, .int p43), (0, .ref (ad 4 0)), (1, .int p44), (2, .int p45)] := hl
              refine lv_iload (pc := 105) hx hb dM_isInUse_105 (lv_at hl 0 rfl) ?_
              refine lv_aload_n (pc := 107) hx hb dM_isInUse_107 rfl (lv_at hl 5 rfl) ?_
              obtain ⟨q48, hq48, eq48⟩ := at_4 (ad := ad) (ca := ca) (σ := σ) hm0
              refine va_get (D := (dC, dI)) (cl := kCl) (C := RM) (T := TM) (N := 11) (pc := 108) hx hb hts inM hown hK.1 hP q48 eq48 rfl 2 (by decide) (hts _ wd_51) (fun _ h9 => h9) rfl dM_isInUse_108 ?_
              refine lv_iload (pc := 111) hx hb dM_isInUse_111 (lv_at hl 1 rfl) ?_
              refine lv_iconst (pc := 113) (v := 3) hx hb dM_isInUse_113 (by decide) ?_
              refine lv_iadd (pc := 114) hx hb dM_isInUse_114 ?_
              obtain ⟨hv49, hf⟩ := ite_s hf
              obtain ⟨q50, hq50, eq50⟩ := at_15 (ad := ad) (ca := ca) (σ := σ) (cm_4_2 hC hm0)
              refine va_iald (D := (dC, dI)) (cl := kCl) (pc := 115) hx hb (hK.2 15 0 .int (cm_4_2 hC hm0) rfl) hP q50 0 eq50 rfl (hv49) dM_isInUse_115 ?_
              refine W.eq (g2 := F0 m 116 ls [.int (xI σ 15 0 ((p40 + 3)).toNatClampNeg), .int p39]) rfl ?_
              refine lv_icmp_ge (pc := 116) (tgt := 171) hx hb dM_isInUse_116 rfl (fun h51 => ?_) (fun h51 => ?_)
              · replace hf := ite_t h51 hf
                have hl := lv_sub hl (l' := [(7, .int p39), (6, .int p40), (5, .int p41), (4, .int p42), (3, .int p43), (0, .ref (ad 4 0)), (1, .int p44), (2, .int p45)]) [0, 1, 2, 3, 4, 5, 6, 7] rfl
                exact hXkx46 (p39, p40, p41, p42, p43, p44, p45, ls) hl hf
              · replace hf := ite_f h51 hf
                refine lv_iload_n (pc := 119) hx hb dM_isInUse_119 rfl (lv_at hl 4 rfl) ?_
                refine lv_if_ne (pc := 120) (tgt := 159) hx hb dM_isInUse_120 rfl (fun h52 => ?_) (fun h52 => ?_)
                · replace hf := ite_f h52 hf
                  refine lv_iconst (pc := 159) (v := 1) hx hb dM_isInUse_159 (by decide) ?_
                  refine lv_goto (pc := 160) (tgt := 164) hx hb dM_isInUse_160 rfl ?_
                  refine lv_istore_n (pc := 164) hx hb dM_isInUse_164 rfl hl (by decide) rfl (fun ls hl => ?_)
                  have hl : lv_has ls 8 [(3, .int 1), (7, .int p39), (6, .int p40), (5, .int p41), (4, .int p42), (0, .ref (ad 4 0)), (1, .int p44), (2, .int p45)] := hl
                  refine lv_iinc (pc := 165) (v := (p39 + 1)) hx hb dM_isInUse_165 hl (k := 1) rfl (by rfl) (by decide) rfl (fun ls hl => ?_)
                  have hl : lv_has ls 8 [(7, .int (p39 + 1)), (3, .int 1), (6, .int p40), (5, .int p41), (4, .int p42), (0, .ref (ad 4 0)), (1, .int p44), (2, .int p45)] := hl
                  refine lv_goto (pc := 168) (tgt := 105) hx hb dM_isInUse_168 rfl ?_
                  have hl := lv_sub hl (l' := [(7, .int (p39 + 1)), (6, .int p40), (5, .int p41), (4, .int p42), (3, .int 1), (0, .ref (ad 4 0)), (1, .int p44), (2, .int p45)]) [0, 2, 3, 4, 1, 5, 6, 7] rfl
                  exact ih47 ((p39 + 1), p40, p41, p42, 1, p44, p45, ls) hl hf
                · replace hf := ite_t h52 hf
                  refine lv_aload_n (pc := 123) hx hb dM_isInUse_123 rfl (lv_at hl 5 rfl) ?_
                  refine lv_iload (pc := 124) hx hb dM_isInUse_124 (lv_at hl 3 rfl) ?_
                  refine lv_iload (pc := 126) hx hb dM_isInUse_126 (lv_at hl 2 rfl) ?_
                  obtain ⟨q53, hq53, eq53⟩ := at_4 (ad := ad) (ca := ca) (σ := σ) hm0
                  obtain ⟨y54, hy54, hf⟩ := ob hf
                  refine vp_callSi (pc := 128) (W.runV (As := [.int p42, .int p41]) (rest := []) ⟨hx, hb, hml, hown, hts⟩ (t_M_stateOf l dC dI ad ca dom σ p42 p41 hm0 hN hC y54 hy54) (cwV 2 hts (gV wd_69 wd_70 wd_71 wd_50 wd_68) rfl rfl rfl (by decide +kernel) ⟨Nat.le_of_ble_eq_true rfl, Nat.le_of_ble_eq_true rfl⟩) ⟨hR_blind, va_recv (q := (RM, TM, 11)) (q0 := q53) (ci := 4) hK.1 hP rfl eq53, hR_pre hP hK hG⟩ rfl rfl hl.1 rfl (lv_room (Nat.le_of_ble_eq_true rfl)) dM_isInUse_128 ⟨Nat.le_of_ble_eq_true rfl, Nat.le_of_ble_eq_true rfl⟩) (fun r9 hr9 => ?_)
                  refine W.eq (g2 := F0 m 131 ls [.int y54]) (by rw [hr9]) ?_
                  refine lv_iconst (pc := 131) (v := 2) hx hb dM_isInUse_131 (by decide) ?_
                  refine lv_icmp_ne (pc := 132) (tgt := 163) hx hb dM_isInUse_132 rfl (fun h55 => ?_) (fun h55 => ?_)
                  · replace hf := ite_f h55 hf
                    refine lv_iconst (pc := 163) (v := 0) hx hb dM_isInUse_163 (by decide) ?_
                    refine lv_istore_n (pc := 164) hx hb dM_isInUse_164 rfl hl (by decide) rfl (fun ls hl => ?_)
                    have hl : lv_has ls 8 [(3, .int 0), (7, .int p39), (6, .int p40), (5, .int p41), (4, .int p42), (0, .ref (ad 4 0)), (1, .int p44), (2, .int p45)] := hl
                    refine lv_iinc (pc := 165) (v := (p39 + 1)) hx hb dM_isInUse_165 hl (k := 1) rfl (by rfl) (by decide) rfl (fun ls hl => ?_)
                    have hl : lv_has ls 8 [(7, .int (p39 + 1)), (3, .int 0), (6, .int p40), (5, .int p41), (4, .int p42), (0, .ref (ad 4 0)), (1, .int p44), (2, .int p45)] := hl
                    refine lv_goto (pc := 168) (tgt := 105) hx hb dM_isInUse_168 rfl ?_
                    have hl := lv_sub hl (l' := [(7, .int (p39 + 1)), (6, .int p40), (5, .int p41), (4, .int p42), (3, .int 0), (0, .ref (ad 4 0)), (1, .int p44), (2, .int p45)]) [0, 2, 3, 4, 1, 5, 6, 7] rfl
                    exact ih47 ((p39 + 1), p40, p41, p42, 0, p44, p45, ls) hl hf
                  · replace hf := ite_t h55 hf
                    refine lv_aload_n (pc := 135) hx hb dM_isInUse_135 rfl (lv_at hl 5 rfl) ?_
                    refine lv_iload (pc := 136) hx hb dM_isInUse_136 (lv_at hl 1 rfl) ?_
                    refine lv_iload (pc := 138) hx hb dM_isInUse_138 (lv_at hl 0 rfl) ?_
                    obtain ⟨q56, hq56, eq56⟩ := at_4 (ad := ad) (ca := ca) (σ := σ) hm0
                    obtain ⟨y57, hy57, hf⟩ := ob hf
                    refine vp_callSi (pc := 140) (W.runV (As := [.int p40, .int p39]) (rest := []) ⟨hx, hb, hml, hown, hts⟩ (t_M_refDrawing l dC dI ad ca dom σ p40 p39 hm0 hN hC y57 hy57) (cwV 2 hts (gV wd_77 wd_78 wd_79 wd_50 wd_76) rfl rfl rfl (by decide +kernel) ⟨Nat.le_of_ble_eq_true rfl, Nat.le_of_ble_eq_true rfl⟩) ⟨hR_blind, va_recv (q := (RM, TM, 11)) (q0 := q56) (ci := 4) hK.1 hP rfl eq56, hR_pre hP hK hG⟩ rfl rfl hl.1 rfl (lv_room (Nat.le_of_ble_eq_true rfl)) dM_isInUse_140 ⟨Nat.le_of_ble_eq_true rfl, Nat.le_of_ble_eq_true rfl⟩) (fun r9 hr9 => ?_)
                    refine W.eq (g2 := F0 m 143 ls [.int y57]) (by rw [hr9]) ?_
                    refine lv_iload_n (pc := 143) hx hb dM_isInUse_143 rfl (lv_at hl 6 rfl) ?_
                    refine lv_icmp_ne (pc := 144) (tgt := 163) hx hb dM_isInUse_144 rfl (fun h58 => ?_) (fun h58 => ?_)
                    · replace hf := ite_f h58 hf
                      refine lv_iconst (pc := 163) (v := 0) hx hb dM_isInUse_163 (by decide) ?_
                      refine lv_istore_n (pc := 164) hx hb dM_isInUse_164 rfl hl (by decide) rfl (fun ls hl => ?_)
                      have hl : lv_has ls 8 [(3, .int 0), (7, .int p39), (6, .int p40), (5, .int p41), (4, .int p42), (0, .ref (ad 4 0)), (1, .int p44), (2, .int p45)] := hl
                      refine lv_iinc (pc := 165) (v := (p39 + 1)) hx hb dM_isInUse_165 hl (k := 1) rfl (by rfl) (by decide) rfl (fun ls hl => ?_)
                      have hl : lv_has ls 8 [(7, .int (p39 + 1)), (3, .int 0), (6, .int p40), (5, .int p41), (4, .int p42), (0, .ref (ad 4 0)), (1, .int p44), (2, .int p45)] := hl
                      refine lv_goto (pc := 168) (tgt := 105) hx hb dM_isInUse_168 rfl ?_
                      have hl := lv_sub hl (l' := [(7, .int (p39 + 1)), (6, .int p40), (5, .int p41), (4, .int p42), (3, .int 0), (0, .ref (ad 4 0)), (1, .int p44), (2, .int p45)]) [0, 2, 3, 4, 1, 5, 6, 7] rfl
                      exact ih47 ((p39 + 1), p40, p41, p42, 0, p44, p45, ls) hl hf
                    · replace hf := ite_t h58 hf
                      refine lv_aload_n (pc := 147) hx hb dM_isInUse_147 rfl (lv_at hl 5 rfl) ?_
                      refine lv_iload (pc := 148) hx hb dM_isInUse_148 (lv_at hl 1 rfl) ?_
                      refine lv_iload (pc := 150) hx hb dM_isInUse_150 (lv_at hl 0 rfl) ?_
                      obtain ⟨q59, hq59, eq59⟩ := at_4 (ad := ad) (ca := ca) (σ := σ) hm0
                      obtain ⟨y60, hy60, hf⟩ := ob hf
                      refine vp_callSi (pc := 152) (W.runV (As := [.int p40, .int p39]) (rest := []) ⟨hx, hb, hml, hown, hts⟩ (t_M_refRevision l dC dI ad ca dom σ p40 p39 hm0 hN hC y60 hy60) (cwV 2 hts (gV wd_73 wd_74 wd_75 wd_50 wd_72) rfl rfl rfl (by decide +kernel) ⟨Nat.le_of_ble_eq_true rfl, Nat.le_of_ble_eq_true rfl⟩) ⟨hR_blind, va_recv (q := (RM, TM, 11)) (q0 := q59) (ci := 4) hK.1 hP rfl eq59, hR_pre hP hK hG⟩ rfl rfl hl.1 rfl (lv_room (Nat.le_of_ble_eq_true rfl)) dM_isInUse_152 ⟨Nat.le_of_ble_eq_true rfl, Nat.le_of_ble_eq_true rfl⟩) (fun r9 hr9 => ?_)
                      refine W.eq (g2 := F0 m 155 ls [.int y60]) (by rw [hr9]) ?_
                      refine lv_iload_n (pc := 155) hx hb dM_isInUse_155 rfl (lv_at hl 7 rfl) ?_
                      refine lv_icmp_ne (pc := 156) (tgt := 163) hx hb dM_isInUse_156 rfl (fun h61 => ?_) (fun h61 => ?_)
                      · replace hf := ite_f h61 hf
                        refine lv_iconst (pc := 163) (v := 0) hx hb dM_isInUse_163 (by decide) ?_
                        refine lv_istore_n (pc := 164) hx hb dM_isInUse_164 rfl hl (by decide) rfl (fun ls hl => ?_)
                        have hl : lv_has ls 8 [(3, .int 0), (7, .int p39), (6, .int p40), (5, .int p41), (4, .int p42), (0, .ref (ad 4 0)), (1, .int p44), (2, .int p45)] := hl
                        refine lv_iinc (pc := 165) (v := (p39 + 1)) hx hb dM_isInUse_165 hl (k := 1) rfl (by rfl) (by decide) rfl (fun ls hl => ?_)
                        have hl : lv_has ls 8 [(7, .int (p39 + 1)), (3, .int 0), (6, .int p40), (5, .int p41), (4, .int p42), (0, .ref (ad 4 0)), (1, .int p44), (2, .int p45)] := hl
                        refine lv_goto (pc := 168) (tgt := 105) hx hb dM_isInUse_168 rfl ?_
                        have hl := lv_sub hl (l' := [(7, .int (p39 + 1)), (6, .int p40), (5, .int p41), (4, .int p42), (3, .int 0), (0, .ref (ad 4 0)), (1, .int p44), (2, .int p45)]) [0, 2, 3, 4, 1, 5, 6, 7] rfl
                        exact ih47 ((p39 + 1), p40, p41, p42, 0, p44, p45, ls) hl hf
                      · replace hf := ite_t h61 hf
                        refine lv_iconst (pc := 159) (v := 1) hx hb dM_isInUse_159 (by decide) ?_
                        refine lv_goto (pc := 160) (tgt := 164) hx hb dM_isInUse_160 rfl ?_
                        refine lv_istore_n (pc := 164) hx hb dM_isInUse_164 rfl hl (by decide) rfl (fun ls hl => ?_)
                        have hl : lv_has ls 8 [(3, .int 1), (7, .int p39), (6, .int p40), (5, .int p41), (4, .int p42), (0, .ref (ad 4 0)), (1, .int p44), (2, .int p45)] := hl
                        refine lv_iinc (pc := 165) (v := (p39 + 1)) hx hb dM_isInUse_165 hl (k := 1) rfl (by rfl) (by decide) rfl (fun ls hl => ?_)
                        have hl : lv_has ls 8 [(7, .int (p39 + 1)), (3, .int 1), (6, .int p40), (5, .int p41), (4, .int p42), (0, .ref (ad 4 0)), (1, .int p44), (2, .int p45)] := hl
                        refine lv_goto (pc := 168) (tgt := 105) hx hb dM_isInUse_168 rfl ?_
                        have hl := lv_sub hl (l' := [(7, .int (p39 + 1)), (6, .int p40), (5, .int p41), (4, .int p42), (3, .int 1), (0, .ref (ad 4 0)), (1, .int p44), (2, .int p45)]) [0, 2, 3, 4, 1, 5, 6, 7] rfl
                        exact ih47 ((p39 + 1), p40, p41, p42, 1, p44, p45, ls) hl hf
            · rintro ⟨p39, p40, p41, p42, p43, p44, p45, ls⟩ hl hf
              dsimp only at hl hf ⊢
              rw [hkx46] at hf
              have hl : lv_has ls 8 [(7, .int p39), (6, .int p40), (5, .int p41), (4, .int p42), (3, .int p43), (0, .ref (ad 4 0)), (1, .int p44), (2, .int p45)] := hl
              refine lv_iinc (pc := 171) (v := (p41 + 1)) hx hb dM_isInUse_171 hl (k := 2) rfl (by rfl) (by decide) rfl (fun ls hl => ?_)
              have hl : lv_has ls 8 [(5, .int (p41 + 1)), (7, .int p39), (6, .int p40), (4, .int p42), (3, .int p43), (0, .ref (ad 4 0)), (1, .int p44), (2, .int p45)] := hl
              refine lv_goto (pc := 174) (tgt := 81) hx hb dM_isInUse_174 rfl ?_
              have hl := lv_sub hl (l' := [(5, .int (p41 + 1)), (4, .int p42), (3, .int p43), (0, .ref (ad 4 0)), (1, .int p44), (2, .int p45)]) [0, 3, 4, 5, 6, 7] rfl
              exact ih34 ((p41 + 1), p42, p43, p44, p45, ls) hl hf
        · rintro ⟨p28, p29, p30, p31, p32, ls⟩ hl hf
          dsimp only at hl hf ⊢
          rw [hkx33] at hf
          have hl : lv_has ls 8 [(5, .int p28), (4, .int p29), (3, .int p30), (0, .ref (ad 4 0)), (1, .int p31), (2, .int p32)] := hl
          refine lv_iinc (pc := 177) (v := (p29 + 1)) hx hb dM_isInUse_177 hl (k := 1) rfl (by rfl) (by decide) rfl (fun ls hl => ?_)
          have hl : lv_has ls 8 [(4, .int (p29 + 1)), (5, .int p28), (3, .int p30), (0, .ref (ad 4 0)), (1, .int p31), (2, .int p32)] := hl
          refine lv_goto (pc := 180) (tgt := 66) hx hb dM_isInUse_180 rfl ?_
          have hl := lv_sub hl (l' := [(4, .int (p29 + 1)), (3, .int p30), (0, .ref (ad 4 0)), (1, .int p31), (2, .int p32)]) [0, 2, 3, 4, 5] rfl
          exact ih24 ((p29 + 1), p30, p31, p32, ls) hl hf
    · rintro ⟨p19, p20, p21, p22, ls⟩ hl hf
      dsimp only at hl hf ⊢
      rw [hkx23] at hf
      have hl : lv_has ls 8 [(4, .int p19), (3, .int p20), (0, .ref (ad 4 0)), (1, .int p21), (2, .int p22)] := hl
      refine lv_iload_n (pc := 183) hx hb dM_isInUse_183 rfl (lv_at hl 1 rfl) ?_
      obtain ⟨hz9, hf⟩ := ite_s hf
      exact W.zret (pc := 184) hx hb hr (nar01 hz9) (fun t ht hW => ⟨_, rfl, (Option.some.inj hf), ht.trans hH⟩) (fun q h => nomatch h) dM_isInUse_184
def M_withdraw (n : Nat) (σ : hT) (a1 : Int32) (a2 : Int32) (a3 : Int32) : Option (Int32 × hT) := Option.bind (M_whyNotRevision σ a1 a2 a3 4) fun y2 => Option.bind (M_isRevision σ a1 a2) fun y4 => lt9 (α := Int32 → Option (Int32 × hT)) (fun (q6 : Int32) => Option.bind (M_may σ q6 1) fun ⟨y16, σ17⟩ => if y16 = 0 then some (0, σ17) else if in9 ((M_revisionAt a1 a2) + 0) 25240 then lt9 (sI σ17 15 0 (((M_revisionAt a1 a2) + 0)).toNatClampNeg 3) fun σ21 => Option.bind (M_close n σ21) fun ⟨y25, σ26⟩ => some (1, σ26) else none) fun x5 => if y4 = 0 then x5 y2 else Option.bind (M_stateOf σ a1 a2) fun y9 => lt9 (α := Int32 → Option (Int32 × hT)) (fun (s11 : Int32) => Option.bind (M_isInUse n σ a1 a2) fun y14 => x5 (M_least y14 5 (M_least s11 2 y2))) fun x10 => if y9 = 3 then x10 1 else x10 0
set_option maxHeartbeats 4000000 in
set_option maxRecDepth 100000 in
theorem t_M_withdraw (l : Launch) (dC : Nat → ClassId) (dI : Nat → Nat → Nat) (ad : Nat → Nat → Nat) (ca : Nat → Nat → ClassId) (dom : List (Nat × Nat)) (sz : Nat) (n : Nat) (σ : hT) (a1 : Int32) (a2 : Int32) (a3 : Int32) (hm0 : (4, 0) ∈ dom) (hN : dom.Nodup) (hC : clo dom σ.2.2) (ρ : Int32) (σ' : hT) (hf : M_withdraw n σ a1 a2 a3 = some (ρ, σ')) : Met l yM_withdraw (.code yM_withdraw cM_withdraw 5 (some .boolean) :: aw) ({ frames := 7, cells := 0, slots := 0, locals := 157 }) (hW (dC, dI) sz ad ca dom σ [.ref (ad 4 0), .int a1, .int a2, .int a3]) (va_Qi (fun r (_ : Unit) => r = ρ) (fun _ t => hB (dC, dI) (va_A (w9 ad ca dom σ) sz) ad ca dom σ' t) (va_A (w9 ad ca dom σ) sz)) 0 0 (va_A (w9 ad ca dom σ) sz) := by
  refine Met.ofW (cc := cM_withdraw) (maxL := 5) (ret := (some .boolean)) (by decide) rfl ?_
  intro p e s m args below meth c s₁ B hml hv
  obtain ⟨rfl, hv⟩ := hv
  have hx := B.exec
  have hb := B.bytes
  have hr := B.returns
  have hts : ∀ w ∈ aw, w.before _ s = true := fun w h => atoms_spec (ws := (.code yM_withdraw cM_withdraw 5 (some .boolean) :: aw)) B.pre w (List.mem_cons_of_mem _ h)
  have hown : s.vm.findClass RM = some m.cls := findClass_of_methodNamed B.named
  have hlocks := B.notSynchronized
  obtain ⟨hsz, hP, hK, hD0, hG⟩ := hv
  subst hsz
  have hD := hD0.self (sz := s.heap.size)
  generalize hAe : va_A (w9 ad ca dom σ) s.heap.size = A at hD ⊢
  have hA : ∀ q : Nat, s.heap.size ≤ q → A q := fun q h => by rw [← hAe]; exact Or.inr h
  obtain ⟨H, hH⟩ : ∃ H, H = s.heap := ⟨_, rfl⟩
  have hS : va_S A s.heap H [] := by rw [hH]; exact va_S.rf
  rw [← hH] at hP ⊢
  unfold M_withdraw at hf
  have hl := lv_entry ([.ref (ad 4 0), .int a1, .int a2, .int a3]) (n := 5) (Nat.le_of_ble_eq_true rfl)
  rw [lg_entry_eq]
  generalize (lg_sl ([.ref (ad 4 0), .int a1, .int a2, .int a3]) ++ List.replicate (5 - (lg_sl ([.ref (ad 4 0), .int a1, .int a2, .int a3])).length) Slot.unset).toArray = ls at hl ⊢
  have hl : lv_has ls 5 [(0, .ref (ad 4 0)), (1, .int a1), (2, .int a2), (3, .int a3)] := hl
  refine lv_aload_n (pc := 0) hx hb dM_withdraw_0 rfl (lv_at hl 0 rfl) ?_
  refine lv_iload_n (pc := 1) hx hb dM_withdraw_1 rfl (lv_at hl 1 rfl) ?_
  refine lv_iload_n (pc := 2) hx hb dM_withdraw_2 rfl (lv_at hl 2 rfl) ?_
  refine lv_iload_n (pc := 3) hx hb dM_withdraw_3 rfl (lv_at hl 3 rfl) ?_
  refine lv_iconst (pc := 4) (v := 4) hx hb dM_withdraw_4 (by decide) ?_
  obtain ⟨q1, hq1, eq1⟩ := at_4 (ad := ad) (ca := ca) (σ := σ) hm0
  obtain ⟨y2, hy2, hf⟩ := ob hf
  refine vp_callSi (pc := 5) (W.runV (As := [.int a1, .int a2, .int a3, .int 4]) (rest := []) ⟨hx, hb, hml, hown, hts⟩ (t_M_whyNotRevision l dC dI ad ca dom σ a1 a2 a3 4 hm0 hN hC y2 hy2) (cwV 4 hts (gV wd_196 wd_197 wd_198 wd_50 wd_195) rfl rfl rfl (by decide +kernel) ⟨Nat.le_of_ble_eq_true rfl, Nat.le_of_ble_eq_true rfl⟩) ⟨hR_blind, va_recv (q := (RM, TM, 11)) (q0 := q1) (ci := 4) hK.1 hP rfl eq1, hR_pre hP hK hG⟩ rfl rfl hl.1 rfl (lv_room (Nat.le_of_ble_eq_true rfl)) dM_withdraw_5 ⟨Nat.le_of_ble_eq_true rfl, Nat.le_of_ble_eq_true rfl⟩) (fun r9 hr9 => ?_)
  refine W.eq (g2 := F0 m 8 ls [.int y2]) (by rw [hr9]) ?_
  refine lv_istore (pc := 8) hx hb dM_withdraw_8 hl (by decide) rfl (fun ls hl => ?_)
  have hl : lv_has ls 5 [(4, .int y2), (0, .ref (ad 4 0)), (1, .int a1), (2, .int a2), (3, .int a3)] := hl
  refine lv_aload_n (pc := 10) hx hb dM_withdraw_10 rfl (lv_at hl 1 rfl) ?_
  refine lv_iload_n (pc := 11) hx hb dM_withdraw_11 rfl (lv_at hl 2 rfl) ?_
  refine lv_iload_n (pc := 12) hx hb dM_withdraw_12 rfl (lv_at hl 3 rfl) ?_
  obtain ⟨q3, hq3, eq3⟩ := at_4 (ad := ad) (ca := ca) (σ := σ) hm0
  obtain ⟨y4, hy4, hf⟩ := ob hf
  refine vp_callSi (pc := 13) (W.runV (As := [.int a1, .int a2]) (rest := []) ⟨hx, hb, hml, hown, hts⟩ (t_M_isRevision l dC dI ad ca dom σ a1 a2 hm0 hN hC y4 hy4) (cwV 2 hts (gV wd_97 wd_98 wd_99 wd_50 wd_96) rfl rfl rfl (by decide +kernel) ⟨Nat.le_of_ble_eq_true rfl, Nat.le_of_ble_eq_true rfl⟩) ⟨hR_blind, va_recv (q := (RM, TM, 11)) (q0 := q3) (ci := 4) hK.1 hP rfl eq3, hR_pre hP hK hG⟩ rfl rfl hl.1 rfl (lv_room (Nat.le_of_ble_eq_true rfl)) dM_withdraw_13 ⟨Nat.le_of_ble_eq_true rfl, Nat.le_of_ble_eq_true rfl⟩) (fun r9 hr9 => ?_)
  refine W.eq (g2 := F0 m 16 ls [.int y4]) (by rw [hr9]) ?_
  obtain ⟨x5, hx5, hf⟩ := lt_9 hf
  refine jnF (τ := (Int32) × (Heap) × (List Loc) × (Array Slot)) (fun pc st z => W p l e _ s m _ below meth c z.2.1 z.2.2.1 0 0 _ (F0 m pc z.2.2.2 st)) (pc0 := 16) (st0 := [.int y4]) (z0 := (0, H, _, ls)) 56 (fun z => []) (fun z => va_P (dC, dI) kCl (w9 ad ca dom (σ)) z.2.1 ∧ va_D A (w9 ad ca dom (σ)) ∧ va_S A s.heap z.2.1 z.2.2.1 ∧ lv_has z.2.2.2 5 [(4, .int z.1), (0, .ref (ad 4 0)), (1, .int a1), (2, .int a2), (3, .int a3)]) (fun z => x5 z.1) (ρ, σ') ?_ ?_
  · intro hJx5
    dsimp only at hJx5 ⊢
    refine lv_if_eq (pc := 16) (tgt := 56) hx hb dM_withdraw_16 rfl (fun h7 => ?_) (fun h7 => ?_)
    · replace hf := ite_t h7 hf
      have hl := lv_sub hl (l' := [(4, .int y2), (0, .ref (ad 4 0)), (1, .int a1), (2, .int a2), (3, .int a3)]) [0, 1, 2, 3, 4] rfl
      exact hJx5 (y2, H, _, ls) ⟨hP, hD, hS, hl⟩ hf
    · replace hf := ite_f h7 hf
      refine lv_aload_n (pc := 19) hx hb dM_withdraw_19 rfl (lv_at hl 1 rfl) ?_
      refine lv_iload_n (pc := 20) hx hb dM_withdraw_20 rfl (lv_at hl 2 rfl) ?_
      refine lv_iload_n (pc := 21) hx hb dM_withdraw_21 rfl (lv_at hl 3 rfl) ?_
      obtain ⟨q8, hq8, eq8⟩ := at_4 (ad := ad) (ca := ca) (σ := σ) hm0
      obtain ⟨y9, hy9, hf⟩ := ob hf
      refine vp_callSi (pc := 22) (W.runV (As := [.int a1, .int a2]) (rest := []) ⟨hx, hb, hml, hown, hts⟩ (t_M_stateOf l dC dI ad ca dom σ a1 a2 hm0 hN hC y9 hy9) (cwV 2 hts (gV wd_69 wd_70 wd_71 wd_50 wd_68) rfl rfl rfl (by decide +kernel) ⟨Nat.le_of_ble_eq_true rfl, Nat.le_of_ble_eq_true rfl⟩) ⟨hR_blind, va_recv (q := (RM, TM, 11)) (q0 := q8) (ci := 4) hK.1 hP rfl eq8, hR_pre hP hK hG⟩ rfl rfl hl.1 rfl (lv_room (Nat.le_of_ble_eq_true rfl)) dM_withdraw_22 ⟨Nat.le_of_ble_eq_true rfl, Nat.le_of_ble_eq_true rfl⟩) (fun r9 hr9 => ?_)
      refine W.eq (g2 := F0 m 25 ls [.int y9]) (by rw [hr9]) ?_
      refine lv_iconst (pc := 25) (v := 3) hx hb dM_withdraw_25 (by decide) ?_
      obtain ⟨x10, hx10, hf⟩ := lt_9 hf
      refine jnF (τ := (Int32) × (Heap) × (List Loc) × (Array Slot)) (fun pc st z => W p l e _ s m _ below meth c z.2.1 z.2.2.1 0 0 _ (F0 m pc z.2.2.2 st)) (pc0 := 26) (st0 := [.int 3, .int y9]) (z0 := (0, H, _, ls)) 34 (fun z => [.int z.1]) (fun z => va_P (dC, dI) kCl (w9 ad ca dom (σ)) z.2.1 ∧ va_D A (w9 ad ca dom (σ)) ∧ va_S A s.heap z.2.1 z.2.2.1 ∧ lv_has z.2.2.2 5 [(4, .int y2), (0, .ref (ad 4 0)), (1, .int a1), (2, .int a2), (3, .int a3)]) (fun z => x10 z.1) (ρ, σ') ?_ ?_
      · intro hJx10
        dsimp only at hJx10 ⊢
        refine lv_icmp_ne (pc := 26) (tgt := 33) hx hb dM_withdraw_26 rfl (fun h12 => ?_) (fun h12 => ?_)
        · replace hf := ite_f h12 hf
          refine lv_iconst (pc := 33) (v := 0) hx hb dM_withdraw_33 (by decide) ?_
          have hl := lv_sub hl (l' := [(4, .int y2), (0, .ref (ad 4 0)), (1, .int a1), (2, .int a2), (3, .int a3)]) [0, 1, 2, 3, 4] rfl
          exact hJx10 (0, H, _, ls) ⟨hP, hD, hS, hl⟩ hf
        · replace hf := ite_t h12 hf
          refine lv_iconst (pc := 29) (v := 1) hx hb dM_withdraw_29 (by decide) ?_
          refine lv_goto (pc := 30) (tgt := 34) hx hb dM_withdraw_30 rfl ?_
          have hl := lv_sub hl (l' := [(4, .int y2), (0, .ref (ad 4 0)), (1, .int a1), (2, .int a2), (3, .int a3)]) [0, 1, 2, 3, 4] rfl
          exact hJx10 (1, H, _, ls) ⟨hP, hD, hS, hl⟩ hf
      · rintro ⟨s11, H, locs, ls⟩ ⟨hP, hD, hS, hl⟩ hf
        dsimp only at hP hD hS hl hf ⊢
        rw [hx10] at hf
        have hl : lv_has ls 5 [(4, .int y2), (0, .ref (ad 4 0)), (1, .int a1), (2, .int a2), (3, .int a3)] := hl
        refine lv_iconst (pc := 34) (v := 2) hx hb dM_withdraw_34 (by decide) ?_
        refine lv_iload (pc := 35) hx hb dM_withdraw_35 (lv_at hl 0 rfl) ?_
        refine vp_callSi (pc := 37) (W.runS (As := [.int s11, .int 2, .int y2]) (rest := []) ⟨hx, hb, hml, hown, hts⟩ (t_M_least l dC dI ad ca dom s11 2 y2 σ hN hC (M_least s11 2 y2) rfl) (cwS 3 hts (gS wd_152 wd_153 wd_50 wd_151) rfl rfl rfl (by decide +kernel) ⟨Nat.le_of_ble_eq_true rfl, Nat.le_of_ble_eq_true rfl⟩) ⟨hR_blind, hR_pre hP hK hG⟩ rfl rfl hl.1 rfl (lv_room (Nat.le_of_ble_eq_true rfl)) dM_withdraw_37 ⟨Nat.le_of_ble_eq_true rfl, Nat.le_of_ble_eq_true rfl⟩) (fun r9 hr9 => ?_)
        refine W.eq (g2 := F0 m 40 ls [.int (M_least s11 2 y2)]) (by rw [hr9]) ?_
        refine lv_istore (pc := 40) hx hb dM_withdraw_40 hl (by decide) rfl (fun ls hl => ?_)
        have hl : lv_has ls 5 [(4, .int (M_least s11 2 y2)), (0, .ref (ad 4 0)), (1, .int a1), (2, .int a2), (3, .int a3)] := hl
        refine lv_aload_n (pc := 42) hx hb dM_withdraw_42 rfl (lv_at hl 1 rfl) ?_
        refine lv_iload_n (pc := 43) hx hb dM_withdraw_43 rfl (lv_at hl 2 rfl) ?_
        refine lv_iload_n (pc := 44) hx hb dM_withdraw_44 rfl (lv_at hl 3 rfl) ?_
        obtain ⟨q13, hq13, eq13⟩ := at_4 (ad := ad) (ca := ca) (σ := σ) hm0
        obtain ⟨y14, hy14, hf⟩ := ob hf
        refine vp_callSi (pc := 45) (W.runV (As := [.int a1, .int a2]) (rest := []) ⟨hx, hb, hml, hown, hts⟩ (t_M_isInUse l dC dI ad ca dom n σ a1 a2 hm0 hN hC y14 hy14) (cwV 2 hts (gV wd_208 wd_209 wd_210 wd_50 wd_207) rfl rfl rfl (by decide +kernel) ⟨Nat.le_of_ble_eq_true rfl, Nat.le_of_ble_eq_true rfl⟩) ⟨hR_blind, va_recv (q := (RM, TM, 11)) (q0 := q13) (ci := 4) hK.1 hP rfl eq13, hR_pre hP hK hG⟩ rfl rfl hl.1 rfl (lv_room (Nat.le_of_ble_eq_true rfl)) dM_withdraw_45 ⟨Nat.le_of_ble_eq_true rfl, Nat.le_of_ble_eq_true rfl⟩) (fun r9 hr9 => ?_)
        refine W.eq (g2 := F0 m 48 ls [.int y14]) (by rw [hr9]) ?_
        refine lv_iconst (pc := 48) (v := 5) hx hb dM_withdraw_48 (by decide) ?_
        refine lv_iload (pc := 49) hx hb dM_withdraw_49 (lv_at hl 0 rfl) ?_
        refine vp_callSi (pc := 51) (W.runS (As := [.int y14, .int 5, .int (M_least s11 2 y2)]) (rest := []) ⟨hx, hb, hml, hown, hts⟩ (t_M_least l dC dI ad ca dom y14 5 (M_least s11 2 y2) σ hN hC (M_least y14 5 (M_least s11 2 y2)) rfl) (cwS 3 hts (gS wd_152 wd_153 wd_50 wd_151) rfl rfl rfl (by decide +kernel) ⟨Nat.le_of_ble_eq_true rfl, Nat.le_of_ble_eq_true rfl⟩) ⟨hR_blind, hR_pre hP hK hG⟩ rfl rfl hl.1 rfl (lv_room (Nat.le_of_ble_eq_true rfl)) dM_withdraw_51 ⟨Nat.le_of_ble_eq_true rfl, Nat.le_of_ble_eq_true rfl⟩) (fun r9 hr9 => ?_)
        refine W.eq (g2 := F0 m 54 ls [.int (M_least y14 5 (M_least s11 2 y2))]) (by rw [hr9]) ?_
        refine lv_istore (pc := 54) hx hb dM_withdraw_54 hl (by decide) rfl (fun ls hl => ?_)
        have hl : lv_has ls 5 [(4, .int (M_least y14 5 (M_least s11 2 y2))), (0, .ref (ad 4 0)), (1, .int a1), (2, .int a2), (3, .int a3)] := hl
        have hl := lv_sub hl (l' := [(4, .int (M_least y14 5 (M_least s11 2 y2))), (0, .ref (ad 4 0)), (1, .int a1), (2, .int a2), (3, .int a3)]) [0, 1, 2, 3, 4] rfl
        exact hJx5 ((M_least y14 5 (M_least s11 2 y2)), H, _, ls) ⟨hP, hD, hS, hl⟩ hf
  · rintro ⟨q6, H, locs, ls⟩ ⟨hP, hD, hS, hl⟩ hf
    dsimp only at hP hD hS hl hf ⊢
    rw [hx5] at hf
    have hl : lv_has ls 5 [(4, .int q6), (0, .ref (ad 4 0)), (1, .int a1), (2, .int a2), (3, .int a3)] := hl
    refine lv_aload_n (pc := 56) hx hb dM_withdraw_56 rfl (lv_at hl 1 rfl) ?_
    refine lv_iload (pc := 57) hx hb dM_withdraw_57 (lv_at hl 0 rfl) ?_
    refine lv_iconst (pc := 59) (v := 1) hx hb dM_withdraw_59 (by decide) ?_
    obtain ⟨q15, hq15, eq15⟩ := at_4 (ad := ad) (ca := ca) (σ := σ) hm0
    obtain ⟨⟨y16, σ17⟩, hy16, hf⟩ := ob hf
    have hFc := w9_free hD hS hA
    refine va_calli (pc := 60) (va_runV (As := [.int q6, .int 1]) (rest := []) ⟨hx, hb, hml, hown, hts⟩ (t_M_may l dC dI ad ca dom H.size σ q6 1 hm0 hN hC y16 σ17 hy16) (cwV 2 hts (gV wd_140 wd_141 wd_142 wd_50 wd_139) rfl rfl rfl (by decide +kernel) ⟨Nat.le_of_ble_eq_true rfl, Nat.le_of_ble_eq_true rfl⟩) ⟨hW_blind, va_recv (q := (RM, TM, 11)) (q0 := q15) (ci := 4) hK.1 hP rfl eq15, hW_pre hP hK hD hG⟩ rfl rfl hl.1 rfl (lv_room (Nat.le_of_ble_eq_true rfl)) dM_withdraw_60 ⟨Nat.le_of_ble_eq_true rfl, Nat.le_of_ble_eq_true rfl⟩) hS (fun q _ h => hFc q h) hFc (fun r9 u t H1 locs ht hvm hr9 hB hz1 hk1 hS => ?_)
    obtain ⟨hP, hD, hC⟩ := hB
    rw [ht] at hP
    replace hD := hD.weaken (fun _ _ _ h => hFc _ h)
    generalize H1 = H at hP hS ⊢
    refine W.eq (g2 := F0 m 63 ls [.int y16]) (by rw [hr9]) ?_
    refine lv_if_ne (pc := 63) (tgt := 68) hx hb dM_withdraw_63 rfl (fun h18 => ?_) (fun h18 => ?_)
    · replace hf := ite_f h18 hf
      refine lv_aload_n (pc := 68) hx hb dM_withdraw_68 rfl (lv_at hl 1 rfl) ?_
      obtain ⟨q19, hq19, eq19⟩ := at_4 (ad := ad) (ca := ca) (σ := σ17) hm0
      refine va_get (D := (dC, dI)) (cl := kCl) (C := RM) (T := TM) (N := 11) (pc := 69) hx hb hts inM hown hK.1 hP q19 eq19 rfl 2 (by decide) (hts _ wd_51) (fun _ h9 => h9) rfl dM_withdraw_69 ?_
      refine lv_aload_n (pc := 72) hx hb dM_withdraw_72 rfl (lv_at hl 1 rfl) ?_
      refine lv_iload_n (pc := 73) hx hb dM_withdraw_73 rfl (lv_at hl 2 rfl) ?_
      refine lv_iload_n (pc := 74) hx hb dM_withdraw_74 rfl (lv_at hl 3 rfl) ?_
      obtain ⟨q20, hq20, eq20⟩ := at_4 (ad := ad) (ca := ca) (σ := σ17) hm0
      refine vp_callSi (pc := 75) (W.runV (As := [.int a1, .int a2]) (rest := [.ref (ad 15 0)]) ⟨hx, hb, hml, hown, hts⟩ (t_M_revisionAt l dC dI ad ca dom a1 a2 hm0 σ17 hN hC (M_revisionAt a1 a2) rfl) (cwV 2 hts (gV wd_65 wd_66 wd_67 wd_50 wd_64) rfl rfl rfl (by decide +kernel) ⟨Nat.le_of_ble_eq_true rfl, Nat.le_of_ble_eq_true rfl⟩) ⟨hR_blind, va_recv (q := (RM, TM, 11)) (q0 := q20) (ci := 4) hK.1 hP rfl eq20, hR_pre hP hK hG⟩ rfl rfl hl.1 rfl (lv_room (Nat.le_of_ble_eq_true rfl)) dM_withdraw_75 ⟨Nat.le_of_ble_eq_true rfl, Nat.le_of_ble_eq_true rfl⟩) (fun r9 hr9 => ?_)
      refine W.eq (g2 := F0 m 78 ls [.int (M_revisionAt a1 a2), .ref (ad 15 0)]) (by rw [hr9]) ?_
      refine lv_iconst (pc := 78) (v := 0) hx hb dM_withdraw_78 (by decide) ?_
      refine lv_iadd (pc := 79) hx hb dM_withdraw_79 ?_
      refine lv_iconst (pc := 80) (v := 3) hx hb dM_withdraw_80 (by decide) ?_
      obtain ⟨hv22, hf⟩ := ite_s hf
      obtain ⟨q23, hq23, eq23⟩ := at_15 (ad := ad) (ca := ca) (σ := σ17) (cm_4_2 hC hm0)
      refine va_iast (D := (dC, dI)) (cl := kCl) (pc := 81) hx hb (hK.2 15 0 .int (cm_4_2 hC hm0) rfl) hP hD hS q23 0 eq23 rfl (hv22) dM_withdraw_81 (fun H locs hP hD hS => ?_)
      obtain ⟨σ21, hσ21, hf⟩ := lt_9 hf
      obtain ⟨hP, hD⟩ := w9_rI 15 rfl hN hq23 hσ21 (pr_15) hP hD
      have hC : clo dom σ21.2.2 := by rw [hσ21]; exact hC
      refine lv_aload_n (pc := 82) hx hb dM_withdraw_82 rfl (lv_at hl 1 rfl) ?_
      obtain ⟨q24, hq24, eq24⟩ := at_4 (ad := ad) (ca := ca) (σ := σ21) hm0
      obtain ⟨⟨y25, σ26⟩, hy25, hf⟩ := ob hf
      have hFc := w9_free hD hS hA
      refine va_callv (pc := 83) (va_runV (As := []) (rest := []) ⟨hx, hb, hml, hown, hts⟩ (t_M_close l dC dI ad ca dom H.size n σ21 hm0 hN hC y25 σ26 hy25) (cwV 0 hts (gV wd_144 wd_145 wd_146 wd_50 wd_143) rfl rfl rfl (by decide +kernel) ⟨Nat.le_of_ble_eq_true rfl, Nat.le_of_ble_eq_true rfl⟩) ⟨hW_blind, va_recv (q := (RM, TM, 11)) (q0 := q24) (ci := 4) hK.1 hP rfl eq24, hW_pre hP hK hD hG⟩ rfl rfl hl.1 rfl (lv_room (Nat.le_of_ble_eq_true rfl)) dM_withdraw_83 ⟨Nat.le_of_ble_eq_true rfl, Nat.le_of_ble_eq_true rfl⟩) hS (fun q _ h => hFc q h) hFc (fun u t H1 locs ht hvm hr9 hB hz1 hk1 hS => ?_)
      obtain ⟨hP, hD, hC⟩ := hB
      rw [ht] at hP
      replace hD := hD.weaken (fun _ _ _ h => hFc _ h)
      generalize H1 = H at hP hS ⊢
      refine lv_iconst (pc := 86) (v := 1) hx hb dM_withdraw_86 (by decide) ?_
      obtain ⟨h8, h9⟩ := Prod.mk.inj (Option.some.inj hf)
      subst h9
      exact W.zret (pc := 87) hx hb hr (rfl) (fun t ht hW => ⟨⟨_, (), rfl, h8, by rw [ht]; exact hP, hD, hC⟩, hS.F ht⟩) hS.2.2 dM_withdraw_87
    · replace hf := ite_t h18 hf
      refine lv_iconst (pc := 66) (v := 0) hx hb dM_withdraw_66 (by decide) ?_
      obtain ⟨h8, h9⟩ := Prod.mk.inj (Option.some.inj hf)
      subst h9
      exact W.zret (pc := 67) hx hb hr (rfl) (fun t ht hW => ⟨⟨_, (), rfl, h8, by rw [ht]; exact hP, hD, hC⟩, hS.F ht⟩) hS.2.2 dM_withdraw_67
def M_spread_L14 (n : Nat) (kx6 : hT → Int32 → Int32 → Int32 → Int32 → Option (Int32 × hT)) : Nat → hT → Int32 → Int32 → Int32 → Int32 → Option (Int32 × hT)
  | 0, _, _, _, _, _ => none
  | k + 1, σ1, p2, p3, p4, p5 => if in9 (p4 + 3) 25240 then if (xI σ1 15 0 ((p4 + 3)).toNatClampNeg) ≤ p2 then kx6 (σ1) p2 p3 p4 p5 else Option.bind (M_isReleased n σ1 p4 p2) fun y13 => lt9 (α := Int32 → Option (Int32 × hT)) (fun (s16 : Int32) => if s16 = 0 ∨ s16 = 1 then lt9 (sI σ1 509 0 0 s16) fun σ19 => lt9 (α := Int32 → Option (Int32 × hT)) (fun (s22 : Int32) => lt9 (α := Int32 → Option (Int32 × hT)) (fun (s29 : Int32) => if in9 s22 288 then lt9 (sI σ19 19 0 (s22).toNatClampNeg (nrZ 1)) fun σ36 => M_spread_L14 n kx6 k (σ36) (p2 + 1) s29 p4 p5 else none) fun x28 => if p3 = 0 then if in9 s22 288 then if (xI σ19 19 0 (s22).toNatClampNeg) = 0 then x28 1 else x28 0 else none else x28 1) fun x21 => if y13 = 0 then x21 p5 else Option.bind (M_refDrawing σ19 p4 p2) fun y25 => Option.bind (M_resolved n σ19 p4 p2) fun y27 => x21 ((12 * y25) + y27) else none) fun x15 => if (xI σ1 509 0 0) = 0 then if y13 = 0 then x15 1 else x15 0 else x15 1 else none
def M_spread (n : Nat) (σ : hT) (a1 : Int32) : Option (Int32 × hT) := lt9 (α := hT → Int32 → Int32 → Int32 → Int32 → Option (Int32 × hT)) (fun (σ1 : hT) (p2 : Int32) (p3 : Int32) (p4 : Int32) (p5 : Int32) => if p3 = 0 ∨ p3 = 1 then some (p3, σ1) else none) fun kx6 => M_spread_L14 n kx6 n (σ) 0 0 (1940 + (80 * a1)) a1
set_option maxHeartbeats 4000000 in
set_option maxRecDepth 100000 in
theorem t_M_spread (l : Launch) (dC : Nat → ClassId) (dI : Nat → Nat → Nat) (ad : Nat → Nat → Nat) (ca : Nat → Nat → ClassId) (dom : List (Nat × Nat)) (sz : Nat) (n : Nat) (σ : hT) (a1 : Int32) (hm0 : (4, 0) ∈ dom) (hN : dom.Nodup) (hC : clo dom σ.2.2) (ρ : Int32) (σ' : hT) (hf : M_spread n σ a1 = some (ρ, σ')) : Met l yM_spread (.code yM_spread cM_spread 7 (some .boolean) :: aw) ({ frames := 5, cells := 0, slots := 0, locals := 113 }) (hW (dC, dI) sz ad ca dom σ [.ref (ad 4 0), .int a1]) (va_Qi (fun r (_ : Unit) => r = ρ) (fun _ t => hB (dC, dI) (va_A (w9 ad ca dom σ) sz) ad ca dom σ' t) (va_A (w9 ad ca dom σ) sz)) 0 0 (va_A (w9 ad ca dom σ) sz) := by
  refine Met.ofW (cc := cM_spread) (maxL := 7) (ret := (some .boolean)) (by decide) rfl ?_
  intro p e s m args below meth c s₁ B hml hv
  obtain ⟨rfl, hv⟩ := hv
  have hx := B.exec
  have hb := B.bytes
  have hr := B.returns
  have hts : ∀ w ∈ aw, w.before _ s = true := fun w h => atoms_spec (ws := (.code yM_spread cM_spread 7 (some .boolean) :: aw)) B.pre w (List.mem_cons_of_mem _ h)
  have hown : s.vm.findClass RM = some m.cls := findClass_of_methodNamed B.named
  have hlocks := B.notSynchronized
  obtain ⟨hsz, hP, hK, hD0, hG⟩ := hv
  subst hsz
  have hD := hD0.self (sz := s.heap.size)
  generalize hAe : va_A (w9 ad ca dom σ) s.heap.size = A at hD ⊢
  have hA : ∀ q : Nat, s.heap.size ≤ q → A q := fun q h => by rw [← hAe]; exact Or.inr h
  obtain ⟨H, hH⟩ : ∃ H, H = s.heap := ⟨_, rfl⟩
  have hS : va_S A s.heap H [] := by rw [hH]; exact va_S.rf
  rw [← hH] at hP ⊢
  unfold M_spread at hf
  have hl := lv_entry ([.ref (ad 4 0), .int a1]) (n := 7) (Nat.le_of_ble_eq_true rfl)
  rw [lg_entry_eq]
  generalize (lg_sl ([.ref (ad 4 0), .int a1]) ++ List.replicate (7 - (lg_sl ([.ref (ad 4 0), .int a1])).length) Slot.unset).toArray = ls at hl ⊢
  have hl : lv_has ls 7 [(0, .ref (ad 4 0)), (1, .int a1)] := hl
  refine lv_sipush (pc := 0) (v := 1940) hx hb dM_spread_0 (by decide) ?_
  refine lv_bipush (pc := 3) (v := 80) hx hb dM_spread_3 (by decide) ?_
  refine lv_iload_n (pc := 5) hx hb dM_spread_5 rfl (lv_at hl 1 rfl) ?_
  refine lv_imul (pc := 6) hx hb dM_spread_6 ?_
  refine lv_iadd (pc := 7) hx hb dM_spread_7 ?_
  refine lv_istore_n (pc := 8) hx hb dM_spread_8 rfl hl (by decide) rfl (fun ls hl => ?_)
  have hl : lv_has ls 7 [(2, .int (1940 + (80 * a1))), (0, .ref (ad 4 0)), (1, .int a1)] := hl
  refine lv_iconst (pc := 9) (v := 0) hx hb dM_spread_9 (by decide) ?_
  refine lv_istore_n (pc := 10) hx hb dM_spread_10 rfl hl (by decide) rfl (fun ls hl => ?_)
  have hl : lv_has ls 7 [(3, .int 0), (2, .int (1940 + (80 * a1))), (0, .ref (ad 4 0)), (1, .int a1)] := hl
  refine lv_iconst (pc := 11) (v := 0) hx hb dM_spread_11 (by decide) ?_
  refine lv_istore (pc := 12) hx hb dM_spread_12 hl (by decide) rfl (fun ls hl => ?_)
  have hl : lv_has ls 7 [(4, .int 0), (3, .int 0), (2, .int (1940 + (80 * a1))), (0, .ref (ad 4 0)), (1, .int a1)] := hl
  obtain ⟨kx6, hkx6, hf⟩ := lt_9 hf
  refine lpF (τ := (hT) × (Int32) × (Int32) × (Int32) × (Int32) × (Heap) × (List Loc) × (Array Slot)) (fun pc z => W p l e _ s m _ below meth c z.2.2.2.2.2.1 z.2.2.2.2.2.2.1 0 0 _ (F0 m pc z.2.2.2.2.2.2.2 [])) 14 120 (fun z => va_P (dC, dI) kCl (w9 ad ca dom z.1) z.2.2.2.2.2.1 ∧ va_D A (w9 ad ca dom z.1) ∧ va_S A s.heap z.2.2.2.2.2.1 z.2.2.2.2.2.2.1 ∧ clo dom z.1.2.2 ∧ lv_has z.2.2.2.2.2.2.2 7 [(4, .int z.2.1), (3, .int z.2.2.1), (2, .int z.2.2.2.1), (0, .ref (ad 4 0)), (1, .int z.2.2.2.2.1)]) (fun k z => M_spread_L14 n kx6 k z.1 z.2.1 z.2.2.1 z.2.2.2.1 z.2.2.2.2.1) (fun z => kx6 z.1 z.2.1 z.2.2.1 z.2.2.2.1 z.2.2.2.2.1) _ (fun z => rfl) ?_ ?_ n (σ, 0, 0, (1940 + (80 * a1)), a1, H, _, ls) ⟨hP, hD, hS, hC, hl⟩ hf
  · rintro k ⟨σ1, p2, p3, p4, p5, H, locs, ls⟩ ⟨hP, hD, hS, hC, hl⟩ hf ih7 hXkx6
    dsimp only at hP hD hS hC hl hf ih7 hXkx6 ⊢
    unfold M_spread_L14 at hf
    have hl : lv_has ls 7 [(4, .int p2), (3, .int p3), (2, .int p4), (0, .ref (ad 4 0)), (1, .int p5)] := hl
    refine lv_iload (pc := 14) hx hb dM_spread_14 (lv_at hl 0 rfl) ?_
    refine lv_aload_n (pc := 16) hx hb dM_spread_16 rfl (lv_at hl 3 rfl) ?_
    obtain ⟨q8, hq8, eq8⟩ := at_4 (ad := ad) (ca := ca) (σ := σ1) hm0
    refine va_get (D := (dC, dI)) (cl := kCl) (C := RM) (T := TM) (N := 11) (pc := 17) hx hb hts inM hown hK.1 hP q8 eq8 rfl 2 (by decide) (hts _ wd_51) (fun _ h9 => h9) rfl dM_spread_17 ?_
    refine lv_iload_n (pc := 20) hx hb dM_spread_20 rfl (lv_at hl 2 rfl) ?_
    refine lv_iconst (pc := 21) (v := 3) hx hb dM_spread_21 (by decide) ?_
    refine lv_iadd (pc := 22) hx hb dM_spread_22 ?_
    obtain ⟨hv9, hf⟩ := ite_s hf
    obtain ⟨q10, hq10, eq10⟩ := at_15 (ad := ad) (ca := ca) (σ := σ1) (cm_4_2 hC hm0)
    refine va_iald (D := (dC, dI)) (cl := kCl) (pc := 23) hx hb (hK.2 15 0 .int (cm_4_2 hC hm0) rfl) hP q10 0 eq10 rfl (hv9) dM_spread_23 ?_
    refine W.eq (g2 := F0 m 24 ls [.int (xI σ1 15 0 ((p4 + 3)).toNatClampNeg), .int p2]) rfl ?_
    refine lv_icmp_ge (pc := 24) (tgt := 120) hx hb dM_spread_24 rfl (fun h11 => ?_) (fun h11 => ?_)
    · replace hf := ite_t h11 hf
      have hl := lv_sub hl (l' := [(4, .int p2), (3, .int p3), (2, .int p4), (0, .ref (ad 4 0)), (1, .int p5)]) [0, 1, 2, 3, 4] rfl
      exact hXkx6 (σ1, p2, p3, p4, p5, H, _, ls) ⟨hP, hD, hS, hC, hl⟩ hf
    · replace hf := ite_f h11 hf
      refine lv_aload_n (pc := 27) hx hb dM_spread_27 rfl (lv_at hl 3 rfl) ?_
      refine lv_iload_n (pc := 28) hx hb dM_spread_28 rfl (lv_at hl 2 rfl) ?_
      refine lv_iload (pc := 29) hx hb dM_spread_29 (lv_at hl 0 rfl) ?_
      obtain ⟨q12, hq12, eq12⟩ := at_4 (ad := ad) (ca := ca) (σ := σ1) hm0
      obtain ⟨y13, hy13, hf⟩ := ob hf
      refine vp_callSi (pc := 31) (W.runV (As := [.int p4, .int p2]) (rest := []) ⟨hx, hb, hml, hown, hts⟩ (t_M_isReleased l dC dI ad ca dom n σ1 p4 p2 hm0 hN hC y13 hy13) (cwV 2 hts (gV wd_200 wd_201 wd_202 wd_50 wd_199) rfl rfl rfl (by decide +kernel) ⟨Nat.le_of_ble_eq_true rfl, Nat.le_of_ble_eq_true rfl⟩) ⟨hR_blind, va_recv (q := (RM, TM, 11)) (q0 := q12) (ci := 4) hK.1 hP rfl eq12, hR_pre hP hK hG⟩ rfl rfl hl.1 rfl (lv_room (Nat.le_of_ble_eq_true rfl)) dM_spread_31 ⟨Nat.le_of_ble_eq_true rfl, Nat.le_of_ble_eq_true rfl⟩) (fun r9 hr9 => ?_)
      refine W.eq (g2 := F0 m 34 ls [.int y13]) (by rw [hr9]) ?_
      refine lv_istore (pc := 34) hx hb dM_spread_34 hl (by decide) rfl (fun ls hl => ?_)
      have hl : lv_has ls 7 [(5, .int y13), (4, .int p2), (3, .int p3), (2, .int p4), (0, .ref (ad 4 0)), (1, .int p5)] := hl
      refine lv_aload_n (pc := 36) hx hb dM_spread_36 rfl (lv_at hl 4 rfl) ?_
      refine lv_aload_n (pc := 37) hx hb dM_spread_37 rfl (lv_at hl 4 rfl) ?_
      obtain ⟨q14, hq14, eq14⟩ := at_4 (ad := ad) (ca := ca) (σ := σ1) hm0
      refine va_get (D := (dC, dI)) (cl := kCl) (C := RM) (T := TM) (N := 11) (pc := 38) hx hb hts inM hown hK.1 hP q14 eq14 rfl 9 (by decide) (hts _ wd_211) (fun _ h9 => h9) rfl dM_spread_38 ?_
      obtain ⟨x15, hx15, hf⟩ := lt_9 hf
      refine jnF (τ := (Int32) × (Heap) × (List Loc) × (Array Slot)) (fun pc st z => W p l e _ s m _ below meth c z.2.1 z.2.2.1 0 0 _ (F0 m pc z.2.2.2 st)) (pc0 := 41) (st0 := [.int (xI σ1 509 0 0), .ref (ad 4 0)]) (z0 := (0, H, _, ls)) 54 (fun z => [.int z.1, .ref (ad 4 0)]) (fun z => va_P (dC, dI) kCl (w9 ad ca dom (σ1)) z.2.1 ∧ va_D A (w9 ad ca dom (σ1)) ∧ va_S A s.heap z.2.1 z.2.2.1 ∧ lv_has z.2.2.2 7 [(5, .int y13), (4, .int p2), (3, .int p3), (2, .int p4), (0, .ref (ad 4 0)), (1, .int p5)]) (fun z => x15 z.1) (ρ, σ') ?_ ?_
      · intro hJx15
        dsimp only at hJx15 ⊢
        refine lv_if_ne (pc := 41) (tgt := 49) hx hb dM_spread_41 rfl (fun h17 => ?_) (fun h17 => ?_)
        · replace hf := ite_f h17 hf
          refine lv_iconst (pc := 49) (v := 1) hx hb dM_spread_49 (by decide) ?_
          refine lv_goto (pc := 50) (tgt := 54) hx hb dM_spread_50 rfl ?_
          have hl := lv_sub hl (l' := [(5, .int y13), (4, .int p2), (3, .int p3), (2, .int p4), (0, .ref (ad 4 0)), (1, .int p5)]) [0, 1, 2, 3, 4, 5] rfl
          exact hJx15 (1, H, _, ls) ⟨hP, hD, hS, hl⟩ hf
        · replace hf := ite_t h17 hf
          refine lv_iload (pc := 44) hx hb dM_spread_44 (lv_at hl 0 rfl) ?_
          refine lv_if_ne (pc := 46) (tgt := 53) hx hb dM_spread_46 rfl (fun h18 => ?_) (fun h18 => ?_)
          · replace hf := ite_f h18 hf
            refine lv_iconst (pc := 53) (v := 0) hx hb dM_spread_53 (by decide) ?_
            have hl := lv_sub hl (l' := [(5, .int y13), (4, .int p2), (3, .int p3), (2, .int p4), (0, .ref (ad 4 0)), (1, .int p5)]) [0, 1, 2, 3, 4, 5] rfl
            exact hJx15 (0, H, _, ls) ⟨hP, hD, hS, hl⟩ hf
          · replace hf := ite_t h18 hf
            refine lv_iconst (pc := 49) (v := 1) hx hb dM_spread_49 (by decide) ?_
            refine lv_goto (pc := 50) (tgt := 54) hx hb dM_spread_50 rfl ?_
            have hl := lv_sub hl (l' := [(5, .int y13), (4, .int p2), (3, .int p3), (2, .int p4), (0, .ref (ad 4 0)), (1, .int p5)]) [0, 1, 2, 3, 4, 5] rfl
            exact hJx15 (1, H, _, ls) ⟨hP, hD, hS, hl⟩ hf
      · rintro ⟨s16, H, locs, ls⟩ ⟨hP, hD, hS, hl⟩ hf
        dsimp only at hP hD hS hl hf ⊢
        rw [hx15] at hf
        have hl : lv_has ls 7 [(5, .int y13), (4, .int p2), (3, .int p3), (2, .int p4), (0, .ref (ad 4 0)), (1, .int p5)] := hl
        obtain ⟨hz9, hf⟩ := ite_s hf
        obtain ⟨q20, hq20, eq20⟩ := at_4 (ad := ad) (ca := ca) (σ := σ1) hm0
        refine va_put (D := (dC, dI)) (cl := kCl) (ci := 4) (v := .int s16) (ty := .boolean) (C := RM) (T := TM) (N := 11) (pc := 54) hx hb hts inM tyM tyM_ok nmM hown hK.1 hP hD hS q20 eq20 rfl 9 (by decide) (hts _ wd_211) (fun _ h9 => h9) rfl (by decide +kernel) (nar01 hz9) (fit01 hz9) (Nat.le_of_ble_eq_true rfl) dM_spread_54 (fun H locs hP hD hS => ?_)
        obtain ⟨σ19, hσ19, hf⟩ := lt_9 hf
        obtain ⟨hP, hD⟩ := w9_rI 509 rfl hN hq20 hσ19 (pu_509) hP hD
        have hC : clo dom σ19.2.2 := by rw [hσ19]; exact hC
        refine lv_iload (pc := 57) hx hb dM_spread_57 (lv_at hl 0 rfl) ?_
        obtain ⟨x21, hx21, hf⟩ := lt_9 hf
        refine jnF (τ := (Int32) × (Heap) × (List Loc) × (Array Slot)) (fun pc st z => W p l e _ s m _ below meth c z.2.1 z.2.2.1 0 0 _ (F0 m pc z.2.2.2 st)) (pc0 := 59) (st0 := [.int y13]) (z0 := (0, H, _, ls)) 84 (fun z => [.int z.1]) (fun z => va_P (dC, dI) kCl (w9 ad ca dom (σ19)) z.2.1 ∧ va_D A (w9 ad ca dom (σ19)) ∧ va_S A s.heap z.2.1 z.2.2.1 ∧ lv_has z.2.2.2 7 [(5, .int y13), (4, .int p2), (3, .int p3), (2, .int p4), (0, .ref (ad 4 0)), (1, .int p5)]) (fun z => x21 z.1) (ρ, σ') ?_ ?_
        · intro hJx21
          dsimp only at hJx21 ⊢
          refine lv_if_eq (pc := 59) (tgt := 83) hx hb dM_spread_59 rfl (fun h23 => ?_) (fun h23 => ?_)
          · replace hf := ite_t h23 hf
            refine lv_iload_n (pc := 83) hx hb dM_spread_83 rfl (lv_at hl 5 rfl) ?_
            have hl := lv_sub hl (l' := [(5, .int y13), (4, .int p2), (3, .int p3), (2, .int p4), (0, .ref (ad 4 0)), (1, .int p5)]) [0, 1, 2, 3, 4, 5] rfl
            exact hJx21 (p5, H, _, ls) ⟨hP, hD, hS, hl⟩ hf
          · replace hf := ite_f h23 hf
            refine lv_bipush (pc := 62) (v := 12) hx hb dM_spread_62 (by decide) ?_
            refine lv_aload_n (pc := 64) hx hb dM_spread_64 rfl (lv_at hl 4 rfl) ?_
            refine lv_iload_n (pc := 65) hx hb dM_spread_65 rfl (lv_at hl 3 rfl) ?_
            refine lv_iload (pc := 66) hx hb dM_spread_66 (lv_at hl 1 rfl) ?_
            obtain ⟨q24, hq24, eq24⟩ := at_4 (ad := ad) (ca := ca) (σ := σ19) hm0
            obtain ⟨y25, hy25, hf⟩ := ob hf
            refine vp_callSi (pc := 68) (W.runV (As := [.int p4, .int p2]) (rest := [.int 12]) ⟨hx, hb, hml, hown, hts⟩ (t_M_refDrawing l dC dI ad ca dom σ19 p4 p2 hm0 hN hC y25 hy25) (cwV 2 hts (gV wd_77 wd_78 wd_79 wd_50 wd_76) rfl rfl rfl (by decide +kernel) ⟨Nat.le_of_ble_eq_true rfl, Nat.le_of_ble_eq_true rfl⟩) ⟨hR_blind, va_recv (q := (RM, TM, 11)) (q0 := q24) (ci := 4) hK.1 hP rfl eq24, hR_pre hP hK hG⟩ rfl rfl hl.1 rfl (lv_room (Nat.le_of_ble_eq_true rfl)) dM_spread_68 ⟨Nat.le_of_ble_eq_true rfl, Nat.le_of_ble_eq_true rfl⟩) (fun r9 hr9 => ?_)
            refine W.eq (g2 := F0 m 71 ls [.int y25, .int 12]) (by rw [hr9]) ?_
            refine lv_imul (pc := 71) hx hb dM_spread_71 ?_
            refine lv_aload_n (pc := 72) hx hb dM_spread_72 rfl (lv_at hl 4 rfl) ?_
            refine lv_iload_n (pc := 73) hx hb dM_spread_73 rfl (lv_at hl 3 rfl) ?_
            refine lv_iload (pc := 74) hx hb dM_spread_74 (lv_at hl 1 rfl) ?_
            obtain ⟨q26, hq26, eq26⟩ := at_4 (ad := ad) (ca := ca) (σ := σ19) hm0
            obtain ⟨y27, hy27, hf⟩ := ob hf
            refine vp_callSi (pc := 76) (W.runV (As := [.int p4, .int p2]) (rest := [.int (12 * y25)]) ⟨hx, hb, hml, hown, hts⟩ (t_M_resolved l dC dI ad ca dom n σ19 p4 p2 hm0 hN hC y27 hy27) (cwV 2 hts (gV wd_85 wd_86 wd_87 wd_50 wd_84) rfl rfl rfl (by decide +kernel) ⟨Nat.le_of_ble_eq_true rfl, Nat.le_of_ble_eq_true rfl⟩) ⟨hR_blind, va_recv (q := (RM, TM, 11)) (q0 := q26) (ci := 4) hK.1 hP rfl eq26, hR_pre hP hK hG⟩ rfl rfl hl.1 rfl (lv_room (Nat.le_of_ble_eq_true rfl)) dM_spread_76 ⟨Nat.le_of_ble_eq_true rfl, Nat.le_of_ble_eq_true rfl⟩) (fun r9 hr9 => ?_)
            refine W.eq (g2 := F0 m 79 ls [.int y27, .int (12 * y25)]) (by rw [hr9]) ?_
            refine lv_iadd (pc := 79) hx hb dM_spread_79 ?_
            refine lv_goto (pc := 80) (tgt := 84) hx hb dM_spread_80 rfl ?_
            have hl := lv_sub hl (l' := [(5, .int y13), (4, .int p2), (3, .int p3), (2, .int p4), (0, .ref (ad 4 0)), (1, .int p5)]) [0, 1, 2, 3, 4, 5] rfl
            exact hJx21 (((12 * y25) + y27), H, _, ls) ⟨hP, hD, hS, hl⟩ hf
        · rintro ⟨s22, H, locs, ls⟩ ⟨hP, hD, hS, hl⟩ hf
          dsimp only at hP hD hS hl hf ⊢
          rw [hx21] at hf
          have hl : lv_has ls 7 [(5, .int y13), (4, .int p2), (3, .int p3), (2, .int p4), (0, .ref (ad 4 0)), (1, .int p5)] := hl
          refine lv_istore (pc := 84) hx hb dM_spread_84 hl (by decide) rfl (fun ls hl => ?_)
          have hl : lv_has ls 7 [(6, .int s22), (5, .int y13), (4, .int p2), (3, .int p3), (2, .int p4), (0, .ref (ad 4 0)), (1, .int p5)] := hl
          refine lv_iload_n (pc := 86) hx hb dM_spread_86 rfl (lv_at hl 3 rfl) ?_
          obtain ⟨x28, hx28, hf⟩ := lt_9 hf
          refine jnF (τ := (Int32) × (Heap) × (List Loc) × (Array Slot)) (fun pc st z => W p l e _ s m _ below meth c z.2.1 z.2.2.1 0 0 _ (F0 m pc z.2.2.2 st)) (pc0 := 87) (st0 := [.int p3]) (z0 := (0, H, _, ls)) 105 (fun z => [.int z.1]) (fun z => va_P (dC, dI) kCl (w9 ad ca dom (σ19)) z.2.1 ∧ va_D A (w9 ad ca dom (σ19)) ∧ va_S A s.heap z.2.1 z.2.2.1 ∧ lv_has z.2.2.2 7 [(6, .int s22), (5, .int y13), (4, .int p2), (3, .int p3), (2, .int p4), (0, .ref (ad 4 0)), (1, .int p5)]) (fun z => x28 z.1) (ρ, σ') ?_ ?_
          · intro hJx28
            dsimp only at hJx28 ⊢
            refine lv_if_ne (pc := 87) (tgt := 100) hx hb dM_spread_87 rfl (fun h30 => ?_) (fun h30 => ?_)
            · replace hf := ite_f h30 hf
              refine lv_iconst (pc := 100) (v := 1) hx hb dM_spread_100 (by decide) ?_
              refine lv_goto (pc := 101) (tgt := 105) hx hb dM_spread_101 rfl ?_
              have hl := lv_sub hl (l' := [(6, .int s22), (5, .int y13), (4, .int p2), (3, .int p3), (2, .int p4), (0, .ref (ad 4 0)), (1, .int p5)]) [0, 1, 2, 3, 4, 5, 6] rfl
              exact hJx28 (1, H, _, ls) ⟨hP, hD, hS, hl⟩ hf
            · replace hf := ite_t h30 hf
              refine lv_aload_n (pc := 90) hx hb dM_spread_90 rfl (lv_at hl 5 rfl) ?_
              obtain ⟨q31, hq31, eq31⟩ := at_4 (ad := ad) (ca := ca) (σ := σ19) hm0
              refine va_get (D := (dC, dI)) (cl := kCl) (C := RM) (T := TM) (N := 11) (pc := 91) hx hb hts inM hown hK.1 hP q31 eq31 rfl 10 (by decide) (hts _ wd_212) (fun _ h9 => h9) rfl dM_spread_91 ?_
              refine lv_iload (pc := 94) hx hb dM_spread_94 (lv_at hl 0 rfl) ?_
              obtain ⟨hv32, hf⟩ := ite_s hf
              obtain ⟨q33, hq33, eq33⟩ := at_19 (ad := ad) (ca := ca) (σ := σ19) (cm_4_10 hC hm0)
              refine va_zald (D := (dC, dI)) (cl := kCl) (pc := 96) hx hb (hK.2 19 0 .boolean (cm_4_10 hC hm0) rfl) hP q33 0 eq33 rfl (hv32) dM_spread_96 ?_
              refine W.eq (g2 := F0 m 97 ls [.int (xI σ19 19 0 (s22).toNatClampNeg)]) rfl ?_
              refine lv_if_ne (pc := 97) (tgt := 104) hx hb dM_spread_97 rfl (fun h34 => ?_) (fun h34 => ?_)
              · replace hf := ite_f h34 hf
                refine lv_iconst (pc := 104) (v := 0) hx hb dM_spread_104 (by decide) ?_
                have hl := lv_sub hl (l' := [(6, .int s22), (5, .int y13), (4, .int p2), (3, .int p3), (2, .int p4), (0, .ref (ad 4 0)), (1, .int p5)]) [0, 1, 2, 3, 4, 5, 6] rfl
                exact hJx28 (0, H, _, ls) ⟨hP, hD, hS, hl⟩ hf
              · replace hf := ite_t h34 hf
                refine lv_iconst (pc := 100) (v := 1) hx hb dM_spread_100 (by decide) ?_
                refine lv_goto (pc := 101) (tgt := 105) hx hb dM_spread_101 rfl ?_
                have hl := lv_sub hl (l' := [(6, .int s22), (5, .int y13), (4, .int p2), (3, .int p3), (2, .int p4), (0, .ref (ad 4 0)), (1, .int p5)]) [0, 1, 2, 3, 4, 5, 6] rfl
                exact hJx28 (1, H, _, ls) ⟨hP, hD, hS, hl⟩ hf
          · rintro ⟨s29, H, locs, ls⟩ ⟨hP, hD, hS, hl⟩ hf
            dsimp only at hP hD hS hl hf ⊢
            rw [hx28] at hf
            have hl : lv_has ls 7 [(6, .int s22), (5, .int y13), (4, .int p2), (3, .int p3), (2, .int p4), (0, .ref (ad 4 0)), (1, .int p5)] := hl
            refine lv_istore_n (pc := 105) hx hb dM_spread_105 rfl hl (by decide) rfl (fun ls hl => ?_)
            have hl : lv_has ls 7 [(3, .int s29), (6, .int s22), (5, .int y13), (4, .int p2), (2, .int p4), (0, .ref (ad 4 0)), (1, .int p5)] := hl
            refine lv_aload_n (pc := 106) hx hb dM_spread_106 rfl (lv_at hl 5 rfl) ?_
            obtain ⟨q35, hq35, eq35⟩ := at_4 (ad := ad) (ca := ca) (σ := σ19) hm0
            refine va_get (D := (dC, dI)) (cl := kCl) (C := RM) (T := TM) (N := 11) (pc := 107) hx hb hts inM hown hK.1 hP q35 eq35 rfl 10 (by decide) (hts _ wd_212) (fun _ h9 => h9) rfl dM_spread_107 ?_
            refine lv_iload (pc := 110) hx hb dM_spread_110 (lv_at hl 1 rfl) ?_
            refine lv_iconst (pc := 112) (v := 1) hx hb dM_spread_112 (by decide) ?_
            obtain ⟨hv37, hf⟩ := ite_s hf
            obtain ⟨q38, hq38, eq38⟩ := at_19 (ad := ad) (ca := ca) (σ := σ19) (cm_4_10 hC hm0)
            refine va_zast (D := (dC, dI)) (cl := kCl) (pc := 113) hx hb (hK.2 19 0 .boolean (cm_4_10 hC hm0) rfl) hP hD hS q38 0 eq38 rfl (hv37) dM_spread_113 (fun H locs hP hD hS => ?_)
            rw [narZ] at hP hD
            obtain ⟨σ36, hσ36, hf⟩ := lt_9 hf
            obtain ⟨hP, hD⟩ := w9_rI 19 rfl hN hq38 hσ36 (pr_19) hP hD
            have hC : clo dom σ36.2.2 := by rw [hσ36]; exact hC
            refine lv_iinc (pc := 114) (v := (p2 + 1)) hx hb dM_spread_114 hl (k := 3) rfl (by rfl) (by decide) rfl (fun ls hl => ?_)
            have hl : lv_has ls 7 [(4, .int (p2 + 1)), (3, .int s29), (6, .int s22), (5, .int y13), (2, .int p4), (0, .ref (ad 4 0)), (1, .int p5)] := hl
            refine lv_goto (pc := 117) (tgt := 14) hx hb dM_spread_117 rfl ?_
            have hl := lv_sub hl (l' := [(4, .int (p2 + 1)), (3, .int s29), (2, .int p4), (0, .ref (ad 4 0)), (1, .int p5)]) [0, 1, 4, 5, 6] rfl
            exact ih7 (σ36, (p2 + 1), s29, p4, p5, H, _, ls) ⟨hP, hD, hS, hC, hl⟩ hf
  · rintro ⟨σ1, p2, p3, p4, p5, H, locs, ls⟩ ⟨hP, hD, hS, hC, hl⟩ hf
    dsimp only at hP hD hS hC hl hf ⊢
    rw [hkx6] at hf
    have hl : lv_has ls 7 [(4, .int p2), (3, .int p3), (2, .int p4), (0, .ref (ad 4 0)), (1, .int p5)] := hl
    refine lv_iload_n (pc := 120) hx hb dM_spread_120 rfl (lv_at hl 1 rfl) ?_
    obtain ⟨hz9, hf⟩ := ite_s hf
    obtain ⟨h8, h9⟩ := Prod.mk.inj (Option.some.inj hf)
    subst h9
    exact W.zret (pc := 121) hx hb hr (nar01 hz9) (fun t ht hW => ⟨⟨_, (), rfl, h8, by rw [ht]; exact hP, hD, hC⟩, hS.F ht⟩) hS.2.2 dM_spread_121
def M_reach_L79 (n : Nat) (kx41 : hT → Int32 → Int32 → Int32 → Option (Unit × hT)) : Nat → hT → Int32 → Int32 → Int32 → Option (Unit × hT)
  | 0, _, _, _, _ => none
  | k + 1, σ37, p38, p39, p40 => if 288 ≤ p38 then kx41 (σ37) p38 p39 p40 else if in9 p38 288 then if (xI σ37 19 0 (p38).toNatClampNeg) = 0 then if p39 = 0 then M_reach_L79 n kx41 k (σ37) (p38 + 1) 0 p40 else M_reach_L79 n kx41 k (σ37) (p38 + 1) 1 p40 else Option.bind (M_spread n σ37 p38) fun ⟨y50, σ51⟩ => if y50 = 0 then if p39 = 0 then M_reach_L79 n kx41 k (σ51) (p38 + 1) 0 p40 else M_reach_L79 n kx41 k (σ51) (p38 + 1) 1 p40 else M_reach_L79 n kx41 k (σ51) (p38 + 1) 1 p40 else none
def M_reach_L124 (n : Nat) (kx58 : hT → Int32 → Int32 → Int32 → Option (Unit × hT)) : Nat → hT → Int32 → Int32 → Int32 → Option (Unit × hT)
  | 0, _, _, _, _ => none
  | k + 1, σ54, p55, p56, p57 => if 288 ≤ p55 then kx58 (σ54) p55 p56 p57 else if in9 p55 288 then if (xI σ54 19 0 (p55).toNatClampNeg) = 0 then M_reach_L124 n kx58 k (σ54) (p55 + 1) p56 p57 else lt9 (α := Int32 → Option (Unit × hT)) (fun (s67 : Int32) => if s67 = 0 ∨ s67 = 1 then lt9 (sI σ54 508 0 0 s67) fun σ73 => if in9 (p55 / 12) 24 then lt9 (sI σ73 18 0 ((p55 / 12)).toNatClampNeg (p55 - p55 / 12 * 12)) fun σ76 => M_reach_L124 n kx58 k (σ76) (p55 + 1) p56 p57 else none else none) fun x66 => if (xI σ54 508 0 0) = 0 then if in9 (p55 / 12) 24 then if (xI σ54 18 0 ((p55 / 12)).toNatClampNeg) < 0 then x66 0 else x66 1 else none else x66 1 else none
def M_reach_L71 (n : Nat) (kx34 : hT → Int32 → Int32 → Option (Unit × hT)) : Nat → hT → Int32 → Int32 → Option (Unit × hT)
  | 0, _, _, _ => none
  | k + 1, σ31, p32, p33 => if p32 = 0 then kx34 (σ31) p32 p33 else lt9 (α := hT → Int32 → Int32 → Int32 → Option (Unit × hT)) (fun (σ37 : hT) (p38 : Int32) (p39 : Int32) (p40 : Int32) => M_reach_L71 n kx34 k (σ37) p39 p40) fun kx41 => M_reach_L79 n kx41 n (σ31) 0 0 p33
def M_reach_L33 (n : Nat) (kx18 : hT → Int32 → Int32 → Option (Unit × hT)) : Nat → hT → Int32 → Int32 → Option (Unit × hT)
  | 0, _, _, _ => none
  | k + 1, σ15, p16, p17 => if 288 ≤ p16 then kx18 (σ15) p16 p17 else if in9 p16 288 then lt9 (sI σ15 19 0 (p16).toNatClampNeg (nrZ 0)) fun σ22 => M_reach_L33 n kx18 k (σ22) (p16 + 1) p17 else none
def M_reach_L2 (n : Nat) (kx4 : hT → Int32 → Int32 → Option (Unit × hT)) : Nat → hT → Int32 → Int32 → Option (Unit × hT)
  | 0, _, _, _ => none
  | k + 1, σ1, p2, p3 => if 24 ≤ p2 then kx4 (σ1) p2 p3 else if in9 p2 24 then lt9 (sI σ1 18 0 (p2).toNatClampNeg (-1)) fun σ8 => M_reach_L2 n kx4 k (σ8) (p2 + 1) p3 else none
def M_reach (n : Nat) (σ : hT) (a1 : Int32) : Option (Unit × hT) := lt9 (α := hT → Int32 → Int32 → Option (Unit × hT)) (fun (σ1 : hT) (p2 : Int32) (p3 : Int32) => lt9 (sI σ1 508 0 0 0) fun σ11 => lt9 (sI σ11 509 0 0 0) fun σ13 => lt9 (α := hT → Int32 → Int32 → Option (Unit × hT)) (fun (σ15 : hT) (p16 : Int32) (p17 : Int32) => Option.bind (M_released n σ15 p17) fun y27 => if in9 ((12 * p17) + y27) 288 then lt9 (sI σ15 19 0 (((12 * p17) + y27)).toNatClampNeg (nrZ 1)) fun σ28 => lt9 (α := hT → Int32 → Int32 → Option (Unit × hT)) (fun (σ31 : hT) (p32 : Int32) (p33 : Int32) => lt9 (α := hT → Int32 → Int32 → Int32 → Option (Unit × hT)) (fun (σ54 : hT) (p55 : Int32) (p56 : Int32) (p57 : Int32) => some ((), σ54)) fun kx58 => M_reach_L124 n kx58 n (σ31) 0 p32 p33) fun kx34 => M_reach_L71 n kx34 n (σ28) 1 p17 else none) fun kx18 => M_reach_L33 n kx18 n (σ13) 0 p3) fun kx4 => M_reach_L2 n kx4 n (σ) 0 a1
set_option maxHeartbeats 4000000 in
set_option maxRecDepth 100000 in
theorem t_M_reach (l : Launch) (dC : Nat → ClassId) (dI : Nat → Nat → Nat) (ad : Nat → Nat → Nat) (ca : Nat → Nat → ClassId) (dom : List (Nat × Nat)) (sz : Nat) (n : Nat) (σ : hT) (a1 : Int32) (hm0 : (4, 0) ∈ dom) (hN : dom.Nodup) (hC : clo dom σ.2.2) (ρ : Unit) (σ' : hT) (hf : M_reach n σ a1 = some (ρ, σ')) : Met l yM_reach (.code yM_reach cM_reach 4 none :: aw) ({ frames := 6, cells := 0, slots := 0, locals := 139 }) (hW (dC, dI) sz ad ca dom σ [.ref (ad 4 0), .int a1]) (va_Qv (fun (_ : Unit) => True) (fun _ t => hB (dC, dI) (va_A (w9 ad ca dom σ) sz) ad ca dom σ' t) (va_A (w9 ad ca dom σ) sz)) 0 0 (va_A (w9 ad ca dom σ) sz) := by
  refine Met.ofW (cc := cM_reach) (maxL := 4) (ret := none) (by decide) rfl ?_
  intro p e s m args below meth c s₁ B hml hv
  obtain ⟨rfl, hv⟩ := hv
  have hx := B.exec
  have hb := B.bytes
  have hr := B.returns
  have hts : ∀ w ∈ aw, w.before _ s = true := fun w h => atoms_spec (ws := (.code yM_reach cM_reach 4 none :: aw)) B.pre w (List.mem_cons_of_mem _ h)
  have hown : s.vm.findClass RM = some m.cls := findClass_of_methodNamed B.named
  have hlocks := B.notSynchronized
  obtain ⟨hsz, hP, hK, hD0, hG⟩ := hv
  subst hsz
  have hD := hD0.self (sz := s.heap.size)
  generalize hAe : va_A (w9 ad ca dom σ) s.heap.size = A at hD ⊢
  have hA : ∀ q : Nat, s.heap.size ≤ q → A q := fun q h => by rw [← hAe]; exact Or.inr h
  obtain ⟨H, hH⟩ : ∃ H, H = s.heap := ⟨_, rfl⟩
  have hS : va_S A s.heap H [] := by rw [hH]; exact va_S.rf
  rw [← hH] at hP ⊢
  unfold M_reach at hf
  have hl := lv_entry ([.ref (ad 4 0), .int a1]) (n := 4) (Nat.le_of_ble_eq_true rfl)
  rw [lg_entry_eq]
  generalize (lg_sl ([.ref (ad 4 0), .int a1]) ++ List.replicate (4 - (lg_sl ([.ref (ad 4 0), .int a1])).length) Slot.unset).toArray = ls at hl ⊢
  have hl : lv_has ls 4 [(0, .ref (ad 4 0)), (1, .int a1)] := hl
  refine lv_iconst (pc := 0) (v := 0) hx hb dM_reach_0 (by decide) ?_
  refine lv_istore_n (pc := 1) hx hb dM_reach_1 rfl hl (by decide) rfl (fun ls hl => ?_)
  have hl : lv_has ls 4 [(2, .int 0), (0, .ref (ad 4 0)), (1, .int a1)] := hl
  obtain ⟨kx4, hkx4, hf⟩ := lt_9 hf
  refine lpF (τ := (hT) × (Int32) × (Int32) × (Heap) × (List Loc) × (Array Slot)) (fun pc z => W p l e _ s m _ below meth c z.2.2.2.1 z.2.2.2.2.1 0 0 _ (F0 m pc z.2.2.2.2.2 [])) 2 21 (fun z => va_P (dC, dI) kCl (w9 ad ca dom z.1) z.2.2.2.1 ∧ va_D A (w9 ad ca dom z.1) ∧ va_S A s.heap z.2.2.2.1 z.2.2.2.2.1 ∧ clo dom z.1.2.2 ∧ lv_has z.2.2.2.2.2 4 [(2, .int z.2.1), (0, .ref (ad 4 0)), (1, .int z.2.2.1)]) (fun k z => M_reach_L2 n kx4 k z.1 z.2.1 z.2.2.1) (fun z => kx4 z.1 z.2.1 z.2.2.1) _ (fun z => rfl) ?_ ?_ n (σ, 0, a1, H, _, ls) ⟨hP, hD, hS, hC, hl⟩ hf
  · rintro k ⟨σ1, p2, p3, H, locs, ls⟩ ⟨hP, hD, hS, hC, hl⟩ hf ih5 hXkx4
    dsimp only at hP hD hS hC hl hf ih5 hXkx4 ⊢
    unfold M_reach_L2 at hf
    have hl : lv_has ls 4 [(2, .int p2), (0, .ref (ad 4 0)), (1, .int p3)] := hl
    refine lv_iload_n (pc := 2) hx hb dM_reach_2 rfl (lv_at hl 0 rfl) ?_
    refine lv_bipush (pc := 3) (v := 24) hx hb dM_reach_3 (by decide) ?_
    refine lv_icmp_ge (pc := 5) (tgt := 21) hx hb dM_reach_5 rfl (fun h6 => ?_) (fun h6 => ?_)
    · replace hf := ite_t h6 hf
      have hl := lv_sub hl (l' := [(2, .int p2), (0, .ref (ad 4 0)), (1, .int p3)]) [0, 1, 2] rfl
      exact hXkx4 (σ1, p2, p3, H, _, ls) ⟨hP, hD, hS, hC, hl⟩ hf
    · replace hf := ite_f h6 hf
      refine lv_aload_n (pc := 8) hx hb dM_reach_8 rfl (lv_at hl 1 rfl) ?_
      obtain ⟨q7, hq7, eq7⟩ := at_4 (ad := ad) (ca := ca) (σ := σ1) hm0
      refine va_get (D := (dC, dI)) (cl := kCl) (C := RM) (T := TM) (N := 11) (pc := 9) hx hb hts inM hown hK.1 hP q7 eq7 rfl 7 (by decide) (hts _ wd_213) (fun _ h9 => h9) rfl dM_reach_9 ?_
      refine lv_iload_n (pc := 12) hx hb dM_reach_12 rfl (lv_at hl 0 rfl) ?_
      refine lv_iconst (pc := 13) (v := (-1)) hx hb dM_reach_13 (by decide) ?_
      obtain ⟨hv9, hf⟩ := ite_s hf
      obtain ⟨q10, hq10, eq10⟩ := at_18 (ad := ad) (ca := ca) (σ := σ1) (cm_4_7 hC hm0)
      refine va_iast (D := (dC, dI)) (cl := kCl) (pc := 14) hx hb (hK.2 18 0 .int (cm_4_7 hC hm0) rfl) hP hD hS q10 0 eq10 rfl (hv9) dM_reach_14 (fun H locs hP hD hS => ?_)
      obtain ⟨σ8, hσ8, hf⟩ := lt_9 hf
      obtain ⟨hP, hD⟩ := w9_rI 18 rfl hN hq10 hσ8 (pr_18) hP hD
      have hC : clo dom σ8.2.2 := by rw [hσ8]; exact hC
      refine lv_iinc (pc := 15) (v := (p2 + 1)) hx hb dM_reach_15 hl (k := 0) rfl (by rfl) (by decide) rfl (fun ls hl => ?_)
      have hl : lv_has ls 4 [(2, .int (p2 + 1)), (0, .ref (ad 4 0)), (1, .int p3)] := hl
      refine lv_goto (pc := 18) (tgt := 2) hx hb dM_reach_18 rfl ?_
      have hl := lv_sub hl (l' := [(2, .int (p2 + 1)), (0, .ref (ad 4 0)), (1, .int p3)]) [0, 1, 2] rfl
      exact ih5 (σ8, (p2 + 1), p3, H, _, ls) ⟨hP, hD, hS, hC, hl⟩ hf
  · rintro ⟨σ1, p2, p3, H, locs, ls⟩ ⟨hP, hD, hS, hC, hl⟩ hf
    dsimp only at hP hD hS hC hl hf ⊢
    rw [hkx4] at hf
    have hl : lv_has ls 4 [(2, .int p2), (0, .ref (ad 4 0)), (1, .int p3)] := hl
    refine lv_aload_n (pc := 21) hx hb dM_reach_21 rfl (lv_at hl 1 rfl) ?_
    refine lv_iconst (pc := 22) (v := 0) hx hb dM_reach_22 (by decide) ?_
    obtain ⟨q12, hq12, eq12⟩ := at_4 (ad := ad) (ca := ca) (σ := σ1) hm0
    refine va_put (D := (dC, dI)) (cl := kCl) (ci := 4) (v := .int 0) (ty := .boolean) (C := RM) (T := TM) (N := 11) (pc := 23) hx hb hts inM tyM tyM_ok nmM hown hK.1 hP hD hS q12 eq12 rfl 8 (by decide) (hts _ wd_214) (fun _ h9 => h9) rfl (by decide +kernel) (rfl) (rfl) (Nat.le_of_ble_eq_true rfl) dM_reach_23 (fun H locs hP hD hS => ?_)
    obtain ⟨σ11, hσ11, hf⟩ := lt_9 hf
    obtain ⟨hP, hD⟩ := w9_rI 508 rfl hN hq12 hσ11 (pu_508) hP hD
    have hC : clo dom σ11.2.2 := by rw [hσ11]; exact hC
    refine lv_aload_n (pc := 26) hx hb dM_reach_26 rfl (lv_at hl 1 rfl) ?_
    refine lv_iconst (pc := 27) (v := 0) hx hb dM_reach_27 (by decide) ?_
    obtain ⟨q14, hq14, eq14⟩ := at_4 (ad := ad) (ca := ca) (σ := σ11) hm0
    refine va_put (D := (dC, dI)) (cl := kCl) (ci := 4) (v := .int 0) (ty := .boolean) (C := RM) (T := TM) (N := 11) (pc := 28) hx hb hts inM tyM tyM_ok nmM hown hK.1 hP hD hS q14 eq14 rfl 9 (by decide) (hts _ wd_211) (fun _ h9 => h9) rfl (by decide +kernel) (rfl) (rfl) (Nat.le_of_ble_eq_true rfl) dM_reach_28 (fun H locs hP hD hS => ?_)
    obtain ⟨σ13, hσ13, hf⟩ := lt_9 hf
    obtain ⟨hP, hD⟩ := w9_rI 509 rfl hN hq14 hσ13 (pu_509) hP hD
    have hC : clo dom σ13.2.2 := by rw [hσ13]; exact hC
    refine lv_iconst (pc := 31) (v := 0) hx hb dM_reach_31 (by decide) ?_
    refine lv_istore_n (pc := 32) hx hb dM_reach_32 rfl hl (by decide) rfl (fun ls hl => ?_)
    have hl : lv_has ls 4 [(2, .int 0), (0, .ref (ad 4 0)), (1, .int p3)] := hl
    obtain ⟨kx18, hkx18, hf⟩ := lt_9 hf
    refine lpF (τ := (hT) × (Int32) × (Int32) × (Heap) × (List Loc) × (Array Slot)) (fun pc z => W p l e _ s m _ below meth c z.2.2.2.1 z.2.2.2.2.1 0 0 _ (F0 m pc z.2.2.2.2.2 [])) 33 53 (fun z => va_P (dC, dI) kCl (w9 ad ca dom z.1) z.2.2.2.1 ∧ va_D A (w9 ad ca dom z.1) ∧ va_S A s.heap z.2.2.2.1 z.2.2.2.2.1 ∧ clo dom z.1.2.2 ∧ lv_has z.2.2.2.2.2 4 [(2, .int z.2.1), (0, .ref (ad 4 0)), (1, .int z.2.2.1)]) (fun k z => M_reach_L33 n kx18 k z.1 z.2.1 z.2.2.1) (fun z => kx18 z.1 z.2.1 z.2.2.1) _ (fun z => rfl) ?_ ?_ n (σ13, 0, p3, H, _, ls) ⟨hP, hD, hS, hC, hl⟩ hf
    · rintro k ⟨σ15, p16, p17, H, locs, ls⟩ ⟨hP, hD, hS, hC, hl⟩ hf ih19 hXkx18
      dsimp only at hP hD hS hC hl hf ih19 hXkx18 ⊢
      unfold M_reach_L33 at hf
      have hl : lv_has ls 4 [(2, .int p16), (0, .ref (ad 4 0)), (1, .int p17)] := hl
      refine lv_iload_n (pc := 33) hx hb dM_reach_33 rfl (lv_at hl 0 rfl) ?_
      refine lv_sipush (pc := 34) (v := 288) hx hb dM_reach_34 (by decide) ?_
      refine lv_icmp_ge (pc := 37) (tgt := 53) hx hb dM_reach_37 rfl (fun h20 => ?_) (fun h20 => ?_)
      · replace hf := ite_t h20 hf
        have hl := lv_sub hl (l' := [(2, .int p16), (0, .ref (ad 4 0)), (1, .int p17)]) [0, 1, 2] rfl
        exact hXkx18 (σ15, p16, p17, H, _, ls) ⟨hP, hD, hS, hC, hl⟩ hf
      · replace hf := ite_f h20 hf
        refine lv_aload_n (pc := 40) hx hb dM_reach_40 rfl (lv_at hl 1 rfl) ?_
        obtain ⟨q21, hq21, eq21⟩ := at_4 (ad := ad) (ca := ca) (σ := σ15) hm0
        refine va_get (D := (dC, dI)) (cl := kCl) (C := RM) (T := TM) (N := 11) (pc := 41) hx hb hts inM hown hK.1 hP q21 eq21 rfl 10 (by decide) (hts _ wd_212) (fun _ h9 => h9) rfl dM_reach_41 ?_
        refine lv_iload_n (pc := 44) hx hb dM_reach_44 rfl (lv_at hl 0 rfl) ?_
        refine lv_iconst (pc := 45) (v := 0) hx hb dM_reach_45 (by decide) ?_
        obtain ⟨hv23, hf⟩ := ite_s hf
        obtain ⟨q24, hq24, eq24⟩ := at_19 (ad := ad) (ca := ca) (σ := σ15) (cm_4_10 hC hm0)
        refine va_zast (D := (dC, dI)) (cl := kCl) (pc := 46) hx hb (hK.2 19 0 .boolean (cm_4_10 hC hm0) rfl) hP hD hS q24 0 eq24 rfl (hv23) dM_reach_46 (fun H locs hP hD hS => ?_)
        rw [narZ] at hP hD
        obtain ⟨σ22, hσ22, hf⟩ := lt_9 hf
        obtain ⟨hP, hD⟩ := w9_rI 19 rfl hN hq24 hσ22 (pr_19) hP hD
        have hC : clo dom σ22.2.2 := by rw [hσ22]; exact hC
        refine lv_iinc (pc := 47) (v := (p16 + 1)) hx hb dM_reach_47 hl (k := 0) rfl (by rfl) (by decide) rfl (fun ls hl => ?_)
        have hl : lv_has ls 4 [(2, .int (p16 + 1)), (0, .ref (ad 4 0)), (1, .int p17)] := hl
        refine lv_goto (pc := 50) (tgt := 33) hx hb dM_reach_50 rfl ?_
        have hl := lv_sub hl (l' := [(2, .int (p16 + 1)), (0, .ref (ad 4 0)), (1, .int p17)]) [0, 1, 2] rfl
        exact ih19 (σ22, (p16 + 1), p17, H, _, ls) ⟨hP, hD, hS, hC, hl⟩ hf
    · rintro ⟨σ15, p16, p17, H, locs, ls⟩ ⟨hP, hD, hS, hC, hl⟩ hf
      dsimp only at hP hD hS hC hl hf ⊢
      rw [hkx18] at hf
      have hl : lv_has ls 4 [(2, .int p16), (0, .ref (ad 4 0)), (1, .int p17)] := hl
      refine lv_aload_n (pc := 53) hx hb dM_reach_53 rfl (lv_at hl 1 rfl) ?_
      obtain ⟨q25, hq25, eq25⟩ := at_4 (ad := ad) (ca := ca) (σ := σ15) hm0
      refine va_get (D := (dC, dI)) (cl := kCl) (C := RM) (T := TM) (N := 11) (pc := 54) hx hb hts inM hown hK.1 hP q25 eq25 rfl 10 (by decide) (hts _ wd_212) (fun _ h9 => h9) rfl dM_reach_54 ?_
      refine lv_bipush (pc := 57) (v := 12) hx hb dM_reach_57 (by decide) ?_
      refine lv_iload_n (pc := 59) hx hb dM_reach_59 rfl (lv_at hl 2 rfl) ?_
      refine lv_imul (pc := 60) hx hb dM_reach_60 ?_
      refine lv_aload_n (pc := 61) hx hb dM_reach_61 rfl (lv_at hl 1 rfl) ?_
      refine lv_iload_n (pc := 62) hx hb dM_reach_62 rfl (lv_at hl 2 rfl) ?_
      obtain ⟨q26, hq26, eq26⟩ := at_4 (ad := ad) (ca := ca) (σ := σ15) hm0
      obtain ⟨y27, hy27, hf⟩ := ob hf
      refine vp_callSi (pc := 63) (W.runV (As := [.int p17]) (rest := [.int (12 * p17), .ref (ad 19 0)]) ⟨hx, hb, hml, hown, hts⟩ (t_M_released l dC dI ad ca dom n σ15 p17 hm0 hN hC y27 hy27) (cwV 1 hts (gV wd_81 wd_82 wd_83 wd_50 wd_80) rfl rfl rfl (by decide +kernel) ⟨Nat.le_of_ble_eq_true rfl, Nat.le_of_ble_eq_true rfl⟩) ⟨hR_blind, va_recv (q := (RM, TM, 11)) (q0 := q26) (ci := 4) hK.1 hP rfl eq26, hR_pre hP hK hG⟩ rfl rfl hl.1 rfl (lv_room (Nat.le_of_ble_eq_true rfl)) dM_reach_63 ⟨Nat.le_of_ble_eq_true rfl, Nat.le_of_ble_eq_true rfl⟩) (fun r9 hr9 => ?_)
      refine W.eq (g2 := F0 m 66 ls [.int y27, .int (12 * p17), .ref (ad 19 0)]) (by rw [hr9]) ?_
      refine lv_iadd (pc := 66) hx hb dM_reach_66 ?_
      refine lv_iconst (pc := 67) (v := 1) hx hb dM_reach_67 (by decide) ?_
      obtain ⟨hv29, hf⟩ := ite_s hf
      obtain ⟨q30, hq30, eq30⟩ := at_19 (ad := ad) (ca := ca) (σ := σ15) (cm_4_10 hC hm0)
      refine va_zast (D := (dC, dI)) (cl := kCl) (pc := 68) hx hb (hK.2 19 0 .boolean (cm_4_10 hC hm0) rfl) hP hD hS q30 0 eq30 rfl (hv29) dM_reach_68 (fun H locs hP hD hS => ?_)
      rw [narZ] at hP hD
      obtain ⟨σ28, hσ28, hf⟩ := lt_9 hf
      obtain ⟨hP, hD⟩ := w9_rI 19 rfl hN hq30 hσ28 (pr_19) hP hD
      have hC : clo dom σ28.2.2 := by rw [hσ28]; exact hC
      refine lv_iconst (pc := 69) (v := 1) hx hb dM_reach_69 (by decide) ?_
      refine lv_istore_n (pc := 70) hx hb dM_reach_70 rfl hl (by decide) rfl (fun ls hl => ?_)
      have hl : lv_has ls 4 [(2, .int 1), (0, .ref (ad 4 0)), (1, .int p17)] := hl
      obtain ⟨kx34, hkx34, hf⟩ := lt_9 hf
      refine lpF (τ := (hT) × (Int32) × (Int32) × (Heap) × (List Loc) × (Array Slot)) (fun pc z => W p l e _ s m _ below meth c z.2.2.2.1 z.2.2.2.2.1 0 0 _ (F0 m pc z.2.2.2.2.2 [])) 71 122 (fun z => va_P (dC, dI) kCl (w9 ad ca dom z.1) z.2.2.2.1 ∧ va_D A (w9 ad ca dom z.1) ∧ va_S A s.heap z.2.2.2.1 z.2.2.2.2.1 ∧ clo dom z.1.2.2 ∧ lv_has z.2.2.2.2.2 4 [(2, .int z.2.1), (0, .ref (ad 4 0)), (1, .int z.2.2.1)]) (fun k z => M_reach_L71 n kx34 k z.1 z.2.1 z.2.2.1) (fun z => kx34 z.1 z.2.1 z.2.2.1) _ (fun z => rfl) ?_ ?_ n (σ28, 1, p17, H, _, ls) ⟨hP, hD, hS, hC, hl⟩ hf
      · rintro k ⟨σ31, p32, p33, H, locs, ls⟩ ⟨hP, hD, hS, hC, hl⟩ hf ih35 hXkx34
        dsimp only at hP hD hS hC hl hf ih35 hXkx34 ⊢
        unfold M_reach_L71 at hf
        have hl : lv_has ls 4 [(2, .int p32), (0, .ref (ad 4 0)), (1, .int p33)] := hl
        refine lv_iload_n (pc := 71) hx hb dM_reach_71 rfl (lv_at hl 0 rfl) ?_
        refine lv_if_eq (pc := 72) (tgt := 122) hx hb dM_reach_72 rfl (fun h36 => ?_) (fun h36 => ?_)
        · replace hf := ite_t h36 hf
          have hl := lv_sub hl (l' := [(2, .int p32), (0, .ref (ad 4 0)), (1, .int p33)]) [0, 1, 2] rfl
          exact hXkx34 (σ31, p32, p33, H, _, ls) ⟨hP, hD, hS, hC, hl⟩ hf
        · replace hf := ite_f h36 hf
          refine lv_iconst (pc := 75) (v := 0) hx hb dM_reach_75 (by decide) ?_
          refine lv_istore_n (pc := 76) hx hb dM_reach_76 rfl hl (by decide) rfl (fun ls hl => ?_)
          have hl : lv_has ls 4 [(2, .int 0), (0, .ref (ad 4 0)), (1, .int p33)] := hl
          refine lv_iconst (pc := 77) (v := 0) hx hb dM_reach_77 (by decide) ?_
          refine lv_istore_n (pc := 78) hx hb dM_reach_78 rfl hl (by decide) rfl (fun ls hl => ?_)
          have hl : lv_has ls 4 [(3, .int 0), (2, .int 0), (0, .ref (ad 4 0)), (1, .int p33)] := hl
          obtain ⟨kx41, hkx41, hf⟩ := lt_9 hf
          refine lpF (τ := (hT) × (Int32) × (Int32) × (Int32) × (Heap) × (List Loc) × (Array Slot)) (fun pc z => W p l e _ s m _ below meth c z.2.2.2.2.1 z.2.2.2.2.2.1 0 0 _ (F0 m pc z.2.2.2.2.2.2 [])) 79 119 (fun z => va_P (dC, dI) kCl (w9 ad ca dom z.1) z.2.2.2.2.1 ∧ va_D A (w9 ad ca dom z.1) ∧ va_S A s.heap z.2.2.2.2.1 z.2.2.2.2.2.1 ∧ clo dom z.1.2.2 ∧ lv_has z.2.2.2.2.2.2 4 [(3, .int z.2.1), (2, .int z.2.2.1), (0, .ref (ad 4 0)), (1, .int z.2.2.2.1)]) (fun k z => M_reach_L79 n kx41 k z.1 z.2.1 z.2.2.1 z.2.2.2.1) (fun z => kx41 z.1 z.2.1 z.2.2.1 z.2.2.2.1) _ (fun z => rfl) ?_ ?_ n (σ31, 0, 0, p33, H, _, ls) ⟨hP, hD, hS, hC, hl⟩ hf
          · rintro k ⟨σ37, p38, p39, p40, H, locs, ls⟩ ⟨hP, hD, hS, hC, hl⟩ hf ih42 hXkx41
            dsimp only at hP hD hS hC hl hf ih42 hXkx41 ⊢
            unfold M_reach_L79 at hf
            have hl : lv_has ls 4 [(3, .int p38), (2, .int p39), (0, .ref (ad 4 0)), (1, .int p40)] := hl
            refine lv_iload_n (pc := 79) hx hb dM_reach_79 rfl (lv_at hl 0 rfl) ?_
            refine lv_sipush (pc := 80) (v := 288) hx hb dM_reach_80 (by decide) ?_
            refine lv_icmp_ge (pc := 83) (tgt := 119) hx hb dM_reach_83 rfl (fun h43 => ?_) (fun h43 => ?_)
            · replace hf := ite_t h43 hf
              have hl := lv_sub hl (l' := [(3, .int p38), (2, .int p39), (0, .ref (ad 4 0)), (1, .int p40)]) [0, 1, 2, 3] rfl
              exact hXkx41 (σ37, p38, p39, p40, H, _, ls) ⟨hP, hD, hS, hC, hl⟩ hf
            · replace hf := ite_f h43 hf
              refine lv_aload_n (pc := 86) hx hb dM_reach_86 rfl (lv_at hl 2 rfl) ?_
              obtain ⟨q44, hq44, eq44⟩ := at_4 (ad := ad) (ca := ca) (σ := σ37) hm0
              refine va_get (D := (dC, dI)) (cl := kCl) (C := RM) (T := TM) (N := 11) (pc := 87) hx hb hts inM hown hK.1 hP q44 eq44 rfl 10 (by decide) (hts _ wd_212) (fun _ h9 => h9) rfl dM_reach_87 ?_
              refine lv_iload_n (pc := 90) hx hb dM_reach_90 rfl (lv_at hl 0 rfl) ?_
              obtain ⟨hv45, hf⟩ := ite_s hf
              obtain ⟨q46, hq46, eq46⟩ := at_19 (ad := ad) (ca := ca) (σ := σ37) (cm_4_10 hC hm0)
              refine va_zald (D := (dC, dI)) (cl := kCl) (pc := 91) hx hb (hK.2 19 0 .boolean (cm_4_10 hC hm0) rfl) hP q46 0 eq46 rfl (hv45) dM_reach_91 ?_
              refine W.eq (g2 := F0 m 92 ls [.int (xI σ37 19 0 (p38).toNatClampNeg)]) rfl ?_
              refine lv_if_eq (pc := 92) (tgt := 103) hx hb dM_reach_92 rfl (fun h47 => ?_) (fun h47 => ?_)
              · replace hf := ite_t h47 hf
                refine lv_iload_n (pc := 103) hx hb dM_reach_103 rfl (lv_at hl 1 rfl) ?_
                refine lv_if_eq (pc := 104) (tgt := 111) hx hb dM_reach_104 rfl (fun h48 => ?_) (fun h48 => ?_)
                · replace hf := ite_t h48 hf
                  refine lv_iconst (pc := 111) (v := 0) hx hb dM_reach_111 (by decide) ?_
                  refine lv_istore_n (pc := 112) hx hb dM_reach_112 rfl hl (by decide) rfl (fun ls hl => ?_)
                  have hl : lv_has ls 4 [(2, .int 0), (3, .int p38), (0, .ref (ad 4 0)), (1, .int p40)] := hl
                  refine lv_iinc (pc := 113) (v := (p38 + 1)) hx hb dM_reach_113 hl (k := 1) rfl (by rfl) (by decide) rfl (fun ls hl => ?_)
                  have hl : lv_has ls 4 [(3, .int (p38 + 1)), (2, .int 0), (0, .ref (ad 4 0)), (1, .int p40)] := hl
                  refine lv_goto (pc := 116) (tgt := 79) hx hb dM_reach_116 rfl ?_
                  have hl := lv_sub hl (l' := [(3, .int (p38 + 1)), (2, .int 0), (0, .ref (ad 4 0)), (1, .int p40)]) [0, 1, 2, 3] rfl
                  exact ih42 (σ37, (p38 + 1), 0, p40, H, _, ls) ⟨hP, hD, hS, hC, hl⟩ hf
                · replace hf := ite_f h48 hf
                  refine lv_iconst (pc := 107) (v := 1) hx hb dM_reach_107 (by decide) ?_
                  refine lv_goto (pc := 108) (tgt := 112) hx hb dM_reach_108 rfl ?_
                  refine lv_istore_n (pc := 112) hx hb dM_reach_112 rfl hl (by decide) rfl (fun ls hl => ?_)
                  have hl : lv_has ls 4 [(2, .int 1), (3, .int p38), (0, .ref (ad 4 0)), (1, .int p40)] := hl
                  refine lv_iinc (pc := 113) (v := (p38 + 1)) hx hb dM_reach_113 hl (k := 1) rfl (by rfl) (by decide) rfl (fun ls hl => ?_)
                  have hl : lv_has ls 4 [(3, .int (p38 + 1)), (2, .int 1), (0, .ref (ad 4 0)), (1, .int p40)] := hl
                  refine lv_goto (pc := 116) (tgt := 79) hx hb dM_reach_116 rfl ?_
                  have hl := lv_sub hl (l' := [(3, .int (p38 + 1)), (2, .int 1), (0, .ref (ad 4 0)), (1, .int p40)]) [0, 1, 2, 3] rfl
                  exact ih42 (σ37, (p38 + 1), 1, p40, H, _, ls) ⟨hP, hD, hS, hC, hl⟩ hf
              · replace hf := ite_f h47 hf
                refine lv_aload_n (pc := 95) hx hb dM_reach_95 rfl (lv_at hl 2 rfl) ?_
                refine lv_iload_n (pc := 96) hx hb dM_reach_96 rfl (lv_at hl 0 rfl) ?_
                obtain ⟨q49, hq49, eq49⟩ := at_4 (ad := ad) (ca := ca) (σ := σ37) hm0
                obtain ⟨⟨y50, σ51⟩, hy50, hf⟩ := ob hf
                have hFc := w9_free hD hS hA
                refine va_calli (pc := 97) (va_runV (As := [.int p38]) (rest := []) ⟨hx, hb, hml, hown, hts⟩ (t_M_spread l dC dI ad ca dom H.size n σ37 p38 hm0 hN hC y50 σ51 hy50) (cwV 1 hts (gV wd_216 wd_217 wd_218 wd_50 wd_215) rfl rfl rfl (by decide +kernel) ⟨Nat.le_of_ble_eq_true rfl, Nat.le_of_ble_eq_true rfl⟩) ⟨hW_blind, va_recv (q := (RM, TM, 11)) (q0 := q49) (ci := 4) hK.1 hP rfl eq49, hW_pre hP hK hD hG⟩ rfl rfl hl.1 rfl (lv_room (Nat.le_of_ble_eq_true rfl)) dM_reach_97 ⟨Nat.le_of_ble_eq_true rfl, Nat.le_of_ble_eq_true rfl⟩) hS (fun q _ h => hFc q h) hFc (fun r9 u t H1 locs ht hvm hr9 hB hz1 hk1 hS => ?_)
                obtain ⟨hP, hD, hC⟩ := hB
                rw [ht] at hP
                replace hD := hD.weaken (fun _ _ _ h => hFc _ h)
                generalize H1 = H at hP hS ⊢
                refine W.eq (g2 := F0 m 100 ls [.int y50]) (by rw [hr9]) ?_
                refine lv_if_ne (pc := 100) (tgt := 107) hx hb dM_reach_100 rfl (fun h52 => ?_) (fun h52 => ?_)
                · replace hf := ite_f h52 hf
                  refine lv_iconst (pc := 107) (v := 1) hx hb dM_reach_107 (by decide) ?_
                  refine lv_goto (pc := 108) (tgt := 112) hx hb dM_reach_108 rfl ?_
                  refine lv_istore_n (pc := 112) hx hb dM_reach_112 rfl hl (by decide) rfl (fun ls hl => ?_)
                  have hl : lv_has ls 4 [(2, .int 1), (3, .int p38), (0, .ref (ad 4 0)), (1, .int p40)] := hl
                  refine lv_iinc (pc := 113) (v := (p38 + 1)) hx hb dM_reach_113 hl (k := 1) rfl (by rfl) (by decide) rfl (fun ls hl => ?_)
                  have hl : lv_has ls 4 [(3, .int (p38 + 1)), (2, .int 1), (0, .ref (ad 4 0)), (1, .int p40)] := hl
                  refine lv_goto (pc := 116) (tgt := 79) hx hb dM_reach_116 rfl ?_
                  have hl := lv_sub hl (l' := [(3, .int (p38 + 1)), (2, .int 1), (0, .ref (ad 4 0)), (1, .int p40)]) [0, 1, 2, 3] rfl
                  exact ih42 (σ51, (p38 + 1), 1, p40, H, _, ls) ⟨hP, hD, hS, hC, hl⟩ hf
                · replace hf := ite_t h52 hf
                  refine lv_iload_n (pc := 103) hx hb dM_reach_103 rfl (lv_at hl 1 rfl) ?_
                  refine lv_if_eq (pc := 104) (tgt := 111) hx hb dM_reach_104 rfl (fun h53 => ?_) (fun h53 => ?_)
                  · replace hf := ite_t h53 hf
                    refine lv_iconst (pc := 111) (v := 0) hx hb dM_reach_111 (by decide) ?_
                    refine lv_istore_n (pc := 112) hx hb dM_reach_112 rfl hl (by decide) rfl (fun ls hl => ?_)
                    have hl : lv_has ls 4 [(2, .int 0), (3, .int p38), (0, .ref (ad 4 0)), (1, .int p40)] := hl
                    refine lv_iinc (pc := 113) (v := (p38 + 1)) hx hb dM_reach_113 hl (k := 1) rfl (by rfl) (by decide) rfl (fun ls hl => ?_)
                    have hl : lv_has ls 4 [(3, .int (p38 + 1)), (2, .int 0), (0, .ref (ad 4 0)), (1, .int p40)] := hl
                    refine lv_goto (pc := 116) (tgt := 79) hx hb dM_reach_116 rfl ?_
                    have hl := lv_sub hl (l' := [(3, .int (p38 + 1)), (2, .int 0), (0, .ref (ad 4 0)), (1, .int p40)]) [0, 1, 2, 3] rfl
                    exact ih42 (σ51, (p38 + 1), 0, p40, H, _, ls) ⟨hP, hD, hS, hC, hl⟩ hf
                  · replace hf := ite_f h53 hf
                    refine lv_iconst (pc := 107) (v := 1) hx hb dM_reach_107 (by decide) ?_
                    refine lv_goto (pc := 108) (tgt := 112) hx hb dM_reach_108 rfl ?_
                    refine lv_istore_n (pc := 112) hx hb dM_reach_112 rfl hl (by decide) rfl (fun ls hl => ?_)
                    have hl : lv_has ls 4 [(2, .int 1), (3, .int p38), (0, .ref (ad 4 0)), (1, .int p40)] := hl
                    refine lv_iinc (pc := 113) (v := (p38 + 1)) hx hb dM_reach_113 hl (k := 1) rfl (by rfl) (by decide) rfl (fun ls hl => ?_)
                    have hl : lv_has ls 4 [(3, .int (p38 + 1)), (2, .int 1), (0, .ref (ad 4 0)), (1, .int p40)] := hl
                    refine lv_goto (pc := 116) (tgt := 79) hx hb dM_reach_116 rfl ?_
                    have hl := lv_sub hl (l' := [(3, .int (p38 + 1)), (2, .int 1), (0, .ref (ad 4 0)), (1, .int p40)]) [0, 1, 2, 3] rfl
                    exact ih42 (σ51, (p38 + 1), 1, p40, H, _, ls) ⟨hP, hD, hS, hC, hl⟩ hf
          · rintro ⟨σ37, p38, p39, p40, H, locs, ls⟩ ⟨hP, hD, hS, hC, hl⟩ hf
            dsimp only at hP hD hS hC hl hf ⊢
            rw [hkx41] at hf
            have hl : lv_has ls 4 [(3, .int p38), (2, .int p39), (0, .ref (ad 4 0)), (1, .int p40)] := hl
            refine lv_goto (pc := 119) (tgt := 71) hx hb dM_reach_119 rfl ?_
            have hl := lv_sub hl (l' := [(2, .int p39), (0, .ref (ad 4 0)), (1, .int p40)]) [1, 2, 3] rfl
            exact ih35 (σ37, p39, p40, H, _, ls) ⟨hP, hD, hS, hC, hl⟩ hf
      · rintro ⟨σ31, p32, p33, H, locs, ls⟩ ⟨hP, hD, hS, hC, hl⟩ hf
        dsimp only at hP hD hS hC hl hf ⊢
        rw [hkx34] at hf
        have hl : lv_has ls 4 [(2, .int p32), (0, .ref (ad 4 0)), (1, .int p33)] := hl
        refine lv_iconst (pc := 122) (v := 0) hx hb dM_reach_122 (by decide) ?_
        refine lv_istore_n (pc := 123) hx hb dM_reach_123 rfl hl (by decide) rfl (fun ls hl => ?_)
        have hl : lv_has ls 4 [(3, .int 0), (2, .int p32), (0, .ref (ad 4 0)), (1, .int p33)] := hl
        obtain ⟨kx58, hkx58, hf⟩ := lt_9 hf
        refine lpF (τ := (hT) × (Int32) × (Int32) × (Int32) × (Heap) × (List Loc) × (Array Slot)) (fun pc z => W p l e _ s m _ below meth c z.2.2.2.2.1 z.2.2.2.2.2.1 0 0 _ (F0 m pc z.2.2.2.2.2.2 [])) 124 187 (fun z => va_P (dC, dI) kCl (w9 ad ca dom z.1) z.2.2.2.2.1 ∧ va_D A (w9 ad ca dom z.1) ∧ va_S A s.heap z.2.2.2.2.1 z.2.2.2.2.2.1 ∧ clo dom z.1.2.2 ∧ lv_has z.2.2.2.2.2.2 4 [(3, .int z.2.1), (2, .int z.2.2.1), (0, .ref (ad 4 0)), (1, .int z.2.2.2.1)]) (fun k z => M_reach_L124 n kx58 k z.1 z.2.1 z.2.2.1 z.2.2.2.1) (fun z => kx58 z.1 z.2.1 z.2.2.1 z.2.2.2.1) _ (fun z => rfl) ?_ ?_ n (σ31, 0, p32, p33, H, _, ls) ⟨hP, hD, hS, hC, hl⟩ hf
        · rintro k ⟨σ54, p55, p56, p57, H, locs, ls⟩ ⟨hP, hD, hS, hC, hl⟩ hf ih59 hXkx58
          dsimp only at hP hD hS hC hl hf ih59 hXkx58 ⊢
          unfold M_reach_L124 at hf
          have hl : lv_has ls 4 [(3, .int p55), (2, .int p56), (0, .ref (ad 4 0)), (1, .int p57)] := hl
          refine lv_iload_n (pc := 124) hx hb dM_reach_124 rfl (lv_at hl 0 rfl) ?_
          refine lv_sipush (pc := 125) (v := 288) hx hb dM_reach_125 (by decide) ?_
          refine lv_icmp_ge (pc := 128) (tgt := 187) hx hb dM_reach_128 rfl (fun h60 => ?_) (fun h60 => ?_)
          · replace hf := ite_t h60 hf
            have hl := lv_sub hl (l' := [(3, .int p55), (2, .int p56), (0, .ref (ad 4 0)), (1, .int p57)]) [0, 1, 2, 3] rfl
            exact hXkx58 (σ54, p55, p56, p57, H, _, ls) ⟨hP, hD, hS, hC, hl⟩ hf
          · replace hf := ite_f h60 hf
            refine lv_aload_n (pc := 131) hx hb dM_reach_131 rfl (lv_at hl 2 rfl) ?_
            obtain ⟨q61, hq61, eq61⟩ := at_4 (ad := ad) (ca := ca) (σ := σ54) hm0
            refine va_get (D := (dC, dI)) (cl := kCl) (C := RM) (T := TM) (N := 11) (pc := 132) hx hb hts inM hown hK.1 hP q61 eq61 rfl 10 (by decide) (hts _ wd_212) (fun _ h9 => h9) rfl dM_reach_132 ?_
            refine lv_iload_n (pc := 135) hx hb dM_reach_135 rfl (lv_at hl 0 rfl) ?_
            obtain ⟨hv62, hf⟩ := ite_s hf
            obtain ⟨q63, hq63, eq63⟩ := at_19 (ad := ad) (ca := ca) (σ := σ54) (cm_4_10 hC hm0)
            refine va_zald (D := (dC, dI)) (cl := kCl) (pc := 136) hx hb (hK.2 19 0 .boolean (cm_4_10 hC hm0) rfl) hP q63 0 eq63 rfl (hv62) dM_reach_136 ?_
            refine W.eq (g2 := F0 m 137 ls [.int (xI σ54 19 0 (p55).toNatClampNeg)]) rfl ?_
            refine lv_if_eq (pc := 137) (tgt := 181) hx hb dM_reach_137 rfl (fun h64 => ?_) (fun h64 => ?_)
            · replace hf := ite_t h64 hf
              refine lv_iinc (pc := 181) (v := (p55 + 1)) hx hb dM_reach_181 hl (k := 0) rfl (by rfl) (by decide) rfl (fun ls hl => ?_)
              have hl : lv_has ls 4 [(3, .int (p55 + 1)), (2, .int p56), (0, .ref (ad 4 0)), (1, .int p57)] := hl
              refine lv_goto (pc := 184) (tgt := 124) hx hb dM_reach_184 rfl ?_
              have hl := lv_sub hl (l' := [(3, .int (p55 + 1)), (2, .int p56), (0, .ref (ad 4 0)), (1, .int p57)]) [0, 1, 2, 3] rfl
              exact ih59 (σ54, (p55 + 1), p56, p57, H, _, ls) ⟨hP, hD, hS, hC, hl⟩ hf
            · replace hf := ite_f h64 hf
              refine lv_aload_n (pc := 140) hx hb dM_reach_140 rfl (lv_at hl 2 rfl) ?_
              refine lv_aload_n (pc := 141) hx hb dM_reach_141 rfl (lv_at hl 2 rfl) ?_
              obtain ⟨q65, hq65, eq65⟩ := at_4 (ad := ad) (ca := ca) (σ := σ54) hm0
              refine va_get (D := (dC, dI)) (cl := kCl) (C := RM) (T := TM) (N := 11) (pc := 142) hx hb hts inM hown hK.1 hP q65 eq65 rfl 8 (by decide) (hts _ wd_214) (fun _ h9 => h9) rfl dM_reach_142 ?_
              obtain ⟨x66, hx66, hf⟩ := lt_9 hf
              refine jnF (τ := (Int32) × (Heap) × (List Loc) × (Array Slot)) (fun pc st z => W p l e _ s m _ below meth c z.2.1 z.2.2.1 0 0 _ (F0 m pc z.2.2.2 st)) (pc0 := 145) (st0 := [.int (xI σ54 508 0 0), .ref (ad 4 0)]) (z0 := (0, H, _, ls)) 165 (fun z => [.int z.1, .ref (ad 4 0)]) (fun z => va_P (dC, dI) kCl (w9 ad ca dom (σ54)) z.2.1 ∧ va_D A (w9 ad ca dom (σ54)) ∧ va_S A s.heap z.2.1 z.2.2.1 ∧ lv_has z.2.2.2 4 [(3, .int p55), (2, .int p56), (0, .ref (ad 4 0)), (1, .int p57)]) (fun z => x66 z.1) (ρ, σ') ?_ ?_
              · intro hJx66
                dsimp only at hJx66 ⊢
                refine lv_if_ne (pc := 145) (tgt := 160) hx hb dM_reach_145 rfl (fun h68 => ?_) (fun h68 => ?_)
                · replace hf := ite_f h68 hf
                  refine lv_iconst (pc := 160) (v := 1) hx hb dM_reach_160 (by decide) ?_
                  refine lv_goto (pc := 161) (tgt := 165) hx hb dM_reach_161 rfl ?_
                  have hl := lv_sub hl (l' := [(3, .int p55), (2, .int p56), (0, .ref (ad 4 0)), (1, .int p57)]) [0, 1, 2, 3] rfl
                  exact hJx66 (1, H, _, ls) ⟨hP, hD, hS, hl⟩ hf
                · replace hf := ite_t h68 hf
                  refine lv_aload_n (pc := 148) hx hb dM_reach_148 rfl (lv_at hl 2 rfl) ?_
                  obtain ⟨q69, hq69, eq69⟩ := at_4 (ad := ad) (ca := ca) (σ := σ54) hm0
                  refine va_get (D := (dC, dI)) (cl := kCl) (C := RM) (T := TM) (N := 11) (pc := 149) hx hb hts inM hown hK.1 hP q69 eq69 rfl 7 (by decide) (hts _ wd_213) (fun _ h9 => h9) rfl dM_reach_149 ?_
                  refine lv_iload_n (pc := 152) hx hb dM_reach_152 rfl (lv_at hl 0 rfl) ?_
                  refine lv_bipush (pc := 153) (v := 12) hx hb dM_reach_153 (by decide) ?_
                  refine lv_idiv (pc := 155) hx hb dM_reach_155 (by decide) ?_
                  obtain ⟨hv70, hf⟩ := ite_s hf
                  obtain ⟨q71, hq71, eq71⟩ := at_18 (ad := ad) (ca := ca) (σ := σ54) (cm_4_7 hC hm0)
                  refine va_iald (D := (dC, dI)) (cl := kCl) (pc := 156) hx hb (hK.2 18 0 .int (cm_4_7 hC hm0) rfl) hP q71 0 eq71 rfl (hv70) dM_reach_156 ?_
                  refine W.eq (g2 := F0 m 157 ls [.int (xI σ54 18 0 ((p55 / 12)).toNatClampNeg), .ref (ad 4 0)]) rfl ?_
                  refine lv_if_lt (pc := 157) (tgt := 164) hx hb dM_reach_157 rfl (fun h72 => ?_) (fun h72 => ?_)
                  · replace hf := ite_t h72 hf
                    refine lv_iconst (pc := 164) (v := 0) hx hb dM_reach_164 (by decide) ?_
                    have hl := lv_sub hl (l' := [(3, .int p55), (2, .int p56), (0, .ref (ad 4 0)), (1, .int p57)]) [0, 1, 2, 3] rfl
                    exact hJx66 (0, H, _, ls) ⟨hP, hD, hS, hl⟩ hf
                  · replace hf := ite_f h72 hf
                    refine lv_iconst (pc := 160) (v := 1) hx hb dM_reach_160 (by decide) ?_
                    refine lv_goto (pc := 161) (tgt := 165) hx hb dM_reach_161 rfl ?_
                    have hl := lv_sub hl (l' := [(3, .int p55), (2, .int p56), (0, .ref (ad 4 0)), (1, .int p57)]) [0, 1, 2, 3] rfl
                    exact hJx66 (1, H, _, ls) ⟨hP, hD, hS, hl⟩ hf
              · rintro ⟨s67, H, locs, ls⟩ ⟨hP, hD, hS, hl⟩ hf
                dsimp only at hP hD hS hl hf ⊢
                rw [hx66] at hf
                have hl : lv_has ls 4 [(3, .int p55), (2, .int p56), (0, .ref (ad 4 0)), (1, .int p57)] := hl
                obtain ⟨hz9, hf⟩ := ite_s hf
                obtain ⟨q74, hq74, eq74⟩ := at_4 (ad := ad) (ca := ca) (σ := σ54) hm0
                refine va_put (D := (dC, dI)) (cl := kCl) (ci := 4) (v := .int s67) (ty := .boolean) (C := RM) (T := TM) (N := 11) (pc := 165) hx hb hts inM tyM tyM_ok nmM hown hK.1 hP hD hS q74 eq74 rfl 8 (by decide) (hts _ wd_214) (fun _ h9 => h9) rfl (by decide +kernel) (nar01 hz9) (fit01 hz9) (Nat.le_of_ble_eq_true rfl) dM_reach_165 (fun H locs hP hD hS => ?_)
                obtain ⟨σ73, hσ73, hf⟩ := lt_9 hf
                obtain ⟨hP, hD⟩ := w9_rI 508 rfl hN hq74 hσ73 (pu_508) hP hD
                have hC : clo dom σ73.2.2 := by rw [hσ73]; exact hC
                refine lv_aload_n (pc := 168) hx hb dM_reach_168 rfl (lv_at hl 2 rfl) ?_
                obtain ⟨q75, hq75, eq75⟩ := at_4 (ad := ad) (ca := ca) (σ := σ73) hm0
                refine va_get (D := (dC, dI)) (cl := kCl) (C := RM) (T := TM) (N := 11) (pc := 169) hx hb hts inM hown hK.1 hP q75 eq75 rfl 7 (by decide) (hts _ wd_213) (fun _ h9 => h9) rfl dM_reach_169 ?_
                refine lv_iload_n (pc := 172) hx hb dM_reach_172 rfl (lv_at hl 0 rfl) ?_
                refine lv_bipush (pc := 173) (v := 12) hx hb dM_reach_173 (by decide) ?_
                refine lv_idiv (pc := 175) hx hb dM_reach_175 (by decide) ?_
                refine lv_iload_n (pc := 176) hx hb dM_reach_176 rfl (lv_at hl 0 rfl) ?_
                refine lv_bipush (pc := 177) (v := 12) hx hb dM_reach_177 (by decide) ?_
                refine lv_irem (pc := 179) hx hb dM_reach_179 (by decide) ?_
                obtain ⟨hv77, hf⟩ := ite_s hf
                obtain ⟨q78, hq78, eq78⟩ := at_18 (ad := ad) (ca := ca) (σ := σ73) (cm_4_7 hC hm0)
                refine va_iast (D := (dC, dI)) (cl := kCl) (pc := 180) hx hb (hK.2 18 0 .int (cm_4_7 hC hm0) rfl) hP hD hS q78 0 eq78 rfl (hv77) dM_reach_180 (fun H locs hP hD hS => ?_)
                obtain ⟨σ76, hσ76, hf⟩ := lt_9 hf
                obtain ⟨hP, hD⟩ := w9_rI 18 rfl hN hq78 hσ76 (pr_18) hP hD
                have hC : clo dom σ76.2.2 := by rw [hσ76]; exact hC
                refine lv_iinc (pc := 181) (v := (p55 + 1)) hx hb dM_reach_181 hl (k := 0) rfl (by rfl) (by decide) rfl (fun ls hl => ?_)
                have hl : lv_has ls 4 [(3, .int (p55 + 1)), (2, .int p56), (0, .ref (ad 4 0)), (1, .int p57)] := hl
                refine lv_goto (pc := 184) (tgt := 124) hx hb dM_reach_184 rfl ?_
                have hl := lv_sub hl (l' := [(3, .int (p55 + 1)), (2, .int p56), (0, .ref (ad 4 0)), (1, .int p57)]) [0, 1, 2, 3] rfl
                exact ih59 (σ76, (p55 + 1), p56, p57, H, _, ls) ⟨hP, hD, hS, hC, hl⟩ hf
        · rintro ⟨σ54, p55, p56, p57, H, locs, ls⟩ ⟨hP, hD, hS, hC, hl⟩ hf
          dsimp only at hP hD hS hC hl hf ⊢
          rw [hkx58] at hf
          have hl : lv_has ls 4 [(3, .int p55), (2, .int p56), (0, .ref (ad 4 0)), (1, .int p57)] := hl
          obtain ⟨h8, h9⟩ := Prod.mk.inj (Option.some.inj hf)
          subst h9
          exact W.vret (pc := 187) hx hb hr (fun t ht hW => ⟨⟨(), rfl, trivial, by rw [ht]; exact hP, hD, hC⟩, hS.F ht⟩) hS.2.2 dM_reach_187
def M_baseline_L156 (n : Nat) (kx54 : hT → Int32 → Int32 → Int32 → Int32 → Int32 → Int32 → Int32 → Option (Int32 × hT)) : Nat → hT → Int32 → Int32 → Int32 → Int32 → Int32 → Int32 → Int32 → Option (Int32 × hT)
  | 0, _, _, _, _, _, _, _, _ => none
  | k + 1, σ46, p47, p48, p49, p50, p51, p52, p53 => if 24 ≤ p47 then kx54 (σ46) p47 p48 p49 p50 p51 p52 p53 else if in9 p47 24 then if (xI σ46 18 0 (p47).toNatClampNeg) < 0 then M_baseline_L156 n kx54 k (σ46) (p47 + 1) p48 p49 (p50 + 0) p51 p52 p53 else M_baseline_L156 n kx54 k (σ46) (p47 + 1) p48 p49 (p50 + 1) p51 p52 p53 else none
def M_baseline_L247 (n : Nat) (kx82 : hT → Int32 → Int32 → Int32 → Int32 → Int32 → Int32 → Int32 → Option (Int32 × hT)) : Nat → hT → Int32 → Int32 → Int32 → Int32 → Int32 → Int32 → Int32 → Option (Int32 × hT)
  | 0, _, _, _, _, _, _, _, _ => none
  | k + 1, σ74, p75, p76, p77, p78, p79, p80, p81 => if 24 ≤ p75 then kx82 (σ74) p75 p76 p77 p78 p79 p80 p81 else if in9 p75 24 then if in9 ((p76 + 2) + p75) 25240 then lt9 (sI σ74 15 0 (((p76 + 2) + p75)).toNatClampNeg ((xI σ74 18 0 (p75).toNatClampNeg) + 1)) fun σ89 => M_baseline_L247 n kx82 k (σ89) (p75 + 1) p76 p77 p78 p79 p80 p81 else none else none
def M_baseline (n : Nat) (σ : hT) (a1 : Int32) (a2 : Int32) : Option (Int32 × hT) := lt9 (α := Int32 → Option (Int32 × hT)) (fun (s2 : Int32) => lt9 (α := Int32 → Option (Int32 × hT)) (fun (s6 : Int32) => lt9 (α := Int32 → Option (Int32 × hT)) (fun (s12 : Int32) => Option.bind (M_isDrawing σ a2) fun y23 => lt9 (α := hT → Int32 → Int32 → Int32 → Int32 → Int32 → Option (Int32 × hT)) (fun (σ25 : hT) (q26 : Int32) (q27 : Int32) (q28 : Int32) (q29 : Int32) (q30 : Int32) => Option.bind (M_may σ25 q27 (1 + (M_parts q26))) fun ⟨y62, σ63⟩ => if y62 = 0 then if (xI σ63 500 0 0) ≤ 0 then some ((-1), σ63) else some (0, σ63) else if in9 (M_baselineAt q29) 25240 then lt9 (sI σ63 15 0 ((M_baselineAt q29)).toNatClampNeg 1) fun σ67 => if in9 ((M_baselineAt q29) + 1) 25240 then lt9 (sI σ67 15 0 (((M_baselineAt q29) + 1)).toNatClampNeg q26) fun σ71 => lt9 (α := hT → Int32 → Int32 → Int32 → Int32 → Int32 → Int32 → Int32 → Option (Int32 × hT)) (fun (σ74 : hT) (p75 : Int32) (p76 : Int32) (p77 : Int32) (p78 : Int32) (p79 : Int32) (p80 : Int32) (p81 : Int32) => Option.bind (M_close n σ74) fun ⟨y93, σ94⟩ => some (p77, σ94)) fun kx82 => M_baseline_L247 n kx82 n (σ71) 0 (M_baselineAt q29) q26 q27 q28 q29 q30 else none else none) fun x24 => if y23 = 0 then x24 (σ) 0 (M_least s12 2 (M_least s6 7 0)) s2 a1 a2 else Option.bind (M_released n σ a2) fun y33 => lt9 (α := Int32 → Option (Int32 × hT)) (fun (s35 : Int32) => lt9 (α := Int32 → Option (Int32 × hT)) (fun (s38 : Int32) => if s35 = 0 then x24 (σ) 0 (M_least s38 2 (M_least s12 2 (M_least s6 7 0))) s2 a1 a2 else Option.bind (M_reach n σ a2) fun ⟨y42, σ43⟩ => lt9 (α := hT → Int32 → Int32 → Int32 → Int32 → Int32 → Int32 → Int32 → Option (Int32 × hT)) (fun (σ46 : hT) (p47 : Int32) (p48 : Int32) (p49 : Int32) (p50 : Int32) (p51 : Int32) (p52 : Int32) (p53 : Int32) => x24 (σ46) p50 p48 p51 p52 p53) fun kx54 => M_baseline_L156 n kx54 n (σ43) 0 (M_least (xI σ43 508 0 0) 2 (M_least (xI σ43 509 0 0) 4 (M_least s38 2 (M_least s12 2 (M_least s6 7 0))))) s35 0 s2 a1 a2) fun x37 => if s35 = 0 then x37 1 else x37 0) fun x34 => if y33 < 0 then x34 0 else x34 1) fun x11 => if s2 = 0 then x11 0 else lt9 (α := Int32 → Option (Int32 × hT)) (fun (s16 : Int32) => if in9 (M_baselineAt s16) 25240 then if (xI σ 15 0 ((M_baselineAt s16)).toNatClampNeg) ≤ 0 then x11 0 else x11 1 else none) fun x15 => if s2 = 0 then x15 0 else x15 a1) fun x5 => if s2 = 0 then x5 1 else Option.bind (M_isDrawing σ a2) fun y9 => if y9 = 0 then x5 1 else x5 0) fun x1 => if a1 < 0 then x1 0 else if 10 ≤ a1 then x1 0 else x1 1
set_option maxHeartbeats 4000000 in
set_option maxRecDepth 100000 in
theorem t_M_baseline (l : Launch) (dC : Nat → ClassId) (dI : Nat → Nat → Nat) (ad : Nat → Nat → Nat) (ca : Nat → Nat → ClassId) (dom : List (Nat × Nat)) (sz : Nat) (n : Nat) (σ : hT) (a1 : Int32) (a2 : Int32) (hm0 : (4, 0) ∈ dom) (hN : dom.Nodup) (hC : clo dom σ.2.2) (ρ : Int32) (σ' : hT) (hf : M_baseline n σ a1 a2 = some (ρ, σ')) : Met l yM_baseline (.code yM_baseline cM_baseline 8 (some .int) :: aw) ({ frames := 7, cells := 0, slots := 0, locals := 162 }) (hW (dC, dI) sz ad ca dom σ [.ref (ad 4 0), .int a1, .int a2]) (va_Qi (fun r (_ : Unit) => r = ρ) (fun _ t => hB (dC, dI) (va_A (w9 ad ca dom σ) sz) ad ca dom σ' t) (va_A (w9 ad ca dom σ) sz)) 0 0 (va_A (w9 ad ca dom σ) sz) := by
  refine Met.ofW (cc := cM_baseline) (maxL := 8) (ret := (some .int)) (by decide) rfl ?_
  intro p e s m args below meth c s₁ B hml hv
  obtain ⟨rfl, hv⟩ := hv
  have hx := B.exec
  have hb := B.bytes
  have hr := B.returns
  have hts : ∀ w ∈ aw, w.before _ s = true := fun w h => atoms_spec (ws := (.code yM_baseline cM_baseline 8 (some .int) :: aw)) B.pre w (List.mem_cons_of_mem _ h)
  have hown : s.vm.findClass RM = some m.cls := findClass_of_methodNamed B.named
  have hlocks := B.notSynchronized
  obtain ⟨hsz, hP, hK, hD0, hG⟩ := hv
  subst hsz
  have hD := hD0.self (sz := s.heap.size)
  generalize hAe : va_A (w9 ad ca dom σ) s.heap.size = A at hD ⊢
  have hA : ∀ q : Nat, s.heap.size ≤ q → A q := fun q h => by rw [← hAe]; exact Or.inr h
  obtain ⟨H, hH⟩ : ∃ H, H = s.heap := ⟨_, rfl⟩
  have hS : va_S A s.heap H [] := by rw [hH]; exact va_S.rf
  rw [← hH] at hP ⊢
  unfold M_baseline at hf
  have hl := lv_entry ([.ref (ad 4 0), .int a1, .int a2]) (n := 8) (Nat.le_of_ble_eq_true rfl)
  rw [lg_entry_eq]
  generalize (lg_sl ([.ref (ad 4 0), .int a1, .int a2]) ++ List.replicate (8 - (lg_sl ([.ref (ad 4 0), .int a1, .int a2])).length) Slot.unset).toArray = ls at hl ⊢
  have hl : lv_has ls 8 [(0, .ref (ad 4 0)), (1, .int a1), (2, .int a2)] := hl
  refine lv_iload_n (pc := 0) hx hb dM_baseline_0 rfl (lv_at hl 1 rfl) ?_
  obtain ⟨x1, hx1, hf⟩ := lt_9 hf
  refine jnF (τ := (Int32) × (Heap) × (List Loc) × (Array Slot)) (fun pc st z => W p l e _ s m _ below meth c z.2.1 z.2.2.1 0 0 _ (F0 m pc z.2.2.2 st)) (pc0 := 1) (st0 := [.int a1]) (z0 := (0, H, _, ls)) 15 (fun z => [.int z.1]) (fun z => va_P (dC, dI) kCl (w9 ad ca dom (σ)) z.2.1 ∧ va_D A (w9 ad ca dom (σ)) ∧ va_S A s.heap z.2.1 z.2.2.1 ∧ lv_has z.2.2.2 8 [(0, .ref (ad 4 0)), (1, .int a1), (2, .int a2)]) (fun z => x1 z.1) (ρ, σ') ?_ ?_
  · intro hJx1
    dsimp only at hJx1 ⊢
    refine lv_if_lt (pc := 1) (tgt := 14) hx hb dM_baseline_1 rfl (fun h3 => ?_) (fun h3 => ?_)
    · replace hf := ite_t h3 hf
      refine lv_iconst (pc := 14) (v := 0) hx hb dM_baseline_14 (by decide) ?_
      have hl := lv_sub hl (l' := [(0, .ref (ad 4 0)), (1, .int a1), (2, .int a2)]) [0, 1, 2] rfl
      exact hJx1 (0, H, _, ls) ⟨hP, hD, hS, hl⟩ hf
    · replace hf := ite_f h3 hf
      refine lv_iload_n (pc := 4) hx hb dM_baseline_4 rfl (lv_at hl 1 rfl) ?_
      refine lv_bipush (pc := 5) (v := 10) hx hb dM_baseline_5 (by decide) ?_
      refine lv_icmp_ge (pc := 7) (tgt := 14) hx hb dM_baseline_7 rfl (fun h4 => ?_) (fun h4 => ?_)
      · replace hf := ite_t h4 hf
        refine lv_iconst (pc := 14) (v := 0) hx hb dM_baseline_14 (by decide) ?_
        have hl := lv_sub hl (l' := [(0, .ref (ad 4 0)), (1, .int a1), (2, .int a2)]) [0, 1, 2] rfl
        exact hJx1 (0, H, _, ls) ⟨hP, hD, hS, hl⟩ hf
      · replace hf := ite_f h4 hf
        refine lv_iconst (pc := 10) (v := 1) hx hb dM_baseline_10 (by decide) ?_
        refine lv_goto (pc := 11) (tgt := 15) hx hb dM_baseline_11 rfl ?_
        have hl := lv_sub hl (l' := [(0, .ref (ad 4 0)), (1, .int a1), (2, .int a2)]) [0, 1, 2] rfl
        exact hJx1 (1, H, _, ls) ⟨hP, hD, hS, hl⟩ hf
  · rintro ⟨s2, H, locs, ls⟩ ⟨hP, hD, hS, hl⟩ hf
    dsimp only at hP hD hS hl hf ⊢
    rw [hx1] at hf
    have hl : lv_has ls 8 [(0, .ref (ad 4 0)), (1, .int a1), (2, .int a2)] := hl
    refine lv_istore_n (pc := 15) hx hb dM_baseline_15 rfl hl (by decide) rfl (fun ls hl => ?_)
    have hl : lv_has ls 8 [(3, .int s2), (0, .ref (ad 4 0)), (1, .int a1), (2, .int a2)] := hl
    refine lv_iload_n (pc := 16) hx hb dM_baseline_16 rfl (lv_at hl 0 rfl) ?_
    obtain ⟨x5, hx5, hf⟩ := lt_9 hf
    refine jnF (τ := (Int32) × (Heap) × (List Loc) × (Array Slot)) (fun pc st z => W p l e _ s m _ below meth c z.2.1 z.2.2.1 0 0 _ (F0 m pc z.2.2.2 st)) (pc0 := 17) (st0 := [.int s2]) (z0 := (0, H, _, ls)) 33 (fun z => [.int z.1]) (fun z => va_P (dC, dI) kCl (w9 ad ca dom (σ)) z.2.1 ∧ va_D A (w9 ad ca dom (σ)) ∧ va_S A s.heap z.2.1 z.2.2.1 ∧ lv_has z.2.2.2 8 [(3, .int s2), (0, .ref (ad 4 0)), (1, .int a1), (2, .int a2)]) (fun z => x5 z.1) (ρ, σ') ?_ ?_
    · intro hJx5
      dsimp only at hJx5 ⊢
      refine lv_if_eq (pc := 17) (tgt := 28) hx hb dM_baseline_17 rfl (fun h7 => ?_) (fun h7 => ?_)
      · replace hf := ite_t h7 hf
        refine lv_iconst (pc := 28) (v := 1) hx hb dM_baseline_28 (by decide) ?_
        refine lv_goto (pc := 29) (tgt := 33) hx hb dM_baseline_29 rfl ?_
        have hl := lv_sub hl (l' := [(3, .int s2), (0, .ref (ad 4 0)), (1, .int a1), (2, .int a2)]) [0, 1, 2, 3] rfl
        exact hJx5 (1, H, _, ls) ⟨hP, hD, hS, hl⟩ hf
      · replace hf := ite_f h7 hf
        refine lv_aload_n (pc := 20) hx hb dM_baseline_20 rfl (lv_at hl 1 rfl) ?_
        refine lv_iload_n (pc := 21) hx hb dM_baseline_21 rfl (lv_at hl 3 rfl) ?_
        obtain ⟨q8, hq8, eq8⟩ := at_4 (ad := ad) (ca := ca) (σ := σ) hm0
        obtain ⟨y9, hy9, hf⟩ := ob hf
        refine vp_callSi (pc := 22) (W.runV (As := [.int a2]) (rest := []) ⟨hx, hb, hml, hown, hts⟩ (t_M_isDrawing l dC dI ad ca dom σ a2 hm0 hN hC y9 hy9) (cwV 1 hts (gV wd_57 wd_58 wd_59 wd_50 wd_56) rfl rfl rfl (by decide +kernel) ⟨Nat.le_of_ble_eq_true rfl, Nat.le_of_ble_eq_true rfl⟩) ⟨hR_blind, va_recv (q := (RM, TM, 11)) (q0 := q8) (ci := 4) hK.1 hP rfl eq8, hR_pre hP hK hG⟩ rfl rfl hl.1 rfl (lv_room (Nat.le_of_ble_eq_true rfl)) dM_baseline_22 ⟨Nat.le_of_ble_eq_true rfl, Nat.le_of_ble_eq_true rfl⟩) (fun r9 hr9 => ?_)
        refine W.eq (g2 := F0 m 25 ls [.int y9]) (by rw [hr9]) ?_
        refine lv_if_ne (pc := 25) (tgt := 32) hx hb dM_baseline_25 rfl (fun h10 => ?_) (fun h10 => ?_)
        · replace hf := ite_f h10 hf
          refine lv_iconst (pc := 32) (v := 0) hx hb dM_baseline_32 (by decide) ?_
          have hl := lv_sub hl (l' := [(3, .int s2), (0, .ref (ad 4 0)), (1, .int a1), (2, .int a2)]) [0, 1, 2, 3] rfl
          exact hJx5 (0, H, _, ls) ⟨hP, hD, hS, hl⟩ hf
        · replace hf := ite_t h10 hf
          refine lv_iconst (pc := 28) (v := 1) hx hb dM_baseline_28 (by decide) ?_
          refine lv_goto (pc := 29) (tgt := 33) hx hb dM_baseline_29 rfl ?_
          have hl := lv_sub hl (l' := [(3, .int s2), (0, .ref (ad 4 0)), (1, .int a1), (2, .int a2)]) [0, 1, 2, 3] rfl
          exact hJx5 (1, H, _, ls) ⟨hP, hD, hS, hl⟩ hf
    · rintro ⟨s6, H, locs, ls⟩ ⟨hP, hD, hS, hl⟩ hf
      dsimp only at hP hD hS hl hf ⊢
      rw [hx5] at hf
      have hl : lv_has ls 8 [(3, .int s2), (0, .ref (ad 4 0)), (1, .int a1), (2, .int a2)] := hl
      refine lv_bipush (pc := 33) (v := 7) hx hb dM_baseline_33 (by decide) ?_
      refine lv_iconst (pc := 35) (v := 0) hx hb dM_baseline_35 (by decide) ?_
      refine vp_callSi (pc := 36) (W.runS (As := [.int s6, .int 7, .int 0]) (rest := []) ⟨hx, hb, hml, hown, hts⟩ (t_M_least l dC dI ad ca dom s6 7 0 σ hN hC (M_least s6 7 0) rfl) (cwS 3 hts (gS wd_152 wd_153 wd_50 wd_151) rfl rfl rfl (by decide +kernel) ⟨Nat.le_of_ble_eq_true rfl, Nat.le_of_ble_eq_true rfl⟩) ⟨hR_blind, hR_pre hP hK hG⟩ rfl rfl hl.1 rfl (lv_room (Nat.le_of_ble_eq_true rfl)) dM_baseline_36 ⟨Nat.le_of_ble_eq_true rfl, Nat.le_of_ble_eq_true rfl⟩) (fun r9 hr9 => ?_)
      refine W.eq (g2 := F0 m 39 ls [.int (M_least s6 7 0)]) (by rw [hr9]) ?_
      refine lv_istore (pc := 39) hx hb dM_baseline_39 hl (by decide) rfl (fun ls hl => ?_)
      have hl : lv_has ls 8 [(4, .int (M_least s6 7 0)), (3, .int s2), (0, .ref (ad 4 0)), (1, .int a1), (2, .int a2)] := hl
      refine lv_iload_n (pc := 41) hx hb dM_baseline_41 rfl (lv_at hl 1 rfl) ?_
      obtain ⟨x11, hx11, hf⟩ := lt_9 hf
      refine jnF (τ := (Int32) × (Heap) × (List Loc) × (Array Slot)) (fun pc st z => W p l e _ s m _ below meth c z.2.1 z.2.2.1 0 0 _ (F0 m pc z.2.2.2 st)) (pc0 := 42) (st0 := [.int s2]) (z0 := (0, H, _, ls)) 71 (fun z => [.int z.1]) (fun z => va_P (dC, dI) kCl (w9 ad ca dom (σ)) z.2.1 ∧ va_D A (w9 ad ca dom (σ)) ∧ va_S A s.heap z.2.1 z.2.2.1 ∧ lv_has z.2.2.2 8 [(4, .int (M_least s6 7 0)), (3, .int s2), (0, .ref (ad 4 0)), (1, .int a1), (2, .int a2)]) (fun z => x11 z.1) (ρ, σ') ?_ ?_
      · intro hJx11
        dsimp only at hJx11 ⊢
        refine lv_if_eq (pc := 42) (tgt := 70) hx hb dM_baseline_42 rfl (fun h13 => ?_) (fun h13 => ?_)
        · replace hf := ite_t h13 hf
          refine lv_iconst (pc := 70) (v := 0) hx hb dM_baseline_70 (by decide) ?_
          have hl := lv_sub hl (l' := [(4, .int (M_least s6 7 0)), (3, .int s2), (0, .ref (ad 4 0)), (1, .int a1), (2, .int a2)]) [0, 1, 2, 3, 4] rfl
          exact hJx11 (0, H, _, ls) ⟨hP, hD, hS, hl⟩ hf
        · replace hf := ite_f h13 hf
          refine lv_aload_n (pc := 45) hx hb dM_baseline_45 rfl (lv_at hl 2 rfl) ?_
          obtain ⟨q14, hq14, eq14⟩ := at_4 (ad := ad) (ca := ca) (σ := σ) hm0
          refine va_get (D := (dC, dI)) (cl := kCl) (C := RM) (T := TM) (N := 11) (pc := 46) hx hb hts inM hown hK.1 hP q14 eq14 rfl 2 (by decide) (hts _ wd_51) (fun _ h9 => h9) rfl dM_baseline_46 ?_
          refine lv_aload_n (pc := 49) hx hb dM_baseline_49 rfl (lv_at hl 2 rfl) ?_
          refine lv_iload_n (pc := 50) hx hb dM_baseline_50 rfl (lv_at hl 1 rfl) ?_
          obtain ⟨x15, hx15, hf⟩ := lt_9 hf
          refine jnF (τ := (Int32) × (Heap) × (List Loc) × (Array Slot)) (fun pc st z => W p l e _ s m _ below meth c z.2.1 z.2.2.1 0 0 _ (F0 m pc z.2.2.2 st)) (pc0 := 51) (st0 := [.int s2, .ref (ad 4 0), .ref (ad 15 0)]) (z0 := (0, H, _, ls)) 59 (fun z => [.int z.1, .ref (ad 4 0), .ref (ad 15 0)]) (fun z => va_P (dC, dI) kCl (w9 ad ca dom (σ)) z.2.1 ∧ va_D A (w9 ad ca dom (σ)) ∧ va_S A s.heap z.2.1 z.2.2.1 ∧ lv_has z.2.2.2 8 [(4, .int (M_least s6 7 0)), (3, .int s2), (0, .ref (ad 4 0)), (1, .int a1), (2, .int a2)]) (fun z => x15 z.1) (ρ, σ') ?_ ?_
          · intro hJx15
            dsimp only at hJx15 ⊢
            refine lv_if_eq (pc := 51) (tgt := 58) hx hb dM_baseline_51 rfl (fun h17 => ?_) (fun h17 => ?_)
            · replace hf := ite_t h17 hf
              refine lv_iconst (pc := 58) (v := 0) hx hb dM_baseline_58 (by decide) ?_
              have hl := lv_sub hl (l' := [(4, .int (M_least s6 7 0)), (3, .int s2), (0, .ref (ad 4 0)), (1, .int a1), (2, .int a2)]) [0, 1, 2, 3, 4] rfl
              exact hJx15 (0, H, _, ls) ⟨hP, hD, hS, hl⟩ hf
            · replace hf := ite_f h17 hf
              refine lv_iload_n (pc := 54) hx hb dM_baseline_54 rfl (lv_at hl 3 rfl) ?_
              refine lv_goto (pc := 55) (tgt := 59) hx hb dM_baseline_55 rfl ?_
              have hl := lv_sub hl (l' := [(4, .int (M_least s6 7 0)), (3, .int s2), (0, .ref (ad 4 0)), (1, .int a1), (2, .int a2)]) [0, 1, 2, 3, 4] rfl
              exact hJx15 (a1, H, _, ls) ⟨hP, hD, hS, hl⟩ hf
          · rintro ⟨s16, H, locs, ls⟩ ⟨hP, hD, hS, hl⟩ hf
            dsimp only at hP hD hS hl hf ⊢
            rw [hx15] at hf
            have hl : lv_has ls 8 [(4, .int (M_least s6 7 0)), (3, .int s2), (0, .ref (ad 4 0)), (1, .int a1), (2, .int a2)] := hl
            obtain ⟨q18, hq18, eq18⟩ := at_4 (ad := ad) (ca := ca) (σ := σ) hm0
            refine vp_callSi (pc := 59) (W.runV (As := [.int s16]) (rest := [.ref (ad 15 0)]) ⟨hx, hb, hml, hown, hts⟩ (t_M_baselineAt l dC dI ad ca dom s16 hm0 σ hN hC (M_baselineAt s16) rfl) (cwV 1 hts (gV wd_124 wd_125 wd_126 wd_50 wd_123) rfl rfl rfl (by decide +kernel) ⟨Nat.le_of_ble_eq_true rfl, Nat.le_of_ble_eq_true rfl⟩) ⟨hR_blind, va_recv (q := (RM, TM, 11)) (q0 := q18) (ci := 4) hK.1 hP rfl eq18, hR_pre hP hK hG⟩ rfl rfl hl.1 rfl (lv_room (Nat.le_of_ble_eq_true rfl)) dM_baseline_59 ⟨Nat.le_of_ble_eq_true rfl, Nat.le_of_ble_eq_true rfl⟩) (fun r9 hr9 => ?_)
            refine W.eq (g2 := F0 m 62 ls [.int (M_baselineAt s16), .ref (ad 15 0)]) (by rw [hr9]) ?_
            obtain ⟨hv19, hf⟩ := ite_s hf
            obtain ⟨q20, hq20, eq20⟩ := at_15 (ad := ad) (ca := ca) (σ := σ) (cm_4_2 hC hm0)
            refine va_iald (D := (dC, dI)) (cl := kCl) (pc := 62) hx hb (hK.2 15 0 .int (cm_4_2 hC hm0) rfl) hP q20 0 eq20 rfl (hv19) dM_baseline_62 ?_
            refine W.eq (g2 := F0 m 63 ls [.int (xI σ 15 0 ((M_baselineAt s16)).toNatClampNeg)]) rfl ?_
            refine lv_if_le (pc := 63) (tgt := 70) hx hb dM_baseline_63 rfl (fun h21 => ?_) (fun h21 => ?_)
            · replace hf := ite_t h21 hf
              refine lv_iconst (pc := 70) (v := 0) hx hb dM_baseline_70 (by decide) ?_
              have hl := lv_sub hl (l' := [(4, .int (M_least s6 7 0)), (3, .int s2), (0, .ref (ad 4 0)), (1, .int a1), (2, .int a2)]) [0, 1, 2, 3, 4] rfl
              exact hJx11 (0, H, _, ls) ⟨hP, hD, hS, hl⟩ hf
            · replace hf := ite_f h21 hf
              refine lv_iconst (pc := 66) (v := 1) hx hb dM_baseline_66 (by decide) ?_
              refine lv_goto (pc := 67) (tgt := 71) hx hb dM_baseline_67 rfl ?_
              have hl := lv_sub hl (l' := [(4, .int (M_least s6 7 0)), (3, .int s2), (0, .ref (ad 4 0)), (1, .int a1), (2, .int a2)]) [0, 1, 2, 3, 4] rfl
              exact hJx11 (1, H, _, ls) ⟨hP, hD, hS, hl⟩ hf
      · rintro ⟨s12, H, locs, ls⟩ ⟨hP, hD, hS, hl⟩ hf
        dsimp only at hP hD hS hl hf ⊢
        rw [hx11] at hf
        have hl : lv_has ls 8 [(4, .int (M_least s6 7 0)), (3, .int s2), (0, .ref (ad 4 0)), (1, .int a1), (2, .int a2)] := hl
        refine lv_iconst (pc := 71) (v := 2) hx hb dM_baseline_71 (by decide) ?_
        refine lv_iload (pc := 72) hx hb dM_baseline_72 (lv_at hl 0 rfl) ?_
        refine vp_callSi (pc := 74) (W.runS (As := [.int s12, .int 2, .int (M_least s6 7 0)]) (rest := []) ⟨hx, hb, hml, hown, hts⟩ (t_M_least l dC dI ad ca dom s12 2 (M_least s6 7 0) σ hN hC (M_least s12 2 (M_least s6 7 0)) rfl) (cwS 3 hts (gS wd_152 wd_153 wd_50 wd_151) rfl rfl rfl (by decide +kernel) ⟨Nat.le_of_ble_eq_true rfl, Nat.le_of_ble_eq_true rfl⟩) ⟨hR_blind, hR_pre hP hK hG⟩ rfl rfl hl.1 rfl (lv_room (Nat.le_of_ble_eq_true rfl)) dM_baseline_74 ⟨Nat.le_of_ble_eq_true rfl, Nat.le_of_ble_eq_true rfl⟩) (fun r9 hr9 => ?_)
        refine W.eq (g2 := F0 m 77 ls [.int (M_least s12 2 (M_least s6 7 0))]) (by rw [hr9]) ?_
        refine lv_istore (pc := 77) hx hb dM_baseline_77 hl (by decide) rfl (fun ls hl => ?_)
        have hl : lv_has ls 8 [(4, .int (M_least s12 2 (M_least s6 7 0))), (3, .int s2), (0, .ref (ad 4 0)), (1, .int a1), (2, .int a2)] := hl
        refine lv_iconst (pc := 79) (v := 0) hx hb dM_baseline_79 (by decide) ?_
        refine lv_istore (pc := 80) hx hb dM_baseline_80 hl (by decide) rfl (fun ls hl => ?_)
        have hl : lv_has ls 8 [(5, .int 0), (4, .int (M_least s12 2 (M_least s6 7 0))), (3, .int s2), (0, .ref (ad 4 0)), (1, .int a1), (2, .int a2)] := hl
        refine lv_aload_n (pc := 82) hx hb dM_baseline_82 rfl (lv_at hl 3 rfl) ?_
        refine lv_iload_n (pc := 83) hx hb dM_baseline_83 rfl (lv_at hl 5 rfl) ?_
        obtain ⟨q22, hq22, eq22⟩ := at_4 (ad := ad) (ca := ca) (σ := σ) hm0
        obtain ⟨y23, hy23, hf⟩ := ob hf
        refine vp_callSi (pc := 84) (W.runV (As := [.int a2]) (rest := []) ⟨hx, hb, hml, hown, hts⟩ (t_M_isDrawing l dC dI ad ca dom σ a2 hm0 hN hC y23 hy23) (cwV 1 hts (gV wd_57 wd_58 wd_59 wd_50 wd_56) rfl rfl rfl (by decide +kernel) ⟨Nat.le_of_ble_eq_true rfl, Nat.le_of_ble_eq_true rfl⟩) ⟨hR_blind, va_recv (q := (RM, TM, 11)) (q0 := q22) (ci := 4) hK.1 hP rfl eq22, hR_pre hP hK hG⟩ rfl rfl hl.1 rfl (lv_room (Nat.le_of_ble_eq_true rfl)) dM_baseline_84 ⟨Nat.le_of_ble_eq_true rfl, Nat.le_of_ble_eq_true rfl⟩) (fun r9 hr9 => ?_)
        refine W.eq (g2 := F0 m 87 ls [.int y23]) (by rw [hr9]) ?_
        obtain ⟨x24, hx24, hf⟩ := lt_9 hf
        refine jnF (τ := (hT) × (Int32) × (Int32) × (Int32) × (Int32) × (Int32) × (Heap) × (List Loc) × (Array Slot)) (fun pc st z => W p l e _ s m _ below meth c z.2.2.2.2.2.2.1 z.2.2.2.2.2.2.2.1 0 0 _ (F0 m pc z.2.2.2.2.2.2.2.2 st)) (pc0 := 87) (st0 := [.int y23]) (z0 := (σ, 0, 0, 0, 0, 0, H, _, ls)) 189 (fun z => []) (fun z => va_P (dC, dI) kCl (w9 ad ca dom z.1) z.2.2.2.2.2.2.1 ∧ va_D A (w9 ad ca dom z.1) ∧ va_S A s.heap z.2.2.2.2.2.2.1 z.2.2.2.2.2.2.2.1 ∧ clo dom z.1.2.2 ∧ lv_has z.2.2.2.2.2.2.2.2 8 [(5, .int z.2.1), (4, .int z.2.2.1), (3, .int z.2.2.2.1), (0, .ref (ad 4 0)), (1, .int z.2.2.2.2.1), (2, .int z.2.2.2.2.2.1)]) (fun z => x24 z.1 z.2.1 z.2.2.1 z.2.2.2.1 z.2.2.2.2.1 z.2.2.2.2.2.1) (ρ, σ') ?_ ?_
        · intro hJx24
          dsimp only at hJx24 ⊢
          refine lv_if_eq (pc := 87) (tgt := 189) hx hb dM_baseline_87 rfl (fun h31 => ?_) (fun h31 => ?_)
          · replace hf := ite_t h31 hf
            have hl := lv_sub hl (l' := [(5, .int 0), (4, .int (M_least s12 2 (M_least s6 7 0))), (3, .int s2), (0, .ref (ad 4 0)), (1, .int a1), (2, .int a2)]) [0, 1, 2, 3, 4, 5] rfl
            exact hJx24 (σ, 0, (M_least s12 2 (M_least s6 7 0)), s2, a1, a2, H, _, ls) ⟨hP, hD, hS, hC, hl⟩ hf
          · replace hf := ite_f h31 hf
            refine lv_aload_n (pc := 90) hx hb dM_baseline_90 rfl (lv_at hl 3 rfl) ?_
            refine lv_iload_n (pc := 91) hx hb dM_baseline_91 rfl (lv_at hl 5 rfl) ?_
            obtain ⟨q32, hq32, eq32⟩ := at_4 (ad := ad) (ca := ca) (σ := σ) hm0
            obtain ⟨y33, hy33, hf⟩ := ob hf
            refine vp_callSi (pc := 92) (W.runV (As := [.int a2]) (rest := []) ⟨hx, hb, hml, hown, hts⟩ (t_M_released l dC dI ad ca dom n σ a2 hm0 hN hC y33 hy33) (cwV 1 hts (gV wd_81 wd_82 wd_83 wd_50 wd_80) rfl rfl rfl (by decide +kernel) ⟨Nat.le_of_ble_eq_true rfl, Nat.le_of_ble_eq_true rfl⟩) ⟨hR_blind, va_recv (q := (RM, TM, 11)) (q0 := q32) (ci := 4) hK.1 hP rfl eq32, hR_pre hP hK hG⟩ rfl rfl hl.1 rfl (lv_room (Nat.le_of_ble_eq_true rfl)) dM_baseline_92 ⟨Nat.le_of_ble_eq_true rfl, Nat.le_of_ble_eq_true rfl⟩) (fun r9 hr9 => ?_)
            refine W.eq (g2 := F0 m 95 ls [.int y33]) (by rw [hr9]) ?_
            obtain ⟨x34, hx34, hf⟩ := lt_9 hf
            refine jnF (τ := (Int32) × (Heap) × (List Loc) × (Array Slot)) (fun pc st z => W p l e _ s m _ below meth c z.2.1 z.2.2.1 0 0 _ (F0 m pc z.2.2.2 st)) (pc0 := 95) (st0 := [.int y33]) (z0 := (0, H, _, ls)) 103 (fun z => [.int z.1]) (fun z => va_P (dC, dI) kCl (w9 ad ca dom (σ)) z.2.1 ∧ va_D A (w9 ad ca dom (σ)) ∧ va_S A s.heap z.2.1 z.2.2.1 ∧ lv_has z.2.2.2 8 [(5, .int 0), (4, .int (M_least s12 2 (M_least s6 7 0))), (3, .int s2), (0, .ref (ad 4 0)), (1, .int a1), (2, .int a2)]) (fun z => x34 z.1) (ρ, σ') ?_ ?_
            · intro hJx34
              dsimp only at hJx34 ⊢
              refine lv_if_lt (pc := 95) (tgt := 102) hx hb dM_baseline_95 rfl (fun h36 => ?_) (fun h36 => ?_)
              · replace hf := ite_t h36 hf
                refine lv_iconst (pc := 102) (v := 0) hx hb dM_baseline_102 (by decide) ?_
                have hl := lv_sub hl (l' := [(5, .int 0), (4, .int (M_least s12 2 (M_least s6 7 0))), (3, .int s2), (0, .ref (ad 4 0)), (1, .int a1), (2, .int a2)]) [0, 1, 2, 3, 4, 5] rfl
                exact hJx34 (0, H, _, ls) ⟨hP, hD, hS, hl⟩ hf
              · replace hf := ite_f h36 hf
                refine lv_iconst (pc := 98) (v := 1) hx hb dM_baseline_98 (by decide) ?_
                refine lv_goto (pc := 99) (tgt := 103) hx hb dM_baseline_99 rfl ?_
                have hl := lv_sub hl (l' := [(5, .int 0), (4, .int (M_least s12 2 (M_least s6 7 0))), (3, .int s2), (0, .ref (ad 4 0)), (1, .int a1), (2, .int a2)]) [0, 1, 2, 3, 4, 5] rfl
                exact hJx34 (1, H, _, ls) ⟨hP, hD, hS, hl⟩ hf
            · rintro ⟨s35, H, locs, ls⟩ ⟨hP, hD, hS, hl⟩ hf
              dsimp only at hP hD hS hl hf ⊢
              rw [hx34] at hf
              have hl : lv_has ls 8 [(5, .int 0), (4, .int (M_least s12 2 (M_least s6 7 0))), (3, .int s2), (0, .ref (ad 4 0)), (1, .int a1), (2, .int a2)] := hl
              refine lv_istore (pc := 103) hx hb dM_baseline_103 hl (by decide) rfl (fun ls hl => ?_)
              have hl : lv_has ls 8 [(6, .int s35), (5, .int 0), (4, .int (M_least s12 2 (M_least s6 7 0))), (3, .int s2), (0, .ref (ad 4 0)), (1, .int a1), (2, .int a2)] := hl
              refine lv_iload (pc := 105) hx hb dM_baseline_105 (lv_at hl 0 rfl) ?_
              obtain ⟨x37, hx37, hf⟩ := lt_9 hf
              refine jnF (τ := (Int32) × (Heap) × (List Loc) × (Array Slot)) (fun pc st z => W p l e _ s m _ below meth c z.2.1 z.2.2.1 0 0 _ (F0 m pc z.2.2.2 st)) (pc0 := 107) (st0 := [.int s35]) (z0 := (0, H, _, ls)) 115 (fun z => [.int z.1]) (fun z => va_P (dC, dI) kCl (w9 ad ca dom (σ)) z.2.1 ∧ va_D A (w9 ad ca dom (σ)) ∧ va_S A s.heap z.2.1 z.2.2.1 ∧ lv_has z.2.2.2 8 [(6, .int s35), (5, .int 0), (4, .int (M_least s12 2 (M_least s6 7 0))), (3, .int s2), (0, .ref (ad 4 0)), (1, .int a1), (2, .int a2)]) (fun z => x37 z.1) (ρ, σ') ?_ ?_
              · intro hJx37
                dsimp only at hJx37 ⊢
                refine lv_if_ne (pc := 107) (tgt := 114) hx hb dM_baseline_107 rfl (fun h39 => ?_) (fun h39 => ?_)
                · replace hf := ite_f h39 hf
                  refine lv_iconst (pc := 114) (v := 0) hx hb dM_baseline_114 (by decide) ?_
                  have hl := lv_sub hl (l' := [(6, .int s35), (5, .int 0), (4, .int (M_least s12 2 (M_least s6 7 0))), (3, .int s2), (0, .ref (ad 4 0)), (1, .int a1), (2, .int a2)]) [0, 1, 2, 3, 4, 5, 6] rfl
                  exact hJx37 (0, H, _, ls) ⟨hP, hD, hS, hl⟩ hf
                · replace hf := ite_t h39 hf
                  refine lv_iconst (pc := 110) (v := 1) hx hb dM_baseline_110 (by decide) ?_
                  refine lv_goto (pc := 111) (tgt := 115) hx hb dM_baseline_111 rfl ?_
                  have hl := lv_sub hl (l' := [(6, .int s35), (5, .int 0), (4, .int (M_least s12 2 (M_least s6 7 0))), (3, .int s2), (0, .ref (ad 4 0)), (1, .int a1), (2, .int a2)]) [0, 1, 2, 3, 4, 5, 6] rfl
                  exact hJx37 (1, H, _, ls) ⟨hP, hD, hS, hl⟩ hf
              · rintro ⟨s38, H, locs, ls⟩ ⟨hP, hD, hS, hl⟩ hf
                dsimp only at hP hD hS hl hf ⊢
                rw [hx37] at hf
                have hl : lv_has ls 8 [(6, .int s35), (5, .int 0), (4, .int (M_least s12 2 (M_least s6 7 0))), (3, .int s2), (0, .ref (ad 4 0)), (1, .int a1), (2, .int a2)] := hl
                refine lv_iconst (pc := 115) (v := 2) hx hb dM_baseline_115 (by decide) ?_
                refine lv_iload (pc := 116) hx hb dM_baseline_116 (lv_at hl 2 rfl) ?_
                refine vp_callSi (pc := 118) (W.runS (As := [.int s38, .int 2, .int (M_least s12 2 (M_least s6 7 0))]) (rest := []) ⟨hx, hb, hml, hown, hts⟩ (t_M_least l dC dI ad ca dom s38 2 (M_least s12 2 (M_least s6 7 0)) σ hN hC (M_least s38 2 (M_least s12 2 (M_least s6 7 0))) rfl) (cwS 3 hts (gS wd_152 wd_153 wd_50 wd_151) rfl rfl rfl (by decide +kernel) ⟨Nat.le_of_ble_eq_true rfl, Nat.le_of_ble_eq_true rfl⟩) ⟨hR_blind, hR_pre hP hK hG⟩ rfl rfl hl.1 rfl (lv_room (Nat.le_of_ble_eq_true rfl)) dM_baseline_118 ⟨Nat.le_of_ble_eq_true rfl, Nat.le_of_ble_eq_true rfl⟩) (fun r9 hr9 => ?_)
                refine W.eq (g2 := F0 m 121 ls [.int (M_least s38 2 (M_least s12 2 (M_least s6 7 0)))]) (by rw [hr9]) ?_
                refine lv_istore (pc := 121) hx hb dM_baseline_121 hl (by decide) rfl (fun ls hl => ?_)
                have hl : lv_has ls 8 [(4, .int (M_least s38 2 (M_least s12 2 (M_least s6 7 0)))), (6, .int s35), (5, .int 0), (3, .int s2), (0, .ref (ad 4 0)), (1, .int a1), (2, .int a2)] := hl
                refine lv_iload (pc := 123) hx hb dM_baseline_123 (lv_at hl 1 rfl) ?_
                refine lv_if_eq (pc := 125) (tgt := 189) hx hb dM_baseline_125 rfl (fun h40 => ?_) (fun h40 => ?_)
                · replace hf := ite_t h40 hf
                  have hl := lv_sub hl (l' := [(5, .int 0), (4, .int (M_least s38 2 (M_least s12 2 (M_least s6 7 0)))), (3, .int s2), (0, .ref (ad 4 0)), (1, .int a1), (2, .int a2)]) [2, 0, 3, 4, 5, 6] rfl
                  exact hJx24 (σ, 0, (M_least s38 2 (M_least s12 2 (M_least s6 7 0))), s2, a1, a2, H, _, ls) ⟨hP, hD, hS, hC, hl⟩ hf
                · replace hf := ite_f h40 hf
                  refine lv_aload_n (pc := 128) hx hb dM_baseline_128 rfl (lv_at hl 4 rfl) ?_
                  refine lv_iload_n (pc := 129) hx hb dM_baseline_129 rfl (lv_at hl 6 rfl) ?_
                  obtain ⟨q41, hq41, eq41⟩ := at_4 (ad := ad) (ca := ca) (σ := σ) hm0
                  obtain ⟨⟨y42, σ43⟩, hy42, hf⟩ := ob hf
                  have hFc := w9_free hD hS hA
                  refine va_callv (pc := 130) (va_runV (As := [.int a2]) (rest := []) ⟨hx, hb, hml, hown, hts⟩ (t_M_reach l dC dI ad ca dom H.size n σ a2 hm0 hN hC y42 σ43 hy42) (cwV 1 hts (gV wd_220 wd_221 wd_222 wd_50 wd_219) rfl rfl rfl (by decide +kernel) ⟨Nat.le_of_ble_eq_true rfl, Nat.le_of_ble_eq_true rfl⟩) ⟨hW_blind, va_recv (q := (RM, TM, 11)) (q0 := q41) (ci := 4) hK.1 hP rfl eq41, hW_pre hP hK hD hG⟩ rfl rfl hl.1 rfl (lv_room (Nat.le_of_ble_eq_true rfl)) dM_baseline_130 ⟨Nat.le_of_ble_eq_true rfl, Nat.le_of_ble_eq_true rfl⟩) hS (fun q _ h => hFc q h) hFc (fun u t H1 locs ht hvm hr9 hB hz1 hk1 hS => ?_)
                  obtain ⟨hP, hD, hC⟩ := hB
                  rw [ht] at hP
                  replace hD := hD.weaken (fun _ _ _ h => hFc _ h)
                  generalize H1 = H at hP hS ⊢
                  refine lv_aload_n (pc := 133) hx hb dM_baseline_133 rfl (lv_at hl 4 rfl) ?_
                  obtain ⟨q44, hq44, eq44⟩ := at_4 (ad := ad) (ca := ca) (σ := σ43) hm0
                  refine va_get (D := (dC, dI)) (cl := kCl) (C := RM) (T := TM) (N := 11) (pc := 134) hx hb hts inM hown hK.1 hP q44 eq44 rfl 8 (by decide) (hts _ wd_214) (fun _ h9 => h9) rfl dM_baseline_134 ?_
                  refine lv_iconst (pc := 137) (v := 2) hx hb dM_baseline_137 (by decide) ?_
                  refine lv_aload_n (pc := 138) hx hb dM_baseline_138 rfl (lv_at hl 4 rfl) ?_
                  obtain ⟨q45, hq45, eq45⟩ := at_4 (ad := ad) (ca := ca) (σ := σ43) hm0
                  refine va_get (D := (dC, dI)) (cl := kCl) (C := RM) (T := TM) (N := 11) (pc := 139) hx hb hts inM hown hK.1 hP q45 eq45 rfl 9 (by decide) (hts _ wd_211) (fun _ h9 => h9) rfl dM_baseline_139 ?_
                  refine lv_iconst (pc := 142) (v := 4) hx hb dM_baseline_142 (by decide) ?_
                  refine lv_iload (pc := 143) hx hb dM_baseline_143 (lv_at hl 0 rfl) ?_
                  refine vp_callSi (pc := 145) (W.runS (As := [.int (xI σ43 509 0 0), .int 4, .int (M_least s38 2 (M_least s12 2 (M_least s6 7 0)))]) (rest := [.int 2, .int (xI σ43 508 0 0)]) ⟨hx, hb, hml, hown, hts⟩ (t_M_least l dC dI ad ca dom (xI σ43 509 0 0) 4 (M_least s38 2 (M_least s12 2 (M_least s6 7 0))) σ43 hN hC (M_least (xI σ43 509 0 0) 4 (M_least s38 2 (M_least s12 2 (M_least s6 7 0)))) rfl) (cwS 3 hts (gS wd_152 wd_153 wd_50 wd_151) rfl rfl rfl (by decide +kernel) ⟨Nat.le_of_ble_eq_true rfl, Nat.le_of_ble_eq_true rfl⟩) ⟨hR_blind, hR_pre hP hK hG⟩ rfl rfl hl.1 rfl (lv_room (Nat.le_of_ble_eq_true rfl)) dM_baseline_145 ⟨Nat.le_of_ble_eq_true rfl, Nat.le_of_ble_eq_true rfl⟩) (fun r9 hr9 => ?_)
                  refine W.eq (g2 := F0 m 148 ls [.int (M_least (xI σ43 509 0 0) 4 (M_least s38 2 (M_least s12 2 (M_least s6 7 0)))), .int 2, .int (xI σ43 508 0 0)]) (by rw [hr9]) ?_
                  refine vp_callSi (pc := 148) (W.runS (As := [.int (xI σ43 508 0 0), .int 2, .int (M_least (xI σ43 509 0 0) 4 (M_least s38 2 (M_least s12 2 (M_least s6 7 0))))]) (rest := []) ⟨hx, hb, hml, hown, hts⟩ (t_M_least l dC dI ad ca dom (xI σ43 508 0 0) 2 (M_least (xI σ43 509 0 0) 4 (M_least s38 2 (M_least s12 2 (M_least s6 7 0)))) σ43 hN hC (M_least (xI σ43 508 0 0) 2 (M_least (xI σ43 509 0 0) 4 (M_least s38 2 (M_least s12 2 (M_least s6 7 0))))) rfl) (cwS 3 hts (gS wd_152 wd_153 wd_50 wd_151) rfl rfl rfl (by decide +kernel) ⟨Nat.le_of_ble_eq_true rfl, Nat.le_of_ble_eq_true rfl⟩) ⟨hR_blind, hR_pre hP hK hG⟩ rfl rfl hl.1 rfl (lv_room (Nat.le_of_ble_eq_true rfl)) dM_baseline_148 ⟨Nat.le_of_ble_eq_true rfl, Nat.le_of_ble_eq_true rfl⟩) (fun r9 hr9 => ?_)
                  refine W.eq (g2 := F0 m 151 ls [.int (M_least (xI σ43 508 0 0) 2 (M_least (xI σ43 509 0 0) 4 (M_least s38 2 (M_least s12 2 (M_least s6 7 0)))))]) (by rw [hr9]) ?_
                  refine lv_istore (pc := 151) hx hb dM_baseline_151 hl (by decide) rfl (fun ls hl => ?_)
                  have hl : lv_has ls 8 [(4, .int (M_least (xI σ43 508 0 0) 2 (M_least (xI σ43 509 0 0) 4 (M_least s38 2 (M_least s12 2 (M_least s6 7 0)))))), (6, .int s35), (5, .int 0), (3, .int s2), (0, .ref (ad 4 0)), (1, .int a1), (2, .int a2)] := hl
                  refine lv_iconst (pc := 153) (v := 0) hx hb dM_baseline_153 (by decide) ?_
                  refine lv_istore (pc := 154) hx hb dM_baseline_154 hl (by decide) rfl (fun ls hl => ?_)
                  have hl : lv_has ls 8 [(7, .int 0), (4, .int (M_least (xI σ43 508 0 0) 2 (M_least (xI σ43 509 0 0) 4 (M_least s38 2 (M_least s12 2 (M_least s6 7 0)))))), (6, .int s35), (5, .int 0), (3, .int s2), (0, .ref (ad 4 0)), (1, .int a1), (2, .int a2)] := hl
                  obtain ⟨kx54, hkx54, hf⟩ := lt_9 hf
                  refine lpF (τ := (hT) × (Int32) × (Int32) × (Int32) × (Int32) × (Int32) × (Int32) × (Int32) × (Heap) × (List Loc) × (Array Slot)) (fun pc z => W p l e _ s m _ below meth c z.2.2.2.2.2.2.2.2.1 z.2.2.2.2.2.2.2.2.2.1 0 0 _ (F0 m pc z.2.2.2.2.2.2.2.2.2.2 [])) 156 189 (fun z => va_P (dC, dI) kCl (w9 ad ca dom z.1) z.2.2.2.2.2.2.2.2.1 ∧ va_D A (w9 ad ca dom z.1) ∧ va_S A s.heap z.2.2.2.2.2.2.2.2.1 z.2.2.2.2.2.2.2.2.2.1 ∧ clo dom z.1.2.2 ∧ lv_has z.2.2.2.2.2.2.2.2.2.2 8 [(7, .int z.2.1), (4, .int z.2.2.1), (6, .int z.2.2.2.1), (5, .int z.2.2.2.2.1), (3, .int z.2.2.2.2.2.1), (0, .ref (ad 4 0)), (1, .int z.2.2.2.2.2.2.1), (2, .int z.2.2.2.2.2.2.2.1)]) (fun k z => M_baseline_L156 n kx54 k z.1 z.2.1 z.2.2.1 z.2.2.2.1 z.2.2.2.2.1 z.2.2.2.2.2.1 z.2.2.2.2.2.2.1 z.2.2.2.2.2.2.2.1) (fun z => kx54 z.1 z.2.1 z.2.2.1 z.2.2.2.1 z.2.2.2.2.1 z.2.2.2.2.2.1 z.2.2.2.2.2.2.1 z.2.2.2.2.2.2.2.1) _ (fun z => rfl) ?_ ?_ n (σ43, 0, (M_least (xI σ43 508 0 0) 2 (M_least (xI σ43 509 0 0) 4 (M_least s38 2 (M_least s12 2 (M_least s6 7 0))))), s35, 0, s2, a1, a2, H, _, ls) ⟨hP, hD, hS, hC, hl⟩ hf
                  · rintro k ⟨σ46, p47, p48, p49, p50, p51, p52, p53, H, locs, ls⟩ ⟨hP, hD, hS, hC, hl⟩ hf ih55 hXkx54
                    dsimp only at hP hD hS hC hl hf ih55 hXkx54 ⊢
                    unfold M_baseline_L156 at hf
                    have hl : lv_has ls 8 [(7, .int p47), (4, .int p48), (6, .int p49), (5, .int p50), (3, .int p51), (0, .ref (ad 4 0)), (1, .int p52), (2, .int p53)] := hl
                    refine lv_iload (pc := 156) hx hb dM_baseline_156 (lv_at hl 0 rfl) ?_
                    refine lv_bipush (pc := 158) (v := 24) hx hb dM_baseline_158 (by decide) ?_
                    refine lv_icmp_ge (pc := 160) (tgt := 189) hx hb dM_baseline_160 rfl (fun h56 => ?_) (fun h56 => ?_)
                    · replace hf := ite_t h56 hf
                      have hl := lv_sub hl (l' := [(7, .int p47), (4, .int p48), (6, .int p49), (5, .int p50), (3, .int p51), (0, .ref (ad 4 0)), (1, .int p52), (2, .int p53)]) [0, 1, 2, 3, 4, 5, 6, 7] rfl
                      exact hXkx54 (σ46, p47, p48, p49, p50, p51, p52, p53, H, _, ls) ⟨hP, hD, hS, hC, hl⟩ hf
                    · replace hf := ite_f h56 hf
                      refine lv_iload (pc := 163) hx hb dM_baseline_163 (lv_at hl 3 rfl) ?_
                      refine lv_aload_n (pc := 165) hx hb dM_baseline_165 rfl (lv_at hl 5 rfl) ?_
                      obtain ⟨q57, hq57, eq57⟩ := at_4 (ad := ad) (ca := ca) (σ := σ46) hm0
                      refine va_get (D := (dC, dI)) (cl := kCl) (C := RM) (T := TM) (N := 11) (pc := 166) hx hb hts inM hown hK.1 hP q57 eq57 rfl 7 (by decide) (hts _ wd_213) (fun _ h9 => h9) rfl dM_baseline_166 ?_
                      refine lv_iload (pc := 169) hx hb dM_baseline_169 (lv_at hl 0 rfl) ?_
                      obtain ⟨hv58, hf⟩ := ite_s hf
                      obtain ⟨q59, hq59, eq59⟩ := at_18 (ad := ad) (ca := ca) (σ := σ46) (cm_4_7 hC hm0)
                      refine va_iald (D := (dC, dI)) (cl := kCl) (pc := 171) hx hb (hK.2 18 0 .int (cm_4_7 hC hm0) rfl) hP q59 0 eq59 rfl (hv58) dM_baseline_171 ?_
                      refine W.eq (g2 := F0 m 172 ls [.int (xI σ46 18 0 (p47).toNatClampNeg), .int p50]) rfl ?_
                      refine lv_if_lt (pc := 172) (tgt := 179) hx hb dM_baseline_172 rfl (fun h60 => ?_) (fun h60 => ?_)
                      · replace hf := ite_t h60 hf
                        refine lv_iconst (pc := 179) (v := 0) hx hb dM_baseline_179 (by decide) ?_
                        refine lv_iadd (pc := 180) hx hb dM_baseline_180 ?_
                        refine lv_istore (pc := 181) hx hb dM_baseline_181 hl (by decide) rfl (fun ls hl => ?_)
                        have hl : lv_has ls 8 [(5, .int (p50 + 0)), (7, .int p47), (4, .int p48), (6, .int p49), (3, .int p51), (0, .ref (ad 4 0)), (1, .int p52), (2, .int p53)] := hl
                        refine lv_iinc (pc := 183) (v := (p47 + 1)) hx hb dM_baseline_183 hl (k := 1) rfl (by rfl) (by decide) rfl (fun ls hl => ?_)
                        have hl : lv_has ls 8 [(7, .int (p47 + 1)), (5, .int (p50 + 0)), (4, .int p48), (6, .int p49), (3, .int p51), (0, .ref (ad 4 0)), (1, .int p52), (2, .int p53)] := hl
                        refine lv_goto (pc := 186) (tgt := 156) hx hb dM_baseline_186 rfl ?_
                        have hl := lv_sub hl (l' := [(7, .int (p47 + 1)), (4, .int p48), (6, .int p49), (5, .int (p50 + 0)), (3, .int p51), (0, .ref (ad 4 0)), (1, .int p52), (2, .int p53)]) [0, 2, 3, 1, 4, 5, 6, 7] rfl
                        exact ih55 (σ46, (p47 + 1), p48, p49, (p50 + 0), p51, p52, p53, H, _, ls) ⟨hP, hD, hS, hC, hl⟩ hf
                      · replace hf := ite_f h60 hf
                        refine lv_iconst (pc := 175) (v := 1) hx hb dM_baseline_175 (by decide) ?_
                        refine lv_goto (pc := 176) (tgt := 180) hx hb dM_baseline_176 rfl ?_
                        refine lv_iadd (pc := 180) hx hb dM_baseline_180 ?_
                        refine lv_istore (pc := 181) hx hb dM_baseline_181 hl (by decide) rfl (fun ls hl => ?_)
                        have hl : lv_has ls 8 [(5, .int (p50 + 1)), (7, .int p47), (4, .int p48), (6, .int p49), (3, .int p51), (0, .ref (ad 4 0)), (1, .int p52), (2, .int p53)] := hl
                        refine lv_iinc (pc := 183) (v := (p47 + 1)) hx hb dM_baseline_183 hl (k := 1) rfl (by rfl) (by decide) rfl (fun ls hl => ?_)
                        have hl : lv_has ls 8 [(7, .int (p47 + 1)), (5, .int (p50 + 1)), (4, .int p48), (6, .int p49), (3, .int p51), (0, .ref (ad 4 0)), (1, .int p52), (2, .int p53)] := hl
                        refine lv_goto (pc := 186) (tgt := 156) hx hb dM_baseline_186 rfl ?_
                        have hl := lv_sub hl (l' := [(7, .int (p47 + 1)), (4, .int p48), (6, .int p49), (5, .int (p50 + 1)), (3, .int p51), (0, .ref (ad 4 0)), (1, .int p52), (2, .int p53)]) [0, 2, 3, 1, 4, 5, 6, 7] rfl
                        exact ih55 (σ46, (p47 + 1), p48, p49, (p50 + 1), p51, p52, p53, H, _, ls) ⟨hP, hD, hS, hC, hl⟩ hf
                  · rintro ⟨σ46, p47, p48, p49, p50, p51, p52, p53, H, locs, ls⟩ ⟨hP, hD, hS, hC, hl⟩ hf
                    dsimp only at hP hD hS hC hl hf ⊢
                    rw [hkx54] at hf
                    have hl : lv_has ls 8 [(7, .int p47), (4, .int p48), (6, .int p49), (5, .int p50), (3, .int p51), (0, .ref (ad 4 0)), (1, .int p52), (2, .int p53)] := hl
                    have hl := lv_sub hl (l' := [(5, .int p50), (4, .int p48), (3, .int p51), (0, .ref (ad 4 0)), (1, .int p52), (2, .int p53)]) [3, 1, 4, 5, 6, 7] rfl
                    exact hJx24 (σ46, p50, p48, p51, p52, p53, H, _, ls) ⟨hP, hD, hS, hC, hl⟩ hf
        · rintro ⟨σ25, q26, q27, q28, q29, q30, H, locs, ls⟩ ⟨hP, hD, hS, hC, hl⟩ hf
          dsimp only at hP hD hS hC hl hf ⊢
          rw [hx24] at hf
          have hl : lv_has ls 8 [(5, .int q26), (4, .int q27), (3, .int q28), (0, .ref (ad 4 0)), (1, .int q29), (2, .int q30)] := hl
          refine lv_aload_n (pc := 189) hx hb dM_baseline_189 rfl (lv_at hl 3 rfl) ?_
          refine lv_iload (pc := 190) hx hb dM_baseline_190 (lv_at hl 1 rfl) ?_
          refine lv_iconst (pc := 192) (v := 1) hx hb dM_baseline_192 (by decide) ?_
          refine lv_iload (pc := 193) hx hb dM_baseline_193 (lv_at hl 0 rfl) ?_
          refine vp_callSi (pc := 195) (W.runS (As := [.int q26]) (rest := [.int 1, .int q27, .ref (ad 4 0)]) ⟨hx, hb, hml, hown, hts⟩ (t_M_parts l dC dI ad ca dom q26 σ25 hN hC (M_parts q26) rfl) (cwS 1 hts (gS wd_105 wd_106 wd_50 wd_104) rfl rfl rfl (by decide +kernel) ⟨Nat.le_of_ble_eq_true rfl, Nat.le_of_ble_eq_true rfl⟩) ⟨hR_blind, hR_pre hP hK hG⟩ rfl rfl hl.1 rfl (lv_room (Nat.le_of_ble_eq_true rfl)) dM_baseline_195 ⟨Nat.le_of_ble_eq_true rfl, Nat.le_of_ble_eq_true rfl⟩) (fun r9 hr9 => ?_)
          refine W.eq (g2 := F0 m 198 ls [.int (M_parts q26), .int 1, .int q27, .ref (ad 4 0)]) (by rw [hr9]) ?_
          refine lv_iadd (pc := 198) hx hb dM_baseline_198 ?_
          obtain ⟨q61, hq61, eq61⟩ := at_4 (ad := ad) (ca := ca) (σ := σ25) hm0
          obtain ⟨⟨y62, σ63⟩, hy62, hf⟩ := ob hf
          have hFc := w9_free hD hS hA
          refine va_calli (pc := 199) (va_runV (As := [.int q27, .int (1 + (M_parts q26))]) (rest := []) ⟨hx, hb, hml, hown, hts⟩ (t_M_may l dC dI ad ca dom H.size σ25 q27 (1 + (M_parts q26)) hm0 hN hC y62 σ63 hy62) (cwV 2 hts (gV wd_140 wd_141 wd_142 wd_50 wd_139) rfl rfl rfl (by decide +kernel) ⟨Nat.le_of_ble_eq_true rfl, Nat.le_of_ble_eq_true rfl⟩) ⟨hW_blind, va_recv (q := (RM, TM, 11)) (q0 := q61) (ci := 4) hK.1 hP rfl eq61, hW_pre hP hK hD hG⟩ rfl rfl hl.1 rfl (lv_room (Nat.le_of_ble_eq_true rfl)) dM_baseline_199 ⟨Nat.le_of_ble_eq_true rfl, Nat.le_of_ble_eq_true rfl⟩) hS (fun q _ h => hFc q h) hFc (fun r9 u t H1 locs ht hvm hr9 hB hz1 hk1 hS => ?_)
          obtain ⟨hP, hD, hC⟩ := hB
          rw [ht] at hP
          replace hD := hD.weaken (fun _ _ _ h => hFc _ h)
          generalize H1 = H at hP hS ⊢
          refine W.eq (g2 := F0 m 202 ls [.int y62]) (by rw [hr9]) ?_
          refine lv_if_ne (pc := 202) (tgt := 218) hx hb dM_baseline_202 rfl (fun h64 => ?_) (fun h64 => ?_)
          · replace hf := ite_f h64 hf
            refine lv_aload_n (pc := 218) hx hb dM_baseline_218 rfl (lv_at hl 3 rfl) ?_
            refine lv_iload_n (pc := 219) hx hb dM_baseline_219 rfl (lv_at hl 4 rfl) ?_
            obtain ⟨q65, hq65, eq65⟩ := at_4 (ad := ad) (ca := ca) (σ := σ63) hm0
            refine vp_callSi (pc := 220) (W.runV (As := [.int q29]) (rest := []) ⟨hx, hb, hml, hown, hts⟩ (t_M_baselineAt l dC dI ad ca dom q29 hm0 σ63 hN hC (M_baselineAt q29) rfl) (cwV 1 hts (gV wd_124 wd_125 wd_126 wd_50 wd_123) rfl rfl rfl (by decide +kernel) ⟨Nat.le_of_ble_eq_true rfl, Nat.le_of_ble_eq_true rfl⟩) ⟨hR_blind, va_recv (q := (RM, TM, 11)) (q0 := q65) (ci := 4) hK.1 hP rfl eq65, hR_pre hP hK hG⟩ rfl rfl hl.1 rfl (lv_room (Nat.le_of_ble_eq_true rfl)) dM_baseline_220 ⟨Nat.le_of_ble_eq_true rfl, Nat.le_of_ble_eq_true rfl⟩) (fun r9 hr9 => ?_)
            refine W.eq (g2 := F0 m 223 ls [.int (M_baselineAt q29)]) (by rw [hr9]) ?_
            refine lv_istore (pc := 223) hx hb dM_baseline_223 hl (by decide) rfl (fun ls hl => ?_)
            have hl : lv_has ls 8 [(6, .int (M_baselineAt q29)), (5, .int q26), (4, .int q27), (3, .int q28), (0, .ref (ad 4 0)), (1, .int q29), (2, .int q30)] := hl
            refine lv_aload_n (pc := 225) hx hb dM_baseline_225 rfl (lv_at hl 4 rfl) ?_
            obtain ⟨q66, hq66, eq66⟩ := at_4 (ad := ad) (ca := ca) (σ := σ63) hm0
            refine va_get (D := (dC, dI)) (cl := kCl) (C := RM) (T := TM) (N := 11) (pc := 226) hx hb hts inM hown hK.1 hP q66 eq66 rfl 2 (by decide) (hts _ wd_51) (fun _ h9 => h9) rfl dM_baseline_226 ?_
            refine lv_iload (pc := 229) hx hb dM_baseline_229 (lv_at hl 0 rfl) ?_
            refine lv_iconst (pc := 231) (v := 1) hx hb dM_baseline_231 (by decide) ?_
            obtain ⟨hv68, hf⟩ := ite_s hf
            obtain ⟨q69, hq69, eq69⟩ := at_15 (ad := ad) (ca := ca) (σ := σ63) (cm_4_2 hC hm0)
            refine va_iast (D := (dC, dI)) (cl := kCl) (pc := 232) hx hb (hK.2 15 0 .int (cm_4_2 hC hm0) rfl) hP hD hS q69 0 eq69 rfl (hv68) dM_baseline_232 (fun H locs hP hD hS => ?_)
            obtain ⟨σ67, hσ67, hf⟩ := lt_9 hf
            obtain ⟨hP, hD⟩ := w9_rI 15 rfl hN hq69 hσ67 (pr_15) hP hD
            have hC : clo dom σ67.2.2 := by rw [hσ67]; exact hC
            refine lv_aload_n (pc := 233) hx hb dM_baseline_233 rfl (lv_at hl 4 rfl) ?_
            obtain ⟨q70, hq70, eq70⟩ := at_4 (ad := ad) (ca := ca) (σ := σ67) hm0
            refine va_get (D := (dC, dI)) (cl := kCl) (C := RM) (T := TM) (N := 11) (pc := 234) hx hb hts inM hown hK.1 hP q70 eq70 rfl 2 (by decide) (hts _ wd_51) (fun _ h9 => h9) rfl dM_baseline_234 ?_
            refine lv_iload (pc := 237) hx hb dM_baseline_237 (lv_at hl 0 rfl) ?_
            refine lv_iconst (pc := 239) (v := 1) hx hb dM_baseline_239 (by decide) ?_
            refine lv_iadd (pc := 240) hx hb dM_baseline_240 ?_
            refine lv_iload (pc := 241) hx hb dM_baseline_241 (lv_at hl 1 rfl) ?_
            obtain ⟨hv72, hf⟩ := ite_s hf
            obtain ⟨q73, hq73, eq73⟩ := at_15 (ad := ad) (ca := ca) (σ := σ67) (cm_4_2 hC hm0)
            refine va_iast (D := (dC, dI)) (cl := kCl) (pc := 243) hx hb (hK.2 15 0 .int (cm_4_2 hC hm0) rfl) hP hD hS q73 0 eq73 rfl (hv72) dM_baseline_243 (fun H locs hP hD hS => ?_)
            obtain ⟨σ71, hσ71, hf⟩ := lt_9 hf
            obtain ⟨hP, hD⟩ := w9_rI 15 rfl hN hq73 hσ71 (pr_15) hP hD
            have hC : clo dom σ71.2.2 := by rw [hσ71]; exact hC
            refine lv_iconst (pc := 244) (v := 0) hx hb dM_baseline_244 (by decide) ?_
            refine lv_istore (pc := 245) hx hb dM_baseline_245 hl (by decide) rfl (fun ls hl => ?_)
            have hl : lv_has ls 8 [(7, .int 0), (6, .int (M_baselineAt q29)), (5, .int q26), (4, .int q27), (3, .int q28), (0, .ref (ad 4 0)), (1, .int q29), (2, .int q30)] := hl
            obtain ⟨kx82, hkx82, hf⟩ := lt_9 hf
            refine lpF (τ := (hT) × (Int32) × (Int32) × (Int32) × (Int32) × (Int32) × (Int32) × (Int32) × (Heap) × (List Loc) × (Array Slot)) (fun pc z => W p l e _ s m _ below meth c z.2.2.2.2.2.2.2.2.1 z.2.2.2.2.2.2.2.2.2.1 0 0 _ (F0 m pc z.2.2.2.2.2.2.2.2.2.2 [])) 247 281 (fun z => va_P (dC, dI) kCl (w9 ad ca dom z.1) z.2.2.2.2.2.2.2.2.1 ∧ va_D A (w9 ad ca dom z.1) ∧ va_S A s.heap z.2.2.2.2.2.2.2.2.1 z.2.2.2.2.2.2.2.2.2.1 ∧ clo dom z.1.2.2 ∧ lv_has z.2.2.2.2.2.2.2.2.2.2 8 [(7, .int z.2.1), (6, .int z.2.2.1), (5, .int z.2.2.2.1), (4, .int z.2.2.2.2.1), (3, .int z.2.2.2.2.2.1), (0, .ref (ad 4 0)), (1, .int z.2.2.2.2.2.2.1), (2, .int z.2.2.2.2.2.2.2.1)]) (fun k z => M_baseline_L247 n kx82 k z.1 z.2.1 z.2.2.1 z.2.2.2.1 z.2.2.2.2.1 z.2.2.2.2.2.1 z.2.2.2.2.2.2.1 z.2.2.2.2.2.2.2.1) (fun z => kx82 z.1 z.2.1 z.2.2.1 z.2.2.2.1 z.2.2.2.2.1 z.2.2.2.2.2.1 z.2.2.2.2.2.2.1 z.2.2.2.2.2.2.2.1) _ (fun z => rfl) ?_ ?_ n (σ71, 0, (M_baselineAt q29), q26, q27, q28, q29, q30, H, _, ls) ⟨hP, hD, hS, hC, hl⟩ hf
            · rintro k ⟨σ74, p75, p76, p77, p78, p79, p80, p81, H, locs, ls⟩ ⟨hP, hD, hS, hC, hl⟩ hf ih83 hXkx82
              dsimp only at hP hD hS hC hl hf ih83 hXkx82 ⊢
              unfold M_baseline_L247 at hf
              have hl : lv_has ls 8 [(7, .int p75), (6, .int p76), (5, .int p77), (4, .int p78), (3, .int p79), (0, .ref (ad 4 0)), (1, .int p80), (2, .int p81)] := hl
              refine lv_iload (pc := 247) hx hb dM_baseline_247 (lv_at hl 0 rfl) ?_
              refine lv_bipush (pc := 249) (v := 24) hx hb dM_baseline_249 (by decide) ?_
              refine lv_icmp_ge (pc := 251) (tgt := 281) hx hb dM_baseline_251 rfl (fun h84 => ?_) (fun h84 => ?_)
              · replace hf := ite_t h84 hf
                have hl := lv_sub hl (l' := [(7, .int p75), (6, .int p76), (5, .int p77), (4, .int p78), (3, .int p79), (0, .ref (ad 4 0)), (1, .int p80), (2, .int p81)]) [0, 1, 2, 3, 4, 5, 6, 7] rfl
                exact hXkx82 (σ74, p75, p76, p77, p78, p79, p80, p81, H, _, ls) ⟨hP, hD, hS, hC, hl⟩ hf
              · replace hf := ite_f h84 hf
                refine lv_aload_n (pc := 254) hx hb dM_baseline_254 rfl (lv_at hl 5 rfl) ?_
                obtain ⟨q85, hq85, eq85⟩ := at_4 (ad := ad) (ca := ca) (σ := σ74) hm0
                refine va_get (D := (dC, dI)) (cl := kCl) (C := RM) (T := TM) (N := 11) (pc := 255) hx hb hts inM hown hK.1 hP q85 eq85 rfl 2 (by decide) (hts _ wd_51) (fun _ h9 => h9) rfl dM_baseline_255 ?_
                refine lv_iload (pc := 258) hx hb dM_baseline_258 (lv_at hl 1 rfl) ?_
                refine lv_iconst (pc := 260) (v := 2) hx hb dM_baseline_260 (by decide) ?_
                refine lv_iadd (pc := 261) hx hb dM_baseline_261 ?_
                refine lv_iload (pc := 262) hx hb dM_baseline_262 (lv_at hl 0 rfl) ?_
                refine lv_iadd (pc := 264) hx hb dM_baseline_264 ?_
                refine lv_aload_n (pc := 265) hx hb dM_baseline_265 rfl (lv_at hl 5 rfl) ?_
                obtain ⟨q86, hq86, eq86⟩ := at_4 (ad := ad) (ca := ca) (σ := σ74) hm0
                refine va_get (D := (dC, dI)) (cl := kCl) (C := RM) (T := TM) (N := 11) (pc := 266) hx hb hts inM hown hK.1 hP q86 eq86 rfl 7 (by decide) (hts _ wd_213) (fun _ h9 => h9) rfl dM_baseline_266 ?_
                refine lv_iload (pc := 269) hx hb dM_baseline_269 (lv_at hl 0 rfl) ?_
                obtain ⟨hv87, hf⟩ := ite_s hf
                obtain ⟨q88, hq88, eq88⟩ := at_18 (ad := ad) (ca := ca) (σ := σ74) (cm_4_7 hC hm0)
                refine va_iald (D := (dC, dI)) (cl := kCl) (pc := 271) hx hb (hK.2 18 0 .int (cm_4_7 hC hm0) rfl) hP q88 0 eq88 rfl (hv87) dM_baseline_271 ?_
                refine W.eq (g2 := F0 m 272 ls [.int (xI σ74 18 0 (p75).toNatClampNeg), .int ((p76 + 2) + p75), .ref (ad 15 0)]) rfl ?_
                refine lv_iconst (pc := 272) (v := 1) hx hb dM_baseline_272 (by decide) ?_
                refine lv_iadd (pc := 273) hx hb dM_baseline_273 ?_
                obtain ⟨hv90, hf⟩ := ite_s hf
                obtain ⟨q91, hq91, eq91⟩ := at_15 (ad := ad) (ca := ca) (σ := σ74) (cm_4_2 hC hm0)
                refine va_iast (D := (dC, dI)) (cl := kCl) (pc := 274) hx hb (hK.2 15 0 .int (cm_4_2 hC hm0) rfl) hP hD hS q91 0 eq91 rfl (hv90) dM_baseline_274 (fun H locs hP hD hS => ?_)
                obtain ⟨σ89, hσ89, hf⟩ := lt_9 hf
                obtain ⟨hP, hD⟩ := w9_rI 15 rfl hN hq91 hσ89 (pr_15) hP hD
                have hC : clo dom σ89.2.2 := by rw [hσ89]; exact hC
                refine lv_iinc (pc := 275) (v := (p75 + 1)) hx hb dM_baseline_275 hl (k := 0) rfl (by rfl) (by decide) rfl (fun ls hl => ?_)
                have hl : lv_has ls 8 [(7, .int (p75 + 1)), (6, .int p76), (5, .int p77), (4, .int p78), (3, .int p79), (0, .ref (ad 4 0)), (1, .int p80), (2, .int p81)] := hl
                refine lv_goto (pc := 278) (tgt := 247) hx hb dM_baseline_278 rfl ?_
                have hl := lv_sub hl (l' := [(7, .int (p75 + 1)), (6, .int p76), (5, .int p77), (4, .int p78), (3, .int p79), (0, .ref (ad 4 0)), (1, .int p80), (2, .int p81)]) [0, 1, 2, 3, 4, 5, 6, 7] rfl
                exact ih83 (σ89, (p75 + 1), p76, p77, p78, p79, p80, p81, H, _, ls) ⟨hP, hD, hS, hC, hl⟩ hf
            · rintro ⟨σ74, p75, p76, p77, p78, p79, p80, p81, H, locs, ls⟩ ⟨hP, hD, hS, hC, hl⟩ hf
              dsimp only at hP hD hS hC hl hf ⊢
              rw [hkx82] at hf
              have hl : lv_has ls 8 [(7, .int p75), (6, .int p76), (5, .int p77), (4, .int p78), (3, .int p79), (0, .ref (ad 4 0)), (1, .int p80), (2, .int p81)] := hl
              refine lv_aload_n (pc := 281) hx hb dM_baseline_281 rfl (lv_at hl 5 rfl) ?_
              obtain ⟨q92, hq92, eq92⟩ := at_4 (ad := ad) (ca := ca) (σ := σ74) hm0
              obtain ⟨⟨y93, σ94⟩, hy93, hf⟩ := ob hf
              have hFc := w9_free hD hS hA
              refine va_callv (pc := 282) (va_runV (As := []) (rest := []) ⟨hx, hb, hml, hown, hts⟩ (t_M_close l dC dI ad ca dom H.size n σ74 hm0 hN hC y93 σ94 hy93) (cwV 0 hts (gV wd_144 wd_145 wd_146 wd_50 wd_143) rfl rfl rfl (by decide +kernel) ⟨Nat.le_of_ble_eq_true rfl, Nat.le_of_ble_eq_true rfl⟩) ⟨hW_blind, va_recv (q := (RM, TM, 11)) (q0 := q92) (ci := 4) hK.1 hP rfl eq92, hW_pre hP hK hD hG⟩ rfl rfl hl.1 rfl (lv_room (Nat.le_of_ble_eq_true rfl)) dM_baseline_282 ⟨Nat.le_of_ble_eq_true rfl, Nat.le_of_ble_eq_true rfl⟩) hS (fun q _ h => hFc q h) hFc (fun u t H1 locs ht hvm hr9 hB hz1 hk1 hS => ?_)
              obtain ⟨hP, hD, hC⟩ := hB
              rw [ht] at hP
              replace hD := hD.weaken (fun _ _ _ h => hFc _ h)
              generalize H1 = H at hP hS ⊢
              refine lv_iload (pc := 285) hx hb dM_baseline_285 (lv_at hl 2 rfl) ?_
              obtain ⟨h8, h9⟩ := Prod.mk.inj (Option.some.inj hf)
              subst h9
              exact W.iret (pc := 287) hx hb hr (fun t ht hW => ⟨⟨_, (), rfl, h8, by rw [ht]; exact hP, hD, hC⟩, hS.F ht⟩) hS.2.2 dM_baseline_287
          · replace hf := ite_t h64 hf
            refine lv_aload_n (pc := 205) hx hb dM_baseline_205 rfl (lv_at hl 3 rfl) ?_
            obtain ⟨q95, hq95, eq95⟩ := at_4 (ad := ad) (ca := ca) (σ := σ63) hm0
            refine va_get (D := (dC, dI)) (cl := kCl) (C := RM) (T := TM) (N := 11) (pc := 206) hx hb hts inM hown hK.1 hP q95 eq95 rfl 0 (by decide) (hts _ wd_45) (fun _ h9 => h9) rfl dM_baseline_206 ?_
            refine lv_if_le (pc := 209) (tgt := 216) hx hb dM_baseline_209 rfl (fun h96 => ?_) (fun h96 => ?_)
            · replace hf := ite_t h96 hf
              refine lv_iconst (pc := 216) (v := (-1)) hx hb dM_baseline_216 (by decide) ?_
              obtain ⟨h8, h9⟩ := Prod.mk.inj (Option.some.inj hf)
              subst h9
              exact W.iret (pc := 217) hx hb hr (fun t ht hW => ⟨⟨_, (), rfl, h8, by rw [ht]; exact hP, hD, hC⟩, hS.F ht⟩) hS.2.2 dM_baseline_217
            · replace hf := ite_f h96 hf
              refine lv_iconst (pc := 212) (v := 0) hx hb dM_baseline_212 (by decide) ?_
              refine lv_goto (pc := 213) (tgt := 217) hx hb dM_baseline_213 rfl ?_
              obtain ⟨h8, h9⟩ := Prod.mk.inj (Option.some.inj hf)
              subst h9
              exact W.iret (pc := 217) hx hb hr (fun t ht hW => ⟨⟨_, (), rfl, h8, by rw [ht]; exact hP, hD, hC⟩, hS.F ht⟩) hS.2.2 dM_baseline_217
