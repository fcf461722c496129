abbrev cV_needPower : ByteArray := prog_1_method_25_code
abbrev yV_needPower : MethodName := ⟨"DrawingVault", "needPower", "()V"⟩
theorem dV_needPower_0 : decode cV_needPower 0 = .ok (.aload_n 0, 1) := by decide +kernel
theorem dV_needPower_1 : decode cV_needPower 1 = .ok (.getfield 40, 3) := by decide +kernel
theorem dV_needPower_4 : decode cV_needPower 4 = .ok (.getfield 230, 3) := by decide +kernel
theorem dV_needPower_7 : decode cV_needPower 7 = .ok (.ifCond .eq 11, 3) := by decide +kernel
theorem dV_needPower_18 : decode cV_needPower 18 = .ok (.return_, 1) := by decide +kernel
abbrev cV_mayWrite : ByteArray := prog_1_method_27_code
abbrev yV_mayWrite : MethodName := ⟨"DrawingVault", "mayWrite", "(II)Z"⟩
theorem dV_mayWrite_0 : decode cV_mayWrite 0 = .ok (.iload_n 1, 1) := by decide +kernel
theorem dV_mayWrite_1 : decode cV_mayWrite 1 = .ok (.ifCond .ne 21, 3) := by decide +kernel
theorem dV_mayWrite_4 : decode cV_mayWrite 4 = .ok (.iload_n 2, 1) := by decide +kernel
theorem dV_mayWrite_5 : decode cV_mayWrite 5 = .ok (.aload_n 0, 1) := by decide +kernel
theorem dV_mayWrite_6 : decode cV_mayWrite 6 = .ok (.getfield 40, 3) := by decide +kernel
theorem dV_mayWrite_9 : decode cV_mayWrite 9 = .ok (.getfield 253, 3) := by decide +kernel
theorem dV_mayWrite_12 : decode cV_mayWrite 12 = .ok (.if_icmp .le 10, 3) := by decide +kernel
theorem dV_mayWrite_15 : decode cV_mayWrite 15 = .ok (.aload_n 0, 1) := by decide +kernel
theorem dV_mayWrite_16 : decode cV_mayWrite 16 = .ok (.bipush 8, 2) := by decide +kernel
theorem dV_mayWrite_18 : decode cV_mayWrite 18 = .ok (.invokevirtual 100, 3) := by decide +kernel
theorem dV_mayWrite_21 : decode cV_mayWrite 21 = .ok (.ireturn, 1) := by decide +kernel
theorem dV_mayWrite_22 : decode cV_mayWrite 22 = .ok (.iload_n 1, 1) := by decide +kernel
theorem dV_mayWrite_23 : decode cV_mayWrite 23 = .ok (.ifCond .ne 30, 3) := by decide +kernel
theorem dV_mayWrite_26 : decode cV_mayWrite 26 = .ok (.aload_n 0, 1) := by decide +kernel
theorem dV_mayWrite_27 : decode cV_mayWrite 27 = .ok (.getfield 40, 3) := by decide +kernel
theorem dV_mayWrite_30 : decode cV_mayWrite 30 = .ok (.iload_n 2, 1) := by decide +kernel
theorem dV_mayWrite_31 : decode cV_mayWrite 31 = .ok (.invokevirtual 268, 3) := by decide +kernel
theorem dV_mayWrite_34 : decode cV_mayWrite 34 = .ok (.ifCond .eq 19, 3) := by decide +kernel
theorem dV_mayWrite_37 : decode cV_mayWrite 37 = .ok (.aload_n 0, 1) := by decide +kernel
theorem dV_mayWrite_38 : decode cV_mayWrite 38 = .ok (.getfield 40, 3) := by decide +kernel
theorem dV_mayWrite_41 : decode cV_mayWrite 41 = .ok (.iconst 1, 1) := by decide +kernel
theorem dV_mayWrite_42 : decode cV_mayWrite 42 = .ok (.putfield 230, 3) := by decide +kernel
theorem dV_mayWrite_53 : decode cV_mayWrite 53 = .ok (.aload_n 0, 1) := by decide +kernel
theorem dV_mayWrite_54 : decode cV_mayWrite 54 = .ok (.iload_n 1, 1) := by decide +kernel
theorem dV_mayWrite_55 : decode cV_mayWrite 55 = .ok (.invokevirtual 100, 3) := by decide +kernel
theorem dV_mayWrite_58 : decode cV_mayWrite 58 = .ok (.ireturn, 1) := by decide +kernel
abbrev cV_becomes : ByteArray := prog_1_method_29_code
abbrev yV_becomes : MethodName := ⟨"DrawingVault", "becomes", "(IIII)Z"⟩
theorem dV_becomes_0 : decode cV_becomes 0 = .ok (.aload_n 0, 1) := by decide +kernel
theorem dV_becomes_1 : decode cV_becomes 1 = .ok (.iload_n 1, 1) := by decide +kernel
theorem dV_becomes_2 : decode cV_becomes 2 = .ok (.iload_n 2, 1) := by decide +kernel
theorem dV_becomes_3 : decode cV_becomes 3 = .ok (.invokevirtual 163, 3) := by decide +kernel
theorem dV_becomes_6 : decode cV_becomes 6 = .ok (.astore 5, 2) := by decide +kernel
theorem dV_becomes_8 : decode cV_becomes 8 = .ok (.aload_n 0, 1) := by decide +kernel
theorem dV_becomes_9 : decode cV_becomes 9 = .ok (.iload 4, 2) := by decide +kernel
theorem dV_becomes_11 : decode cV_becomes 11 = .ok (.iconst 1, 1) := by decide +kernel
theorem dV_becomes_12 : decode cV_becomes 12 = .ok (.invokevirtual 51, 3) := by decide +kernel
theorem dV_becomes_15 : decode cV_becomes 15 = .ok (.ifCond .eq 8, 3) := by decide +kernel
theorem dV_becomes_18 : decode cV_becomes 18 = .ok (.aload 5, 2) := by decide +kernel
theorem dV_becomes_20 : decode cV_becomes 20 = .ok (.ifnonnull 5, 3) := by decide +kernel
theorem dV_becomes_23 : decode cV_becomes 23 = .ok (.iconst 0, 1) := by decide +kernel
theorem dV_becomes_24 : decode cV_becomes 24 = .ok (.ireturn, 1) := by decide +kernel
theorem dV_becomes_25 : decode cV_becomes 25 = .ok (.aload 5, 2) := by decide +kernel
theorem dV_becomes_27 : decode cV_becomes 27 = .ok (.iload_n 3, 1) := by decide +kernel
theorem dV_becomes_28 : decode cV_becomes 28 = .ok (.putfield 170, 3) := by decide +kernel
theorem dV_becomes_31 : decode cV_becomes 31 = .ok (.aload_n 0, 1) := by decide +kernel
theorem dV_becomes_32 : decode cV_becomes 32 = .ok (.iconst 1, 1) := by decide +kernel
theorem dV_becomes_33 : decode cV_becomes 33 = .ok (.invokevirtual 55, 3) := by decide +kernel
theorem dV_becomes_36 : decode cV_becomes 36 = .ok (.iconst 1, 1) := by decide +kernel
theorem dV_becomes_37 : decode cV_becomes 37 = .ok (.ireturn, 1) := by decide +kernel
abbrev cV_person : ByteArray := prog_1_method_2_code
abbrev yV_person : MethodName := ⟨"DrawingVault", "person", "(II)Z"⟩
theorem dV_person_0 : decode cV_person 0 = .ok (.aload_n 0, 1) := by decide +kernel
theorem dV_person_1 : decode cV_person 1 = .ok (.invokevirtual 44, 3) := by decide +kernel
theorem dV_person_4 : decode cV_person 4 = .ok (.iload_n 1, 1) := by decide +kernel
theorem dV_person_5 : decode cV_person 5 = .ok (.invokestatic 47, 3) := by decide +kernel
theorem dV_person_8 : decode cV_person 8 = .ok (.ifCond .eq 17, 3) := by decide +kernel
theorem dV_person_11 : decode cV_person 11 = .ok (.iload_n 2, 1) := by decide +kernel
theorem dV_person_12 : decode cV_person 12 = .ok (.ifCond .lt 13, 3) := by decide +kernel
theorem dV_person_15 : decode cV_person 15 = .ok (.iload_n 2, 1) := by decide +kernel
theorem dV_person_16 : decode cV_person 16 = .ok (.bipush 7, 2) := by decide +kernel
theorem dV_person_18 : decode cV_person 18 = .ok (.if_icmp .gt 7, 3) := by decide +kernel
theorem dV_person_21 : decode cV_person 21 = .ok (.iconst 1, 1) := by decide +kernel
theorem dV_person_22 : decode cV_person 22 = .ok (.goto 4, 3) := by decide +kernel
theorem dV_person_25 : decode cV_person 25 = .ok (.iconst 0, 1) := by decide +kernel
theorem dV_person_26 : decode cV_person 26 = .ok (.istore_n 3, 1) := by decide +kernel
theorem dV_person_27 : decode cV_person 27 = .ok (.aload_n 0, 1) := by decide +kernel
theorem dV_person_28 : decode cV_person 28 = .ok (.iload_n 3, 1) := by decide +kernel
theorem dV_person_29 : decode cV_person 29 = .ok (.ifCond .eq 7, 3) := by decide +kernel
theorem dV_person_32 : decode cV_person 32 = .ok (.iconst 0, 1) := by decide +kernel
theorem dV_person_33 : decode cV_person 33 = .ok (.goto 5, 3) := by decide +kernel
theorem dV_person_36 : decode cV_person 36 = .ok (.bipush 7, 2) := by decide +kernel
theorem dV_person_38 : decode cV_person 38 = .ok (.iconst 1, 1) := by decide +kernel
theorem dV_person_39 : decode cV_person 39 = .ok (.invokevirtual 51, 3) := by decide +kernel
theorem dV_person_42 : decode cV_person 42 = .ok (.ifCond .ne 5, 3) := by decide +kernel
theorem dV_person_45 : decode cV_person 45 = .ok (.iconst 0, 1) := by decide +kernel
theorem dV_person_46 : decode cV_person 46 = .ok (.ireturn, 1) := by decide +kernel
theorem dV_person_47 : decode cV_person 47 = .ok (.aload_n 0, 1) := by decide +kernel
theorem dV_person_48 : decode cV_person 48 = .ok (.getfield 9, 3) := by decide +kernel
theorem dV_person_51 : decode cV_person 51 = .ok (.iload_n 1, 1) := by decide +kernel
theorem dV_person_52 : decode cV_person 52 = .ok (.iload_n 2, 1) := by decide +kernel
theorem dV_person_53 : decode cV_person 53 = .ok (.iastore, 1) := by decide +kernel
theorem dV_person_54 : decode cV_person 54 = .ok (.aload_n 0, 1) := by decide +kernel
theorem dV_person_55 : decode cV_person 55 = .ok (.iconst 1, 1) := by decide +kernel
theorem dV_person_56 : decode cV_person 56 = .ok (.invokevirtual 55, 3) := by decide +kernel
theorem dV_person_59 : decode cV_person 59 = .ok (.iconst 1, 1) := by decide +kernel
theorem dV_person_60 : decode cV_person 60 = .ok (.ireturn, 1) := by decide +kernel
abbrev cV_out : ByteArray := prog_1_method_4_code
abbrev yV_out : MethodName := ⟨"DrawingVault", "out", "(II)Z"⟩
theorem dV_out_0 : decode cV_out 0 = .ok (.aload_n 0, 1) := by decide +kernel
theorem dV_out_1 : decode cV_out 1 = .ok (.invokevirtual 44, 3) := by decide +kernel
theorem dV_out_4 : decode cV_out 4 = .ok (.aload_n 0, 1) := by decide +kernel
theorem dV_out_5 : decode cV_out 5 = .ok (.iload_n 1, 1) := by decide +kernel
theorem dV_out_6 : decode cV_out 6 = .ok (.invokevirtual 74, 3) := by decide +kernel
theorem dV_out_9 : decode cV_out 9 = .ok (.astore_n 3, 1) := by decide +kernel
theorem dV_out_10 : decode cV_out 10 = .ok (.aload_n 0, 1) := by decide +kernel
theorem dV_out_11 : decode cV_out 11 = .ok (.aload_n 0, 1) := by decide +kernel
theorem dV_out_12 : decode cV_out 12 = .ok (.aload_n 3, 1) := by decide +kernel
theorem dV_out_13 : decode cV_out 13 = .ok (.iload_n 2, 1) := by decide +kernel
theorem dV_out_14 : decode cV_out 14 = .ok (.invokevirtual 78, 3) := by decide +kernel
theorem dV_out_17 : decode cV_out 17 = .ok (.iconst 1, 1) := by decide +kernel
theorem dV_out_18 : decode cV_out 18 = .ok (.invokevirtual 51, 3) := by decide +kernel
theorem dV_out_21 : decode cV_out 21 = .ok (.ifCond .ne 5, 3) := by decide +kernel
theorem dV_out_24 : decode cV_out 24 = .ok (.iconst 0, 1) := by decide +kernel
theorem dV_out_25 : decode cV_out 25 = .ok (.ireturn, 1) := by decide +kernel
theorem dV_out_26 : decode cV_out 26 = .ok (.aload_n 3, 1) := by decide +kernel
theorem dV_out_27 : decode cV_out 27 = .ok (.iload_n 2, 1) := by decide +kernel
theorem dV_out_28 : decode cV_out 28 = .ok (.invokevirtual 82, 3) := by decide +kernel
theorem dV_out_31 : decode cV_out 31 = .ok (.aload_n 0, 1) := by decide +kernel
theorem dV_out_32 : decode cV_out 32 = .ok (.iconst 1, 1) := by decide +kernel
theorem dV_out_33 : decode cV_out 33 = .ok (.invokevirtual 55, 3) := by decide +kernel
theorem dV_out_36 : decode cV_out 36 = .ok (.iconst 1, 1) := by decide +kernel
theorem dV_out_37 : decode cV_out 37 = .ok (.ireturn, 1) := by decide +kernel
abbrev cV_undo : ByteArray := prog_1_method_5_code
abbrev yV_undo : MethodName := ⟨"DrawingVault", "undo", "(II)Z"⟩
theorem dV_undo_0 : decode cV_undo 0 = .ok (.aload_n 0, 1) := by decide +kernel
theorem dV_undo_1 : decode cV_undo 1 = .ok (.invokevirtual 44, 3) := by decide +kernel
theorem dV_undo_4 : decode cV_undo 4 = .ok (.aload_n 0, 1) := by decide +kernel
theorem dV_undo_5 : decode cV_undo 5 = .ok (.iload_n 1, 1) := by decide +kernel
theorem dV_undo_6 : decode cV_undo 6 = .ok (.invokevirtual 74, 3) := by decide +kernel
theorem dV_undo_9 : decode cV_undo 9 = .ok (.astore_n 3, 1) := by decide +kernel
theorem dV_undo_10 : decode cV_undo 10 = .ok (.aload_n 0, 1) := by decide +kernel
theorem dV_undo_11 : decode cV_undo 11 = .ok (.aload_n 0, 1) := by decide +kernel
theorem dV_undo_12 : decode cV_undo 12 = .ok (.aload_n 3, 1) := by decide +kernel
theorem dV_undo_13 : decode cV_undo 13 = .ok (.iload_n 2, 1) := by decide +kernel
theorem dV_undo_14 : decode cV_undo 14 = .ok (.invokevirtual 85, 3) := by decide +kernel
theorem dV_undo_17 : decode cV_undo 17 = .ok (.iconst 1, 1) := by decide +kernel
theorem dV_undo_18 : decode cV_undo 18 = .ok (.invokevirtual 51, 3) := by decide +kernel
theorem dV_undo_21 : decode cV_undo 21 = .ok (.ifCond .ne 5, 3) := by decide +kernel
theorem dV_undo_24 : decode cV_undo 24 = .ok (.iconst 0, 1) := by decide +kernel
theorem dV_undo_25 : decode cV_undo 25 = .ok (.ireturn, 1) := by decide +kernel
theorem dV_undo_26 : decode cV_undo 26 = .ok (.aload_n 3, 1) := by decide +kernel
theorem dV_undo_27 : decode cV_undo 27 = .ok (.invokevirtual 88, 3) := by decide +kernel
theorem dV_undo_30 : decode cV_undo 30 = .ok (.aload_n 0, 1) := by decide +kernel
theorem dV_undo_31 : decode cV_undo 31 = .ok (.iconst 1, 1) := by decide +kernel
theorem dV_undo_32 : decode cV_undo 32 = .ok (.invokevirtual 55, 3) := by decide +kernel
theorem dV_undo_35 : decode cV_undo 35 = .ok (.iconst 1, 1) := by decide +kernel
theorem dV_undo_36 : decode cV_undo 36 = .ok (.ireturn, 1) := by decide +kernel
abbrev cV_put : ByteArray := prog_1_method_6_code
abbrev yV_put : MethodName := ⟨"DrawingVault", "put", "(IIII)Z"⟩
theorem dV_put_0 : decode cV_put 0 = .ok (.aload_n 0, 1) := by decide +kernel
theorem dV_put_1 : decode cV_put 1 = .ok (.invokevirtual 44, 3) := by decide +kernel
theorem dV_put_4 : decode cV_put 4 = .ok (.aload_n 0, 1) := by decide +kernel
theorem dV_put_5 : decode cV_put 5 = .ok (.iload_n 1, 1) := by decide +kernel
theorem dV_put_6 : decode cV_put 6 = .ok (.invokevirtual 74, 3) := by decide +kernel
theorem dV_put_9 : decode cV_put 9 = .ok (.astore 5, 2) := by decide +kernel
theorem dV_put_11 : decode cV_put 11 = .ok (.aload_n 0, 1) := by decide +kernel
theorem dV_put_12 : decode cV_put 12 = .ok (.aload 5, 2) := by decide +kernel
theorem dV_put_14 : decode cV_put 14 = .ok (.iload_n 2, 1) := by decide +kernel
theorem dV_put_15 : decode cV_put 15 = .ok (.invokevirtual 85, 3) := by decide +kernel
theorem dV_put_18 : decode cV_put 18 = .ok (.istore 6, 2) := by decide +kernel
theorem dV_put_20 : decode cV_put 20 = .ok (.iload 6, 2) := by decide +kernel
theorem dV_put_22 : decode cV_put 22 = .ok (.ifCond .ne 32, 3) := by decide +kernel
theorem dV_put_25 : decode cV_put 25 = .ok (.aload 5, 2) := by decide +kernel
theorem dV_put_27 : decode cV_put 27 = .ok (.getfield 91, 3) := by decide +kernel
theorem dV_put_30 : decode cV_put 30 = .ok (.iload_n 3, 1) := by decide +kernel
theorem dV_put_31 : decode cV_put 31 = .ok (.invokevirtual 95, 3) := by decide +kernel
theorem dV_put_34 : decode cV_put 34 = .ok (.ifCond .eq 16, 3) := by decide +kernel
theorem dV_put_37 : decode cV_put 37 = .ok (.iload 4, 2) := by decide +kernel
theorem dV_put_39 : decode cV_put 39 = .ok (.ifCond .lt 11, 3) := by decide +kernel
theorem dV_put_42 : decode cV_put 42 = .ok (.iload 4, 2) := by decide +kernel
theorem dV_put_44 : decode cV_put 44 = .ok (.sipush 255, 3) := by decide +kernel
theorem dV_put_47 : decode cV_put 47 = .ok (.if_icmp .le 7, 3) := by decide +kernel
theorem dV_put_50 : decode cV_put 50 = .ok (.bipush 7, 2) := by decide +kernel
theorem dV_put_52 : decode cV_put 52 = .ok (.istore 6, 2) := by decide +kernel
theorem dV_put_54 : decode cV_put 54 = .ok (.aload_n 0, 1) := by decide +kernel
theorem dV_put_55 : decode cV_put 55 = .ok (.iload 6, 2) := by decide +kernel
theorem dV_put_57 : decode cV_put 57 = .ok (.invokevirtual 100, 3) := by decide +kernel
theorem dV_put_60 : decode cV_put 60 = .ok (.ifCond .ne 5, 3) := by decide +kernel
theorem dV_put_63 : decode cV_put 63 = .ok (.iconst 0, 1) := by decide +kernel
theorem dV_put_64 : decode cV_put 64 = .ok (.ireturn, 1) := by decide +kernel
theorem dV_put_65 : decode cV_put 65 = .ok (.aload 5, 2) := by decide +kernel
theorem dV_put_67 : decode cV_put 67 = .ok (.getfield 91, 3) := by decide +kernel
theorem dV_put_70 : decode cV_put 70 = .ok (.iload_n 3, 1) := by decide +kernel
theorem dV_put_71 : decode cV_put 71 = .ok (.iload 4, 2) := by decide +kernel
theorem dV_put_73 : decode cV_put 73 = .ok (.invokevirtual 103, 3) := by decide +kernel
theorem dV_put_76 : decode cV_put 76 = .ok (.iconst 1, 1) := by decide +kernel
theorem dV_put_77 : decode cV_put 77 = .ok (.ireturn, 1) := by decide +kernel
abbrev cV_resize : ByteArray := prog_1_method_7_code
abbrev yV_resize : MethodName := ⟨"DrawingVault", "resize", "(III)Z"⟩
theorem dV_resize_0 : decode cV_resize 0 = .ok (.aload_n 0, 1) := by decide +kernel
theorem dV_resize_1 : decode cV_resize 1 = .ok (.invokevirtual 44, 3) := by decide +kernel
theorem dV_resize_4 : decode cV_resize 4 = .ok (.aload_n 0, 1) := by decide +kernel
theorem dV_resize_5 : decode cV_resize 5 = .ok (.iload_n 1, 1) := by decide +kernel
theorem dV_resize_6 : decode cV_resize 6 = .ok (.invokevirtual 74, 3) := by decide +kernel
theorem dV_resize_9 : decode cV_resize 9 = .ok (.astore 4, 2) := by decide +kernel
theorem dV_resize_11 : decode cV_resize 11 = .ok (.aload_n 0, 1) := by decide +kernel
theorem dV_resize_12 : decode cV_resize 12 = .ok (.aload 4, 2) := by decide +kernel
theorem dV_resize_14 : decode cV_resize 14 = .ok (.iload_n 2, 1) := by decide +kernel
theorem dV_resize_15 : decode cV_resize 15 = .ok (.invokevirtual 85, 3) := by decide +kernel
theorem dV_resize_18 : decode cV_resize 18 = .ok (.istore 5, 2) := by decide +kernel
theorem dV_resize_20 : decode cV_resize 20 = .ok (.iload 5, 2) := by decide +kernel
theorem dV_resize_22 : decode cV_resize 22 = .ok (.ifCond .ne 17, 3) := by decide +kernel
theorem dV_resize_25 : decode cV_resize 25 = .ok (.iload_n 3, 1) := by decide +kernel
theorem dV_resize_26 : decode cV_resize 26 = .ok (.ifCond .lt 9, 3) := by decide +kernel
theorem dV_resize_29 : decode cV_resize 29 = .ok (.iload_n 3, 1) := by decide +kernel
theorem dV_resize_30 : decode cV_resize 30 = .ok (.bipush 64, 2) := by decide +kernel
theorem dV_resize_32 : decode cV_resize 32 = .ok (.if_icmp .le 7, 3) := by decide +kernel
theorem dV_resize_35 : decode cV_resize 35 = .ok (.bipush 7, 2) := by decide +kernel
theorem dV_resize_37 : decode cV_resize 37 = .ok (.istore 5, 2) := by decide +kernel
theorem dV_resize_39 : decode cV_resize 39 = .ok (.aload_n 0, 1) := by decide +kernel
theorem dV_resize_40 : decode cV_resize 40 = .ok (.iload 5, 2) := by decide +kernel
theorem dV_resize_42 : decode cV_resize 42 = .ok (.invokevirtual 100, 3) := by decide +kernel
theorem dV_resize_45 : decode cV_resize 45 = .ok (.ifCond .ne 5, 3) := by decide +kernel
theorem dV_resize_48 : decode cV_resize 48 = .ok (.iconst 0, 1) := by decide +kernel
theorem dV_resize_49 : decode cV_resize 49 = .ok (.ireturn, 1) := by decide +kernel
theorem dV_resize_50 : decode cV_resize 50 = .ok (.aload 4, 2) := by decide +kernel
theorem dV_resize_52 : decode cV_resize 52 = .ok (.getfield 91, 3) := by decide +kernel
theorem dV_resize_55 : decode cV_resize 55 = .ok (.iload_n 3, 1) := by decide +kernel
theorem dV_resize_56 : decode cV_resize 56 = .ok (.invokevirtual 107, 3) := by decide +kernel
theorem dV_resize_59 : decode cV_resize 59 = .ok (.iconst 1, 1) := by decide +kernel
theorem dV_resize_60 : decode cV_resize 60 = .ok (.ireturn, 1) := by decide +kernel
abbrev cV_ref : ByteArray := prog_1_method_8_code
abbrev yV_ref : MethodName := ⟨"DrawingVault", "ref", "(IIIII)Z"⟩
theorem dV_ref_0 : decode cV_ref 0 = .ok (.aload_n 0, 1) := by decide +kernel
theorem dV_ref_1 : decode cV_ref 1 = .ok (.invokevirtual 44, 3) := by decide +kernel
theorem dV_ref_4 : decode cV_ref 4 = .ok (.aload_n 0, 1) := by decide +kernel
theorem dV_ref_5 : decode cV_ref 5 = .ok (.iload_n 1, 1) := by decide +kernel
theorem dV_ref_6 : decode cV_ref 6 = .ok (.invokevirtual 74, 3) := by decide +kernel
theorem dV_ref_9 : decode cV_ref 9 = .ok (.astore 6, 2) := by decide +kernel
theorem dV_ref_11 : decode cV_ref 11 = .ok (.aload_n 0, 1) := by decide +kernel
theorem dV_ref_12 : decode cV_ref 12 = .ok (.aload 6, 2) := by decide +kernel
theorem dV_ref_14 : decode cV_ref 14 = .ok (.iload_n 2, 1) := by decide +kernel
theorem dV_ref_15 : decode cV_ref 15 = .ok (.invokevirtual 85, 3) := by decide +kernel
theorem dV_ref_18 : decode cV_ref 18 = .ok (.istore 7, 2) := by decide +kernel
theorem dV_ref_20 : decode cV_ref 20 = .ok (.iload 7, 2) := by decide +kernel
theorem dV_ref_22 : decode cV_ref 22 = .ok (.ifCond .ne 19, 3) := by decide +kernel
theorem dV_ref_25 : decode cV_ref 25 = .ok (.aload_n 0, 1) := by decide +kernel
theorem dV_ref_26 : decode cV_ref 26 = .ok (.aload 6, 2) := by decide +kernel
theorem dV_ref_28 : decode cV_ref 28 = .ok (.getfield 91, 3) := by decide +kernel
theorem dV_ref_31 : decode cV_ref 31 = .ok (.iload_n 3, 1) := by decide +kernel
theorem dV_ref_32 : decode cV_ref 32 = .ok (.iload 4, 2) := by decide +kernel
theorem dV_ref_34 : decode cV_ref 34 = .ok (.iload 5, 2) := by decide +kernel
theorem dV_ref_36 : decode cV_ref 36 = .ok (.invokevirtual 110, 3) := by decide +kernel
theorem dV_ref_39 : decode cV_ref 39 = .ok (.istore 7, 2) := by decide +kernel
theorem dV_ref_41 : decode cV_ref 41 = .ok (.aload_n 0, 1) := by decide +kernel
theorem dV_ref_42 : decode cV_ref 42 = .ok (.iload 7, 2) := by decide +kernel
theorem dV_ref_44 : decode cV_ref 44 = .ok (.invokevirtual 100, 3) := by decide +kernel
theorem dV_ref_47 : decode cV_ref 47 = .ok (.ifCond .ne 5, 3) := by decide +kernel
theorem dV_ref_50 : decode cV_ref 50 = .ok (.iconst 0, 1) := by decide +kernel
theorem dV_ref_51 : decode cV_ref 51 = .ok (.ireturn, 1) := by decide +kernel
theorem dV_ref_52 : decode cV_ref 52 = .ok (.aload 6, 2) := by decide +kernel
theorem dV_ref_54 : decode cV_ref 54 = .ok (.getfield 91, 3) := by decide +kernel
theorem dV_ref_57 : decode cV_ref 57 = .ok (.iload_n 3, 1) := by decide +kernel
theorem dV_ref_58 : decode cV_ref 58 = .ok (.iload 4, 2) := by decide +kernel
theorem dV_ref_60 : decode cV_ref 60 = .ok (.iload 5, 2) := by decide +kernel
theorem dV_ref_62 : decode cV_ref 62 = .ok (.invokevirtual 114, 3) := by decide +kernel
theorem dV_ref_65 : decode cV_ref 65 = .ok (.iconst 1, 1) := by decide +kernel
theorem dV_ref_66 : decode cV_ref 66 = .ok (.ireturn, 1) := by decide +kernel
abbrev cV_drop : ByteArray := prog_1_method_9_code
abbrev yV_drop : MethodName := ⟨"DrawingVault", "drop", "(III)Z"⟩
theorem dV_drop_0 : decode cV_drop 0 = .ok (.aload_n 0, 1) := by decide +kernel
theorem dV_drop_1 : decode cV_drop 1 = .ok (.invokevirtual 44, 3) := by decide +kernel
theorem dV_drop_4 : decode cV_drop 4 = .ok (.aload_n 0, 1) := by decide +kernel
theorem dV_drop_5 : decode cV_drop 5 = .ok (.iload_n 1, 1) := by decide +kernel
theorem dV_drop_6 : decode cV_drop 6 = .ok (.invokevirtual 74, 3) := by decide +kernel
theorem dV_drop_9 : decode cV_drop 9 = .ok (.astore 4, 2) := by decide +kernel
theorem dV_drop_11 : decode cV_drop 11 = .ok (.aload_n 0, 1) := by decide +kernel
theorem dV_drop_12 : decode cV_drop 12 = .ok (.aload 4, 2) := by decide +kernel
theorem dV_drop_14 : decode cV_drop 14 = .ok (.iload_n 2, 1) := by decide +kernel
theorem dV_drop_15 : decode cV_drop 15 = .ok (.invokevirtual 85, 3) := by decide +kernel
theorem dV_drop_18 : decode cV_drop 18 = .ok (.istore 5, 2) := by decide +kernel
theorem dV_drop_20 : decode cV_drop 20 = .ok (.iload 5, 2) := by decide +kernel
theorem dV_drop_22 : decode cV_drop 22 = .ok (.ifCond .ne 19, 3) := by decide +kernel
theorem dV_drop_25 : decode cV_drop 25 = .ok (.aload 4, 2) := by decide +kernel
theorem dV_drop_27 : decode cV_drop 27 = .ok (.getfield 91, 3) := by decide +kernel
theorem dV_drop_30 : decode cV_drop 30 = .ok (.iload_n 3, 1) := by decide +kernel
theorem dV_drop_31 : decode cV_drop 31 = .ok (.invokevirtual 118, 3) := by decide +kernel
theorem dV_drop_34 : decode cV_drop 34 = .ok (.ifCond .ne 7, 3) := by decide +kernel
theorem dV_drop_37 : decode cV_drop 37 = .ok (.bipush 7, 2) := by decide +kernel
theorem dV_drop_39 : decode cV_drop 39 = .ok (.istore 5, 2) := by decide +kernel
theorem dV_drop_41 : decode cV_drop 41 = .ok (.aload_n 0, 1) := by decide +kernel
theorem dV_drop_42 : decode cV_drop 42 = .ok (.iload 5, 2) := by decide +kernel
theorem dV_drop_44 : decode cV_drop 44 = .ok (.invokevirtual 100, 3) := by decide +kernel
theorem dV_drop_47 : decode cV_drop 47 = .ok (.ifCond .ne 5, 3) := by decide +kernel
theorem dV_drop_50 : decode cV_drop 50 = .ok (.iconst 0, 1) := by decide +kernel
theorem dV_drop_51 : decode cV_drop 51 = .ok (.ireturn, 1) := by decide +kernel
theorem dV_drop_52 : decode cV_drop 52 = .ok (.aload 4, 2) := by decide +kernel
theorem dV_drop_54 : decode cV_drop 54 = .ok (.getfield 91, 3) := by decide +kernel
theorem dV_drop_57 : decode cV_drop 57 = .ok (.iload_n 3, 1) := by decide +kernel
theorem dV_drop_58 : decode cV_drop 58 = .ok (.invokevirtual 121, 3) := by decide +kernel
theorem dV_drop_61 : decode cV_drop 61 = .ok (.iconst 1, 1) := by decide +kernel
theorem dV_drop_62 : decode cV_drop 62 = .ok (.ireturn, 1) := by decide +kernel
abbrev cV_check : ByteArray := prog_1_method_11_code
abbrev yV_check : MethodName := ⟨"DrawingVault", "check", "(III)Z"⟩
theorem dV_check_0 : decode cV_check 0 = .ok (.aload_n 0, 1) := by decide +kernel
theorem dV_check_1 : decode cV_check 1 = .ok (.invokevirtual 44, 3) := by decide +kernel
theorem dV_check_4 : decode cV_check 4 = .ok (.aload_n 0, 1) := by decide +kernel
theorem dV_check_5 : decode cV_check 5 = .ok (.iload_n 1, 1) := by decide +kernel
theorem dV_check_6 : decode cV_check 6 = .ok (.iload_n 2, 1) := by decide +kernel
theorem dV_check_7 : decode cV_check 7 = .ok (.iconst 1, 1) := by decide +kernel
theorem dV_check_8 : decode cV_check 8 = .ok (.aload_n 0, 1) := by decide +kernel
theorem dV_check_9 : decode cV_check 9 = .ok (.iload_n 1, 1) := by decide +kernel
theorem dV_check_10 : decode cV_check 10 = .ok (.iload_n 2, 1) := by decide +kernel
theorem dV_check_11 : decode cV_check 11 = .ok (.iload_n 3, 1) := by decide +kernel
theorem dV_check_12 : decode cV_check 12 = .ok (.invokevirtual 136, 3) := by decide +kernel
theorem dV_check_15 : decode cV_check 15 = .ok (.invokevirtual 140, 3) := by decide +kernel
theorem dV_check_18 : decode cV_check 18 = .ok (.ireturn, 1) := by decide +kernel
abbrev cV_release : ByteArray := prog_1_method_12_code
abbrev yV_release : MethodName := ⟨"DrawingVault", "release", "(III)Z"⟩
theorem dV_release_0 : decode cV_release 0 = .ok (.aload_n 0, 1) := by decide +kernel
theorem dV_release_1 : decode cV_release 1 = .ok (.invokevirtual 44, 3) := by decide +kernel
theorem dV_release_4 : decode cV_release 4 = .ok (.aload_n 0, 1) := by decide +kernel
theorem dV_release_5 : decode cV_release 5 = .ok (.iload_n 1, 1) := by decide +kernel
theorem dV_release_6 : decode cV_release 6 = .ok (.iload_n 2, 1) := by decide +kernel
theorem dV_release_7 : decode cV_release 7 = .ok (.iconst 2, 1) := by decide +kernel
theorem dV_release_8 : decode cV_release 8 = .ok (.aload_n 0, 1) := by decide +kernel
theorem dV_release_9 : decode cV_release 9 = .ok (.iload_n 1, 1) := by decide +kernel
theorem dV_release_10 : decode cV_release 10 = .ok (.iload_n 2, 1) := by decide +kernel
theorem dV_release_11 : decode cV_release 11 = .ok (.iload_n 3, 1) := by decide +kernel
theorem dV_release_12 : decode cV_release 12 = .ok (.invokevirtual 144, 3) := by decide +kernel
theorem dV_release_15 : decode cV_release 15 = .ok (.invokevirtual 140, 3) := by decide +kernel
theorem dV_release_18 : decode cV_release 18 = .ok (.ireturn, 1) := by decide +kernel
abbrev cV_withdraw : ByteArray := prog_1_method_13_code
abbrev yV_withdraw : MethodName := ⟨"DrawingVault", "withdraw", "(III)Z"⟩
theorem dV_withdraw_0 : decode cV_withdraw 0 = .ok (.aload_n 0, 1) := by decide +kernel
theorem dV_withdraw_1 : decode cV_withdraw 1 = .ok (.invokevirtual 44, 3) := by decide +kernel
theorem dV_withdraw_4 : decode cV_withdraw 4 = .ok (.aload_n 0, 1) := by decide +kernel
theorem dV_withdraw_5 : decode cV_withdraw 5 = .ok (.iload_n 1, 1) := by decide +kernel
theorem dV_withdraw_6 : decode cV_withdraw 6 = .ok (.iload_n 2, 1) := by decide +kernel
theorem dV_withdraw_7 : decode cV_withdraw 7 = .ok (.iconst 3, 1) := by decide +kernel
theorem dV_withdraw_8 : decode cV_withdraw 8 = .ok (.aload_n 0, 1) := by decide +kernel
theorem dV_withdraw_9 : decode cV_withdraw 9 = .ok (.iload_n 1, 1) := by decide +kernel
theorem dV_withdraw_10 : decode cV_withdraw 10 = .ok (.iload_n 2, 1) := by decide +kernel
theorem dV_withdraw_11 : decode cV_withdraw 11 = .ok (.iload_n 3, 1) := by decide +kernel
theorem dV_withdraw_12 : decode cV_withdraw 12 = .ok (.invokevirtual 147, 3) := by decide +kernel
theorem dV_withdraw_15 : decode cV_withdraw 15 = .ok (.invokevirtual 140, 3) := by decide +kernel
theorem dV_withdraw_18 : decode cV_withdraw 18 = .ok (.ireturn, 1) := by decide +kernel
abbrev cV_byteOf : ByteArray := prog_1_method_55_code
abbrev yV_byteOf : MethodName := ⟨"DrawingVault", "byteOf", "(LDrawingVault$Content;I)I"⟩
theorem dV_byteOf_0 : decode cV_byteOf 0 = .ok (.iload_n 1, 1) := by decide +kernel
theorem dV_byteOf_1 : decode cV_byteOf 1 = .ok (.bipush 8, 2) := by decide +kernel
theorem dV_byteOf_3 : decode cV_byteOf 3 = .ok (.isub, 1) := by decide +kernel
theorem dV_byteOf_4 : decode cV_byteOf 4 = .ok (.istore_n 2, 1) := by decide +kernel
theorem dV_byteOf_5 : decode cV_byteOf 5 = .ok (.iload_n 1, 1) := by decide +kernel
theorem dV_byteOf_6 : decode cV_byteOf 6 = .ok (.bipush 8, 2) := by decide +kernel
theorem dV_byteOf_8 : decode cV_byteOf 8 = .ok (.if_icmp .lt 11, 3) := by decide +kernel
theorem dV_byteOf_11 : decode cV_byteOf 11 = .ok (.aload_n 0, 1) := by decide +kernel
theorem dV_byteOf_12 : decode cV_byteOf 12 = .ok (.iload_n 2, 1) := by decide +kernel
theorem dV_byteOf_13 : decode cV_byteOf 13 = .ok (.invokevirtual 95, 3) := by decide +kernel
theorem dV_byteOf_16 : decode cV_byteOf 16 = .ok (.ifCond .ne 11, 3) := by decide +kernel
theorem dV_byteOf_27 : decode cV_byteOf 27 = .ok (.aload_n 0, 1) := by decide +kernel
theorem dV_byteOf_28 : decode cV_byteOf 28 = .ok (.iload_n 2, 1) := by decide +kernel
theorem dV_byteOf_29 : decode cV_byteOf 29 = .ok (.invokevirtual 342, 3) := by decide +kernel
theorem dV_byteOf_32 : decode cV_byteOf 32 = .ok (.ireturn, 1) := by decide +kernel
abbrev cV_referencePart : ByteArray := prog_1_method_56_code
abbrev yV_referencePart : MethodName := ⟨"DrawingVault", "referencePart", "(LDrawingVault$Content;I)I"⟩
theorem dV_referencePart_0 : decode cV_referencePart 0 = .ok (.iload_n 1, 1) := by decide +kernel
theorem dV_referencePart_1 : decode cV_referencePart 1 = .ok (.sipush 200, 3) := by decide +kernel
theorem dV_referencePart_4 : decode cV_referencePart 4 = .ok (.isub, 1) := by decide +kernel
theorem dV_referencePart_5 : decode cV_referencePart 5 = .ok (.istore_n 2, 1) := by decide +kernel
theorem dV_referencePart_6 : decode cV_referencePart 6 = .ok (.iload_n 2, 1) := by decide +kernel
theorem dV_referencePart_7 : decode cV_referencePart 7 = .ok (.iconst 2, 1) := by decide +kernel
theorem dV_referencePart_8 : decode cV_referencePart 8 = .ok (.idiv, 1) := by decide +kernel
theorem dV_referencePart_9 : decode cV_referencePart 9 = .ok (.istore_n 3, 1) := by decide +kernel
theorem dV_referencePart_10 : decode cV_referencePart 10 = .ok (.iload_n 2, 1) := by decide +kernel
theorem dV_referencePart_11 : decode cV_referencePart 11 = .ok (.ifCond .lt 11, 3) := by decide +kernel
theorem dV_referencePart_14 : decode cV_referencePart 14 = .ok (.aload_n 0, 1) := by decide +kernel
theorem dV_referencePart_15 : decode cV_referencePart 15 = .ok (.iload_n 3, 1) := by decide +kernel
theorem dV_referencePart_16 : decode cV_referencePart 16 = .ok (.invokevirtual 118, 3) := by decide +kernel
theorem dV_referencePart_19 : decode cV_referencePart 19 = .ok (.ifCond .ne 11, 3) := by decide +kernel
theorem dV_referencePart_30 : decode cV_referencePart 30 = .ok (.iload_n 2, 1) := by decide +kernel
theorem dV_referencePart_31 : decode cV_referencePart 31 = .ok (.iconst 2, 1) := by decide +kernel
theorem dV_referencePart_32 : decode cV_referencePart 32 = .ok (.irem, 1) := by decide +kernel
theorem dV_referencePart_33 : decode cV_referencePart 33 = .ok (.ifCond .ne 12, 3) := by decide +kernel
theorem dV_referencePart_36 : decode cV_referencePart 36 = .ok (.aload_n 0, 1) := by decide +kernel
theorem dV_referencePart_37 : decode cV_referencePart 37 = .ok (.getfield 191, 3) := by decide +kernel
theorem dV_referencePart_40 : decode cV_referencePart 40 = .ok (.iload_n 3, 1) := by decide +kernel
theorem dV_referencePart_41 : decode cV_referencePart 41 = .ok (.iaload, 1) := by decide +kernel
theorem dV_referencePart_42 : decode cV_referencePart 42 = .ok (.goto 9, 3) := by decide +kernel
theorem dV_referencePart_45 : decode cV_referencePart 45 = .ok (.aload_n 0, 1) := by decide +kernel
theorem dV_referencePart_46 : decode cV_referencePart 46 = .ok (.getfield 194, 3) := by decide +kernel
theorem dV_referencePart_49 : decode cV_referencePart 49 = .ok (.iload_n 3, 1) := by decide +kernel
theorem dV_referencePart_50 : decode cV_referencePart 50 = .ok (.iaload, 1) := by decide +kernel
theorem dV_referencePart_51 : decode cV_referencePart 51 = .ok (.ireturn, 1) := by decide +kernel
abbrev cV_look : ByteArray := prog_1_method_16_code
abbrev yV_look : MethodName := ⟨"DrawingVault", "look", "(III)I"⟩
theorem dV_look_0 : decode cV_look 0 = .ok (.aload_n 0, 1) := by decide +kernel
theorem dV_look_1 : decode cV_look 1 = .ok (.iload_n 1, 1) := by decide +kernel
theorem dV_look_2 : decode cV_look 2 = .ok (.iload_n 2, 1) := by decide +kernel
theorem dV_look_3 : decode cV_look 3 = .ok (.invokevirtual 163, 3) := by decide +kernel
theorem dV_look_6 : decode cV_look 6 = .ok (.astore 4, 2) := by decide +kernel
theorem dV_look_8 : decode cV_look 8 = .ok (.aload 4, 2) := by decide +kernel
theorem dV_look_10 : decode cV_look 10 = .ok (.ifnonnull 11, 3) := by decide +kernel
theorem dV_look_21 : decode cV_look 21 = .ok (.iload_n 3, 1) := by decide +kernel
theorem dV_look_22 : decode cV_look 22 = .ok (.tableswitch 77 0 4 #[34, 40, 46, 55, 64], 34) := by decide +kernel
theorem dV_look_56 : decode cV_look 56 = .ok (.aload 4, 2) := by decide +kernel
theorem dV_look_58 : decode cV_look 58 = .ok (.getfield 170, 3) := by decide +kernel
theorem dV_look_61 : decode cV_look 61 = .ok (.ireturn, 1) := by decide +kernel
theorem dV_look_62 : decode cV_look 62 = .ok (.aload 4, 2) := by decide +kernel
theorem dV_look_64 : decode cV_look 64 = .ok (.getfield 175, 3) := by decide +kernel
theorem dV_look_67 : decode cV_look 67 = .ok (.ireturn, 1) := by decide +kernel
theorem dV_look_68 : decode cV_look 68 = .ok (.aload 4, 2) := by decide +kernel
theorem dV_look_70 : decode cV_look 70 = .ok (.getfield 178, 3) := by decide +kernel
theorem dV_look_73 : decode cV_look 73 = .ok (.getfield 181, 3) := by decide +kernel
theorem dV_look_76 : decode cV_look 76 = .ok (.ireturn, 1) := by decide +kernel
theorem dV_look_77 : decode cV_look 77 = .ok (.aload 4, 2) := by decide +kernel
theorem dV_look_79 : decode cV_look 79 = .ok (.getfield 178, 3) := by decide +kernel
theorem dV_look_82 : decode cV_look 82 = .ok (.getfield 184, 3) := by decide +kernel
theorem dV_look_85 : decode cV_look 85 = .ok (.ireturn, 1) := by decide +kernel
theorem dV_look_86 : decode cV_look 86 = .ok (.aload_n 0, 1) := by decide +kernel
theorem dV_look_87 : decode cV_look 87 = .ok (.getfield 33, 3) := by decide +kernel
theorem dV_look_90 : decode cV_look 90 = .ok (.aload 4, 2) := by decide +kernel
theorem dV_look_92 : decode cV_look 92 = .ok (.getfield 178, 3) := by decide +kernel
theorem dV_look_95 : decode cV_look 95 = .ok (.invokevirtual 128, 3) := by decide +kernel
theorem dV_look_98 : decode cV_look 98 = .ok (.ireturn, 1) := by decide +kernel
theorem dV_look_99 : decode cV_look 99 = .ok (.aload 4, 2) := by decide +kernel
theorem dV_look_101 : decode cV_look 101 = .ok (.getfield 178, 3) := by decide +kernel
theorem dV_look_104 : decode cV_look 104 = .ok (.iload_n 3, 1) := by decide +kernel
theorem dV_look_105 : decode cV_look 105 = .ok (.invokestatic 187, 3) := by decide +kernel
theorem dV_look_108 : decode cV_look 108 = .ok (.ireturn, 1) := by decide +kernel
abbrev cV_reference : ByteArray := prog_1_method_17_code
abbrev yV_reference : MethodName := ⟨"DrawingVault", "reference", "(IIII)I"⟩
theorem dV_reference_0 : decode cV_reference 0 = .ok (.aload_n 0, 1) := by decide +kernel
theorem dV_reference_1 : decode cV_reference 1 = .ok (.iload_n 1, 1) := by decide +kernel
theorem dV_reference_2 : decode cV_reference 2 = .ok (.iload_n 2, 1) := by decide +kernel
theorem dV_reference_3 : decode cV_reference 3 = .ok (.invokevirtual 163, 3) := by decide +kernel
theorem dV_reference_6 : decode cV_reference 6 = .ok (.astore 5, 2) := by decide +kernel
theorem dV_reference_8 : decode cV_reference 8 = .ok (.aload 5, 2) := by decide +kernel
theorem dV_reference_10 : decode cV_reference 10 = .ok (.ifnull 15, 3) := by decide +kernel
theorem dV_reference_13 : decode cV_reference 13 = .ok (.aload 5, 2) := by decide +kernel
theorem dV_reference_15 : decode cV_reference 15 = .ok (.getfield 178, 3) := by decide +kernel
theorem dV_reference_18 : decode cV_reference 18 = .ok (.iload_n 3, 1) := by decide +kernel
theorem dV_reference_19 : decode cV_reference 19 = .ok (.invokevirtual 118, 3) := by decide +kernel
theorem dV_reference_22 : decode cV_reference 22 = .ok (.ifCond .ne 11, 3) := by decide +kernel
theorem dV_reference_33 : decode cV_reference 33 = .ok (.aload 5, 2) := by decide +kernel
theorem dV_reference_35 : decode cV_reference 35 = .ok (.getfield 178, 3) := by decide +kernel
theorem dV_reference_38 : decode cV_reference 38 = .ok (.getfield 191, 3) := by decide +kernel
theorem dV_reference_41 : decode cV_reference 41 = .ok (.iload_n 3, 1) := by decide +kernel
theorem dV_reference_42 : decode cV_reference 42 = .ok (.iaload, 1) := by decide +kernel
theorem dV_reference_43 : decode cV_reference 43 = .ok (.istore 6, 2) := by decide +kernel
theorem dV_reference_45 : decode cV_reference 45 = .ok (.aload 5, 2) := by decide +kernel
theorem dV_reference_47 : decode cV_reference 47 = .ok (.getfield 178, 3) := by decide +kernel
theorem dV_reference_50 : decode cV_reference 50 = .ok (.getfield 194, 3) := by decide +kernel
theorem dV_reference_53 : decode cV_reference 53 = .ok (.iload_n 3, 1) := by decide +kernel
theorem dV_reference_54 : decode cV_reference 54 = .ok (.iaload, 1) := by decide +kernel
theorem dV_reference_55 : decode cV_reference 55 = .ok (.istore 7, 2) := by decide +kernel
theorem dV_reference_57 : decode cV_reference 57 = .ok (.iload 4, 2) := by decide +kernel
theorem dV_reference_59 : decode cV_reference 59 = .ok (.tableswitch 40 0 2 #[25, 28, 31], 25) := by decide +kernel
theorem dV_reference_84 : decode cV_reference 84 = .ok (.iload 6, 2) := by decide +kernel
theorem dV_reference_86 : decode cV_reference 86 = .ok (.ireturn, 1) := by decide +kernel
theorem dV_reference_87 : decode cV_reference 87 = .ok (.iload 7, 2) := by decide +kernel
theorem dV_reference_89 : decode cV_reference 89 = .ok (.ireturn, 1) := by decide +kernel
theorem dV_reference_90 : decode cV_reference 90 = .ok (.aload_n 0, 1) := by decide +kernel
theorem dV_reference_91 : decode cV_reference 91 = .ok (.iload 6, 2) := by decide +kernel
theorem dV_reference_93 : decode cV_reference 93 = .ok (.iload 7, 2) := by decide +kernel
theorem dV_reference_95 : decode cV_reference 95 = .ok (.invokevirtual 197, 3) := by decide +kernel
theorem dV_reference_98 : decode cV_reference 98 = .ok (.ireturn, 1) := by decide +kernel
abbrev cV_about : ByteArray := prog_1_method_18_code
abbrev yV_about : MethodName := ⟨"DrawingVault", "about", "(II)I"⟩
theorem dV_about_0 : decode cV_about 0 = .ok (.aload_n 0, 1) := by decide +kernel
theorem dV_about_1 : decode cV_about 1 = .ok (.iload_n 1, 1) := by decide +kernel
theorem dV_about_2 : decode cV_about 2 = .ok (.invokevirtual 74, 3) := by decide +kernel
theorem dV_about_5 : decode cV_about 5 = .ok (.astore_n 3, 1) := by decide +kernel
theorem dV_about_6 : decode cV_about 6 = .ok (.aload_n 3, 1) := by decide +kernel
theorem dV_about_7 : decode cV_about 7 = .ok (.ifnonnull 11, 3) := by decide +kernel
theorem dV_about_18 : decode cV_about 18 = .ok (.iload_n 2, 1) := by decide +kernel
theorem dV_about_19 : decode cV_about 19 = .ok (.tableswitch 64 0 4 #[33, 38, 43, 48, 56], 33) := by decide +kernel
theorem dV_about_52 : decode cV_about 52 = .ok (.aload_n 3, 1) := by decide +kernel
theorem dV_about_53 : decode cV_about 53 = .ok (.invokevirtual 132, 3) := by decide +kernel
theorem dV_about_56 : decode cV_about 56 = .ok (.ireturn, 1) := by decide +kernel
theorem dV_about_57 : decode cV_about 57 = .ok (.aload_n 3, 1) := by decide +kernel
theorem dV_about_58 : decode cV_about 58 = .ok (.invokevirtual 200, 3) := by decide +kernel
theorem dV_about_61 : decode cV_about 61 = .ok (.ireturn, 1) := by decide +kernel
theorem dV_about_62 : decode cV_about 62 = .ok (.aload_n 3, 1) := by decide +kernel
theorem dV_about_63 : decode cV_about 63 = .ok (.getfield 203, 3) := by decide +kernel
theorem dV_about_66 : decode cV_about 66 = .ok (.ireturn, 1) := by decide +kernel
theorem dV_about_67 : decode cV_about 67 = .ok (.aload_n 3, 1) := by decide +kernel
theorem dV_about_68 : decode cV_about 68 = .ok (.getfield 91, 3) := by decide +kernel
theorem dV_about_71 : decode cV_about 71 = .ok (.getfield 181, 3) := by decide +kernel
theorem dV_about_74 : decode cV_about 74 = .ok (.ireturn, 1) := by decide +kernel
theorem dV_about_75 : decode cV_about 75 = .ok (.aload_n 3, 1) := by decide +kernel
theorem dV_about_76 : decode cV_about 76 = .ok (.getfield 91, 3) := by decide +kernel
theorem dV_about_79 : decode cV_about 79 = .ok (.getfield 184, 3) := by decide +kernel
theorem dV_about_82 : decode cV_about 82 = .ok (.ireturn, 1) := by decide +kernel
theorem dV_about_83 : decode cV_about 83 = .ok (.iload_n 2, 1) := by decide +kernel
theorem dV_about_84 : decode cV_about 84 = .ok (.sipush 200, 3) := by decide +kernel
theorem dV_about_87 : decode cV_about 87 = .ok (.if_icmp .lt 14, 3) := by decide +kernel
theorem dV_about_90 : decode cV_about 90 = .ok (.aload_n 3, 1) := by decide +kernel
theorem dV_about_91 : decode cV_about 91 = .ok (.getfield 91, 3) := by decide +kernel
theorem dV_about_94 : decode cV_about 94 = .ok (.iload_n 2, 1) := by decide +kernel
theorem dV_about_95 : decode cV_about 95 = .ok (.invokestatic 206, 3) := by decide +kernel
theorem dV_about_98 : decode cV_about 98 = .ok (.goto 11, 3) := by decide +kernel
theorem dV_about_101 : decode cV_about 101 = .ok (.aload_n 3, 1) := by decide +kernel
theorem dV_about_102 : decode cV_about 102 = .ok (.getfield 91, 3) := by decide +kernel
theorem dV_about_105 : decode cV_about 105 = .ok (.iload_n 2, 1) := by decide +kernel
theorem dV_about_106 : decode cV_about 106 = .ok (.invokestatic 187, 3) := by decide +kernel
theorem dV_about_109 : decode cV_about 109 = .ok (.ireturn, 1) := by decide +kernel
abbrev cV_inBaseline : ByteArray := prog_1_method_19_code
abbrev yV_inBaseline : MethodName := ⟨"DrawingVault", "inBaseline", "(III)I"⟩
theorem dV_inBaseline_0 : decode cV_inBaseline 0 = .ok (.aload_n 0, 1) := by decide +kernel
theorem dV_inBaseline_1 : decode cV_inBaseline 1 = .ok (.iload_n 1, 1) := by decide +kernel
theorem dV_inBaseline_2 : decode cV_inBaseline 2 = .ok (.invokevirtual 209, 3) := by decide +kernel
theorem dV_inBaseline_5 : decode cV_inBaseline 5 = .ok (.astore 4, 2) := by decide +kernel
theorem dV_inBaseline_7 : decode cV_inBaseline 7 = .ok (.aload 4, 2) := by decide +kernel
theorem dV_inBaseline_9 : decode cV_inBaseline 9 = .ok (.ifnonnull 11, 3) := by decide +kernel
theorem dV_inBaseline_20 : decode cV_inBaseline 20 = .ok (.iload_n 2, 1) := by decide +kernel
theorem dV_inBaseline_21 : decode cV_inBaseline 21 = .ok (.iconst (-1), 1) := by decide +kernel
theorem dV_inBaseline_22 : decode cV_inBaseline 22 = .ok (.if_icmp .ne 13, 3) := by decide +kernel
theorem dV_inBaseline_25 : decode cV_inBaseline 25 = .ok (.iload_n 3, 1) := by decide +kernel
theorem dV_inBaseline_26 : decode cV_inBaseline 26 = .ok (.ifCond .ne 9, 3) := by decide +kernel
theorem dV_inBaseline_29 : decode cV_inBaseline 29 = .ok (.aload 4, 2) := by decide +kernel
theorem dV_inBaseline_31 : decode cV_inBaseline 31 = .ok (.getfield 157, 3) := by decide +kernel
theorem dV_inBaseline_34 : decode cV_inBaseline 34 = .ok (.ireturn, 1) := by decide +kernel
theorem dV_inBaseline_35 : decode cV_inBaseline 35 = .ok (.aload 4, 2) := by decide +kernel
theorem dV_inBaseline_37 : decode cV_inBaseline 37 = .ok (.iload_n 2, 1) := by decide +kernel
theorem dV_inBaseline_38 : decode cV_inBaseline 38 = .ok (.invokevirtual 213, 3) := by decide +kernel
theorem dV_inBaseline_41 : decode cV_inBaseline 41 = .ok (.istore 5, 2) := by decide +kernel
theorem dV_inBaseline_43 : decode cV_inBaseline 43 = .ok (.iload 5, 2) := by decide +kernel
theorem dV_inBaseline_45 : decode cV_inBaseline 45 = .ok (.iconst (-1), 1) := by decide +kernel
theorem dV_inBaseline_46 : decode cV_inBaseline 46 = .ok (.if_icmp .eq 12, 3) := by decide +kernel
theorem dV_inBaseline_49 : decode cV_inBaseline 49 = .ok (.iload_n 3, 1) := by decide +kernel
theorem dV_inBaseline_50 : decode cV_inBaseline 50 = .ok (.ifCond .lt 8, 3) := by decide +kernel
theorem dV_inBaseline_53 : decode cV_inBaseline 53 = .ok (.iload_n 3, 1) := by decide +kernel
theorem dV_inBaseline_54 : decode cV_inBaseline 54 = .ok (.iconst 1, 1) := by decide +kernel
theorem dV_inBaseline_55 : decode cV_inBaseline 55 = .ok (.if_icmp .le 11, 3) := by decide +kernel
theorem dV_inBaseline_66 : decode cV_inBaseline 66 = .ok (.iload_n 3, 1) := by decide +kernel
theorem dV_inBaseline_67 : decode cV_inBaseline 67 = .ok (.ifCond .ne 8, 3) := by decide +kernel
theorem dV_inBaseline_70 : decode cV_inBaseline 70 = .ok (.iload 5, 2) := by decide +kernel
theorem dV_inBaseline_72 : decode cV_inBaseline 72 = .ok (.goto 11, 3) := by decide +kernel
theorem dV_inBaseline_75 : decode cV_inBaseline 75 = .ok (.aload 4, 2) := by decide +kernel
theorem dV_inBaseline_77 : decode cV_inBaseline 77 = .ok (.getfield 216, 3) := by decide +kernel
theorem dV_inBaseline_80 : decode cV_inBaseline 80 = .ok (.iload 5, 2) := by decide +kernel
theorem dV_inBaseline_82 : decode cV_inBaseline 82 = .ok (.iaload, 1) := by decide +kernel
theorem dV_inBaseline_83 : decode cV_inBaseline 83 = .ok (.ireturn, 1) := by decide +kernel
abbrev cV_difference : ByteArray := prog_1_method_21_code
abbrev yV_difference : MethodName := ⟨"DrawingVault", "difference", "(IIII)I"⟩
theorem dV_difference_0 : decode cV_difference 0 = .ok (.aload_n 0, 1) := by decide +kernel
theorem dV_difference_1 : decode cV_difference 1 = .ok (.iload_n 1, 1) := by decide +kernel
theorem dV_difference_2 : decode cV_difference 2 = .ok (.iload_n 2, 1) := by decide +kernel
theorem dV_difference_3 : decode cV_difference 3 = .ok (.invokevirtual 163, 3) := by decide +kernel
theorem dV_difference_6 : decode cV_difference 6 = .ok (.astore 5, 2) := by decide +kernel
theorem dV_difference_8 : decode cV_difference 8 = .ok (.aload_n 0, 1) := by decide +kernel
theorem dV_difference_9 : decode cV_difference 9 = .ok (.iload_n 1, 1) := by decide +kernel
theorem dV_difference_10 : decode cV_difference 10 = .ok (.iload_n 3, 1) := by decide +kernel
theorem dV_difference_11 : decode cV_difference 11 = .ok (.invokevirtual 163, 3) := by decide +kernel
theorem dV_difference_14 : decode cV_difference 14 = .ok (.astore 6, 2) := by decide +kernel
theorem dV_difference_16 : decode cV_difference 16 = .ok (.aload 5, 2) := by decide +kernel
theorem dV_difference_18 : decode cV_difference 18 = .ok (.ifnull 8, 3) := by decide +kernel
theorem dV_difference_21 : decode cV_difference 21 = .ok (.aload 6, 2) := by decide +kernel
theorem dV_difference_23 : decode cV_difference 23 = .ok (.ifnonnull 11, 3) := by decide +kernel
theorem dV_difference_34 : decode cV_difference 34 = .ok (.iconst 0, 1) := by decide +kernel
theorem dV_difference_35 : decode cV_difference 35 = .ok (.istore 7, 2) := by decide +kernel
theorem dV_difference_37 : decode cV_difference 37 = .ok (.iconst 0, 1) := by decide +kernel
theorem dV_difference_38 : decode cV_difference 38 = .ok (.istore 8, 2) := by decide +kernel
theorem dV_difference_40 : decode cV_difference 40 = .ok (.iload 8, 2) := by decide +kernel
theorem dV_difference_42 : decode cV_difference 42 = .ok (.bipush 8, 2) := by decide +kernel
theorem dV_difference_44 : decode cV_difference 44 = .ok (.if_icmp .ge 40, 3) := by decide +kernel
theorem dV_difference_47 : decode cV_difference 47 = .ok (.aload 5, 2) := by decide +kernel
theorem dV_difference_49 : decode cV_difference 49 = .ok (.getfield 178, 3) := by decide +kernel
theorem dV_difference_52 : decode cV_difference 52 = .ok (.aload 6, 2) := by decide +kernel
theorem dV_difference_54 : decode cV_difference 54 = .ok (.getfield 178, 3) := by decide +kernel
theorem dV_difference_57 : decode cV_difference 57 = .ok (.iload 8, 2) := by decide +kernel
theorem dV_difference_59 : decode cV_difference 59 = .ok (.invokevirtual 226, 3) := by decide +kernel
theorem dV_difference_62 : decode cV_difference 62 = .ok (.ifCond .ne 16, 3) := by decide +kernel
theorem dV_difference_65 : decode cV_difference 65 = .ok (.iload 7, 2) := by decide +kernel
theorem dV_difference_67 : decode cV_difference 67 = .ok (.iload 4, 2) := by decide +kernel
theorem dV_difference_69 : decode cV_difference 69 = .ok (.if_icmp .ne 6, 3) := by decide +kernel
theorem dV_difference_72 : decode cV_difference 72 = .ok (.iload 8, 2) := by decide +kernel
theorem dV_difference_74 : decode cV_difference 74 = .ok (.ireturn, 1) := by decide +kernel
theorem dV_difference_75 : decode cV_difference 75 = .ok (.iinc 7 1, 3) := by decide +kernel
theorem dV_difference_78 : decode cV_difference 78 = .ok (.iinc 8 1, 3) := by decide +kernel
theorem dV_difference_81 : decode cV_difference 81 = .ok (.goto (-41), 3) := by decide +kernel
theorem dV_difference_84 : decode cV_difference 84 = .ok (.iconst (-1), 1) := by decide +kernel
theorem dV_difference_85 : decode cV_difference 85 = .ok (.ireturn, 1) := by decide +kernel
theorem wd_482 : (.code ⟨"DrawingVault", "allowed", "(I)Z"⟩ prog_1_method_26_code 2 (Option.some .boolean) : Cond) ∈ aw := aw_in (tb_2 (List.mem_of_getElem? (i := 80) rfl)) rfl
theorem wd_483 : (.methodLink "DrawingVault" 100 ⟨"DrawingVault", "allowed", "(I)Z"⟩ : Cond) ∈ aw := aw_in (tb_2 (List.mem_of_getElem? (i := 77) rfl)) rfl
theorem wd_484 : (.instanceMethod ⟨"DrawingVault", "allowed", "(I)Z"⟩ : Cond) ∈ aw := aw_in (tb_2 (List.mem_of_getElem? (i := 79) rfl)) rfl
theorem wd_485 : (.selects "DrawingVault" ⟨"DrawingVault", "allowed", "(I)Z"⟩ ⟨"DrawingVault", "allowed", "(I)Z"⟩ : Cond) ∈ aw := aw_in (tb_s (q := (⟨"DrawingVault", "allowed", "(I)Z"⟩, _)) (List.mem_append_left _ (List.mem_of_getElem? (i := 11) rfl))) rfl
theorem wd_486 : (.code ⟨"DrawingVault$Pages", "failsBy", "(I)Z"⟩ prog_6_method_4_code 2 (Option.some .boolean) : Cond) ∈ aw := aw_in (tb_2 (List.mem_of_getElem? (i := 84) rfl)) rfl
theorem wd_487 : (.methodLink "DrawingVault" 268 ⟨"DrawingVault$Pages", "failsBy", "(I)Z"⟩ : Cond) ∈ aw := aw_in (tb_2 (List.mem_of_getElem? (i := 81) rfl)) rfl
theorem wd_488 : (.instanceMethod ⟨"DrawingVault$Pages", "failsBy", "(I)Z"⟩ : Cond) ∈ aw := aw_in (tb_2 (List.mem_of_getElem? (i := 82) rfl)) rfl
theorem wd_489 : (.selects "DrawingVault$Pages" ⟨"DrawingVault$Pages", "failsBy", "(I)Z"⟩ ⟨"DrawingVault$Pages", "failsBy", "(I)Z"⟩ : Cond) ∈ aw := aw_in (tb_2 (List.mem_of_getElem? (i := 83) rfl)) rfl
theorem wd_490 : (.code ⟨"DrawingVault", "mayWrite", "(II)Z"⟩ prog_1_method_27_code 3 (Option.some .boolean) : Cond) ∈ aw := aw_in (tb_2 (List.mem_of_getElem? (i := 76) rfl)) rfl
theorem wd_491 : (.methodLink "DrawingVault" 51 ⟨"DrawingVault", "mayWrite", "(II)Z"⟩ : Cond) ∈ aw := aw_in (tb_2 (List.mem_of_getElem? (i := 73) rfl)) rfl
theorem wd_492 : (.instanceMethod ⟨"DrawingVault", "mayWrite", "(II)Z"⟩ : Cond) ∈ aw := aw_in (tb_2 (List.mem_of_getElem? (i := 75) rfl)) rfl
theorem wd_493 : (.selects "DrawingVault" ⟨"DrawingVault", "mayWrite", "(II)Z"⟩ ⟨"DrawingVault", "mayWrite", "(II)Z"⟩ : Cond) ∈ aw := aw_in (tb_s (q := (⟨"DrawingVault", "mayWrite", "(II)Z"⟩, _)) (List.mem_append_left _ (List.mem_of_getElem? (i := 10) rfl))) rfl
theorem wd_494 : (.code ⟨"DrawingVault", "finish", "(I)V"⟩ prog_1_method_28_code 3 (Option.none : Option Jvm.ClassFile.FieldType) : Cond) ∈ aw := aw_in (tb_2 (List.mem_of_getElem? (i := 88) rfl)) rfl
theorem wd_495 : (.methodLink "DrawingVault" 55 ⟨"DrawingVault", "finish", "(I)V"⟩ : Cond) ∈ aw := aw_in (tb_2 (List.mem_of_getElem? (i := 85) rfl)) rfl
theorem wd_496 : (.instanceMethod ⟨"DrawingVault", "finish", "(I)V"⟩ : Cond) ∈ aw := aw_in (tb_2 (List.mem_of_getElem? (i := 87) rfl)) rfl
theorem wd_497 : (.selects "DrawingVault" ⟨"DrawingVault", "finish", "(I)V"⟩ ⟨"DrawingVault", "finish", "(I)V"⟩ : Cond) ∈ aw := aw_in (tb_s (q := (⟨"DrawingVault", "finish", "(I)V"⟩, _)) (List.mem_append_left _ (List.mem_of_getElem? (i := 12) rfl))) rfl
theorem wd_498 : (.code ⟨"DrawingVault", "needPower", "()V"⟩ prog_1_method_25_code 1 (Option.none : Option Jvm.ClassFile.FieldType) : Cond) ∈ aw := aw_in (tb_2 (List.mem_of_getElem? (i := 7) rfl)) rfl
theorem wd_499 : (.methodLink "DrawingVault" 44 ⟨"DrawingVault", "needPower", "()V"⟩ : Cond) ∈ aw := aw_in (tb_2 (List.mem_of_getElem? (i := 4) rfl)) rfl
theorem wd_500 : (.instanceMethod ⟨"DrawingVault", "needPower", "()V"⟩ : Cond) ∈ aw := aw_in (tb_2 (List.mem_of_getElem? (i := 6) rfl)) rfl
theorem wd_501 : (.selects "DrawingVault" ⟨"DrawingVault", "needPower", "()V"⟩ ⟨"DrawingVault", "needPower", "()V"⟩ : Cond) ∈ aw := aw_in (tb_s (q := (⟨"DrawingVault", "needPower", "()V"⟩, _)) (List.mem_append_left _ (List.mem_of_getElem? (i := 8) rfl))) rfl
theorem wd_502 : (.code ⟨"DrawingVault", "outRefusal", "(LDrawingVault$Drawing;I)I"⟩ prog_1_method_31_code 3 (Option.some .int) : Cond) ∈ aw := aw_in (tb_2 (List.mem_of_getElem? (i := 216) rfl)) rfl
theorem wd_503 : (.methodLink "DrawingVault" 78 ⟨"DrawingVault", "outRefusal", "(LDrawingVault$Drawing;I)I"⟩ : Cond) ∈ aw := aw_in (tb_2 (List.mem_of_getElem? (i := 213) rfl)) rfl
theorem wd_504 : (.instanceMethod ⟨"DrawingVault", "outRefusal", "(LDrawingVault$Drawing;I)I"⟩ : Cond) ∈ aw := aw_in (tb_2 (List.mem_of_getElem? (i := 215) rfl)) rfl
theorem wd_505 : (.selects "DrawingVault" ⟨"DrawingVault", "outRefusal", "(LDrawingVault$Drawing;I)I"⟩ ⟨"DrawingVault", "outRefusal", "(LDrawingVault$Drawing;I)I"⟩ : Cond) ∈ aw := aw_in (tb_s (q := (⟨"DrawingVault", "outRefusal", "(LDrawingVault$Drawing;I)I"⟩, _)) (List.mem_append_right _ (List.mem_append_left _ (List.mem_of_getElem? (i := 0) rfl)))) rfl
theorem wd_506 : (.code ⟨"DrawingVault$Drawing", "lendTo", "(I)V"⟩ prog_5_method_7_code 2 (Option.none : Option Jvm.ClassFile.FieldType) : Cond) ∈ aw := aw_in (tb_2 (List.mem_of_getElem? (i := 220) rfl)) rfl
theorem wd_507 : (.methodLink "DrawingVault" 82 ⟨"DrawingVault$Drawing", "lendTo", "(I)V"⟩ : Cond) ∈ aw := aw_in (tb_2 (List.mem_of_getElem? (i := 217) rfl)) rfl
theorem wd_508 : (.instanceMethod ⟨"DrawingVault$Drawing", "lendTo", "(I)V"⟩ : Cond) ∈ aw := aw_in (tb_2 (List.mem_of_getElem? (i := 218) rfl)) rfl
theorem wd_509 : (.selects "DrawingVault$Drawing" ⟨"DrawingVault$Drawing", "lendTo", "(I)V"⟩ ⟨"DrawingVault$Drawing", "lendTo", "(I)V"⟩ : Cond) ∈ aw := aw_in (tb_2 (List.mem_of_getElem? (i := 219) rfl)) rfl
theorem wd_510 : (.code ⟨"DrawingVault", "copyRefusal", "(LDrawingVault$Drawing;I)I"⟩ prog_1_method_32_code 3 (Option.some .int) : Cond) ∈ aw := aw_in (tb_2 (List.mem_of_getElem? (i := 231) rfl)) rfl
theorem wd_511 : (.methodLink "DrawingVault" 85 ⟨"DrawingVault", "copyRefusal", "(LDrawingVault$Drawing;I)I"⟩ : Cond) ∈ aw := aw_in (tb_2 (List.mem_of_getElem? (i := 228) rfl)) rfl
theorem wd_512 : (.instanceMethod ⟨"DrawingVault", "copyRefusal", "(LDrawingVault$Drawing;I)I"⟩ : Cond) ∈ aw := aw_in (tb_2 (List.mem_of_getElem? (i := 230) rfl)) rfl
theorem wd_513 : (.selects "DrawingVault" ⟨"DrawingVault", "copyRefusal", "(LDrawingVault$Drawing;I)I"⟩ ⟨"DrawingVault", "copyRefusal", "(LDrawingVault$Drawing;I)I"⟩ : Cond) ∈ aw := aw_in (tb_s (q := (⟨"DrawingVault", "copyRefusal", "(LDrawingVault$Drawing;I)I"⟩, _)) (List.mem_append_right _ (List.mem_append_left _ (List.mem_of_getElem? (i := 1) rfl)))) rfl
theorem wd_514 : (.code ⟨"DrawingVault$Drawing", "endLoan", "()V"⟩ prog_5_method_8_code 1 (Option.none : Option Jvm.ClassFile.FieldType) : Cond) ∈ aw := aw_in (tb_2 (List.mem_of_getElem? (i := 235) rfl)) rfl
theorem wd_515 : (.methodLink "DrawingVault" 88 ⟨"DrawingVault$Drawing", "endLoan", "()V"⟩ : Cond) ∈ aw := aw_in (tb_2 (List.mem_of_getElem? (i := 232) rfl)) rfl
theorem wd_516 : (.instanceMethod ⟨"DrawingVault$Drawing", "endLoan", "()V"⟩ : Cond) ∈ aw := aw_in (tb_2 (List.mem_of_getElem? (i := 233) rfl)) rfl
theorem wd_517 : (.selects "DrawingVault$Drawing" ⟨"DrawingVault$Drawing", "endLoan", "()V"⟩ ⟨"DrawingVault$Drawing", "endLoan", "()V"⟩ : Cond) ∈ aw := aw_in (tb_2 (List.mem_of_getElem? (i := 234) rfl)) rfl
theorem wd_518 : (.code ⟨"DrawingVault$Content", "hasByte", "(I)Z"⟩ prog_4_method_4_code 2 (Option.some .boolean) : Cond) ∈ aw := aw_in (tb_3 (List.mem_of_getElem? (i := 13) rfl)) rfl
theorem wd_519 : (.methodLink "DrawingVault" 95 ⟨"DrawingVault$Content", "hasByte", "(I)Z"⟩ : Cond) ∈ aw := aw_in (tb_3 (List.mem_of_getElem? (i := 10) rfl)) rfl
theorem wd_520 : (.instanceMethod ⟨"DrawingVault$Content", "hasByte", "(I)Z"⟩ : Cond) ∈ aw := aw_in (tb_3 (List.mem_of_getElem? (i := 11) rfl)) rfl
theorem wd_521 : (.selects "DrawingVault$Content" ⟨"DrawingVault$Content", "hasByte", "(I)Z"⟩ ⟨"DrawingVault$Content", "hasByte", "(I)Z"⟩ : Cond) ∈ aw := aw_in (tb_3 (List.mem_of_getElem? (i := 12) rfl)) rfl
theorem wd_522 : (.methodLink "DrawingVault" 103 ⟨"DrawingVault$Content", "setByte", "(II)V"⟩ : Cond) ∈ aw := aw_in (tb_3 (List.mem_of_getElem? (i := 14) rfl)) rfl
theorem wd_523 : (.code ⟨"DrawingVault$Content", "setBytes", "(I)V"⟩ prog_4_method_7_code 3 (Option.none : Option Jvm.ClassFile.FieldType) : Cond) ∈ aw := aw_in (tb_3 (List.mem_of_getElem? (i := 33) rfl)) rfl
theorem wd_524 : (.methodLink "DrawingVault" 107 ⟨"DrawingVault$Content", "setBytes", "(I)V"⟩ : Cond) ∈ aw := aw_in (tb_3 (List.mem_of_getElem? (i := 30) rfl)) rfl
theorem wd_525 : (.instanceMethod ⟨"DrawingVault$Content", "setBytes", "(I)V"⟩ : Cond) ∈ aw := aw_in (tb_3 (List.mem_of_getElem? (i := 31) rfl)) rfl
theorem wd_526 : (.selects "DrawingVault$Content" ⟨"DrawingVault$Content", "setBytes", "(I)V"⟩ ⟨"DrawingVault$Content", "setBytes", "(I)V"⟩ : Cond) ∈ aw := aw_in (tb_3 (List.mem_of_getElem? (i := 32) rfl)) rfl
theorem wd_527 : (.code ⟨"DrawingVault", "refRefusal", "(LDrawingVault$Content;III)I"⟩ prog_1_method_33_code 5 (Option.some .int) : Cond) ∈ aw := aw_in (tb_3 (List.mem_of_getElem? (i := 45) rfl)) rfl
theorem wd_528 : (.methodLink "DrawingVault" 110 ⟨"DrawingVault", "refRefusal", "(LDrawingVault$Content;III)I"⟩ : Cond) ∈ aw := aw_in (tb_3 (List.mem_of_getElem? (i := 42) rfl)) rfl
theorem wd_529 : (.instanceMethod ⟨"DrawingVault", "refRefusal", "(LDrawingVault$Content;III)I"⟩ : Cond) ∈ aw := aw_in (tb_3 (List.mem_of_getElem? (i := 44) rfl)) rfl
theorem wd_530 : (.selects "DrawingVault" ⟨"DrawingVault", "refRefusal", "(LDrawingVault$Content;III)I"⟩ ⟨"DrawingVault", "refRefusal", "(LDrawingVault$Content;III)I"⟩ : Cond) ∈ aw := aw_in (tb_s (q := (⟨"DrawingVault", "refRefusal", "(LDrawingVault$Content;III)I"⟩, _)) (List.mem_append_right _ (List.mem_append_left _ (List.mem_of_getElem? (i := 2) rfl)))) rfl
theorem wd_531 : (.code ⟨"DrawingVault$Content", "setReference", "(III)V"⟩ prog_4_method_12_code 4 (Option.none : Option Jvm.ClassFile.FieldType) : Cond) ∈ aw := aw_in (tb_3 (List.mem_of_getElem? (i := 49) rfl)) rfl
theorem wd_532 : (.methodLink "DrawingVault" 114 ⟨"DrawingVault$Content", "setReference", "(III)V"⟩ : Cond) ∈ aw := aw_in (tb_3 (List.mem_of_getElem? (i := 46) rfl)) rfl
theorem wd_533 : (.instanceMethod ⟨"DrawingVault$Content", "setReference", "(III)V"⟩ : Cond) ∈ aw := aw_in (tb_3 (List.mem_of_getElem? (i := 47) rfl)) rfl
theorem wd_534 : (.selects "DrawingVault$Content" ⟨"DrawingVault$Content", "setReference", "(III)V"⟩ ⟨"DrawingVault$Content", "setReference", "(III)V"⟩ : Cond) ∈ aw := aw_in (tb_3 (List.mem_of_getElem? (i := 48) rfl)) rfl
theorem wd_535 : (.code ⟨"DrawingVault$Content", "hasReference", "(I)Z"⟩ prog_4_method_11_code 2 (Option.some .boolean) : Cond) ∈ aw := aw_in (tb_3 (List.mem_of_getElem? (i := 60) rfl)) rfl
theorem wd_536 : (.methodLink "DrawingVault" 118 ⟨"DrawingVault$Content", "hasReference", "(I)Z"⟩ : Cond) ∈ aw := aw_in (tb_3 (List.mem_of_getElem? (i := 57) rfl)) rfl
theorem wd_537 : (.instanceMethod ⟨"DrawingVault$Content", "hasReference", "(I)Z"⟩ : Cond) ∈ aw := aw_in (tb_3 (List.mem_of_getElem? (i := 58) rfl)) rfl
theorem wd_538 : (.selects "DrawingVault$Content" ⟨"DrawingVault$Content", "hasReference", "(I)Z"⟩ ⟨"DrawingVault$Content", "hasReference", "(I)Z"⟩ : Cond) ∈ aw := aw_in (tb_3 (List.mem_of_getElem? (i := 59) rfl)) rfl
theorem wd_539 : (.code ⟨"DrawingVault$Content", "removeReference", "(I)V"⟩ prog_4_method_13_code 3 (Option.none : Option Jvm.ClassFile.FieldType) : Cond) ∈ aw := aw_in (tb_3 (List.mem_of_getElem? (i := 64) rfl)) rfl
theorem wd_540 : (.methodLink "DrawingVault" 121 ⟨"DrawingVault$Content", "removeReference", "(I)V"⟩ : Cond) ∈ aw := aw_in (tb_3 (List.mem_of_getElem? (i := 61) rfl)) rfl
theorem wd_541 : (.instanceMethod ⟨"DrawingVault$Content", "removeReference", "(I)V"⟩ : Cond) ∈ aw := aw_in (tb_3 (List.mem_of_getElem? (i := 62) rfl)) rfl
theorem wd_542 : (.selects "DrawingVault$Content" ⟨"DrawingVault$Content", "removeReference", "(I)V"⟩ ⟨"DrawingVault$Content", "removeReference", "(I)V"⟩ : Cond) ∈ aw := aw_in (tb_3 (List.mem_of_getElem? (i := 63) rfl)) rfl
theorem wd_543 : (.code ⟨"DrawingVault", "checkRefusal", "(III)I"⟩ prog_1_method_35_code 6 (Option.some .int) : Cond) ∈ aw := aw_in (tb_3 (List.mem_of_getElem? (i := 103) rfl)) rfl
theorem wd_544 : (.methodLink "DrawingVault" 136 ⟨"DrawingVault", "checkRefusal", "(III)I"⟩ : Cond) ∈ aw := aw_in (tb_3 (List.mem_of_getElem? (i := 100) rfl)) rfl
theorem wd_545 : (.instanceMethod ⟨"DrawingVault", "checkRefusal", "(III)I"⟩ : Cond) ∈ aw := aw_in (tb_3 (List.mem_of_getElem? (i := 102) rfl)) rfl
theorem wd_546 : (.selects "DrawingVault" ⟨"DrawingVault", "checkRefusal", "(III)I"⟩ ⟨"DrawingVault", "checkRefusal", "(III)I"⟩ : Cond) ∈ aw := aw_in (tb_s (q := (⟨"DrawingVault", "checkRefusal", "(III)I"⟩, _)) (List.mem_append_right _ (List.mem_append_left _ (List.mem_of_getElem? (i := 6) rfl)))) rfl
theorem wd_547 : (.code ⟨"DrawingVault", "becomes", "(IIII)Z"⟩ prog_1_method_29_code 6 (Option.some .boolean) : Cond) ∈ aw := aw_in (tb_3 (List.mem_of_getElem? (i := 107) rfl)) rfl
theorem wd_548 : (.methodLink "DrawingVault" 140 ⟨"DrawingVault", "becomes", "(IIII)Z"⟩ : Cond) ∈ aw := aw_in (tb_3 (List.mem_of_getElem? (i := 104) rfl)) rfl
theorem wd_549 : (.instanceMethod ⟨"DrawingVault", "becomes", "(IIII)Z"⟩ : Cond) ∈ aw := aw_in (tb_3 (List.mem_of_getElem? (i := 106) rfl)) rfl
theorem wd_550 : (.selects "DrawingVault" ⟨"DrawingVault", "becomes", "(IIII)Z"⟩ ⟨"DrawingVault", "becomes", "(IIII)Z"⟩ : Cond) ∈ aw := aw_in (tb_s (q := (⟨"DrawingVault", "becomes", "(IIII)Z"⟩, _)) (List.mem_append_right _ (List.mem_append_left _ (List.mem_of_getElem? (i := 7) rfl)))) rfl
theorem wd_551 : (.code ⟨"DrawingVault", "releaseRefusal", "(III)I"⟩ prog_1_method_36_code 5 (Option.some .int) : Cond) ∈ aw := aw_in (tb_3 (List.mem_of_getElem? (i := 118) rfl)) rfl
theorem wd_552 : (.methodLink "DrawingVault" 144 ⟨"DrawingVault", "releaseRefusal", "(III)I"⟩ : Cond) ∈ aw := aw_in (tb_3 (List.mem_of_getElem? (i := 115) rfl)) rfl
theorem wd_553 : (.instanceMethod ⟨"DrawingVault", "releaseRefusal", "(III)I"⟩ : Cond) ∈ aw := aw_in (tb_3 (List.mem_of_getElem? (i := 117) rfl)) rfl
theorem wd_554 : (.selects "DrawingVault" ⟨"DrawingVault", "releaseRefusal", "(III)I"⟩ ⟨"DrawingVault", "releaseRefusal", "(III)I"⟩ : Cond) ∈ aw := aw_in (tb_s (q := (⟨"DrawingVault", "releaseRefusal", "(III)I"⟩, _)) (List.mem_append_right _ (List.mem_append_left _ (List.mem_of_getElem? (i := 8) rfl)))) rfl
theorem wd_555 : (.code ⟨"DrawingVault", "withdrawRefusal", "(III)I"⟩ prog_1_method_37_code 6 (Option.some .int) : Cond) ∈ aw := aw_in (tb_3 (List.mem_of_getElem? (i := 145) rfl)) rfl
theorem wd_556 : (.methodLink "DrawingVault" 147 ⟨"DrawingVault", "withdrawRefusal", "(III)I"⟩ : Cond) ∈ aw := aw_in (tb_3 (List.mem_of_getElem? (i := 142) rfl)) rfl
theorem wd_557 : (.instanceMethod ⟨"DrawingVault", "withdrawRefusal", "(III)I"⟩ : Cond) ∈ aw := aw_in (tb_3 (List.mem_of_getElem? (i := 144) rfl)) rfl
theorem wd_558 : (.selects "DrawingVault" ⟨"DrawingVault", "withdrawRefusal", "(III)I"⟩ ⟨"DrawingVault", "withdrawRefusal", "(III)I"⟩ : Cond) ∈ aw := aw_in (tb_s (q := (⟨"DrawingVault", "withdrawRefusal", "(III)I"⟩, _)) (List.mem_append_right _ (List.mem_append_left _ (List.mem_of_getElem? (i := 12) rfl)))) rfl
theorem wd_559 : (.code ⟨"DrawingVault$Content", "byteAt", "(I)I"⟩ prog_4_method_5_code 2 (Option.some .int) : Cond) ∈ aw := aw_in (tb_3 (List.mem_of_getElem? (i := 219) rfl)) rfl
theorem wd_560 : (.methodLink "DrawingVault" 342 ⟨"DrawingVault$Content", "byteAt", "(I)I"⟩ : Cond) ∈ aw := aw_in (tb_3 (List.mem_of_getElem? (i := 216) rfl)) rfl
theorem wd_561 : (.instanceMethod ⟨"DrawingVault$Content", "byteAt", "(I)I"⟩ : Cond) ∈ aw := aw_in (tb_3 (List.mem_of_getElem? (i := 217) rfl)) rfl
theorem wd_562 : (.selects "DrawingVault$Content" ⟨"DrawingVault$Content", "byteAt", "(I)I"⟩ ⟨"DrawingVault$Content", "byteAt", "(I)I"⟩ : Cond) ∈ aw := aw_in (tb_3 (List.mem_of_getElem? (i := 218) rfl)) rfl
theorem wd_563 : (.fieldLink "DrawingVault" 181 "DrawingVault$Content" "bytes" "I" : Cond) ∈ aw := aw_in (tb_2 (List.mem_of_getElem? (i := 140) rfl)) rfl
theorem wd_564 : (.code ⟨"DrawingVault$ChunkSet", "sizeOf", "(LDrawingVault$Content;)I"⟩ prog_3_method_3_code 2 (Option.some .int) : Cond) ∈ aw := aw_in (tb_3 (List.mem_of_getElem? (i := 89) rfl)) rfl
theorem wd_565 : (.methodLink "DrawingVault" 128 ⟨"DrawingVault$ChunkSet", "sizeOf", "(LDrawingVault$Content;)I"⟩ : Cond) ∈ aw := aw_in (tb_3 (List.mem_of_getElem? (i := 86) rfl)) rfl
theorem wd_566 : (.instanceMethod ⟨"DrawingVault$ChunkSet", "sizeOf", "(LDrawingVault$Content;)I"⟩ : Cond) ∈ aw := aw_in (tb_3 (List.mem_of_getElem? (i := 87) rfl)) rfl
theorem wd_567 : (.selects "DrawingVault$ChunkSet" ⟨"DrawingVault$ChunkSet", "sizeOf", "(LDrawingVault$Content;)I"⟩ ⟨"DrawingVault$ChunkSet", "sizeOf", "(LDrawingVault$Content;)I"⟩ : Cond) ∈ aw := aw_in (tb_3 (List.mem_of_getElem? (i := 88) rfl)) rfl
theorem wd_568 : (.code ⟨"DrawingVault", "byteOf", "(LDrawingVault$Content;I)I"⟩ prog_1_method_55_code 3 (Option.some .int) : Cond) ∈ aw := aw_in (tb_3 (List.mem_of_getElem? (i := 215) rfl)) rfl
theorem wd_569 : (.methodLink "DrawingVault" 187 ⟨"DrawingVault", "byteOf", "(LDrawingVault$Content;I)I"⟩ : Cond) ∈ aw := aw_in (tb_3 (List.mem_of_getElem? (i := 213) rfl)) rfl
theorem wd_570 : (.static ⟨"DrawingVault", "byteOf", "(LDrawingVault$Content;I)I"⟩ : Cond) ∈ aw := aw_in (tb_3 (List.mem_of_getElem? (i := 214) rfl)) rfl
theorem wd_571 : (.code ⟨"DrawingVault", "referencePart", "(LDrawingVault$Content;I)I"⟩ prog_1_method_56_code 4 (Option.some .int) : Cond) ∈ aw := aw_in (tb_3 (List.mem_of_getElem? (i := 236) rfl)) rfl
theorem wd_572 : (.methodLink "DrawingVault" 206 ⟨"DrawingVault", "referencePart", "(LDrawingVault$Content;I)I"⟩ : Cond) ∈ aw := aw_in (tb_3 (List.mem_of_getElem? (i := 234) rfl)) rfl
theorem wd_573 : (.static ⟨"DrawingVault", "referencePart", "(LDrawingVault$Content;I)I"⟩ : Cond) ∈ aw := aw_in (tb_3 (List.mem_of_getElem? (i := 235) rfl)) rfl
theorem wd_574 : (.code ⟨"DrawingVault$Baseline", "drawingByNumber", "(I)I"⟩ prog_2_method_4_code 4 (Option.some .int) : Cond) ∈ aw := aw_in (tb_4 (List.mem_of_getElem? (i := 7) rfl)) rfl
theorem wd_575 : (.methodLink "DrawingVault" 213 ⟨"DrawingVault$Baseline", "drawingByNumber", "(I)I"⟩ : Cond) ∈ aw := aw_in (tb_4 (List.mem_of_getElem? (i := 4) rfl)) rfl
theorem wd_576 : (.instanceMethod ⟨"DrawingVault$Baseline", "drawingByNumber", "(I)I"⟩ : Cond) ∈ aw := aw_in (tb_4 (List.mem_of_getElem? (i := 5) rfl)) rfl
theorem wd_577 : (.selects "DrawingVault$Baseline" ⟨"DrawingVault$Baseline", "drawingByNumber", "(I)I"⟩ ⟨"DrawingVault$Baseline", "drawingByNumber", "(I)I"⟩ : Cond) ∈ aw := aw_in (tb_4 (List.mem_of_getElem? (i := 6) rfl)) rfl
theorem wd_578 : (.code ⟨"DrawingVault$Content", "samePiece", "(LDrawingVault$Content;I)Z"⟩ prog_4_method_10_code 3 (Option.some .boolean) : Cond) ∈ aw := aw_in (tb_4 (List.mem_of_getElem? (i := 18) rfl)) rfl
theorem wd_579 : (.methodLink "DrawingVault" 226 ⟨"DrawingVault$Content", "samePiece", "(LDrawingVault$Content;I)Z"⟩ : Cond) ∈ aw := aw_in (tb_4 (List.mem_of_getElem? (i := 15) rfl)) rfl
theorem wd_580 : (.instanceMethod ⟨"DrawingVault$Content", "samePiece", "(LDrawingVault$Content;I)Z"⟩ : Cond) ∈ aw := aw_in (tb_4 (List.mem_of_getElem? (i := 16) rfl)) rfl
theorem wd_581 : (.selects "DrawingVault$Content" ⟨"DrawingVault$Content", "samePiece", "(LDrawingVault$Content;I)Z"⟩ ⟨"DrawingVault$Content", "samePiece", "(LDrawingVault$Content;I)Z"⟩ : Cond) ∈ aw := aw_in (tb_4 (List.mem_of_getElem? (i := 17) rfl)) rfl

def V_needPower (σ : hT) : Option ((Option Unit) × hT) := if (xI σ 403 0 0) = 0 then some (some (), σ) else some (none, σ)
set_option maxHeartbeats 4000000 in
set_option maxRecDepth 100000 in
theorem t_V_needPower (l : Launch) (dC : Nat → ClassId) (dI : Nat → Nat → Nat) (ad : Nat → Nat → Nat) (ca : Nat → Nat → ClassId) (dom : List (Nat × Nat)) (sz : Nat) (σ : hT) (hm0 : (0, 0) ∈ dom) (hN : dom.Nodup) (hC : clo dom σ.2.2) (ρ : Unit) (σ' : hT) (hf : V_needPower σ = some (some ρ, σ')) : Met l yV_needPower (.code yV_needPower cV_needPower 1 none :: aw) ({ frames := 0, cells := 0, slots := 0, locals := 0 }) (hW (dC, dI) sz ad ca dom σ [.ref (ad 0 0)]) (va_Qv (fun (_ : Unit) => True) (fun _ t => hB (dC, dI) (va_A (w9 ad ca dom σ) sz) ad ca dom σ' t) (va_A (w9 ad ca dom σ) sz)) 0 0 (va_A (w9 ad ca dom σ) sz) := by
  refine Met.ofW (cc := cV_needPower) (maxL := 1) (ret := none) (by decide) rfl ?_
  intro p e s m args below meth c s₁ B hml hv
  obtain ⟨rfl, hv⟩ := hv
  have hx := B.exec
  have hb := B.bytes
  have hr := B.returns
  have hts : ∀ w ∈ aw, w.before _ s = true := fun w h => atoms_spec (ws := (.code yV_needPower cV_needPower 1 none :: aw)) B.pre w (List.mem_cons_of_mem _ h)
  have hown : s.vm.findClass RV = some m.cls := findClass_of_methodNamed B.named
  have hlocks := B.notSynchronized
  obtain ⟨hsz, hP, hK, hD0, hG⟩ := hv
  subst hsz
  have hD := hD0.self (sz := s.heap.size)
  generalize hAe : va_A (w9 ad ca dom σ) s.heap.size = A at hD ⊢
  have hA : ∀ q : Nat, s.heap.size ≤ q → A q := fun q h => by rw [← hAe]; exact Or.inr h
  obtain ⟨H, hH⟩ : ∃ H, H = s.heap := ⟨_, rfl⟩
  have hS : va_S A s.heap H [] := by rw [hH]; exact va_S.rf
  rw [← hH] at hP ⊢
  unfold V_needPower at hf
  have hl := lv_entry ([.ref (ad 0 0)]) (n := 1) (Nat.le_of_ble_eq_true rfl)
  rw [lg_entry_eq]
  generalize (lg_sl ([.ref (ad 0 0)]) ++ List.replicate (1 - (lg_sl ([.ref (ad 0 0)])).length) Slot.unset).toArray = ls at hl ⊢
  have hl : lv_has ls 1 [(0, .ref (ad 0 0))] := hl
  refine lv_aload_n (pc := 0) hx hb dV_needPower_0 rfl (lv_at hl 0 rfl) ?_
  obtain ⟨q1, hq1, eq1⟩ := at_0 (ad := ad) (ca := ca) (σ := σ) hm0
  refine va_get (D := (dC, dI)) (cl := kCl) (C := RV) (T := TV) (N := 9) (pc := 1) hx hb hts inV hown hK.1 hP q1 eq1 rfl 7 (by decide) (hts _ wd_380) (fun _ h9 => h9) rfl dV_needPower_1 ?_
  obtain ⟨q2, hq2, eq2⟩ := at_3 (ad := ad) (ca := ca) (σ := σ) (cm_0_7 hC hm0)
  refine va_get (D := (dC, dI)) (cl := kCl) (C := RP) (T := TP) (N := 6) (pc := 4) hx hb hts inP hown hK.1 hP q2 eq2 rfl 3 (by decide) (hts _ wd_439) (fun _ h9 => h9) rfl dV_needPower_4 ?_
  refine lv_if_eq (pc := 7) (tgt := 18) hx hb dV_needPower_7 rfl (fun h3 => ?_) (fun h3 => ?_)
  · replace hf := ite_t h3 hf
    obtain ⟨h8, h9⟩ := Prod.mk.inj (Option.some.inj hf)
    subst h9
    have h8 := Option.some.inj h8
    exact W.vret (pc := 18) hx hb hr (fun t ht hW => ⟨⟨(), rfl, trivial, by rw [ht]; exact hP, hD, hC⟩, hS.F ht⟩) hS.2.2 dV_needPower_18
  · replace hf := ite_f h3 hf
    exact nomatch hf
def V_mayWrite (σ : hT) (a1 : Int32) (a2 : Int32) : Option ((Option Int32) × hT) := if a1 = 0 then if a2 ≤ (xI σ 400 0 0) then if a1 = 0 then if (P_failsBy σ a2) = 0 then Option.bind (V_allowed σ a1) fun ⟨y26, σ27⟩ => if y26 = 0 ∨ y26 = 1 then some (some y26, σ27) else none else lt9 (sI σ 403 0 0 1) fun σ29 => some (none, σ29) else Option.bind (V_allowed σ a1) fun ⟨y20, σ21⟩ => if y20 = 0 ∨ y20 = 1 then some (some y20, σ21) else none else Option.bind (V_allowed σ 8) fun ⟨y32, σ33⟩ => if y32 = 0 ∨ y32 = 1 then some (some y32, σ33) else none else if a1 = 0 then if (P_failsBy σ a2) = 0 then Option.bind (V_allowed σ a1) fun ⟨y10, σ11⟩ => if y10 = 0 ∨ y10 = 1 then some (some y10, σ11) else none else lt9 (sI σ 403 0 0 1) fun σ13 => some (none, σ13) else Option.bind (V_allowed σ a1) fun ⟨y4, σ5⟩ => if y4 = 0 ∨ y4 = 1 then some (some y4, σ5) else none
set_option maxHeartbeats 4000000 in
set_option maxRecDepth 100000 in
theorem t_V_mayWrite (l : Launch) (dC : Nat → ClassId) (dI : Nat → Nat → Nat) (ad : Nat → Nat → Nat) (ca : Nat → Nat → ClassId) (dom : List (Nat × Nat)) (sz : Nat) (σ : hT) (a1 : Int32) (a2 : Int32) (hm0 : (0, 0) ∈ dom) (hN : dom.Nodup) (hC : clo dom σ.2.2) (ρ : Int32) (σ' : hT) (hf : V_mayWrite σ a1 a2 = some (some ρ, σ')) : Met l yV_mayWrite (.code yV_mayWrite cV_mayWrite 3 (some .boolean) :: aw) ({ frames := 1, cells := 0, slots := 0, locals := 21 }) (hW (dC, dI) sz ad ca dom σ [.ref (ad 0 0), .int a1, .int a2]) (va_Qi (fun r (_ : Unit) => r = ρ) (fun _ t => hB (dC, dI) (va_A (w9 ad ca dom σ) sz) ad ca dom σ' t) (va_A (w9 ad ca dom σ) sz)) 0 0 (va_A (w9 ad ca dom σ) sz) := by
  refine Met.ofW (cc := cV_mayWrite) (maxL := 3) (ret := (some .boolean)) (by decide) rfl ?_
  intro p e s m args below meth c s₁ B hml hv
  obtain ⟨rfl, hv⟩ := hv
  have hx := B.exec
  have hb := B.bytes
  have hr := B.returns
  have hts : ∀ w ∈ aw, w.before _ s = true := fun w h => atoms_spec (ws := (.code yV_mayWrite cV_mayWrite 3 (some .boolean) :: aw)) B.pre w (List.mem_cons_of_mem _ h)
  have hown : s.vm.findClass RV = some m.cls := findClass_of_methodNamed B.named
  have hlocks := B.notSynchronized
  obtain ⟨hsz, hP, hK, hD0, hG⟩ := hv
  subst hsz
  have hD := hD0.self (sz := s.heap.size)
  generalize hAe : va_A (w9 ad ca dom σ) s.heap.size = A at hD ⊢
  have hA : ∀ q : Nat, s.heap.size ≤ q → A q := fun q h => by rw [← hAe]; exact Or.inr h
  obtain ⟨H, hH⟩ : ∃ H, H = s.heap := ⟨_, rfl⟩
  have hS : va_S A s.heap H [] := by rw [hH]; exact va_S.rf
  rw [← hH] at hP ⊢
  unfold V_mayWrite at hf
  have hl := lv_entry ([.ref (ad 0 0), .int a1, .int a2]) (n := 3) (Nat.le_of_ble_eq_true rfl)
  rw [lg_entry_eq]
  generalize (lg_sl ([.ref (ad 0 0), .int a1, .int a2]) ++ List.replicate (3 - (lg_sl ([.ref (ad 0 0), .int a1, .int a2])).length) Slot.unset).toArray = ls at hl ⊢
  have hl : lv_has ls 3 [(0, .ref (ad 0 0)), (1, .int a1), (2, .int a2)] := hl
  refine lv_iload_n (pc := 0) hx hb dV_mayWrite_0 rfl (lv_at hl 1 rfl) ?_
  refine lv_if_ne (pc := 1) (tgt := 22) hx hb dV_mayWrite_1 rfl (fun h1 => ?_) (fun h1 => ?_)
  · replace hf := ite_f h1 hf
    refine lv_iload_n (pc := 22) hx hb dV_mayWrite_22 rfl (lv_at hl 1 rfl) ?_
    refine lv_if_ne (pc := 23) (tgt := 53) hx hb dV_mayWrite_23 rfl (fun h2 => ?_) (fun h2 => ?_)
    · replace hf := ite_f h2 hf
      refine lv_aload_n (pc := 53) hx hb dV_mayWrite_53 rfl (lv_at hl 0 rfl) ?_
      refine lv_iload_n (pc := 54) hx hb dV_mayWrite_54 rfl (lv_at hl 1 rfl) ?_
      obtain ⟨q3, hq3, eq3⟩ := at_0 (ad := ad) (ca := ca) (σ := σ) hm0
      obtain ⟨⟨y4, σ5⟩, hy4, hf⟩ := ob hf
      have hFc := w9_free hD hS hA
      refine va_calli (pc := 55) (va_runV (As := [.int a1]) (rest := []) ⟨hx, hb, hml, hown, hts⟩ (t_V_allowed l dC dI ad ca dom H.size σ a1 hm0 hN hC y4 σ5 hy4) (cwV 1 hts (gV wd_483 wd_484 wd_485 wd_254 wd_482) rfl rfl rfl (by decide +kernel) ⟨Nat.le_of_ble_eq_true rfl, Nat.le_of_ble_eq_true rfl⟩) ⟨hW_blind, va_recv (q := (RV, TV, 9)) (q0 := q3) (ci := 0) hK.1 hP rfl eq3, hW_pre hP hK hD hG⟩ rfl rfl hl.1 rfl (lv_room (Nat.le_of_ble_eq_true rfl)) dV_mayWrite_55 ⟨Nat.le_of_ble_eq_true rfl, Nat.le_of_ble_eq_true rfl⟩) hS (fun q _ h => hFc q h) hFc (fun r9 u t H1 locs ht hvm hr9 hB hz1 hk1 hS => ?_)
      obtain ⟨hP, hD, hC⟩ := hB
      rw [ht] at hP
      replace hD := hD.weaken (fun _ _ _ h => hFc _ h)
      generalize H1 = H at hP hS ⊢
      refine W.eq (g2 := F0 m 58 ls [.int y4]) (by rw [hr9]) ?_
      obtain ⟨hz9, hf⟩ := ite_s hf
      obtain ⟨h8, h9⟩ := Prod.mk.inj (Option.some.inj hf)
      subst h9
      have h8 := Option.some.inj h8
      exact W.zret (pc := 58) hx hb hr (nar01 hz9) (fun t ht hW => ⟨⟨_, (), rfl, h8, by rw [ht]; exact hP, hD, hC⟩, hS.F ht⟩) hS.2.2 dV_mayWrite_58
    · replace hf := ite_t h2 hf
      refine lv_aload_n (pc := 26) hx hb dV_mayWrite_26 rfl (lv_at hl 0 rfl) ?_
      obtain ⟨q6, hq6, eq6⟩ := at_0 (ad := ad) (ca := ca) (σ := σ) hm0
      refine va_get (D := (dC, dI)) (cl := kCl) (C := RV) (T := TV) (N := 9) (pc := 27) hx hb hts inV hown hK.1 hP q6 eq6 rfl 7 (by decide) (hts _ wd_380) (fun _ h9 => h9) rfl dV_mayWrite_27 ?_
      refine lv_iload_n (pc := 30) hx hb dV_mayWrite_30 rfl (lv_at hl 2 rfl) ?_
      obtain ⟨q7, hq7, eq7⟩ := at_3 (ad := ad) (ca := ca) (σ := σ) (cm_0_7 hC hm0)
      refine vp_callSi (pc := 31) (W.runV (As := [.int a2]) (rest := []) ⟨hx, hb, hml, hown, hts⟩ (t_P_failsBy l dC dI ad ca dom σ a2 (cm_0_7 hC hm0) hN hC (P_failsBy σ a2) rfl) (cwV 1 hts (gV wd_487 wd_488 wd_489 wd_385 wd_486) rfl rfl rfl (by decide +kernel) ⟨Nat.le_of_ble_eq_true rfl, Nat.le_of_ble_eq_true rfl⟩) ⟨hR_blind, va_recv (q := (RP, TP, 6)) (q0 := q7) (ci := 3) hK.1 hP rfl eq7, hR_pre hP hK hG⟩ rfl rfl hl.1 rfl (lv_room (Nat.le_of_ble_eq_true rfl)) dV_mayWrite_31 ⟨Nat.le_of_ble_eq_true rfl, Nat.le_of_ble_eq_true rfl⟩) (fun r9 hr9 => ?_)
      refine W.eq (g2 := F0 m 34 ls [.int (P_failsBy σ a2)]) (by rw [hr9]) ?_
      refine lv_if_eq (pc := 34) (tgt := 53) hx hb dV_mayWrite_34 rfl (fun h8 => ?_) (fun h8 => ?_)
      · replace hf := ite_t h8 hf
        refine lv_aload_n (pc := 53) hx hb dV_mayWrite_53 rfl (lv_at hl 0 rfl) ?_
        refine lv_iload_n (pc := 54) hx hb dV_mayWrite_54 rfl (lv_at hl 1 rfl) ?_
        obtain ⟨q9, hq9, eq9⟩ := at_0 (ad := ad) (ca := ca) (σ := σ) hm0
        obtain ⟨⟨y10, σ11⟩, hy10, hf⟩ := ob hf
        have hFc := w9_free hD hS hA
        refine va_calli (pc := 55) (va_runV (As := [.int a1]) (rest := []) ⟨hx, hb, hml, hown, hts⟩ (t_V_allowed l dC dI ad ca dom H.size σ a1 hm0 hN hC y10 σ11 hy10) (cwV 1 hts (gV wd_483 wd_484 wd_485 wd_254 wd_482) rfl rfl rfl (by decide +kernel) ⟨Nat.le_of_ble_eq_true rfl, Nat.le_of_ble_eq_true rfl⟩) ⟨hW_blind, va_recv (q := (RV, TV, 9)) (q0 := q9) (ci := 0) hK.1 hP rfl eq9, hW_pre hP hK hD hG⟩ rfl rfl hl.1 rfl (lv_room (Nat.le_of_ble_eq_true rfl)) dV_mayWrite_55 ⟨Nat.le_of_ble_eq_true rfl, Nat.le_of_ble_eq_true rfl⟩) hS (fun q _ h => hFc q h) hFc (fun r9 u t H1 locs ht hvm hr9 hB hz1 hk1 hS => ?_)
        obtain ⟨hP, hD, hC⟩ := hB
        rw [ht] at hP
        replace hD := hD.weaken (fun _ _ _ h => hFc _ h)
        generalize H1 = H at hP hS ⊢
        refine W.eq (g2 := F0 m 58 ls [.int y10]) (by rw [hr9]) ?_
        obtain ⟨hz9, hf⟩ := ite_s hf
        obtain ⟨h8, h9⟩ := Prod.mk.inj (Option.some.inj hf)
        subst h9
        have h8 := Option.some.inj h8
        exact W.zret (pc := 58) hx hb hr (nar01 hz9) (fun t ht hW => ⟨⟨_, (), rfl, h8, by rw [ht]; exact hP, hD, hC⟩, hS.F ht⟩) hS.2.2 dV_mayWrite_58
      · replace hf := ite_f h8 hf
        refine lv_aload_n (pc := 37) hx hb dV_mayWrite_37 rfl (lv_at hl 0 rfl) ?_
        obtain ⟨q12, hq12, eq12⟩ := at_0 (ad := ad) (ca := ca) (σ := σ) hm0
        refine va_get (D := (dC, dI)) (cl := kCl) (C := RV) (T := TV) (N := 9) (pc := 38) hx hb hts inV hown hK.1 hP q12 eq12 rfl 7 (by decide) (hts _ wd_380) (fun _ h9 => h9) rfl dV_mayWrite_38 ?_
        refine lv_iconst (pc := 41) (v := 1) hx hb dV_mayWrite_41 (by decide) ?_
        obtain ⟨q14, hq14, eq14⟩ := at_3 (ad := ad) (ca := ca) (σ := σ) (cm_0_7 hC hm0)
        refine va_put (D := (dC, dI)) (cl := kCl) (ci := 3) (v := .int 1) (ty := .boolean) (C := RP) (T := TP) (N := 6) (pc := 42) hx hb hts inP tyP tyP_ok nmP hown hK.1 hP hD hS q14 eq14 rfl 3 (by decide) (hts _ wd_439) (fun _ h9 => h9) rfl (by decide +kernel) (rfl) (rfl) (Nat.le_of_ble_eq_true rfl) dV_mayWrite_42 (fun H locs hP hD hS => ?_)
        obtain ⟨σ13, hσ13, hf⟩ := lt_9 hf
        obtain ⟨hP, hD⟩ := w9_rI 403 rfl hN hq14 hσ13 (pu_403) hP hD
        have hC : clo dom σ13.2.2 := by rw [hσ13]; exact hC
        exact nomatch hf
  · replace hf := ite_t h1 hf
    refine lv_iload_n (pc := 4) hx hb dV_mayWrite_4 rfl (lv_at hl 2 rfl) ?_
    refine lv_aload_n (pc := 5) hx hb dV_mayWrite_5 rfl (lv_at hl 0 rfl) ?_
    obtain ⟨q15, hq15, eq15⟩ := at_0 (ad := ad) (ca := ca) (σ := σ) hm0
    refine va_get (D := (dC, dI)) (cl := kCl) (C := RV) (T := TV) (N := 9) (pc := 6) hx hb hts inV hown hK.1 hP q15 eq15 rfl 7 (by decide) (hts _ wd_380) (fun _ h9 => h9) rfl dV_mayWrite_6 ?_
    obtain ⟨q16, hq16, eq16⟩ := at_3 (ad := ad) (ca := ca) (σ := σ) (cm_0_7 hC hm0)
    refine va_get (D := (dC, dI)) (cl := kCl) (C := RP) (T := TP) (N := 6) (pc := 9) hx hb hts inP hown hK.1 hP q16 eq16 rfl 0 (by decide) (hts _ wd_452) (fun _ h9 => h9) rfl dV_mayWrite_9 ?_
    refine lv_icmp_le (pc := 12) (tgt := 22) hx hb dV_mayWrite_12 rfl (fun h17 => ?_) (fun h17 => ?_)
    · replace hf := ite_t h17 hf
      refine lv_iload_n (pc := 22) hx hb dV_mayWrite_22 rfl (lv_at hl 1 rfl) ?_
      refine lv_if_ne (pc := 23) (tgt := 53) hx hb dV_mayWrite_23 rfl (fun h18 => ?_) (fun h18 => ?_)
      · replace hf := ite_f h18 hf
        refine lv_aload_n (pc := 53) hx hb dV_mayWrite_53 rfl (lv_at hl 0 rfl) ?_
        refine lv_iload_n (pc := 54) hx hb dV_mayWrite_54 rfl (lv_at hl 1 rfl) ?_
        obtain ⟨q19, hq19, eq19⟩ := at_0 (ad := ad) (ca := ca) (σ := σ) hm0
        obtain ⟨⟨y20, σ21⟩, hy20, hf⟩ := ob hf
        have hFc := w9_free hD hS hA
        refine va_calli (pc := 55) (va_runV (As := [.int a1]) (rest := []) ⟨hx, hb, hml, hown, hts⟩ (t_V_allowed l dC dI ad ca dom H.size σ a1 hm0 hN hC y20 σ21 hy20) (cwV 1 hts (gV wd_483 wd_484 wd_485 wd_254 wd_482) rfl rfl rfl (by decide +kernel) ⟨Nat.le_of_ble_eq_true rfl, Nat.le_of_ble_eq_true rfl⟩) ⟨hW_blind, va_recv (q := (RV, TV, 9)) (q0 := q19) (ci := 0) hK.1 hP rfl eq19, hW_pre hP hK hD hG⟩ rfl rfl hl.1 rfl (lv_room (Nat.le_of_ble_eq_true rfl)) dV_mayWrite_55 ⟨Nat.le_of_ble_eq_true rfl, Nat.le_of_ble_eq_true rfl⟩) hS (fun q _ h => hFc q h) hFc (fun r9 u t H1 locs ht hvm hr9 hB hz1 hk1 hS => ?_)
        obtain ⟨hP, hD, hC⟩ := hB
        rw [ht] at hP
        replace hD := hD.weaken (fun _ _ _ h => hFc _ h)
        generalize H1 = H at hP hS ⊢
        refine W.eq (g2 := F0 m 58 ls [.int y20]) (by rw [hr9]) ?_
        obtain ⟨hz9, hf⟩ := ite_s hf
        obtain ⟨h8, h9⟩ := Prod.mk.inj (Option.some.inj hf)
        subst h9
        have h8 := Option.some.inj h8
        exact W.zret (pc := 58) hx hb hr (nar01 hz9) (fun t ht hW => ⟨⟨_, (), rfl, h8, by rw [ht]; exact hP, hD, hC⟩, hS.F ht⟩) hS.2.2 dV_mayWrite_58
      · replace hf := ite_t h18 hf
        refine lv_aload_n (pc := 26) hx hb dV_mayWrite_26 rfl (lv_at hl 0 rfl) ?_
        obtain ⟨q22, hq22, eq22⟩ := at_0 (ad := ad) (ca := ca) (σ := σ) hm0
        refine va_get (D := (dC, dI)) (cl := kCl) (C := RV) (T := TV) (N := 9) (pc := 27) hx hb hts inV hown hK.1 hP q22 eq22 rfl 7 (by decide) (hts _ wd_380) (fun _ h9 => h9) rfl dV_mayWrite_27 ?_
        refine lv_iload_n (pc := 30) hx hb dV_mayWrite_30 rfl (lv_at hl 2 rfl) ?_
        obtain ⟨q23, hq23, eq23⟩ := at_3 (ad := ad) (ca := ca) (σ := σ) (cm_0_7 hC hm0)
        refine vp_callSi (pc := 31) (W.runV (As := [.int a2]) (rest := []) ⟨hx, hb, hml, hown, hts⟩ (t_P_failsBy l dC dI ad ca dom σ a2 (cm_0_7 hC hm0) hN hC (P_failsBy σ a2) rfl) (cwV 1 hts (gV wd_487 wd_488 wd_489 wd_385 wd_486) rfl rfl rfl (by decide +kernel) ⟨Nat.le_of_ble_eq_true rfl, Nat.le_of_ble_eq_true rfl⟩) ⟨hR_blind, va_recv (q := (RP, TP, 6)) (q0 := q23) (ci := 3) hK.1 hP rfl eq23, hR_pre hP hK hG⟩ rfl rfl hl.1 rfl (lv_room (Nat.le_of_ble_eq_true rfl)) dV_mayWrite_31 ⟨Nat.le_of_ble_eq_true rfl, Nat.le_of_ble_eq_true rfl⟩) (fun r9 hr9 => ?_)
        refine W.eq (g2 := F0 m 34 ls [.int (P_failsBy σ a2)]) (by rw [hr9]) ?_
        refine lv_if_eq (pc := 34) (tgt := 53) hx hb dV_mayWrite_34 rfl (fun h24 => ?_) (fun h24 => ?_)
        · replace hf := ite_t h24 hf
          refine lv_aload_n (pc := 53) hx hb dV_mayWrite_53 rfl (lv_at hl 0 rfl) ?_
          refine lv_iload_n (pc := 54) hx hb dV_mayWrite_54 rfl (lv_at hl 1 rfl) ?_
          obtain ⟨q25, hq25, eq25⟩ := at_0 (ad := ad) (ca := ca) (σ := σ) hm0
          obtain ⟨⟨y26, σ27⟩, hy26, hf⟩ := ob hf
          have hFc := w9_free hD hS hA
          refine va_calli (pc := 55) (va_runV (As := [.int a1]) (rest := []) ⟨hx, hb, hml, hown, hts⟩ (t_V_allowed l dC dI ad ca dom H.size σ a1 hm0 hN hC y26 σ27 hy26) (cwV 1 hts (gV wd_483 wd_484 wd_485 wd_254 wd_482) rfl rfl rfl (by decide +kernel) ⟨Nat.le_of_ble_eq_true rfl, Nat.le_of_ble_eq_true rfl⟩) ⟨hW_blind, va_recv (q := (RV, TV, 9)) (q0 := q25) (ci := 0) hK.1 hP rfl eq25, hW_pre hP hK hD hG⟩ rfl rfl hl.1 rfl (lv_room (Nat.le_of_ble_eq_true rfl)) dV_mayWrite_55 ⟨Nat.le_of_ble_eq_true rfl, Nat.le_of_ble_eq_true rfl⟩) hS (fun q _ h => hFc q h) hFc (fun r9 u t H1 locs ht hvm hr9 hB hz1 hk1 hS => ?_)
          obtain ⟨hP, hD, hC⟩ := hB
          rw [ht] at hP
          replace hD := hD.weaken (fun _ _ _ h => hFc _ h)
          generalize H1 = H at hP hS ⊢
          refine W.eq (g2 := F0 m 58 ls [.int y26]) (by rw [hr9]) ?_
          obtain ⟨hz9, hf⟩ := ite_s hf
          obtain ⟨h8, h9⟩ := Prod.mk.inj (Option.some.inj hf)
          subst h9
          have h8 := Option.some.inj h8
          exact W.zret (pc := 58) hx hb hr (nar01 hz9) (fun t ht hW => ⟨⟨_, (), rfl, h8, by rw [ht]; exact hP, hD, hC⟩, hS.F ht⟩) hS.2.2 dV_mayWrite_58
        · replace hf := ite_f h24 hf
          refine lv_aload_n (pc := 37) hx hb dV_mayWrite_37 rfl (lv_at hl 0 rfl) ?_
          obtain ⟨q28, hq28, eq28⟩ := at_0 (ad := ad) (ca := ca) (σ := σ) hm0
          refine va_get (D := (dC, dI)) (cl := kCl) (C := RV) (T := TV) (N := 9) (pc := 38) hx hb hts inV hown hK.1 hP q28 eq28 rfl 7 (by decide) (hts _ wd_380) (fun _ h9 => h9) rfl dV_mayWrite_38 ?_
          refine lv_iconst (pc := 41) (v := 1) hx hb dV_mayWrite_41 (by decide) ?_
          obtain ⟨q30, hq30, eq30⟩ := at_3 (ad := ad) (ca := ca) (σ := σ) (cm_0_7 hC hm0)
          refine va_put (D := (dC, dI)) (cl := kCl) (ci := 3) (v := .int 1) (ty := .boolean) (C := RP) (T := TP) (N := 6) (pc := 42) hx hb hts inP tyP tyP_ok nmP hown hK.1 hP hD hS q30 eq30 rfl 3 (by decide) (hts _ wd_439) (fun _ h9 => h9) rfl (by decide +kernel) (rfl) (rfl) (Nat.le_of_ble_eq_true rfl) dV_mayWrite_42 (fun H locs hP hD hS => ?_)
          obtain ⟨σ29, hσ29, hf⟩ := lt_9 hf
          obtain ⟨hP, hD⟩ := w9_rI 403 rfl hN hq30 hσ29 (pu_403) hP hD
          have hC : clo dom σ29.2.2 := by rw [hσ29]; exact hC
          exact nomatch hf
    · replace hf := ite_f h17 hf
      refine lv_aload_n (pc := 15) hx hb dV_mayWrite_15 rfl (lv_at hl 0 rfl) ?_
      refine lv_bipush (pc := 16) (v := 8) hx hb dV_mayWrite_16 (by decide) ?_
      obtain ⟨q31, hq31, eq31⟩ := at_0 (ad := ad) (ca := ca) (σ := σ) hm0
      obtain ⟨⟨y32, σ33⟩, hy32, hf⟩ := ob hf
      have hFc := w9_free hD hS hA
      refine va_calli (pc := 18) (va_runV (As := [.int 8]) (rest := []) ⟨hx, hb, hml, hown, hts⟩ (t_V_allowed l dC dI ad ca dom H.size σ 8 hm0 hN hC y32 σ33 hy32) (cwV 1 hts (gV wd_483 wd_484 wd_485 wd_254 wd_482) rfl rfl rfl (by decide +kernel) ⟨Nat.le_of_ble_eq_true rfl, Nat.le_of_ble_eq_true rfl⟩) ⟨hW_blind, va_recv (q := (RV, TV, 9)) (q0 := q31) (ci := 0) hK.1 hP rfl eq31, hW_pre hP hK hD hG⟩ rfl rfl hl.1 rfl (lv_room (Nat.le_of_ble_eq_true rfl)) dV_mayWrite_18 ⟨Nat.le_of_ble_eq_true rfl, Nat.le_of_ble_eq_true rfl⟩) hS (fun q _ h => hFc q h) hFc (fun r9 u t H1 locs ht hvm hr9 hB hz1 hk1 hS => ?_)
      obtain ⟨hP, hD, hC⟩ := hB
      rw [ht] at hP
      replace hD := hD.weaken (fun _ _ _ h => hFc _ h)
      generalize H1 = H at hP hS ⊢
      refine W.eq (g2 := F0 m 21 ls [.int y32]) (by rw [hr9]) ?_
      obtain ⟨hz9, hf⟩ := ite_s hf
      obtain ⟨h8, h9⟩ := Prod.mk.inj (Option.some.inj hf)
      subst h9
      have h8 := Option.some.inj h8
      exact W.zret (pc := 21) hx hb hr (nar01 hz9) (fun t ht hW => ⟨⟨_, (), rfl, h8, by rw [ht]; exact hP, hD, hC⟩, hS.F ht⟩) hS.2.2 dV_mayWrite_21
def V_becomes (n : Nat) (σ : hT) (a1 : Int32) (a2 : Int32) (a3 : Int32) (a4 : Int32) : Option ((Option Int32) × hT) := Option.bind (V_revisionAt σ a1 a2) fun y2 => hq y2 (Option.bind (V_mayWrite σ a4 1) fun ⟨y7o, σ8⟩ => ex9 y7o σ8 fun y7 => if y7 = 0 then some (some 0, σ8) else some (some 0, σ8)) fun j5 => Option.bind (V_mayWrite σ a4 1) fun ⟨y12o, σ13⟩ => ex9 y12o σ13 fun y12 => if y12 = 0 then some (some 0, σ13) else lt9 (sI σ13 802 j5 0 a3) fun σ15 => Option.bind (V_finish n σ15 1) fun ⟨y18, σ19⟩ => some (some 1, σ19)
set_option maxHeartbeats 4000000 in
set_option maxRecDepth 100000 in
theorem t_V_becomes (l : Launch) (dC : Nat → ClassId) (dI : Nat → Nat → Nat) (ad : Nat → Nat → Nat) (ca : Nat → Nat → ClassId) (dom : List (Nat × Nat)) (sz : Nat) (n : Nat) (σ : hT) (a1 : Int32) (a2 : Int32) (a3 : Int32) (a4 : Int32) (hm0 : (0, 0) ∈ dom) (hN : dom.Nodup) (hC : clo dom σ.2.2) (ρ : Int32) (σ' : hT) (hf : V_becomes n σ a1 a2 a3 a4 = some (some ρ, σ')) : Met l yV_becomes (.code yV_becomes cV_becomes 6 (some .boolean) :: aw) ({ frames := 6, cells := 0, slots := 0, locals := 125 }) (hW (dC, dI) sz ad ca dom σ [.ref (ad 0 0), .int a1, .int a2, .int a3, .int a4]) (va_Qi (fun r (_ : Unit) => r = ρ) (fun _ t => hB (dC, dI) (va_A (w9 ad ca dom σ) sz) ad ca dom σ' t) (va_A (w9 ad ca dom σ) sz)) 0 0 (va_A (w9 ad ca dom σ) sz) := by
  refine Met.ofW (cc := cV_becomes) (maxL := 6) (ret := (some .boolean)) (by decide) rfl ?_
  intro p e s m args below meth c s₁ B hml hv
  obtain ⟨rfl, hv⟩ := hv
  have hx := B.exec
  have hb := B.bytes
  have hr := B.returns
  have hts : ∀ w ∈ aw, w.before _ s = true := fun w h => atoms_spec (ws := (.code yV_becomes cV_becomes 6 (some .boolean) :: aw)) B.pre w (List.mem_cons_of_mem _ h)
  have hown : s.vm.findClass RV = some m.cls := findClass_of_methodNamed B.named
  have hlocks := B.notSynchronized
  obtain ⟨hsz, hP, hK, hD0, hG⟩ := hv
  subst hsz
  have hD := hD0.self (sz := s.heap.size)
  generalize hAe : va_A (w9 ad ca dom σ) s.heap.size = A at hD ⊢
  have hA : ∀ q : Nat, s.heap.size ≤ q → A q := fun q h => by rw [← hAe]; exact Or.inr h
  obtain ⟨H, hH⟩ : ∃ H, H = s.heap := ⟨_, rfl⟩
  have hS : va_S A s.heap H [] := by rw [hH]; exact va_S.rf
  rw [← hH] at hP ⊢
  unfold V_becomes at hf
  have hl := lv_entry ([.ref (ad 0 0), .int a1, .int a2, .int a3, .int a4]) (n := 6) (Nat.le_of_ble_eq_true rfl)
  rw [lg_entry_eq]
  generalize (lg_sl ([.ref (ad 0 0), .int a1, .int a2, .int a3, .int a4]) ++ List.replicate (6 - (lg_sl ([.ref (ad 0 0), .int a1, .int a2, .int a3, .int a4])).length) Slot.unset).toArray = ls at hl ⊢
  have hl : lv_has ls 6 [(0, .ref (ad 0 0)), (1, .int a1), (2, .int a2), (3, .int a3), (4, .int a4)] := hl
  refine lv_aload_n (pc := 0) hx hb dV_becomes_0 rfl (lv_at hl 0 rfl) ?_
  refine lv_iload_n (pc := 1) hx hb dV_becomes_1 rfl (lv_at hl 1 rfl) ?_
  refine lv_iload_n (pc := 2) hx hb dV_becomes_2 rfl (lv_at hl 2 rfl) ?_
  obtain ⟨q1, hq1, eq1⟩ := at_0 (ad := ad) (ca := ca) (σ := σ) hm0
  obtain ⟨y2, hy2, hf⟩ := ob hf
  refine va_cse (pc := 3) (W.runV (As := [.int a1, .int a2]) (rest := []) ⟨hx, hb, hml, hown, hts⟩ (t_V_revisionAt l dC dI ad ca dom σ a1 a2 hm0 hN hC y2 hy2) (cwV 2 hts (gV wd_324 wd_325 wd_326 wd_254 wd_323) rfl rfl rfl (by decide +kernel) ⟨Nat.le_of_ble_eq_true rfl, Nat.le_of_ble_eq_true rfl⟩) ⟨hR_blind, va_recv (q := (RV, TV, 9)) (q0 := q1) (ci := 0) hK.1 hP rfl eq1, hR_pre hP hK hG⟩ rfl rfl hl.1 rfl (lv_room (Nat.le_of_ble_eq_true rfl)) dV_becomes_3 ⟨Nat.le_of_ble_eq_true rfl, Nat.le_of_ble_eq_true rfl⟩) (fun r9 hr9 => ?_)
  obtain ⟨hr9, hmy3⟩ := hr9
  refine W.eq (g2 := F0 m 6 ls [va_re (ad 7) y2]) (by rw [hr9]) ?_
  rcases hE4 : y2 with _ | j5
  · replace hf := hq_n hE4 hf
    refine W.eq (g2 := F0 m 6 ls [.null]) rfl ?_
    refine lv_astoreN (pc := 6) hx hb dV_becomes_6 hl (by decide) rfl (fun ls hl => ?_)
    have hl : lv_has ls 6 [(5, .null), (0, .ref (ad 0 0)), (1, .int a1), (2, .int a2), (3, .int a3), (4, .int a4)] := hl
    refine lv_aload_n (pc := 8) hx hb dV_becomes_8 rfl (lv_at hl 1 rfl) ?_
    refine lv_iload (pc := 9) hx hb dV_becomes_9 (lv_at hl 5 rfl) ?_
    refine lv_iconst (pc := 11) (v := 1) hx hb dV_becomes_11 (by decide) ?_
    obtain ⟨q6, hq6, eq6⟩ := at_0 (ad := ad) (ca := ca) (σ := σ) hm0
    obtain ⟨⟨y7o, σ8⟩, hy7, hf⟩ := ob hf
    obtain ⟨y7, rfl⟩ : ∃ z, y7o = some z := by
      cases y7o with
      | none => exact (ex9_n hf).elim
      | some z => exact ⟨z, rfl⟩
    replace hf := ex9_s hf
    have hFc := w9_free hD hS hA
    refine va_calli (pc := 12) (va_runV (As := [.int a4, .int 1]) (rest := []) ⟨hx, hb, hml, hown, hts⟩ (t_V_mayWrite l dC dI ad ca dom H.size σ a4 1 hm0 hN hC y7 σ8 hy7) (cwV 2 hts (gV wd_491 wd_492 wd_493 wd_254 wd_490) rfl rfl rfl (by decide +kernel) ⟨Nat.le_of_ble_eq_true rfl, Nat.le_of_ble_eq_true rfl⟩) ⟨hW_blind, va_recv (q := (RV, TV, 9)) (q0 := q6) (ci := 0) hK.1 hP rfl eq6, hW_pre hP hK hD hG⟩ rfl rfl hl.1 rfl (lv_room (Nat.le_of_ble_eq_true rfl)) dV_becomes_12 ⟨Nat.le_of_ble_eq_true rfl, Nat.le_of_ble_eq_true rfl⟩) hS (fun q _ h => hFc q h) hFc (fun r9 u t H1 locs ht hvm hr9 hB hz1 hk1 hS => ?_)
    obtain ⟨hP, hD, hC⟩ := hB
    rw [ht] at hP
    replace hD := hD.weaken (fun _ _ _ h => hFc _ h)
    generalize H1 = H at hP hS ⊢
    refine W.eq (g2 := F0 m 15 ls [.int y7]) (by rw [hr9]) ?_
    refine lv_if_eq (pc := 15) (tgt := 23) hx hb dV_becomes_15 rfl (fun h9 => ?_) (fun h9 => ?_)
    · replace hf := ite_t h9 hf
      refine lv_iconst (pc := 23) (v := 0) hx hb dV_becomes_23 (by decide) ?_
      obtain ⟨h8, h9⟩ := Prod.mk.inj (Option.some.inj hf)
      subst h9
      have h8 := Option.some.inj h8
      exact W.zret (pc := 24) hx hb hr (rfl) (fun t ht hW => ⟨⟨_, (), rfl, h8, by rw [ht]; exact hP, hD, hC⟩, hS.F ht⟩) hS.2.2 dV_becomes_24
    · replace hf := ite_f h9 hf
      refine lv_aloadN (pc := 18) hx hb dV_becomes_18 (lv_at hl 0 rfl) ?_
      refine lv_ifnonnullN (pc := 20) hx hb dV_becomes_20 ?_
      refine lv_iconst (pc := 23) (v := 0) hx hb dV_becomes_23 (by decide) ?_
      obtain ⟨h8, h9⟩ := Prod.mk.inj (Option.some.inj hf)
      subst h9
      have h8 := Option.some.inj h8
      exact W.zret (pc := 24) hx hb hr (rfl) (fun t ht hW => ⟨⟨_, (), rfl, h8, by rw [ht]; exact hP, hD, hC⟩, hS.F ht⟩) hS.2.2 dV_becomes_24
  · replace hf := hq_s hE4 hf
    have hm10 : (7, j5) ∈ dom := (hmy3 _ hE4)
    refine W.eq (g2 := F0 m 6 ls [.ref (ad 7 j5)]) rfl ?_
    refine lv_astore (pc := 6) hx hb dV_becomes_6 hl (by decide) rfl (fun ls hl => ?_)
    have hl : lv_has ls 6 [(5, .ref (ad 7 j5)), (0, .ref (ad 0 0)), (1, .int a1), (2, .int a2), (3, .int a3), (4, .int a4)] := hl
    refine lv_aload_n (pc := 8) hx hb dV_becomes_8 rfl (lv_at hl 1 rfl) ?_
    refine lv_iload (pc := 9) hx hb dV_becomes_9 (lv_at hl 5 rfl) ?_
    refine lv_iconst (pc := 11) (v := 1) hx hb dV_becomes_11 (by decide) ?_
    obtain ⟨q11, hq11, eq11⟩ := at_0 (ad := ad) (ca := ca) (σ := σ) hm0
    obtain ⟨⟨y12o, σ13⟩, hy12, hf⟩ := ob hf
    obtain ⟨y12, rfl⟩ : ∃ z, y12o = some z := by
      cases y12o with
      | none => exact (ex9_n hf).elim
      | some z => exact ⟨z, rfl⟩
    replace hf := ex9_s hf
    have hFc := w9_free hD hS hA
    refine va_calli (pc := 12) (va_runV (As := [.int a4, .int 1]) (rest := []) ⟨hx, hb, hml, hown, hts⟩ (t_V_mayWrite l dC dI ad ca dom H.size σ a4 1 hm0 hN hC y12 σ13 hy12) (cwV 2 hts (gV wd_491 wd_492 wd_493 wd_254 wd_490) rfl rfl rfl (by decide +kernel) ⟨Nat.le_of_ble_eq_true rfl, Nat.le_of_ble_eq_true rfl⟩) ⟨hW_blind, va_recv (q := (RV, TV, 9)) (q0 := q11) (ci := 0) hK.1 hP rfl eq11, hW_pre hP hK hD hG⟩ rfl rfl hl.1 rfl (lv_room (Nat.le_of_ble_eq_true rfl)) dV_becomes_12 ⟨Nat.le_of_ble_eq_true rfl, Nat.le_of_ble_eq_true rfl⟩) hS (fun q _ h => hFc q h) hFc (fun r9 u t H1 locs ht hvm hr9 hB hz1 hk1 hS => ?_)
    obtain ⟨hP, hD, hC⟩ := hB
    rw [ht] at hP
    replace hD := hD.weaken (fun _ _ _ h => hFc _ h)
    generalize H1 = H at hP hS ⊢
    refine W.eq (g2 := F0 m 15 ls [.int y12]) (by rw [hr9]) ?_
    refine lv_if_eq (pc := 15) (tgt := 23) hx hb dV_becomes_15 rfl (fun h14 => ?_) (fun h14 => ?_)
    · replace hf := ite_t h14 hf
      refine lv_iconst (pc := 23) (v := 0) hx hb dV_becomes_23 (by decide) ?_
      obtain ⟨h8, h9⟩ := Prod.mk.inj (Option.some.inj hf)
      subst h9
      have h8 := Option.some.inj h8
      exact W.zret (pc := 24) hx hb hr (rfl) (fun t ht hW => ⟨⟨_, (), rfl, h8, by rw [ht]; exact hP, hD, hC⟩, hS.F ht⟩) hS.2.2 dV_becomes_24
    · replace hf := ite_f h14 hf
      refine lv_aload (pc := 18) hx hb dV_becomes_18 (lv_at hl 0 rfl) ?_
      refine lv_ifnonnull (pc := 20) (tgt := 25) hx hb dV_becomes_20 rfl ?_
      refine lv_aload (pc := 25) hx hb dV_becomes_25 (lv_at hl 0 rfl) ?_
      refine lv_iload_n (pc := 27) hx hb dV_becomes_27 rfl (lv_at hl 4 rfl) ?_
      obtain ⟨q16, hq16, eq16⟩ := at_7 (ad := ad) (ca := ca) (σ := σ13) hm10
      refine va_put (D := (dC, dI)) (cl := kCl) (ci := 7) (v := .int a3) (ty := .int) (C := RS) (T := TS) (N := 3) (pc := 28) hx hb hts inS tyS tyS_ok nmS hown hK.1 hP hD hS q16 eq16 rfl 2 (by decide) (hts _ wd_327) (fun _ h9 => h9) rfl (by decide +kernel) (rfl) (rfl) (Nat.le_of_ble_eq_true rfl) dV_becomes_28 (fun H locs hP hD hS => ?_)
      obtain ⟨σ15, hσ15, hf⟩ := lt_9 hf
      obtain ⟨hP, hD⟩ := w9_rI 802 rfl hN hq16 hσ15 (pu_802) hP hD
      have hC : clo dom σ15.2.2 := by rw [hσ15]; exact hC
      refine lv_aload_n (pc := 31) hx hb dV_becomes_31 rfl (lv_at hl 1 rfl) ?_
      refine lv_iconst (pc := 32) (v := 1) hx hb dV_becomes_32 (by decide) ?_
      obtain ⟨q17, hq17, eq17⟩ := at_0 (ad := ad) (ca := ca) (σ := σ15) hm0
      obtain ⟨⟨y18, σ19⟩, hy18, hf⟩ := ob hf
      have hFc := w9_free hD hS hA
      refine va_callv (pc := 33) (va_runV (As := [.int 1]) (rest := []) ⟨hx, hb, hml, hown, hts⟩ (t_V_finish l dC dI ad ca dom H.size n σ15 1 hm0 hN hC y18 σ19 hy18) (cwV 1 hts (gV wd_495 wd_496 wd_497 wd_254 wd_494) rfl rfl rfl (by decide +kernel) ⟨Nat.le_of_ble_eq_true rfl, Nat.le_of_ble_eq_true rfl⟩) ⟨hW_blind, va_recv (q := (RV, TV, 9)) (q0 := q17) (ci := 0) hK.1 hP rfl eq17, hW_pre hP hK hD hG⟩ rfl rfl hl.1 rfl (lv_room (Nat.le_of_ble_eq_true rfl)) dV_becomes_33 ⟨Nat.le_of_ble_eq_true rfl, Nat.le_of_ble_eq_true rfl⟩) hS (fun q _ h => hFc q h) hFc (fun u t H1 locs ht hvm hr9 hB hz1 hk1 hS => ?_)
      obtain ⟨hP, hD, hC⟩ := hB
      rw [ht] at hP
      replace hD := hD.weaken (fun _ _ _ h => hFc _ h)
      generalize H1 = H at hP hS ⊢
      refine lv_iconst (pc := 36) (v := 1) hx hb dV_becomes_36 (by decide) ?_
      obtain ⟨h8, h9⟩ := Prod.mk.inj (Option.some.inj hf)
      subst h9
      have h8 := Option.some.inj h8
      exact W.zret (pc := 37) hx hb hr (rfl) (fun t ht hW => ⟨⟨_, (), rfl, h8, by rw [ht]; exact hP, hD, hC⟩, hS.F ht⟩) hS.2.2 dV_becomes_37
def V_person (n : Nat) (σ : hT) (a1 : Int32) (a2 : Int32) : Option ((Option Int32) × hT) := Option.bind (V_needPower σ) fun ⟨y2o, σ3⟩ => ex9 y2o σ3 fun y2 => lt9 (α := Int32 → Option ((Option Int32) × hT)) (fun (s5 : Int32) => lt9 (α := Int32 → Option ((Option Int32) × hT)) (fun (s10 : Int32) => Option.bind (V_mayWrite σ3 s10 1) fun ⟨y13o, σ14⟩ => ex9 y13o σ14 fun y13 => if y13 = 0 then some (some 0, σ14) else if in9 a1 16 then lt9 (sI σ14 8 0 (a1).toNatClampNeg a2) fun σ17 => Option.bind (V_finish n σ17 1) fun ⟨y21, σ22⟩ => some (some 1, σ22) else none) fun x9 => if s5 = 0 then x9 7 else x9 0) fun x4 => if (V_isPerson a1) = 0 then x4 0 else if a2 < 0 then x4 0 else if 7 < a2 then x4 0 else x4 1
set_option maxHeartbeats 4000000 in
set_option maxRecDepth 100000 in
theorem t_V_person (l : Launch) (dC : Nat → ClassId) (dI : Nat → Nat → Nat) (ad : Nat → Nat → Nat) (ca : Nat → Nat → ClassId) (dom : List (Nat × Nat)) (sz : Nat) (n : Nat) (σ : hT) (a1 : Int32) (a2 : Int32) (hm0 : (0, 0) ∈ dom) (hN : dom.Nodup) (hC : clo dom σ.2.2) (ρ : Int32) (σ' : hT) (hf : V_person n σ a1 a2 = some (some ρ, σ')) : Met l yV_person (.code yV_person cV_person 4 (some .boolean) :: aw) ({ frames := 6, cells := 0, slots := 0, locals := 125 }) (hW (dC, dI) sz ad ca dom σ [.ref (ad 0 0), .int a1, .int a2]) (va_Qi (fun r (_ : Unit) => r = ρ) (fun _ t => hB (dC, dI) (va_A (w9 ad ca dom σ) sz) ad ca dom σ' t) (va_A (w9 ad ca dom σ) sz)) 0 0 (va_A (w9 ad ca dom σ) sz) := by
  refine Met.ofW (cc := cV_person) (maxL := 4) (ret := (some .boolean)) (by decide) rfl ?_
  intro p e s m args below meth c s₁ B hml hv
  obtain ⟨rfl, hv⟩ := hv
  have hx := B.exec
  have hb := B.bytes
  have hr := B.returns
  have hts : ∀ w ∈ aw, w.before _ s = true := fun w h => atoms_spec (ws := (.code yV_person cV_person 4 (some .boolean) :: aw)) B.pre w (List.mem_cons_of_mem _ h)
  have hown : s.vm.findClass RV = some m.cls := findClass_of_methodNamed B.named
  have hlocks := B.notSynchronized
  obtain ⟨hsz, hP, hK, hD0, hG⟩ := hv
  subst hsz
  have hD := hD0.self (sz := s.heap.size)
  generalize hAe : va_A (w9 ad ca dom σ) s.heap.size = A at hD ⊢
  have hA : ∀ q : Nat, s.heap.size ≤ q → A q := fun q h => by rw [← hAe]; exact Or.inr h
  obtain ⟨H, hH⟩ : ∃ H, H = s.heap := ⟨_, rfl⟩
  have hS : va_S A s.heap H [] := by rw [hH]; exact va_S.rf
  rw [← hH] at hP ⊢
  unfold V_person at hf
  have hl := lv_entry ([.ref (ad 0 0), .int a1, .int a2]) (n := 4) (Nat.le_of_ble_eq_true rfl)
  rw [lg_entry_eq]
  generalize (lg_sl ([.ref (ad 0 0), .int a1, .int a2]) ++ List.replicate (4 - (lg_sl ([.ref (ad 0 0), .int a1, .int a2])).length) Slot.unset).toArray = ls at hl ⊢
  have hl : lv_has ls 4 [(0, .ref (ad 0 0)), (1, .int a1), (2, .int a2)] := hl
  refine lv_aload_n (pc := 0) hx hb dV_person_0 rfl (lv_at hl 0 rfl) ?_
  obtain ⟨q1, hq1, eq1⟩ := at_0 (ad := ad) (ca := ca) (σ := σ) hm0
  obtain ⟨⟨y2o, σ3⟩, hy2, hf⟩ := ob hf
  obtain ⟨y2, rfl⟩ : ∃ z, y2o = some z := by
    cases y2o with
    | none => exact (ex9_n hf).elim
    | some z => exact ⟨z, rfl⟩
  replace hf := ex9_s hf
  have hFc := w9_free hD hS hA
  refine va_callv (pc := 1) (va_runV (As := []) (rest := []) ⟨hx, hb, hml, hown, hts⟩ (t_V_needPower l dC dI ad ca dom H.size σ hm0 hN hC y2 σ3 hy2) (cwV 0 hts (gV wd_499 wd_500 wd_501 wd_254 wd_498) rfl rfl rfl (by decide +kernel) ⟨Nat.le_of_ble_eq_true rfl, Nat.le_of_ble_eq_true rfl⟩) ⟨hW_blind, va_recv (q := (RV, TV, 9)) (q0 := q1) (ci := 0) hK.1 hP rfl eq1, hW_pre hP hK hD hG⟩ rfl rfl hl.1 rfl (lv_room (Nat.le_of_ble_eq_true rfl)) dV_person_1 ⟨Nat.le_of_ble_eq_true rfl, Nat.le_of_ble_eq_true rfl⟩) hS (fun q _ h => hFc q h) hFc (fun u t H1 locs ht hvm hr9 hB hz1 hk1 hS => ?_)
  obtain ⟨hP, hD, hC⟩ := hB
  rw [ht] at hP
  replace hD := hD.weaken (fun _ _ _ h => hFc _ h)
  generalize H1 = H at hP hS ⊢
  refine lv_iload_n (pc := 4) hx hb dV_person_4 rfl (lv_at hl 1 rfl) ?_
  refine vp_callSi (pc := 5) (W.runS (As := [.int a1]) (rest := []) ⟨hx, hb, hml, hown, hts⟩ (t_V_isPerson l dC dI ad ca dom a1 σ3 hN hC (V_isPerson a1) rfl) (cwS 1 hts (gS wd_311 wd_312 wd_254 wd_310) rfl rfl rfl (by decide +kernel) ⟨Nat.le_of_ble_eq_true rfl, Nat.le_of_ble_eq_true rfl⟩) ⟨hR_blind, hR_pre hP hK hG⟩ rfl rfl hl.1 rfl (lv_room (Nat.le_of_ble_eq_true rfl)) dV_person_5 ⟨Nat.le_of_ble_eq_true rfl, Nat.le_of_ble_eq_true rfl⟩) (fun r9 hr9 => ?_)
  refine W.eq (g2 := F0 m 8 ls [.int (V_isPerson a1)]) (by rw [hr9]) ?_
  obtain ⟨x4, hx4, hf⟩ := lt_9 hf
  refine jnF (τ := (Int32) × (Heap) × (List Loc) × (Array Slot)) (fun pc st z => W p l e _ s m _ below meth c z.2.1 z.2.2.1 0 0 _ (F0 m pc z.2.2.2 st)) (pc0 := 8) (st0 := [.int (V_isPerson a1)]) (z0 := (0, H, _, ls)) 26 (fun z => [.int z.1]) (fun z => va_P (dC, dI) kCl (w9 ad ca dom (σ3)) z.2.1 ∧ va_D A (w9 ad ca dom (σ3)) ∧ va_S A s.heap z.2.1 z.2.2.1 ∧ lv_has z.2.2.2 4 [(0, .ref (ad 0 0)), (1, .int a1), (2, .int a2)]) (fun z => x4 z.1) (some ρ, σ') ?_ ?_
  · intro hJx4
    dsimp only at hJx4 ⊢
    refine lv_if_eq (pc := 8) (tgt := 25) hx hb dV_person_8 rfl (fun h6 => ?_) (fun h6 => ?_)
    · replace hf := ite_t h6 hf
      refine lv_iconst (pc := 25) (v := 0) hx hb dV_person_25 (by decide) ?_
      have hl := lv_sub hl (l' := [(0, .ref (ad 0 0)), (1, .int a1), (2, .int a2)]) [0, 1, 2] rfl
      exact hJx4 (0, H, _, ls) ⟨hP, hD, hS, hl⟩ hf
    · replace hf := ite_f h6 hf
      refine lv_iload_n (pc := 11) hx hb dV_person_11 rfl (lv_at hl 2 rfl) ?_
      refine lv_if_lt (pc := 12) (tgt := 25) hx hb dV_person_12 rfl (fun h7 => ?_) (fun h7 => ?_)
      · replace hf := ite_t h7 hf
        refine lv_iconst (pc := 25) (v := 0) hx hb dV_person_25 (by decide) ?_
        have hl := lv_sub hl (l' := [(0, .ref (ad 0 0)), (1, .int a1), (2, .int a2)]) [0, 1, 2] rfl
        exact hJx4 (0, H, _, ls) ⟨hP, hD, hS, hl⟩ hf
      · replace hf := ite_f h7 hf
        refine lv_iload_n (pc := 15) hx hb dV_person_15 rfl (lv_at hl 2 rfl) ?_
        refine lv_bipush (pc := 16) (v := 7) hx hb dV_person_16 (by decide) ?_
        refine lv_icmp_gt (pc := 18) (tgt := 25) hx hb dV_person_18 rfl (fun h8 => ?_) (fun h8 => ?_)
        · replace hf := ite_t h8 hf
          refine lv_iconst (pc := 25) (v := 0) hx hb dV_person_25 (by decide) ?_
          have hl := lv_sub hl (l' := [(0, .ref (ad 0 0)), (1, .int a1), (2, .int a2)]) [0, 1, 2] rfl
          exact hJx4 (0, H, _, ls) ⟨hP, hD, hS, hl⟩ hf
        · replace hf := ite_f h8 hf
          refine lv_iconst (pc := 21) (v := 1) hx hb dV_person_21 (by decide) ?_
          refine lv_goto (pc := 22) (tgt := 26) hx hb dV_person_22 rfl ?_
          have hl := lv_sub hl (l' := [(0, .ref (ad 0 0)), (1, .int a1), (2, .int a2)]) [0, 1, 2] rfl
          exact hJx4 (1, H, _, ls) ⟨hP, hD, hS, hl⟩ hf
  · rintro ⟨s5, H, locs, ls⟩ ⟨hP, hD, hS, hl⟩ hf
    dsimp only at hP hD hS hl hf ⊢
    rw [hx4] at hf
    have hl : lv_has ls 4 [(0, .ref (ad 0 0)), (1, .int a1), (2, .int a2)] := hl
    refine lv_istore_n (pc := 26) hx hb dV_person_26 rfl hl (by decide) rfl (fun ls hl => ?_)
    have hl : lv_has ls 4 [(3, .int s5), (0, .ref (ad 0 0)), (1, .int a1), (2, .int a2)] := hl
    refine lv_aload_n (pc := 27) hx hb dV_person_27 rfl (lv_at hl 1 rfl) ?_
    refine lv_iload_n (pc := 28) hx hb dV_person_28 rfl (lv_at hl 0 rfl) ?_
    obtain ⟨x9, hx9, hf⟩ := lt_9 hf
    refine jnF (τ := (Int32) × (Heap) × (List Loc) × (Array Slot)) (fun pc st z => W p l e _ s m _ below meth c z.2.1 z.2.2.1 0 0 _ (F0 m pc z.2.2.2 st)) (pc0 := 29) (st0 := [.int s5, .ref (ad 0 0)]) (z0 := (0, H, _, ls)) 38 (fun z => [.int z.1, .ref (ad 0 0)]) (fun z => va_P (dC, dI) kCl (w9 ad ca dom (σ3)) z.2.1 ∧ va_D A (w9 ad ca dom (σ3)) ∧ va_S A s.heap z.2.1 z.2.2.1 ∧ lv_has z.2.2.2 4 [(3, .int s5), (0, .ref (ad 0 0)), (1, .int a1), (2, .int a2)]) (fun z => x9 z.1) (some ρ, σ') ?_ ?_
    · intro hJx9
      dsimp only at hJx9 ⊢
      refine lv_if_eq (pc := 29) (tgt := 36) hx hb dV_person_29 rfl (fun h11 => ?_) (fun h11 => ?_)
      · replace hf := ite_t h11 hf
        refine lv_bipush (pc := 36) (v := 7) hx hb dV_person_36 (by decide) ?_
        have hl := lv_sub hl (l' := [(3, .int s5), (0, .ref (ad 0 0)), (1, .int a1), (2, .int a2)]) [0, 1, 2, 3] rfl
        exact hJx9 (7, H, _, ls) ⟨hP, hD, hS, hl⟩ hf
      · replace hf := ite_f h11 hf
        refine lv_iconst (pc := 32) (v := 0) hx hb dV_person_32 (by decide) ?_
        refine lv_goto (pc := 33) (tgt := 38) hx hb dV_person_33 rfl ?_
        have hl := lv_sub hl (l' := [(3, .int s5), (0, .ref (ad 0 0)), (1, .int a1), (2, .int a2)]) [0, 1, 2, 3] rfl
        exact hJx9 (0, H, _, ls) ⟨hP, hD, hS, hl⟩ hf
    · rintro ⟨s10, H, locs, ls⟩ ⟨hP, hD, hS, hl⟩ hf
      dsimp only at hP hD hS hl hf ⊢
      rw [hx9] at hf
      have hl : lv_has ls 4 [(3, .int s5), (0, .ref (ad 0 0)), (1, .int a1), (2, .int a2)] := hl
      refine lv_iconst (pc := 38) (v := 1) hx hb dV_person_38 (by decide) ?_
      obtain ⟨q12, hq12, eq12⟩ := at_0 (ad := ad) (ca := ca) (σ := σ3) hm0
      obtain ⟨⟨y13o, σ14⟩, hy13, hf⟩ := ob hf
      obtain ⟨y13, rfl⟩ : ∃ z, y13o = some z := by
        cases y13o with
        | none => exact (ex9_n hf).elim
        | some z => exact ⟨z, rfl⟩
      replace hf := ex9_s hf
      have hFc := w9_free hD hS hA
      refine va_calli (pc := 39) (va_runV (As := [.int s10, .int 1]) (rest := []) ⟨hx, hb, hml, hown, hts⟩ (t_V_mayWrite l dC dI ad ca dom H.size σ3 s10 1 hm0 hN hC y13 σ14 hy13) (cwV 2 hts (gV wd_491 wd_492 wd_493 wd_254 wd_490) rfl rfl rfl (by decide +kernel) ⟨Nat.le_of_ble_eq_true rfl, Nat.le_of_ble_eq_true rfl⟩) ⟨hW_blind, va_recv (q := (RV, TV, 9)) (q0 := q12) (ci := 0) hK.1 hP rfl eq12, hW_pre hP hK hD hG⟩ rfl rfl hl.1 rfl (lv_room (Nat.le_of_ble_eq_true rfl)) dV_person_39 ⟨Nat.le_of_ble_eq_true rfl, Nat.le_of_ble_eq_true rfl⟩) hS (fun q _ h => hFc q h) hFc (fun r9 u t H1 locs ht hvm hr9 hB hz1 hk1 hS => ?_)
      obtain ⟨hP, hD, hC⟩ := hB
      rw [ht] at hP
      replace hD := hD.weaken (fun _ _ _ h => hFc _ h)
      generalize H1 = H at hP hS ⊢
      refine W.eq (g2 := F0 m 42 ls [.int y13]) (by rw [hr9]) ?_
      refine lv_if_ne (pc := 42) (tgt := 47) hx hb dV_person_42 rfl (fun h15 => ?_) (fun h15 => ?_)
      · replace hf := ite_f h15 hf
        refine lv_aload_n (pc := 47) hx hb dV_person_47 rfl (lv_at hl 1 rfl) ?_
        obtain ⟨q16, hq16, eq16⟩ := at_0 (ad := ad) (ca := ca) (σ := σ14) hm0
        refine va_get (D := (dC, dI)) (cl := kCl) (C := RV) (T := TV) (N := 9) (pc := 48) hx hb hts inV hown hK.1 hP q16 eq16 rfl 0 (by decide) (hts _ wd_313) (fun _ h9 => h9) rfl dV_person_48 ?_
        refine lv_iload_n (pc := 51) hx hb dV_person_51 rfl (lv_at hl 2 rfl) ?_
        refine lv_iload_n (pc := 52) hx hb dV_person_52 rfl (lv_at hl 3 rfl) ?_
        obtain ⟨hv18, hf⟩ := ite_s hf
        obtain ⟨q19, hq19, eq19⟩ := at_8 (ad := ad) (ca := ca) (σ := σ14) (cm_0_0 hC hm0)
        refine va_iast (D := (dC, dI)) (cl := kCl) (pc := 53) hx hb (hK.2 8 0 .int (cm_0_0 hC hm0) rfl) hP hD hS q19 0 eq19 rfl (hv18) dV_person_53 (fun H locs hP hD hS => ?_)
        obtain ⟨σ17, hσ17, hf⟩ := lt_9 hf
        obtain ⟨hP, hD⟩ := w9_rI 8 rfl hN hq19 hσ17 (pr_8) hP hD
        have hC : clo dom σ17.2.2 := by rw [hσ17]; exact hC
        refine lv_aload_n (pc := 54) hx hb dV_person_54 rfl (lv_at hl 1 rfl) ?_
        refine lv_iconst (pc := 55) (v := 1) hx hb dV_person_55 (by decide) ?_
        obtain ⟨q20, hq20, eq20⟩ := at_0 (ad := ad) (ca := ca) (σ := σ17) hm0
        obtain ⟨⟨y21, σ22⟩, hy21, hf⟩ := ob hf
        have hFc := w9_free hD hS hA
        refine va_callv (pc := 56) (va_runV (As := [.int 1]) (rest := []) ⟨hx, hb, hml, hown, hts⟩ (t_V_finish l dC dI ad ca dom H.size n σ17 1 hm0 hN hC y21 σ22 hy21) (cwV 1 hts (gV wd_495 wd_496 wd_497 wd_254 wd_494) rfl rfl rfl (by decide +kernel) ⟨Nat.le_of_ble_eq_true rfl, Nat.le_of_ble_eq_true rfl⟩) ⟨hW_blind, va_recv (q := (RV, TV, 9)) (q0 := q20) (ci := 0) hK.1 hP rfl eq20, hW_pre hP hK hD hG⟩ rfl rfl hl.1 rfl (lv_room (Nat.le_of_ble_eq_true rfl)) dV_person_56 ⟨Nat.le_of_ble_eq_true rfl, Nat.le_of_ble_eq_true rfl⟩) hS (fun q _ h => hFc q h) hFc (fun u t H1 locs ht hvm hr9 hB hz1 hk1 hS => ?_)
        obtain ⟨hP, hD, hC⟩ := hB
        rw [ht] at hP
        replace hD := hD.weaken (fun _ _ _ h => hFc _ h)
        generalize H1 = H at hP hS ⊢
        refine lv_iconst (pc := 59) (v := 1) hx hb dV_person_59 (by decide) ?_
        obtain ⟨h8, h9⟩ := Prod.mk.inj (Option.some.inj hf)
        subst h9
        have h8 := Option.some.inj h8
        exact W.zret (pc := 60) hx hb hr (rfl) (fun t ht hW => ⟨⟨_, (), rfl, h8, by rw [ht]; exact hP, hD, hC⟩, hS.F ht⟩) hS.2.2 dV_person_60
      · replace hf := ite_t h15 hf
        refine lv_iconst (pc := 45) (v := 0) hx hb dV_person_45 (by decide) ?_
        obtain ⟨h8, h9⟩ := Prod.mk.inj (Option.some.inj hf)
        subst h9
        have h8 := Option.some.inj h8
        exact W.zret (pc := 46) hx hb hr (rfl) (fun t ht hW => ⟨⟨_, (), rfl, h8, by rw [ht]; exact hP, hD, hC⟩, hS.F ht⟩) hS.2.2 dV_person_46
def V_out (n : Nat) (σ : hT) (a1 : Int32) (a2 : Int32) : Option ((Option Int32) × hT) := Option.bind (V_needPower σ) fun ⟨y2o, σ3⟩ => ex9 y2o σ3 fun y2 => Option.bind (V_drawingAt σ3 a1) fun y5 => hq y5 (Option.bind (V_outRefusal σ3 none a2) fun y10 => Option.bind (V_mayWrite σ3 y10 1) fun ⟨y12o, σ13⟩ => ex9 y12o σ13 fun y12 => if y12 = 0 then some (some 0, σ13) else none) fun j8 => Option.bind (V_outRefusal σ3 (some j8) a2) fun y17 => Option.bind (V_mayWrite σ3 y17 1) fun ⟨y19o, σ20⟩ => ex9 y19o σ20 fun y19 => if y19 = 0 then some (some 0, σ20) else Option.bind (D_lendTo σ20 j8 a2) fun ⟨y23, σ24⟩ => Option.bind (V_finish n σ24 1) fun ⟨y26, σ27⟩ => some (some 1, σ27)
set_option maxHeartbeats 4000000 in
set_option maxRecDepth 100000 in
theorem t_V_out (l : Launch) (dC : Nat → ClassId) (dI : Nat → Nat → Nat) (ad : Nat → Nat → Nat) (ca : Nat → Nat → ClassId) (dom : List (Nat × Nat)) (sz : Nat) (n : Nat) (σ : hT) (a1 : Int32) (a2 : Int32) (hm0 : (0, 0) ∈ dom) (hN : dom.Nodup) (hC : clo dom σ.2.2) (ρ : Int32) (σ' : hT) (hf : V_out n σ a1 a2 = some (some ρ, σ')) : Met l yV_out (.code yV_out cV_out 4 (some .boolean) :: aw) ({ frames := 6, cells := 0, slots := 0, locals := 125 }) (hW (dC, dI) sz ad ca dom σ [.ref (ad 0 0), .int a1, .int a2]) (va_Qi (fun r (_ : Unit) => r = ρ) (fun _ t => hB (dC, dI) (va_A (w9 ad ca dom σ) sz) ad ca dom σ' t) (va_A (w9 ad ca dom σ) sz)) 0 0 (va_A (w9 ad ca dom σ) sz) := by
  refine Met.ofW (cc := cV_out) (maxL := 4) (ret := (some .boolean)) (by decide) rfl ?_
  intro p e s m args below meth c s₁ B hml hv
  obtain ⟨rfl, hv⟩ := hv
  have hx := B.exec
  have hb := B.bytes
  have hr := B.returns
  have hts : ∀ w ∈ aw, w.before _ s = true := fun w h => atoms_spec (ws := (.code yV_out cV_out 4 (some .boolean) :: aw)) B.pre w (List.mem_cons_of_mem _ h)
  have hown : s.vm.findClass RV = some m.cls := findClass_of_methodNamed B.named
  have hlocks := B.notSynchronized
  obtain ⟨hsz, hP, hK, hD0, hG⟩ := hv
  subst hsz
  have hD := hD0.self (sz := s.heap.size)
  generalize hAe : va_A (w9 ad ca dom σ) s.heap.size = A at hD ⊢
  have hA : ∀ q : Nat, s.heap.size ≤ q → A q := fun q h => by rw [← hAe]; exact Or.inr h
  obtain ⟨H, hH⟩ : ∃ H, H = s.heap := ⟨_, rfl⟩
  have hS : va_S A s.heap H [] := by rw [hH]; exact va_S.rf
  rw [← hH] at hP ⊢
  unfold V_out at hf
  have hl := lv_entry ([.ref (ad 0 0), .int a1, .int a2]) (n := 4) (Nat.le_of_ble_eq_true rfl)
  rw [lg_entry_eq]
  generalize (lg_sl ([.ref (ad 0 0), .int a1, .int a2]) ++ List.replicate (4 - (lg_sl ([.ref (ad 0 0), .int a1, .int a2])).length) Slot.unset).toArray = ls at hl ⊢
  have hl : lv_has ls 4 [(0, .ref (ad 0 0)), (1, .int a1), (2, .int a2)] := hl
  refine lv_aload_n (pc := 0) hx hb dV_out_0 rfl (lv_at hl 0 rfl) ?_
  obtain ⟨q1, hq1, eq1⟩ := at_0 (ad := ad) (ca := ca) (σ := σ) hm0
  obtain ⟨⟨y2o, σ3⟩, hy2, hf⟩ := ob hf
  obtain ⟨y2, rfl⟩ : ∃ z, y2o = some z := by
    cases y2o with
    | none => exact (ex9_n hf).elim
    | some z => exact ⟨z, rfl⟩
  replace hf := ex9_s hf
  have hFc := w9_free hD hS hA
  refine va_callv (pc := 1) (va_runV (As := []) (rest := []) ⟨hx, hb, hml, hown, hts⟩ (t_V_needPower l dC dI ad ca dom H.size σ hm0 hN hC y2 σ3 hy2) (cwV 0 hts (gV wd_499 wd_500 wd_501 wd_254 wd_498) rfl rfl rfl (by decide +kernel) ⟨Nat.le_of_ble_eq_true rfl, Nat.le_of_ble_eq_true rfl⟩) ⟨hW_blind, va_recv (q := (RV, TV, 9)) (q0 := q1) (ci := 0) hK.1 hP rfl eq1, hW_pre hP hK hD hG⟩ rfl rfl hl.1 rfl (lv_room (Nat.le_of_ble_eq_true rfl)) dV_out_1 ⟨Nat.le_of_ble_eq_true rfl, Nat.le_of_ble_eq_true rfl⟩) hS (fun q _ h => hFc q h) hFc (fun u t H1 locs ht hvm hr9 hB hz1 hk1 hS => ?_)
  obtain ⟨hP, hD, hC⟩ := hB
  rw [ht] at hP
  replace hD := hD.weaken (fun _ _ _ h => hFc _ h)
  generalize H1 = H at hP hS ⊢
  refine lv_aload_n (pc := 4) hx hb dV_out_4 rfl (lv_at hl 0 rfl) ?_
  refine lv_iload_n (pc := 5) hx hb dV_out_5 rfl (lv_at hl 1 rfl) ?_
  obtain ⟨q4, hq4, eq4⟩ := at_0 (ad := ad) (ca := ca) (σ := σ3) hm0
  obtain ⟨y5, hy5, hf⟩ := ob hf
  refine va_cse (pc := 6) (W.runV (As := [.int a1]) (rest := []) ⟨hx, hb, hml, hown, hts⟩ (t_V_drawingAt l dC dI ad ca dom σ3 a1 hm0 hN hC y5 hy5) (cwV 1 hts (gV wd_317 wd_318 wd_319 wd_254 wd_316) rfl rfl rfl (by decide +kernel) ⟨Nat.le_of_ble_eq_true rfl, Nat.le_of_ble_eq_true rfl⟩) ⟨hR_blind, va_recv (q := (RV, TV, 9)) (q0 := q4) (ci := 0) hK.1 hP rfl eq4, hR_pre hP hK hG⟩ rfl rfl hl.1 rfl (lv_room (Nat.le_of_ble_eq_true rfl)) dV_out_6 ⟨Nat.le_of_ble_eq_true rfl, Nat.le_of_ble_eq_true rfl⟩) (fun r9 hr9 => ?_)
  obtain ⟨hr9, hmy6⟩ := hr9
  refine W.eq (g2 := F0 m 9 ls [va_re (ad 6) y5]) (by rw [hr9]) ?_
  rcases hE7 : y5 with _ | j8
  · replace hf := hq_n hE7 hf
    refine W.eq (g2 := F0 m 9 ls [.null]) rfl ?_
    refine lv_astore_nN (pc := 9) hx hb dV_out_9 rfl hl (by decide) rfl (fun ls hl => ?_)
    have hl : lv_has ls 4 [(3, .null), (0, .ref (ad 0 0)), (1, .int a1), (2, .int a2)] := hl
    refine lv_aload_n (pc := 10) hx hb dV_out_10 rfl (lv_at hl 1 rfl) ?_
    refine lv_aload_n (pc := 11) hx hb dV_out_11 rfl (lv_at hl 1 rfl) ?_
    refine lv_aload_nN (pc := 12) hx hb dV_out_12 rfl (lv_at hl 0 rfl) ?_
    refine lv_iload_n (pc := 13) hx hb dV_out_13 rfl (lv_at hl 3 rfl) ?_
    obtain ⟨q9, hq9, eq9⟩ := at_0 (ad := ad) (ca := ca) (σ := σ3) hm0
    obtain ⟨y10, hy10, hf⟩ := ob hf
    refine vp_callSi (pc := 14) (W.runV (As := [.null, .int a2]) (rest := [.ref (ad 0 0)]) ⟨hx, hb, hml, hown, hts⟩ (t_V_outRefusal l dC dI ad ca dom σ3 none a2 hm0 (fun _ z => nomatch z) hN hC y10 hy10) (cwV 2 hts (gV wd_503 wd_504 wd_505 wd_254 wd_502) rfl rfl rfl (by decide +kernel) ⟨Nat.le_of_ble_eq_true rfl, Nat.le_of_ble_eq_true rfl⟩) ⟨hR_blind, va_recv (q := (RV, TV, 9)) (q0 := q9) (ci := 0) hK.1 hP rfl eq9, hR_pre hP hK hG⟩ rfl rfl hl.1 rfl (lv_room (Nat.le_of_ble_eq_true rfl)) dV_out_14 ⟨Nat.le_of_ble_eq_true rfl, Nat.le_of_ble_eq_true rfl⟩) (fun r9 hr9 => ?_)
    refine W.eq (g2 := F0 m 17 ls [.int y10, .ref (ad 0 0)]) (by rw [hr9]) ?_
    refine lv_iconst (pc := 17) (v := 1) hx hb dV_out_17 (by decide) ?_
    obtain ⟨q11, hq11, eq11⟩ := at_0 (ad := ad) (ca := ca) (σ := σ3) hm0
    obtain ⟨⟨y12o, σ13⟩, hy12, hf⟩ := ob hf
    obtain ⟨y12, rfl⟩ : ∃ z, y12o = some z := by
      cases y12o with
      | none => exact (ex9_n hf).elim
      | some z => exact ⟨z, rfl⟩
    replace hf := ex9_s hf
    have hFc := w9_free hD hS hA
    refine va_calli (pc := 18) (va_runV (As := [.int y10, .int 1]) (rest := []) ⟨hx, hb, hml, hown, hts⟩ (t_V_mayWrite l dC dI ad ca dom H.size σ3 y10 1 hm0 hN hC y12 σ13 hy12) (cwV 2 hts (gV wd_491 wd_492 wd_493 wd_254 wd_490) rfl rfl rfl (by decide +kernel) ⟨Nat.le_of_ble_eq_true rfl, Nat.le_of_ble_eq_true rfl⟩) ⟨hW_blind, va_recv (q := (RV, TV, 9)) (q0 := q11) (ci := 0) hK.1 hP rfl eq11, hW_pre hP hK hD hG⟩ rfl rfl hl.1 rfl (lv_room (Nat.le_of_ble_eq_true rfl)) dV_out_18 ⟨Nat.le_of_ble_eq_true rfl, Nat.le_of_ble_eq_true rfl⟩) hS (fun q _ h => hFc q h) hFc (fun r9 u t H1 locs ht hvm hr9 hB hz1 hk1 hS => ?_)
    obtain ⟨hP, hD, hC⟩ := hB
    rw [ht] at hP
    replace hD := hD.weaken (fun _ _ _ h => hFc _ h)
    generalize H1 = H at hP hS ⊢
    refine W.eq (g2 := F0 m 21 ls [.int y12]) (by rw [hr9]) ?_
    refine lv_if_ne (pc := 21) (tgt := 26) hx hb dV_out_21 rfl (fun h14 => ?_) (fun h14 => ?_)
    · replace hf := ite_f h14 hf
      refine lv_aload_nN (pc := 26) hx hb dV_out_26 rfl (lv_at hl 0 rfl) ?_
      refine lv_iload_n (pc := 27) hx hb dV_out_27 rfl (lv_at hl 3 rfl) ?_
      exact nomatch hf
    · replace hf := ite_t h14 hf
      refine lv_iconst (pc := 24) (v := 0) hx hb dV_out_24 (by decide) ?_
      obtain ⟨h8, h9⟩ := Prod.mk.inj (Option.some.inj hf)
      subst h9
      have h8 := Option.some.inj h8
      exact W.zret (pc := 25) hx hb hr (rfl) (fun t ht hW => ⟨⟨_, (), rfl, h8, by rw [ht]; exact hP, hD, hC⟩, hS.F ht⟩) hS.2.2 dV_out_25
  · replace hf := hq_s hE7 hf
    have hm15 : (6, j8) ∈ dom := (hmy6 _ hE7)
    refine W.eq (g2 := F0 m 9 ls [.ref (ad 6 j8)]) rfl ?_
    refine lv_astore_n (pc := 9) hx hb dV_out_9 rfl hl (by decide) rfl (fun ls hl => ?_)
    have hl : lv_has ls 4 [(3, .ref (ad 6 j8)), (0, .ref (ad 0 0)), (1, .int a1), (2, .int a2)] := hl
    refine lv_aload_n (pc := 10) hx hb dV_out_10 rfl (lv_at hl 1 rfl) ?_
    refine lv_aload_n (pc := 11) hx hb dV_out_11 rfl (lv_at hl 1 rfl) ?_
    refine lv_aload_n (pc := 12) hx hb dV_out_12 rfl (lv_at hl 0 rfl) ?_
    refine lv_iload_n (pc := 13) hx hb dV_out_13 rfl (lv_at hl 3 rfl) ?_
    obtain ⟨q16, hq16, eq16⟩ := at_0 (ad := ad) (ca := ca) (σ := σ3) hm0
    obtain ⟨y17, hy17, hf⟩ := ob hf
    refine vp_callSi (pc := 14) (W.runV (As := [.ref (ad 6 j8), .int a2]) (rest := [.ref (ad 0 0)]) ⟨hx, hb, hml, hown, hts⟩ (t_V_outRefusal l dC dI ad ca dom σ3 (some j8) a2 hm0 (fun _ z => Option.some.inj z ▸ hm15) hN hC y17 hy17) (cwV 2 hts (gV wd_503 wd_504 wd_505 wd_254 wd_502) rfl rfl rfl (by decide +kernel) ⟨Nat.le_of_ble_eq_true rfl, Nat.le_of_ble_eq_true rfl⟩) ⟨hR_blind, va_recv (q := (RV, TV, 9)) (q0 := q16) (ci := 0) hK.1 hP rfl eq16, hR_pre hP hK hG⟩ rfl rfl hl.1 rfl (lv_room (Nat.le_of_ble_eq_true rfl)) dV_out_14 ⟨Nat.le_of_ble_eq_true rfl, Nat.le_of_ble_eq_true rfl⟩) (fun r9 hr9 => ?_)
    refine W.eq (g2 := F0 m 17 ls [.int y17, .ref (ad 0 0)]) (by rw [hr9]) ?_
    refine lv_iconst (pc := 17) (v := 1) hx hb dV_out_17 (by decide) ?_
    obtain ⟨q18, hq18, eq18⟩ := at_0 (ad := ad) (ca := ca) (σ := σ3) hm0
    obtain ⟨⟨y19o, σ20⟩, hy19, hf⟩ := ob hf
    obtain ⟨y19, rfl⟩ : ∃ z, y19o = some z := by
      cases y19o with
      | none => exact (ex9_n hf).elim
      | some z => exact ⟨z, rfl⟩
    replace hf := ex9_s hf
    have hFc := w9_free hD hS hA
    refine va_calli (pc := 18) (va_runV (As := [.int y17, .int 1]) (rest := []) ⟨hx, hb, hml, hown, hts⟩ (t_V_mayWrite l dC dI ad ca dom H.size σ3 y17 1 hm0 hN hC y19 σ20 hy19) (cwV 2 hts (gV wd_491 wd_492 wd_493 wd_254 wd_490) rfl rfl rfl (by decide +kernel) ⟨Nat.le_of_ble_eq_true rfl, Nat.le_of_ble_eq_true rfl⟩) ⟨hW_blind, va_recv (q := (RV, TV, 9)) (q0 := q18) (ci := 0) hK.1 hP rfl eq18, hW_pre hP hK hD hG⟩ rfl rfl hl.1 rfl (lv_room (Nat.le_of_ble_eq_true rfl)) dV_out_18 ⟨Nat.le_of_ble_eq_true rfl, Nat.le_of_ble_eq_true rfl⟩) hS (fun q _ h => hFc q h) hFc (fun r9 u t H1 locs ht hvm hr9 hB hz1 hk1 hS => ?_)
    obtain ⟨hP, hD, hC⟩ := hB
    rw [ht] at hP
    replace hD := hD.weaken (fun _ _ _ h => hFc _ h)
    generalize H1 = H at hP hS ⊢
    refine W.eq (g2 := F0 m 21 ls [.int y19]) (by rw [hr9]) ?_
    refine lv_if_ne (pc := 21) (tgt := 26) hx hb dV_out_21 rfl (fun h21 => ?_) (fun h21 => ?_)
    · replace hf := ite_f h21 hf
      refine lv_aload_n (pc := 26) hx hb dV_out_26 rfl (lv_at hl 0 rfl) ?_
      refine lv_iload_n (pc := 27) hx hb dV_out_27 rfl (lv_at hl 3 rfl) ?_
      obtain ⟨q22, hq22, eq22⟩ := at_6 (ad := ad) (ca := ca) (σ := σ20) hm15
      obtain ⟨⟨y23, σ24⟩, hy23, hf⟩ := ob hf
      have hFc := w9_free hD hS hA
      refine va_callv (pc := 28) (va_runV (As := [.int a2]) (rest := []) ⟨hx, hb, hml, hown, hts⟩ (t_D_lendTo l dC dI ad ca dom H.size σ20 j8 a2 hm15 hN hC y23 σ24 hy23) (cwV 1 hts (gV wd_507 wd_508 wd_509 wd_292 wd_506) rfl rfl rfl (by decide +kernel) ⟨Nat.le_of_ble_eq_true rfl, Nat.le_of_ble_eq_true rfl⟩) ⟨hW_blind, va_recv (q := (RD, TD, 5)) (q0 := q22) (ci := 6) hK.1 hP rfl eq22, hW_pre hP hK hD hG⟩ rfl rfl hl.1 rfl (lv_room (Nat.le_of_ble_eq_true rfl)) dV_out_28 ⟨Nat.le_of_ble_eq_true rfl, Nat.le_of_ble_eq_true rfl⟩) hS (fun q _ h => hFc q h) hFc (fun u t H1 locs ht hvm hr9 hB hz1 hk1 hS => ?_)
      obtain ⟨hP, hD, hC⟩ := hB
      rw [ht] at hP
      replace hD := hD.weaken (fun _ _ _ h => hFc _ h)
      generalize H1 = H at hP hS ⊢
      refine lv_aload_n (pc := 31) hx hb dV_out_31 rfl (lv_at hl 1 rfl) ?_
      refine lv_iconst (pc := 32) (v := 1) hx hb dV_out_32 (by decide) ?_
      obtain ⟨q25, hq25, eq25⟩ := at_0 (ad := ad) (ca := ca) (σ := σ24) hm0
      obtain ⟨⟨y26, σ27⟩, hy26, hf⟩ := ob hf
      have hFc := w9_free hD hS hA
      refine va_callv (pc := 33) (va_runV (As := [.int 1]) (rest := []) ⟨hx, hb, hml, hown, hts⟩ (t_V_finish l dC dI ad ca dom H.size n σ24 1 hm0 hN hC y26 σ27 hy26) (cwV 1 hts (gV wd_495 wd_496 wd_497 wd_254 wd_494) rfl rfl rfl (by decide +kernel) ⟨Nat.le_of_ble_eq_true rfl, Nat.le_of_ble_eq_true rfl⟩) ⟨hW_blind, va_recv (q := (RV, TV, 9)) (q0 := q25) (ci := 0) hK.1 hP rfl eq25, hW_pre hP hK hD hG⟩ rfl rfl hl.1 rfl (lv_room (Nat.le_of_ble_eq_true rfl)) dV_out_33 ⟨Nat.le_of_ble_eq_true rfl, Nat.le_of_ble_eq_true rfl⟩) hS (fun q _ h => hFc q h) hFc (fun u t H1 locs ht hvm hr9 hB hz1 hk1 hS => ?_)
      obtain ⟨hP, hD, hC⟩ := hB
      rw [ht] at hP
      replace hD := hD.weaken (fun _ _ _ h => hFc _ h)
      generalize H1 = H at hP hS ⊢
      refine lv_iconst (pc := 36) (v := 1) hx hb dV_out_36 (by decide) ?_
      obtain ⟨h8, h9⟩ := Prod.mk.inj (Option.some.inj hf)
      subst h9
      have h8 := Option.some.inj h8
      exact W.zret (pc := 37) hx hb hr (rfl) (fun t ht hW => ⟨⟨_, (), rfl, h8, by rw [ht]; exact hP, hD, hC⟩, hS.F ht⟩) hS.2.2 dV_out_37
    · replace hf := ite_t h21 hf
      refine lv_iconst (pc := 24) (v := 0) hx hb dV_out_24 (by decide) ?_
      obtain ⟨h8, h9⟩ := Prod.mk.inj (Option.some.inj hf)
      subst h9
      have h8 := Option.some.inj h8
      exact W.zret (pc := 25) hx hb hr (rfl) (fun t ht hW => ⟨⟨_, (), rfl, h8, by rw [ht]; exact hP, hD, hC⟩, hS.F ht⟩) hS.2.2 dV_out_25
def V_undo (n : Nat) (σ : hT) (a1 : Int32) (a2 : Int32) : Option ((Option Int32) × hT) := Option.bind (V_needPower σ) fun ⟨y2o, σ3⟩ => ex9 y2o σ3 fun y2 => Option.bind (V_drawingAt σ3 a1) fun y5 => hq y5 (Option.bind (V_copyRefusal σ3 none a2) fun y10 => Option.bind (V_mayWrite σ3 y10 1) fun ⟨y12o, σ13⟩ => ex9 y12o σ13 fun y12 => if y12 = 0 then some (some 0, σ13) else none) fun j8 => Option.bind (V_copyRefusal σ3 (some j8) a2) fun y17 => Option.bind (V_mayWrite σ3 y17 1) fun ⟨y19o, σ20⟩ => ex9 y19o σ20 fun y19 => if y19 = 0 then some (some 0, σ20) else Option.bind (D_endLoan n σ20 j8) fun ⟨y23, σ24⟩ => Option.bind (V_finish n σ24 1) fun ⟨y26, σ27⟩ => some (some 1, σ27)
set_option maxHeartbeats 4000000 in
set_option maxRecDepth 100000 in
theorem t_V_undo (l : Launch) (dC : Nat → ClassId) (dI : Nat → Nat → Nat) (ad : Nat → Nat → Nat) (ca : Nat → Nat → ClassId) (dom : List (Nat × Nat)) (sz : Nat) (n : Nat) (σ : hT) (a1 : Int32) (a2 : Int32) (hm0 : (0, 0) ∈ dom) (hN : dom.Nodup) (hC : clo dom σ.2.2) (ρ : Int32) (σ' : hT) (hf : V_undo n σ a1 a2 = some (some ρ, σ')) : Met l yV_undo (.code yV_undo cV_undo 4 (some .boolean) :: aw) ({ frames := 6, cells := 0, slots := 0, locals := 125 }) (hW (dC, dI) sz ad ca dom σ [.ref (ad 0 0), .int a1, .int a2]) (va_Qi (fun r (_ : Unit) => r = ρ) (fun _ t => hB (dC, dI) (va_A (w9 ad ca dom σ) sz) ad ca dom σ' t) (va_A (w9 ad ca dom σ) sz)) 0 0 (va_A (w9 ad ca dom σ) sz) := by
  refine Met.ofW (cc := cV_undo) (maxL := 4) (ret := (some .boolean)) (by decide) rfl ?_
  intro p e s m args below meth c s₁ B hml hv
  obtain ⟨rfl, hv⟩ := hv
  have hx := B.exec
  have hb := B.bytes
  have hr := B.returns
  have hts : ∀ w ∈ aw, w.before _ s = true := fun w h => atoms_spec (ws := (.code yV_undo cV_undo 4 (some .boolean) :: aw)) B.pre w (List.mem_cons_of_mem _ h)
  have hown : s.vm.findClass RV = some m.cls := findClass_of_methodNamed B.named
  have hlocks := B.notSynchronized
  obtain ⟨hsz, hP, hK, hD0, hG⟩ := hv
  subst hsz
  have hD := hD0.self (sz := s.heap.size)
  generalize hAe : va_A (w9 ad ca dom σ) s.heap.size = A at hD ⊢
  have hA : ∀ q : Nat, s.heap.size ≤ q → A q := fun q h => by rw [← hAe]; exact Or.inr h
  obtain ⟨H, hH⟩ : ∃ H, H = s.heap := ⟨_, rfl⟩
  have hS : va_S A s.heap H [] := by rw [hH]; exact va_S.rf
  rw [← hH] at hP ⊢
  unfold V_undo at hf
  have hl := lv_entry ([.ref (ad 0 0), .int a1, .int a2]) (n := 4) (Nat.le_of_ble_eq_true rfl)
  rw [lg_entry_eq]
  generalize (lg_sl ([.ref (ad 0 0), .int a1, .int a2]) ++ List.replicate (4 - (lg_sl ([.ref (ad 0 0), .int a1, .int a2])).length) Slot.unset).toArray = ls at hl ⊢
  have hl : lv_has ls 4 [(0, .ref (ad 0 0)), (1, .int a1), (2, .int a2)] := hl
  refine lv_aload_n (pc := 0) hx hb dV_undo_0 rfl (lv_at hl 0 rfl) ?_
  obtain ⟨q1, hq1, eq1⟩ := at_0 (ad := ad) (ca := ca) (σ := σ) hm0
  obtain ⟨⟨y2o, σ3⟩, hy2, hf⟩ := ob hf
  obtain ⟨y2, rfl⟩ : ∃ z, y2o = some z := by
    cases y2o with
    | none => exact (ex9_n hf).elim
    | some z => exact ⟨z, rfl⟩
  replace hf := ex9_s hf
  have hFc := w9_free hD hS hA
  refine va_callv (pc := 1) (va_runV (As := []) (rest := []) ⟨hx, hb, hml, hown, hts⟩ (t_V_needPower l dC dI ad ca dom H.size σ hm0 hN hC y2 σ3 hy2) (cwV 0 hts (gV wd_499 wd_500 wd_501 wd_254 wd_498) rfl rfl rfl (by decide +kernel) ⟨Nat.le_of_ble_eq_true rfl, Nat.le_of_ble_eq_true rfl⟩) ⟨hW_blind, va_recv (q := (RV, TV, 9)) (q0 := q1) (ci := 0) hK.1 hP rfl eq1, hW_pre hP hK hD hG⟩ rfl rfl hl.1 rfl (lv_room (Nat.le_of_ble_eq_true rfl)) dV_undo_1 ⟨Nat.le_of_ble_eq_true rfl, Nat.le_of_ble_eq_true rfl⟩) hS (fun q _ h => hFc q h) hFc (fun u t H1 locs ht hvm hr9 hB hz1 hk1 hS => ?_)
  obtain ⟨hP, hD, hC⟩ := hB
  rw [ht] at hP
  replace hD := hD.weaken (fun _ _ _ h => hFc _ h)
  generalize H1 = H at hP hS ⊢
  refine lv_aload_n (pc := 4) hx hb dV_undo_4 rfl (lv_at hl 0 rfl) ?_
  refine lv_iload_n (pc := 5) hx hb dV_undo_5 rfl (lv_at hl 1 rfl) ?_
  obtain ⟨q4, hq4, eq4⟩ := at_0 (ad := ad) (ca := ca) (σ := σ3) hm0
  obtain ⟨y5, hy5, hf⟩ := ob hf
  refine va_cse (pc := 6) (W.runV (As := [.int a1]) (rest := []) ⟨hx, hb, hml, hown, hts⟩ (t_V_drawingAt l dC dI ad ca dom σ3 a1 hm0 hN hC y5 hy5) (cwV 1 hts (gV wd_317 wd_318 wd_319 wd_254 wd_316) rfl rfl rfl (by decide +kernel) ⟨Nat.le_of_ble_eq_true rfl, Nat.le_of_ble_eq_true rfl⟩) ⟨hR_blind, va_recv (q := (RV, TV, 9)) (q0 := q4) (ci := 0) hK.1 hP rfl eq4, hR_pre hP hK hG⟩ rfl rfl hl.1 rfl (lv_room (Nat.le_of_ble_eq_true rfl)) dV_undo_6 ⟨Nat.le_of_ble_eq_true rfl, Nat.le_of_ble_eq_true rfl⟩) (fun r9 hr9 => ?_)
  obtain ⟨hr9, hmy6⟩ := hr9
  refine W.eq (g2 := F0 m 9 ls [va_re (ad 6) y5]) (by rw [hr9]) ?_
  rcases hE7 : y5 with _ | j8
  · replace hf := hq_n hE7 hf
    refine W.eq (g2 := F0 m 9 ls [.null]) rfl ?_
    refine lv_astore_nN (pc := 9) hx hb dV_undo_9 rfl hl (by decide) rfl (fun ls hl => ?_)
    have hl : lv_has ls 4 [(3, .null), (0, .ref (ad 0 0)), (1, .int a1), (2, .int a2)] := hl
    refine lv_aload_n (pc := 10) hx hb dV_undo_10 rfl (lv_at hl 1 rfl) ?_
    refine lv_aload_n (pc := 11) hx hb dV_undo_11 rfl (lv_at hl 1 rfl) ?_
    refine lv_aload_nN (pc := 12) hx hb dV_undo_12 rfl (lv_at hl 0 rfl) ?_
    refine lv_iload_n (pc := 13) hx hb dV_undo_13 rfl (lv_at hl 3 rfl) ?_
    obtain ⟨q9, hq9, eq9⟩ := at_0 (ad := ad) (ca := ca) (σ := σ3) hm0
    obtain ⟨y10, hy10, hf⟩ := ob hf
    refine vp_callSi (pc := 14) (W.runV (As := [.null, .int a2]) (rest := [.ref (ad 0 0)]) ⟨hx, hb, hml, hown, hts⟩ (t_V_copyRefusal l dC dI ad ca dom σ3 none a2 hm0 (fun _ z => nomatch z) hN hC y10 hy10) (cwV 2 hts (gV wd_511 wd_512 wd_513 wd_254 wd_510) rfl rfl rfl (by decide +kernel) ⟨Nat.le_of_ble_eq_true rfl, Nat.le_of_ble_eq_true rfl⟩) ⟨hR_blind, va_recv (q := (RV, TV, 9)) (q0 := q9) (ci := 0) hK.1 hP rfl eq9, hR_pre hP hK hG⟩ rfl rfl hl.1 rfl (lv_room (Nat.le_of_ble_eq_true rfl)) dV_undo_14 ⟨Nat.le_of_ble_eq_true rfl, Nat.le_of_ble_eq_true rfl⟩) (fun r9 hr9 => ?_)
    refine W.eq (g2 := F0 m 17 ls [.int y10, .ref (ad 0 0)]) (by rw [hr9]) ?_
    refine lv_iconst (pc := 17) (v := 1) hx hb dV_undo_17 (by decide) ?_
    obtain ⟨q11, hq11, eq11⟩ := at_0 (ad := ad) (ca := ca) (σ := σ3) hm0
    obtain ⟨⟨y12o, σ13⟩, hy12, hf⟩ := ob hf
    obtain ⟨y12, rfl⟩ : ∃ z, y12o = some z := by
      cases y12o with
      | none => exact (ex9_n hf).elim
      | some z => exact ⟨z, rfl⟩
    replace hf := ex9_s hf
    have hFc := w9_free hD hS hA
    refine va_calli (pc := 18) (va_runV (As := [.int y10, .int 1]) (rest := []) ⟨hx, hb, hml, hown, hts⟩ (t_V_mayWrite l dC dI ad ca dom H.size σ3 y10 1 hm0 hN hC y12 σ13 hy12) (cwV 2 hts (gV wd_491 wd_492 wd_493 wd_254 wd_490) rfl rfl rfl (by decide +kernel) ⟨Nat.le_of_ble_eq_true rfl, Nat.le_of_ble_eq_true rfl⟩) ⟨hW_blind, va_recv (q := (RV, TV, 9)) (q0 := q11) (ci := 0) hK.1 hP rfl eq11, hW_pre hP hK hD hG⟩ rfl rfl hl.1 rfl (lv_room (Nat.le_of_ble_eq_true rfl)) dV_undo_18 ⟨Nat.le_of_ble_eq_true rfl, Nat.le_of_ble_eq_true rfl⟩) hS (fun q _ h => hFc q h) hFc (fun r9 u t H1 locs ht hvm hr9 hB hz1 hk1 hS => ?_)
    obtain ⟨hP, hD, hC⟩ := hB
    rw [ht] at hP
    replace hD := hD.weaken (fun _ _ _ h => hFc _ h)
    generalize H1 = H at hP hS ⊢
    refine W.eq (g2 := F0 m 21 ls [.int y12]) (by rw [hr9]) ?_
    refine lv_if_ne (pc := 21) (tgt := 26) hx hb dV_undo_21 rfl (fun h14 => ?_) (fun h14 => ?_)
    · replace hf := ite_f h14 hf
      refine lv_aload_nN (pc := 26) hx hb dV_undo_26 rfl (lv_at hl 0 rfl) ?_
      exact nomatch hf
    · replace hf := ite_t h14 hf
      refine lv_iconst (pc := 24) (v := 0) hx hb dV_undo_24 (by decide) ?_
      obtain ⟨h8, h9⟩ := Prod.mk.inj (Option.some.inj hf)
      subst h9
      have h8 := Option.some.inj h8
      exact W.zret (pc := 25) hx hb hr (rfl) (fun t ht hW => ⟨⟨_, (), rfl, h8, by rw [ht]; exact hP, hD, hC⟩, hS.F ht⟩) hS.2.2 dV_undo_25
  · replace hf := hq_s hE7 hf
    have hm15 : (6, j8) ∈ dom := (hmy6 _ hE7)
    refine W.eq (g2 := F0 m 9 ls [.ref (ad 6 j8)]) rfl ?_
    refine lv_astore_n (pc := 9) hx hb dV_undo_9 rfl hl (by decide) rfl (fun ls hl => ?_)
    have hl : lv_has ls 4 [(3, .ref (ad 6 j8)), (0, .ref (ad 0 0)), (1, .int a1), (2, .int a2)] := hl
    refine lv_aload_n (pc := 10) hx hb dV_undo_10 rfl (lv_at hl 1 rfl) ?_
    refine lv_aload_n (pc := 11) hx hb dV_undo_11 rfl (lv_at hl 1 rfl) ?_
    refine lv_aload_n (pc := 12) hx hb dV_undo_12 rfl (lv_at hl 0 rfl) ?_
    refine lv_iload_n (pc := 13) hx hb dV_undo_13 rfl (lv_at hl 3 rfl) ?_
    obtain ⟨q16, hq16, eq16⟩ := at_0 (ad := ad) (ca := ca) (σ := σ3) hm0
    obtain ⟨y17, hy17, hf⟩ := ob hf
    refine vp_callSi (pc := 14) (W.runV (As := [.ref (ad 6 j8), .int a2]) (rest := [.ref (ad 0 0)]) ⟨hx, hb, hml, hown, hts⟩ (t_V_copyRefusal l dC dI ad ca dom σ3 (some j8) a2 hm0 (fun _ z => Option.some.inj z ▸ hm15) hN hC y17 hy17) (cwV 2 hts (gV wd_511 wd_512 wd_513 wd_254 wd_510) rfl rfl rfl (by decide +kernel) ⟨Nat.le_of_ble_eq_true rfl, Nat.le_of_ble_eq_true rfl⟩) ⟨hR_blind, va_recv (q := (RV, TV, 9)) (q0 := q16) (ci := 0) hK.1 hP rfl eq16, hR_pre hP hK hG⟩ rfl rfl hl.1 rfl (lv_room (Nat.le_of_ble_eq_true rfl)) dV_undo_14 ⟨Nat.le_of_ble_eq_true rfl, Nat.le_of_ble_eq_true rfl⟩) (fun r9 hr9 => ?_)
    refine W.eq (g2 := F0 m 17 ls [.int y17, .ref (ad 0 0)]) (by rw [hr9]) ?_
    refine lv_iconst (pc := 17) (v := 1) hx hb dV_undo_17 (by decide) ?_
    obtain ⟨q18, hq18, eq18⟩ := at_0 (ad := ad) (ca := ca) (σ := σ3) hm0
    obtain ⟨⟨y19o, σ20⟩, hy19, hf⟩ := ob hf
    obtain ⟨y19, rfl⟩ : ∃ z, y19o = some z := by
      cases y19o with
      | none => exact (ex9_n hf).elim
      | some z => exact ⟨z, rfl⟩
    replace hf := ex9_s hf
    have hFc := w9_free hD hS hA
    refine va_calli (pc := 18) (va_runV (As := [.int y17, .int 1]) (rest := []) ⟨hx, hb, hml, hown, hts⟩ (t_V_mayWrite l dC dI ad ca dom H.size σ3 y17 1 hm0 hN hC y19 σ20 hy19) (cwV 2 hts (gV wd_491 wd_492 wd_493 wd_254 wd_490) rfl rfl rfl (by decide +kernel) ⟨Nat.le_of_ble_eq_true rfl, Nat.le_of_ble_eq_true rfl⟩) ⟨hW_blind, va_recv (q := (RV, TV, 9)) (q0 := q18) (ci := 0) hK.1 hP rfl eq18, hW_pre hP hK hD hG⟩ rfl rfl hl.1 rfl (lv_room (Nat.le_of_ble_eq_true rfl)) dV_undo_18 ⟨Nat.le_of_ble_eq_true rfl, Nat.le_of_ble_eq_true rfl⟩) hS (fun q _ h => hFc q h) hFc (fun r9 u t H1 locs ht hvm hr9 hB hz1 hk1 hS => ?_)
    obtain ⟨hP, hD, hC⟩ := hB
    rw [ht] at hP
    replace hD := hD.weaken (fun _ _ _ h => hFc _ h)
    generalize H1 = H at hP hS ⊢
    refine W.eq (g2 := F0 m 21 ls [.int y19]) (by rw [hr9]) ?_
    refine lv_if_ne (pc := 21) (tgt := 26) hx hb dV_undo_21 rfl (fun h21 => ?_) (fun h21 => ?_)
    · replace hf := ite_f h21 hf
      refine lv_aload_n (pc := 26) hx hb dV_undo_26 rfl (lv_at hl 0 rfl) ?_
      obtain ⟨q22, hq22, eq22⟩ := at_6 (ad := ad) (ca := ca) (σ := σ20) hm15
      obtain ⟨⟨y23, σ24⟩, hy23, hf⟩ := ob hf
      have hFc := w9_free hD hS hA
      refine va_callv (pc := 27) (va_runV (As := []) (rest := []) ⟨hx, hb, hml, hown, hts⟩ (t_D_endLoan l dC dI ad ca dom H.size n σ20 j8 hm15 hN hC y23 σ24 hy23) (cwV 0 hts (gV wd_515 wd_516 wd_517 wd_292 wd_514) rfl rfl rfl (by decide +kernel) ⟨Nat.le_of_ble_eq_true rfl, Nat.le_of_ble_eq_true rfl⟩) ⟨hW_blind, va_recv (q := (RD, TD, 5)) (q0 := q22) (ci := 6) hK.1 hP rfl eq22, hW_pre hP hK hD hG⟩ rfl rfl hl.1 rfl (lv_room (Nat.le_of_ble_eq_true rfl)) dV_undo_27 ⟨Nat.le_of_ble_eq_true rfl, Nat.le_of_ble_eq_true rfl⟩) hS (fun q _ h => hFc q h) hFc (fun u t H1 locs ht hvm hr9 hB hz1 hk1 hS => ?_)
      obtain ⟨hP, hD, hC⟩ := hB
      rw [ht] at hP
      replace hD := hD.weaken (fun _ _ _ h => hFc _ h)
      generalize H1 = H at hP hS ⊢
      refine lv_aload_n (pc := 30) hx hb dV_undo_30 rfl (lv_at hl 1 rfl) ?_
      refine lv_iconst (pc := 31) (v := 1) hx hb dV_undo_31 (by decide) ?_
      obtain ⟨q25, hq25, eq25⟩ := at_0 (ad := ad) (ca := ca) (σ := σ24) hm0
      obtain ⟨⟨y26, σ27⟩, hy26, hf⟩ := ob hf
      have hFc := w9_free hD hS hA
      refine va_callv (pc := 32) (va_runV (As := [.int 1]) (rest := []) ⟨hx, hb, hml, hown, hts⟩ (t_V_finish l dC dI ad ca dom H.size n σ24 1 hm0 hN hC y26 σ27 hy26) (cwV 1 hts (gV wd_495 wd_496 wd_497 wd_254 wd_494) rfl rfl rfl (by decide +kernel) ⟨Nat.le_of_ble_eq_true rfl, Nat.le_of_ble_eq_true rfl⟩) ⟨hW_blind, va_recv (q := (RV, TV, 9)) (q0 := q25) (ci := 0) hK.1 hP rfl eq25, hW_pre hP hK hD hG⟩ rfl rfl hl.1 rfl (lv_room (Nat.le_of_ble_eq_true rfl)) dV_undo_32 ⟨Nat.le_of_ble_eq_true rfl, Nat.le_of_ble_eq_true rfl⟩) hS (fun q _ h => hFc q h) hFc (fun u t H1 locs ht hvm hr9 hB hz1 hk1 hS => ?_)
      obtain ⟨hP, hD, hC⟩ := hB
      rw [ht] at hP
      replace hD := hD.weaken (fun _ _ _ h => hFc _ h)
      generalize H1 = H at hP hS ⊢
      refine lv_iconst (pc := 35) (v := 1) hx hb dV_undo_35 (by decide) ?_
      obtain ⟨h8, h9⟩ := Prod.mk.inj (Option.some.inj hf)
      subst h9
      have h8 := Option.some.inj h8
      exact W.zret (pc := 36) hx hb hr (rfl) (fun t ht hW => ⟨⟨_, (), rfl, h8, by rw [ht]; exact hP, hD, hC⟩, hS.F ht⟩) hS.2.2 dV_undo_36
    · replace hf := ite_t h21 hf
      refine lv_iconst (pc := 24) (v := 0) hx hb dV_undo_24 (by decide) ?_
      obtain ⟨h8, h9⟩ := Prod.mk.inj (Option.some.inj hf)
      subst h9
      have h8 := Option.some.inj h8
      exact W.zret (pc := 25) hx hb hr (rfl) (fun t ht hW => ⟨⟨_, (), rfl, h8, by rw [ht]; exact hP, hD, hC⟩, hS.F ht⟩) hS.2.2 dV_undo_25
def V_put (σ : hT) (a1 : Int32) (a2 : Int32) (a3 : Int32) (a4 : Int32) : Option ((Option Int32) × hT) := Option.bind (V_needPower σ) fun ⟨y2o, σ3⟩ => ex9 y2o σ3 fun y2 => Option.bind (V_drawingAt σ3 a1) fun y5 => hq y5 (Option.bind (V_copyRefusal σ3 none a2) fun y10 => lt9 (α := Option ((Option Int32) × hT)) (Option.bind (V_allowed σ3 y10) fun ⟨y14, σ15⟩ => if y14 = 0 then some (some 0, σ15) else none) fun x11 => if y10 = 0 then none else x11) fun j8 => Option.bind (V_copyRefusal σ3 (some j8) a2) fun y19 => lt9 (α := Int32 → Option ((Option Int32) × hT)) (fun (q21 : Int32) => Option.bind (V_allowed σ3 q21) fun ⟨y29, σ30⟩ => if y29 = 0 then some (some 0, σ30) else Option.bind (C_setByte σ30 (3 * j8) a3 a4) fun ⟨y34, σ35⟩ => some (some 1, σ35)) fun x20 => if y19 = 0 then if (C_hasByte σ3 (3 * j8) a3) = 0 then x20 7 else if a4 < 0 then x20 7 else if a4 ≤ 255 then x20 y19 else x20 7 else x20 y19
set_option maxHeartbeats 4000000 in
set_option maxRecDepth 100000 in
theorem t_V_put (l : Launch) (dC : Nat → ClassId) (dI : Nat → Nat → Nat) (ad : Nat → Nat → Nat) (ca : Nat → Nat → ClassId) (dom : List (Nat × Nat)) (sz : Nat) (σ : hT) (a1 : Int32) (a2 : Int32) (a3 : Int32) (a4 : Int32) (hm0 : (0, 0) ∈ dom) (hN : dom.Nodup) (hC : clo dom σ.2.2) (ρ : Int32) (σ' : hT) (hf : V_put σ a1 a2 a3 a4 = some (some ρ, σ')) : Met l yV_put (.code yV_put cV_put 7 (some .boolean) :: aw) ({ frames := 3, cells := 0, slots := 0, locals := 64 }) (hW (dC, dI) sz ad ca dom σ [.ref (ad 0 0), .int a1, .int a2, .int a3, .int a4]) (va_Qi (fun r (_ : Unit) => r = ρ) (fun _ t => hB (dC, dI) (va_A (w9 ad ca dom σ) sz) ad ca dom σ' t) (va_A (w9 ad ca dom σ) sz)) 0 0 (va_A (w9 ad ca dom σ) sz) := by
  refine Met.ofW (cc := cV_put) (maxL := 7) (ret := (some .boolean)) (by decide) rfl ?_
  intro p e s m args below meth c s₁ B hml hv
  obtain ⟨rfl, hv⟩ := hv
  have hx := B.exec
  have hb := B.bytes
  have hr := B.returns
  have hts : ∀ w ∈ aw, w.before _ s = true := fun w h => atoms_spec (ws := (.code yV_put cV_put 7 (some .boolean) :: aw)) B.pre w (List.mem_cons_of_mem _ h)
  have hown : s.vm.findClass RV = some m.cls := findClass_of_methodNamed B.named
  have hlocks := B.notSynchronized
  obtain ⟨hsz, hP, hK, hD0, hG⟩ := hv
  subst hsz
  have hD := hD0.self (sz := s.heap.size)
  generalize hAe : va_A (w9 ad ca dom σ) s.heap.size = A at hD ⊢
  have hA : ∀ q : Nat, s.heap.size ≤ q → A q := fun q h => by rw [← hAe]; exact Or.inr h
  obtain ⟨H, hH⟩ : ∃ H, H = s.heap := ⟨_, rfl⟩
  have hS : va_S A s.heap H [] := by rw [hH]; exact va_S.rf
  rw [← hH] at hP ⊢
  unfold V_put at hf
  have hl := lv_entry ([.ref (ad 0 0), .int a1, .int a2, .int a3, .int a4]) (n := 7) (Nat.le_of_ble_eq_true rfl)
  rw [lg_entry_eq]
  generalize (lg_sl ([.ref (ad 0 0), .int a1, .int a2, .int a3, .int a4]) ++ List.replicate (7 - (lg_sl ([.ref (ad 0 0), .int a1, .int a2, .int a3, .int a4])).length) Slot.unset).toArray = ls at hl ⊢
  have hl : lv_has ls 7 [(0, .ref (ad 0 0)), (1, .int a1), (2, .int a2), (3, .int a3), (4, .int a4)] := hl
  refine lv_aload_n (pc := 0) hx hb dV_put_0 rfl (lv_at hl 0 rfl) ?_
  obtain ⟨q1, hq1, eq1⟩ := at_0 (ad := ad) (ca := ca) (σ := σ) hm0
  obtain ⟨⟨y2o, σ3⟩, hy2, hf⟩ := ob hf
  obtain ⟨y2, rfl⟩ : ∃ z, y2o = some z := by
    cases y2o with
    | none => exact (ex9_n hf).elim
    | some z => exact ⟨z, rfl⟩
  replace hf := ex9_s hf
  have hFc := w9_free hD hS hA
  refine va_callv (pc := 1) (va_runV (As := []) (rest := []) ⟨hx, hb, hml, hown, hts⟩ (t_V_needPower l dC dI ad ca dom H.size σ hm0 hN hC y2 σ3 hy2) (cwV 0 hts (gV wd_499 wd_500 wd_501 wd_254 wd_498) rfl rfl rfl (by decide +kernel) ⟨Nat.le_of_ble_eq_true rfl, Nat.le_of_ble_eq_true rfl⟩) ⟨hW_blind, va_recv (q := (RV, TV, 9)) (q0 := q1) (ci := 0) hK.1 hP rfl eq1, hW_pre hP hK hD hG⟩ rfl rfl hl.1 rfl (lv_room (Nat.le_of_ble_eq_true rfl)) dV_put_1 ⟨Nat.le_of_ble_eq_true rfl, Nat.le_of_ble_eq_true rfl⟩) hS (fun q _ h => hFc q h) hFc (fun u t H1 locs ht hvm hr9 hB hz1 hk1 hS => ?_)
  obtain ⟨hP, hD, hC⟩ := hB
  rw [ht] at hP
  replace hD := hD.weaken (fun _ _ _ h => hFc _ h)
  generalize H1 = H at hP hS ⊢
  refine lv_aload_n (pc := 4) hx hb dV_put_4 rfl (lv_at hl 0 rfl) ?_
  refine lv_iload_n (pc := 5) hx hb dV_put_5 rfl (lv_at hl 1 rfl) ?_
  obtain ⟨q4, hq4, eq4⟩ := at_0 (ad := ad) (ca := ca) (σ := σ3) hm0
  obtain ⟨y5, hy5, hf⟩ := ob hf
  refine va_cse (pc := 6) (W.runV (As := [.int a1]) (rest := []) ⟨hx, hb, hml, hown, hts⟩ (t_V_drawingAt l dC dI ad ca dom σ3 a1 hm0 hN hC y5 hy5) (cwV 1 hts (gV wd_317 wd_318 wd_319 wd_254 wd_316) rfl rfl rfl (by decide +kernel) ⟨Nat.le_of_ble_eq_true rfl, Nat.le_of_ble_eq_true rfl⟩) ⟨hR_blind, va_recv (q := (RV, TV, 9)) (q0 := q4) (ci := 0) hK.1 hP rfl eq4, hR_pre hP hK hG⟩ rfl rfl hl.1 rfl (lv_room (Nat.le_of_ble_eq_true rfl)) dV_put_6 ⟨Nat.le_of_ble_eq_true rfl, Nat.le_of_ble_eq_true rfl⟩) (fun r9 hr9 => ?_)
  obtain ⟨hr9, hmy6⟩ := hr9
  refine W.eq (g2 := F0 m 9 ls [va_re (ad 6) y5]) (by rw [hr9]) ?_
  rcases hE7 : y5 with _ | j8
  · replace hf := hq_n hE7 hf
    refine W.eq (g2 := F0 m 9 ls [.null]) rfl ?_
    refine lv_astoreN (pc := 9) hx hb dV_put_9 hl (by decide) rfl (fun ls hl => ?_)
    have hl : lv_has ls 7 [(5, .null), (0, .ref (ad 0 0)), (1, .int a1), (2, .int a2), (3, .int a3), (4, .int a4)] := hl
    refine lv_aload_n (pc := 11) hx hb dV_put_11 rfl (lv_at hl 1 rfl) ?_
    refine lv_aloadN (pc := 12) hx hb dV_put_12 (lv_at hl 0 rfl) ?_
    refine lv_iload_n (pc := 14) hx hb dV_put_14 rfl (lv_at hl 3 rfl) ?_
    obtain ⟨q9, hq9, eq9⟩ := at_0 (ad := ad) (ca := ca) (σ := σ3) hm0
    obtain ⟨y10, hy10, hf⟩ := ob hf
    refine vp_callSi (pc := 15) (W.runV (As := [.null, .int a2]) (rest := []) ⟨hx, hb, hml, hown, hts⟩ (t_V_copyRefusal l dC dI ad ca dom σ3 none a2 hm0 (fun _ z => nomatch z) hN hC y10 hy10) (cwV 2 hts (gV wd_511 wd_512 wd_513 wd_254 wd_510) rfl rfl rfl (by decide +kernel) ⟨Nat.le_of_ble_eq_true rfl, Nat.le_of_ble_eq_true rfl⟩) ⟨hR_blind, va_recv (q := (RV, TV, 9)) (q0 := q9) (ci := 0) hK.1 hP rfl eq9, hR_pre hP hK hG⟩ rfl rfl hl.1 rfl (lv_room (Nat.le_of_ble_eq_true rfl)) dV_put_15 ⟨Nat.le_of_ble_eq_true rfl, Nat.le_of_ble_eq_true rfl⟩) (fun r9 hr9 => ?_)
    refine W.eq (g2 := F0 m 18 ls [.int y10]) (by rw [hr9]) ?_
    refine lv_istore (pc := 18) hx hb dV_put_18 hl (by decide) rfl (fun ls hl => ?_)
    have hl : lv_has ls 7 [(6, .int y10), (5, .null), (0, .ref (ad 0 0)), (1, .int a1), (2, .int a2), (3, .int a3), (4, .int a4)] := hl
    refine lv_iload (pc := 20) hx hb dV_put_20 (lv_at hl 0 rfl) ?_
    obtain ⟨x11, hx11, hf⟩ := lt_9 hf
    refine jnF (τ := (Heap) × (List Loc) × (Array Slot)) (fun pc st z => W p l e _ s m _ below meth c z.1 z.2.1 0 0 _ (F0 m pc z.2.2 st)) (pc0 := 22) (st0 := [.int y10]) (z0 := (H, _, ls)) 54 (fun z => []) (fun z => va_P (dC, dI) kCl (w9 ad ca dom (σ3)) z.1 ∧ va_D A (w9 ad ca dom (σ3)) ∧ va_S A s.heap z.1 z.2.1 ∧ lv_has z.2.2 7 [(6, .int y10), (5, .null), (0, .ref (ad 0 0)), (1, .int a1), (2, .int a2), (3, .int a3), (4, .int a4)]) (fun z => x11) (some ρ, σ') ?_ ?_
    · intro hJx11
      dsimp only at hJx11 ⊢
      refine lv_if_ne (pc := 22) (tgt := 54) hx hb dV_put_22 rfl (fun h12 => ?_) (fun h12 => ?_)
      · replace hf := ite_f h12 hf
        have hl := lv_sub hl (l' := [(6, .int y10), (5, .null), (0, .ref (ad 0 0)), (1, .int a1), (2, .int a2), (3, .int a3), (4, .int a4)]) [0, 1, 2, 3, 4, 5, 6] rfl
        exact hJx11 (H, _, ls) ⟨hP, hD, hS, hl⟩ hf
      · replace hf := ite_t h12 hf
        refine lv_aloadN (pc := 25) hx hb dV_put_25 (lv_at hl 1 rfl) ?_
        exact nomatch hf
    · rintro ⟨H, locs, ls⟩ ⟨hP, hD, hS, hl⟩ hf
      dsimp only at hP hD hS hl hf ⊢
      rw [hx11] at hf
      have hl : lv_has ls 7 [(6, .int y10), (5, .null), (0, .ref (ad 0 0)), (1, .int a1), (2, .int a2), (3, .int a3), (4, .int a4)] := hl
      refine lv_aload_n (pc := 54) hx hb dV_put_54 rfl (lv_at hl 2 rfl) ?_
      refine lv_iload (pc := 55) hx hb dV_put_55 (lv_at hl 0 rfl) ?_
      obtain ⟨q13, hq13, eq13⟩ := at_0 (ad := ad) (ca := ca) (σ := σ3) hm0
      obtain ⟨⟨y14, σ15⟩, hy14, hf⟩ := ob hf
      have hFc := w9_free hD hS hA
      refine va_calli (pc := 57) (va_runV (As := [.int y10]) (rest := []) ⟨hx, hb, hml, hown, hts⟩ (t_V_allowed l dC dI ad ca dom H.size σ3 y10 hm0 hN hC y14 σ15 hy14) (cwV 1 hts (gV wd_483 wd_484 wd_485 wd_254 wd_482) rfl rfl rfl (by decide +kernel) ⟨Nat.le_of_ble_eq_true rfl, Nat.le_of_ble_eq_true rfl⟩) ⟨hW_blind, va_recv (q := (RV, TV, 9)) (q0 := q13) (ci := 0) hK.1 hP rfl eq13, hW_pre hP hK hD hG⟩ rfl rfl hl.1 rfl (lv_room (Nat.le_of_ble_eq_true rfl)) dV_put_57 ⟨Nat.le_of_ble_eq_true rfl, Nat.le_of_ble_eq_true rfl⟩) hS (fun q _ h => hFc q h) hFc (fun r9 u t H1 locs ht hvm hr9 hB hz1 hk1 hS => ?_)
      obtain ⟨hP, hD, hC⟩ := hB
      rw [ht] at hP
      replace hD := hD.weaken (fun _ _ _ h => hFc _ h)
      generalize H1 = H at hP hS ⊢
      refine W.eq (g2 := F0 m 60 ls [.int y14]) (by rw [hr9]) ?_
      refine lv_if_ne (pc := 60) (tgt := 65) hx hb dV_put_60 rfl (fun h16 => ?_) (fun h16 => ?_)
      · replace hf := ite_f h16 hf
        refine lv_aloadN (pc := 65) hx hb dV_put_65 (lv_at hl 1 rfl) ?_
        exact nomatch hf
      · replace hf := ite_t h16 hf
        refine lv_iconst (pc := 63) (v := 0) hx hb dV_put_63 (by decide) ?_
        obtain ⟨h8, h9⟩ := Prod.mk.inj (Option.some.inj hf)
        subst h9
        have h8 := Option.some.inj h8
        exact W.zret (pc := 64) hx hb hr (rfl) (fun t ht hW => ⟨⟨_, (), rfl, h8, by rw [ht]; exact hP, hD, hC⟩, hS.F ht⟩) hS.2.2 dV_put_64
  · replace hf := hq_s hE7 hf
    have hm17 : (6, j8) ∈ dom := (hmy6 _ hE7)
    refine W.eq (g2 := F0 m 9 ls [.ref (ad 6 j8)]) rfl ?_
    refine lv_astore (pc := 9) hx hb dV_put_9 hl (by decide) rfl (fun ls hl => ?_)
    have hl : lv_has ls 7 [(5, .ref (ad 6 j8)), (0, .ref (ad 0 0)), (1, .int a1), (2, .int a2), (3, .int a3), (4, .int a4)] := hl
    refine lv_aload_n (pc := 11) hx hb dV_put_11 rfl (lv_at hl 1 rfl) ?_
    refine lv_aload (pc := 12) hx hb dV_put_12 (lv_at hl 0 rfl) ?_
    refine lv_iload_n (pc := 14) hx hb dV_put_14 rfl (lv_at hl 3 rfl) ?_
    obtain ⟨q18, hq18, eq18⟩ := at_0 (ad := ad) (ca := ca) (σ := σ3) hm0
    obtain ⟨y19, hy19, hf⟩ := ob hf
    refine vp_callSi (pc := 15) (W.runV (As := [.ref (ad 6 j8), .int a2]) (rest := []) ⟨hx, hb, hml, hown, hts⟩ (t_V_copyRefusal l dC dI ad ca dom σ3 (some j8) a2 hm0 (fun _ z => Option.some.inj z ▸ hm17) hN hC y19 hy19) (cwV 2 hts (gV wd_511 wd_512 wd_513 wd_254 wd_510) rfl rfl rfl (by decide +kernel) ⟨Nat.le_of_ble_eq_true rfl, Nat.le_of_ble_eq_true rfl⟩) ⟨hR_blind, va_recv (q := (RV, TV, 9)) (q0 := q18) (ci := 0) hK.1 hP rfl eq18, hR_pre hP hK hG⟩ rfl rfl hl.1 rfl (lv_room (Nat.le_of_ble_eq_true rfl)) dV_put_15 ⟨Nat.le_of_ble_eq_true rfl, Nat.le_of_ble_eq_true rfl⟩) (fun r9 hr9 => ?_)
    refine W.eq (g2 := F0 m 18 ls [.int y19]) (by rw [hr9]) ?_
    refine lv_istore (pc := 18) hx hb dV_put_18 hl (by decide) rfl (fun ls hl => ?_)
    have hl : lv_has ls 7 [(6, .int y19), (5, .ref (ad 6 j8)), (0, .ref (ad 0 0)), (1, .int a1), (2, .int a2), (3, .int a3), (4, .int a4)] := hl
    refine lv_iload (pc := 20) hx hb dV_put_20 (lv_at hl 0 rfl) ?_
    obtain ⟨x20, hx20, hf⟩ := lt_9 hf
    refine jnF (τ := (Int32) × (Heap) × (List Loc) × (Array Slot)) (fun pc st z => W p l e _ s m _ below meth c z.2.1 z.2.2.1 0 0 _ (F0 m pc z.2.2.2 st)) (pc0 := 22) (st0 := [.int y19]) (z0 := (0, H, _, ls)) 54 (fun z => []) (fun z => va_P (dC, dI) kCl (w9 ad ca dom (σ3)) z.2.1 ∧ va_D A (w9 ad ca dom (σ3)) ∧ va_S A s.heap z.2.1 z.2.2.1 ∧ lv_has z.2.2.2 7 [(6, .int z.1), (5, .ref (ad 6 j8)), (0, .ref (ad 0 0)), (1, .int a1), (2, .int a2), (3, .int a3), (4, .int a4)]) (fun z => x20 z.1) (some ρ, σ') ?_ ?_
    · intro hJx20
      dsimp only at hJx20 ⊢
      refine lv_if_ne (pc := 22) (tgt := 54) hx hb dV_put_22 rfl (fun h22 => ?_) (fun h22 => ?_)
      · replace hf := ite_f h22 hf
        have hl := lv_sub hl (l' := [(6, .int y19), (5, .ref (ad 6 j8)), (0, .ref (ad 0 0)), (1, .int a1), (2, .int a2), (3, .int a3), (4, .int a4)]) [0, 1, 2, 3, 4, 5, 6] rfl
        exact hJx20 (y19, H, _, ls) ⟨hP, hD, hS, hl⟩ hf
      · replace hf := ite_t h22 hf
        refine lv_aload (pc := 25) hx hb dV_put_25 (lv_at hl 1 rfl) ?_
        obtain ⟨q23, hq23, eq23⟩ := at_6 (ad := ad) (ca := ca) (σ := σ3) hm17
        refine va_get (D := (dC, dI)) (cl := kCl) (C := RD) (T := TD) (N := 5) (pc := 27) hx hb hts inD hown hK.1 hP q23 eq23 rfl 3 (by decide) (hts _ wd_368) (fun _ h9 => h9) rfl dV_put_27 ?_
        refine lv_iload_n (pc := 30) hx hb dV_put_30 rfl (lv_at hl 5 rfl) ?_
        obtain ⟨q24, hq24, eq24⟩ := at_5 (ad := ad) (ca := ca) (σ := σ3) (cm_6_3 hC hm17)
        refine vp_callSi (pc := 31) (W.runV (As := [.int a3]) (rest := []) ⟨hx, hb, hml, hown, hts⟩ (t_C_hasByte l dC dI ad ca dom σ3 (3 * j8) a3 (cm_6_3 hC hm17) hN hC (C_hasByte σ3 (3 * j8) a3) rfl) (cwV 1 hts (gV wd_519 wd_520 wd_521 wd_228 wd_518) rfl rfl rfl (by decide +kernel) ⟨Nat.le_of_ble_eq_true rfl, Nat.le_of_ble_eq_true rfl⟩) ⟨hR_blind, va_recv (q := (RC, TC, 5)) (q0 := q24) (ci := 5) hK.1 hP rfl eq24, hR_pre hP hK hG⟩ rfl rfl hl.1 rfl (lv_room (Nat.le_of_ble_eq_true rfl)) dV_put_31 ⟨Nat.le_of_ble_eq_true rfl, Nat.le_of_ble_eq_true rfl⟩) (fun r9 hr9 => ?_)
        refine W.eq (g2 := F0 m 34 ls [.int (C_hasByte σ3 (3 * j8) a3)]) (by rw [hr9]) ?_
        refine lv_if_eq (pc := 34) (tgt := 50) hx hb dV_put_34 rfl (fun h25 => ?_) (fun h25 => ?_)
        · replace hf := ite_t h25 hf
          refine lv_bipush (pc := 50) (v := 7) hx hb dV_put_50 (by decide) ?_
          refine lv_istore (pc := 52) hx hb dV_put_52 hl (by decide) rfl (fun ls hl => ?_)
          have hl : lv_has ls 7 [(6, .int 7), (5, .ref (ad 6 j8)), (0, .ref (ad 0 0)), (1, .int a1), (2, .int a2), (3, .int a3), (4, .int a4)] := hl
          have hl := lv_sub hl (l' := [(6, .int 7), (5, .ref (ad 6 j8)), (0, .ref (ad 0 0)), (1, .int a1), (2, .int a2), (3, .int a3), (4, .int a4)]) [0, 1, 2, 3, 4, 5, 6] rfl
          exact hJx20 (7, H, _, ls) ⟨hP, hD, hS, hl⟩ hf
        · replace hf := ite_f h25 hf
          refine lv_iload (pc := 37) hx hb dV_put_37 (lv_at hl 6 rfl) ?_
          refine lv_if_lt (pc := 39) (tgt := 50) hx hb dV_put_39 rfl (fun h26 => ?_) (fun h26 => ?_)
          · replace hf := ite_t h26 hf
            refine lv_bipush (pc := 50) (v := 7) hx hb dV_put_50 (by decide) ?_
            refine lv_istore (pc := 52) hx hb dV_put_52 hl (by decide) rfl (fun ls hl => ?_)
            have hl : lv_has ls 7 [(6, .int 7), (5, .ref (ad 6 j8)), (0, .ref (ad 0 0)), (1, .int a1), (2, .int a2), (3, .int a3), (4, .int a4)] := hl
            have hl := lv_sub hl (l' := [(6, .int 7), (5, .ref (ad 6 j8)), (0, .ref (ad 0 0)), (1, .int a1), (2, .int a2), (3, .int a3), (4, .int a4)]) [0, 1, 2, 3, 4, 5, 6] rfl
            exact hJx20 (7, H, _, ls) ⟨hP, hD, hS, hl⟩ hf
          · replace hf := ite_f h26 hf
            refine lv_iload (pc := 42) hx hb dV_put_42 (lv_at hl 6 rfl) ?_
            refine lv_sipush (pc := 44) (v := 255) hx hb dV_put_44 (by decide) ?_
            refine lv_icmp_le (pc := 47) (tgt := 54) hx hb dV_put_47 rfl (fun h27 => ?_) (fun h27 => ?_)
            · replace hf := ite_t h27 hf
              have hl := lv_sub hl (l' := [(6, .int y19), (5, .ref (ad 6 j8)), (0, .ref (ad 0 0)), (1, .int a1), (2, .int a2), (3, .int a3), (4, .int a4)]) [0, 1, 2, 3, 4, 5, 6] rfl
              exact hJx20 (y19, H, _, ls) ⟨hP, hD, hS, hl⟩ hf
            · replace hf := ite_f h27 hf
              refine lv_bipush (pc := 50) (v := 7) hx hb dV_put_50 (by decide) ?_
              refine lv_istore (pc := 52) hx hb dV_put_52 hl (by decide) rfl (fun ls hl => ?_)
              have hl : lv_has ls 7 [(6, .int 7), (5, .ref (ad 6 j8)), (0, .ref (ad 0 0)), (1, .int a1), (2, .int a2), (3, .int a3), (4, .int a4)] := hl
              have hl := lv_sub hl (l' := [(6, .int 7), (5, .ref (ad 6 j8)), (0, .ref (ad 0 0)), (1, .int a1), (2, .int a2), (3, .int a3), (4, .int a4)]) [0, 1, 2, 3, 4, 5, 6] rfl
              exact hJx20 (7, H, _, ls) ⟨hP, hD, hS, hl⟩ hf
    · rintro ⟨q21, H, locs, ls⟩ ⟨hP, hD, hS, hl⟩ hf
      dsimp only at hP hD hS hl hf ⊢
      rw [hx20] at hf
      have hl : lv_has ls 7 [(6, .int q21), (5, .ref (ad 6 j8)), (0, .ref (ad 0 0)), (1, .int a1), (2, .int a2), (3, .int a3), (4, .int a4)] := hl
      refine lv_aload_n (pc := 54) hx hb dV_put_54 rfl (lv_at hl 2 rfl) ?_
      refine lv_iload (pc := 55) hx hb dV_put_55 (lv_at hl 0 rfl) ?_
      obtain ⟨q28, hq28, eq28⟩ := at_0 (ad := ad) (ca := ca) (σ := σ3) hm0
      obtain ⟨⟨y29, σ30⟩, hy29, hf⟩ := ob hf
      have hFc := w9_free hD hS hA
      refine va_calli (pc := 57) (va_runV (As := [.int q21]) (rest := []) ⟨hx, hb, hml, hown, hts⟩ (t_V_allowed l dC dI ad ca dom H.size σ3 q21 hm0 hN hC y29 σ30 hy29) (cwV 1 hts (gV wd_483 wd_484 wd_485 wd_254 wd_482) rfl rfl rfl (by decide +kernel) ⟨Nat.le_of_ble_eq_true rfl, Nat.le_of_ble_eq_true rfl⟩) ⟨hW_blind, va_recv (q := (RV, TV, 9)) (q0 := q28) (ci := 0) hK.1 hP rfl eq28, hW_pre hP hK hD hG⟩ rfl rfl hl.1 rfl (lv_room (Nat.le_of_ble_eq_true rfl)) dV_put_57 ⟨Nat.le_of_ble_eq_true rfl, Nat.le_of_ble_eq_true rfl⟩) hS (fun q _ h => hFc q h) hFc (fun r9 u t H1 locs ht hvm hr9 hB hz1 hk1 hS => ?_)
      obtain ⟨hP, hD, hC⟩ := hB
      rw [ht] at hP
      replace hD := hD.weaken (fun _ _ _ h => hFc _ h)
      generalize H1 = H at hP hS ⊢
      refine W.eq (g2 := F0 m 60 ls [.int y29]) (by rw [hr9]) ?_
      refine lv_if_ne (pc := 60) (tgt := 65) hx hb dV_put_60 rfl (fun h31 => ?_) (fun h31 => ?_)
      · replace hf := ite_f h31 hf
        refine lv_aload (pc := 65) hx hb dV_put_65 (lv_at hl 1 rfl) ?_
        obtain ⟨q32, hq32, eq32⟩ := at_6 (ad := ad) (ca := ca) (σ := σ30) hm17
        refine va_get (D := (dC, dI)) (cl := kCl) (C := RD) (T := TD) (N := 5) (pc := 67) hx hb hts inD hown hK.1 hP q32 eq32 rfl 3 (by decide) (hts _ wd_368) (fun _ h9 => h9) rfl dV_put_67 ?_
        refine lv_iload_n (pc := 70) hx hb dV_put_70 rfl (lv_at hl 5 rfl) ?_
        refine lv_iload (pc := 71) hx hb dV_put_71 (lv_at hl 6 rfl) ?_
        obtain ⟨q33, hq33, eq33⟩ := at_5 (ad := ad) (ca := ca) (σ := σ30) (cm_6_3 hC hm17)
        obtain ⟨⟨y34, σ35⟩, hy34, hf⟩ := ob hf
        have hFc := w9_free hD hS hA
        refine va_callv (pc := 73) (va_runV (As := [.int a3, .int a4]) (rest := []) ⟨hx, hb, hml, hown, hts⟩ (t_C_setByte l dC dI ad ca dom H.size σ30 (3 * j8) a3 a4 (cm_6_3 hC hm17) hN hC y34 σ35 hy34) (cwV 2 hts (gV wd_522 wd_233 wd_234 wd_228 wd_231) rfl rfl rfl (by decide +kernel) ⟨Nat.le_of_ble_eq_true rfl, Nat.le_of_ble_eq_true rfl⟩) ⟨hW_blind, va_recv (q := (RC, TC, 5)) (q0 := q33) (ci := 5) hK.1 hP rfl eq33, hW_pre hP hK hD hG⟩ rfl rfl hl.1 rfl (lv_room (Nat.le_of_ble_eq_true rfl)) dV_put_73 ⟨Nat.le_of_ble_eq_true rfl, Nat.le_of_ble_eq_true rfl⟩) hS (fun q _ h => hFc q h) hFc (fun u t H1 locs ht hvm hr9 hB hz1 hk1 hS => ?_)
        obtain ⟨hP, hD, hC⟩ := hB
        rw [ht] at hP
        replace hD := hD.weaken (fun _ _ _ h => hFc _ h)
        generalize H1 = H at hP hS ⊢
        refine lv_iconst (pc := 76) (v := 1) hx hb dV_put_76 (by decide) ?_
        obtain ⟨h8, h9⟩ := Prod.mk.inj (Option.some.inj hf)
        subst h9
        have h8 := Option.some.inj h8
        exact W.zret (pc := 77) hx hb hr (rfl) (fun t ht hW => ⟨⟨_, (), rfl, h8, by rw [ht]; exact hP, hD, hC⟩, hS.F ht⟩) hS.2.2 dV_put_77
      · replace hf := ite_t h31 hf
        refine lv_iconst (pc := 63) (v := 0) hx hb dV_put_63 (by decide) ?_
        obtain ⟨h8, h9⟩ := Prod.mk.inj (Option.some.inj hf)
        subst h9
        have h8 := Option.some.inj h8
        exact W.zret (pc := 64) hx hb hr (rfl) (fun t ht hW => ⟨⟨_, (), rfl, h8, by rw [ht]; exact hP, hD, hC⟩, hS.F ht⟩) hS.2.2 dV_put_64
def V_resize (n : Nat) (σ : hT) (a1 : Int32) (a2 : Int32) (a3 : Int32) : Option ((Option Int32) × hT) := Option.bind (V_needPower σ) fun ⟨y2o, σ3⟩ => ex9 y2o σ3 fun y2 => Option.bind (V_drawingAt σ3 a1) fun y5 => hq y5 (Option.bind (V_copyRefusal σ3 none a2) fun y10 => lt9 (α := Int32 → Option ((Option Int32) × hT)) (fun (q12 : Int32) => Option.bind (V_allowed σ3 q12) fun ⟨y17, σ18⟩ => if y17 = 0 then some (some 0, σ18) else none) fun x11 => if y10 = 0 then if a3 < 0 then x11 7 else if a3 ≤ 64 then x11 y10 else x11 7 else x11 y10) fun j8 => Option.bind (V_copyRefusal σ3 (some j8) a2) fun y22 => lt9 (α := Int32 → Option ((Option Int32) × hT)) (fun (q24 : Int32) => Option.bind (V_allowed σ3 q24) fun ⟨y29, σ30⟩ => if y29 = 0 then some (some 0, σ30) else Option.bind (C_setBytes n σ30 (3 * j8) a3) fun ⟨y34, σ35⟩ => some (some 1, σ35)) fun x23 => if y22 = 0 then if a3 < 0 then x23 7 else if a3 ≤ 64 then x23 y22 else x23 7 else x23 y22
set_option maxHeartbeats 4000000 in
set_option maxRecDepth 100000 in
theorem t_V_resize (l : Launch) (dC : Nat → ClassId) (dI : Nat → Nat → Nat) (ad : Nat → Nat → Nat) (ca : Nat → Nat → ClassId) (dom : List (Nat × Nat)) (sz : Nat) (n : Nat) (σ : hT) (a1 : Int32) (a2 : Int32) (a3 : Int32) (hm0 : (0, 0) ∈ dom) (hN : dom.Nodup) (hC : clo dom σ.2.2) (ρ : Int32) (σ' : hT) (hf : V_resize n σ a1 a2 a3 = some (some ρ, σ')) : Met l yV_resize (.code yV_resize cV_resize 6 (some .boolean) :: aw) ({ frames := 3, cells := 0, slots := 0, locals := 66 }) (hW (dC, dI) sz ad ca dom σ [.ref (ad 0 0), .int a1, .int a2, .int a3]) (va_Qi (fun r (_ : Unit) => r = ρ) (fun _ t => hB (dC, dI) (va_A (w9 ad ca dom σ) sz) ad ca dom σ' t) (va_A (w9 ad ca dom σ) sz)) 0 0 (va_A (w9 ad ca dom σ) sz) := by
  refine Met.ofW (cc := cV_resize) (maxL := 6) (ret := (some .boolean)) (by decide) rfl ?_
  intro p e s m args below meth c s₁ B hml hv
  obtain ⟨rfl, hv⟩ := hv
  have hx := B.exec
  have hb := B.bytes
  have hr := B.returns
  have hts : ∀ w ∈ aw, w.before _ s = true := fun w h => atoms_spec (ws := (.code yV_resize cV_resize 6 (some .boolean) :: aw)) B.pre w (List.mem_cons_of_mem _ h)
  have hown : s.vm.findClass RV = some m.cls := findClass_of_methodNamed B.named
  have hlocks := B.notSynchronized
  obtain ⟨hsz, hP, hK, hD0, hG⟩ := hv
  subst hsz
  have hD := hD0.self (sz := s.heap.size)
  generalize hAe : va_A (w9 ad ca dom σ) s.heap.size = A at hD ⊢
  have hA : ∀ q : Nat, s.heap.size ≤ q → A q := fun q h => by rw [← hAe]; exact Or.inr h
  obtain ⟨H, hH⟩ : ∃ H, H = s.heap := ⟨_, rfl⟩
  have hS : va_S A s.heap H [] := by rw [hH]; exact va_S.rf
  rw [← hH] at hP ⊢
  unfold V_resize at hf
  have hl := lv_entry ([.ref (ad 0 0), .int a1, .int a2, .int a3]) (n := 6) (Nat.le_of_ble_eq_true rfl)
  rw [lg_entry_eq]
  generalize (lg_sl ([.ref (ad 0 0), .int a1, .int a2, .int a3]) ++ List.replicate (6 - (lg_sl ([.ref (ad 0 0), .int a1, .int a2, .int a3])).length) Slot.unset).toArray = ls at hl ⊢
  have hl : lv_has ls 6 [(0, .ref (ad 0 0)), (1, .int a1), (2, .int a2), (3, .int a3)] := hl
  refine lv_aload_n (pc := 0) hx hb dV_resize_0 rfl (lv_at hl 0 rfl) ?_
  obtain ⟨q1, hq1, eq1⟩ := at_0 (ad := ad) (ca := ca) (σ := σ) hm0
  obtain ⟨⟨y2o, σ3⟩, hy2, hf⟩ := ob hf
  obtain ⟨y2, rfl⟩ : ∃ z, y2o = some z := by
    cases y2o with
    | none => exact (ex9_n hf).elim
    | some z => exact ⟨z, rfl⟩
  replace hf := ex9_s hf
  have hFc := w9_free hD hS hA
  refine va_callv (pc := 1) (va_runV (As := []) (rest := []) ⟨hx, hb, hml, hown, hts⟩ (t_V_needPower l dC dI ad ca dom H.size σ hm0 hN hC y2 σ3 hy2) (cwV 0 hts (gV wd_499 wd_500 wd_501 wd_254 wd_498) rfl rfl rfl (by decide +kernel) ⟨Nat.le_of_ble_eq_true rfl, Nat.le_of_ble_eq_true rfl⟩) ⟨hW_blind, va_recv (q := (RV, TV, 9)) (q0 := q1) (ci := 0) hK.1 hP rfl eq1, hW_pre hP hK hD hG⟩ rfl rfl hl.1 rfl (lv_room (Nat.le_of_ble_eq_true rfl)) dV_resize_1 ⟨Nat.le_of_ble_eq_true rfl, Nat.le_of_ble_eq_true rfl⟩) hS (fun q _ h => hFc q h) hFc (fun u t H1 locs ht hvm hr9 hB hz1 hk1 hS => ?_)
  obtain ⟨hP, hD, hC⟩ := hB
  rw [ht] at hP
  replace hD := hD.weaken (fun _ _ _ h => hFc _ h)
  generalize H1 = H at hP hS ⊢
  refine lv_aload_n (pc := 4) hx hb dV_resize_4 rfl (lv_at hl 0 rfl) ?_
  refine lv_iload_n (pc := 5) hx hb dV_resize_5 rfl (lv_at hl 1 rfl) ?_
  obtain ⟨q4, hq4, eq4⟩ := at_0 (ad := ad) (ca := ca) (σ := σ3) hm0
  obtain ⟨y5, hy5, hf⟩ := ob hf
  refine va_cse (pc := 6) (W.runV (As := [.int a1]) (rest := []) ⟨hx, hb, hml, hown, hts⟩ (t_V_drawingAt l dC dI ad ca dom σ3 a1 hm0 hN hC y5 hy5) (cwV 1 hts (gV wd_317 wd_318 wd_319 wd_254 wd_316) rfl rfl rfl (by decide +kernel) ⟨Nat.le_of_ble_eq_true rfl, Nat.le_of_ble_eq_true rfl⟩) ⟨hR_blind, va_recv (q := (RV, TV, 9)) (q0 := q4) (ci := 0) hK.1 hP rfl eq4, hR_pre hP hK hG⟩ rfl rfl hl.1 rfl (lv_room (Nat.le_of_ble_eq_true rfl)) dV_resize_6 ⟨Nat.le_of_ble_eq_true rfl, Nat.le_of_ble_eq_true rfl⟩) (fun r9 hr9 => ?_)
  obtain ⟨hr9, hmy6⟩ := hr9
  refine W.eq (g2 := F0 m 9 ls [va_re (ad 6) y5]) (by rw [hr9]) ?_
  rcases hE7 : y5 with _ | j8
  · replace hf := hq_n hE7 hf
    refine W.eq (g2 := F0 m 9 ls [.null]) rfl ?_
    refine lv_astoreN (pc := 9) hx hb dV_resize_9 hl (by decide) rfl (fun ls hl => ?_)
    have hl : lv_has ls 6 [(4, .null), (0, .ref (ad 0 0)), (1, .int a1), (2, .int a2), (3, .int a3)] := hl
    refine lv_aload_n (pc := 11) hx hb dV_resize_11 rfl (lv_at hl 1 rfl) ?_
    refine lv_aloadN (pc := 12) hx hb dV_resize_12 (lv_at hl 0 rfl) ?_
    refine lv_iload_n (pc := 14) hx hb dV_resize_14 rfl (lv_at hl 3 rfl) ?_
    obtain ⟨q9, hq9, eq9⟩ := at_0 (ad := ad) (ca := ca) (σ := σ3) hm0
    obtain ⟨y10, hy10, hf⟩ := ob hf
    refine vp_callSi (pc := 15) (W.runV (As := [.null, .int a2]) (rest := []) ⟨hx, hb, hml, hown, hts⟩ (t_V_copyRefusal l dC dI ad ca dom σ3 none a2 hm0 (fun _ z => nomatch z) hN hC y10 hy10) (cwV 2 hts (gV wd_511 wd_512 wd_513 wd_254 wd_510) rfl rfl rfl (by decide +kernel) ⟨Nat.le_of_ble_eq_true rfl, Nat.le_of_ble_eq_true rfl⟩) ⟨hR_blind, va_recv (q := (RV, TV, 9)) (q0 := q9) (ci := 0) hK.1 hP rfl eq9, hR_pre hP hK hG⟩ rfl rfl hl.1 rfl (lv_room (Nat.le_of_ble_eq_true rfl)) dV_resize_15 ⟨Nat.le_of_ble_eq_true rfl, Nat.le_of_ble_eq_true rfl⟩) (fun r9 hr9 => ?_)
    refine W.eq (g2 := F0 m 18 ls [.int y10]) (by rw [hr9]) ?_
    refine lv_istore (pc := 18) hx hb dV_resize_18 hl (by decide) rfl (fun ls hl => ?_)
    have hl : lv_has ls 6 [(5, .int y10), (4, .null), (0, .ref (ad 0 0)), (1, .int a1), (2, .int a2), (3, .int a3)] := hl
    refine lv_iload (pc := 20) hx hb dV_resize_20 (lv_at hl 0 rfl) ?_
    obtain ⟨x11, hx11, hf⟩ := lt_9 hf
    refine jnF (τ := (Int32) × (Heap) × (List Loc) × (Array Slot)) (fun pc st z => W p l e _ s m _ below meth c z.2.1 z.2.2.1 0 0 _ (F0 m pc z.2.2.2 st)) (pc0 := 22) (st0 := [.int y10]) (z0 := (0, H, _, ls)) 39 (fun z => []) (fun z => va_P (dC, dI) kCl (w9 ad ca dom (σ3)) z.2.1 ∧ va_D A (w9 ad ca dom (σ3)) ∧ va_S A s.heap z.2.1 z.2.2.1 ∧ lv_has z.2.2.2 6 [(5, .int z.1), (4, .null), (0, .ref (ad 0 0)), (1, .int a1), (2, .int a2), (3, .int a3)]) (fun z => x11 z.1) (some ρ, σ') ?_ ?_
    · intro hJx11
      dsimp only at hJx11 ⊢
      refine lv_if_ne (pc := 22) (tgt := 39) hx hb dV_resize_22 rfl (fun h13 => ?_) (fun h13 => ?_)
      · replace hf := ite_f h13 hf
        have hl := lv_sub hl (l' := [(5, .int y10), (4, .null), (0, .ref (ad 0 0)), (1, .int a1), (2, .int a2), (3, .int a3)]) [0, 1, 2, 3, 4, 5] rfl
        exact hJx11 (y10, H, _, ls) ⟨hP, hD, hS, hl⟩ hf
      · replace hf := ite_t h13 hf
        refine lv_iload_n (pc := 25) hx hb dV_resize_25 rfl (lv_at hl 5 rfl) ?_
        refine lv_if_lt (pc := 26) (tgt := 35) hx hb dV_resize_26 rfl (fun h14 => ?_) (fun h14 => ?_)
        · replace hf := ite_t h14 hf
          refine lv_bipush (pc := 35) (v := 7) hx hb dV_resize_35 (by decide) ?_
          refine lv_istore (pc := 37) hx hb dV_resize_37 hl (by decide) rfl (fun ls hl => ?_)
          have hl : lv_has ls 6 [(5, .int 7), (4, .null), (0, .ref (ad 0 0)), (1, .int a1), (2, .int a2), (3, .int a3)] := hl
          have hl := lv_sub hl (l' := [(5, .int 7), (4, .null), (0, .ref (ad 0 0)), (1, .int a1), (2, .int a2), (3, .int a3)]) [0, 1, 2, 3, 4, 5] rfl
          exact hJx11 (7, H, _, ls) ⟨hP, hD, hS, hl⟩ hf
        · replace hf := ite_f h14 hf
          refine lv_iload_n (pc := 29) hx hb dV_resize_29 rfl (lv_at hl 5 rfl) ?_
          refine lv_bipush (pc := 30) (v := 64) hx hb dV_resize_30 (by decide) ?_
          refine lv_icmp_le (pc := 32) (tgt := 39) hx hb dV_resize_32 rfl (fun h15 => ?_) (fun h15 => ?_)
          · replace hf := ite_t h15 hf
            have hl := lv_sub hl (l' := [(5, .int y10), (4, .null), (0, .ref (ad 0 0)), (1, .int a1), (2, .int a2), (3, .int a3)]) [0, 1, 2, 3, 4, 5] rfl
            exact hJx11 (y10, H, _, ls) ⟨hP, hD, hS, hl⟩ hf
          · replace hf := ite_f h15 hf
            refine lv_bipush (pc := 35) (v := 7) hx hb dV_resize_35 (by decide) ?_
            refine lv_istore (pc := 37) hx hb dV_resize_37 hl (by decide) rfl (fun ls hl => ?_)
            have hl : lv_has ls 6 [(5, .int 7), (4, .null), (0, .ref (ad 0 0)), (1, .int a1), (2, .int a2), (3, .int a3)] := hl
            have hl := lv_sub hl (l' := [(5, .int 7), (4, .null), (0, .ref (ad 0 0)), (1, .int a1), (2, .int a2), (3, .int a3)]) [0, 1, 2, 3, 4, 5] rfl
            exact hJx11 (7, H, _, ls) ⟨hP, hD, hS, hl⟩ hf
    · rintro ⟨q12, H, locs, ls⟩ ⟨hP, hD, hS, hl⟩ hf
      dsimp only at hP hD hS hl hf ⊢
      rw [hx11] at hf
      have hl : lv_has ls 6 [(5, .int q12), (4, .null), (0, .ref (ad 0 0)), (1, .int a1), (2, .int a2), (3, .int a3)] := hl
      refine lv_aload_n (pc := 39) hx hb dV_resize_39 rfl (lv_at hl 2 rfl) ?_
      refine lv_iload (pc := 40) hx hb dV_resize_40 (lv_at hl 0 rfl) ?_
      obtain ⟨q16, hq16, eq16⟩ := at_0 (ad := ad) (ca := ca) (σ := σ3) hm0
      obtain ⟨⟨y17, σ18⟩, hy17, hf⟩ := ob hf
      have hFc := w9_free hD hS hA
      refine va_calli (pc := 42) (va_runV (As := [.int q12]) (rest := []) ⟨hx, hb, hml, hown, hts⟩ (t_V_allowed l dC dI ad ca dom H.size σ3 q12 hm0 hN hC y17 σ18 hy17) (cwV 1 hts (gV wd_483 wd_484 wd_485 wd_254 wd_482) rfl rfl rfl (by decide +kernel) ⟨Nat.le_of_ble_eq_true rfl, Nat.le_of_ble_eq_true rfl⟩) ⟨hW_blind, va_recv (q := (RV, TV, 9)) (q0 := q16) (ci := 0) hK.1 hP rfl eq16, hW_pre hP hK hD hG⟩ rfl rfl hl.1 rfl (lv_room (Nat.le_of_ble_eq_true rfl)) dV_resize_42 ⟨Nat.le_of_ble_eq_true rfl, Nat.le_of_ble_eq_true rfl⟩) hS (fun q _ h => hFc q h) hFc (fun r9 u t H1 locs ht hvm hr9 hB hz1 hk1 hS => ?_)
      obtain ⟨hP, hD, hC⟩ := hB
      rw [ht] at hP
      replace hD := hD.weaken (fun _ _ _ h => hFc _ h)
      generalize H1 = H at hP hS ⊢
      refine W.eq (g2 := F0 m 45 ls [.int y17]) (by rw [hr9]) ?_
      refine lv_if_ne (pc := 45) (tgt := 50) hx hb dV_resize_45 rfl (fun h19 => ?_) (fun h19 => ?_)
      · replace hf := ite_f h19 hf
        refine lv_aloadN (pc := 50) hx hb dV_resize_50 (lv_at hl 1 rfl) ?_
        exact nomatch hf
      · replace hf := ite_t h19 hf
        refine lv_iconst (pc := 48) (v := 0) hx hb dV_resize_48 (by decide) ?_
        obtain ⟨h8, h9⟩ := Prod.mk.inj (Option.some.inj hf)
        subst h9
        have h8 := Option.some.inj h8
        exact W.zret (pc := 49) hx hb hr (rfl) (fun t ht hW => ⟨⟨_, (), rfl, h8, by rw [ht]; exact hP, hD, hC⟩, hS.F ht⟩) hS.2.2 dV_resize_49
  · replace hf := hq_s hE7 hf
    have hm20 : (6, j8) ∈ dom := (hmy6 _ hE7)
    refine W.eq (g2 := F0 m 9 ls [.ref (ad 6 j8)]) rfl ?_
    refine lv_astore (pc := 9) hx hb dV_resize_9 hl (by decide) rfl (fun ls hl => ?_)
    have hl : lv_has ls 6 [(4, .ref (ad 6 j8)), (0, .ref (ad 0 0)), (1, .int a1), (2, .int a2), (3, .int a3)] := hl
    refine lv_aload_n (pc := 11) hx hb dV_resize_11 rfl (lv_at hl 1 rfl) ?_
    refine lv_aload (pc := 12) hx hb dV_resize_12 (lv_at hl 0 rfl) ?_
    refine lv_iload_n (pc := 14) hx hb dV_resize_14 rfl (lv_at hl 3 rfl) ?_
    obtain ⟨q21, hq21, eq21⟩ := at_0 (ad := ad) (ca := ca) (σ := σ3) hm0
    obtain ⟨y22, hy22, hf⟩ := ob hf
    refine vp_callSi (pc := 15) (W.runV (As := [.ref (ad 6 j8), .int a2]) (rest := []) ⟨hx, hb, hml, hown, hts⟩ (t_V_copyRefusal l dC dI ad ca dom σ3 (some j8) a2 hm0 (fun _ z => Option.some.inj z ▸ hm20) hN hC y22 hy22) (cwV 2 hts (gV wd_511 wd_512 wd_513 wd_254 wd_510) rfl rfl rfl (by decide +kernel) ⟨Nat.le_of_ble_eq_true rfl, Nat.le_of_ble_eq_true rfl⟩) ⟨hR_blind, va_recv (q := (RV, TV, 9)) (q0 := q21) (ci := 0) hK.1 hP rfl eq21, hR_pre hP hK hG⟩ rfl rfl hl.1 rfl (lv_room (Nat.le_of_ble_eq_true rfl)) dV_resize_15 ⟨Nat.le_of_ble_eq_true rfl, Nat.le_of_ble_eq_true rfl⟩) (fun r9 hr9 => ?_)
    refine W.eq (g2 := F0 m 18 ls [.int y22]) (by rw [hr9]) ?_
    refine lv_istore (pc := 18) hx hb dV_resize_18 hl (by decide) rfl (fun ls hl => ?_)
    have hl : lv_has ls 6 [(5, .int y22), (4, .ref (ad 6 j8)), (0, .ref (ad 0 0)), (1, .int a1), (2, .int a2), (3, .int a3)] := hl
    refine lv_iload (pc := 20) hx hb dV_resize_20 (lv_at hl 0 rfl) ?_
    obtain ⟨x23, hx23, hf⟩ := lt_9 hf
    refine jnF (τ := (Int32) × (Heap) × (List Loc) × (Array Slot)) (fun pc st z => W p l e _ s m _ below meth c z.2.1 z.2.2.1 0 0 _ (F0 m pc z.2.2.2 st)) (pc0 := 22) (st0 := [.int y22]) (z0 := (0, H, _, ls)) 39 (fun z => []) (fun z => va_P (dC, dI) kCl (w9 ad ca dom (σ3)) z.2.1 ∧ va_D A (w9 ad ca dom (σ3)) ∧ va_S A s.heap z.2.1 z.2.2.1 ∧ lv_has z.2.2.2 6 [(5, .int z.1), (4, .ref (ad 6 j8)), (0, .ref (ad 0 0)), (1, .int a1), (2, .int a2), (3, .int a3)]) (fun z => x23 z.1) (some ρ, σ') ?_ ?_
    · intro hJx23
      dsimp only at hJx23 ⊢
      refine lv_if_ne (pc := 22) (tgt := 39) hx hb dV_resize_22 rfl (fun h25 => ?_) (fun h25 => ?_)
      · replace hf := ite_f h25 hf
        have hl := lv_sub hl (l' := [(5, .int y22), (4, .ref (ad 6 j8)), (0, .ref (ad 0 0)), (1, .int a1), (2, .int a2), (3, .int a3)]) [0, 1, 2, 3, 4, 5] rfl
        exact hJx23 (y22, H, _, ls) ⟨hP, hD, hS, hl⟩ hf
      · replace hf := ite_t h25 hf
        refine lv_iload_n (pc := 25) hx hb dV_resize_25 rfl (lv_at hl 5 rfl) ?_
        refine lv_if_lt (pc := 26) (tgt := 35) hx hb dV_resize_26 rfl (fun h26 => ?_) (fun h26 => ?_)
        · replace hf := ite_t h26 hf
          refine lv_bipush (pc := 35) (v := 7) hx hb dV_resize_35 (by decide) ?_
          refine lv_istore (pc := 37) hx hb dV_resize_37 hl (by decide) rfl (fun ls hl => ?_)
          have hl : lv_has ls 6 [(5, .int 7), (4, .ref (ad 6 j8)), (0, .ref (ad 0 0)), (1, .int a1), (2, .int a2), (3, .int a3)] := hl
          have hl := lv_sub hl (l' := [(5, .int 7), (4, .ref (ad 6 j8)), (0, .ref (ad 0 0)), (1, .int a1), (2, .int a2), (3, .int a3)]) [0, 1, 2, 3, 4, 5] rfl
          exact hJx23 (7, H, _, ls) ⟨hP, hD, hS, hl⟩ hf
        · replace hf := ite_f h26 hf
          refine lv_iload_n (pc := 29) hx hb dV_resize_29 rfl (lv_at hl 5 rfl) ?_
          refine lv_bipush (pc := 30) (v := 64) hx hb dV_resize_30 (by decide) ?_
          refine lv_icmp_le (pc := 32) (tgt := 39) hx hb dV_resize_32 rfl (fun h27 => ?_) (fun h27 => ?_)
          · replace hf := ite_t h27 hf
            have hl := lv_sub hl (l' := [(5, .int y22), (4, .ref (ad 6 j8)), (0, .ref (ad 0 0)), (1, .int a1), (2, .int a2), (3, .int a3)]) [0, 1, 2, 3, 4, 5] rfl
            exact hJx23 (y22, H, _, ls) ⟨hP, hD, hS, hl⟩ hf
          · replace hf := ite_f h27 hf
            refine lv_bipush (pc := 35) (v := 7) hx hb dV_resize_35 (by decide) ?_
            refine lv_istore (pc := 37) hx hb dV_resize_37 hl (by decide) rfl (fun ls hl => ?_)
            have hl : lv_has ls 6 [(5, .int 7), (4, .ref (ad 6 j8)), (0, .ref (ad 0 0)), (1, .int a1), (2, .int a2), (3, .int a3)] := hl
            have hl := lv_sub hl (l' := [(5, .int 7), (4, .ref (ad 6 j8)), (0, .ref (ad 0 0)), (1, .int a1), (2, .int a2), (3, .int a3)]) [0, 1, 2, 3, 4, 5] rfl
            exact hJx23 (7, H, _, ls) ⟨hP, hD, hS, hl⟩ hf
    · rintro ⟨q24, H, locs, ls⟩ ⟨hP, hD, hS, hl⟩ hf
      dsimp only at hP hD hS hl hf ⊢
      rw [hx23] at hf
      have hl : lv_has ls 6 [(5, .int q24), (4, .ref (ad 6 j8)), (0, .ref (ad 0 0)), (1, .int a1), (2, .int a2), (3, .int a3)] := hl
      refine lv_aload_n (pc := 39) hx hb dV_resize_39 rfl (lv_at hl 2 rfl) ?_
      refine lv_iload (pc := 40) hx hb dV_resize_40 (lv_at hl 0 rfl) ?_
      obtain ⟨q28, hq28, eq28⟩ := at_0 (ad := ad) (ca := ca) (σ := σ3) hm0
      obtain ⟨⟨y29, σ30⟩, hy29, hf⟩ := ob hf
      have hFc := w9_free hD hS hA
      refine va_calli (pc := 42) (va_runV (As := [.int q24]) (rest := []) ⟨hx, hb, hml, hown, hts⟩ (t_V_allowed l dC dI ad ca dom H.size σ3 q24 hm0 hN hC y29 σ30 hy29) (cwV 1 hts (gV wd_483 wd_484 wd_485 wd_254 wd_482) rfl rfl rfl (by decide +kernel) ⟨Nat.le_of_ble_eq_true rfl, Nat.le_of_ble_eq_true rfl⟩) ⟨hW_blind, va_recv (q := (RV, TV, 9)) (q0 := q28) (ci := 0) hK.1 hP rfl eq28, hW_pre hP hK hD hG⟩ rfl rfl hl.1 rfl (lv_room (Nat.le_of_ble_eq_true rfl)) dV_resize_42 ⟨Nat.le_of_ble_eq_true rfl, Nat.le_of_ble_eq_true rfl⟩) hS (fun q _ h => hFc q h) hFc (fun r9 u t H1 locs ht hvm hr9 hB hz1 hk1 hS => ?_)
      obtain ⟨hP, hD, hC⟩ := hB
      rw [ht] at hP
      replace hD := hD.weaken (fun _ _ _ h => hFc _ h)
      generalize H1 = H at hP hS ⊢
      refine W.eq (g2 := F0 m 45 ls [.int y29]) (by rw [hr9]) ?_
      refine lv_if_ne (pc := 45) (tgt := 50) hx hb dV_resize_45 rfl (fun h31 => ?_) (fun h31 => ?_)
      · replace hf := ite_f h31 hf
        refine lv_aload (pc := 50) hx hb dV_resize_50 (lv_at hl 1 rfl) ?_
        obtain ⟨q32, hq32, eq32⟩ := at_6 (ad := ad) (ca := ca) (σ := σ30) hm20
        refine va_get (D := (dC, dI)) (cl := kCl) (C := RD) (T := TD) (N := 5) (pc := 52) hx hb hts inD hown hK.1 hP q32 eq32 rfl 3 (by decide) (hts _ wd_368) (fun _ h9 => h9) rfl dV_resize_52 ?_
        refine lv_iload_n (pc := 55) hx hb dV_resize_55 rfl (lv_at hl 5 rfl) ?_
        obtain ⟨q33, hq33, eq33⟩ := at_5 (ad := ad) (ca := ca) (σ := σ30) (cm_6_3 hC hm20)
        obtain ⟨⟨y34, σ35⟩, hy34, hf⟩ := ob hf
        have hFc := w9_free hD hS hA
        refine va_callv (pc := 56) (va_runV (As := [.int a3]) (rest := []) ⟨hx, hb, hml, hown, hts⟩ (t_C_setBytes l dC dI ad ca dom H.size n σ30 (3 * j8) a3 (cm_6_3 hC hm20) hN hC y34 σ35 hy34) (cwV 1 hts (gV wd_524 wd_525 wd_526 wd_228 wd_523) rfl rfl rfl (by decide +kernel) ⟨Nat.le_of_ble_eq_true rfl, Nat.le_of_ble_eq_true rfl⟩) ⟨hW_blind, va_recv (q := (RC, TC, 5)) (q0 := q33) (ci := 5) hK.1 hP rfl eq33, hW_pre hP hK hD hG⟩ rfl rfl hl.1 rfl (lv_room (Nat.le_of_ble_eq_true rfl)) dV_resize_56 ⟨Nat.le_of_ble_eq_true rfl, Nat.le_of_ble_eq_true rfl⟩) hS (fun q _ h => hFc q h) hFc (fun u t H1 locs ht hvm hr9 hB hz1 hk1 hS => ?_)
        obtain ⟨hP, hD, hC⟩ := hB
        rw [ht] at hP
        replace hD := hD.weaken (fun _ _ _ h => hFc _ h)
        generalize H1 = H at hP hS ⊢
        refine lv_iconst (pc := 59) (v := 1) hx hb dV_resize_59 (by decide) ?_
        obtain ⟨h8, h9⟩ := Prod.mk.inj (Option.some.inj hf)
        subst h9
        have h8 := Option.some.inj h8
        exact W.zret (pc := 60) hx hb hr (rfl) (fun t ht hW => ⟨⟨_, (), rfl, h8, by rw [ht]; exact hP, hD, hC⟩, hS.F ht⟩) hS.2.2 dV_resize_60
      · replace hf := ite_t h31 hf
        refine lv_iconst (pc := 48) (v := 0) hx hb dV_resize_48 (by decide) ?_
        obtain ⟨h8, h9⟩ := Prod.mk.inj (Option.some.inj hf)
        subst h9
        have h8 := Option.some.inj h8
        exact W.zret (pc := 49) hx hb hr (rfl) (fun t ht hW => ⟨⟨_, (), rfl, h8, by rw [ht]; exact hP, hD, hC⟩, hS.F ht⟩) hS.2.2 dV_resize_49
def V_ref (σ : hT) (a1 : Int32) (a2 : Int32) (a3 : Int32) (a4 : Int32) (a5 : Int32) : Option ((Option Int32) × hT) := Option.bind (V_needPower σ) fun ⟨y2o, σ3⟩ => ex9 y2o σ3 fun y2 => Option.bind (V_drawingAt σ3 a1) fun y5 => hq y5 (Option.bind (V_copyRefusal σ3 none a2) fun y10 => lt9 (α := Option ((Option Int32) × hT)) (Option.bind (V_allowed σ3 y10) fun ⟨y14, σ15⟩ => if y14 = 0 then some (some 0, σ15) else none) fun x11 => if y10 = 0 then none else x11) fun j8 => Option.bind (V_copyRefusal σ3 (some j8) a2) fun y19 => lt9 (α := Int32 → Option ((Option Int32) × hT)) (fun (q21 : Int32) => Option.bind (V_allowed σ3 q21) fun ⟨y27, σ28⟩ => if y27 = 0 then some (some 0, σ28) else Option.bind (C_setReference σ28 (3 * j8) a3 a4 a5) fun ⟨y32, σ33⟩ => some (some 1, σ33)) fun x20 => if y19 = 0 then Option.bind (V_refRefusal σ3 (3 * j8) a3 a4 a5) fun y25 => x20 y25 else x20 y19
set_option maxHeartbeats 4000000 in
set_option maxRecDepth 100000 in
theorem t_V_ref (l : Launch) (dC : Nat → ClassId) (dI : Nat → Nat → Nat) (ad : Nat → Nat → Nat) (ca : Nat → Nat → ClassId) (dom : List (Nat × Nat)) (sz : Nat) (σ : hT) (a1 : Int32) (a2 : Int32) (a3 : Int32) (a4 : Int32) (a5 : Int32) (hm0 : (0, 0) ∈ dom) (hN : dom.Nodup) (hC : clo dom σ.2.2) (ρ : Int32) (σ' : hT) (hf : V_ref σ a1 a2 a3 a4 a5 = some (some ρ, σ')) : Met l yV_ref (.code yV_ref cV_ref 8 (some .boolean) :: aw) ({ frames := 3, cells := 0, slots := 0, locals := 64 }) (hW (dC, dI) sz ad ca dom σ [.ref (ad 0 0), .int a1, .int a2, .int a3, .int a4, .int a5]) (va_Qi (fun r (_ : Unit) => r = ρ) (fun _ t => hB (dC, dI) (va_A (w9 ad ca dom σ) sz) ad ca dom σ' t) (va_A (w9 ad ca dom σ) sz)) 0 0 (va_A (w9 ad ca dom σ) sz) := by
  refine Met.ofW (cc := cV_ref) (maxL := 8) (ret := (some .boolean)) (by decide) rfl ?_
  intro p e s m args below meth c s₁ B hml hv
  obtain ⟨rfl, hv⟩ := hv
  have hx := B.exec
  have hb := B.bytes
  have hr := B.returns
  have hts : ∀ w ∈ aw, w.before _ s = true := fun w h => atoms_spec (ws := (.code yV_ref cV_ref 8 (some .boolean) :: aw)) B.pre w (List.mem_cons_of_mem _ h)
  have hown : s.vm.findClass RV = some m.cls := findClass_of_methodNamed B.named
  have hlocks := B.notSynchronized
  obtain ⟨hsz, hP, hK, hD0, hG⟩ := hv
  subst hsz
  have hD := hD0.self (sz := s.heap.size)
  generalize hAe : va_A (w9 ad ca dom σ) s.heap.size = A at hD ⊢
  have hA : ∀ q : Nat, s.heap.size ≤ q → A q := fun q h => by rw [← hAe]; exact Or.inr h
  obtain ⟨H, hH⟩ : ∃ H, H = s.heap := ⟨_, rfl⟩
  have hS : va_S A s.heap H [] := by rw [hH]; exact va_S.rf
  rw [← hH] at hP ⊢
  unfold V_ref at hf
  have hl := lv_entry ([.ref (ad 0 0), .int a1, .int a2, .int a3, .int a4, .int a5]) (n := 8) (Nat.le_of_ble_eq_true rfl)
  rw [lg_entry_eq]
  generalize (lg_sl ([.ref (ad 0 0), .int a1, .int a2, .int a3, .int a4, .int a5]) ++ List.replicate (8 - (lg_sl ([.ref (ad 0 0), .int a1, .int a2, .int a3, .int a4, .int a5])).length) Slot.unset).toArray = ls at hl ⊢
  have hl : lv_has ls 8 [(0, .ref (ad 0 0)), (1, .int a1), (2, .int a2), (3, .int a3), (4, .int a4), (5, .int a5)] := hl
  refine lv_aload_n (pc := 0) hx hb dV_ref_0 rfl (lv_at hl 0 rfl) ?_
  obtain ⟨q1, hq1, eq1⟩ := at_0 (ad := ad) (ca := ca) (σ := σ) hm0
  obtain ⟨⟨y2o, σ3⟩, hy2, hf⟩ := ob hf
  obtain ⟨y2, rfl⟩ : ∃ z, y2o = some z := by
    cases y2o with
    | none => exact (ex9_n hf).elim
    | some z => exact ⟨z, rfl⟩
  replace hf := ex9_s hf
  have hFc := w9_free hD hS hA
  refine va_callv (pc := 1) (va_runV (As := []) (rest := []) ⟨hx, hb, hml, hown, hts⟩ (t_V_needPower l dC dI ad ca dom H.size σ hm0 hN hC y2 σ3 hy2) (cwV 0 hts (gV wd_499 wd_500 wd_501 wd_254 wd_498) rfl rfl rfl (by decide +kernel) ⟨Nat.le_of_ble_eq_true rfl, Nat.le_of_ble_eq_true rfl⟩) ⟨hW_blind, va_recv (q := (RV, TV, 9)) (q0 := q1) (ci := 0) hK.1 hP rfl eq1, hW_pre hP hK hD hG⟩ rfl rfl hl.1 rfl (lv_room (Nat.le_of_ble_eq_true rfl)) dV_ref_1 ⟨Nat.le_of_ble_eq_true rfl, Nat.le_of_ble_eq_true rfl⟩) hS (fun q _ h => hFc q h) hFc (fun u t H1 locs ht hvm hr9 hB hz1 hk1 hS => ?_)
  obtain ⟨hP, hD, hC⟩ := hB
  rw [ht] at hP
  replace hD := hD.weaken (fun _ _ _ h => hFc _ h)
  generalize H1 = H at hP hS ⊢
  refine lv_aload_n (pc := 4) hx hb dV_ref_4 rfl (lv_at hl 0 rfl) ?_
  refine lv_iload_n (pc := 5) hx hb dV_ref_5 rfl (lv_at hl 1 rfl) ?_
  obtain ⟨q4, hq4, eq4⟩ := at_0 (ad := ad) (ca := ca) (σ := σ3) hm0
  obtain ⟨y5, hy5, hf⟩ := ob hf
  refine va_cse (pc := 6) (W.runV (As := [.int a1]) (rest := []) ⟨hx, hb, hml, hown, hts⟩ (t_V_drawingAt l dC dI ad ca dom σ3 a1 hm0 hN hC y5 hy5) (cwV 1 hts (gV wd_317 wd_318 wd_319 wd_254 wd_316) rfl rfl rfl (by decide +kernel) ⟨Nat.le_of_ble_eq_true rfl, Nat.le_of_ble_eq_true rfl⟩) ⟨hR_blind, va_recv (q := (RV, TV, 9)) (q0 := q4) (ci := 0) hK.1 hP rfl eq4, hR_pre hP hK hG⟩ rfl rfl hl.1 rfl (lv_room (Nat.le_of_ble_eq_true rfl)) dV_ref_6 ⟨Nat.le_of_ble_eq_true rfl, Nat.le_of_ble_eq_true rfl⟩) (fun r9 hr9 => ?_)
  obtain ⟨hr9, hmy6⟩ := hr9
  refine W.eq (g2 := F0 m 9 ls [va_re (ad 6) y5]) (by rw [hr9]) ?_
  rcases hE7 : y5 with _ | j8
  · replace hf := hq_n hE7 hf
    refine W.eq (g2 := F0 m 9 ls [.null]) rfl ?_
    refine lv_astoreN (pc := 9) hx hb dV_ref_9 hl (by decide) rfl (fun ls hl => ?_)
    have hl : lv_has ls 8 [(6, .null), (0, .ref (ad 0 0)), (1, .int a1), (2, .int a2), (3, .int a3), (4, .int a4), (5, .int a5)] := hl
    refine lv_aload_n (pc := 11) hx hb dV_ref_11 rfl (lv_at hl 1 rfl) ?_
    refine lv_aloadN (pc := 12) hx hb dV_ref_12 (lv_at hl 0 rfl) ?_
    refine lv_iload_n (pc := 14) hx hb dV_ref_14 rfl (lv_at hl 3 rfl) ?_
    obtain ⟨q9, hq9, eq9⟩ := at_0 (ad := ad) (ca := ca) (σ := σ3) hm0
    obtain ⟨y10, hy10, hf⟩ := ob hf
    refine vp_callSi (pc := 15) (W.runV (As := [.null, .int a2]) (rest := []) ⟨hx, hb, hml, hown, hts⟩ (t_V_copyRefusal l dC dI ad ca dom σ3 none a2 hm0 (fun _ z => nomatch z) hN hC y10 hy10) (cwV 2 hts (gV wd_511 wd_512 wd_513 wd_254 wd_510) rfl rfl rfl (by decide +kernel) ⟨Nat.le_of_ble_eq_true rfl, Nat.le_of_ble_eq_true rfl⟩) ⟨hR_blind, va_recv (q := (RV, TV, 9)) (q0 := q9) (ci := 0) hK.1 hP rfl eq9, hR_pre hP hK hG⟩ rfl rfl hl.1 rfl (lv_room (Nat.le_of_ble_eq_true rfl)) dV_ref_15 ⟨Nat.le_of_ble_eq_true rfl, Nat.le_of_ble_eq_true rfl⟩) (fun r9 hr9 => ?_)
    refine W.eq (g2 := F0 m 18 ls [.int y10]) (by rw [hr9]) ?_
    refine lv_istore (pc := 18) hx hb dV_ref_18 hl (by decide) rfl (fun ls hl => ?_)
    have hl : lv_has ls 8 [(7, .int y10), (6, .null), (0, .ref (ad 0 0)), (1, .int a1), (2, .int a2), (3, .int a3), (4, .int a4), (5, .int a5)] := hl
    refine lv_iload (pc := 20) hx hb dV_ref_20 (lv_at hl 0 rfl) ?_
    obtain ⟨x11, hx11, hf⟩ := lt_9 hf
    refine jnF (τ := (Heap) × (List Loc) × (Array Slot)) (fun pc st z => W p l e _ s m _ below meth c z.1 z.2.1 0 0 _ (F0 m pc z.2.2 st)) (pc0 := 22) (st0 := [.int y10]) (z0 := (H, _, ls)) 41 (fun z => []) (fun z => va_P (dC, dI) kCl (w9 ad ca dom (σ3)) z.1 ∧ va_D A (w9 ad ca dom (σ3)) ∧ va_S A s.heap z.1 z.2.1 ∧ lv_has z.2.2 8 [(7, .int y10), (6, .null), (0, .ref (ad 0 0)), (1, .int a1), (2, .int a2), (3, .int a3), (4, .int a4), (5, .int a5)]) (fun z => x11) (some ρ, σ') ?_ ?_
    · intro hJx11
      dsimp only at hJx11 ⊢
      refine lv_if_ne (pc := 22) (tgt := 41) hx hb dV_ref_22 rfl (fun h12 => ?_) (fun h12 => ?_)
      · replace hf := ite_f h12 hf
        have hl := lv_sub hl (l' := [(7, .int y10), (6, .null), (0, .ref (ad 0 0)), (1, .int a1), (2, .int a2), (3, .int a3), (4, .int a4), (5, .int a5)]) [0, 1, 2, 3, 4, 5, 6, 7] rfl
        exact hJx11 (H, _, ls) ⟨hP, hD, hS, hl⟩ hf
      · replace hf := ite_t h12 hf
        refine lv_aload_n (pc := 25) hx hb dV_ref_25 rfl (lv_at hl 2 rfl) ?_
        refine lv_aloadN (pc := 26) hx hb dV_ref_26 (lv_at hl 1 rfl) ?_
        exact nomatch hf
    · rintro ⟨H, locs, ls⟩ ⟨hP, hD, hS, hl⟩ hf
      dsimp only at hP hD hS hl hf ⊢
      rw [hx11] at hf
      have hl : lv_has ls 8 [(7, .int y10), (6, .null), (0, .ref (ad 0 0)), (1, .int a1), (2, .int a2), (3, .int a3), (4, .int a4), (5, .int a5)] := hl
      refine lv_aload_n (pc := 41) hx hb dV_ref_41 rfl (lv_at hl 2 rfl) ?_
      refine lv_iload (pc := 42) hx hb dV_ref_42 (lv_at hl 0 rfl) ?_
      obtain ⟨q13, hq13, eq13⟩ := at_0 (ad := ad) (ca := ca) (σ := σ3) hm0
      obtain ⟨⟨y14, σ15⟩, hy14, hf⟩ := ob hf
      have hFc := w9_free hD hS hA
      refine va_calli (pc := 44) (va_runV (As := [.int y10]) (rest := []) ⟨hx, hb, hml, hown, hts⟩ (t_V_allowed l dC dI ad ca dom H.size σ3 y10 hm0 hN hC y14 σ15 hy14) (cwV 1 hts (gV wd_483 wd_484 wd_485 wd_254 wd_482) rfl rfl rfl (by decide +kernel) ⟨Nat.le_of_ble_eq_true rfl, Nat.le_of_ble_eq_true rfl⟩) ⟨hW_blind, va_recv (q := (RV, TV, 9)) (q0 := q13) (ci := 0) hK.1 hP rfl eq13, hW_pre hP hK hD hG⟩ rfl rfl hl.1 rfl (lv_room (Nat.le_of_ble_eq_true rfl)) dV_ref_44 ⟨Nat.le_of_ble_eq_true rfl, Nat.le_of_ble_eq_true rfl⟩) hS (fun q _ h => hFc q h) hFc (fun r9 u t H1 locs ht hvm hr9 hB hz1 hk1 hS => ?_)
      obtain ⟨hP, hD, hC⟩ := hB
      rw [ht] at hP
      replace hD := hD.weaken (fun _ _ _ h => hFc _ h)
      generalize H1 = H at hP hS ⊢
      refine W.eq (g2 := F0 m 47 ls [.int y14]) (by rw [hr9]) ?_
      refine lv_if_ne (pc := 47) (tgt := 52) hx hb dV_ref_47 rfl (fun h16 => ?_) (fun h16 => ?_)
      · replace hf := ite_f h16 hf
        refine lv_aloadN (pc := 52) hx hb dV_ref_52 (lv_at hl 1 rfl) ?_
        exact nomatch hf
      · replace hf := ite_t h16 hf
        refine lv_iconst (pc := 50) (v := 0) hx hb dV_ref_50 (by decide) ?_
        obtain ⟨h8, h9⟩ := Prod.mk.inj (Option.some.inj hf)
        subst h9
        have h8 := Option.some.inj h8
        exact W.zret (pc := 51) hx hb hr (rfl) (fun t ht hW => ⟨⟨_, (), rfl, h8, by rw [ht]; exact hP, hD, hC⟩, hS.F ht⟩) hS.2.2 dV_ref_51
  · replace hf := hq_s hE7 hf
    have hm17 : (6, j8) ∈ dom := (hmy6 _ hE7)
    refine W.eq (g2 := F0 m 9 ls [.ref (ad 6 j8)]) rfl ?_
    refine lv_astore (pc := 9) hx hb dV_ref_9 hl (by decide) rfl (fun ls hl => ?_)
    have hl : lv_has ls 8 [(6, .ref (ad 6 j8)), (0, .ref (ad 0 0)), (1, .int a1), (2, .int a2), (3, .int a3), (4, .int a4), (5, .int a5)] := hl
    refine lv_aload_n (pc := 11) hx hb dV_ref_11 rfl (lv_at hl 1 rfl) ?_
    refine lv_aload (pc := 12) hx hb dV_ref_12 (lv_at hl 0 rfl) ?_
    refine lv_iload_n (pc := 14) hx hb dV_ref_14 rfl (lv_at hl 3 rfl) ?_
    obtain ⟨q18, hq18, eq18⟩ := at_0 (ad := ad) (ca := ca) (σ := σ3) hm0
    obtain ⟨y19, hy19, hf⟩ := ob hf
    refine vp_callSi (pc := 15) (W.runV (As := [.ref (ad 6 j8), .int a2]) (rest := []) ⟨hx, hb, hml, hown, hts⟩ (t_V_copyRefusal l dC dI ad ca dom σ3 (some j8) a2 hm0 (fun _ z => Option.some.inj z ▸ hm17) hN hC y19 hy19) (cwV 2 hts (gV wd_511 wd_512 wd_513 wd_254 wd_510) rfl rfl rfl (by decide +kernel) ⟨Nat.le_of_ble_eq_true rfl, Nat.le_of_ble_eq_true rfl⟩) ⟨hR_blind, va_recv (q := (RV, TV, 9)) (q0 := q18) (ci := 0) hK.1 hP rfl eq18, hR_pre hP hK hG⟩ rfl rfl hl.1 rfl (lv_room (Nat.le_of_ble_eq_true rfl)) dV_ref_15 ⟨Nat.le_of_ble_eq_true rfl, Nat.le_of_ble_eq_true rfl⟩) (fun r9 hr9 => ?_)
    refine W.eq (g2 := F0 m 18 ls [.int y19]) (by rw [hr9]) ?_
    refine lv_istore (pc := 18) hx hb dV_ref_18 hl (by decide) rfl (fun ls hl => ?_)
    have hl : lv_has ls 8 [(7, .int y19), (6, .ref (ad 6 j8)), (0, .ref (ad 0 0)), (1, .int a1), (2, .int a2), (3, .int a3), (4, .int a4), (5, .int a5)] := hl
    refine lv_iload (pc := 20) hx hb dV_ref_20 (lv_at hl 0 rfl) ?_
    obtain ⟨x20, hx20, hf⟩ := lt_9 hf
    refine jnF (τ := (Int32) × (Heap) × (List Loc) × (Array Slot)) (fun pc st z => W p l e _ s m _ below meth c z.2.1 z.2.2.1 0 0 _ (F0 m pc z.2.2.2 st)) (pc0 := 22) (st0 := [.int y19]) (z0 := (0, H, _, ls)) 41 (fun z => []) (fun z => va_P (dC, dI) kCl (w9 ad ca dom (σ3)) z.2.1 ∧ va_D A (w9 ad ca dom (σ3)) ∧ va_S A s.heap z.2.1 z.2.2.1 ∧ lv_has z.2.2.2 8 [(7, .int z.1), (6, .ref (ad 6 j8)), (0, .ref (ad 0 0)), (1, .int a1), (2, .int a2), (3, .int a3), (4, .int a4), (5, .int a5)]) (fun z => x20 z.1) (some ρ, σ') ?_ ?_
    · intro hJx20
      dsimp only at hJx20 ⊢
      refine lv_if_ne (pc := 22) (tgt := 41) hx hb dV_ref_22 rfl (fun h22 => ?_) (fun h22 => ?_)
      · replace hf := ite_f h22 hf
        have hl := lv_sub hl (l' := [(7, .int y19), (6, .ref (ad 6 j8)), (0, .ref (ad 0 0)), (1, .int a1), (2, .int a2), (3, .int a3), (4, .int a4), (5, .int a5)]) [0, 1, 2, 3, 4, 5, 6, 7] rfl
        exact hJx20 (y19, H, _, ls) ⟨hP, hD, hS, hl⟩ hf
      · replace hf := ite_t h22 hf
        refine lv_aload_n (pc := 25) hx hb dV_ref_25 rfl (lv_at hl 2 rfl) ?_
        refine lv_aload (pc := 26) hx hb dV_ref_26 (lv_at hl 1 rfl) ?_
        obtain ⟨q23, hq23, eq23⟩ := at_6 (ad := ad) (ca := ca) (σ := σ3) hm17
        refine va_get (D := (dC, dI)) (cl := kCl) (C := RD) (T := TD) (N := 5) (pc := 28) hx hb hts inD hown hK.1 hP q23 eq23 rfl 3 (by decide) (hts _ wd_368) (fun _ h9 => h9) rfl dV_ref_28 ?_
        refine lv_iload_n (pc := 31) hx hb dV_ref_31 rfl (lv_at hl 5 rfl) ?_
        refine lv_iload (pc := 32) hx hb dV_ref_32 (lv_at hl 6 rfl) ?_
        refine lv_iload (pc := 34) hx hb dV_ref_34 (lv_at hl 7 rfl) ?_
        obtain ⟨q24, hq24, eq24⟩ := at_0 (ad := ad) (ca := ca) (σ := σ3) hm0
        obtain ⟨y25, hy25, hf⟩ := ob hf
        refine vp_callSi (pc := 36) (W.runV (As := [.ref (ad 5 (3 * j8)), .int a3, .int a4, .int a5]) (rest := []) ⟨hx, hb, hml, hown, hts⟩ (t_V_refRefusal l dC dI ad ca dom σ3 (3 * j8) a3 a4 a5 hm0 (cm_6_3 hC hm17) hN hC y25 hy25) (cwV 4 hts (gV wd_528 wd_529 wd_530 wd_254 wd_527) rfl rfl rfl (by decide +kernel) ⟨Nat.le_of_ble_eq_true rfl, Nat.le_of_ble_eq_true rfl⟩) ⟨hR_blind, va_recv (q := (RV, TV, 9)) (q0 := q24) (ci := 0) hK.1 hP rfl eq24, hR_pre hP hK hG⟩ rfl rfl hl.1 rfl (lv_room (Nat.le_of_ble_eq_true rfl)) dV_ref_36 ⟨Nat.le_of_ble_eq_true rfl, Nat.le_of_ble_eq_true rfl⟩) (fun r9 hr9 => ?_)
        refine W.eq (g2 := F0 m 39 ls [.int y25]) (by rw [hr9]) ?_
        refine lv_istore (pc := 39) hx hb dV_ref_39 hl (by decide) rfl (fun ls hl => ?_)
        have hl : lv_has ls 8 [(7, .int y25), (6, .ref (ad 6 j8)), (0, .ref (ad 0 0)), (1, .int a1), (2, .int a2), (3, .int a3), (4, .int a4), (5, .int a5)] := hl
        have hl := lv_sub hl (l' := [(7, .int y25), (6, .ref (ad 6 j8)), (0, .ref (ad 0 0)), (1, .int a1), (2, .int a2), (3, .int a3), (4, .int a4), (5, .int a5)]) [0, 1, 2, 3, 4, 5, 6, 7] rfl
        exact hJx20 (y25, H, _, ls) ⟨hP, hD, hS, hl⟩ hf
    · rintro ⟨q21, H, locs, ls⟩ ⟨hP, hD, hS, hl⟩ hf
      dsimp only at hP hD hS hl hf ⊢
      rw [hx20] at hf
      have hl : lv_has ls 8 [(7, .int q21), (6, .ref (ad 6 j8)), (0, .ref (ad 0 0)), (1, .int a1), (2, .int a2), (3, .int a3), (4, .int a4), (5, .int a5)] := hl
      refine lv_aload_n (pc := 41) hx hb dV_ref_41 rfl (lv_at hl 2 rfl) ?_
      refine lv_iload (pc := 42) hx hb dV_ref_42 (lv_at hl 0 rfl) ?_
      obtain ⟨q26, hq26, eq26⟩ := at_0 (ad := ad) (ca := ca) (σ := σ3) hm0
      obtain ⟨⟨y27, σ28⟩, hy27, hf⟩ := ob hf
      have hFc := w9_free hD hS hA
      refine va_calli (pc := 44) (va_runV (As := [.int q21]) (rest := []) ⟨hx, hb, hml, hown, hts⟩ (t_V_allowed l dC dI ad ca dom H.size σ3 q21 hm0 hN hC y27 σ28 hy27) (cwV 1 hts (gV wd_483 wd_484 wd_485 wd_254 wd_482) rfl rfl rfl (by decide +kernel) ⟨Nat.le_of_ble_eq_true rfl, Nat.le_of_ble_eq_true rfl⟩) ⟨hW_blind, va_recv (q := (RV, TV, 9)) (q0 := q26) (ci := 0) hK.1 hP rfl eq26, hW_pre hP hK hD hG⟩ rfl rfl hl.1 rfl (lv_room (Nat.le_of_ble_eq_true rfl)) dV_ref_44 ⟨Nat.le_of_ble_eq_true rfl, Nat.le_of_ble_eq_true rfl⟩) hS (fun q _ h => hFc q h) hFc (fun r9 u t H1 locs ht hvm hr9 hB hz1 hk1 hS => ?_)
      obtain ⟨hP, hD, hC⟩ := hB
      rw [ht] at hP
      replace hD := hD.weaken (fun _ _ _ h => hFc _ h)
      generalize H1 = H at hP hS ⊢
      refine W.eq (g2 := F0 m 47 ls [.int y27]) (by rw [hr9]) ?_
      refine lv_if_ne (pc := 47) (tgt := 52) hx hb dV_ref_47 rfl (fun h29 => ?_) (fun h29 => ?_)
      · replace hf := ite_f h29 hf
        refine lv_aload (pc := 52) hx hb dV_ref_52 (lv_at hl 1 rfl) ?_
        obtain ⟨q30, hq30, eq30⟩ := at_6 (ad := ad) (ca := ca) (σ := σ28) hm17
        refine va_get (D := (dC, dI)) (cl := kCl) (C := RD) (T := TD) (N := 5) (pc := 54) hx hb hts inD hown hK.1 hP q30 eq30 rfl 3 (by decide) (hts _ wd_368) (fun _ h9 => h9) rfl dV_ref_54 ?_
        refine lv_iload_n (pc := 57) hx hb dV_ref_57 rfl (lv_at hl 5 rfl) ?_
        refine lv_iload (pc := 58) hx hb dV_ref_58 (lv_at hl 6 rfl) ?_
        refine lv_iload (pc := 60) hx hb dV_ref_60 (lv_at hl 7 rfl) ?_
        obtain ⟨q31, hq31, eq31⟩ := at_5 (ad := ad) (ca := ca) (σ := σ28) (cm_6_3 hC hm17)
        obtain ⟨⟨y32, σ33⟩, hy32, hf⟩ := ob hf
        have hFc := w9_free hD hS hA
        refine va_callv (pc := 62) (va_runV (As := [.int a3, .int a4, .int a5]) (rest := []) ⟨hx, hb, hml, hown, hts⟩ (t_C_setReference l dC dI ad ca dom H.size σ28 (3 * j8) a3 a4 a5 (cm_6_3 hC hm17) hN hC y32 σ33 hy32) (cwV 3 hts (gV wd_532 wd_533 wd_534 wd_228 wd_531) rfl rfl rfl (by decide +kernel) ⟨Nat.le_of_ble_eq_true rfl, Nat.le_of_ble_eq_true rfl⟩) ⟨hW_blind, va_recv (q := (RC, TC, 5)) (q0 := q31) (ci := 5) hK.1 hP rfl eq31, hW_pre hP hK hD hG⟩ rfl rfl hl.1 rfl (lv_room (Nat.le_of_ble_eq_true rfl)) dV_ref_62 ⟨Nat.le_of_ble_eq_true rfl, Nat.le_of_ble_eq_true rfl⟩) hS (fun q _ h => hFc q h) hFc (fun u t H1 locs ht hvm hr9 hB hz1 hk1 hS => ?_)
        obtain ⟨hP, hD, hC⟩ := hB
        rw [ht] at hP
        replace hD := hD.weaken (fun _ _ _ h => hFc _ h)
        generalize H1 = H at hP hS ⊢
        refine lv_iconst (pc := 65) (v := 1) hx hb dV_ref_65 (by decide) ?_
        obtain ⟨h8, h9⟩ := Prod.mk.inj (Option.some.inj hf)
        subst h9
        have h8 := Option.some.inj h8
        exact W.zret (pc := 66) hx hb hr (rfl) (fun t ht hW => ⟨⟨_, (), rfl, h8, by rw [ht]; exact hP, hD, hC⟩, hS.F ht⟩) hS.2.2 dV_ref_66
      · replace hf := ite_t h29 hf
        refine lv_iconst (pc := 50) (v := 0) hx hb dV_ref_50 (by decide) ?_
        obtain ⟨h8, h9⟩ := Prod.mk.inj (Option.some.inj hf)
        subst h9
        have h8 := Option.some.inj h8
        exact W.zret (pc := 51) hx hb hr (rfl) (fun t ht hW => ⟨⟨_, (), rfl, h8, by rw [ht]; exact hP, hD, hC⟩, hS.F ht⟩) hS.2.2 dV_ref_51
def V_drop (n : Nat) (σ : hT) (a1 : Int32) (a2 : Int32) (a3 : Int32) : Option ((Option Int32) × hT) := Option.bind (V_needPower σ) fun ⟨y2o, σ3⟩ => ex9 y2o σ3 fun y2 => Option.bind (V_drawingAt σ3 a1) fun y5 => hq y5 (Option.bind (V_copyRefusal σ3 none a2) fun y10 => lt9 (α := Option ((Option Int32) × hT)) (Option.bind (V_allowed σ3 y10) fun ⟨y14, σ15⟩ => if y14 = 0 then some (some 0, σ15) else none) fun x11 => if y10 = 0 then none else x11) fun j8 => Option.bind (V_copyRefusal σ3 (some j8) a2) fun y19 => lt9 (α := Int32 → Option ((Option Int32) × hT)) (fun (q21 : Int32) => Option.bind (V_allowed σ3 q21) fun ⟨y27, σ28⟩ => if y27 = 0 then some (some 0, σ28) else Option.bind (C_removeReference n σ28 (3 * j8) a3) fun ⟨y32, σ33⟩ => some (some 1, σ33)) fun x20 => if y19 = 0 then if (C_hasReference σ3 (3 * j8) a3) = 0 then x20 7 else x20 y19 else x20 y19
set_option maxHeartbeats 4000000 in
set_option maxRecDepth 100000 in
theorem t_V_drop (l : Launch) (dC : Nat → ClassId) (dI : Nat → Nat → Nat) (ad : Nat → Nat → Nat) (ca : Nat → Nat → ClassId) (dom : List (Nat × Nat)) (sz : Nat) (n : Nat) (σ : hT) (a1 : Int32) (a2 : Int32) (a3 : Int32) (hm0 : (0, 0) ∈ dom) (hN : dom.Nodup) (hC : clo dom σ.2.2) (ρ : Int32) (σ' : hT) (hf : V_drop n σ a1 a2 a3 = some (some ρ, σ')) : Met l yV_drop (.code yV_drop cV_drop 6 (some .boolean) :: aw) ({ frames := 3, cells := 0, slots := 0, locals := 64 }) (hW (dC, dI) sz ad ca dom σ [.ref (ad 0 0), .int a1, .int a2, .int a3]) (va_Qi (fun r (_ : Unit) => r = ρ) (fun _ t => hB (dC, dI) (va_A (w9 ad ca dom σ) sz) ad ca dom σ' t) (va_A (w9 ad ca dom σ) sz)) 0 0 (va_A (w9 ad ca dom σ) sz) := by
  refine Met.ofW (cc := cV_drop) (maxL := 6) (ret := (some .boolean)) (by decide) rfl ?_
  intro p e s m args below meth c s₁ B hml hv
  obtain ⟨rfl, hv⟩ := hv
  have hx := B.exec
  have hb := B.bytes
  have hr := B.returns
  have hts : ∀ w ∈ aw, w.before _ s = true := fun w h => atoms_spec (ws := (.code yV_drop cV_drop 6 (some .boolean) :: aw)) B.pre w (List.mem_cons_of_mem _ h)
  have hown : s.vm.findClass RV = some m.cls := findClass_of_methodNamed B.named
  have hlocks := B.notSynchronized
  obtain ⟨hsz, hP, hK, hD0, hG⟩ := hv
  subst hsz
  have hD := hD0.self (sz := s.heap.size)
  generalize hAe : va_A (w9 ad ca dom σ) s.heap.size = A at hD ⊢
  have hA : ∀ q : Nat, s.heap.size ≤ q → A q := fun q h => by rw [← hAe]; exact Or.inr h
  obtain ⟨H, hH⟩ : ∃ H, H = s.heap := ⟨_, rfl⟩
  have hS : va_S A s.heap H [] := by rw [hH]; exact va_S.rf
  rw [← hH] at hP ⊢
  unfold V_drop at hf
  have hl := lv_entry ([.ref (ad 0 0), .int a1, .int a2, .int a3]) (n := 6) (Nat.le_of_ble_eq_true rfl)
  rw [lg_entry_eq]
  generalize (lg_sl ([.ref (ad 0 0), .int a1, .int a2, .int a3]) ++ List.replicate (6 - (lg_sl ([.ref (ad 0 0), .int a1, .int a2, .int a3])).length) Slot.unset).toArray = ls at hl ⊢
  have hl : lv_has ls 6 [(0, .ref (ad 0 0)), (1, .int a1), (2, .int a2), (3, .int a3)] := hl
  refine lv_aload_n (pc := 0) hx hb dV_drop_0 rfl (lv_at hl 0 rfl) ?_
  obtain ⟨q1, hq1, eq1⟩ := at_0 (ad := ad) (ca := ca) (σ := σ) hm0
  obtain ⟨⟨y2o, σ3⟩, hy2, hf⟩ := ob hf
  obtain ⟨y2, rfl⟩ : ∃ z, y2o = some z := by
    cases y2o with
    | none => exact (ex9_n hf).elim
    | some z => exact ⟨z, rfl⟩
  replace hf := ex9_s hf
  have hFc := w9_free hD hS hA
  refine va_callv (pc := 1) (va_runV (As := []) (rest := []) ⟨hx, hb, hml, hown, hts⟩ (t_V_needPower l dC dI ad ca dom H.size σ hm0 hN hC y2 σ3 hy2) (cwV 0 hts (gV wd_499 wd_500 wd_501 wd_254 wd_498) rfl rfl rfl (by decide +kernel) ⟨Nat.le_of_ble_eq_true rfl, Nat.le_of_ble_eq_true rfl⟩) ⟨hW_blind, va_recv (q := (RV, TV, 9)) (q0 := q1) (ci := 0) hK.1 hP rfl eq1, hW_pre hP hK hD hG⟩ rfl rfl hl.1 rfl (lv_room (Nat.le_of_ble_eq_true rfl)) dV_drop_1 ⟨Nat.le_of_ble_eq_true rfl, Nat.le_of_ble_eq_true rfl⟩) hS (fun q _ h => hFc q h) hFc (fun u t H1 locs ht hvm hr9 hB hz1 hk1 hS => ?_)
  obtain ⟨hP, hD, hC⟩ := hB
  rw [ht] at hP
  replace hD := hD.weaken (fun _ _ _ h => hFc _ h)
  generalize H1 = H at hP hS ⊢
  refine lv_aload_n (pc := 4) hx hb dV_drop_4 rfl (lv_at hl 0 rfl) ?_
  refine lv_iload_n (pc := 5) hx hb dV_drop_5 rfl (lv_at hl 1 rfl) ?_
  obtain ⟨q4, hq4, eq4⟩ := at_0 (ad := ad) (ca := ca) (σ := σ3) hm0
  obtain ⟨y5, hy5, hf⟩ := ob hf
  refine va_cse (pc := 6) (W.runV (As := [.int a1]) (rest := []) ⟨hx, hb, hml, hown, hts⟩ (t_V_drawingAt l dC dI ad ca dom σ3 a1 hm0 hN hC y5 hy5) (cwV 1 hts (gV wd_317 wd_318 wd_319 wd_254 wd_316) rfl rfl rfl (by decide +kernel) ⟨Nat.le_of_ble_eq_true rfl, Nat.le_of_ble_eq_true rfl⟩) ⟨hR_blind, va_recv (q := (RV, TV, 9)) (q0 := q4) (ci := 0) hK.1 hP rfl eq4, hR_pre hP hK hG⟩ rfl rfl hl.1 rfl (lv_room (Nat.le_of_ble_eq_true rfl)) dV_drop_6 ⟨Nat.le_of_ble_eq_true rfl, Nat.le_of_ble_eq_true rfl⟩) (fun r9 hr9 => ?_)
  obtain ⟨hr9, hmy6⟩ := hr9
  refine W.eq (g2 := F0 m 9 ls [va_re (ad 6) y5]) (by rw [hr9]) ?_
  rcases hE7 : y5 with _ | j8
  · replace hf := hq_n hE7 hf
    refine W.eq (g2 := F0 m 9 ls [.null]) rfl ?_
    refine lv_astoreN (pc := 9) hx hb dV_drop_9 hl (by decide) rfl (fun ls hl => ?_)
    have hl : lv_has ls 6 [(4, .null), (0, .ref (ad 0 0)), (1, .int a1), (2, .int a2), (3, .int a3)] := hl
    refine lv_aload_n (pc := 11) hx hb dV_drop_11 rfl (lv_at hl 1 rfl) ?_
    refine lv_aloadN (pc := 12) hx hb dV_drop_12 (lv_at hl 0 rfl) ?_
    refine lv_iload_n (pc := 14) hx hb dV_drop_14 rfl (lv_at hl 3 rfl) ?_
    obtain ⟨q9, hq9, eq9⟩ := at_0 (ad := ad) (ca := ca) (σ := σ3) hm0
    obtain ⟨y10, hy10, hf⟩ := ob hf
    refine vp_callSi (pc := 15) (W.runV (As := [.null, .int a2]) (rest := []) ⟨hx, hb, hml, hown, hts⟩ (t_V_copyRefusal l dC dI ad ca dom σ3 none a2 hm0 (fun _ z => nomatch z) hN hC y10 hy10) (cwV 2 hts (gV wd_511 wd_512 wd_513 wd_254 wd_510) rfl rfl rfl (by decide +kernel) ⟨Nat.le_of_ble_eq_true rfl, Nat.le_of_ble_eq_true rfl⟩) ⟨hR_blind, va_recv (q := (RV, TV, 9)) (q0 := q9) (ci := 0) hK.1 hP rfl eq9, hR_pre hP hK hG⟩ rfl rfl hl.1 rfl (lv_room (Nat.le_of_ble_eq_true rfl)) dV_drop_15 ⟨Nat.le_of_ble_eq_true rfl, Nat.le_of_ble_eq_true rfl⟩) (fun r9 hr9 => ?_)
    refine W.eq (g2 := F0 m 18 ls [.int y10]) (by rw [hr9]) ?_
    refine lv_istore (pc := 18) hx hb dV_drop_18 hl (by decide) rfl (fun ls hl => ?_)
    have hl : lv_has ls 6 [(5, .int y10), (4, .null), (0, .ref (ad 0 0)), (1, .int a1), (2, .int a2), (3, .int a3)] := hl
    refine lv_iload (pc := 20) hx hb dV_drop_20 (lv_at hl 0 rfl) ?_
    obtain ⟨x11, hx11, hf⟩ := lt_9 hf
    refine jnF (τ := (Heap) × (List Loc) × (Array Slot)) (fun pc st z => W p l e _ s m _ below meth c z.1 z.2.1 0 0 _ (F0 m pc z.2.2 st)) (pc0 := 22) (st0 := [.int y10]) (z0 := (H, _, ls)) 41 (fun z => []) (fun z => va_P (dC, dI) kCl (w9 ad ca dom (σ3)) z.1 ∧ va_D A (w9 ad ca dom (σ3)) ∧ va_S A s.heap z.1 z.2.1 ∧ lv_has z.2.2 6 [(5, .int y10), (4, .null), (0, .ref (ad 0 0)), (1, .int a1), (2, .int a2), (3, .int a3)]) (fun z => x11) (some ρ, σ') ?_ ?_
    · intro hJx11
      dsimp only at hJx11 ⊢
      refine lv_if_ne (pc := 22) (tgt := 41) hx hb dV_drop_22 rfl (fun h12 => ?_) (fun h12 => ?_)
      · replace hf := ite_f h12 hf
        have hl := lv_sub hl (l' := [(5, .int y10), (4, .null), (0, .ref (ad 0 0)), (1, .int a1), (2, .int a2), (3, .int a3)]) [0, 1, 2, 3, 4, 5] rfl
        exact hJx11 (H, _, ls) ⟨hP, hD, hS, hl⟩ hf
      · replace hf := ite_t h12 hf
        refine lv_aloadN (pc := 25) hx hb dV_drop_25 (lv_at hl 1 rfl) ?_
        exact nomatch hf
    · rintro ⟨H, locs, ls⟩ ⟨hP, hD, hS, hl⟩ hf
      dsimp only at hP hD hS hl hf ⊢
      rw [hx11] at hf
      have hl : lv_has ls 6 [(5, .int y10), (4, .null), (0, .ref (ad 0 0)), (1, .int a1), (2, .int a2), (3, .int a3)] := hl
      refine lv_aload_n (pc := 41) hx hb dV_drop_41 rfl (lv_at hl 2 rfl) ?_
      refine lv_iload (pc := 42) hx hb dV_drop_42 (lv_at hl 0 rfl) ?_
      obtain ⟨q13, hq13, eq13⟩ := at_0 (ad := ad) (ca := ca) (σ := σ3) hm0
      obtain ⟨⟨y14, σ15⟩, hy14, hf⟩ := ob hf
      have hFc := w9_free hD hS hA
      refine va_calli (pc := 44) (va_runV (As := [.int y10]) (rest := []) ⟨hx, hb, hml, hown, hts⟩ (t_V_allowed l dC dI ad ca dom H.size σ3 y10 hm0 hN hC y14 σ15 hy14) (cwV 1 hts (gV wd_483 wd_484 wd_485 wd_254 wd_482) rfl rfl rfl (by decide +kernel) ⟨Nat.le_of_ble_eq_true rfl, Nat.le_of_ble_eq_true rfl⟩) ⟨hW_blind, va_recv (q := (RV, TV, 9)) (q0 := q13) (ci := 0) hK.1 hP rfl eq13, hW_pre hP hK hD hG⟩ rfl rfl hl.1 rfl (lv_room (Nat.le_of_ble_eq_true rfl)) dV_drop_44 ⟨Nat.le_of_ble_eq_true rfl, Nat.le_of_ble_eq_true rfl⟩) hS (fun q _ h => hFc q h) hFc (fun r9 u t H1 locs ht hvm hr9 hB hz1 hk1 hS => ?_)
      obtain ⟨hP, hD, hC⟩ := hB
      rw [ht] at hP
      replace hD := hD.weaken (fun _ _ _ h => hFc _ h)
      generalize H1 = H at hP hS ⊢
      refine W.eq (g2 := F0 m 47 ls [.int y14]) (by rw [hr9]) ?_
      refine lv_if_ne (pc := 47) (tgt := 52) hx hb dV_drop_47 rfl (fun h16 => ?_) (fun h16 => ?_)
      · replace hf := ite_f h16 hf
        refine lv_aloadN (pc := 52) hx hb dV_drop_52 (lv_at hl 1 rfl) ?_
        exact nomatch hf
      · replace hf := ite_t h16 hf
        refine lv_iconst (pc := 50) (v := 0) hx hb dV_drop_50 (by decide) ?_
        obtain ⟨h8, h9⟩ := Prod.mk.inj (Option.some.inj hf)
        subst h9
        have h8 := Option.some.inj h8
        exact W.zret (pc := 51) hx hb hr (rfl) (fun t ht hW => ⟨⟨_, (), rfl, h8, by rw [ht]; exact hP, hD, hC⟩, hS.F ht⟩) hS.2.2 dV_drop_51
  · replace hf := hq_s hE7 hf
    have hm17 : (6, j8) ∈ dom := (hmy6 _ hE7)
    refine W.eq (g2 := F0 m 9 ls [.ref (ad 6 j8)]) rfl ?_
    refine lv_astore (pc := 9) hx hb dV_drop_9 hl (by decide) rfl (fun ls hl => ?_)
    have hl : lv_has ls 6 [(4, .ref (ad 6 j8)), (0, .ref (ad 0 0)), (1, .int a1), (2, .int a2), (3, .int a3)] := hl
    refine lv_aload_n (pc := 11) hx hb dV_drop_11 rfl (lv_at hl 1 rfl) ?_
    refine lv_aload (pc := 12) hx hb dV_drop_12 (lv_at hl 0 rfl) ?_
    refine lv_iload_n (pc := 14) hx hb dV_drop_14 rfl (lv_at hl 3 rfl) ?_
    obtain ⟨q18, hq18, eq18⟩ := at_0 (ad := ad) (ca := ca) (σ := σ3) hm0
    obtain ⟨y19, hy19, hf⟩ := ob hf
    refine vp_callSi (pc := 15) (W.runV (As := [.ref (ad 6 j8), .int a2]) (rest := []) ⟨hx, hb, hml, hown, hts⟩ (t_V_copyRefusal l dC dI ad ca dom σ3 (some j8) a2 hm0 (fun _ z => Option.some.inj z ▸ hm17) hN hC y19 hy19) (cwV 2 hts (gV wd_511 wd_512 wd_513 wd_254 wd_510) rfl rfl rfl (by decide +kernel) ⟨Nat.le_of_ble_eq_true rfl, Nat.le_of_ble_eq_true rfl⟩) ⟨hR_blind, va_recv (q := (RV, TV, 9)) (q0 := q18) (ci := 0) hK.1 hP rfl eq18, hR_pre hP hK hG⟩ rfl rfl hl.1 rfl (lv_room (Nat.le_of_ble_eq_true rfl)) dV_drop_15 ⟨Nat.le_of_ble_eq_true rfl, Nat.le_of_ble_eq_true rfl⟩) (fun r9 hr9 => ?_)
    refine W.eq (g2 := F0 m 18 ls [.int y19]) (by rw [hr9]) ?_
    refine lv_istore (pc := 18) hx hb dV_drop_18 hl (by decide) rfl (fun ls hl => ?_)
    have hl : lv_has ls 6 [(5, .int y19), (4, .ref (ad 6 j8)), (0, .ref (ad 0 0)), (1, .int a1), (2, .int a2), (3, .int a3)] := hl
    refine lv_iload (pc := 20) hx hb dV_drop_20 (lv_at hl 0 rfl) ?_
    obtain ⟨x20, hx20, hf⟩ := lt_9 hf
    refine jnF (τ := (Int32) × (Heap) × (List Loc) × (Array Slot)) (fun pc st z => W p l e _ s m _ below meth c z.2.1 z.2.2.1 0 0 _ (F0 m pc z.2.2.2 st)) (pc0 := 22) (st0 := [.int y19]) (z0 := (0, H, _, ls)) 41 (fun z => []) (fun z => va_P (dC, dI) kCl (w9 ad ca dom (σ3)) z.2.1 ∧ va_D A (w9 ad ca dom (σ3)) ∧ va_S A s.heap z.2.1 z.2.2.1 ∧ lv_has z.2.2.2 6 [(5, .int z.1), (4, .ref (ad 6 j8)), (0, .ref (ad 0 0)), (1, .int a1), (2, .int a2), (3, .int a3)]) (fun z => x20 z.1) (some ρ, σ') ?_ ?_
    · intro hJx20
      dsimp only at hJx20 ⊢
      refine lv_if_ne (pc := 22) (tgt := 41) hx hb dV_drop_22 rfl (fun h22 => ?_) (fun h22 => ?_)
      · replace hf := ite_f h22 hf
        have hl := lv_sub hl (l' := [(5, .int y19), (4, .ref (ad 6 j8)), (0, .ref (ad 0 0)), (1, .int a1), (2, .int a2), (3, .int a3)]) [0, 1, 2, 3, 4, 5] rfl
        exact hJx20 (y19, H, _, ls) ⟨hP, hD, hS, hl⟩ hf
      · replace hf := ite_t h22 hf
        refine lv_aload (pc := 25) hx hb dV_drop_25 (lv_at hl 1 rfl) ?_
        obtain ⟨q23, hq23, eq23⟩ := at_6 (ad := ad) (ca := ca) (σ := σ3) hm17
        refine va_get (D := (dC, dI)) (cl := kCl) (C := RD) (T := TD) (N := 5) (pc := 27) hx hb hts inD hown hK.1 hP q23 eq23 rfl 3 (by decide) (hts _ wd_368) (fun _ h9 => h9) rfl dV_drop_27 ?_
        refine lv_iload_n (pc := 30) hx hb dV_drop_30 rfl (lv_at hl 5 rfl) ?_
        obtain ⟨q24, hq24, eq24⟩ := at_5 (ad := ad) (ca := ca) (σ := σ3) (cm_6_3 hC hm17)
        refine vp_callSi (pc := 31) (W.runV (As := [.int a3]) (rest := []) ⟨hx, hb, hml, hown, hts⟩ (t_C_hasReference l dC dI ad ca dom σ3 (3 * j8) a3 (cm_6_3 hC hm17) hN hC (C_hasReference σ3 (3 * j8) a3) rfl) (cwV 1 hts (gV wd_536 wd_537 wd_538 wd_228 wd_535) rfl rfl rfl (by decide +kernel) ⟨Nat.le_of_ble_eq_true rfl, Nat.le_of_ble_eq_true rfl⟩) ⟨hR_blind, va_recv (q := (RC, TC, 5)) (q0 := q24) (ci := 5) hK.1 hP rfl eq24, hR_pre hP hK hG⟩ rfl rfl hl.1 rfl (lv_room (Nat.le_of_ble_eq_true rfl)) dV_drop_31 ⟨Nat.le_of_ble_eq_true rfl, Nat.le_of_ble_eq_true rfl⟩) (fun r9 hr9 => ?_)
        refine W.eq (g2 := F0 m 34 ls [.int (C_hasReference σ3 (3 * j8) a3)]) (by rw [hr9]) ?_
        refine lv_if_ne (pc := 34) (tgt := 41) hx hb dV_drop_34 rfl (fun h25 => ?_) (fun h25 => ?_)
        · replace hf := ite_f h25 hf
          have hl := lv_sub hl (l' := [(5, .int y19), (4, .ref (ad 6 j8)), (0, .ref (ad 0 0)), (1, .int a1), (2, .int a2), (3, .int a3)]) [0, 1, 2, 3, 4, 5] rfl
          exact hJx20 (y19, H, _, ls) ⟨hP, hD, hS, hl⟩ hf
        · replace hf := ite_t h25 hf
          refine lv_bipush (pc := 37) (v := 7) hx hb dV_drop_37 (by decide) ?_
          refine lv_istore (pc := 39) hx hb dV_drop_39 hl (by decide) rfl (fun ls hl => ?_)
          have hl : lv_has ls 6 [(5, .int 7), (4, .ref (ad 6 j8)), (0, .ref (ad 0 0)), (1, .int a1), (2, .int a2), (3, .int a3)] := hl
          have hl := lv_sub hl (l' := [(5, .int 7), (4, .ref (ad 6 j8)), (0, .ref (ad 0 0)), (1, .int a1), (2, .int a2), (3, .int a3)]) [0, 1, 2, 3, 4, 5] rfl
          exact hJx20 (7, H, _, ls) ⟨hP, hD, hS, hl⟩ hf
    · rintro ⟨q21, H, locs, ls⟩ ⟨hP, hD, hS, hl⟩ hf
      dsimp only at hP hD hS hl hf ⊢
      rw [hx20] at hf
      have hl : lv_has ls 6 [(5, .int q21), (4, .ref (ad 6 j8)), (0, .ref (ad 0 0)), (1, .int a1), (2, .int a2), (3, .int a3)] := hl
      refine lv_aload_n (pc := 41) hx hb dV_drop_41 rfl (lv_at hl 2 rfl) ?_
      refine lv_iload (pc := 42) hx hb dV_drop_42 (lv_at hl 0 rfl) ?_
      obtain ⟨q26, hq26, eq26⟩ := at_0 (ad := ad) (ca := ca) (σ := σ3) hm0
      obtain ⟨⟨y27, σ28⟩, hy27, hf⟩ := ob hf
      have hFc := w9_free hD hS hA
      refine va_calli (pc := 44) (va_runV (As := [.int q21]) (rest := []) ⟨hx, hb, hml, hown, hts⟩ (t_V_allowed l dC dI ad ca dom H.size σ3 q21 hm0 hN hC y27 σ28 hy27) (cwV 1 hts (gV wd_483 wd_484 wd_485 wd_254 wd_482) rfl rfl rfl (by decide +kernel) ⟨Nat.le_of_ble_eq_true rfl, Nat.le_of_ble_eq_true rfl⟩) ⟨hW_blind, va_recv (q := (RV, TV, 9)) (q0 := q26) (ci := 0) hK.1 hP rfl eq26, hW_pre hP hK hD hG⟩ rfl rfl hl.1 rfl (lv_room (Nat.le_of_ble_eq_true rfl)) dV_drop_44 ⟨Nat.le_of_ble_eq_true rfl, Nat.le_of_ble_eq_true rfl⟩) hS (fun q _ h => hFc q h) hFc (fun r9 u t H1 locs ht hvm hr9 hB hz1 hk1 hS => ?_)
      obtain ⟨hP, hD, hC⟩ := hB
      rw [ht] at hP
      replace hD := hD.weaken (fun _ _ _ h => hFc _ h)
      generalize H1 = H at hP hS ⊢
      refine W.eq (g2 := F0 m 47 ls [.int y27]) (by rw [hr9]) ?_
      refine lv_if_ne (pc := 47) (tgt := 52) hx hb dV_drop_47 rfl (fun h29 => ?_) (fun h29 => ?_)
      · replace hf := ite_f h29 hf
        refine lv_aload (pc := 52) hx hb dV_drop_52 (lv_at hl 1 rfl) ?_
        obtain ⟨q30, hq30, eq30⟩ := at_6 (ad := ad) (ca := ca) (σ := σ28) hm17
        refine va_get (D := (dC, dI)) (cl := kCl) (C := RD) (T := TD) (N := 5) (pc := 54) hx hb hts inD hown hK.1 hP q30 eq30 rfl 3 (by decide) (hts _ wd_368) (fun _ h9 => h9) rfl dV_drop_54 ?_
        refine lv_iload_n (pc := 57) hx hb dV_drop_57 rfl (lv_at hl 5 rfl) ?_
        obtain ⟨q31, hq31, eq31⟩ := at_5 (ad := ad) (ca := ca) (σ := σ28) (cm_6_3 hC hm17)
        obtain ⟨⟨y32, σ33⟩, hy32, hf⟩ := ob hf
        have hFc := w9_free hD hS hA
        refine va_callv (pc := 58) (va_runV (As := [.int a3]) (rest := []) ⟨hx, hb, hml, hown, hts⟩ (t_C_removeReference l dC dI ad ca dom H.size n σ28 (3 * j8) a3 (cm_6_3 hC hm17) hN hC y32 σ33 hy32) (cwV 1 hts (gV wd_540 wd_541 wd_542 wd_228 wd_539) rfl rfl rfl (by decide +kernel) ⟨Nat.le_of_ble_eq_true rfl, Nat.le_of_ble_eq_true rfl⟩) ⟨hW_blind, va_recv (q := (RC, TC, 5)) (q0 := q31) (ci := 5) hK.1 hP rfl eq31, hW_pre hP hK hD hG⟩ rfl rfl hl.1 rfl (lv_room (Nat.le_of_ble_eq_true rfl)) dV_drop_58 ⟨Nat.le_of_ble_eq_true rfl, Nat.le_of_ble_eq_true rfl⟩) hS (fun q _ h => hFc q h) hFc (fun u t H1 locs ht hvm hr9 hB hz1 hk1 hS => ?_)
        obtain ⟨hP, hD, hC⟩ := hB
        rw [ht] at hP
        replace hD := hD.weaken (fun _ _ _ h => hFc _ h)
        generalize H1 = H at hP hS ⊢
        refine lv_iconst (pc := 61) (v := 1) hx hb dV_drop_61 (by decide) ?_
        obtain ⟨h8, h9⟩ := Prod.mk.inj (Option.some.inj hf)
        subst h9
        have h8 := Option.some.inj h8
        exact W.zret (pc := 62) hx hb hr (rfl) (fun t ht hW => ⟨⟨_, (), rfl, h8, by rw [ht]; exact hP, hD, hC⟩, hS.F ht⟩) hS.2.2 dV_drop_62
      · replace hf := ite_t h29 hf
        refine lv_iconst (pc := 50) (v := 0) hx hb dV_drop_50 (by decide) ?_
        obtain ⟨h8, h9⟩ := Prod.mk.inj (Option.some.inj hf)
        subst h9
        have h8 := Option.some.inj h8
        exact W.zret (pc := 51) hx hb hr (rfl) (fun t ht hW => ⟨⟨_, (), rfl, h8, by rw [ht]; exact hP, hD, hC⟩, hS.F ht⟩) hS.2.2 dV_drop_51
def V_check (n : Nat) (σ : hT) (a1 : Int32) (a2 : Int32) (a3 : Int32) : Option ((Option Int32) × hT) := Option.bind (V_needPower σ) fun ⟨y2o, σ3⟩ => ex9 y2o σ3 fun y2 => Option.bind (V_checkRefusal σ3 a1 a2 a3) fun y5 => Option.bind (V_becomes n σ3 a1 a2 1 y5) fun ⟨y7o, σ8⟩ => ex9 y7o σ8 fun y7 => if y7 = 0 ∨ y7 = 1 then some (some y7, σ8) else none
set_option maxHeartbeats 4000000 in
set_option maxRecDepth 100000 in
theorem t_V_check (l : Launch) (dC : Nat → ClassId) (dI : Nat → Nat → Nat) (ad : Nat → Nat → Nat) (ca : Nat → Nat → ClassId) (dom : List (Nat × Nat)) (sz : Nat) (n : Nat) (σ : hT) (a1 : Int32) (a2 : Int32) (a3 : Int32) (hm0 : (0, 0) ∈ dom) (hN : dom.Nodup) (hC : clo dom σ.2.2) (ρ : Int32) (σ' : hT) (hf : V_check n σ a1 a2 a3 = some (some ρ, σ')) : Met l yV_check (.code yV_check cV_check 4 (some .boolean) :: aw) ({ frames := 7, cells := 0, slots := 0, locals := 150 }) (hW (dC, dI) sz ad ca dom σ [.ref (ad 0 0), .int a1, .int a2, .int a3]) (va_Qi (fun r (_ : Unit) => r = ρ) (fun _ t => hB (dC, dI) (va_A (w9 ad ca dom σ) sz) ad ca dom σ' t) (va_A (w9 ad ca dom σ) sz)) 0 0 (va_A (w9 ad ca dom σ) sz) := by
  refine Met.ofW (cc := cV_check) (maxL := 4) (ret := (some .boolean)) (by decide) rfl ?_
  intro p e s m args below meth c s₁ B hml hv
  obtain ⟨rfl, hv⟩ := hv
  have hx := B.exec
  have hb := B.bytes
  have hr := B.returns
  have hts : ∀ w ∈ aw, w.before _ s = true := fun w h => atoms_spec (ws := (.code yV_check cV_check 4 (some .boolean) :: aw)) B.pre w (List.mem_cons_of_mem _ h)
  have hown : s.vm.findClass RV = some m.cls := findClass_of_methodNamed B.named
  have hlocks := B.notSynchronized
  obtain ⟨hsz, hP, hK, hD0, hG⟩ := hv
  subst hsz
  have hD := hD0.self (sz := s.heap.size)
  generalize hAe : va_A (w9 ad ca dom σ) s.heap.size = A at hD ⊢
  have hA : ∀ q : Nat, s.heap.size ≤ q → A q := fun q h => by rw [← hAe]; exact Or.inr h
  obtain ⟨H, hH⟩ : ∃ H, H = s.heap := ⟨_, rfl⟩
  have hS : va_S A s.heap H [] := by rw [hH]; exact va_S.rf
  rw [← hH] at hP ⊢
  unfold V_check at hf
  have hl := lv_entry ([.ref (ad 0 0), .int a1, .int a2, .int a3]) (n := 4) (Nat.le_of_ble_eq_true rfl)
  rw [lg_entry_eq]
  generalize (lg_sl ([.ref (ad 0 0), .int a1, .int a2, .int a3]) ++ List.replicate (4 - (lg_sl ([.ref (ad 0 0), .int a1, .int a2, .int a3])).length) Slot.unset).toArray = ls at hl ⊢
  have hl : lv_has ls 4 [(0, .ref (ad 0 0)), (1, .int a1), (2, .int a2), (3, .int a3)] := hl
  refine lv_aload_n (pc := 0) hx hb dV_check_0 rfl (lv_at hl 0 rfl) ?_
  obtain ⟨q1, hq1, eq1⟩ := at_0 (ad := ad) (ca := ca) (σ := σ) hm0
  obtain ⟨⟨y2o, σ3⟩, hy2, hf⟩ := ob hf
  obtain ⟨y2, rfl⟩ : ∃ z, y2o = some z := by
    cases y2o with
    | none => exact (ex9_n hf).elim
    | some z => exact ⟨z, rfl⟩
  replace hf := ex9_s hf
  have hFc := w9_free hD hS hA
  refine va_callv (pc := 1) (va_runV (As := []) (rest := []) ⟨hx, hb, hml, hown, hts⟩ (t_V_needPower l dC dI ad ca dom H.size σ hm0 hN hC y2 σ3 hy2) (cwV 0 hts (gV wd_499 wd_500 wd_501 wd_254 wd_498) rfl rfl rfl (by decide +kernel) ⟨Nat.le_of_ble_eq_true rfl, Nat.le_of_ble_eq_true rfl⟩) ⟨hW_blind, va_recv (q := (RV, TV, 9)) (q0 := q1) (ci := 0) hK.1 hP rfl eq1, hW_pre hP hK hD hG⟩ rfl rfl hl.1 rfl (lv_room (Nat.le_of_ble_eq_true rfl)) dV_check_1 ⟨Nat.le_of_ble_eq_true rfl, Nat.le_of_ble_eq_true rfl⟩) hS (fun q _ h => hFc q h) hFc (fun u t H1 locs ht hvm hr9 hB hz1 hk1 hS => ?_)
  obtain ⟨hP, hD, hC⟩ := hB
  rw [ht] at hP
  replace hD := hD.weaken (fun _ _ _ h => hFc _ h)
  generalize H1 = H at hP hS ⊢
  refine lv_aload_n (pc := 4) hx hb dV_check_4 rfl (lv_at hl 0 rfl) ?_
  refine lv_iload_n (pc := 5) hx hb dV_check_5 rfl (lv_at hl 1 rfl) ?_
  refine lv_iload_n (pc := 6) hx hb dV_check_6 rfl (lv_at hl 2 rfl) ?_
  refine lv_iconst (pc := 7) (v := 1) hx hb dV_check_7 (by decide) ?_
  refine lv_aload_n (pc := 8) hx hb dV_check_8 rfl (lv_at hl 0 rfl) ?_
  refine lv_iload_n (pc := 9) hx hb dV_check_9 rfl (lv_at hl 1 rfl) ?_
  refine lv_iload_n (pc := 10) hx hb dV_check_10 rfl (lv_at hl 2 rfl) ?_
  refine lv_iload_n (pc := 11) hx hb dV_check_11 rfl (lv_at hl 3 rfl) ?_
  obtain ⟨q4, hq4, eq4⟩ := at_0 (ad := ad) (ca := ca) (σ := σ3) hm0
  obtain ⟨y5, hy5, hf⟩ := ob hf
  refine vp_callSi (pc := 12) (W.runV (As := [.int a1, .int a2, .int a3]) (rest := [.int 1, .int a2, .int a1, .ref (ad 0 0)]) ⟨hx, hb, hml, hown, hts⟩ (t_V_checkRefusal l dC dI ad ca dom σ3 a1 a2 a3 hm0 hN hC y5 hy5) (cwV 3 hts (gV wd_544 wd_545 wd_546 wd_254 wd_543) rfl rfl rfl (by decide +kernel) ⟨Nat.le_of_ble_eq_true rfl, Nat.le_of_ble_eq_true rfl⟩) ⟨hR_blind, va_recv (q := (RV, TV, 9)) (q0 := q4) (ci := 0) hK.1 hP rfl eq4, hR_pre hP hK hG⟩ rfl rfl hl.1 rfl (lv_room (Nat.le_of_ble_eq_true rfl)) dV_check_12 ⟨Nat.le_of_ble_eq_true rfl, Nat.le_of_ble_eq_true rfl⟩) (fun r9 hr9 => ?_)
  refine W.eq (g2 := F0 m 15 ls [.int y5, .int 1, .int a2, .int a1, .ref (ad 0 0)]) (by rw [hr9]) ?_
  obtain ⟨q6, hq6, eq6⟩ := at_0 (ad := ad) (ca := ca) (σ := σ3) hm0
  obtain ⟨⟨y7o, σ8⟩, hy7, hf⟩ := ob hf
  obtain ⟨y7, rfl⟩ : ∃ z, y7o = some z := by
    cases y7o with
    | none => exact (ex9_n hf).elim
    | some z => exact ⟨z, rfl⟩
  replace hf := ex9_s hf
  have hFc := w9_free hD hS hA
  refine va_calli (pc := 15) (va_runV (As := [.int a1, .int a2, .int 1, .int y5]) (rest := []) ⟨hx, hb, hml, hown, hts⟩ (t_V_becomes l dC dI ad ca dom H.size n σ3 a1 a2 1 y5 hm0 hN hC y7 σ8 hy7) (cwV 4 hts (gV wd_548 wd_549 wd_550 wd_254 wd_547) rfl rfl rfl (by decide +kernel) ⟨Nat.le_of_ble_eq_true rfl, Nat.le_of_ble_eq_true rfl⟩) ⟨hW_blind, va_recv (q := (RV, TV, 9)) (q0 := q6) (ci := 0) hK.1 hP rfl eq6, hW_pre hP hK hD hG⟩ rfl rfl hl.1 rfl (lv_room (Nat.le_of_ble_eq_true rfl)) dV_check_15 ⟨Nat.le_of_ble_eq_true rfl, Nat.le_of_ble_eq_true rfl⟩) hS (fun q _ h => hFc q h) hFc (fun r9 u t H1 locs ht hvm hr9 hB hz1 hk1 hS => ?_)
  obtain ⟨hP, hD, hC⟩ := hB
  rw [ht] at hP
  replace hD := hD.weaken (fun _ _ _ h => hFc _ h)
  generalize H1 = H at hP hS ⊢
  refine W.eq (g2 := F0 m 18 ls [.int y7]) (by rw [hr9]) ?_
  obtain ⟨hz9, hf⟩ := ite_s hf
  obtain ⟨h8, h9⟩ := Prod.mk.inj (Option.some.inj hf)
  subst h9
  have h8 := Option.some.inj h8
  exact W.zret (pc := 18) hx hb hr (nar01 hz9) (fun t ht hW => ⟨⟨_, (), rfl, h8, by rw [ht]; exact hP, hD, hC⟩, hS.F ht⟩) hS.2.2 dV_check_18
def V_release (n : Nat) (σ : hT) (a1 : Int32) (a2 : Int32) (a3 : Int32) : Option ((Option Int32) × hT) := Option.bind (V_needPower σ) fun ⟨y2o, σ3⟩ => ex9 y2o σ3 fun y2 => Option.bind (V_releaseRefusal n σ3 a1 a2 a3) fun y5 => Option.bind (V_becomes n σ3 a1 a2 2 y5) fun ⟨y7o, σ8⟩ => ex9 y7o σ8 fun y7 => if y7 = 0 ∨ y7 = 1 then some (some y7, σ8) else none
set_option maxHeartbeats 4000000 in
set_option maxRecDepth 100000 in
theorem t_V_release (l : Launch) (dC : Nat → ClassId) (dI : Nat → Nat → Nat) (ad : Nat → Nat → Nat) (ca : Nat → Nat → ClassId) (dom : List (Nat × Nat)) (sz : Nat) (n : Nat) (σ : hT) (a1 : Int32) (a2 : Int32) (a3 : Int32) (hm0 : (0, 0) ∈ dom) (hN : dom.Nodup) (hC : clo dom σ.2.2) (ρ : Int32) (σ' : hT) (hf : V_release n σ a1 a2 a3 = some (some ρ, σ')) : Met l yV_release (.code yV_release cV_release 4 (some .boolean) :: aw) ({ frames := 7, cells := 0, slots := 0, locals := 150 }) (hW (dC, dI) sz ad ca dom σ [.ref (ad 0 0), .int a1, .int a2, .int a3]) (va_Qi (fun r (_ : Unit) => r = ρ) (fun _ t => hB (dC, dI) (va_A (w9 ad ca dom σ) sz) ad ca dom σ' t) (va_A (w9 ad ca dom σ) sz)) 0 0 (va_A (w9 ad ca dom σ) sz) := by
  refine Met.ofW (cc := cV_release) (maxL := 4) (ret := (some .boolean)) (by decide) rfl ?_
  intro p e s m args below meth c s₁ B hml hv
  obtain ⟨rfl, hv⟩ := hv
  have hx := B.exec
  have hb := B.bytes
  have hr := B.returns
  have hts : ∀ w ∈ aw, w.before _ s = true := fun w h => atoms_spec (ws := (.code yV_release cV_release 4 (some .boolean) :: aw)) B.pre w (List.mem_cons_of_mem _ h)
  have hown : s.vm.findClass RV = some m.cls := findClass_of_methodNamed B.named
  have hlocks := B.notSynchronized
  obtain ⟨hsz, hP, hK, hD0, hG⟩ := hv
  subst hsz
  have hD := hD0.self (sz := s.heap.size)
  generalize hAe : va_A (w9 ad ca dom σ) s.heap.size = A at hD ⊢
  have hA : ∀ q : Nat, s.heap.size ≤ q → A q := fun q h => by rw [← hAe]; exact Or.inr h
  obtain ⟨H, hH⟩ : ∃ H, H = s.heap := ⟨_, rfl⟩
  have hS : va_S A s.heap H [] := by rw [hH]; exact va_S.rf
  rw [← hH] at hP ⊢
  unfold V_release at hf
  have hl := lv_entry ([.ref (ad 0 0), .int a1, .int a2, .int a3]) (n := 4) (Nat.le_of_ble_eq_true rfl)
  rw [lg_entry_eq]
  generalize (lg_sl ([.ref (ad 0 0), .int a1, .int a2, .int a3]) ++ List.replicate (4 - (lg_sl ([.ref (ad 0 0), .int a1, .int a2, .int a3])).length) Slot.unset).toArray = ls at hl ⊢
  have hl : lv_has ls 4 [(0, .ref (ad 0 0)), (1, .int a1), (2, .int a2), (3, .int a3)] := hl
  refine lv_aload_n (pc := 0) hx hb dV_release_0 rfl (lv_at hl 0 rfl) ?_
  obtain ⟨q1, hq1, eq1⟩ := at_0 (ad := ad) (ca := ca) (σ := σ) hm0
  obtain ⟨⟨y2o, σ3⟩, hy2, hf⟩ := ob hf
  obtain ⟨y2, rfl⟩ : ∃ z, y2o = some z := by
    cases y2o with
    | none => exact (ex9_n hf).elim
    | some z => exact ⟨z, rfl⟩
  replace hf := ex9_s hf
  have hFc := w9_free hD hS hA
  refine va_callv (pc := 1) (va_runV (As := []) (rest := []) ⟨hx, hb, hml, hown, hts⟩ (t_V_needPower l dC dI ad ca dom H.size σ hm0 hN hC y2 σ3 hy2) (cwV 0 hts (gV wd_499 wd_500 wd_501 wd_254 wd_498) rfl rfl rfl (by decide +kernel) ⟨Nat.le_of_ble_eq_true rfl, Nat.le_of_ble_eq_true rfl⟩) ⟨hW_blind, va_recv (q := (RV, TV, 9)) (q0 := q1) (ci := 0) hK.1 hP rfl eq1, hW_pre hP hK hD hG⟩ rfl rfl hl.1 rfl (lv_room (Nat.le_of_ble_eq_true rfl)) dV_release_1 ⟨Nat.le_of_ble_eq_true rfl, Nat.le_of_ble_eq_true rfl⟩) hS (fun q _ h => hFc q h) hFc (fun u t H1 locs ht hvm hr9 hB hz1 hk1 hS => ?_)
  obtain ⟨hP, hD, hC⟩ := hB
  rw [ht] at hP
  replace hD := hD.weaken (fun _ _ _ h => hFc _ h)
  generalize H1 = H at hP hS ⊢
  refine lv_aload_n (pc := 4) hx hb dV_release_4 rfl (lv_at hl 0 rfl) ?_
  refine lv_iload_n (pc := 5) hx hb dV_release_5 rfl (lv_at hl 1 rfl) ?_
  refine lv_iload_n (pc := 6) hx hb dV_release_6 rfl (lv_at hl 2 rfl) ?_
  refine lv_iconst (pc := 7) (v := 2) hx hb dV_release_7 (by decide) ?_
  refine lv_aload_n (pc := 8) hx hb dV_release_8 rfl (lv_at hl 0 rfl) ?_
  refine lv_iload_n (pc := 9) hx hb dV_release_9 rfl (lv_at hl 1 rfl) ?_
  refine lv_iload_n (pc := 10) hx hb dV_release_10 rfl (lv_at hl 2 rfl) ?_
  refine lv_iload_n (pc := 11) hx hb dV_release_11 rfl (lv_at hl 3 rfl) ?_
  obtain ⟨q4, hq4, eq4⟩ := at_0 (ad := ad) (ca := ca) (σ := σ3) hm0
  obtain ⟨y5, hy5, hf⟩ := ob hf
  refine vp_callSi (pc := 12) (W.runV (As := [.int a1, .int a2, .int a3]) (rest := [.int 2, .int a2, .int a1, .ref (ad 0 0)]) ⟨hx, hb, hml, hown, hts⟩ (t_V_releaseRefusal l dC dI ad ca dom n σ3 a1 a2 a3 hm0 hN hC y5 hy5) (cwV 3 hts (gV wd_552 wd_553 wd_554 wd_254 wd_551) rfl rfl rfl (by decide +kernel) ⟨Nat.le_of_ble_eq_true rfl, Nat.le_of_ble_eq_true rfl⟩) ⟨hR_blind, va_recv (q := (RV, TV, 9)) (q0 := q4) (ci := 0) hK.1 hP rfl eq4, hR_pre hP hK hG⟩ rfl rfl hl.1 rfl (lv_room (Nat.le_of_ble_eq_true rfl)) dV_release_12 ⟨Nat.le_of_ble_eq_true rfl, Nat.le_of_ble_eq_true rfl⟩) (fun r9 hr9 => ?_)
  refine W.eq (g2 := F0 m 15 ls [.int y5, .int 2, .int a2, .int a1, .ref (ad 0 0)]) (by rw [hr9]) ?_
  obtain ⟨q6, hq6, eq6⟩ := at_0 (ad := ad) (ca := ca) (σ := σ3) hm0
  obtain ⟨⟨y7o, σ8⟩, hy7, hf⟩ := ob hf
  obtain ⟨y7, rfl⟩ : ∃ z, y7o = some z := by
    cases y7o with
    | none => exact (ex9_n hf).elim
    | some z => exact ⟨z, rfl⟩
  replace hf := ex9_s hf
  have hFc := w9_free hD hS hA
  refine va_calli (pc := 15) (va_runV (As := [.int a1, .int a2, .int 2, .int y5]) (rest := []) ⟨hx, hb, hml, hown, hts⟩ (t_V_becomes l dC dI ad ca dom H.size n σ3 a1 a2 2 y5 hm0 hN hC y7 σ8 hy7) (cwV 4 hts (gV wd_548 wd_549 wd_550 wd_254 wd_547) rfl rfl rfl (by decide +kernel) ⟨Nat.le_of_ble_eq_true rfl, Nat.le_of_ble_eq_true rfl⟩) ⟨hW_blind, va_recv (q := (RV, TV, 9)) (q0 := q6) (ci := 0) hK.1 hP rfl eq6, hW_pre hP hK hD hG⟩ rfl rfl hl.1 rfl (lv_room (Nat.le_of_ble_eq_true rfl)) dV_release_15 ⟨Nat.le_of_ble_eq_true rfl, Nat.le_of_ble_eq_true rfl⟩) hS (fun q _ h => hFc q h) hFc (fun r9 u t H1 locs ht hvm hr9 hB hz1 hk1 hS => ?_)
  obtain ⟨hP, hD, hC⟩ := hB
  rw [ht] at hP
  replace hD := hD.weaken (fun _ _ _ h => hFc _ h)
  generalize H1 = H at hP hS ⊢
  refine W.eq (g2 := F0 m 18 ls [.int y7]) (by rw [hr9]) ?_
  obtain ⟨hz9, hf⟩ := ite_s hf
  obtain ⟨h8, h9⟩ := Prod.mk.inj (Option.some.inj hf)
  subst h9
  have h8 := Option.some.inj h8
  exact W.zret (pc := 18) hx hb hr (nar01 hz9) (fun t ht hW => ⟨⟨_, (), rfl, h8, by rw [ht]; exact hP, hD, hC⟩, hS.F ht⟩) hS.2.2 dV_release_18
def V_withdraw (n : Nat) (σ : hT) (a1 : Int32) (a2 : Int32) (a3 : Int32) : Option ((Option Int32) × hT) := Option.bind (V_needPower σ) fun ⟨y2o, σ3⟩ => ex9 y2o σ3 fun y2 => Option.bind (V_withdrawRefusal n σ3 a1 a2 a3) fun y5 => Option.bind (V_becomes n σ3 a1 a2 3 y5) fun ⟨y7o, σ8⟩ => ex9 y7o σ8 fun y7 => if y7 = 0 ∨ y7 = 1 then some (some y7, σ8) else none
set_option maxHeartbeats 4000000 in
set_option maxRecDepth 100000 in
theorem t_V_withdraw (l : Launch) (dC : Nat → ClassId) (dI : Nat → Nat → Nat) (ad : Nat → Nat → Nat) (ca : Nat → Nat → ClassId) (dom : List (Nat × Nat)) (sz : Nat) (n : Nat) (σ : hT) (a1 : Int32) (a2 : Int32) (a3 : Int32) (hm0 : (0, 0) ∈ dom) (hN : dom.Nodup) (hC : clo dom σ.2.2) (ρ : Int32) (σ' : hT) (hf : V_withdraw n σ a1 a2 a3 = some (some ρ, σ')) : Met l yV_withdraw (.code yV_withdraw cV_withdraw 4 (some .boolean) :: aw) ({ frames := 7, cells := 0, slots := 0, locals := 150 }) (hW (dC, dI) sz ad ca dom σ [.ref (ad 0 0), .int a1, .int a2, .int a3]) (va_Qi (fun r (_ : Unit) => r = ρ) (fun _ t => hB (dC, dI) (va_A (w9 ad ca dom σ) sz) ad ca dom σ' t) (va_A (w9 ad ca dom σ) sz)) 0 0 (va_A (w9 ad ca dom σ) sz) := by
  refine Met.ofW (cc := cV_withdraw) (maxL := 4) (ret := (some .boolean)) (by decide) rfl ?_
  intro p e s m args below meth c s₁ B hml hv
  obtain ⟨rfl, hv⟩ := hv
  have hx := B.exec
  have hb := B.bytes
  have hr := B.returns
  have hts : ∀ w ∈ aw, w.before _ s = true := fun w h => atoms_spec (ws := (.code yV_withdraw cV_withdraw 4 (some .boolean) :: aw)) B.pre w (List.mem_cons_of_mem _ h)
  have hown : s.vm.findClass RV = some m.cls := findClass_of_methodNamed B.named
  have hlocks := B.notSynchronized
  obtain ⟨hsz, hP, hK, hD0, hG⟩ := hv
  subst hsz
  have hD := hD0.self (sz := s.heap.size)
  generalize hAe : va_A (w9 ad ca dom σ) s.heap.size = A at hD ⊢
  have hA : ∀ q : Nat, s.heap.size ≤ q → A q := fun q h => by rw [← hAe]; exact Or.inr h
  obtain ⟨H, hH⟩ : ∃ H, H = s.heap := ⟨_, rfl⟩
  have hS : va_S A s.heap H [] := by rw [hH]; exact va_S.rf
  rw [← hH] at hP ⊢
  unfold V_withdraw at hf
  have hl := lv_entry ([.ref (ad 0 0), .int a1, .int a2, .int a3]) (n := 4) (Nat.le_of_ble_eq_true rfl)
  rw [lg_entry_eq]
  generalize (lg_sl ([.ref (ad 0 0), .int a1, .int a2, .int a3]) ++ List.replicate (4 - (lg_sl ([.ref (ad 0 0), .int a1, .int a2, .int a3])).length) Slot.unset).toArray = ls at hl ⊢
  have hl : lv_has ls 4 [(0, .ref (ad 0 0)), (1, .int a1), (2, .int a2), (3, .int a3)] := hl
  refine lv_aload_n (pc := 0) hx hb dV_withdraw_0 rfl (lv_at hl 0 rfl) ?_
  obtain ⟨q1, hq1, eq1⟩ := at_0 (ad := ad) (ca := ca) (σ := σ) hm0
  obtain ⟨⟨y2o, σ3⟩, hy2, hf⟩ := ob hf
  obtain ⟨y2, rfl⟩ : ∃ z, y2o = some z := by
    cases y2o with
    | none => exact (ex9_n hf).elim
    | some z => exact ⟨z, rfl⟩
  replace hf := ex9_s hf
  have hFc := w9_free hD hS hA
  refine va_callv (pc := 1) (va_runV (As := []) (rest := []) ⟨hx, hb, hml, hown, hts⟩ (t_V_needPower l dC dI ad ca dom H.size σ hm0 hN hC y2 σ3 hy2) (cwV 0 hts (gV wd_499 wd_500 wd_501 wd_254 wd_498) rfl rfl rfl (by decide +kernel) ⟨Nat.le_of_ble_eq_true rfl, Nat.le_of_ble_eq_true rfl⟩) ⟨hW_blind, va_recv (q := (RV, TV, 9)) (q0 := q1) (ci := 0) hK.1 hP rfl eq1, hW_pre hP hK hD hG⟩ rfl rfl hl.1 rfl (lv_room (Nat.le_of_ble_eq_true rfl)) dV_withdraw_1 ⟨Nat.le_of_ble_eq_true rfl, Nat.le_of_ble_eq_true rfl⟩) hS (fun q _ h => hFc q h) hFc (fun u t H1 locs ht hvm hr9 hB hz1 hk1 hS => ?_)
  obtain ⟨hP, hD, hC⟩ := hB
  rw [ht] at hP
  replace hD := hD.weaken (fun _ _ _ h => hFc _ h)
  generalize H1 = H at hP hS ⊢
  refine lv_aload_n (pc := 4) hx hb dV_withdraw_4 rfl (lv_at hl 0 rfl) ?_
  refine lv_iload_n (pc := 5) hx hb dV_withdraw_5 rfl (lv_at hl 1 rfl) ?_
  refine lv_iload_n (pc := 6) hx hb dV_withdraw_6 rfl (lv_at hl 2 rfl) ?_
  refine lv_iconst (pc := 7) (v := 3) hx hb dV_withdraw_7 (by decide) ?_
  refine lv_aload_n (pc := 8) hx hb dV_withdraw_8 rfl (lv_at hl 0 rfl) ?_
  refine lv_iload_n (pc := 9) hx hb dV_withdraw_9 rfl (lv_at hl 1 rfl) ?_
  refine lv_iload_n (pc := 10) hx hb dV_withdraw_10 rfl (lv_at hl 2 rfl) ?_
  refine lv_iload_n (pc := 11) hx hb dV_withdraw_11 rfl (lv_at hl 3 rfl) ?_
  obtain ⟨q4, hq4, eq4⟩ := at_0 (ad := ad) (ca := ca) (σ := σ3) hm0
  obtain ⟨y5, hy5, hf⟩ := ob hf
  refine vp_callSi (pc := 12) (W.runV (As := [.int a1, .int a2, .int a3]) (rest := [.int 3, .int a2, .int a1, .ref (ad 0 0)]) ⟨hx, hb, hml, hown, hts⟩ (t_V_withdrawRefusal l dC dI ad ca dom n σ3 a1 a2 a3 hm0 hN hC y5 hy5) (cwV 3 hts (gV wd_556 wd_557 wd_558 wd_254 wd_555) rfl rfl rfl (by decide +kernel) ⟨Nat.le_of_ble_eq_true rfl, Nat.le_of_ble_eq_true rfl⟩) ⟨hR_blind, va_recv (q := (RV, TV, 9)) (q0 := q4) (ci := 0) hK.1 hP rfl eq4, hR_pre hP hK hG⟩ rfl rfl hl.1 rfl (lv_room (Nat.le_of_ble_eq_true rfl)) dV_withdraw_12 ⟨Nat.le_of_ble_eq_true rfl, Nat.le_of_ble_eq_true rfl⟩) (fun r9 hr9 => ?_)
  refine W.eq (g2 := F0 m 15 ls [.int y5, .int 3, .int a2, .int a1, .ref (ad 0 0)]) (by rw [hr9]) ?_
  obtain ⟨q6, hq6, eq6⟩ := at_0 (ad := ad) (ca := ca) (σ := σ3) hm0
  obtain ⟨⟨y7o, σ8⟩, hy7, hf⟩ := ob hf
  obtain ⟨y7, rfl⟩ : ∃ z, y7o = some z := by
    cases y7o with
    | none => exact (ex9_n hf).elim
    | some z => exact ⟨z, rfl⟩
  replace hf := ex9_s hf
  have hFc := w9_free hD hS hA
  refine va_calli (pc := 15) (va_runV (As := [.int a1, .int a2, .int 3, .int y5]) (rest := []) ⟨hx, hb, hml, hown, hts⟩ (t_V_becomes l dC dI ad ca dom H.size n σ3 a1 a2 3 y5 hm0 hN hC y7 σ8 hy7) (cwV 4 hts (gV wd_548 wd_549 wd_550 wd_254 wd_547) rfl rfl rfl (by decide +kernel) ⟨Nat.le_of_ble_eq_true rfl, Nat.le_of_ble_eq_true rfl⟩) ⟨hW_blind, va_recv (q := (RV, TV, 9)) (q0 := q6) (ci := 0) hK.1 hP rfl eq6, hW_pre hP hK hD hG⟩ rfl rfl hl.1 rfl (lv_room (Nat.le_of_ble_eq_true rfl)) dV_withdraw_15 ⟨Nat.le_of_ble_eq_true rfl, Nat.le_of_ble_eq_true rfl⟩) hS (fun q _ h => hFc q h) hFc (fun r9 u t H1 locs ht hvm hr9 hB hz1 hk1 hS => ?_)
  obtain ⟨hP, hD, hC⟩ := hB
  rw [ht] at hP
  replace hD := hD.weaken (fun _ _ _ h => hFc _ h)
  generalize H1 = H at hP hS ⊢
  refine W.eq (g2 := F0 m 18 ls [.int y7]) (by rw [hr9]) ?_
  obtain ⟨hz9, hf⟩ := ite_s hf
  obtain ⟨h8, h9⟩ := Prod.mk.inj (Option.some.inj hf)
  subst h9
  have h8 := Option.some.inj h8
  exact W.zret (pc := 18) hx hb hr (nar01 hz9) (fun t ht hW => ⟨⟨_, (), rfl, h8, by rw [ht]; exact hP, hD, hC⟩, hS.F ht⟩) hS.2.2 dV_withdraw_18
def V_byteOf (σ : hT) (j0 : Nat) (a1 : Int32) : Option ((Option Int32) × hT) := if a1 < 8 then some (none, σ) else if (C_hasByte σ j0 (a1 - 8)) = 0 then some (none, σ) else Option.bind (C_byteAt σ j0 (a1 - 8)) fun y5 => some (some y5, σ)
set_option maxHeartbeats 4000000 in
set_option maxRecDepth 100000 in
theorem t_V_byteOf (l : Launch) (dC : Nat → ClassId) (dI : Nat → Nat → Nat) (ad : Nat → Nat → Nat) (ca : Nat → Nat → ClassId) (dom : List (Nat × Nat)) (sz : Nat) (σ : hT) (j0 : Nat) (a1 : Int32) (hm0 : (5, j0) ∈ dom) (hN : dom.Nodup) (hC : clo dom σ.2.2) (ρ : Int32) (σ' : hT) (hf : V_byteOf σ j0 a1 = some (some ρ, σ')) : Met l yV_byteOf (.code yV_byteOf cV_byteOf 3 (some .int) :: aw) ({ frames := 2, cells := 0, slots := 0, locals := 41 }) (hW (dC, dI) sz ad ca dom σ [.ref (ad 5 j0), .int a1]) (va_Qi (fun r (_ : Unit) => r = ρ) (fun _ t => hB (dC, dI) (va_A (w9 ad ca dom σ) sz) ad ca dom σ' t) (va_A (w9 ad ca dom σ) sz)) 0 0 (va_A (w9 ad ca dom σ) sz) := by
  refine Met.ofW (cc := cV_byteOf) (maxL := 3) (ret := (some .int)) (by decide) rfl ?_
  intro p e s m args below meth c s₁ B hml hv
  obtain ⟨rfl, hv⟩ := hv
  have hx := B.exec
  have hb := B.bytes
  have hr := B.returns
  have hts : ∀ w ∈ aw, w.before _ s = true := fun w h => atoms_spec (ws := (.code yV_byteOf cV_byteOf 3 (some .int) :: aw)) B.pre w (List.mem_cons_of_mem _ h)
  have hown : s.vm.findClass RV = some m.cls := findClass_of_methodNamed B.named
  have hlocks := B.notSynchronized
  obtain ⟨hsz, hP, hK, hD0, hG⟩ := hv
  subst hsz
  have hD := hD0.self (sz := s.heap.size)
  generalize hAe : va_A (w9 ad ca dom σ) s.heap.size = A at hD ⊢
  have hA : ∀ q : Nat, s.heap.size ≤ q → A q := fun q h => by rw [← hAe]; exact Or.inr h
  obtain ⟨H, hH⟩ : ∃ H, H = s.heap := ⟨_, rfl⟩
  have hS : va_S A s.heap H [] := by rw [hH]; exact va_S.rf
  rw [← hH] at hP ⊢
  unfold V_byteOf at hf
  have hl := lv_entry ([.ref (ad 5 j0), .int a1]) (n := 3) (Nat.le_of_ble_eq_true rfl)
  rw [lg_entry_eq]
  generalize (lg_sl ([.ref (ad 5 j0), .int a1]) ++ List.replicate (3 - (lg_sl ([.ref (ad 5 j0), .int a1])).length) Slot.unset).toArray = ls at hl ⊢
  have hl : lv_has ls 3 [(0, .ref (ad 5 j0)), (1, .int a1)] := hl
  refine lv_iload_n (pc := 0) hx hb dV_byteOf_0 rfl (lv_at hl 1 rfl) ?_
  refine lv_bipush (pc := 1) (v := 8) hx hb dV_byteOf_1 (by decide) ?_
  refine lv_isub (pc := 3) hx hb dV_byteOf_3 ?_
  refine lv_istore_n (pc := 4) hx hb dV_byteOf_4 rfl hl (by decide) rfl (fun ls hl => ?_)
  have hl : lv_has ls 3 [(2, .int (a1 - 8)), (0, .ref (ad 5 j0)), (1, .int a1)] := hl
  refine lv_iload_n (pc := 5) hx hb dV_byteOf_5 rfl (lv_at hl 2 rfl) ?_
  refine lv_bipush (pc := 6) (v := 8) hx hb dV_byteOf_6 (by decide) ?_
  refine lv_icmp_lt (pc := 8) (tgt := 19) hx hb dV_byteOf_8 rfl (fun h1 => ?_) (fun h1 => ?_)
  · replace hf := ite_t h1 hf
    exact nomatch hf
  · replace hf := ite_f h1 hf
    refine lv_aload_n (pc := 11) hx hb dV_byteOf_11 rfl (lv_at hl 1 rfl) ?_
    refine lv_iload_n (pc := 12) hx hb dV_byteOf_12 rfl (lv_at hl 0 rfl) ?_
    obtain ⟨q2, hq2, eq2⟩ := at_5 (ad := ad) (ca := ca) (σ := σ) hm0
    refine vp_callSi (pc := 13) (W.runV (As := [.int (a1 - 8)]) (rest := []) ⟨hx, hb, hml, hown, hts⟩ (t_C_hasByte l dC dI ad ca dom σ j0 (a1 - 8) hm0 hN hC (C_hasByte σ j0 (a1 - 8)) rfl) (cwV 1 hts (gV wd_519 wd_520 wd_521 wd_228 wd_518) rfl rfl rfl (by decide +kernel) ⟨Nat.le_of_ble_eq_true rfl, Nat.le_of_ble_eq_true rfl⟩) ⟨hR_blind, va_recv (q := (RC, TC, 5)) (q0 := q2) (ci := 5) hK.1 hP rfl eq2, hR_pre hP hK hG⟩ rfl rfl hl.1 rfl (lv_room (Nat.le_of_ble_eq_true rfl)) dV_byteOf_13 ⟨Nat.le_of_ble_eq_true rfl, Nat.le_of_ble_eq_true rfl⟩) (fun r9 hr9 => ?_)
    refine W.eq (g2 := F0 m 16 ls [.int (C_hasByte σ j0 (a1 - 8))]) (by rw [hr9]) ?_
    refine lv_if_ne (pc := 16) (tgt := 27) hx hb dV_byteOf_16 rfl (fun h3 => ?_) (fun h3 => ?_)
    · replace hf := ite_f h3 hf
      refine lv_aload_n (pc := 27) hx hb dV_byteOf_27 rfl (lv_at hl 1 rfl) ?_
      refine lv_iload_n (pc := 28) hx hb dV_byteOf_28 rfl (lv_at hl 0 rfl) ?_
      obtain ⟨q4, hq4, eq4⟩ := at_5 (ad := ad) (ca := ca) (σ := σ) hm0
      obtain ⟨y5, hy5, hf⟩ := ob hf
      refine vp_callSi (pc := 29) (W.runV (As := [.int (a1 - 8)]) (rest := []) ⟨hx, hb, hml, hown, hts⟩ (t_C_byteAt l dC dI ad ca dom σ j0 (a1 - 8) hm0 hN hC y5 hy5) (cwV 1 hts (gV wd_560 wd_561 wd_562 wd_228 wd_559) rfl rfl rfl (by decide +kernel) ⟨Nat.le_of_ble_eq_true rfl, Nat.le_of_ble_eq_true rfl⟩) ⟨hR_blind, va_recv (q := (RC, TC, 5)) (q0 := q4) (ci := 5) hK.1 hP rfl eq4, hR_pre hP hK hG⟩ rfl rfl hl.1 rfl (lv_room (Nat.le_of_ble_eq_true rfl)) dV_byteOf_29 ⟨Nat.le_of_ble_eq_true rfl, Nat.le_of_ble_eq_true rfl⟩) (fun r9 hr9 => ?_)
      refine W.eq (g2 := F0 m 32 ls [.int y5]) (by rw [hr9]) ?_
      obtain ⟨h8, h9⟩ := Prod.mk.inj (Option.some.inj hf)
      subst h9
      have h8 := Option.some.inj h8
      exact W.iret (pc := 32) hx hb hr (fun t ht hW => ⟨⟨_, (), rfl, h8, by rw [ht]; exact hP, hD, hC⟩, hS.F ht⟩) hS.2.2 dV_byteOf_32
    · replace hf := ite_t h3 hf
      exact nomatch hf
def V_referencePart (σ : hT) (j0 : Nat) (a1 : Int32) : Option ((Option Int32) × hT) := if (a1 - 200) < 0 then some (none, σ) else if (C_hasReference σ j0 ((a1 - 200) / 2)) = 0 then some (none, σ) else if ((a1 - 200) - (a1 - 200) / 2 * 2) = 0 then if in9 ((a1 - 200) / 2) 6 then some (some (xI σ 21 j0 (((a1 - 200) / 2)).toNatClampNeg), σ) else none else if in9 ((a1 - 200) / 2) 6 then some (some (xI σ 22 j0 (((a1 - 200) / 2)).toNatClampNeg), σ) else none
set_option maxHeartbeats 4000000 in
set_option maxRecDepth 100000 in
theorem t_V_referencePart (l : Launch) (dC : Nat → ClassId) (dI : Nat → Nat → Nat) (ad : Nat → Nat → Nat) (ca : Nat → Nat → ClassId) (dom : List (Nat × Nat)) (sz : Nat) (σ : hT) (j0 : Nat) (a1 : Int32) (hm0 : (5, j0) ∈ dom) (hN : dom.Nodup) (hC : clo dom σ.2.2) (ρ : Int32) (σ' : hT) (hf : V_referencePart σ j0 a1 = some (some ρ, σ')) : Met l yV_referencePart (.code yV_referencePart cV_referencePart 4 (some .int) :: aw) ({ frames := 1, cells := 0, slots := 0, locals := 21 }) (hW (dC, dI) sz ad ca dom σ [.ref (ad 5 j0), .int a1]) (va_Qi (fun r (_ : Unit) => r = ρ) (fun _ t => hB (dC, dI) (va_A (w9 ad ca dom σ) sz) ad ca dom σ' t) (va_A (w9 ad ca dom σ) sz)) 0 0 (va_A (w9 ad ca dom σ) sz) := by
  refine Met.ofW (cc := cV_referencePart) (maxL := 4) (ret := (some .int)) (by decide) rfl ?_
  intro p e s m args below meth c s₁ B hml hv
  obtain ⟨rfl, hv⟩ := hv
  have hx := B.exec
  have hb := B.bytes
  have hr := B.returns
  have hts : ∀ w ∈ aw, w.before _ s = true := fun w h => atoms_spec (ws := (.code yV_referencePart cV_referencePart 4 (some .int) :: aw)) B.pre w (List.mem_cons_of_mem _ h)
  have hown : s.vm.findClass RV = some m.cls := findClass_of_methodNamed B.named
  have hlocks := B.notSynchronized
  obtain ⟨hsz, hP, hK, hD0, hG⟩ := hv
  subst hsz
  have hD := hD0.self (sz := s.heap.size)
  generalize hAe : va_A (w9 ad ca dom σ) s.heap.size = A at hD ⊢
  have hA : ∀ q : Nat, s.heap.size ≤ q → A q := fun q h => by rw [← hAe]; exact Or.inr h
  obtain ⟨H, hH⟩ : ∃ H, H = s.heap := ⟨_, rfl⟩
  have hS : va_S A s.heap H [] := by rw [hH]; exact va_S.rf
  rw [← hH] at hP ⊢
  unfold V_referencePart at hf
  have hl := lv_entry ([.ref (ad 5 j0), .int a1]) (n := 4) (Nat.le_of_ble_eq_true rfl)
  rw [lg_entry_eq]
  generalize (lg_sl ([.ref (ad 5 j0), .int a1]) ++ List.replicate (4 - (lg_sl ([.ref (ad 5 j0), .int a1])).length) Slot.unset).toArray = ls at hl ⊢
  have hl : lv_has ls 4 [(0, .ref (ad 5 j0)), (1, .int a1)] := hl
  refine lv_iload_n (pc := 0) hx hb dV_referencePart_0 rfl (lv_at hl 1 rfl) ?_
  refine lv_sipush (pc := 1) (v := 200) hx hb dV_referencePart_1 (by decide) ?_
  refine lv_isub (pc := 4) hx hb dV_referencePart_4 ?_
  refine lv_istore_n (pc := 5) hx hb dV_referencePart_5 rfl hl (by decide) rfl (fun ls hl => ?_)
  have hl : lv_has ls 4 [(2, .int (a1 - 200)), (0, .ref (ad 5 j0)), (1, .int a1)] := hl
  refine lv_iload_n (pc := 6) hx hb dV_referencePart_6 rfl (lv_at hl 0 rfl) ?_
  refine lv_iconst (pc := 7) (v := 2) hx hb dV_referencePart_7 (by decide) ?_
  refine lv_idiv (pc := 8) hx hb dV_referencePart_8 (by decide) ?_
  refine lv_istore_n (pc := 9) hx hb dV_referencePart_9 rfl hl (by decide) rfl (fun ls hl => ?_)
  have hl : lv_has ls 4 [(3, .int ((a1 - 200) / 2)), (2, .int (a1 - 200)), (0, .ref (ad 5 j0)), (1, .int a1)] := hl
  refine lv_iload_n (pc := 10) hx hb dV_referencePart_10 rfl (lv_at hl 1 rfl) ?_
  refine lv_if_lt (pc := 11) (tgt := 22) hx hb dV_referencePart_11 rfl (fun h1 => ?_) (fun h1 => ?_)
  · replace hf := ite_t h1 hf
    exact nomatch hf
  · replace hf := ite_f h1 hf
    refine lv_aload_n (pc := 14) hx hb dV_referencePart_14 rfl (lv_at hl 2 rfl) ?_
    refine lv_iload_n (pc := 15) hx hb dV_referencePart_15 rfl (lv_at hl 0 rfl) ?_
    obtain ⟨q2, hq2, eq2⟩ := at_5 (ad := ad) (ca := ca) (σ := σ) hm0
    refine vp_callSi (pc := 16) (W.runV (As := [.int ((a1 - 200) / 2)]) (rest := []) ⟨hx, hb, hml, hown, hts⟩ (t_C_hasReference l dC dI ad ca dom σ j0 ((a1 - 200) / 2) hm0 hN hC (C_hasReference σ j0 ((a1 - 200) / 2)) rfl) (cwV 1 hts (gV wd_536 wd_537 wd_538 wd_228 wd_535) rfl rfl rfl (by decide +kernel) ⟨Nat.le_of_ble_eq_true rfl, Nat.le_of_ble_eq_true rfl⟩) ⟨hR_blind, va_recv (q := (RC, TC, 5)) (q0 := q2) (ci := 5) hK.1 hP rfl eq2, hR_pre hP hK hG⟩ rfl rfl hl.1 rfl (lv_room (Nat.le_of_ble_eq_true rfl)) dV_referencePart_16 ⟨Nat.le_of_ble_eq_true rfl, Nat.le_of_ble_eq_true rfl⟩) (fun r9 hr9 => ?_)
    refine W.eq (g2 := F0 m 19 ls [.int (C_hasReference σ j0 ((a1 - 200) / 2))]) (by rw [hr9]) ?_
    refine lv_if_ne (pc := 19) (tgt := 30) hx hb dV_referencePart_19 rfl (fun h3 => ?_) (fun h3 => ?_)
    · replace hf := ite_f h3 hf
      refine lv_iload_n (pc := 30) hx hb dV_referencePart_30 rfl (lv_at hl 1 rfl) ?_
      refine lv_iconst (pc := 31) (v := 2) hx hb dV_referencePart_31 (by decide) ?_
      refine lv_irem (pc := 32) hx hb dV_referencePart_32 (by decide) ?_
      refine lv_if_ne (pc := 33) (tgt := 45) hx hb dV_referencePart_33 rfl (fun h4 => ?_) (fun h4 => ?_)
      · replace hf := ite_f h4 hf
        refine lv_aload_n (pc := 45) hx hb dV_referencePart_45 rfl (lv_at hl 2 rfl) ?_
        obtain ⟨q5, hq5, eq5⟩ := at_5 (ad := ad) (ca := ca) (σ := σ) hm0
        refine va_get (D := (dC, dI)) (cl := kCl) (C := RC) (T := TC) (N := 5) (pc := 46) hx hb hts inC hown hK.1 hP q5 eq5 rfl 3 (by decide) (hts _ wd_334) (fun _ h9 => h9) rfl dV_referencePart_46 ?_
        refine lv_iload_n (pc := 49) hx hb dV_referencePart_49 rfl (lv_at hl 0 rfl) ?_
        obtain ⟨hv6, hf⟩ := ite_s hf
        obtain ⟨q7, hq7, eq7⟩ := at_22 (ad := ad) (ca := ca) (σ := σ) (cm_5_3 hC hm0)
        refine va_iald (D := (dC, dI)) (cl := kCl) (pc := 50) hx hb (hK.2 22 j0 .int (cm_5_3 hC hm0) rfl) hP q7 0 eq7 rfl (hv6) dV_referencePart_50 ?_
        refine W.eq (g2 := F0 m 51 ls [.int (xI σ 22 j0 (((a1 - 200) / 2)).toNatClampNeg)]) rfl ?_
        obtain ⟨h8, h9⟩ := Prod.mk.inj (Option.some.inj hf)
        subst h9
        have h8 := Option.some.inj h8
        exact W.iret (pc := 51) hx hb hr (fun t ht hW => ⟨⟨_, (), rfl, h8, by rw [ht]; exact hP, hD, hC⟩, hS.F ht⟩) hS.2.2 dV_referencePart_51
      · replace hf := ite_t h4 hf
        refine lv_aload_n (pc := 36) hx hb dV_referencePart_36 rfl (lv_at hl 2 rfl) ?_
        obtain ⟨q8, hq8, eq8⟩ := at_5 (ad := ad) (ca := ca) (σ := σ) hm0
        refine va_get (D := (dC, dI)) (cl := kCl) (C := RC) (T := TC) (N := 5) (pc := 37) hx hb hts inC hown hK.1 hP q8 eq8 rfl 2 (by decide) (hts _ wd_333) (fun _ h9 => h9) rfl dV_referencePart_37 ?_
        refine lv_iload_n (pc := 40) hx hb dV_referencePart_40 rfl (lv_at hl 0 rfl) ?_
        obtain ⟨hv9, hf⟩ := ite_s hf
        obtain ⟨q10, hq10, eq10⟩ := at_21 (ad := ad) (ca := ca) (σ := σ) (cm_5_2 hC hm0)
        refine va_iald (D := (dC, dI)) (cl := kCl) (pc := 41) hx hb (hK.2 21 j0 .int (cm_5_2 hC hm0) rfl) hP q10 0 eq10 rfl (hv9) dV_referencePart_41 ?_
        refine W.eq (g2 := F0 m 42 ls [.int (xI σ 21 j0 (((a1 - 200) / 2)).toNatClampNeg)]) rfl ?_
        refine lv_goto (pc := 42) (tgt := 51) hx hb dV_referencePart_42 rfl ?_
        obtain ⟨h8, h9⟩ := Prod.mk.inj (Option.some.inj hf)
        subst h9
        have h8 := Option.some.inj h8
        exact W.iret (pc := 51) hx hb hr (fun t ht hW => ⟨⟨_, (), rfl, h8, by rw [ht]; exact hP, hD, hC⟩, hS.F ht⟩) hS.2.2 dV_referencePart_51
    · replace hf := ite_t h3 hf
      exact nomatch hf
def V_look (n : Nat) (σ : hT) (a1 : Int32) (a2 : Int32) (a3 : Int32) : Option ((Option Int32) × hT) := Option.bind (V_revisionAt σ a1 a2) fun y2 => hq y2 (some (none, σ)) fun j5 => if a3 = 0 then some (some (xI σ 802 j5 0), σ) else if a3 = 1 then some (some (xI σ 801 j5 0), σ) else if a3 = 2 then some (some (xI σ 601 (3 * j5 + 2) 0), σ) else if a3 = 3 then some (some (xI σ 604 (3 * j5 + 2) 0), σ) else if a3 = 4 then Option.bind (K_sizeOf n σ (3 * j5 + 2)) fun ⟨y21, σ22⟩ => some (some y21, σ22) else Option.bind (V_byteOf σ (3 * j5 + 2) a3) fun ⟨y24o, σ25⟩ => ex9 y24o σ25 fun y24 => some (some y24, σ25)
set_option maxHeartbeats 4000000 in
set_option maxRecDepth 100000 in
theorem t_V_look (l : Launch) (dC : Nat → ClassId) (dI : Nat → Nat → Nat) (ad : Nat → Nat → Nat) (ca : Nat → Nat → ClassId) (dom : List (Nat × Nat)) (sz : Nat) (n : Nat) (σ : hT) (a1 : Int32) (a2 : Int32) (a3 : Int32) (hm0 : (0, 0) ∈ dom) (hN : dom.Nodup) (hC : clo dom σ.2.2) (ρ : Int32) (σ' : hT) (hf : V_look n σ a1 a2 a3 = some (some ρ, σ')) : Met l yV_look (.code yV_look cV_look 5 (some .int) :: aw) ({ frames := 4, cells := 0, slots := 0, locals := 80 }) (hW (dC, dI) sz ad ca dom σ [.ref (ad 0 0), .int a1, .int a2, .int a3]) (va_Qi (fun r (_ : Unit) => r = ρ) (fun _ t => hB (dC, dI) (va_A (w9 ad ca dom σ) sz) ad ca dom σ' t) (va_A (w9 ad ca dom σ) sz)) 0 0 (va_A (w9 ad ca dom σ) sz) := by
  refine Met.ofW (cc := cV_look) (maxL := 5) (ret := (some .int)) (by decide) rfl ?_
  intro p e s m args below meth c s₁ B hml hv
  obtain ⟨rfl, hv⟩ := hv
  have hx := B.exec
  have hb := B.bytes
  have hr := B.returns
  have hts : ∀ w ∈ aw, w.before _ s = true := fun w h => atoms_spec (ws := (.code yV_look cV_look 5 (some .int) :: aw)) B.pre w (List.mem_cons_of_mem _ h)
  have hown : s.vm.findClass RV = some m.cls := findClass_of_methodNamed B.named
  have hlocks := B.notSynchronized
  obtain ⟨hsz, hP, hK, hD0, hG⟩ := hv
  subst hsz
  have hD := hD0.self (sz := s.heap.size)
  generalize hAe : va_A (w9 ad ca dom σ) s.heap.size = A at hD ⊢
  have hA : ∀ q : Nat, s.heap.size ≤ q → A q := fun q h => by rw [← hAe]; exact Or.inr h
  obtain ⟨H, hH⟩ : ∃ H, H = s.heap := ⟨_, rfl⟩
  have hS : va_S A s.heap H [] := by rw [hH]; exact va_S.rf
  rw [← hH] at hP ⊢
  unfold V_look at hf
  have hl := lv_entry ([.ref (ad 0 0), .int a1, .int a2, .int a3]) (n := 5) (Nat.le_of_ble_eq_true rfl)
  rw [lg_entry_eq]
  generalize (lg_sl ([.ref (ad 0 0), .int a1, .int a2, .int a3]) ++ List.replicate (5 - (lg_sl ([.ref (ad 0 0), .int a1, .int a2, .int a3])).length) Slot.unset).toArray = ls at hl ⊢
  have hl : lv_has ls 5 [(0, .ref (ad 0 0)), (1, .int a1), (2, .int a2), (3, .int a3)] := hl
  refine lv_aload_n (pc := 0) hx hb dV_look_0 rfl (lv_at hl 0 rfl) ?_
  refine lv_iload_n (pc := 1) hx hb dV_look_1 rfl (lv_at hl 1 rfl) ?_
  refine lv_iload_n (pc := 2) hx hb dV_look_2 rfl (lv_at hl 2 rfl) ?_
  obtain ⟨q1, hq1, eq1⟩ := at_0 (ad := ad) (ca := ca) (σ := σ) hm0
  obtain ⟨y2, hy2, hf⟩ := ob hf
  refine va_cse (pc := 3) (W.runV (As := [.int a1, .int a2]) (rest := []) ⟨hx, hb, hml, hown, hts⟩ (t_V_revisionAt l dC dI ad ca dom σ a1 a2 hm0 hN hC y2 hy2) (cwV 2 hts (gV wd_324 wd_325 wd_326 wd_254 wd_323) rfl rfl rfl (by decide +kernel) ⟨Nat.le_of_ble_eq_true rfl, Nat.le_of_ble_eq_true rfl⟩) ⟨hR_blind, va_recv (q := (RV, TV, 9)) (q0 := q1) (ci := 0) hK.1 hP rfl eq1, hR_pre hP hK hG⟩ rfl rfl hl.1 rfl (lv_room (Nat.le_of_ble_eq_true rfl)) dV_look_3 ⟨Nat.le_of_ble_eq_true rfl, Nat.le_of_ble_eq_true rfl⟩) (fun r9 hr9 => ?_)
  obtain ⟨hr9, hmy3⟩ := hr9
  refine W.eq (g2 := F0 m 6 ls [va_re (ad 7) y2]) (by rw [hr9]) ?_
  rcases hE4 : y2 with _ | j5
  · replace hf := hq_n hE4 hf
    refine W.eq (g2 := F0 m 6 ls [.null]) rfl ?_
    refine lv_astoreN (pc := 6) hx hb dV_look_6 hl (by decide) rfl (fun ls hl => ?_)
    have hl : lv_has ls 5 [(4, .null), (0, .ref (ad 0 0)), (1, .int a1), (2, .int a2), (3, .int a3)] := hl
    refine lv_aloadN (pc := 8) hx hb dV_look_8 (lv_at hl 0 rfl) ?_
    refine lv_ifnonnullN (pc := 10) hx hb dV_look_10 ?_
    exact nomatch hf
  · replace hf := hq_s hE4 hf
    have hm6 : (7, j5) ∈ dom := (hmy3 _ hE4)
    refine W.eq (g2 := F0 m 6 ls [.ref (ad 7 j5)]) rfl ?_
    refine lv_astore (pc := 6) hx hb dV_look_6 hl (by decide) rfl (fun ls hl => ?_)
    have hl : lv_has ls 5 [(4, .ref (ad 7 j5)), (0, .ref (ad 0 0)), (1, .int a1), (2, .int a2), (3, .int a3)] := hl
    refine lv_aload (pc := 8) hx hb dV_look_8 (lv_at hl 0 rfl) ?_
    refine lv_ifnonnull (pc := 10) (tgt := 21) hx hb dV_look_10 rfl ?_
    refine lv_iload_n (pc := 21) hx hb dV_look_21 rfl (lv_at hl 4 rfl) ?_
    by_cases hw7 : a3 = 0
    · replace hf := ite_t hw7 hf
      refine lv_tableIn (pc := 22) (tgt := 56) (off := 34) hx hb dV_look_22 (by rw [hw7]; decide) (by rw [hw7]; decide) (by rw [hw7]; decide) rfl ?_
      refine lv_aload (pc := 56) hx hb dV_look_56 (lv_at hl 0 rfl) ?_
      obtain ⟨q8, hq8, eq8⟩ := at_7 (ad := ad) (ca := ca) (σ := σ) hm6
      refine va_get (D := (dC, dI)) (cl := kCl) (C := RS) (T := TS) (N := 3) (pc := 58) hx hb hts inS hown hK.1 hP q8 eq8 rfl 2 (by decide) (hts _ wd_327) (fun _ h9 => h9) rfl dV_look_58 ?_
      obtain ⟨h8, h9⟩ := Prod.mk.inj (Option.some.inj hf)
      subst h9
      have h8 := Option.some.inj h8
      exact W.iret (pc := 61) hx hb hr (fun t ht hW => ⟨⟨_, (), rfl, h8, by rw [ht]; exact hP, hD, hC⟩, hS.F ht⟩) hS.2.2 dV_look_61
    replace hf := ite_f hw7 hf
    by_cases hw9 : a3 = 1
    · replace hf := ite_t hw9 hf
      refine lv_tableIn (pc := 22) (tgt := 62) (off := 40) hx hb dV_look_22 (by rw [hw9]; decide) (by rw [hw9]; decide) (by rw [hw9]; decide) rfl ?_
      refine lv_aload (pc := 62) hx hb dV_look_62 (lv_at hl 0 rfl) ?_
      obtain ⟨q10, hq10, eq10⟩ := at_7 (ad := ad) (ca := ca) (σ := σ) hm6
      refine va_get (D := (dC, dI)) (cl := kCl) (C := RS) (T := TS) (N := 3) (pc := 64) hx hb hts inS hown hK.1 hP q10 eq10 rfl 1 (by decide) (hts _ wd_414) (fun _ h9 => h9) rfl dV_look_64 ?_
      obtain ⟨h8, h9⟩ := Prod.mk.inj (Option.some.inj hf)
      subst h9
      have h8 := Option.some.inj h8
      exact W.iret (pc := 67) hx hb hr (fun t ht hW => ⟨⟨_, (), rfl, h8, by rw [ht]; exact hP, hD, hC⟩, hS.F ht⟩) hS.2.2 dV_look_67
    replace hf := ite_f hw9 hf
    by_cases hw11 : a3 = 2
    · replace hf := ite_t hw11 hf
      refine lv_tableIn (pc := 22) (tgt := 68) (off := 46) hx hb dV_look_22 (by rw [hw11]; decide) (by rw [hw11]; decide) (by rw [hw11]; decide) rfl ?_
      refine lv_aload (pc := 68) hx hb dV_look_68 (lv_at hl 0 rfl) ?_
      obtain ⟨q12, hq12, eq12⟩ := at_7 (ad := ad) (ca := ca) (σ := σ) hm6
      refine va_get (D := (dC, dI)) (cl := kCl) (C := RS) (T := TS) (N := 3) (pc := 70) hx hb hts inS hown hK.1 hP q12 eq12 rfl 0 (by decide) (hts _ wd_345) (fun _ h9 => h9) rfl dV_look_70 ?_
      obtain ⟨q13, hq13, eq13⟩ := at_5 (ad := ad) (ca := ca) (σ := σ) (cm_7_0 hC hm6)
      refine va_get (D := (dC, dI)) (cl := kCl) (C := RC) (T := TC) (N := 5) (pc := 73) hx hb hts inC hown hK.1 hP q13 eq13 rfl 1 (by decide) (hts _ wd_563) (fun _ h9 => h9) rfl dV_look_73 ?_
      obtain ⟨h8, h9⟩ := Prod.mk.inj (Option.some.inj hf)
      subst h9
      have h8 := Option.some.inj h8
      exact W.iret (pc := 76) hx hb hr (fun t ht hW => ⟨⟨_, (), rfl, h8, by rw [ht]; exact hP, hD, hC⟩, hS.F ht⟩) hS.2.2 dV_look_76
    replace hf := ite_f hw11 hf
    by_cases hw14 : a3 = 3
    · replace hf := ite_t hw14 hf
      refine lv_tableIn (pc := 22) (tgt := 77) (off := 55) hx hb dV_look_22 (by rw [hw14]; decide) (by rw [hw14]; decide) (by rw [hw14]; decide) rfl ?_
      refine lv_aload (pc := 77) hx hb dV_look_77 (lv_at hl 0 rfl) ?_
      obtain ⟨q15, hq15, eq15⟩ := at_7 (ad := ad) (ca := ca) (σ := σ) hm6
      refine va_get (D := (dC, dI)) (cl := kCl) (C := RS) (T := TS) (N := 3) (pc := 79) hx hb hts inS hown hK.1 hP q15 eq15 rfl 0 (by decide) (hts _ wd_345) (fun _ h9 => h9) rfl dV_look_79 ?_
      obtain ⟨q16, hq16, eq16⟩ := at_5 (ad := ad) (ca := ca) (σ := σ) (cm_7_0 hC hm6)
      refine va_get (D := (dC, dI)) (cl := kCl) (C := RC) (T := TC) (N := 5) (pc := 82) hx hb hts inC hown hK.1 hP q16 eq16 rfl 4 (by decide) (hts _ wd_332) (fun _ h9 => h9) rfl dV_look_82 ?_
      obtain ⟨h8, h9⟩ := Prod.mk.inj (Option.some.inj hf)
      subst h9
      have h8 := Option.some.inj h8
      exact W.iret (pc := 85) hx hb hr (fun t ht hW => ⟨⟨_, (), rfl, h8, by rw [ht]; exact hP, hD, hC⟩, hS.F ht⟩) hS.2.2 dV_look_85
    replace hf := ite_f hw14 hf
    by_cases hw17 : a3 = 4
    · replace hf := ite_t hw17 hf
      refine lv_tableIn (pc := 22) (tgt := 86) (off := 64) hx hb dV_look_22 (by rw [hw17]; decide) (by rw [hw17]; decide) (by rw [hw17]; decide) rfl ?_
      refine lv_aload_n (pc := 86) hx hb dV_look_86 rfl (lv_at hl 1 rfl) ?_
      obtain ⟨q18, hq18, eq18⟩ := at_0 (ad := ad) (ca := ca) (σ := σ) hm0
      refine va_get (D := (dC, dI)) (cl := kCl) (C := RV) (T := TV) (N := 9) (pc := 87) hx hb hts inV hown hK.1 hP q18 eq18 rfl 6 (by decide) (hts _ wd_360) (fun _ h9 => h9) rfl dV_look_87 ?_
      refine lv_aload (pc := 90) hx hb dV_look_90 (lv_at hl 0 rfl) ?_
      obtain ⟨q19, hq19, eq19⟩ := at_7 (ad := ad) (ca := ca) (σ := σ) hm6
      refine va_get (D := (dC, dI)) (cl := kCl) (C := RS) (T := TS) (N := 3) (pc := 92) hx hb hts inS hown hK.1 hP q19 eq19 rfl 0 (by decide) (hts _ wd_345) (fun _ h9 => h9) rfl dV_look_92 ?_
      obtain ⟨q20, hq20, eq20⟩ := at_2 (ad := ad) (ca := ca) (σ := σ) (cm_0_6 hC hm0)
      obtain ⟨⟨y21, σ22⟩, hy21, hf⟩ := ob hf
      have hFc := w9_free hD hS hA
      refine va_calli (pc := 95) (va_runV (As := [.ref (ad 5 (3 * j5 + 2))]) (rest := []) ⟨hx, hb, hml, hown, hts⟩ (t_K_sizeOf l dC dI ad ca dom H.size n σ (3 * j5 + 2) (cm_0_6 hC hm0) (cm_7_0 hC hm6) hN hC y21 σ22 hy21) (cwV 1 hts (gV wd_565 wd_566 wd_567 wd_275 wd_564) rfl rfl rfl (by decide +kernel) ⟨Nat.le_of_ble_eq_true rfl, Nat.le_of_ble_eq_true rfl⟩) ⟨hW_blind, va_recv (q := (RK, TK, 3)) (q0 := q20) (ci := 2) hK.1 hP rfl eq20, hW_pre hP hK hD hG⟩ rfl rfl hl.1 rfl (lv_room (Nat.le_of_ble_eq_true rfl)) dV_look_95 ⟨Nat.le_of_ble_eq_true rfl, Nat.le_of_ble_eq_true rfl⟩) hS (fun q _ h => hFc q h) hFc (fun r9 u t H1 locs ht hvm hr9 hB hz1 hk1 hS => ?_)
      obtain ⟨hP, hD, hC⟩ := hB
      rw [ht] at hP
      replace hD := hD.weaken (fun _ _ _ h => hFc _ h)
      generalize H1 = H at hP hS ⊢
      refine W.eq (g2 := F0 m 98 ls [.int y21]) (by rw [hr9]) ?_
      obtain ⟨h8, h9⟩ := Prod.mk.inj (Option.some.inj hf)
      subst h9
      have h8 := Option.some.inj h8
      exact W.iret (pc := 98) hx hb hr (fun t ht hW => ⟨⟨_, (), rfl, h8, by rw [ht]; exact hP, hD, hC⟩, hS.F ht⟩) hS.2.2 dV_look_98
    replace hf := ite_f hw17 hf
    refine lv_tableOut (pc := 22) (tgt := 99) hx hb dV_look_22 (by have := lv_neT hw7 (a := 0) (by decide); have := lv_neT hw9 (a := 1) (by decide); have := lv_neT hw11 (a := 2) (by decide); have := lv_neT hw14 (a := 3) (by decide); have := lv_neT hw17 (a := 4) (by decide); omega) rfl ?_
    refine lv_aload (pc := 99) hx hb dV_look_99 (lv_at hl 0 rfl) ?_
    obtain ⟨q23, hq23, eq23⟩ := at_7 (ad := ad) (ca := ca) (σ := σ) hm6
    refine va_get (D := (dC, dI)) (cl := kCl) (C := RS) (T := TS) (N := 3) (pc := 101) hx hb hts inS hown hK.1 hP q23 eq23 rfl 0 (by decide) (hts _ wd_345) (fun _ h9 => h9) rfl dV_look_101 ?_
    refine lv_iload_n (pc := 104) hx hb dV_look_104 rfl (lv_at hl 4 rfl) ?_
    obtain ⟨⟨y24o, σ25⟩, hy24, hf⟩ := ob hf
    obtain ⟨y24, rfl⟩ : ∃ z, y24o = some z := by
      cases y24o with
      | none => exact (ex9_n hf).elim
      | some z => exact ⟨z, rfl⟩
    replace hf := ex9_s hf
    have hFc := w9_free hD hS hA
    refine va_calli (pc := 105) (va_runS (As := [.ref (ad 5 (3 * j5 + 2)), .int a3]) (rest := []) ⟨hx, hb, hml, hown, hts⟩ (t_V_byteOf l dC dI ad ca dom H.size σ (3 * j5 + 2) a3 (cm_7_0 hC hm6) hN hC y24 σ25 hy24) (cwS 2 hts (gS wd_569 wd_570 wd_254 wd_568) rfl rfl rfl (by decide +kernel) ⟨Nat.le_of_ble_eq_true rfl, Nat.le_of_ble_eq_true rfl⟩) ⟨hW_blind, hW_pre hP hK hD hG⟩ rfl rfl hl.1 rfl (lv_room (Nat.le_of_ble_eq_true rfl)) dV_look_105 ⟨Nat.le_of_ble_eq_true rfl, Nat.le_of_ble_eq_true rfl⟩) hS (fun q _ h => hFc q h) hFc (fun r9 u t H1 locs ht hvm hr9 hB hz1 hk1 hS => ?_)
    obtain ⟨hP, hD, hC⟩ := hB
    rw [ht] at hP
    replace hD := hD.weaken (fun _ _ _ h => hFc _ h)
    generalize H1 = H at hP hS ⊢
    refine W.eq (g2 := F0 m 108 ls [.int y24]) (by rw [hr9]) ?_
    obtain ⟨h8, h9⟩ := Prod.mk.inj (Option.some.inj hf)
    subst h9
    have h8 := Option.some.inj h8
    exact W.iret (pc := 108) hx hb hr (fun t ht hW => ⟨⟨_, (), rfl, h8, by rw [ht]; exact hP, hD, hC⟩, hS.F ht⟩) hS.2.2 dV_look_108
def V_reference (n : Nat) (σ : hT) (a1 : Int32) (a2 : Int32) (a3 : Int32) (a4 : Int32) : Option ((Option Int32) × hT) := Option.bind (V_revisionAt σ a1 a2) fun y2 => hq y2 (some (none, σ)) fun j5 => if (C_hasReference σ (3 * j5 + 2) a3) = 0 then some (none, σ) else if in9 a3 6 then if in9 a3 6 then if a4 = 0 then some (some (xI σ 21 (3 * j5 + 2) (a3).toNatClampNeg), σ) else if a4 = 1 then some (some (xI σ 22 (3 * j5 + 2) (a3).toNatClampNeg), σ) else if a4 = 2 then Option.bind (V_resolved n σ (xI σ 21 (3 * j5 + 2) (a3).toNatClampNeg) (xI σ 22 (3 * j5 + 2) (a3).toNatClampNeg)) fun y22 => some (some y22, σ) else some (none, σ) else none else none
set_option maxHeartbeats 4000000 in
set_option maxRecDepth 100000 in
theorem t_V_reference (l : Launch) (dC : Nat → ClassId) (dI : Nat → Nat → Nat) (ad : Nat → Nat → Nat) (ca : Nat → Nat → ClassId) (dom : List (Nat × Nat)) (sz : Nat) (n : Nat) (σ : hT) (a1 : Int32) (a2 : Int32) (a3 : Int32) (a4 : Int32) (hm0 : (0, 0) ∈ dom) (hN : dom.Nodup) (hC : clo dom σ.2.2) (ρ : Int32) (σ' : hT) (hf : V_reference n σ a1 a2 a3 a4 = some (some ρ, σ')) : Met l yV_reference (.code yV_reference cV_reference 8 (some .int) :: aw) ({ frames := 3, cells := 0, slots := 0, locals := 64 }) (hW (dC, dI) sz ad ca dom σ [.ref (ad 0 0), .int a1, .int a2, .int a3, .int a4]) (va_Qi (fun r (_ : Unit) => r = ρ) (fun _ t => hB (dC, dI) (va_A (w9 ad ca dom σ) sz) ad ca dom σ' t) (va_A (w9 ad ca dom σ) sz)) 0 0 (va_A (w9 ad ca dom σ) sz) := by
  refine Met.ofW (cc := cV_reference) (maxL := 8) (ret := (some .int)) (by decide) rfl ?_
  intro p e s m args below meth c s₁ B hml hv
  obtain ⟨rfl, hv⟩ := hv
  have hx := B.exec
  have hb := B.bytes
  have hr := B.returns
  have hts : ∀ w ∈ aw, w.before _ s = true := fun w h => atoms_spec (ws := (.code yV_reference cV_reference 8 (some .int) :: aw)) B.pre w (List.mem_cons_of_mem _ h)
  have hown : s.vm.findClass RV = some m.cls := findClass_of_methodNamed B.named
  have hlocks := B.notSynchronized
  obtain ⟨hsz, hP, hK, hD0, hG⟩ := hv
  subst hsz
  have hD := hD0.self (sz := s.heap.size)
  generalize hAe : va_A (w9 ad ca dom σ) s.heap.size = A at hD ⊢
  have hA : ∀ q : Nat, s.heap.size ≤ q → A q := fun q h => by rw [← hAe]; exact Or.inr h
  obtain ⟨H, hH⟩ : ∃ H, H = s.heap := ⟨_, rfl⟩
  have hS : va_S A s.heap H [] := by rw [hH]; exact va_S.rf
  rw [← hH] at hP ⊢
  unfold V_reference at hf
  have hl := lv_entry ([.ref (ad 0 0), .int a1, .int a2, .int a3, .int a4]) (n := 8) (Nat.le_of_ble_eq_true rfl)
  rw [lg_entry_eq]
  generalize (lg_sl ([.ref (ad 0 0), .int a1, .int a2, .int a3, .int a4]) ++ List.replicate (8 - (lg_sl ([.ref (ad 0 0), .int a1, .int a2, .int a3, .int a4])).length) Slot.unset).toArray = ls at hl ⊢
  have hl : lv_has ls 8 [(0, .ref (ad 0 0)), (1, .int a1), (2, .int a2), (3, .int a3), (4, .int a4)] := hl
  refine lv_aload_n (pc := 0) hx hb dV_reference_0 rfl (lv_at hl 0 rfl) ?_
  refine lv_iload_n (pc := 1) hx hb dV_reference_1 rfl (lv_at hl 1 rfl) ?_
  refine lv_iload_n (pc := 2) hx hb dV_reference_2 rfl (lv_at hl 2 rfl) ?_
  obtain ⟨q1, hq1, eq1⟩ := at_0 (ad := ad) (ca := ca) (σ := σ) hm0
  obtain ⟨y2, hy2, hf⟩ := ob hf
  refine va_cse (pc := 3) (W.runV (As := [.int a1, .int a2]) (rest := []) ⟨hx, hb, hml, hown, hts⟩ (t_V_revisionAt l dC dI ad ca dom σ a1 a2 hm0 hN hC y2 hy2) (cwV 2 hts (gV wd_324 wd_325 wd_326 wd_254 wd_323) rfl rfl rfl (by decide +kernel) ⟨Nat.le_of_ble_eq_true rfl, Nat.le_of_ble_eq_true rfl⟩) ⟨hR_blind, va_recv (q := (RV, TV, 9)) (q0 := q1) (ci := 0) hK.1 hP rfl eq1, hR_pre hP hK hG⟩ rfl rfl hl.1 rfl (lv_room (Nat.le_of_ble_eq_true rfl)) dV_reference_3 ⟨Nat.le_of_ble_eq_true rfl, Nat.le_of_ble_eq_true rfl⟩) (fun r9 hr9 => ?_)
  obtain ⟨hr9, hmy3⟩ := hr9
  refine W.eq (g2 := F0 m 6 ls [va_re (ad 7) y2]) (by rw [hr9]) ?_
  rcases hE4 : y2 with _ | j5
  · replace hf := hq_n hE4 hf
    refine W.eq (g2 := F0 m 6 ls [.null]) rfl ?_
    refine lv_astoreN (pc := 6) hx hb dV_reference_6 hl (by decide) rfl (fun ls hl => ?_)
    have hl : lv_has ls 8 [(5, .null), (0, .ref (ad 0 0)), (1, .int a1), (2, .int a2), (3, .int a3), (4, .int a4)] := hl
    refine lv_aloadN (pc := 8) hx hb dV_reference_8 (lv_at hl 0 rfl) ?_
    refine lv_ifnullN (pc := 10) (tgt := 25) hx hb dV_reference_10 rfl ?_
    exact nomatch hf
  · replace hf := hq_s hE4 hf
    have hm6 : (7, j5) ∈ dom := (hmy3 _ hE4)
    refine W.eq (g2 := F0 m 6 ls [.ref (ad 7 j5)]) rfl ?_
    refine lv_astore (pc := 6) hx hb dV_reference_6 hl (by decide) rfl (fun ls hl => ?_)
    have hl : lv_has ls 8 [(5, .ref (ad 7 j5)), (0, .ref (ad 0 0)), (1, .int a1), (2, .int a2), (3, .int a3), (4, .int a4)] := hl
    refine lv_aload (pc := 8) hx hb dV_reference_8 (lv_at hl 0 rfl) ?_
    refine lv_ifnull (pc := 10) hx hb dV_reference_10 ?_
    refine lv_aload (pc := 13) hx hb dV_reference_13 (lv_at hl 0 rfl) ?_
    obtain ⟨q7, hq7, eq7⟩ := at_7 (ad := ad) (ca := ca) (σ := σ) hm6
    refine va_get (D := (dC, dI)) (cl := kCl) (C := RS) (T := TS) (N := 3) (pc := 15) hx hb hts inS hown hK.1 hP q7 eq7 rfl 0 (by decide) (hts _ wd_345) (fun _ h9 => h9) rfl dV_reference_15 ?_
    refine lv_iload_n (pc := 18) hx hb dV_reference_18 rfl (lv_at hl 4 rfl) ?_
    obtain ⟨q8, hq8, eq8⟩ := at_5 (ad := ad) (ca := ca) (σ := σ) (cm_7_0 hC hm6)
    refine vp_callSi (pc := 19) (W.runV (As := [.int a3]) (rest := []) ⟨hx, hb, hml, hown, hts⟩ (t_C_hasReference l dC dI ad ca dom σ (3 * j5 + 2) a3 (cm_7_0 hC hm6) hN hC (C_hasReference σ (3 * j5 + 2) a3) rfl) (cwV 1 hts (gV wd_536 wd_537 wd_538 wd_228 wd_535) rfl rfl rfl (by decide +kernel) ⟨Nat.le_of_ble_eq_true rfl, Nat.le_of_ble_eq_true rfl⟩) ⟨hR_blind, va_recv (q := (RC, TC, 5)) (q0 := q8) (ci := 5) hK.1 hP rfl eq8, hR_pre hP hK hG⟩ rfl rfl hl.1 rfl (lv_room (Nat.le_of_ble_eq_true rfl)) dV_reference_19 ⟨Nat.le_of_ble_eq_true rfl, Nat.le_of_ble_eq_true rfl⟩) (fun r9 hr9 => ?_)
    refine W.eq (g2 := F0 m 22 ls [.int (C_hasReference σ (3 * j5 + 2) a3)]) (by rw [hr9]) ?_
    refine lv_if_ne (pc := 22) (tgt := 33) hx hb dV_reference_22 rfl (fun h9 => ?_) (fun h9 => ?_)
    · replace hf := ite_f h9 hf
      refine lv_aload (pc := 33) hx hb dV_reference_33 (lv_at hl 0 rfl) ?_
      obtain ⟨q10, hq10, eq10⟩ := at_7 (ad := ad) (ca := ca) (σ := σ) hm6
      refine va_get (D := (dC, dI)) (cl := kCl) (C := RS) (T := TS) (N := 3) (pc := 35) hx hb hts inS hown hK.1 hP q10 eq10 rfl 0 (by decide) (hts _ wd_345) (fun _ h9 => h9) rfl dV_reference_35 ?_
      obtain ⟨q11, hq11, eq11⟩ := at_5 (ad := ad) (ca := ca) (σ := σ) (cm_7_0 hC hm6)
      refine va_get (D := (dC, dI)) (cl := kCl) (C := RC) (T := TC) (N := 5) (pc := 38) hx hb hts inC hown hK.1 hP q11 eq11 rfl 2 (by decide) (hts _ wd_333) (fun _ h9 => h9) rfl dV_reference_38 ?_
      refine lv_iload_n (pc := 41) hx hb dV_reference_41 rfl (lv_at hl 4 rfl) ?_
      obtain ⟨hv12, hf⟩ := ite_s hf
      obtain ⟨q13, hq13, eq13⟩ := at_21 (ad := ad) (ca := ca) (σ := σ) (cm_5_2 hC (cm_7_0 hC hm6))
      refine va_iald (D := (dC, dI)) (cl := kCl) (pc := 42) hx hb (hK.2 21 (3 * j5 + 2) .int (cm_5_2 hC (cm_7_0 hC hm6)) rfl) hP q13 0 eq13 rfl (hv12) dV_reference_42 ?_
      refine W.eq (g2 := F0 m 43 ls [.int (xI σ 21 (3 * j5 + 2) (a3).toNatClampNeg)]) rfl ?_
      refine lv_istore (pc := 43) hx hb dV_reference_43 hl (by decide) rfl (fun ls hl => ?_)
      have hl : lv_has ls 8 [(6, .int (xI σ 21 (3 * j5 + 2) (a3).toNatClampNeg)), (5, .ref (ad 7 j5)), (0, .ref (ad 0 0)), (1, .int a1), (2, .int a2), (3, .int a3), (4, .int a4)] := hl
      refine lv_aload (pc := 45) hx hb dV_reference_45 (lv_at hl 1 rfl) ?_
      obtain ⟨q14, hq14, eq14⟩ := at_7 (ad := ad) (ca := ca) (σ := σ) hm6
      refine va_get (D := (dC, dI)) (cl := kCl) (C := RS) (T := TS) (N := 3) (pc := 47) hx hb hts inS hown hK.1 hP q14 eq14 rfl 0 (by decide) (hts _ wd_345) (fun _ h9 => h9) rfl dV_reference_47 ?_
      obtain ⟨q15, hq15, eq15⟩ := at_5 (ad := ad) (ca := ca) (σ := σ) (cm_7_0 hC hm6)
      refine va_get (D := (dC, dI)) (cl := kCl) (C := RC) (T := TC) (N := 5) (pc := 50) hx hb hts inC hown hK.1 hP q15 eq15 rfl 3 (by decide) (hts _ wd_334) (fun _ h9 => h9) rfl dV_reference_50 ?_
      refine lv_iload_n (pc := 53) hx hb dV_reference_53 rfl (lv_at hl 5 rfl) ?_
      obtain ⟨hv16, hf⟩ := ite_s hf
      obtain ⟨q17, hq17, eq17⟩ := at_22 (ad := ad) (ca := ca) (σ := σ) (cm_5_3 hC (cm_7_0 hC hm6))
      refine va_iald (D := (dC, dI)) (cl := kCl) (pc := 54) hx hb (hK.2 22 (3 * j5 + 2) .int (cm_5_3 hC (cm_7_0 hC hm6)) rfl) hP q17 0 eq17 rfl (hv16) dV_reference_54 ?_
      refine W.eq (g2 := F0 m 55 ls [.int (xI σ 22 (3 * j5 + 2) (a3).toNatClampNeg)]) rfl ?_
      refine lv_istore (pc := 55) hx hb dV_reference_55 hl (by decide) rfl (fun ls hl => ?_)
      have hl : lv_has ls 8 [(7, .int (xI σ 22 (3 * j5 + 2) (a3).toNatClampNeg)), (6, .int (xI σ 21 (3 * j5 + 2) (a3).toNatClampNeg)), (5, .ref (ad 7 j5)), (0, .ref (ad 0 0)), (1, .int a1), (2, .int a2), (3, .int a3), (4, .int a4)] := hl
      refine lv_iload (pc := 57) hx hb dV_reference_57 (lv_at hl 7 rfl) ?_
      by_cases hw18 : a4 = 0
      · replace hf := ite_t hw18 hf
        refine lv_tableIn (pc := 59) (tgt := 84) (off := 25) hx hb dV_reference_59 (by rw [hw18]; decide) (by rw [hw18]; decide) (by rw [hw18]; decide) rfl ?_
        refine lv_iload (pc := 84) hx hb dV_reference_84 (lv_at hl 1 rfl) ?_
        obtain ⟨h8, h9⟩ := Prod.mk.inj (Option.some.inj hf)
        subst h9
        have h8 := Option.some.inj h8
        exact W.iret (pc := 86) hx hb hr (fun t ht hW => ⟨⟨_, (), rfl, h8, by rw [ht]; exact hP, hD, hC⟩, hS.F ht⟩) hS.2.2 dV_reference_86
      replace hf := ite_f hw18 hf
      by_cases hw19 : a4 = 1
      · replace hf := ite_t hw19 hf
        refine lv_tableIn (pc := 59) (tgt := 87) (off := 28) hx hb dV_reference_59 (by rw [hw19]; decide) (by rw [hw19]; decide) (by rw [hw19]; decide) rfl ?_
        refine lv_iload (pc := 87) hx hb dV_reference_87 (lv_at hl 0 rfl) ?_
        obtain ⟨h8, h9⟩ := Prod.mk.inj (Option.some.inj hf)
        subst h9
        have h8 := Option.some.inj h8
        exact W.iret (pc := 89) hx hb hr (fun t ht hW => ⟨⟨_, (), rfl, h8, by rw [ht]; exact hP, hD, hC⟩, hS.F ht⟩) hS.2.2 dV_reference_89
      replace hf := ite_f hw19 hf
      by_cases hw20 : a4 = 2
      · replace hf := ite_t hw20 hf
        refine lv_tableIn (pc := 59) (tgt := 90) (off := 31) hx hb dV_reference_59 (by rw [hw20]; decide) (by rw [hw20]; decide) (by rw [hw20]; decide) rfl ?_
        refine lv_aload_n (pc := 90) hx hb dV_reference_90 rfl (lv_at hl 3 rfl) ?_
        refine lv_iload (pc := 91) hx hb dV_reference_91 (lv_at hl 1 rfl) ?_
        refine lv_iload (pc := 93) hx hb dV_reference_93 (lv_at hl 0 rfl) ?_
        obtain ⟨q21, hq21, eq21⟩ := at_0 (ad := ad) (ca := ca) (σ := σ) hm0
        obtain ⟨y22, hy22, hf⟩ := ob hf
        refine vp_callSi (pc := 95) (W.runV (As := [.int (xI σ 21 (3 * j5 + 2) (a3).toNatClampNeg), .int (xI σ 22 (3 * j5 + 2) (a3).toNatClampNeg)]) (rest := []) ⟨hx, hb, hml, hown, hts⟩ (t_V_resolved l dC dI ad ca dom n σ (xI σ 21 (3 * j5 + 2) (a3).toNatClampNeg) (xI σ 22 (3 * j5 + 2) (a3).toNatClampNeg) hm0 hN hC y22 hy22) (cwV 2 hts (gV wd_336 wd_337 wd_338 wd_254 wd_335) rfl rfl rfl (by decide +kernel) ⟨Nat.le_of_ble_eq_true rfl, Nat.le_of_ble_eq_true rfl⟩) ⟨hR_blind, va_recv (q := (RV, TV, 9)) (q0 := q21) (ci := 0) hK.1 hP rfl eq21, hR_pre hP hK hG⟩ rfl rfl hl.1 rfl (lv_room (Nat.le_of_ble_eq_true rfl)) dV_reference_95 ⟨Nat.le_of_ble_eq_true rfl, Nat.le_of_ble_eq_true rfl⟩) (fun r9 hr9 => ?_)
        refine W.eq (g2 := F0 m 98 ls [.int y22]) (by rw [hr9]) ?_
        obtain ⟨h8, h9⟩ := Prod.mk.inj (Option.some.inj hf)
        subst h9
        have h8 := Option.some.inj h8
        exact W.iret (pc := 98) hx hb hr (fun t ht hW => ⟨⟨_, (), rfl, h8, by rw [ht]; exact hP, hD, hC⟩, hS.F ht⟩) hS.2.2 dV_reference_98
      replace hf := ite_f hw20 hf
      refine lv_tableOut (pc := 59) (tgt := 99) hx hb dV_reference_59 (by have := lv_neT hw18 (a := 0) (by decide); have := lv_neT hw19 (a := 1) (by decide); have := lv_neT hw20 (a := 2) (by decide); omega) rfl ?_
      exact nomatch hf
    · replace hf := ite_t h9 hf
      exact nomatch hf
def V_about (n : Nat) (σ : hT) (a1 : Int32) (a2 : Int32) : Option ((Option Int32) × hT) := Option.bind (V_drawingAt σ a1) fun y2 => hq y2 (some (none, σ)) fun j5 => if a2 = 0 then some (some (D_newest σ j5), σ) else if a2 = 1 then Option.bind (D_latestReleased n σ j5) fun y11 => some (some y11, σ) else if a2 = 2 then some (some (xI σ 702 j5 0), σ) else if a2 = 3 then some (some (xI σ 601 (3 * j5) 0), σ) else if a2 = 4 then some (some (xI σ 604 (3 * j5) 0), σ) else if a2 < 200 then Option.bind (V_byteOf σ (3 * j5) a2) fun ⟨y22o, σ23⟩ => ex9 y22o σ23 fun y22 => some (some y22, σ23) else Option.bind (V_referencePart σ (3 * j5) a2) fun ⟨y25o, σ26⟩ => ex9 y25o σ26 fun y25 => some (some y25, σ26)
set_option maxHeartbeats 4000000 in
set_option maxRecDepth 100000 in
theorem t_V_about (l : Launch) (dC : Nat → ClassId) (dI : Nat → Nat → Nat) (ad : Nat → Nat → Nat) (ca : Nat → Nat → ClassId) (dom : List (Nat × Nat)) (sz : Nat) (n : Nat) (σ : hT) (a1 : Int32) (a2 : Int32) (hm0 : (0, 0) ∈ dom) (hN : dom.Nodup) (hC : clo dom σ.2.2) (ρ : Int32) (σ' : hT) (hf : V_about n σ a1 a2 = some (some ρ, σ')) : Met l yV_about (.code yV_about cV_about 4 (some .int) :: aw) ({ frames := 3, cells := 0, slots := 0, locals := 63 }) (hW (dC, dI) sz ad ca dom σ [.ref (ad 0 0), .int a1, .int a2]) (va_Qi (fun r (_ : Unit) => r = ρ) (fun _ t => hB (dC, dI) (va_A (w9 ad ca dom σ) sz) ad ca dom σ' t) (va_A (w9 ad ca dom σ) sz)) 0 0 (va_A (w9 ad ca dom σ) sz) := by
  refine Met.ofW (cc := cV_about) (maxL := 4) (ret := (some .int)) (by decide) rfl ?_
  intro p e s m args below meth c s₁ B hml hv
  obtain ⟨rfl, hv⟩ := hv
  have hx := B.exec
  have hb := B.bytes
  have hr := B.returns
  have hts : ∀ w ∈ aw, w.before _ s = true := fun w h => atoms_spec (ws := (.code yV_about cV_about 4 (some .int) :: aw)) B.pre w (List.mem_cons_of_mem _ h)
  have hown : s.vm.findClass RV = some m.cls := findClass_of_methodNamed B.named
  have hlocks := B.notSynchronized
  obtain ⟨hsz, hP, hK, hD0, hG⟩ := hv
  subst hsz
  have hD := hD0.self (sz := s.heap.size)
  generalize hAe : va_A (w9 ad ca dom σ) s.heap.size = A at hD ⊢
  have hA : ∀ q : Nat, s.heap.size ≤ q → A q := fun q h => by rw [← hAe]; exact Or.inr h
  obtain ⟨H, hH⟩ : ∃ H, H = s.heap := ⟨_, rfl⟩
  have hS : va_S A s.heap H [] := by rw [hH]; exact va_S.rf
  rw [← hH] at hP ⊢
  unfold V_about at hf
  have hl := lv_entry ([.ref (ad 0 0), .int a1, .int a2]) (n := 4) (Nat.le_of_ble_eq_true rfl)
  rw [lg_entry_eq]
  generalize (lg_sl ([.ref (ad 0 0), .int a1, .int a2]) ++ List.replicate (4 - (lg_sl ([.ref (ad 0 0), .int a1, .int a2])).length) Slot.unset).toArray = ls at hl ⊢
  have hl : lv_has ls 4 [(0, .ref (ad 0 0)), (1, .int a1), (2, .int a2)] := hl
  refine lv_aload_n (pc := 0) hx hb dV_about_0 rfl (lv_at hl 0 rfl) ?_
  refine lv_iload_n (pc := 1) hx hb dV_about_1 rfl (lv_at hl 1 rfl) ?_
  obtain ⟨q1, hq1, eq1⟩ := at_0 (ad := ad) (ca := ca) (σ := σ) hm0
  obtain ⟨y2, hy2, hf⟩ := ob hf
  refine va_cse (pc := 2) (W.runV (As := [.int a1]) (rest := []) ⟨hx, hb, hml, hown, hts⟩ (t_V_drawingAt l dC dI ad ca dom σ a1 hm0 hN hC y2 hy2) (cwV 1 hts (gV wd_317 wd_318 wd_319 wd_254 wd_316) rfl rfl rfl (by decide +kernel) ⟨Nat.le_of_ble_eq_true rfl, Nat.le_of_ble_eq_true rfl⟩) ⟨hR_blind, va_recv (q := (RV, TV, 9)) (q0 := q1) (ci := 0) hK.1 hP rfl eq1, hR_pre hP hK hG⟩ rfl rfl hl.1 rfl (lv_room (Nat.le_of_ble_eq_true rfl)) dV_about_2 ⟨Nat.le_of_ble_eq_true rfl, Nat.le_of_ble_eq_true rfl⟩) (fun r9 hr9 => ?_)
  obtain ⟨hr9, hmy3⟩ := hr9
  refine W.eq (g2 := F0 m 5 ls [va_re (ad 6) y2]) (by rw [hr9]) ?_
  rcases hE4 : y2 with _ | j5
  · replace hf := hq_n hE4 hf
    refine W.eq (g2 := F0 m 5 ls [.null]) rfl ?_
    refine lv_astore_nN (pc := 5) hx hb dV_about_5 rfl hl (by decide) rfl (fun ls hl => ?_)
    have hl : lv_has ls 4 [(3, .null), (0, .ref (ad 0 0)), (1, .int a1), (2, .int a2)] := hl
    refine lv_aload_nN (pc := 6) hx hb dV_about_6 rfl (lv_at hl 0 rfl) ?_
    refine lv_ifnonnullN (pc := 7) hx hb dV_about_7 ?_
    exact nomatch hf
  · replace hf := hq_s hE4 hf
    have hm6 : (6, j5) ∈ dom := (hmy3 _ hE4)
    refine W.eq (g2 := F0 m 5 ls [.ref (ad 6 j5)]) rfl ?_
    refine lv_astore_n (pc := 5) hx hb dV_about_5 rfl hl (by decide) rfl (fun ls hl => ?_)
    have hl : lv_has ls 4 [(3, .ref (ad 6 j5)), (0, .ref (ad 0 0)), (1, .int a1), (2, .int a2)] := hl
    refine lv_aload_n (pc := 6) hx hb dV_about_6 rfl (lv_at hl 0 rfl) ?_
    refine lv_ifnonnull (pc := 7) (tgt := 18) hx hb dV_about_7 rfl ?_
    refine lv_iload_n (pc := 18) hx hb dV_about_18 rfl (lv_at hl 3 rfl) ?_
    by_cases hw7 : a2 = 0
    · replace hf := ite_t hw7 hf
      refine lv_tableIn (pc := 19) (tgt := 52) (off := 33) hx hb dV_about_19 (by rw [hw7]; decide) (by rw [hw7]; decide) (by rw [hw7]; decide) rfl ?_
      refine lv_aload_n (pc := 52) hx hb dV_about_52 rfl (lv_at hl 0 rfl) ?_
      obtain ⟨q8, hq8, eq8⟩ := at_6 (ad := ad) (ca := ca) (σ := σ) hm6
      refine vp_callSi (pc := 53) (W.runV (As := []) (rest := []) ⟨hx, hb, hml, hown, hts⟩ (t_D_newest l dC dI ad ca dom σ j5 hm6 hN hC (D_newest σ j5) rfl) (cwV 0 hts (gV wd_413 wd_290 wd_291 wd_292 wd_288) rfl rfl rfl (by decide +kernel) ⟨Nat.le_of_ble_eq_true rfl, Nat.le_of_ble_eq_true rfl⟩) ⟨hR_blind, va_recv (q := (RD, TD, 5)) (q0 := q8) (ci := 6) hK.1 hP rfl eq8, hR_pre hP hK hG⟩ rfl rfl hl.1 rfl (lv_room (Nat.le_of_ble_eq_true rfl)) dV_about_53 ⟨Nat.le_of_ble_eq_true rfl, Nat.le_of_ble_eq_true rfl⟩) (fun r9 hr9 => ?_)
      refine W.eq (g2 := F0 m 56 ls [.int (D_newest σ j5)]) (by rw [hr9]) ?_
      obtain ⟨h8, h9⟩ := Prod.mk.inj (Option.some.inj hf)
      subst h9
      have h8 := Option.some.inj h8
      exact W.iret (pc := 56) hx hb hr (fun t ht hW => ⟨⟨_, (), rfl, h8, by rw [ht]; exact hP, hD, hC⟩, hS.F ht⟩) hS.2.2 dV_about_56
    replace hf := ite_f hw7 hf
    by_cases hw9 : a2 = 1
    · replace hf := ite_t hw9 hf
      refine lv_tableIn (pc := 19) (tgt := 57) (off := 38) hx hb dV_about_19 (by rw [hw9]; decide) (by rw [hw9]; decide) (by rw [hw9]; decide) rfl ?_
      refine lv_aload_n (pc := 57) hx hb dV_about_57 rfl (lv_at hl 0 rfl) ?_
      obtain ⟨q10, hq10, eq10⟩ := at_6 (ad := ad) (ca := ca) (σ := σ) hm6
      obtain ⟨y11, hy11, hf⟩ := ob hf
      refine vp_callSi (pc := 58) (W.runV (As := []) (rest := []) ⟨hx, hb, hml, hown, hts⟩ (t_D_latestReleased l dC dI ad ca dom n σ j5 hm6 hN hC y11 hy11) (cwV 0 hts (gV wd_329 wd_330 wd_331 wd_292 wd_328) rfl rfl rfl (by decide +kernel) ⟨Nat.le_of_ble_eq_true rfl, Nat.le_of_ble_eq_true rfl⟩) ⟨hR_blind, va_recv (q := (RD, TD, 5)) (q0 := q10) (ci := 6) hK.1 hP rfl eq10, hR_pre hP hK hG⟩ rfl rfl hl.1 rfl (lv_room (Nat.le_of_ble_eq_true rfl)) dV_about_58 ⟨Nat.le_of_ble_eq_true rfl, Nat.le_of_ble_eq_true rfl⟩) (fun r9 hr9 => ?_)
      refine W.eq (g2 := F0 m 61 ls [.int y11]) (by rw [hr9]) ?_
      obtain ⟨h8, h9⟩ := Prod.mk.inj (Option.some.inj hf)
      subst h9
      have h8 := Option.some.inj h8
      exact W.iret (pc := 61) hx hb hr (fun t ht hW => ⟨⟨_, (), rfl, h8, by rw [ht]; exact hP, hD, hC⟩, hS.F ht⟩) hS.2.2 dV_about_61
    replace hf := ite_f hw9 hf
    by_cases hw12 : a2 = 2
    · replace hf := ite_t hw12 hf
      refine lv_tableIn (pc := 19) (tgt := 62) (off := 43) hx hb dV_about_19 (by rw [hw12]; decide) (by rw [hw12]; decide) (by rw [hw12]; decide) rfl ?_
      refine lv_aload_n (pc := 62) hx hb dV_about_62 rfl (lv_at hl 0 rfl) ?_
      obtain ⟨q13, hq13, eq13⟩ := at_6 (ad := ad) (ca := ca) (σ := σ) hm6
      refine va_get (D := (dC, dI)) (cl := kCl) (C := RD) (T := TD) (N := 5) (pc := 63) hx hb hts inD hown hK.1 hP q13 eq13 rfl 2 (by decide) (hts _ wd_359) (fun _ h9 => h9) rfl dV_about_63 ?_
      obtain ⟨h8, h9⟩ := Prod.mk.inj (Option.some.inj hf)
      subst h9
      have h8 := Option.some.inj h8
      exact W.iret (pc := 66) hx hb hr (fun t ht hW => ⟨⟨_, (), rfl, h8, by rw [ht]; exact hP, hD, hC⟩, hS.F ht⟩) hS.2.2 dV_about_66
    replace hf := ite_f hw12 hf
    by_cases hw14 : a2 = 3
    · replace hf := ite_t hw14 hf
      refine lv_tableIn (pc := 19) (tgt := 67) (off := 48) hx hb dV_about_19 (by rw [hw14]; decide) (by rw [hw14]; decide) (by rw [hw14]; decide) rfl ?_
      refine lv_aload_n (pc := 67) hx hb dV_about_67 rfl (lv_at hl 0 rfl) ?_
      obtain ⟨q15, hq15, eq15⟩ := at_6 (ad := ad) (ca := ca) (σ := σ) hm6
      refine va_get (D := (dC, dI)) (cl := kCl) (C := RD) (T := TD) (N := 5) (pc := 68) hx hb hts inD hown hK.1 hP q15 eq15 rfl 3 (by decide) (hts _ wd_368) (fun _ h9 => h9) rfl dV_about_68 ?_
      obtain ⟨q16, hq16, eq16⟩ := at_5 (ad := ad) (ca := ca) (σ := σ) (cm_6_3 hC hm6)
      refine va_get (D := (dC, dI)) (cl := kCl) (C := RC) (T := TC) (N := 5) (pc := 71) hx hb hts inC hown hK.1 hP q16 eq16 rfl 1 (by decide) (hts _ wd_563) (fun _ h9 => h9) rfl dV_about_71 ?_
      obtain ⟨h8, h9⟩ := Prod.mk.inj (Option.some.inj hf)
      subst h9
      have h8 := Option.some.inj h8
      exact W.iret (pc := 74) hx hb hr (fun t ht hW => ⟨⟨_, (), rfl, h8, by rw [ht]; exact hP, hD, hC⟩, hS.F ht⟩) hS.2.2 dV_about_74
    replace hf := ite_f hw14 hf
    by_cases hw17 : a2 = 4
    · replace hf := ite_t hw17 hf
      refine lv_tableIn (pc := 19) (tgt := 75) (off := 56) hx hb dV_about_19 (by rw [hw17]; decide) (by rw [hw17]; decide) (by rw [hw17]; decide) rfl ?_
      refine lv_aload_n (pc := 75) hx hb dV_about_75 rfl (lv_at hl 0 rfl) ?_
      obtain ⟨q18, hq18, eq18⟩ := at_6 (ad := ad) (ca := ca) (σ := σ) hm6
      refine va_get (D := (dC, dI)) (cl := kCl) (C := RD) (T := TD) (N := 5) (pc := 76) hx hb hts inD hown hK.1 hP q18 eq18 rfl 3 (by decide) (hts _ wd_368) (fun _ h9 => h9) rfl dV_about_76 ?_
      obtain ⟨q19, hq19, eq19⟩ := at_5 (ad := ad) (ca := ca) (σ := σ) (cm_6_3 hC hm6)
      refine va_get (D := (dC, dI)) (cl := kCl) (C := RC) (T := TC) (N := 5) (pc := 79) hx hb hts inC hown hK.1 hP q19 eq19 rfl 4 (by decide) (hts _ wd_332) (fun _ h9 => h9) rfl dV_about_79 ?_
      obtain ⟨h8, h9⟩ := Prod.mk.inj (Option.some.inj hf)
      subst h9
      have h8 := Option.some.inj h8
      exact W.iret (pc := 82) hx hb hr (fun t ht hW => ⟨⟨_, (), rfl, h8, by rw [ht]; exact hP, hD, hC⟩, hS.F ht⟩) hS.2.2 dV_about_82
    replace hf := ite_f hw17 hf
    refine lv_tableOut (pc := 19) (tgt := 83) hx hb dV_about_19 (by have := lv_neT hw7 (a := 0) (by decide); have := lv_neT hw9 (a := 1) (by decide); have := lv_neT hw12 (a := 2) (by decide); have := lv_neT hw14 (a := 3) (by decide); have := lv_neT hw17 (a := 4) (by decide); omega) rfl ?_
    refine lv_iload_n (pc := 83) hx hb dV_about_83 rfl (lv_at hl 3 rfl) ?_
    refine lv_sipush (pc := 84) (v := 200) hx hb dV_about_84 (by decide) ?_
    refine lv_icmp_lt (pc := 87) (tgt := 101) hx hb dV_about_87 rfl (fun h20 => ?_) (fun h20 => ?_)
    · replace hf := ite_t h20 hf
      refine lv_aload_n (pc := 101) hx hb dV_about_101 rfl (lv_at hl 0 rfl) ?_
      obtain ⟨q21, hq21, eq21⟩ := at_6 (ad := ad) (ca := ca) (σ := σ) hm6
      refine va_get (D := (dC, dI)) (cl := kCl) (C := RD) (T := TD) (N := 5) (pc := 102) hx hb hts inD hown hK.1 hP q21 eq21 rfl 3 (by decide) (hts _ wd_368) (fun _ h9 => h9) rfl dV_about_102 ?_
      refine lv_iload_n (pc := 105) hx hb dV_about_105 rfl (lv_at hl 3 rfl) ?_
      obtain ⟨⟨y22o, σ23⟩, hy22, hf⟩ := ob hf
      obtain ⟨y22, rfl⟩ : ∃ z, y22o = some z := by
        cases y22o with
        | none => exact (ex9_n hf).elim
        | some z => exact ⟨z, rfl⟩
      replace hf := ex9_s hf
      have hFc := w9_free hD hS hA
      refine va_calli (pc := 106) (va_runS (As := [.ref (ad 5 (3 * j5)), .int a2]) (rest := []) ⟨hx, hb, hml, hown, hts⟩ (t_V_byteOf l dC dI ad ca dom H.size σ (3 * j5) a2 (cm_6_3 hC hm6) hN hC y22 σ23 hy22) (cwS 2 hts (gS wd_569 wd_570 wd_254 wd_568) rfl rfl rfl (by decide +kernel) ⟨Nat.le_of_ble_eq_true rfl, Nat.le_of_ble_eq_true rfl⟩) ⟨hW_blind, hW_pre hP hK hD hG⟩ rfl rfl hl.1 rfl (lv_room (Nat.le_of_ble_eq_true rfl)) dV_about_106 ⟨Nat.le_of_ble_eq_true rfl, Nat.le_of_ble_eq_true rfl⟩) hS (fun q _ h => hFc q h) hFc (fun r9 u t H1 locs ht hvm hr9 hB hz1 hk1 hS => ?_)
      obtain ⟨hP, hD, hC⟩ := hB
      rw [ht] at hP
      replace hD := hD.weaken (fun _ _ _ h => hFc _ h)
      generalize H1 = H at hP hS ⊢
      refine W.eq (g2 := F0 m 109 ls [.int y22]) (by rw [hr9]) ?_
      obtain ⟨h8, h9⟩ := Prod.mk.inj (Option.some.inj hf)
      subst h9
      have h8 := Option.some.inj h8
      exact W.iret (pc := 109) hx hb hr (fun t ht hW => ⟨⟨_, (), rfl, h8, by rw [ht]; exact hP, hD, hC⟩, hS.F ht⟩) hS.2.2 dV_about_109
    · replace hf := ite_f h20 hf
      refine lv_aload_n (pc := 90) hx hb dV_about_90 rfl (lv_at hl 0 rfl) ?_
      obtain ⟨q24, hq24, eq24⟩ := at_6 (ad := ad) (ca := ca) (σ := σ) hm6
      refine va_get (D := (dC, dI)) (cl := kCl) (C := RD) (T := TD) (N := 5) (pc := 91) hx hb hts inD hown hK.1 hP q24 eq24 rfl 3 (by decide) (hts _ wd_368) (fun _ h9 => h9) rfl dV_about_91 ?_
      refine lv_iload_n (pc := 94) hx hb dV_about_94 rfl (lv_at hl 3 rfl) ?_
      obtain ⟨⟨y25o, σ26⟩, hy25, hf⟩ := ob hf
      obtain ⟨y25, rfl⟩ : ∃ z, y25o = some z := by
        cases y25o with
        | none => exact (ex9_n hf).elim
        | some z => exact ⟨z, rfl⟩
      replace hf := ex9_s hf
      have hFc := w9_free hD hS hA
      refine va_calli (pc := 95) (va_runS (As := [.ref (ad 5 (3 * j5)), .int a2]) (rest := []) ⟨hx, hb, hml, hown, hts⟩ (t_V_referencePart l dC dI ad ca dom H.size σ (3 * j5) a2 (cm_6_3 hC hm6) hN hC y25 σ26 hy25) (cwS 2 hts (gS wd_572 wd_573 wd_254 wd_571) rfl rfl rfl (by decide +kernel) ⟨Nat.le_of_ble_eq_true rfl, Nat.le_of_ble_eq_true rfl⟩) ⟨hW_blind, hW_pre hP hK hD hG⟩ rfl rfl hl.1 rfl (lv_room (Nat.le_of_ble_eq_true rfl)) dV_about_95 ⟨Nat.le_of_ble_eq_true rfl, Nat.le_of_ble_eq_true rfl⟩) hS (fun q _ h => hFc q h) hFc (fun r9 u t H1 locs ht hvm hr9 hB hz1 hk1 hS => ?_)
      obtain ⟨hP, hD, hC⟩ := hB
      rw [ht] at hP
      replace hD := hD.weaken (fun _ _ _ h => hFc _ h)
      generalize H1 = H at hP hS ⊢
      refine W.eq (g2 := F0 m 98 ls [.int y25]) (by rw [hr9]) ?_
      refine lv_goto (pc := 98) (tgt := 109) hx hb dV_about_98 rfl ?_
      obtain ⟨h8, h9⟩ := Prod.mk.inj (Option.some.inj hf)
      subst h9
      have h8 := Option.some.inj h8
      exact W.iret (pc := 109) hx hb hr (fun t ht hW => ⟨⟨_, (), rfl, h8, by rw [ht]; exact hP, hD, hC⟩, hS.F ht⟩) hS.2.2 dV_about_109
def V_inBaseline (n : Nat) (σ : hT) (a1 : Int32) (a2 : Int32) (a3 : Int32) : Option ((Option Int32) × hT) := Option.bind (V_baselineAt σ a1) fun y2 => hq y2 (some (none, σ)) fun j5 => if a2 = (-1) then if a3 = 0 then some (some (xI σ 202 j5 0), σ) else Option.bind (B_drawingByNumber n σ j5 a2) fun y19 => if y19 = (-1) then some (none, σ) else if a3 < 0 then some (none, σ) else if a3 ≤ 1 then if a3 = 0 then some (some y19, σ) else if in9 y19 24 then some (some (xI σ 11 j5 (y19).toNatClampNeg), σ) else none else some (none, σ) else Option.bind (B_drawingByNumber n σ j5 a2) fun y9 => if y9 = (-1) then some (none, σ) else if a3 < 0 then some (none, σ) else if a3 ≤ 1 then if a3 = 0 then some (some y9, σ) else if in9 y9 24 then some (some (xI σ 11 j5 (y9).toNatClampNeg), σ) else none else some (none, σ)
set_option maxHeartbeats 4000000 in
set_option maxRecDepth 100000 in
theorem t_V_inBaseline (l : Launch) (dC : Nat → ClassId) (dI : Nat → Nat → Nat) (ad : Nat → Nat → Nat) (ca : Nat → Nat → ClassId) (dom : List (Nat × Nat)) (sz : Nat) (n : Nat) (σ : hT) (a1 : Int32) (a2 : Int32) (a3 : Int32) (hm0 : (0, 0) ∈ dom) (hN : dom.Nodup) (hC : clo dom σ.2.2) (ρ : Int32) (σ' : hT) (hf : V_inBaseline n σ a1 a2 a3 = some (some ρ, σ')) : Met l yV_inBaseline (.code yV_inBaseline cV_inBaseline 6 (some .int) :: aw) ({ frames := 1, cells := 0, slots := 0, locals := 23 }) (hW (dC, dI) sz ad ca dom σ [.ref (ad 0 0), .int a1, .int a2, .int a3]) (va_Qi (fun r (_ : Unit) => r = ρ) (fun _ t => hB (dC, dI) (va_A (w9 ad ca dom σ) sz) ad ca dom σ' t) (va_A (w9 ad ca dom σ) sz)) 0 0 (va_A (w9 ad ca dom σ) sz) := by
  refine Met.ofW (cc := cV_inBaseline) (maxL := 6) (ret := (some .int)) (by decide) rfl ?_
  intro p e s m args below meth c s₁ B hml hv
  obtain ⟨rfl, hv⟩ := hv
  have hx := B.exec
  have hb := B.bytes
  have hr := B.returns
  have hts : ∀ w ∈ aw, w.before _ s = true := fun w h => atoms_spec (ws := (.code yV_inBaseline cV_inBaseline 6 (some .int) :: aw)) B.pre w (List.mem_cons_of_mem _ h)
  have hown : s.vm.findClass RV = some m.cls := findClass_of_methodNamed B.named
  have hlocks := B.notSynchronized
  obtain ⟨hsz, hP, hK, hD0, hG⟩ := hv
  subst hsz
  have hD := hD0.self (sz := s.heap.size)
  generalize hAe : va_A (w9 ad ca dom σ) s.heap.size = A at hD ⊢
  have hA : ∀ q : Nat, s.heap.size ≤ q → A q := fun q h => by rw [← hAe]; exact Or.inr h
  obtain ⟨H, hH⟩ : ∃ H, H = s.heap := ⟨_, rfl⟩
  have hS : va_S A s.heap H [] := by rw [hH]; exact va_S.rf
  rw [← hH] at hP ⊢
  unfold V_inBaseline at hf
  have hl := lv_entry ([.ref (ad 0 0), .int a1, .int a2, .int a3]) (n := 6) (Nat.le_of_ble_eq_true rfl)
  rw [lg_entry_eq]
  generalize (lg_sl ([.ref (ad 0 0), .int a1, .int a2, .int a3]) ++ List.replicate (6 - (lg_sl ([.ref (ad 0 0), .int a1, .int a2, .int a3])).length) Slot.unset).toArray = ls at hl ⊢
  have hl : lv_has ls 6 [(0, .ref (ad 0 0)), (1, .int a1), (2, .int a2), (3, .int a3)] := hl
  refine lv_aload_n (pc := 0) hx hb dV_inBaseline_0 rfl (lv_at hl 0 rfl) ?_
  refine lv_iload_n (pc := 1) hx hb dV_inBaseline_1 rfl (lv_at hl 1 rfl) ?_
  obtain ⟨q1, hq1, eq1⟩ := at_0 (ad := ad) (ca := ca) (σ := σ) hm0
  obtain ⟨y2, hy2, hf⟩ := ob hf
  refine va_cse (pc := 2) (W.runV (As := [.int a1]) (rest := []) ⟨hx, hb, hml, hown, hts⟩ (t_V_baselineAt l dC dI ad ca dom σ a1 hm0 hN hC y2 hy2) (cwV 1 hts (gV wd_475 wd_476 wd_477 wd_254 wd_474) rfl rfl rfl (by decide +kernel) ⟨Nat.le_of_ble_eq_true rfl, Nat.le_of_ble_eq_true rfl⟩) ⟨hR_blind, va_recv (q := (RV, TV, 9)) (q0 := q1) (ci := 0) hK.1 hP rfl eq1, hR_pre hP hK hG⟩ rfl rfl hl.1 rfl (lv_room (Nat.le_of_ble_eq_true rfl)) dV_inBaseline_2 ⟨Nat.le_of_ble_eq_true rfl, Nat.le_of_ble_eq_true rfl⟩) (fun r9 hr9 => ?_)
  obtain ⟨hr9, hmy3⟩ := hr9
  refine W.eq (g2 := F0 m 5 ls [va_re (ad 1) y2]) (by rw [hr9]) ?_
  rcases hE4 : y2 with _ | j5
  · replace hf := hq_n hE4 hf
    refine W.eq (g2 := F0 m 5 ls [.null]) rfl ?_
    refine lv_astoreN (pc := 5) hx hb dV_inBaseline_5 hl (by decide) rfl (fun ls hl => ?_)
    have hl : lv_has ls 6 [(4, .null), (0, .ref (ad 0 0)), (1, .int a1), (2, .int a2), (3, .int a3)] := hl
    refine lv_aloadN (pc := 7) hx hb dV_inBaseline_7 (lv_at hl 0 rfl) ?_
    refine lv_ifnonnullN (pc := 9) hx hb dV_inBaseline_9 ?_
    exact nomatch hf
  · replace hf := hq_s hE4 hf
    have hm6 : (1, j5) ∈ dom := (hmy3 _ hE4)
    refine W.eq (g2 := F0 m 5 ls [.ref (ad 1 j5)]) rfl ?_
    refine lv_astore (pc := 5) hx hb dV_inBaseline_5 hl (by decide) rfl (fun ls hl => ?_)
    have hl : lv_has ls 6 [(4, .ref (ad 1 j5)), (0, .ref (ad 0 0)), (1, .int a1), (2, .int a2), (3, .int a3)] := hl
    refine lv_aload (pc := 7) hx hb dV_inBaseline_7 (lv_at hl 0 rfl) ?_
    refine lv_ifnonnull (pc := 9) (tgt := 20) hx hb dV_inBaseline_9 rfl ?_
    refine lv_iload_n (pc := 20) hx hb dV_inBaseline_20 rfl (lv_at hl 3 rfl) ?_
    refine lv_iconst (pc := 21) (v := (-1)) hx hb dV_inBaseline_21 (by decide) ?_
    refine lv_icmp_ne (pc := 22) (tgt := 35) hx hb dV_inBaseline_22 rfl (fun h7 => ?_) (fun h7 => ?_)
    · replace hf := ite_f h7 hf
      refine lv_aload (pc := 35) hx hb dV_inBaseline_35 (lv_at hl 0 rfl) ?_
      refine lv_iload_n (pc := 37) hx hb dV_inBaseline_37 rfl (lv_at hl 3 rfl) ?_
      obtain ⟨q8, hq8, eq8⟩ := at_1 (ad := ad) (ca := ca) (σ := σ) hm6
      obtain ⟨y9, hy9, hf⟩ := ob hf
      refine vp_callSi (pc := 38) (W.runV (As := [.int a2]) (rest := []) ⟨hx, hb, hml, hown, hts⟩ (t_B_drawingByNumber l dC dI ad ca dom n σ j5 a2 hm6 hN hC y9 hy9) (cwV 1 hts (gV wd_575 wd_576 wd_577 wd_378 wd_574) rfl rfl rfl (by decide +kernel) ⟨Nat.le_of_ble_eq_true rfl, Nat.le_of_ble_eq_true rfl⟩) ⟨hR_blind, va_recv (q := (RB, TB, 3)) (q0 := q8) (ci := 1) hK.1 hP rfl eq8, hR_pre hP hK hG⟩ rfl rfl hl.1 rfl (lv_room (Nat.le_of_ble_eq_true rfl)) dV_inBaseline_38 ⟨Nat.le_of_ble_eq_true rfl, Nat.le_of_ble_eq_true rfl⟩) (fun r9 hr9 => ?_)
      refine W.eq (g2 := F0 m 41 ls [.int y9]) (by rw [hr9]) ?_
      refine lv_istore (pc := 41) hx hb dV_inBaseline_41 hl (by decide) rfl (fun ls hl => ?_)
      have hl : lv_has ls 6 [(5, .int y9), (4, .ref (ad 1 j5)), (0, .ref (ad 0 0)), (1, .int a1), (2, .int a2), (3, .int a3)] := hl
      refine lv_iload (pc := 43) hx hb dV_inBaseline_43 (lv_at hl 0 rfl) ?_
      refine lv_iconst (pc := 45) (v := (-1)) hx hb dV_inBaseline_45 (by decide) ?_
      refine lv_icmp_eq (pc := 46) (tgt := 58) hx hb dV_inBaseline_46 rfl (fun h10 => ?_) (fun h10 => ?_)
      · replace hf := ite_t h10 hf
        exact nomatch hf
      · replace hf := ite_f h10 hf
        refine lv_iload_n (pc := 49) hx hb dV_inBaseline_49 rfl (lv_at hl 5 rfl) ?_
        refine lv_if_lt (pc := 50) (tgt := 58) hx hb dV_inBaseline_50 rfl (fun h11 => ?_) (fun h11 => ?_)
        · replace hf := ite_t h11 hf
          exact nomatch hf
        · replace hf := ite_f h11 hf
          refine lv_iload_n (pc := 53) hx hb dV_inBaseline_53 rfl (lv_at hl 5 rfl) ?_
          refine lv_iconst (pc := 54) (v := 1) hx hb dV_inBaseline_54 (by decide) ?_
          refine lv_icmp_le (pc := 55) (tgt := 66) hx hb dV_inBaseline_55 rfl (fun h12 => ?_) (fun h12 => ?_)
          · replace hf := ite_t h12 hf
            refine lv_iload_n (pc := 66) hx hb dV_inBaseline_66 rfl (lv_at hl 5 rfl) ?_
            refine lv_if_ne (pc := 67) (tgt := 75) hx hb dV_inBaseline_67 rfl (fun h13 => ?_) (fun h13 => ?_)
            · replace hf := ite_f h13 hf
              refine lv_aload (pc := 75) hx hb dV_inBaseline_75 (lv_at hl 1 rfl) ?_
              obtain ⟨q14, hq14, eq14⟩ := at_1 (ad := ad) (ca := ca) (σ := σ) hm6
              refine va_get (D := (dC, dI)) (cl := kCl) (C := RB) (T := TB) (N := 3) (pc := 77) hx hb hts inB hown hK.1 hP q14 eq14 rfl 0 (by decide) (hts _ wd_343) (fun _ h9 => h9) rfl dV_inBaseline_77 ?_
              refine lv_iload (pc := 80) hx hb dV_inBaseline_80 (lv_at hl 0 rfl) ?_
              obtain ⟨hv15, hf⟩ := ite_s hf
              obtain ⟨q16, hq16, eq16⟩ := at_11 (ad := ad) (ca := ca) (σ := σ) (cm_1_0 hC hm6)
              refine va_iald (D := (dC, dI)) (cl := kCl) (pc := 82) hx hb (hK.2 11 j5 .int (cm_1_0 hC hm6) rfl) hP q16 0 eq16 rfl (hv15) dV_inBaseline_82 ?_
              refine W.eq (g2 := F0 m 83 ls [.int (xI σ 11 j5 (y9).toNatClampNeg)]) rfl ?_
              obtain ⟨h8, h9⟩ := Prod.mk.inj (Option.some.inj hf)
              subst h9
              have h8 := Option.some.inj h8
              exact W.iret (pc := 83) hx hb hr (fun t ht hW => ⟨⟨_, (), rfl, h8, by rw [ht]; exact hP, hD, hC⟩, hS.F ht⟩) hS.2.2 dV_inBaseline_83
            · replace hf := ite_t h13 hf
              refine lv_iload (pc := 70) hx hb dV_inBaseline_70 (lv_at hl 0 rfl) ?_
              refine lv_goto (pc := 72) (tgt := 83) hx hb dV_inBaseline_72 rfl ?_
              obtain ⟨h8, h9⟩ := Prod.mk.inj (Option.some.inj hf)
              subst h9
              have h8 := Option.some.inj h8
              exact W.iret (pc := 83) hx hb hr (fun t ht hW => ⟨⟨_, (), rfl, h8, by rw [ht]; exact hP, hD, hC⟩, hS.F ht⟩) hS.2.2 dV_inBaseline_83
          · replace hf := ite_f h12 hf
            exact nomatch hf
    · replace hf := ite_t h7 hf
      refine lv_iload_n (pc := 25) hx hb dV_inBaseline_25 rfl (lv_at hl 4 rfl) ?_
      refine lv_if_ne (pc := 26) (tgt := 35) hx hb dV_inBaseline_26 rfl (fun h17 => ?_) (fun h17 => ?_)
      · replace hf := ite_f h17 hf
        refine lv_aload (pc := 35) hx hb dV_inBaseline_35 (lv_at hl 0 rfl) ?_
        refine lv_iload_n (pc := 37) hx hb dV_inBaseline_37 rfl (lv_at hl 3 rfl) ?_
        obtain ⟨q18, hq18, eq18⟩ := at_1 (ad := ad) (ca := ca) (σ := σ) hm6
        obtain ⟨y19, hy19, hf⟩ := ob hf
        refine vp_callSi (pc := 38) (W.runV (As := [.int a2]) (rest := []) ⟨hx, hb, hml, hown, hts⟩ (t_B_drawingByNumber l dC dI ad ca dom n σ j5 a2 hm6 hN hC y19 hy19) (cwV 1 hts (gV wd_575 wd_576 wd_577 wd_378 wd_574) rfl rfl rfl (by decide +kernel) ⟨Nat.le_of_ble_eq_true rfl, Nat.le_of_ble_eq_true rfl⟩) ⟨hR_blind, va_recv (q := (RB, TB, 3)) (q0 := q18) (ci := 1) hK.1 hP rfl eq18, hR_pre hP hK hG⟩ rfl rfl hl.1 rfl (lv_room (Nat.le_of_ble_eq_true rfl)) dV_inBaseline_38 ⟨Nat.le_of_ble_eq_true rfl, Nat.le_of_ble_eq_true rfl⟩) (fun r9 hr9 => ?_)
        refine W.eq (g2 := F0 m 41 ls [.int y19]) (by rw [hr9]) ?_
        refine lv_istore (pc := 41) hx hb dV_inBaseline_41 hl (by decide) rfl (fun ls hl => ?_)
        have hl : lv_has ls 6 [(5, .int y19), (4, .ref (ad 1 j5)), (0, .ref (ad 0 0)), (1, .int a1), (2, .int a2), (3, .int a3)] := hl
        refine lv_iload (pc := 43) hx hb dV_inBaseline_43 (lv_at hl 0 rfl) ?_
        refine lv_iconst (pc := 45) (v := (-1)) hx hb dV_inBaseline_45 (by decide) ?_
        refine lv_icmp_eq (pc := 46) (tgt := 58) hx hb dV_inBaseline_46 rfl (fun h20 => ?_) (fun h20 => ?_)
        · replace hf := ite_t h20 hf
          exact nomatch hf
        · replace hf := ite_f h20 hf
          refine lv_iload_n (pc := 49) hx hb dV_inBaseline_49 rfl (lv_at hl 5 rfl) ?_
          refine lv_if_lt (pc := 50) (tgt := 58) hx hb dV_inBaseline_50 rfl (fun h21 => ?_) (fun h21 => ?_)
          · replace hf := ite_t h21 hf
            exact nomatch hf
          · replace hf := ite_f h21 hf
            refine lv_iload_n (pc := 53) hx hb dV_inBaseline_53 rfl (lv_at hl 5 rfl) ?_
            refine lv_iconst (pc := 54) (v := 1) hx hb dV_inBaseline_54 (by decide) ?_
            refine lv_icmp_le (pc := 55) (tgt := 66) hx hb dV_inBaseline_55 rfl (fun h22 => ?_) (fun h22 => ?_)
            · replace hf := ite_t h22 hf
              refine lv_iload_n (pc := 66) hx hb dV_inBaseline_66 rfl (lv_at hl 5 rfl) ?_
              refine lv_if_ne (pc := 67) (tgt := 75) hx hb dV_inBaseline_67 rfl (fun h23 => ?_) (fun h23 => ?_)
              · replace hf := ite_f h23 hf
                refine lv_aload (pc := 75) hx hb dV_inBaseline_75 (lv_at hl 1 rfl) ?_
                obtain ⟨q24, hq24, eq24⟩ := at_1 (ad := ad) (ca := ca) (σ := σ) hm6
                refine va_get (D := (dC, dI)) (cl := kCl) (C := RB) (T := TB) (N := 3) (pc := 77) hx hb hts inB hown hK.1 hP q24 eq24 rfl 0 (by decide) (hts _ wd_343) (fun _ h9 => h9) rfl dV_inBaseline_77 ?_
                refine lv_iload (pc := 80) hx hb dV_inBaseline_80 (lv_at hl 0 rfl) ?_
                obtain ⟨hv25, hf⟩ := ite_s hf
                obtain ⟨q26, hq26, eq26⟩ := at_11 (ad := ad) (ca := ca) (σ := σ) (cm_1_0 hC hm6)
                refine va_iald (D := (dC, dI)) (cl := kCl) (pc := 82) hx hb (hK.2 11 j5 .int (cm_1_0 hC hm6) rfl) hP q26 0 eq26 rfl (hv25) dV_inBaseline_82 ?_
                refine W.eq (g2 := F0 m 83 ls [.int (xI σ 11 j5 (y19).toNatClampNeg)]) rfl ?_
                obtain ⟨h8, h9⟩ := Prod.mk.inj (Option.some.inj hf)
                subst h9
                have h8 := Option.some.inj h8
                exact W.iret (pc := 83) hx hb hr (fun t ht hW => ⟨⟨_, (), rfl, h8, by rw [ht]; exact hP, hD, hC⟩, hS.F ht⟩) hS.2.2 dV_inBaseline_83
              · replace hf := ite_t h23 hf
                refine lv_iload (pc := 70) hx hb dV_inBaseline_70 (lv_at hl 0 rfl) ?_
                refine lv_goto (pc := 72) (tgt := 83) hx hb dV_inBaseline_72 rfl ?_
                obtain ⟨h8, h9⟩ := Prod.mk.inj (Option.some.inj hf)
                subst h9
                have h8 := Option.some.inj h8
                exact W.iret (pc := 83) hx hb hr (fun t ht hW => ⟨⟨_, (), rfl, h8, by rw [ht]; exact hP, hD, hC⟩, hS.F ht⟩) hS.2.2 dV_inBaseline_83
            · replace hf := ite_f h22 hf
              exact nomatch hf
      · replace hf := ite_t h17 hf
        refine lv_aload (pc := 29) hx hb dV_inBaseline_29 (lv_at hl 0 rfl) ?_
        obtain ⟨q27, hq27, eq27⟩ := at_1 (ad := ad) (ca := ca) (σ := σ) hm6
        refine va_get (D := (dC, dI)) (cl := kCl) (C := RB) (T := TB) (N := 3) (pc := 31) hx hb hts inB hown hK.1 hP q27 eq27 rfl 2 (by decide) (hts _ wd_432) (fun _ h9 => h9) rfl dV_inBaseline_31 ?_
        obtain ⟨h8, h9⟩ := Prod.mk.inj (Option.some.inj hf)
        subst h9
        have h8 := Option.some.inj h8
        exact W.iret (pc := 34) hx hb hr (fun t ht hW => ⟨⟨_, (), rfl, h8, by rw [ht]; exact hP, hD, hC⟩, hS.F ht⟩) hS.2.2 dV_inBaseline_34
def V_difference_L40 (n : Nat) (kx30 : hT → Int32 → Int32 → Nat → Nat → Int32 → Int32 → Int32 → Int32 → Option ((Option Int32) × hT)) : Nat → hT → Int32 → Int32 → Nat → Nat → Int32 → Int32 → Int32 → Int32 → Option ((Option Int32) × hT)
  | 0, _, _, _, _, _, _, _, _, _ => none
  | k + 1, σ19, p20, p21, j22, j24, p26, p27, p28, p29 => if 8 ≤ p20 then kx30 (σ19) p20 p21 j22 j24 p26 p27 p28 p29 else Option.bind (C_samePiece σ19 (3 * j24 + 2) (3 * j22 + 2) p20) fun y36 => if y36 = 0 then if p21 = p29 then some (some p20, σ19) else V_difference_L40 n kx30 k (σ19) (p20 + 1) (p21 + 1) j22 j24 p26 p27 p28 p29 else V_difference_L40 n kx30 k (σ19) (p20 + 1) p21 j22 j24 p26 p27 p28 p29
def V_difference (n : Nat) (σ : hT) (a1 : Int32) (a2 : Int32) (a3 : Int32) (a4 : Int32) : Option ((Option Int32) × hT) := Option.bind (V_revisionAt σ a1 a2) fun y2 => hq y2 (Option.bind (V_revisionAt σ a1 a3) fun y7 => hq y7 (some (none, σ)) fun j10 => some (none, σ)) fun j5 => Option.bind (V_revisionAt σ a1 a3) fun y14 => hq y14 (some (none, σ)) fun j17 => lt9 (α := hT → Int32 → Int32 → Nat → Nat → Int32 → Int32 → Int32 → Int32 → Option ((Option Int32) × hT)) (fun (σ19 : hT) (p20 : Int32) (p21 : Int32) (j22 : Nat) (j24 : Nat) (p26 : Int32) (p27 : Int32) (p28 : Int32) (p29 : Int32) => some (some (-1), σ19)) fun kx30 => V_difference_L40 n kx30 n (σ) 0 0 j17 j5 a1 a2 a3 a4
set_option maxHeartbeats 4000000 in
set_option maxRecDepth 100000 in
theorem t_V_difference (l : Launch) (dC : Nat → ClassId) (dI : Nat → Nat → Nat) (ad : Nat → Nat → Nat) (ca : Nat → Nat → ClassId) (dom : List (Nat × Nat)) (sz : Nat) (n : Nat) (σ : hT) (a1 : Int32) (a2 : Int32) (a3 : Int32) (a4 : Int32) (hm0 : (0, 0) ∈ dom) (hN : dom.Nodup) (hC : clo dom σ.2.2) (ρ : Int32) (σ' : hT) (hf : V_difference n σ a1 a2 a3 a4 = some (some ρ, σ')) : Met l yV_difference (.code yV_difference cV_difference 9 (some .int) :: aw) ({ frames := 3, cells := 0, slots := 0, locals := 58 }) (hW (dC, dI) sz ad ca dom σ [.ref (ad 0 0), .int a1, .int a2, .int a3, .int a4]) (va_Qi (fun r (_ : Unit) => r = ρ) (fun _ t => hB (dC, dI) (va_A (w9 ad ca dom σ) sz) ad ca dom σ' t) (va_A (w9 ad ca dom σ) sz)) 0 0 (va_A (w9 ad ca dom σ) sz) := by
  refine Met.ofW (cc := cV_difference) (maxL := 9) (ret := (some .int)) (by decide) rfl ?_
  intro p e s m args below meth c s₁ B hml hv
  obtain ⟨rfl, hv⟩ := hv
  have hx := B.exec
  have hb := B.bytes
  have hr := B.returns
  have hts : ∀ w ∈ aw, w.before _ s = true := fun w h => atoms_spec (ws := (.code yV_difference cV_difference 9 (some .int) :: aw)) B.pre w (List.mem_cons_of_mem _ h)
  have hown : s.vm.findClass RV = some m.cls := findClass_of_methodNamed B.named
  have hlocks := B.notSynchronized
  obtain ⟨hsz, hP, hK, hD0, hG⟩ := hv
  subst hsz
  have hD := hD0.self (sz := s.heap.size)
  generalize hAe : va_A (w9 ad ca dom σ) s.heap.size = A at hD ⊢
  have hA : ∀ q : Nat, s.heap.size ≤ q → A q := fun q h => by rw [← hAe]; exact Or.inr h
  obtain ⟨H, hH⟩ : ∃ H, H = s.heap := ⟨_, rfl⟩
  have hS : va_S A s.heap H [] := by rw [hH]; exact va_S.rf
  rw [← hH] at hP ⊢
  unfold V_difference at hf
  have hl := lv_entry ([.ref (ad 0 0), .int a1, .int a2, .int a3, .int a4]) (n := 9) (Nat.le_of_ble_eq_true rfl)
  rw [lg_entry_eq]
  generalize (lg_sl ([.ref (ad 0 0), .int a1, .int a2, .int a3, .int a4]) ++ List.replicate (9 - (lg_sl ([.ref (ad 0 0), .int a1, .int a2, .int a3, .int a4])).length) Slot.unset).toArray = ls at hl ⊢
  have hl : lv_has ls 9 [(0, .ref (ad 0 0)), (1, .int a1), (2, .int a2), (3, .int a3), (4, .int a4)] := hl
  refine lv_aload_n (pc := 0) hx hb dV_difference_0 rfl (lv_at hl 0 rfl) ?_
  refine lv_iload_n (pc := 1) hx hb dV_difference_1 rfl (lv_at hl 1 rfl) ?_
  refine lv_iload_n (pc := 2) hx hb dV_difference_2 rfl (lv_at hl 2 rfl) ?_
  obtain ⟨q1, hq1, eq1⟩ := at_0 (ad := ad) (ca := ca) (σ := σ) hm0
  obtain ⟨y2, hy2, hf⟩ := ob hf
  refine va_cse (pc := 3) (W.runV (As := [.int a1, .int a2]) (rest := []) ⟨hx, hb, hml, hown, hts⟩ (t_V_revisionAt l dC dI ad ca dom σ a1 a2 hm0 hN hC y2 hy2) (cwV 2 hts (gV wd_324 wd_325 wd_326 wd_254 wd_323) rfl rfl rfl (by decide +kernel) ⟨Nat.le_of_ble_eq_true rfl, Nat.le_of_ble_eq_true rfl⟩) ⟨hR_blind, va_recv (q := (RV, TV, 9)) (q0 := q1) (ci := 0) hK.1 hP rfl eq1, hR_pre hP hK hG⟩ rfl rfl hl.1 rfl (lv_room (Nat.le_of_ble_eq_true rfl)) dV_difference_3 ⟨Nat.le_of_ble_eq_true rfl, Nat.le_of_ble_eq_true rfl⟩) (fun r9 hr9 => ?_)
  obtain ⟨hr9, hmy3⟩ := hr9
  refine W.eq (g2 := F0 m 6 ls [va_re (ad 7) y2]) (by rw [hr9]) ?_
  rcases hE4 : y2 with _ | j5
  · replace hf := hq_n hE4 hf
    refine W.eq (g2 := F0 m 6 ls [.null]) rfl ?_
    refine lv_astoreN (pc := 6) hx hb dV_difference_6 hl (by decide) rfl (fun ls hl => ?_)
    have hl : lv_has ls 9 [(5, .null), (0, .ref (ad 0 0)), (1, .int a1), (2, .int a2), (3, .int a3), (4, .int a4)] := hl
    refine lv_aload_n (pc := 8) hx hb dV_difference_8 rfl (lv_at hl 1 rfl) ?_
    refine lv_iload_n (pc := 9) hx hb dV_difference_9 rfl (lv_at hl 2 rfl) ?_
    refine lv_iload_n (pc := 10) hx hb dV_difference_10 rfl (lv_at hl 4 rfl) ?_
    obtain ⟨q6, hq6, eq6⟩ := at_0 (ad := ad) (ca := ca) (σ := σ) hm0
    obtain ⟨y7, hy7, hf⟩ := ob hf
    refine va_cse (pc := 11) (W.runV (As := [.int a1, .int a3]) (rest := []) ⟨hx, hb, hml, hown, hts⟩ (t_V_revisionAt l dC dI ad ca dom σ a1 a3 hm0 hN hC y7 hy7) (cwV 2 hts (gV wd_324 wd_325 wd_326 wd_254 wd_323) rfl rfl rfl (by decide +kernel) ⟨Nat.le_of_ble_eq_true rfl, Nat.le_of_ble_eq_true rfl⟩) ⟨hR_blind, va_recv (q := (RV, TV, 9)) (q0 := q6) (ci := 0) hK.1 hP rfl eq6, hR_pre hP hK hG⟩ rfl rfl hl.1 rfl (lv_room (Nat.le_of_ble_eq_true rfl)) dV_difference_11 ⟨Nat.le_of_ble_eq_true rfl, Nat.le_of_ble_eq_true rfl⟩) (fun r9 hr9 => ?_)
    obtain ⟨hr9, hmy8⟩ := hr9
    refine W.eq (g2 := F0 m 14 ls [va_re (ad 7) y7]) (by rw [hr9]) ?_
    rcases hE9 : y7 with _ | j10
    · replace hf := hq_n hE9 hf
      refine W.eq (g2 := F0 m 14 ls [.null]) rfl ?_
      refine lv_astoreN (pc := 14) hx hb dV_difference_14 hl (by decide) rfl (fun ls hl => ?_)
      have hl : lv_has ls 9 [(6, .null), (5, .null), (0, .ref (ad 0 0)), (1, .int a1), (2, .int a2), (3, .int a3), (4, .int a4)] := hl
      refine lv_aloadN (pc := 16) hx hb dV_difference_16 (lv_at hl 1 rfl) ?_
      refine lv_ifnullN (pc := 18) (tgt := 26) hx hb dV_difference_18 rfl ?_
      exact nomatch hf
    · replace hf := hq_s hE9 hf
      have hm11 : (7, j10) ∈ dom := (hmy8 _ hE9)
      refine W.eq (g2 := F0 m 14 ls [.ref (ad 7 j10)]) rfl ?_
      refine lv_astore (pc := 14) hx hb dV_difference_14 hl (by decide) rfl (fun ls hl => ?_)
      have hl : lv_has ls 9 [(6, .ref (ad 7 j10)), (5, .null), (0, .ref (ad 0 0)), (1, .int a1), (2, .int a2), (3, .int a3), (4, .int a4)] := hl
      refine lv_aloadN (pc := 16) hx hb dV_difference_16 (lv_at hl 1 rfl) ?_
      refine lv_ifnullN (pc := 18) (tgt := 26) hx hb dV_difference_18 rfl ?_
      exact nomatch hf
  · replace hf := hq_s hE4 hf
    have hm12 : (7, j5) ∈ dom := (hmy3 _ hE4)
    refine W.eq (g2 := F0 m 6 ls [.ref (ad 7 j5)]) rfl ?_
    refine lv_astore (pc := 6) hx hb dV_difference_6 hl (by decide) rfl (fun ls hl => ?_)
    have hl : lv_has ls 9 [(5, .ref (ad 7 j5)), (0, .ref (ad 0 0)), (1, .int a1), (2, .int a2), (3, .int a3), (4, .int a4)] := hl
    refine lv_aload_n (pc := 8) hx hb dV_difference_8 rfl (lv_at hl 1 rfl) ?_
    refine lv_iload_n (pc := 9) hx hb dV_difference_9 rfl (lv_at hl 2 rfl) ?_
    refine lv_iload_n (pc := 10) hx hb dV_difference_10 rfl (lv_at hl 4 rfl) ?_
    obtain ⟨q13, hq13, eq13⟩ := at_0 (ad := ad) (ca := ca) (σ := σ) hm0
    obtain ⟨y14, hy14, hf⟩ := ob hf
    refine va_cse (pc := 11) (W.runV (As := [.int a1, .int a3]) (rest := []) ⟨hx, hb, hml, hown, hts⟩ (t_V_revisionAt l dC dI ad ca dom σ a1 a3 hm0 hN hC y14 hy14) (cwV 2 hts (gV wd_324 wd_325 wd_326 wd_254 wd_323) rfl rfl rfl (by decide +kernel) ⟨Nat.le_of_ble_eq_true rfl, Nat.le_of_ble_eq_true rfl⟩) ⟨hR_blind, va_recv (q := (RV, TV, 9)) (q0 := q13) (ci := 0) hK.1 hP rfl eq13, hR_pre hP hK hG⟩ rfl rfl hl.1 rfl (lv_room (Nat.le_of_ble_eq_true rfl)) dV_difference_11 ⟨Nat.le_of_ble_eq_true rfl, Nat.le_of_ble_eq_true rfl⟩) (fun r9 hr9 => ?_)
    obtain ⟨hr9, hmy15⟩ := hr9
    refine W.eq (g2 := F0 m 14 ls [va_re (ad 7) y14]) (by rw [hr9]) ?_
    rcases hE16 : y14 with _ | j17
    · replace hf := hq_n hE16 hf
      refine W.eq (g2 := F0 m 14 ls [.null]) rfl ?_
      refine lv_astoreN (pc := 14) hx hb dV_difference_14 hl (by decide) rfl (fun ls hl => ?_)
      have hl : lv_has ls 9 [(6, .null), (5, .ref (ad 7 j5)), (0, .ref (ad 0 0)), (1, .int a1), (2, .int a2), (3, .int a3), (4, .int a4)] := hl
      refine lv_aload (pc := 16) hx hb dV_difference_16 (lv_at hl 1 rfl) ?_
      refine lv_ifnull (pc := 18) hx hb dV_difference_18 ?_
      refine lv_aloadN (pc := 21) hx hb dV_difference_21 (lv_at hl 0 rfl) ?_
      refine lv_ifnonnullN (pc := 23) hx hb dV_difference_23 ?_
      exact nomatch hf
    · replace hf := hq_s hE16 hf
      have hm18 : (7, j17) ∈ dom := (hmy15 _ hE16)
      refine W.eq (g2 := F0 m 14 ls [.ref (ad 7 j17)]) rfl ?_
      refine lv_astore (pc := 14) hx hb dV_difference_14 hl (by decide) rfl (fun ls hl => ?_)
      have hl : lv_has ls 9 [(6, .ref (ad 7 j17)), (5, .ref (ad 7 j5)), (0, .ref (ad 0 0)), (1, .int a1), (2, .int a2), (3, .int a3), (4, .int a4)] := hl
      refine lv_aload (pc := 16) hx hb dV_difference_16 (lv_at hl 1 rfl) ?_
      refine lv_ifnull (pc := 18) hx hb dV_difference_18 ?_
      refine lv_aload (pc := 21) hx hb dV_difference_21 (lv_at hl 0 rfl) ?_
      refine lv_ifnonnull (pc := 23) (tgt := 34) hx hb dV_difference_23 rfl ?_
      refine lv_iconst (pc := 34) (v := 0) hx hb dV_difference_34 (by decide) ?_
      refine lv_istore (pc := 35) hx hb dV_difference_35 hl (by decide) rfl (fun ls hl => ?_)
      have hl : lv_has ls 9 [(7, .int 0), (6, .ref (ad 7 j17)), (5, .ref (ad 7 j5)), (0, .ref (ad 0 0)), (1, .int a1), (2, .int a2), (3, .int a3), (4, .int a4)] := hl
      refine lv_iconst (pc := 37) (v := 0) hx hb dV_difference_37 (by decide) ?_
      refine lv_istore (pc := 38) hx hb dV_difference_38 hl (by decide) rfl (fun ls hl => ?_)
      have hl : lv_has ls 9 [(8, .int 0), (7, .int 0), (6, .ref (ad 7 j17)), (5, .ref (ad 7 j5)), (0, .ref (ad 0 0)), (1, .int a1), (2, .int a2), (3, .int a3), (4, .int a4)] := hl
      obtain ⟨kx30, hkx30, hf⟩ := lt_9 hf
      refine lpF (τ := (hT) × (Int32) × (Int32) × (Nat) × (Nat) × (Int32) × (Int32) × (Int32) × (Int32) × (Heap) × (List Loc) × (Array Slot)) (fun pc z => W p l e _ s m _ below meth c z.2.2.2.2.2.2.2.2.2.1 z.2.2.2.2.2.2.2.2.2.2.1 0 0 _ (F0 m pc z.2.2.2.2.2.2.2.2.2.2.2 [])) 40 84 (fun z => va_P (dC, dI) kCl (w9 ad ca dom z.1) z.2.2.2.2.2.2.2.2.2.1 ∧ va_D A (w9 ad ca dom z.1) ∧ va_S A s.heap z.2.2.2.2.2.2.2.2.2.1 z.2.2.2.2.2.2.2.2.2.2.1 ∧ clo dom z.1.2.2 ∧ lv_has z.2.2.2.2.2.2.2.2.2.2.2 9 [(8, .int z.2.1), (7, .int z.2.2.1), (6, .ref (ad 7 z.2.2.2.1)), (5, .ref (ad 7 z.2.2.2.2.1)), (0, .ref (ad 0 0)), (1, .int z.2.2.2.2.2.1), (2, .int z.2.2.2.2.2.2.1), (3, .int z.2.2.2.2.2.2.2.1), (4, .int z.2.2.2.2.2.2.2.2.1)] ∧ (7, z.2.2.2.1) ∈ dom ∧ (7, z.2.2.2.2.1) ∈ dom) (fun k z => V_difference_L40 n kx30 k z.1 z.2.1 z.2.2.1 z.2.2.2.1 z.2.2.2.2.1 z.2.2.2.2.2.1 z.2.2.2.2.2.2.1 z.2.2.2.2.2.2.2.1 z.2.2.2.2.2.2.2.2.1) (fun z => kx30 z.1 z.2.1 z.2.2.1 z.2.2.2.1 z.2.2.2.2.1 z.2.2.2.2.2.1 z.2.2.2.2.2.2.1 z.2.2.2.2.2.2.2.1 z.2.2.2.2.2.2.2.2.1) _ (fun z => rfl) ?_ ?_ n (σ, 0, 0, j17, j5, a1, a2, a3, a4, H, _, ls) ⟨hP, hD, hS, hC, hl, hm18, hm12⟩ hf
      · rintro k ⟨σ19, p20, p21, j22, j24, p26, p27, p28, p29, H, locs, ls⟩ ⟨hP, hD, hS, hC, hl, hm23, hm25⟩ hf ih31 hXkx30
        dsimp only at hP hD hS hC hl hm23 hm25 hf ih31 hXkx30 ⊢
        unfold V_difference_L40 at hf
        have hl : lv_has ls 9 [(8, .int p20), (7, .int p21), (6, .ref (ad 7 j22)), (5, .ref (ad 7 j24)), (0, .ref (ad 0 0)), (1, .int p26), (2, .int p27), (3, .int p28), (4, .int p29)] := hl
        refine lv_iload (pc := 40) hx hb dV_difference_40 (lv_at hl 0 rfl) ?_
        refine lv_bipush (pc := 42) (v := 8) hx hb dV_difference_42 (by decide) ?_
        refine lv_icmp_ge (pc := 44) (tgt := 84) hx hb dV_difference_44 rfl (fun h32 => ?_) (fun h32 => ?_)
        · replace hf := ite_t h32 hf
          have hl := lv_sub hl (l' := [(8, .int p20), (7, .int p21), (6, .ref (ad 7 j22)), (5, .ref (ad 7 j24)), (0, .ref (ad 0 0)), (1, .int p26), (2, .int p27), (3, .int p28), (4, .int p29)]) [0, 1, 2, 3, 4, 5, 6, 7, 8] rfl
          exact hXkx30 (σ19, p20, p21, j22, j24, p26, p27, p28, p29, H, _, ls) ⟨hP, hD, hS, hC, hl, hm23, hm25⟩ hf
        · replace hf := ite_f h32 hf
          refine lv_aload (pc := 47) hx hb dV_difference_47 (lv_at hl 3 rfl) ?_
          obtain ⟨q33, hq33, eq33⟩ := at_7 (ad := ad) (ca := ca) (σ := σ19) hm25
          refine va_get (D := (dC, dI)) (cl := kCl) (C := RS) (T := TS) (N := 3) (pc := 49) hx hb hts inS hown hK.1 hP q33 eq33 rfl 0 (by decide) (hts _ wd_345) (fun _ h9 => h9) rfl dV_difference_49 ?_
          refine lv_aload (pc := 52) hx hb dV_difference_52 (lv_at hl 2 rfl) ?_
          obtain ⟨q34, hq34, eq34⟩ := at_7 (ad := ad) (ca := ca) (σ := σ19) hm23
          refine va_get (D := (dC, dI)) (cl := kCl) (C := RS) (T := TS) (N := 3) (pc := 54) hx hb hts inS hown hK.1 hP q34 eq34 rfl 0 (by decide) (hts _ wd_345) (fun _ h9 => h9) rfl dV_difference_54 ?_
          refine lv_iload (pc := 57) hx hb dV_difference_57 (lv_at hl 0 rfl) ?_
          obtain ⟨q35, hq35, eq35⟩ := at_5 (ad := ad) (ca := ca) (σ := σ19) (cm_7_0 hC hm25)
          obtain ⟨y36, hy36, hf⟩ := ob hf
          refine vp_callSi (pc := 59) (W.runV (As := [.ref (ad 5 (3 * j22 + 2)), .int p20]) (rest := []) ⟨hx, hb, hml, hown, hts⟩ (t_C_samePiece l dC dI ad ca dom σ19 (3 * j24 + 2) (3 * j22 + 2) p20 (cm_7_0 hC hm25) (cm_7_0 hC hm23) hN hC y36 hy36) (cwV 2 hts (gV wd_579 wd_580 wd_581 wd_228 wd_578) rfl rfl rfl (by decide +kernel) ⟨Nat.le_of_ble_eq_true rfl, Nat.le_of_ble_eq_true rfl⟩) ⟨hR_blind, va_recv (q := (RC, TC, 5)) (q0 := q35) (ci := 5) hK.1 hP rfl eq35, hR_pre hP hK hG⟩ rfl rfl hl.1 rfl (lv_room (Nat.le_of_ble_eq_true rfl)) dV_difference_59 ⟨Nat.le_of_ble_eq_true rfl, Nat.le_of_ble_eq_true rfl⟩) (fun r9 hr9 => ?_)
          refine W.eq (g2 := F0 m 62 ls [.int y36]) (by rw [hr9]) ?_
          refine lv_if_ne (pc := 62) (tgt := 78) hx hb dV_difference_62 rfl (fun h37 => ?_) (fun h37 => ?_)
          · replace hf := ite_f h37 hf
            refine lv_iinc (pc := 78) (v := (p20 + 1)) hx hb dV_difference_78 hl (k := 0) rfl (by rfl) (by decide) rfl (fun ls hl => ?_)
            have hl : lv_has ls 9 [(8, .int (p20 + 1)), (7, .int p21), (6, .ref (ad 7 j22)), (5, .ref (ad 7 j24)), (0, .ref (ad 0 0)), (1, .int p26), (2, .int p27), (3, .int p28), (4, .int p29)] := hl
            refine lv_goto (pc := 81) (tgt := 40) hx hb dV_difference_81 rfl ?_
            have hl := lv_sub hl (l' := [(8, .int (p20 + 1)), (7, .int p21), (6, .ref (ad 7 j22)), (5, .ref (ad 7 j24)), (0, .ref (ad 0 0)), (1, .int p26), (2, .int p27), (3, .int p28), (4, .int p29)]) [0, 1, 2, 3, 4, 5, 6, 7, 8] rfl
            exact ih31 (σ19, (p20 + 1), p21, j22, j24, p26, p27, p28, p29, H, _, ls) ⟨hP, hD, hS, hC, hl, hm23, hm25⟩ hf
          · replace hf := ite_t h37 hf
            refine lv_iload (pc := 65) hx hb dV_difference_65 (lv_at hl 1 rfl) ?_
            refine lv_iload (pc := 67) hx hb dV_difference_67 (lv_at hl 8 rfl) ?_
            refine lv_icmp_ne (pc := 69) (tgt := 75) hx hb dV_difference_69 rfl (fun h38 => ?_) (fun h38 => ?_)
            · replace hf := ite_f h38 hf
              refine lv_iinc (pc := 75) (v := (p21 + 1)) hx hb dV_difference_75 hl (k := 1) rfl (by rfl) (by decide) rfl (fun ls hl => ?_)
              have hl : lv_has ls 9 [(7, .int (p21 + 1)), (8, .int p20), (6, .ref (ad 7 j22)), (5, .ref (ad 7 j24)), (0, .ref (ad 0 0)), (1, .int p26), (2, .int p27), (3, .int p28), (4, .int p29)] := hl
              refine lv_iinc (pc := 78) (v := (p20 + 1)) hx hb dV_difference_78 hl (k := 1) rfl (by rfl) (by decide) rfl (fun ls hl => ?_)
              have hl : lv_has ls 9 [(8, .int (p20 + 1)), (7, .int (p21 + 1)), (6, .ref (ad 7 j22)), (5, .ref (ad 7 j24)), (0, .ref (ad 0 0)), (1, .int p26), (2, .int p27), (3, .int p28), (4, .int p29)] := hl
              refine lv_goto (pc := 81) (tgt := 40) hx hb dV_difference_81 rfl ?_
              have hl := lv_sub hl (l' := [(8, .int (p20 + 1)), (7, .int (p21 + 1)), (6, .ref (ad 7 j22)), (5, .ref (ad 7 j24)), (0, .ref (ad 0 0)), (1, .int p26), (2, .int p27), (3, .int p28), (4, .int p29)]) [0, 1, 2, 3, 4, 5, 6, 7, 8] rfl
              exact ih31 (σ19, (p20 + 1), (p21 + 1), j22, j24, p26, p27, p28, p29, H, _, ls) ⟨hP, hD, hS, hC, hl, hm23, hm25⟩ hf
            · replace hf := ite_t h38 hf
              refine lv_iload (pc := 72) hx hb dV_difference_72 (lv_at hl 0 rfl) ?_
              obtain ⟨h8, h9⟩ := Prod.mk.inj (Option.some.inj hf)
              subst h9
              have h8 := Option.some.inj h8
              exact W.iret (pc := 74) hx hb hr (fun t ht hW => ⟨⟨_, (), rfl, h8, by rw [ht]; exact hP, hD, hC⟩, hS.F ht⟩) hS.2.2 dV_difference_74
      · rintro ⟨σ19, p20, p21, j22, j24, p26, p27, p28, p29, H, locs, ls⟩ ⟨hP, hD, hS, hC, hl, hm23, hm25⟩ hf
        dsimp only at hP hD hS hC hl hm23 hm25 hf ⊢
        rw [hkx30] at hf
        have hl : lv_has ls 9 [(8, .int p20), (7, .int p21), (6, .ref (ad 7 j22)), (5, .ref (ad 7 j24)), (0, .ref (ad 0 0)), (1, .int p26), (2, .int p27), (3, .int p28), (4, .int p29)] := hl
        refine lv_iconst (pc := 84) (v := (-1)) hx hb dV_difference_84 (by decide) ?_
        obtain ⟨h8, h9⟩ := Prod.mk.inj (Option.some.inj hf)
        subst h9
        have h8 := Option.some.inj h8
        exact W.iret (pc := 85) hx hb hr (fun t ht hW => ⟨⟨_, (), rfl, h8, by rw [ht]; exact hP, hD, hC⟩, hS.F ht⟩) hS.2.2 dV_difference_85
